/-! ===== a law that is kept ===== -/
theorem law_la {n : Nat} {Y : Nat → Nat} (hX : TX n Y) : ∃ (ok : Bool) (p' : Nat) (cs : List Int32),
    (∀ (N : Nat) (c : MM), 15000 ≤ N → CT n Y c → (ok = true → f_Lr_readLaw N c = some (nI 1, cQ c p' cs.length (app (c.1 22) 0 cs))) ∧ (ok = false → ∃ s' g', f_Lr_readLaw N c = some (nI 0, cQ c p' s' g'))) ∧
    (∀ (N q bg : Nat) (μ : MM), 15000 ≤ N → (sh_k q = 21 ∧ q ≠ 355 ∧ q < 1000) → bg + n ≤ sh_n q → sh_n q ≤ 960 → (∀ j, j < n → μ.1 q (bg + j) = (nI (Y j)).toInt8.toInt32) → ∃ μ', f_Mo_goThrough N q (nI bg) (nI n) μ = some μ' ∧ (∀ a, a ≠ 355 → μ'.1 a = μ.1 a) ∧ (∀ j, scr j → μ'.1 355 j = μ.1 355 j) ∧ μ'.2 = μ.2 ∧ μ'.1 355 11 = if ok = true then -nI 1 else nI p') ∧
    (ok = true → cs.length ≤ n ∧ ∀ cd tx, (∀ k, k < cs.length → cd k = cs.getD k 0) → (∀ j, j < n → tx j = (nI (Y j)).toInt8.toInt32) → LA cd (nI cs.length) tx (nI n)) ∧ p' ≤ n := by
  have n9 := hX.1
  obtain ⟨ok, p', cs, W, H1, H2, H3, H4⟩ := law_top (Y := Y) hX
  refine ⟨ok, p', cs, H1, fun N q bg μ hN hq hbg hn ht => ?_, fun hok => ?_, H4⟩
  · obtain ⟨μ', a1, a2, a3, a4, a5, a6⟩ := H2 N q bg μ hN hq hbg hn ht
    refine ⟨μ', a1, a2, a3, a4, ?_⟩
    cases ok with
    | true => rw [if_pos rfl]; exact (a5 rfl).1
    | false => rw [if_neg (by decide)]; exact a6 rfl
  · obtain ⟨h1, h2⟩ := H3 hok
    refine ⟨h1, fun cd tx hcd htx => ⟨fun L => (W L).getD 0, fun N μ h lc L hN hl hlc hO e1 e0 hk hs hL => ?_, fun N μ h L hN h4 hO hk hL => ?_⟩⟩
    · have hW : WP μ h (37 + h) cs.length L := ⟨e1, by omega, rfl, hs, by omega, hL⟩
      obtain ⟨μ', b1, b2, b3⟩ := h2 N N μ h (37 + h) cs.length 0 L hN hO hW (by omega) (fun j hj => by rw [Nat.zero_add, hk j (by omega), hcd j hj]) (by omega)
      refine ⟨μ', ?_, b2, b3⟩
      unfold f_La_worth
      rw [e1, e0, if_neg (fun z => by rw [l_0, nI_ltI (by omega) (by omega)] at z; omega), if_pos ((nI_ltI (by omega) (by omega)).mpr hl), gd_in (by omega) (by omega), nI_clamp (by omega)]
      exact b1
    · obtain ⟨μ', a1, a2, a3, a4, a5, a6⟩ := H2 N 357 (240 * h) μ hN (by decide +kernel) (by show 240 * h + n ≤ 960; omega) (by decide +kernel) (fun j hj => by rw [hk j (by omega), htx j hj])
      exact ⟨μ', a1, (a5 hok).2 L hL, a2, a3, a4⟩
/-! ===== the program's reader, at a place only ===== -/
def cP (c : MM) (p : Nat) : MM := mm_I c 1 2 (nI p)
theorem nI_sur (x : Int32) : ∃ s, nI s = x := ⟨x.toBitVec.toNat, by
  apply Int32.toBitVec_inj.mp
  show BitVec.ofNat 32 x.toBitVec.toNat = x.toBitVec
  simp⟩
theorem cP_Q (c : MM) : ∃ s, ∀ p, cP c p = cQ c p s (c.1 22) := by
  obtain ⟨s, hs⟩ := nI_sur (c.1 21 2)
  refine ⟨s, fun p => ?_⟩
  refine cQ_ext (p := 0) (s := 0) (g := c.1 22) ?_ ?_ ?_ ?_ ?_
  · rfl
  · intro a h1 h2 h3; unfold cP; rw [gI_o h1]
  · unfold cP; rw [gI_o (by decide)]
  · intro j
    unfold cP
    rw [gI_o (by decide)]
    by_cases e : j = 2
    · rw [if_pos e, e, hs]
    · rw [if_neg e]
  · intro j
    unfold cP
    rw [gI_s]
theorem cp_peek {N n p : Nat} {Y : Nat → Nat} {c : MM} (hN : 15000 ≤ N) (hX : TX n Y) (hC : CT n Y c) (hp : p ≤ n) : f_Ta_peek N (cP c p) = some (sg n Y (sk n Y p), cP c (sk n Y p)) := by
  obtain ⟨s, h⟩ := cP_Q c
  rw [h, h, ta_peek hN hX hC hp]
theorem cp_step {N n p : Nat} {Y : Nat → Nat} {c : MM} (hX : TX n Y) (hC : CT n Y c) (hp : p < n) : f_Ta_step N (cP c p) = some (cP c (p + 1)) := by
  obtain ⟨s, h⟩ := cP_Q c
  rw [h, h, ta_step hX hC hp]
theorem cp_accept {N n p v : Nat} {Y : Nat → Nat} {c : MM} (hN : 15000 ≤ N) (hX : TX n Y) (hC : CT n Y c) (hp : p ≤ n) (hv : v < 2 ^ 31) : f_Ta_accept N (nI v) (cP c p) = if sg n Y (sk n Y p) = nI v then some (nI 1, cP c (sk n Y p + 1)) else some (nI 0, cP c (sk n Y p)) := by
  obtain ⟨s, h⟩ := cP_Q c
  rw [h, h, h, ta_accept hN hX hC hp hv]
theorem cP_1 {c : MM} {p a : Nat} (h : a ≠ 1) : (cP c p).1 a = c.1 a := by unfold cP; rw [gI_o h]
theorem cP_p {c : MM} {p : Nat} : (cP c p).1 1 2 = nI p := by unfold cP; rw [gI_s, if_pos rfl]
theorem mm_cP {c : MM} {p a i : Nat} {v : Int32} (h : a ≠ 1) : mm_I (cP c p) a i v = cP (mm_I c a i v) p := by
  unfold cP
  apply Prod.ext
  · funext b j
    rw [gI, gI, gI, gI]
    by_cases e : b = a
    · subst e
      rw [if_pos rfl, if_neg h, if_neg h, if_pos rfl]
    · rw [if_neg e, if_neg e]
  · rfl
theorem CT_w {n : Nat} {Y : Nat → Nat} {c : MM} {a i : Nat} {v : Int32} (hC : CT n Y c) (h1 : a ≠ 1) (h2 : a ≠ 2) : CT n Y (mm_I c a i v) := by
  refine ⟨by rw [gI_o (Ne.symm h1)]; exact hC.1, fun j hj => by rw [gI_o (Ne.symm h2)]; exact hC.2 j hj⟩
theorem mm_mQ {m : MM} {p a i : Nat} {f d v : Int32} (h : a ≠ 355) : mm_I (mQ m p f d) a i v = mQ (mm_I m a i v) p f d := by
  apply mQ_ext
  · rfl
  · intro b hb
    by_cases e : b = a
    · subst e
      funext j
      rw [gI_s, gI_s, mQ_1 h]
    · rw [gI_o e, gI_o e, mQ_1 hb]
  · intro j
    rw [gI_o (Ne.symm h), gI_o (Ne.symm h), mQ_5]
theorem MT_w {n : Nat} {Y : Nat → Nat} {q bg : Nat} {m : MM} {a i : Nat} {v : Int32} (hM : MT n Y q bg m) (h1 : a ≠ 355) (h2 : a ≠ q) : MT n Y q bg (mm_I m a i v) := by
  obtain ⟨g1, g2, g3, g4, g5, g6, g7⟩ := hM
  refine ⟨by rw [gI_o (Ne.symm h1)]; exact g1, by rw [gI_o (Ne.symm h1)]; exact g2, by rw [gI_o (Ne.symm h1)]; exact g3, g4, g5, g6, fun j hj => by rw [gI_o (Ne.symm h2)]; exact g7 j hj⟩
