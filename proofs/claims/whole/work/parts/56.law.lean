/-! ===== a law from its tape ===== -/
theorem app_o {cs : List Int32} : ∀ {g : Nat → Int32} {s k : Nat}, k < s → app g s cs k = g k := by
  induction cs with
  | nil => intro g s k _; rfl
  | cons x cs ih =>
    intro g s k hk
    show app (upg g s x) (s + 1) cs k = g k
    rw [ih (by omega)]
    unfold upg
    rw [if_neg (by omega)]
theorem app_get {cs : List Int32} : ∀ {g : Nat → Int32} {s k : Nat}, k < cs.length → app g s cs (s + k) = cs.getD k 0 := by
  induction cs with
  | nil => intro g s k hk; exact absurd hk (by simp)
  | cons x cs ih =>
    intro g s k hk
    show app (upg g s x) (s + 1) cs (s + k) = _
    cases k with
    | zero =>
      rw [app_o (by omega)]
      unfold upg
      rw [Nat.add_zero, if_pos rfl]; rfl
    | succ k =>
      rw [show s + (k + 1) = s + 1 + k by omega, ih (by simpa using hk)]; rfl
def m1S (q : Nat) (bg n : Nat) (μ : MM) : MM := mm_I (mm_I (mm_I (mm_I μ 355 5 (nI q)) 355 8 (nI bg)) 355 9 (nI n)) 355 13 (nI 121)
theorem gt_0 {N q bg n : Nat} {μ : MM} : f_Mo_goThrough N q (nI bg) (nI n) μ = obv (f_Mo_clause N (mQ (mF (m1S q bg n μ) 0 0) 0 (-nI 1) (nI 0))) (fun μ => f_Mo_goThrough_L32 N q N μ) := by
  unfold f_Mo_goThrough f_Mo_starts
  rw [wr_e, wr_e, wr_e, wr_e, wr_e, obv_e, wr_e, wr_e, wr_e, wr_e]
  refine congrArg (fun x => obv (f_Mo_clause N x) _) ?_
  apply mQ_ext
  · rfl
  · intro a ha
    unfold m1S
    rw [mF_1 ha]
    simp only [gI_o ha]
  · intro j
    unfold m1S
    rw [mF_5]
    simp only [gI_s]
    (repeat' split) <;> first | rfl | omega
theorem m1S_5 {q bg n : Nat} {μ : MM} (j : Nat) : (m1S q bg n μ).1 355 j = if j = 13 then nI 121 else if j = 9 then nI n else if j = 8 then nI bg else if j = 5 then nI q else μ.1 355 j := by
  unfold m1S
  simp only [gI_s]
theorem m1S_1 {q bg n : Nat} {μ : MM} {a : Nat} (ha : a ≠ 355) : (m1S q bg n μ).1 a = μ.1 a := by
  unfold m1S
  simp only [gI_o ha]
theorem law_top {n : Nat} {Y : Nat → Nat} (hX : TX n Y) : ∃ (ok : Bool) (p' : Nat) (cs : List Int32) (W : (Nat → Int32) → Option Int32),
    (∀ (N : Nat) (c : MM), 15000 ≤ N → CT n Y c → (ok = true → f_Lr_readLaw N c = some (nI 1, cQ c p' cs.length (app (c.1 22) 0 cs))) ∧ (ok = false → ∃ s' g', f_Lr_readLaw N c = some (nI 0, cQ c p' s' g'))) ∧
    (∀ (N q bg : Nat) (μ : MM), 15000 ≤ N → (sh_k q = 21 ∧ q ≠ 355 ∧ q < 1000) → bg + n ≤ sh_n q → sh_n q ≤ 960 → (∀ j, j < n → μ.1 q (bg + j) = (nI (Y j)).toInt8.toInt32) → ∃ μ', f_Mo_goThrough N q (nI bg) (nI n) μ = some μ' ∧ (∀ a, a ≠ 355 → μ'.1 a = μ.1 a) ∧ (∀ j, scr j → μ'.1 355 j = μ.1 355 j) ∧ μ'.2 = μ.2 ∧ (ok = true → μ'.1 355 11 = -nI 1 ∧ ∀ L, (∀ i, i < 6 → μ.1 359 (ltC i) = L i) → μ'.1 355 14 = (W L).getD 0) ∧ (ok = false → μ'.1 355 11 = nI p')) ∧
    (ok = true → cs.length ≤ n ∧ LEV cs W) ∧ p' ≤ n := by
  have n9 := hX.1
  obtain ⟨ok, p', cs, W, H1, H2, H3, H4⟩ := law_from (Y := Y) hX n 0 (by omega) (by omega)
  refine ⟨ok, p', cs, W, fun N c hN hC => ?_, fun N q bg μ hN hq hbg hn ht => ?_, fun h => ⟨by have := (H3 h).2.1; omega, (H3 h).2.2⟩, H4⟩
  · have e0 : f_Lr_readLaw N c = f_Lr_readLaw_L14 N N (nI 0) (cQ c 0 0 (c.1 22)) := by
      unfold f_Lr_readLaw f_Ta_rewind
      rw [wr_e, obv_e, wr_e]
      refine congrArg (f_Lr_readLaw_L14 N N (nI 0)) ?_
      refine cQ_ext (p := 0) (s := 0) (g := c.1 22) ?_ ?_ ?_ ?_ ?_
      · rfl
      · intro a h1 h2 h3; rw [gI_o h2, gI_o h1]
      · rw [gI_o (by decide), gI_o (by decide)]
      · intro j
        rw [gI_s]
        by_cases e : j = 2
        · rw [if_pos e, if_pos e]; rfl
        · rw [if_neg e, if_neg e, gI_o (by decide)]
      · intro j
        rw [gI_o (by decide), gI_s]
        by_cases e : j = 2
        · rw [if_pos e, if_pos e]; rfl
        · rw [if_neg e, if_neg e]
    obtain ⟨h1, h2⟩ := H1 N c 0 (c.1 22) N 0 hN hC (by omega) (by omega) (by omega)
    rw [e0]
    refine ⟨fun h => ?_, h2⟩
    rw [h1 h, Nat.zero_add]
  · have hM : MT n Y q bg (m1S q bg n μ) := ⟨by rw [m1S_5]; rfl, by rw [m1S_5]; rfl, by rw [m1S_5]; rfl, hq, hbg, hn, fun j hj => by rw [m1S_1 hq.2.1]; exact ht j hj⟩
    have hscr : ∀ (h v : Int32) (p : Nat) (f d : Int32) (j : Nat), scr j → (mQ (mF (m1S q bg n μ) h v) p f d).1 355 j = μ.1 355 j := fun h v p f d j hj => by
      rw [mQ_5, mF_5, m1S_5]
      have hj' : ¬ j = 12 ∧ ¬ j = 11 ∧ ¬ j = 10 ∧ ¬ j = 14 ∧ ¬ j = 17 ∧ ¬ j = 13 ∧ ¬ j = 9 ∧ ¬ j = 8 ∧ ¬ j = 5 := by unfold scr at hj; omega
      obtain ⟨j1, j2, j3, j4, j5, j6, j7, j8, j9⟩ := hj'
      rw [if_neg j1, if_neg j2, if_neg j3, if_neg j4, if_neg j5, if_neg j6, if_neg j7, if_neg j8, if_neg j9]
    obtain ⟨h1, h2⟩ := H2 N q bg (m1S q bg n μ) (fun i => μ.1 359 (ltC i)) q N 0 0 hN hM (fun i hi => by rw [m1S_1 (by decide)]) (by rw [m1S_5]; rfl) (by omega)
    rw [gt_0]
    cases ok with
    | true =>
      obtain ⟨h', e⟩ := h1 rfl
      refine ⟨_, e, fun a ha => by rw [mQ_1 ha, mF_1 ha, m1S_1 ha], hscr _ _ _ _ _, rfl, fun _ => ⟨mQ_11, fun L hL => ?_⟩, fun e => (by cases e)⟩
      obtain ⟨h3, -⟩ := H2 N q bg (m1S q bg n μ) L q N 0 0 hN hM (fun i hi => by rw [m1S_1 (by decide)]; exact hL i hi) (by rw [m1S_5]; rfl) (by omega)
      obtain ⟨h'', e2⟩ := h3 rfl
      have e3 := Option.some.inj (e.symm.trans e2)
      rw [e3, mQ_5, if_neg (by decide), if_neg (by decide), if_neg (by decide), mF_5, if_pos rfl, if_pos rfl]
    | false =>
      obtain ⟨h', v', p'', x, e⟩ := h2 rfl
      exact ⟨_, e, fun a ha => by rw [mQ_1 ha, mF_1 ha, m1S_1 ha], hscr _ _ _ _ _, rfl, fun e => (by cases e), fun _ => mQ_11⟩
