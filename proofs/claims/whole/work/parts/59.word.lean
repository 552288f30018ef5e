/-! ===== rows of words as they are read ===== -/
def cAdd (q row : Nat) (ink : Int32) (c : MM) (k : Nat) (w : Nat × Nat) : MM := mm_I (mm_I (mm_I (mm_I c (q + 2) (6 * row + k) (nI w.1)) (q + 3) (6 * row + k) (nI w.2)) (q + 4) (6 * row + k) ink) (q + 1) row (nI (k + 1))
def cWs (q row : Nat) (ink : Int32) : MM → Nat → List (Nat × Nat) → MM
  | c, _, [] => c
  | c, k, w :: ws => cWs q row ink (cAdd q row ink c k w) (k + 1) ws
def mAdd (q off : Nat) (m : MM) (k : Nat) (w : Nat × Nat) : MM := mm_I (mm_I m q (off + 1 + 2 * k) (nI w.1)) q (off + 1 + 2 * k + 1) (nI w.2)
def mWs (q off : Nat) : MM → Nat → List (Nat × Nat) → MM
  | m, _, [] => m
  | m, k, w :: ws => mWs q off (mAdd q off m k w) (k + 1) ws
def wOK (w : Nat × Nat) : Prop := w.1 ≤ 2 ∧ (w.1 = 2 → w.2 ≤ 9) ∧ (w.1 < 2 → w.2 < 6)
/-- the program's row of words, its shape -/
def cSh (q row : Nat) : Prop := 9 ≤ q ∧ q < 300 ∧ row < sh_n (q + 1) ∧ sh_n (q + 1) ≤ 100 ∧ 6 * row + 6 ≤ sh_n (q + 2) ∧ 6 * row + 6 ≤ sh_n (q + 3) ∧ 6 * row + 6 ≤ sh_n (q + 4) ∧ sh_n (q + 2) ≤ 1000 ∧ sh_n (q + 3) ≤ 1000 ∧ sh_n (q + 4) ≤ 1000
theorem wo_add {N q row k : Nat} {ink : Int32} {c : MM} {w : Nat × Nat} {p : Nat} (hS : cSh q row) (hk : k < 6) (e : c.1 (q + 1) row = nI k) : f_Wo_add N q (nI row) (nI w.1) (nI w.2) ink (cP c p) = some (1, cP (cAdd q row ink c k w) p) := by
  obtain ⟨h1, h2, h3, h4, h5, h6, h7, h8, h9, h10⟩ := hS
  have hix : nI row * 6 + nI k = nI (6 * row + k) := by
    rw [show nI row * 6 = nI (row * 6) from (Int32.ofNat_mul row 6).symm, nI_add, Nat.mul_comm]
  unfold f_Wo_add
  rw [if_neg (fun z => by rw [l_0, nI_ltI (by omega) (by omega)] at z; omega), if_neg (show ¬ Int32.ofNat (sh_n (q + 1)) ≤ nI row from fun z => by have := (nI_leI (a := sh_n (q + 1)) (by omega) (by omega)).mp z; omega), gd_in h3 (by omega), nI_clamp (by omega), cP_1 (by omega), e, if_pos (show nI k < 6 from (nI_ltI (b := 6) (by omega) (by decide)).mpr hk), gd_in h3 (by omega), hix, gd_in (by omega) (by omega), nI_clamp (by omega), wr_e, mm_cP (by omega), gd_in (by omega) (by omega), wr_e, mm_cP (by omega), gd_in (by omega) (by omega), wr_e, mm_cP (by omega), gd_in h3 (by omega), gd_in h3 (by omega), wr_e, mm_cP (by omega), cP_1 (by omega), gI_o (by omega), gI_o (by omega), gI_o (by omega), e, show nI k + 1 = nI (k + 1) from nI_add k 1]
  rfl
theorem cAdd_k {q row k : Nat} {ink : Int32} {c : MM} {w : Nat × Nat} : (cAdd q row ink c k w).1 (q + 1) row = nI (k + 1) := by
  unfold cAdd; rw [gI_s, if_pos rfl]
theorem CT_add {n : Nat} {Y : Nat → Nat} {q row k : Nat} {ink : Int32} {c : MM} {w : Nat × Nat} (hC : CT n Y c) (hq : 9 ≤ q) : CT n Y (cAdd q row ink c k w) := by
  unfold cAdd
  exact CT_w (CT_w (CT_w (CT_w hC (by omega) (by omega)) (by omega) (by omega)) (by omega) (by omega)) (by omega) (by omega)
theorem MT_add {n : Nat} {Y : Nat → Nat} {q bg qm off k : Nat} {m : MM} {w : Nat × Nat} (hM : MT n Y q bg m) (h1 : qm ≠ 355) (h2 : qm ≠ q) : MT n Y q bg (mAdd qm off m k w) := by
  unfold mAdd
  exact MT_w (MT_w hM h1 h2) h1 h2
theorem mo_begins {N n p : Nat} {Y : Nat → Nat} {μ : MM} (hN : 15000 ≤ N) (hX : TX n Y) : f_Mo_begins N (sg n Y p) μ = some (bI (decide (p < n) && bgN (Y p)), μ) := by
  unfold f_Mo_begins
  rw [mo_spot hN sc_2011, ob_e]
  by_cases hl : p < n
  · rw [sg_v hl, ← sp_11 _ (hX.2 p hl).2, decide_eq_true hl]
    have hlt := (fun j (h : spX 2011 8 (nI (Y p)) = some j) => (sp_some h).1)
    cases h : spX 2011 8 (nI (Y p)) with
    | none => rw [gd_t (by decide)]; rfl
    | some j =>
      have hj := hlt j h
      show gd (zb (if nI j = -1 then (0 : Int32) else 1)) (some ((if nI j = -1 then (0 : Int32) else 1), μ)) = _
      rw [if_neg (nf (by omega)), gd_t (by decide)]; rfl
  · rw [sg_e hl, sp_m1 sc_2011, decide_eq_false hl]
    show gd (zb (if (-1 : Int32) = -1 then (0 : Int32) else 1)) (some ((if (-1 : Int32) = -1 then (0 : Int32) else 1), μ)) = _
    rw [if_pos rfl, gd_t (by decide)]; rfl
def soN (v : Nat) : Nat := if v = 62 then 2 else if v = 45 then 1 else 0
theorem soN_2 {v : Nat} : soN v ≤ 2 := by
  unfold soN
  split
  · omega
  · split <;> omega
theorem words_ok {n : Nat} {Y : Nat → Nat} (hX : TX n Y) : ∀ j k p, k + j = 6 → p ≤ n → ∃ (ok : Bool) (p' : Nat) (ws : List (Nat × Nat)),
    (∀ (N : Nat) (c : MM) (q row fu : Nat) (ink : Int32), 15000 ≤ N → CT n Y c → cSh q row → c.1 (q + 1) row = nI k → j < fu → f_Tr_readWords_L3 N q fu (nI row) ink (nI k) (cP c p) = some (bI ok, cP (cWs q row ink c k ws) p')) ∧
    (∀ (N q bg qm off fu : Nat) (m : MM) (d : Int32), 15000 ≤ N → MT n Y q bg m → qm ≠ 355 → qm ≠ q → off + 13 ≤ sh_n qm → sh_n qm ≤ 1000 → j < fu → (ok = true → f_Mo_readWords_L2 N qm fu (nI off) (nI k) (mQ m p (-nI 1) d) = some (mQ (mm_I (mWs qm off m k ws) qm off (nI (k + ws.length))) p' (-nI 1) d)) ∧ (ok = false → ∃ p'', f_Mo_readWords_L2 N qm fu (nI off) (nI k) (mQ m p (-nI 1) d) = some (mQ (mWs qm off m k ws) p'' (nI p') d))) ∧
    (ok = true → 1 ≤ k + ws.length) ∧ k + ws.length ≤ 6 ∧ (∀ w, w ∈ ws → wOK w) ∧ p ≤ p' ∧ p' ≤ n := by
  have n9 := hX.1
  intro j
  -- no word begins here
  have hnone : ∀ k p, k ≤ 6 → p ≤ n → (decide (sk n Y p < n) && bgN (Y (sk n Y p))) = false → ∃ (ok : Bool) (p' : Nat) (ws : List (Nat × Nat)),
    (∀ (N : Nat) (c : MM) (q row fu : Nat) (ink : Int32), 15000 ≤ N → CT n Y c → cSh q row → c.1 (q + 1) row = nI k → 0 < fu → f_Tr_readWords_L3 N q fu (nI row) ink (nI k) (cP c p) = some (bI ok, cP (cWs q row ink c k ws) p')) ∧
    (∀ (N q bg qm off fu : Nat) (m : MM) (d : Int32), 15000 ≤ N → MT n Y q bg m → qm ≠ 355 → qm ≠ q → off + 13 ≤ sh_n qm → sh_n qm ≤ 1000 → 0 < fu → (ok = true → f_Mo_readWords_L2 N qm fu (nI off) (nI k) (mQ m p (-nI 1) d) = some (mQ (mm_I (mWs qm off m k ws) qm off (nI (k + ws.length))) p' (-nI 1) d)) ∧ (ok = false → ∃ p'', f_Mo_readWords_L2 N qm fu (nI off) (nI k) (mQ m p (-nI 1) d) = some (mQ (mWs qm off m k ws) p'' (nI p') d))) ∧
    (ok = true → 1 ≤ k + ws.length) ∧ k + ws.length ≤ 6 ∧ (∀ w, w ∈ ws → wOK w) ∧ p ≤ p' ∧ p' ≤ n := by
    intro k p hk hp hb
    obtain ⟨s1, s2, s3⟩ := sk_p (Y := Y) hp
    have hss := sk_sk (Y := Y) hp
    generalize hp1 : sk n Y p = p1 at s1 s2 s3 hss hb
    refine ⟨decide (0 < k), p1, [], fun N c q row fu ink hN hC hS e hfu => ?_, fun N q bg qm off fu m d hN hM h1 h2 h3 h4 hfu => ⟨fun h => ?_, fun h => ⟨p1, ?_⟩⟩, fun h => (Nat.le_of_lt_succ (Nat.succ_lt_succ (of_decide_eq_true h)) : 1 ≤ k), by simpa using hk, fun w hw => absurd hw (by simp), s1, s2⟩
    · obtain ⟨fu, rfl⟩ : ∃ z, fu = z + 1 := ⟨fu - 1, by omega⟩
      have h63 : f_Tr_readWords_B63 N q (nI k) (cP c p1) = some (bI (decide (0 < k)), cP c p1) := by
        unfold f_Tr_readWords_B63
        by_cases h0 : 0 < k
        · rw [if_neg (show ¬ nI k ≤ 0 from fun z => by rw [l_0, nI_leI (by omega) (by omega)] at z; omega), gd_t (by decide), decide_eq_true h0]; rfl
        · rw [if_pos (show nI k ≤ 0 from by rw [l_0, nI_leI (by omega) (by omega)]; omega), gd_t (by decide), decide_eq_false h0]; rfl
      rw [f_Tr_readWords_L3, if_neg (show ¬ (6 : Int32) < nI k from fun z => by have := (nI_ltI (a := 6) (by decide) (by omega)).mp z; omega), cp_peek hN hX hC hp, hp1, ob_e]
      show _ = some (bI (decide (0 < k)), cP c p1)
      unfold f_Tr_readWords_B42
      by_cases hl : p1 < n
      · rw [decide_eq_true hl, Bool.true_and] at hb
        have hy := hX.2 p1 hl
        unfold bgN at hb
        simp only [Bool.or_eq_false_iff, decide_eq_false_iff_not, Bool.and_eq_false_iff] at hb
        rw [sg_v hl, if_neg (show ¬ nI (Y p1) = 62 from fun z => hb.1.1 ((nI_eq (b := 62) (by omega) (by decide)).mp z)), if_neg (show ¬ nI (Y p1) = 45 from fun z => hb.1.2 ((nI_eq (b := 45) (by omega) (by decide)).mp z)), if_pos rfl]
        by_cases c1 : nI (Y p1) < 97
        · rw [if_pos c1, h63]
        · rw [if_neg c1, if_neg (show ¬ nI (Y p1) ≤ 102 from fun z => by
            have z1 := (nI_leI (b := 102) (by omega) (by decide)).mp z
            have z2 : ¬ Y p1 < 97 := fun q => c1 ((nI_ltI (b := 97) (by omega) (by decide)).mpr q)
            omega), h63]
      · rw [sg_e hl, if_neg (show ¬ -nI 1 = (62 : Int32) by decide), if_neg (show ¬ -nI 1 = (45 : Int32) by decide), if_pos rfl, if_pos (show -nI 1 < (97 : Int32) by decide), h63]
    · obtain ⟨fu, rfl⟩ : ∃ z, fu = z + 1 := ⟨fu - 1, by omega⟩
      have h0 : 0 < k := by simpa using h
      rw [f_Mo_readWords_L2, if_neg (show ¬ nI k = 0 from fun z => by have := (nI_eq (b := 0) (by omega) (by decide)).mp z; omega), mo_look hN hX hM hp, hp1, ob_e, mo_begins hN hX, hb, ob_e, if_pos (show bI false = 0 from rfl), gd_in (by omega) (by omega), nI_clamp (by omega), wr_e, mm_mQ h1]; rfl
    · obtain ⟨fu, rfl⟩ : ∃ z, fu = z + 1 := ⟨fu - 1, by omega⟩
      have h0 : k = 0 := by simpa using h
      subst h0
      rw [f_Mo_readWords_L2, if_pos (show nI 0 = 0 from rfl)]
      unfold f_Mo_readWords_B16 f_Mo_readWords_B32
      rw [if_neg (by decide), mo_look hN hX hM hp, hp1, ob_e, mo_begins hN hX, hb, ob_e, if_pos (show bI false = 0 from rfl), mo_fails, ob_e]; rfl
  -- a word begins here
  have hbg : ∀ p1, (decide (p1 < n) && bgN (Y p1)) = true → p1 < n ∧ sg n Y p1 = nI (Y p1) ∧ soN (Y p1) ≤ 2 ∧
      (∀ (N q : Nat) (k3 : Int32 → Int32 → Int32 → MM → Option (Int32 × MM)) (x2 x3 x4 : Int32) (μ : MM), f_Tr_readWords_B42 N q k3 x2 x3 x4 (nI (Y p1)) (if nI (Y p1) = 62 then (2 : Int32) else (if nI (Y p1) = 45 then (1 : Int32) else 0)) μ = f_Tr_readWords_B74 N q k3 x2 x3 x4 (nI (soN (Y p1))) μ) ∧
      (if nI (Y p1) = 45 then (1 : Int32) else (if nI (Y p1) = 62 then (2 : Int32) else 0)) = nI (soN (Y p1)) := fun p1 hb => by
    simp only [Bool.and_eq_true, decide_eq_true_eq] at hb
    obtain ⟨hl, hb⟩ := hb
    have hy := hX.2 p1 hl
    have e62 : nI (Y p1) = 62 ↔ Y p1 = 62 := nI_eq (b := 62) (by omega) (by decide)
    have e45 : nI (Y p1) = 45 ↔ Y p1 = 45 := nI_eq (b := 45) (by omega) (by decide)
    unfold bgN at hb
    simp only [Bool.or_eq_true, Bool.and_eq_true, decide_eq_true_eq] at hb
    refine ⟨hl, sg_v hl, soN_2, fun N q k3 x2 x3 x4 μ => ?_, ?_⟩
    · unfold f_Tr_readWords_B42 soN
      by_cases c1 : Y p1 = 62
      · rw [if_pos (e62.mpr c1), if_pos c1, if_neg (by decide)]; rfl
      · rw [if_neg (fun z => c1 (e62.mp z)), if_neg c1]
        by_cases c2 : Y p1 = 45
        · rw [if_pos (e45.mpr c2), if_pos c2, if_neg (by decide)]; rfl
        · rw [if_neg (fun z => c2 (e45.mp z)), if_neg c2, if_pos rfl, if_neg (show ¬ nI (Y p1) < 97 from fun z => by have := (nI_ltI (b := 97) (by omega) (by decide)).mp z; omega), if_pos (show nI (Y p1) ≤ 102 from (nI_leI (b := 102) (by omega) (by decide)).mpr (by omega))]; rfl
    · unfold soN
      by_cases c1 : Y p1 = 62
      · rw [if_neg (fun z => by have := e45.mp z; omega), if_pos (e62.mpr c1), if_pos c1]; rfl
      · by_cases c2 : Y p1 = 45
        · rw [if_pos (e45.mpr c2), if_neg c1, if_pos c2]; rfl
        · rw [if_neg (fun z => c2 (e45.mp z)), if_neg (fun z => c1 (e62.mp z)), if_neg c1, if_neg c2]; rfl
  induction j with
  | zero =>
    intro k p hk hp
    cases hb : (decide (sk n Y p < n) && bgN (Y (sk n Y p))) with
    | false => exact hnone k p (by omega) hp hb
    | true =>
      obtain ⟨s1, s2, s3⟩ := sk_p (Y := Y) hp
      generalize hp1 : sk n Y p = p1 at s1 s2 s3 hb
      obtain ⟨b1, b2, b3, b4, b5⟩ := hbg p1 hb
      have hk6 : k = 6 := by omega
      subst hk6
      refine ⟨false, p1, [], fun N c q row fu ink hN hC hS e hfu => ?_, fun N q bg qm off fu m d hN hM h1 h2 h3 h4 hfu => ⟨fun h => (by cases h), fun h => ⟨p1, ?_⟩⟩, fun h => (by cases h), by decide, fun w hw => absurd hw (by simp), s1, s2⟩
      · obtain ⟨fu, rfl⟩ : ∃ z, fu = z + 1 := ⟨fu - 1, by omega⟩
        rw [f_Tr_readWords_L3, if_neg (by decide), cp_peek hN hX hC hp, hp1, ob_e, b2, b4]
        unfold f_Tr_readWords_B74
        rw [if_pos (show nI 6 = 6 from rfl)]; rfl
      · obtain ⟨fu, rfl⟩ : ∃ z, fu = z + 1 := ⟨fu - 1, by omega⟩
        rw [f_Mo_readWords_L2, if_neg (by decide), mo_look hN hX hM hp, hp1, ob_e, mo_begins hN hX, hb, ob_e, if_neg (by decide)]
        unfold f_Mo_readWords_B16 f_Mo_readWords_B32
        rw [if_pos (show nI 6 = 6 from rfl), mo_fails, ob_e]; rfl
  | succ j ih =>
    intro k p hk hp
    cases hb : (decide (sk n Y p < n) && bgN (Y (sk n Y p))) with
    | false =>
      obtain ⟨ok, p', ws, a1, a2, a3⟩ := hnone k p (by omega) hp hb
      exact ⟨ok, p', ws, fun N c q row fu ink hN hC hS e hfu => a1 N c q row fu ink hN hC hS e (by omega), fun N q bg qm off fu m d hN hM h1 h2 h3 h4 hfu => a2 N q bg qm off fu m d hN hM h1 h2 h3 h4 (by omega), a3⟩
    | true =>
      obtain ⟨s1, s2, s3⟩ := sk_p (Y := Y) hp
      have hss := sk_sk (Y := Y) hp
      generalize hp1 : sk n Y p = p1 at s1 s2 s3 hb hss
      obtain ⟨b1, b2, b3, b4, b5⟩ := hbg p1 hb
      generalize hso : soN (Y p1) = so at b3 b4 b5
      -- the place behind the sign
      obtain ⟨pp, hpp, pp1, pp2⟩ : ∃ pp, pp = (if so = 0 then p1 else p1 + 1) ∧ p1 ≤ pp ∧ pp ≤ n := ⟨_, rfl, by split <;> omega, by split <;> omega⟩
      obtain ⟨u1, u2, u3⟩ := sk_p (Y := Y) pp2
      generalize hpa : sk n Y pp = pa at u1 u2 u3
      have so0 : nI so = 0 ↔ so = 0 := nI_eq (b := 0) (by omega) (by decide)
      have hcl : ∀ (N : Nat) (c : MM) (q row fu : Nat) (ink : Int32), 15000 ≤ N → CT n Y c → f_Tr_readWords_L3 N q (fu + 1) (nI row) ink (nI k) (cP c p) = ob (match avN n Y so pa with | none => some (-1, cP c pa) | some a => some (nI a, cP c (pa + 1))) fun t98 μ2z => (if t98 = (-1) then (some (0, μ2z)) else (ob (f_Wo_add N q (nI row) (nI so) t98 ink μ2z) fun t116 μ3z => (if t116 = 0 then (some (0, μ3z)) else (f_Tr_readWords_L3 N q fu (nI row) ink (nI (k + 1)) μ3z)))) := fun N c q row fu ink hN hC => by
        have h95 : f_Tr_readWords_B74 N q (f_Tr_readWords_L3 N q fu) (nI row) ink (nI k) (nI so) (cP c p1) = f_Tr_readWords_B95 N q (f_Tr_readWords_L3 N q fu) (nI row) ink (nI k) (nI so) (cP c pp) := by
          unfold f_Tr_readWords_B74
          rw [if_neg (show ¬ nI k = 6 from fun z => by have := (nI_eq (b := 6) (by omega) (by decide)).mp z; omega)]
          by_cases h0 : so = 0
          · rw [if_pos (so0.mpr h0), hpp, if_pos h0]
          · rw [if_neg (fun z => h0 (so0.mp z)), cp_step hX hC b1, obv_e, hpp, if_neg h0]
        rw [f_Tr_readWords_L3, if_neg (show ¬ (6 : Int32) < nI k from fun z => by have := (nI_ltI (a := 6) (by decide) (by omega)).mp z; omega), cp_peek hN hX hC hp, hp1, ob_e, b2, b4, h95]
        unfold f_Tr_readWords_B95
        rw [ab_c hN hX hC pp2 b3, hpa, show nI k + 1 = nI (k + 1) from nI_add k 1]
        rfl
      have hmo : ∀ (N q bg qm off fu : Nat) (m : MM) (d : Int32), 15000 ≤ N → MT n Y q bg m → qm ≠ 355 → qm ≠ q → off + 13 ≤ sh_n qm → sh_n qm ≤ 1000 → f_Mo_readWords_L2 N qm (fu + 1) (nI off) (nI k) (mQ m p (-nI 1) d) = obv (match avN n Y so pa with | none => some (mQ m pa (nI pa) d) | some a => some (mQ (mAdd qm off m k (so, a)) (pa + 1) (-nI 1) d)) fun μ4z => (if (μ4z.1 355 11) = (-1) then (f_Mo_readWords_L2 N qm fu (nI off) (nI (k + 1)) μ4z) else (some μ4z)) := fun N q bg qm off fu m d hN hM h1 h2 h3 h4 => by
        have h43 : ∀ x, x + 1 < sh_n qm → f_Mo_readWord N qm (nI x) (mQ m p1 (-nI 1) d) = f_Mo_readWord_B43 N qm (nI x) (nI so) (mQ m pp (-nI 1) d) := fun x hx => by
          unfold f_Mo_readWord
          rw [mo_look hN hX hM s2, hss, ob_e, b2, b5]
          unfold f_Mo_readWord_B26
          by_cases h0 : so = 0
          · rw [if_pos (show nI so ≤ 0 by rw [h0]; decide), hpp, if_pos h0]
          · rw [if_neg (show ¬ nI so ≤ 0 from fun z => by rw [l_0, nI_leI (by omega) (by omega)] at z; omega), wr_e, mQ_10, show nI p1 + 1 = nI (p1 + 1) from nI_add p1 1, mQ_p, hpp, if_neg h0]
        have hix : nI off + 1 + 2 * nI k = nI (off + 1 + 2 * k) := by
          rw [show 2 * nI k = nI (2 * k) from (Int32.ofNat_mul 2 k).symm, show nI off + 1 = nI (off + 1) from nI_add off 1, nI_add]
        have h16 : ∀ p9, p9 ≤ n → sk n Y p9 = p1 → f_Mo_readWords_B16 N qm (f_Mo_readWords_L2 N qm fu) (nI off) (nI k) (mQ m p9 (-nI 1) d) = obv (match avN n Y so pa with | none => some (mQ m pa (nI pa) d) | some a => some (mQ (mAdd qm off m k (so, a)) (pa + 1) (-nI 1) d)) fun μ4z => (if (μ4z.1 355 11) = (-1) then (f_Mo_readWords_L2 N qm fu (nI off) (nI (k + 1)) μ4z) else (some μ4z)) := fun p9 h9 e9 => by
          unfold f_Mo_readWords_B16
          rw [if_neg (show ¬ nI k = 6 from fun z => by have := (nI_eq (b := 6) (by omega) (by decide)).mp z; omega), mo_look hN hX hM h9, e9, ob_e, mo_begins hN hX, hb, ob_e, if_neg (by decide), hix, h43 _ (by omega), ab_m hN hX hM pp2 b3 h1 (by omega) h4, hpa, show nI k + 1 = nI (k + 1) from nI_add k 1]
          rfl
        rw [f_Mo_readWords_L2]
        by_cases hk0 : nI k = 0
        · rw [if_pos hk0, h16 p hp hp1]
        · rw [if_neg hk0, mo_look hN hX hM hp, hp1, ob_e, mo_begins hN hX, hb, ob_e, if_neg (by decide), h16 p1 s2 hss]
      cases hav : avN n Y so pa with
      | none =>
        refine ⟨false, pa, [], fun N c q row fu ink hN hC hS e hfu => ?_, fun N q bg qm off fu m d hN hM h1 h2 h3 h4 hfu => ⟨fun h => (by cases h), fun h => ⟨pa, ?_⟩⟩, fun h => (by cases h), by show k + 0 ≤ 6; omega, fun w hw => absurd hw (by simp), by omega, u2⟩
        · obtain ⟨fu, rfl⟩ : ∃ z, fu = z + 1 := ⟨fu - 1, by omega⟩
          rw [hcl N c q row fu ink hN hC, hav]
          rfl
        · obtain ⟨fu, rfl⟩ : ∃ z, fu = z + 1 := ⟨fu - 1, by omega⟩
          rw [hmo N q bg qm off fu m d hN hM h1 h2 h3 h4, hav]
          show (if (mQ m pa (nI pa) d).1 355 11 = -1 then _ else some (mQ m pa (nI pa) d)) = _
          rw [mQ_11, if_neg (nf (by omega))]; rfl
      | some a =>
        have hpl : pa < n ∧ wOK (so, a) := by
          unfold avN at hav
          by_cases hl : pa < n
          · refine ⟨hl, b3, fun h2 => ?_, fun h2 => ?_⟩
            · have h2' : so = 2 := h2
              rw [if_pos hl, if_pos h2'] at hav
              by_cases hd : 48 ≤ Y pa ∧ Y pa ≤ 57
              · rw [if_pos hd] at hav
                have := Option.some.inj hav
                show a ≤ 9; omega
              · rw [if_neg hd] at hav; cases hav
            · have h2' : so < 2 := h2
              rw [if_pos hl, if_neg (by omega)] at hav
              unfold ltN at hav
              by_cases hd : 97 ≤ Y pa ∧ Y pa ≤ 102
              · rw [if_pos hd] at hav
                have := Option.some.inj hav
                show a < 6; omega
              · rw [if_neg hd] at hav; cases hav
          · rw [if_neg hl] at hav; cases hav
        have ha : a < 256 := by
          have h := hpl.2
          by_cases h2 : so = 2
          · have := h.2.1 h2; have : a ≤ 9 := this; omega
          · have := h.2.2 (show so < 2 by omega); have : a < 6 := this; omega
        obtain ⟨ok, p', ws, R1, R2, R3, R4, R5, R6, R7⟩ := ih (k + 1) (pa + 1) (by omega) (by omega)
        have hlen : k + ((so, a) :: ws).length = k + 1 + ws.length := by simp; omega
        refine ⟨ok, p', (so, a) :: ws, fun N c q row fu ink hN hC hS e hfu => ?_, fun N q bg qm off fu m d hN hM h1 h2 h3 h4 hfu => ?_, fun h => by rw [hlen]; exact R3 h, by rw [hlen]; exact R4, fun w hw => ?_, by omega, R7⟩
        · obtain ⟨fu, rfl⟩ : ∃ z, fu = z + 1 := ⟨fu - 1, by omega⟩
          rw [hcl N c q row fu ink hN hC, hav]
          show (if nI a = -1 then _ else _) = _
          rw [if_neg (nf (by omega)), wo_add (w := (so, a)) hS (by omega) e, ob_e, if_neg (by decide), R1 N (cAdd q row ink c k (so, a)) q row fu ink hN (CT_add hC hS.1) hS cAdd_k (by omega)]
          rfl
        · obtain ⟨fu, rfl⟩ : ∃ z, fu = z + 1 := ⟨fu - 1, by omega⟩
          have h0 : f_Mo_readWords_L2 N qm (fu + 1) (nI off) (nI k) (mQ m p (-nI 1) d) = f_Mo_readWords_L2 N qm fu (nI off) (nI (k + 1)) (mQ (mAdd qm off m k (so, a)) (pa + 1) (-nI 1) d) := by
            rw [hmo N q bg qm off fu m d hN hM h1 h2 h3 h4, hav]
            exact if_pos (e := some (mQ (mAdd qm off m k (so, a)) (pa + 1) (-nI 1) d)) (show (mQ (mAdd qm off m k (so, a)) (pa + 1) (-nI 1) d).1 355 11 = -1 by rw [mQ_11]; rfl)
          rw [h0, hlen]
          exact R2 N q bg qm off fu (mAdd qm off m k (so, a)) d hN (MT_add hM h1 h2) h1 h2 h3 h4 (by omega)
        · rcases List.mem_cons.mp hw with h | h
          · rw [h]; exact hpl.2
          · exact R5 w h
