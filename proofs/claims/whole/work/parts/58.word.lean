/-! ===== words as they are read ===== -/
def ltN (v : Nat) : Option Nat := if 97 ≤ v ∧ v ≤ 102 then some (v - 97) else none
theorem sp_9 : ∀ v, v < 256 → spX 2009 6 (nI v) = ltN v := by decide +kernel
def bgN (v : Nat) : Bool := decide (v = 62) || decide (v = 45) || (decide (97 ≤ v) && decide (v ≤ 102))
theorem sp_11 : ∀ v, v < 256 → (spX 2011 8 (nI v)).isSome = bgN v := by decide +kernel
def avN (n : Nat) (Y : Nat → Nat) (s p : Nat) : Option Nat := if p < n then (if s = 2 then (if 48 ≤ Y p ∧ Y p ≤ 57 then some (Y p - 48) else none) else ltN (Y p)) else none
theorem sg_v {n : Nat} {Y : Nat → Nat} {p : Nat} (h : p < n) : sg n Y p = nI (Y p) := by unfold sg; rw [if_pos h]
theorem sg_e {n : Nat} {Y : Nat → Nat} {p : Nat} (h : ¬ p < n) : sg n Y p = -nI 1 := by unfold sg; rw [if_neg h]
theorem ab_c {N n p s : Nat} {Y : Nat → Nat} {c : MM} (hN : 15000 ≤ N) (hX : TX n Y) (hC : CT n Y c) (hp : p ≤ n) (hs : s ≤ 2) : f_Tr_readAbout N (nI s) (cP c p) = match avN n Y s (sk n Y p) with | none => some (-1, cP c (sk n Y p)) | some a => some (nI a, cP c (sk n Y p + 1)) := by
  obtain ⟨s1, s2, s3⟩ := sk_p (Y := Y) hp
  generalize hp1 : sk n Y p = p1 at s1 s2 s3
  have n9 := hX.1
  have h2 : nI s = 2 ↔ s = 2 := nI_eq (a := s) (b := 2) (by omega) (by decide)
  unfold f_Tr_readAbout f_Tr_readAbout_B12 f_Tr_readAbout_B25
  rw [cp_peek hN hX hC hp, hp1, ob_e]
  unfold avN
  by_cases hl : p1 < n
  · have hy := hX.2 p1 hl
    rw [sg_v hl, if_pos hl, cp_step hX hC hl, obv_e]
    by_cases e2 : s = 2
    · rw [if_pos e2, if_pos (h2.mpr e2), if_pos (h2.mpr e2)]
      by_cases c1 : 48 ≤ Y p1
      · rw [if_neg (show ¬ nI (Y p1) < 48 from fun z => by have := (nI_ltI (b := 48) (by omega) (by decide)).mp z; omega)]
        by_cases c2 : Y p1 ≤ 57
        · rw [if_pos (show nI (Y p1) ≤ 57 from (nI_leI (b := 57) (by omega) (by decide)).mpr c2), if_pos ⟨c1, c2⟩, show nI (Y p1) - 48 = nI (Y p1 - 48) from pk_sub (b := 48) (by omega)]
        · rw [if_neg (show ¬ nI (Y p1) ≤ 57 from fun z => by have := (nI_leI (b := 57) (by omega) (by decide)).mp z; omega), if_neg (fun z => c2 z.2)]
      · rw [if_pos (show nI (Y p1) < 48 from (nI_ltI (b := 48) (by omega) (by decide)).mpr (by omega)), if_neg (fun z => c1 z.1)]
    · rw [if_neg e2, if_neg (fun z => e2 (h2.mp z)), if_neg (fun z => e2 (h2.mp z))]
      unfold ltN
      by_cases c1 : 97 ≤ Y p1
      · rw [if_neg (show ¬ nI (Y p1) < 97 from fun z => by have := (nI_ltI (b := 97) (by omega) (by decide)).mp z; omega)]
        by_cases c2 : Y p1 ≤ 102
        · rw [if_pos (show nI (Y p1) ≤ 102 from (nI_leI (b := 102) (by omega) (by decide)).mpr c2), if_pos ⟨c1, c2⟩, show nI (Y p1) - 97 = nI (Y p1 - 97) from pk_sub (b := 97) (by omega)]
        · rw [if_neg (show ¬ nI (Y p1) ≤ 102 from fun z => by have := (nI_leI (b := 102) (by omega) (by decide)).mp z; omega), if_neg (fun z => c2 z.2)]
      · rw [if_pos (show nI (Y p1) < 97 from (nI_ltI (b := 97) (by omega) (by decide)).mpr (by omega)), if_neg (fun z => c1 z.1)]
  · rw [sg_e hl, if_neg hl, if_pos (show (-nI 1) < (if nI s = 2 then (48 : Int32) else 97) by split <;> decide)]
theorem ab_m {N n p s q bg qm x : Nat} {Y : Nat → Nat} {m : MM} {d : Int32} (hN : 15000 ≤ N) (hX : TX n Y) (hM : MT n Y q bg m) (hp : p ≤ n) (hs : s ≤ 2) (hq : qm ≠ 355) (hx : x + 1 < sh_n qm) (hn : sh_n qm ≤ 1000) : f_Mo_readWord_B43 N qm (nI x) (nI s) (mQ m p (-nI 1) d) = match avN n Y s (sk n Y p) with | none => some (mQ m (sk n Y p) (nI (sk n Y p)) d) | some a => some (mQ (mm_I (mm_I m qm x (nI s)) qm (x + 1) (nI a)) (sk n Y p + 1) (-nI 1) d) := by
  obtain ⟨s1, s2, s3⟩ := sk_p (Y := Y) hp
  generalize hp1 : sk n Y p = p1 at s1 s2 s3
  have n9 := hX.1
  have h2 : nI s = 2 ↔ s = 2 := nI_eq (a := s) (b := 2) (by omega) (by decide)
  have hno : f_Mo_readWord_B78 N qm (nI x) (nI s) (-1) (mQ m p1 (-nI 1) d) = some (mQ m p1 (nI p1) d) := by
    unfold f_Mo_readWord_B78
    rw [if_pos rfl, mo_fails, ob_e]
  have hyes : ∀ a, a < 256 → f_Mo_readWord_B78 N qm (nI x) (nI s) (nI a) (mQ m p1 (-nI 1) d) = some (mQ (mm_I (mm_I m qm x (nI s)) qm (x + 1) (nI a)) (p1 + 1) (-nI 1) d) := fun a ha => by
    unfold f_Mo_readWord_B78
    rw [if_neg (nf (by omega)), wr_e, mQ_10, show nI p1 + 1 = nI (p1 + 1) from nI_add p1 1, mQ_p, gd_in (by omega) (by omega), nI_clamp (by omega), wr_e, show nI x + 1 = nI (x + 1) from nI_add x 1, gd_in hx (by omega), nI_clamp (by omega), wr_e, mm_mQ hq, mm_mQ hq]
  unfold f_Mo_readWord_B43
  rw [mo_look hN hX hM hp, hp1, ob_e]
  unfold avN
  by_cases e2 : s = 2
  · rw [if_pos (h2.mpr e2), mo_isDigit hX hM s2, ob_e, if_pos e2]
    unfold dg
    by_cases hl : p1 < n
    · have hy := hX.2 p1 hl
      rw [if_pos hl, decide_eq_true hl, sg_v hl]
      by_cases c1 : 48 ≤ Y p1
      · by_cases c2 : Y p1 ≤ 57
        · rw [decide_eq_true c1, decide_eq_true c2, if_neg (show ¬ bI (true && true && true) = 0 by decide), if_pos ⟨c1, c2⟩, show nI (Y p1) - 48 = nI (Y p1 - 48) from pk_sub (b := 48) (by omega), hyes _ (by omega)]
        · rw [decide_eq_true c1, decide_eq_false c2, if_pos (show bI (true && true && false) = 0 from rfl), if_neg (fun z => c2 z.2), hno]
      · rw [decide_eq_false c1, if_pos (show bI (true && false && _) = 0 from rfl), if_neg (fun z => c1 z.1), hno]
    · rw [if_neg hl, decide_eq_false hl, if_pos (show bI (false && _ && _) = 0 from rfl), hno]
  · rw [if_neg (fun z => e2 (h2.mp z)), mo_spot hN sc_2009, ob_e, if_neg e2]
    by_cases hl : p1 < n
    · have hy := hX.2 p1 hl
      rw [if_pos hl, sg_v hl, sp_9 _ hy.2]
      unfold ltN
      by_cases c1 : 97 ≤ Y p1 ∧ Y p1 ≤ 102
      · rw [if_pos c1]
        exact hyes _ (by omega)
      · rw [if_neg c1]
        exact hno
    · rw [if_neg hl, sg_e hl, sp_m1 sc_2009]
      exact hno
