/-! ===== what a day takes of a word, on both sides ===== -/
def clI (x : Int32) : Int32 := if (0 : Int32) < (if x < (9 : Int32) then x else (9 : Int32)) then (if x < (9 : Int32) then x else (9 : Int32)) else (0 : Int32)
def clN (x : Int32) : Nat := (clI x).toNatClampNeg
theorem cl_e (x : Int32) : clI x = nI (clN x) ∧ clN x ≤ 9 := by
  have h0 : (0 : Int32).toInt = 0 := by decide
  have h9 : (9 : Int32).toInt = 9 := by decide
  have hb : 0 ≤ (clI x).toInt ∧ (clI x).toInt ≤ 9 := by
    unfold clI
    by_cases h1 : x < 9
    · rw [if_pos h1]
      rw [fa_lt] at h1
      by_cases h2 : (0 : Int32) < x
      · rw [if_pos h2]; rw [fa_lt] at h2; omega
      · rw [if_neg h2]; omega
    · rw [if_neg h1, if_pos (by decide)]; omega
  unfold clN
  rcases pk_ix (clI x) (n := 10) (by decide) with h | h | ⟨j, hj, e⟩
  · rw [fa_lt] at h; omega
  · rw [fa_le, nI_toInt (by decide)] at h; omega
  · rw [e, nI_clamp (by omega)]; exact ⟨rfl, by omega⟩
theorem cl_9 : ∀ f, f ≤ 9 → clI (nI f) = nI f := by decide
theorem mx_sub : ∀ i, i ≤ 9 → ∀ l, l ≤ 9 → (if (0 : Int32) < nI i - nI l then nI i - nI l else (0 : Int32)) = nI (i - l) := by decide
def ltr (i f l p s d : Nat) : Nat → Int32 := fun j => nI (if j = 0 then i else if j = 1 then f else if j = 2 then l else if j = 3 then p else if j = 4 then s else d)
def lossF (mh : Int32) (w : (Nat → Int32) → Int32) (i f l p s d : Nat) : Nat := if mh = -nI 1 then (if l = 0 then 0 else f) else clN (w (ltr i f l p s d))
def KC (lo : Nat → Nat → Nat → Nat → Nat → Nat → Nat) (c : MM) : Prop := ∀ (N : Nat) (μ : MM) (cd p i d f l s : Nat), 15000 ≤ N → (∀ a, a = 34 ∨ (37 ≤ a ∧ a ≤ 41) → μ.1 a = c.1 a) → cd < 6 → p < 6 → i ≤ 9 → d ≤ 1000000 → μ.1 26 cd = nI f → f ≤ 9 → μ.1 27 2 = nI l → l ≤ 9 → μ.1 30 (6 * cd + p) = nI s → s < 3 →
  ∃ μ', f_Ag_inkAfter N (nI cd) (nI p) (nI i) (nI d) μ = some (nI (i - lo i f l p s d), μ') ∧ (∀ a, a ≠ 35 → a ≠ 42 → μ'.1 a = μ.1 a) ∧ μ'.2 = μ.2
def scr (j : Nat) : Prop := j < 5 ∨ 18 ≤ j ∨ j = 6 ∨ j = 7 ∨ j = 15 ∨ j = 16
def KM (lo : Nat → Nat → Nat → Nat → Nat → Nat → Nat) (m : MM) : Prop := ∀ (N : Nat) (μ : MM) (q cd p i d f l s : Nat), 15000 ≤ N → sh_n q = 304 → q ≠ 355 → q ≠ 359 → μ.1 357 = m.1 357 → μ.1 358 = m.1 358 → μ.1 355 34 = m.1 355 34 → cd < 6 → p < 6 → i ≤ 9 → d ≤ 1000000 → μ.1 365 (16 * cd + 1) = nI f → f ≤ 9 → μ.1 q 120 = nI l → l ≤ 9 → μ.1 q (20 * cd + 2 + 3 * p) = nI s → s < 3 → μ.1 q (20 * cd + 4 + 3 * p) = nI i → μ.1 q 122 = nI d →
  ∃ μ', f_Mo_fadeOf N q (nI cd) (nI p) μ = some (nI (lo i f l p s d), μ') ∧ (∀ a, a ≠ 355 → a ≠ 359 → μ'.1 a = μ.1 a) ∧ (∀ j, scr j → μ'.1 355 j = μ.1 355 j) ∧ μ'.2 = μ.2
theorem ltr_ok {i f l p s d : Nat} (hi : i ≤ 9) (hf : f ≤ 9) (hl : l ≤ 9) (hp : p < 6) (hs : s < 3) (hd : d ≤ 1000000) : LO (ltr i f l p s d) := fun j hj => by
  refine ⟨_, ?_, rfl⟩
  (repeat' split) <;> omega
theorem WB_w {lc : Nat} {c m : MM} (h : WB lc (c.1 34 0) (c.1 34 1) (m.1 355 7) (m.1 355 34) (c.1 37) (c.1 38) (c.1 39) (c.1 40) (c.1 41) (m.1 357) (m.1 358)) {j : Nat} (hj : j < lc) : ∃ w, LC w (c.1 (37 + j)) (c.1 41 j) ∧ LT w (fun k => m.1 357 (240 * j + k)) (m.1 358 j) := by
  obtain ⟨h1, h2, h3, h4, h5, h6, h7, h8, h9⟩ := h
  match j, hj with
  | 0, hj =>
    obtain ⟨w, w1, w2⟩ := h6 hj
    refine ⟨w, w1, ?_⟩
    simpa using w2
  | 1, hj => exact h7 hj
  | 2, hj => exact h8 hj
  | 3, hj => exact h9 hj
  | j + 4, hj => omega
theorem law_2 {lc : Nat} {c m : MM} (h : WB lc (c.1 34 0) (c.1 34 1) (m.1 355 7) (m.1 355 34) (c.1 37) (c.1 38) (c.1 39) (c.1 40) (c.1 41) (m.1 357) (m.1 358)) : ∃ lo, (∀ i f l p s d, f ≤ 9 → lo i f l p s d ≤ 9) ∧ KC lo c ∧ KM lo m := by
  have hw : ∃ w : (Nat → Int32) → Int32, m.1 355 34 = -nI 1 ∨ ∃ j, j < lc ∧ m.1 355 34 = nI j ∧ LC w (c.1 (37 + j)) (c.1 41 j) ∧ LT w (fun k => m.1 357 (240 * j + k)) (m.1 358 j) := by
    rcases h.2.2.2.2.1 with e | ⟨j, hj, e⟩
    · exact ⟨fun _ => 0, Or.inl e⟩
    · obtain ⟨w, w1, w2⟩ := WB_w h hj
      exact ⟨w, Or.inr ⟨j, hj, e, w1, w2⟩⟩
  obtain ⟨w, hw⟩ := hw
  obtain ⟨h1, h2, h3, h4, -⟩ := h
  refine ⟨lossF (m.1 355 34) w, fun i f l p s d hf => ?_, ?_, ?_⟩
  · unfold lossF
    split
    · split <;> omega
    · exact (cl_e _).2
  · intro N μ cd p i d f l s hN hμ hcd hp hi hd ef hf el hl es hs
    have e34 : μ.1 34 = c.1 34 := hμ 34 (Or.inl rfl)
    by_cases hi0 : i = 0
    · subst hi0
      refine ⟨μ, ?_, fun _ _ _ => rfl, rfl⟩
      unfold f_Ag_inkAfter
      rw [if_neg (by decide), Nat.zero_sub]; rfl
    · have hip : (0 : Int32) < nI i := (nI_ltI (a := 0) (by decide) (by omega)).mpr (by omega)
      unfold f_Ag_inkAfter
      rw [if_pos hip, el]
      have hb : (if nI l ≤ 0 then f_Ag_inkAfter_B32 N (nI cd) (nI p) (nI i) (nI d) 0 μ else gd (inb (nI cd) 6) (f_Ag_inkAfter_B32 N (nI cd) (nI p) (nI i) (nI d) (μ.1 26 (Int32.toNatClampNeg (nI cd))) μ)) = f_Ag_inkAfter_B32 N (nI cd) (nI p) (nI i) (nI d) (nI (if l = 0 then 0 else f)) μ := by
        by_cases hl0 : l = 0
        · rw [if_pos (by rw [hl0]; decide), if_pos hl0]; rfl
        · rw [if_neg (fun q => by rw [l_0, nI_leI (by omega) (by omega)] at q; omega), if_neg hl0, gd_in (by omega) (by omega), nI_clamp (by omega), ef]
      rw [hb]
      unfold f_Ag_inkAfter_B32 lossF
      rw [e34, h4]
      rcases hw with e | ⟨j, hj, e, w1, w2⟩
      · refine ⟨μ, ?_, fun _ _ _ => rfl, rfl⟩
        rw [if_pos e, if_pos (show m.1 355 34 = -1 from e)]
        have hlf : (if l = 0 then 0 else f) ≤ 9 := by split <;> omega
        generalize (if l = 0 then 0 else f) = lf at *
        show some ((if (0 : Int32) < nI i - clI (nI lf) then nI i - clI (nI lf) else (0 : Int32)), μ) = _
        rw [cl_9 lf hlf, mx_sub i hi lf hlf]
      · have hne : ¬ m.1 355 34 = -nI 1 := fun q => by rw [e, m_eq (by omega)] at q; exact q
        rw [if_neg hne, if_neg (show ¬ m.1 355 34 = -1 from hne)]
        obtain ⟨μ', r1, r2, r3⟩ := w1 N (mm_I (mm_I (mm_I (mm_I (mm_I (mm_I μ 35 0 (nI i)) 35 1 (nI f)) 35 2 (nI l)) 35 3 (nI p)) 35 4 (nI s)) 35 5 (nI d)) j lc (ltr i f l p s d) hN hj h1 (ltr_ok hi hf hl hp hs hd) (by rw [gI_o (by decide), gI_o (by decide), gI_o (by decide), gI_o (by decide), gI_o (by decide), gI_o (by decide), e34, h4]; exact e) (by rw [gI_o (by decide), gI_o (by decide), gI_o (by decide), gI_o (by decide), gI_o (by decide), gI_o (by decide), e34]; exact h2) (fun k _ => by rw [gI_o (by omega), gI_o (by omega), gI_o (by omega), gI_o (by omega), gI_o (by omega), gI_o (by omega), hμ (37 + j) (by omega)]) (by rw [gI_o (by decide), gI_o (by decide), gI_o (by decide), gI_o (by decide), gI_o (by decide), gI_o (by decide), hμ 41 (by omega)]) (fun x hx => by
          unfold ltr
          obtain rfl | rfl | rfl | rfl | rfl | rfl : x = 0 ∨ x = 1 ∨ x = 2 ∨ x = 3 ∨ x = 4 ∨ x = 5 := by omega
          all_goals simp [gI])
        refine ⟨μ', ?_, fun a ha hb => ?_, r3⟩
        · have es' : μ.1 30 (cd * 6 + p) = nI s := by rw [Nat.mul_comm cd 6]; exact es
          simp (disch := omega) only [wr_e, gd_in, nI_clamp, gI_o (show (26 : Nat) ≠ 35 by decide), gI_o (show (27 : Nat) ≠ 35 by decide), gI_o (show (30 : Nat) ≠ 35 by decide), ef, el, l_6, pk_mul, nI_add, es']
          rw [r1, ob_e]
          show some ((if (0 : Int32) < nI i - clI (w (ltr i f l p s d)) then nI i - clI (w (ltr i f l p s d)) else (0 : Int32)), μ') = _
          rw [(cl_e _).1, mx_sub i hi _ (cl_e _).2]
        · rw [r2 a hb, gI_o ha, gI_o ha, gI_o ha, gI_o ha, gI_o ha, gI_o ha]
  · intro N μ q cd p i d f l s hN hq hq1 hq2 e357 e358 e34 hcd hp hi hd ef hf el hl es hs ei ed
    unfold f_Mo_fadeOf lossF
    simp (disch := omega) only [l_16, l_1, pk_mul, nI_add, gd_in, nI_clamp, hq]
    rw [e34]
    rcases hw with e | ⟨j, hj, e, w1, w2⟩
    · refine ⟨μ, ?_, fun _ _ _ => rfl, fun _ _ => rfl, rfl⟩
      rw [if_pos e, if_pos e, gd_t (show inb 120 304 = true by decide), el, ef]
      by_cases hl0 : l = 0
      · rw [if_pos (show nI l = 0 by rw [hl0]; rfl), if_pos hl0]; rfl
      · rw [if_neg (fun z => by rw [l_0, nI_eq (by omega) (by omega)] at z; exact hl0 z), if_neg hl0]
    · have hne : ¬ m.1 355 34 = -nI 1 := fun z => by rw [e, m_eq (by omega)] at z; exact z
      rw [if_neg hne, if_neg hne, mo_ink hq (by omega) (by omega), ob_e, wr_e, wr_e, gd_t (show inb 120 304 = true by decide), wr_e, wr_e, mo_sort hq (by omega) (by omega), ob_e, wr_e, gd_t (show inb 122 304 = true by decide), wr_e]
      simp only [gI_o (show q ≠ 359 from hq2), gI_o (show (355 : Nat) ≠ 359 by decide), gI_o (show (358 : Nat) ≠ 359 by decide), ei, ef, el, es, ed, e34, e]
      obtain ⟨μ', r1, r2, r3, r4, r5⟩ := w2 N (mm_I (mm_I (mm_I (mm_I (mm_I (mm_I μ 359 105 (nI i)) 359 102 (nI f)) 359 108 (nI l)) 359 112 (nI p)) 359 107 (nI s)) 359 100 (nI d)) j (ltr i f l p s d) hN (by omega) (ltr_ok hi hf hl hp hs hd) (fun k _ => by rw [gI_o (by decide), gI_o (by decide), gI_o (by decide), gI_o (by decide), gI_o (by decide), gI_o (by decide), e357]) (fun x hx => by
          unfold ltr ltC
          obtain rfl | rfl | rfl | rfl | rfl | rfl : x = 0 ∨ x = 1 ∨ x = 2 ∨ x = 3 ∨ x = 4 ∨ x = 5 := by omega
          all_goals simp [gI])
      refine ⟨μ', ?_, fun a ha hb => ?_, fun x hx => ?_, r5⟩
      · rw [gd_in (by omega) (by omega), nI_clamp (by omega), show (240 : Int32) * nI j = nI (240 * j) from pk_mul 240 j, e358, r1, obv_e, r2]
        show some (clI (w (ltr i f l p s d)), μ') = _
        rw [(cl_e _).1]
      · rw [r3 a ha, gI_o hb, gI_o hb, gI_o hb, gI_o hb, gI_o hb, gI_o hb]
      · rw [r4 x hx, gI_o (by decide), gI_o (by decide), gI_o (by decide), gI_o (by decide), gI_o (by decide), gI_o (by decide)]
