/-! ===== the program's looks at its collection ===== -/
theorem co_isCard_t {N nc nt c : Nat} {μ : MM} {p m f T F : Nat → Int32} (hC : CC nc nt (μ.1 23) p m f T F) (hc : c < nc) : f_Co_isCard N 23 (nI c) μ = some (nI 1, μ) := by
  obtain ⟨h1, h0, hnc, hnt, -, -⟩ := hC
  simp (disch := omega) only [f_Co_isCard, h1, l_0, l_1, l_6, nI_ltI, nI_leI, if_neg]
theorem co_isCard_f {N nc nt : Nat} {x : Int32} {μ : MM} {p m f T F : Nat → Int32} (hC : CC nc nt (μ.1 23) p m f T F) (hx : x < 0 ∨ nI nc ≤ x) : f_Co_isCard N 23 x μ = some (nI 0, μ) := by
  obtain ⟨h1, h0, hnc, hnt, -, -⟩ := hC
  unfold f_Co_isCard
  by_cases hx0 : x < 0
  · rw [if_pos hx0]; rfl
  · rw [if_neg hx0, h1, if_pos (hx.resolve_left hx0)]; rfl
theorem co_isThing_t {N nc nt t : Nat} {μ : MM} {p m f T F : Nat → Int32} (hC : CC nc nt (μ.1 23) p m f T F) (ht : t < nt) : f_Co_isThing N 23 (nI t) μ = some (nI 1, μ) := by
  obtain ⟨h1, h0, hnc, hnt, -, -⟩ := hC
  simp (disch := omega) only [f_Co_isThing, h0, l_0, l_1, l_8, nI_ltI, nI_leI, if_neg]
theorem co_isThing_f {N nc nt : Nat} {x : Int32} {μ : MM} {p m f T F : Nat → Int32} (hC : CC nc nt (μ.1 23) p m f T F) (hx : x < 0 ∨ nI nt ≤ x) : f_Co_isThing N 23 x μ = some (nI 0, μ) := by
  obtain ⟨h1, h0, hnc, hnt, -, -⟩ := hC
  unfold f_Co_isThing
  by_cases hx0 : x < 0
  · rw [if_pos hx0]; rfl
  · rw [if_neg hx0, h0, if_pos (hx.resolve_left hx0)]; rfl
theorem mo_isCard_t {N nc c : Nat} {μ : MM} (hm : μ.1 355 27 = nI nc) (hnc : nc ≤ 6) (hc : c < nc) : f_Mo_isCard N (nI c) μ = some (nI 1, μ) := by
  simp (disch := omega) only [f_Mo_isCard, hm, l_0, l_1, nI_ltI, nI_leI, if_neg]
theorem mo_isCard_f {N nc : Nat} {x : Int32} {μ : MM} (hm : μ.1 355 27 = nI nc) (hx : x < 0 ∨ nI nc ≤ x) : f_Mo_isCard N x μ = some (nI 0, μ) := by
  unfold f_Mo_isCard
  by_cases hx0 : x < 0
  · rw [if_pos hx0]; rfl
  · rw [if_neg hx0, hm, if_pos (hx.resolve_left hx0)]; rfl
theorem mo_isThing_t {N nt t : Nat} {μ : MM} (hm : μ.1 355 26 = nI nt) (hnt : nt ≤ 8) (ht : t < nt) : f_Mo_isThing N (nI t) μ = some (nI 1, μ) := by
  simp (disch := omega) only [f_Mo_isThing, hm, l_0, l_1, nI_ltI, nI_leI, if_neg]
theorem mo_isThing_f {N nt : Nat} {x : Int32} {μ : MM} (hm : μ.1 355 26 = nI nt) (hx : x < 0 ∨ nI nt ≤ x) : f_Mo_isThing N x μ = some (nI 0, μ) := by
  unfold f_Mo_isThing
  by_cases hx0 : x < 0
  · rw [if_pos hx0]; rfl
  · rw [if_neg hx0, hm, if_pos (hx.resolve_left hx0)]; rfl
/-- what the program's looks rest on -/
def LK (nc nt : Nat) (g T F : Nat → Int32) (μ : MM) : Prop := CC nc nt (μ.1 23) (μ.1 24) (μ.1 25) (μ.1 26) T F ∧ SR nc (μ.1 27) (μ.1 29) (μ.1 30) (μ.1 31) (μ.1 32) (μ.1 33) g ∧ RW nc nt g ∧ TW nt T ∧ FW nc F
theorem co_marksUnder {N nc nt a : Nat} {g T F : Nat → Int32} {μ : MM} (h : LK nc nt g T F μ) (ha : a < 10) : f_Co_marksUnder N 23 (nI a) μ = some (if nc ≤ a then nI 0 else if g (20 * a) = -nI 1 then nI 0 else nI (mN T (uT g a)), μ) := by
  obtain ⟨⟨h1, h0, hnc, hnt, hpm, hf⟩, ⟨hs, -⟩, ⟨hw, -⟩, hT, -⟩ := h
  by_cases hn : nc ≤ a
  · simp (disch := omega) only [f_Co_marksUnder, h1, l_0, nI_ltI, if_neg, if_pos hn]
  · obtain ⟨hz, hz1, hz6, hu, hk9⟩ := hw a (by omega)
    obtain ⟨e1, e2, -⟩ := hs a (by omega)
    simp (disch := omega) only [f_Co_marksUnder, h1, h0, l_0, nI_ltI, if_neg, if_pos, gd_in, nI_clamp, Nat.reduceAdd, e2]
    by_cases h5 : g (20 * a) = -nI 1
    · simp only [h5, m_neg, if_true]
    · obtain ⟨hu3, hu4⟩ := hu.resolve_left h5
      obtain ⟨-, -, hmk, hm64⟩ := hT _ hu4
      simp (disch := omega) only [hu3, m_eq, if_false, nI_ltI, if_neg, if_pos, gd_in, nI_clamp, (hpm _ hu4).2, hmk]
theorem co_isTrue {N nc nt c k t : Nat} {g T F : Nat → Int32} {μ : MM} (h : LK nc nt g T F μ) (hc : c < nc) (hk : k < zN g c) (ht : t < nt) : f_Co_isTrue N 23 (nI (6 * c + k)) (nI c) (nI (mN T t)) μ = some (bI (tru g T nc c k t), μ) := by
  have hm9 := fun a ha => co_marksUnder (N := N) (a := a) h ha
  obtain ⟨⟨h1, h0, hnc, hnt, hpm, hf⟩, ⟨hs, -⟩, ⟨hw, -⟩, hT, -⟩ := h
  obtain ⟨hz, hz1, hz6, hu, hk9⟩ := hw c hc
  obtain ⟨ho, ho3, ha, ha10, ha6, hi, hi9⟩ := hk9 k hk
  obtain ⟨e1, e2, e3⟩ := hs c hc
  obtain ⟨f1, f2, f3⟩ := e3 k hk
  obtain ⟨hp, hp9, hmk, hm64⟩ := hT t ht
  unfold f_Co_isTrue tru
  simp (disch := omega) only [Nat.reduceAdd, n_30, n_31, gd_in, nI_clamp, f1, f2, ho, ha, l_0, l_1, nI_eq]
  by_cases h0 : oN g c k = 0
  · have h6 := ha6 (by omega)
    simp (disch := omega) only [h0, if_true, l_31, bit_1, gd_zB, if_pos, decide_true, bI_d]
    cases tb (mN T t) (aN g c k) <;> rfl
  · by_cases h1' : oN g c k = 1
    · have h6 := ha6 (by omega)
      simp (disch := omega) only [h1', if_true, l_31, bit_0, gd_zB, if_pos, bI_d]
      cases tb (mN T t) (aN g c k) <;> rfl
    · simp (disch := omega) only [if_neg h0, if_neg h1', if_neg]
      by_cases h3 : aN g c k = c
      · simp (disch := omega) only [if_pos h3, gd_zB, bI_n]
      · rw [hm9 _ ha10, ob_e]
        simp only [if_neg h3]
        by_cases h4 : nc ≤ aN g c k
        · simp (disch := omega) only [if_pos h4, and_0, gd_zB, bI_n, Nat.zero_and]; rfl
        · simp only [if_neg h4]
          by_cases h5 : g (20 * aN g c k) = -nI 1
          · simp (disch := omega) only [if_pos h5, and_0, gd_zB, bI_n, Nat.zero_and]; rfl
          · obtain ⟨-, -, -, hu2, -⟩ := hw (aN g c k) (by omega)
            obtain ⟨hu3, hu4⟩ := hu2.resolve_left h5
            obtain ⟨-, -, hmk2, hm642⟩ := hT _ hu4
            simp (disch := omega) only [if_neg h5, and_0, gd_zB, bI_n, Nat.and_comm]
theorem co_isFit {N nc nt c t : Nat} (hN : 15000 ≤ N) {g T F : Nat → Int32} {μ : MM} (h : LK nc nt g T F μ) (hc : c < nc) (ht : t < nt) : f_Co_isFit N 23 (nI c) (nI t) μ = some (bI (fit g T nc c t), μ) := by
  have hI := fun k hk => co_isTrue (N := N) (c := c) (k := k) (t := t) h hc hk ht
  have hA := co_isCard_t (N := N) h.1 hc
  have hB := co_isThing_t (N := N) h.1 ht
  obtain ⟨⟨h1, h0, hnc, hnt, hpm, hf⟩, ⟨hs, -⟩, ⟨hw, -⟩, hT, -⟩ := h
  obtain ⟨hz, hz1, hz6, hu, hk9⟩ := hw c hc
  obtain ⟨e1, e2, e3⟩ := hs c hc
  obtain ⟨hp, hp9, hmk, hm64⟩ := hT t ht
  have h := lpa (fun fu k => f_Co_isFit_L28 N 23 fu (nI c) (nI (mN T t)) (nI k) μ) (zN g c) (fun k => decide (iN g c k = 0) || tru g T nc c k t) (some (nI 1, μ)) (some (nI 0, μ)) (fun fu => by
      simp (disch := omega) only [f_Co_isFit_L28, Nat.reduceAdd, n_29, gd_in, nI_clamp, e1, hz, nI_leI, Nat.le_refl, if_true, l_1]) (fun fu k hk => by
      obtain ⟨ho, ho3, ha, ha10, ha6, hi, hi9⟩ := hk9 k hk
      obtain ⟨f1, f2, f3⟩ := e3 k hk
      simp (disch := omega) only [f_Co_isFit_L28, Nat.reduceAdd, n_29, n_32, gd_in, nI_clamp, e1, hz, nI_leI, if_neg, l_0, l_1, l_6, pk_mul, nI_add, Nat.mul_comm c 6, f3, hi, Nat.le_zero_eq]
      by_cases h0 : iN g c k = 0
      · simp [h0]
      · rw [hI k hk]
        simp only [if_neg h0, ob_e, bI_0, h0, decide_false, Bool.false_or]
        cases tru g T nc c k t <;> rfl) (zN g c) 0 N (by omega) (by omega)
  unfold f_Co_isFit
  rw [hA, ob_e, hB]
  simp (disch := omega) only [ob_e, l_0, nI_eq, if_neg, gd_in, nI_clamp, Nat.reduceAdd, (hpm t ht).2, hmk]
  refine h.trans ?_
  unfold fit
  cases al _ _ _ <;> rfl
theorem co_isRight {N nc nt c : Nat} (hN : 15000 ≤ N) {g T F : Nat → Int32} {μ : MM} (h : LK nc nt g T F μ) (hc : c < nc) : f_Co_isRight N 23 (nI c) μ = some (bI (rgt g T nc c), μ) := by
  have hI := fun t ht => co_isFit hN (c := c) (t := t) h hc ht
  have hA := co_isCard_t (N := N) h.1 hc
  have hB := fun x hx => co_isThing_f (N := N) (x := x) h.1 hx
  obtain ⟨⟨h1, h0, hnc, hnt, hpm, hf⟩, ⟨hs, -⟩, ⟨hw, -⟩, hT, -⟩ := h
  obtain ⟨hz, hz1, hz6, hu, hk9⟩ := hw c hc
  obtain ⟨e1, e2, e3⟩ := hs c hc
  unfold f_Co_isRight rgt
  rw [hA, ob_e]
  simp (disch := omega) only [l_0, l_1, nI_eq, if_neg, gd_in, nI_clamp, Nat.reduceAdd, e2]
  by_cases h5 : g (20 * c) = -nI 1
  · simp only [if_pos h5]
    rw [h5]
    unfold f_Co_isFit
    rw [hA, ob_e]
    simp (disch := omega) only [l_0, l_1, nI_eq, if_neg]
    rw [hB _ (Or.inl (by decide)), ob_e]
    rfl
  · obtain ⟨hu3, hu4⟩ := hu.resolve_left h5
    simp only [if_neg h5]
    rw [hu3, hI _ hu4, ob_e]
    simp only [bI_0]
    cases fit g T nc c (uT g c) <;> rfl
theorem co_cardOver {N nc nt : Nat} (hN : 15000 ≤ N) {x : Int32} {g T F : Nat → Int32} {μ : MM} (h : LK nc nt g T F μ) : f_Co_cardOver N 23 x μ = some (oI (ovr g nc x), μ) := by
  obtain ⟨⟨h1, h0, hnc, hnt, hpm, hf⟩, ⟨hs, -⟩, ⟨hw, -⟩, hT, -⟩ := h
  have h := lpi (fun fu k => f_Co_cardOver_L2 N 23 fu x (nI k) μ) nc (fun c => decide (g (20 * c) = x)) (some (-nI 1, μ)) (fun k => some (nI k, μ)) (fun fu => by
      simp (disch := omega) only [f_Co_cardOver_L2, h1, nI_leI, Nat.le_refl, if_true, l_1]) (fun fu k hk => by
      obtain ⟨e1, e2, e3⟩ := hs k hk
      simp (disch := omega) only [f_Co_cardOver_L2, h1, nI_leI, if_neg, l_1, gd_in, nI_clamp, nI_add, Nat.reduceAdd, e2, decide_eq_true_eq]) nc 0 N (by omega) (by omega)
  unfold f_Co_cardOver
  rw [l_0]
  refine h.trans ?_
  unfold ovr
  cases fi _ nc 0 <;> rfl
theorem co_leftIn {N nc nt c : Nat} (hN : 15000 ≤ N) {g T F : Nat → Int32} {μ : MM} (h : LK nc nt g T F μ) (hc : c < nc) : f_Wo_leftIn N 28 (nI c) μ = some (nI (lef g c), μ) ∧ lef g c ≤ zN g c := by
  obtain ⟨⟨h1, h0, hnc, hnt, hpm, hf⟩, ⟨hs, -⟩, ⟨hw, -⟩, hT, -⟩ := h
  obtain ⟨hz, hz1, hz6, hu, hk9⟩ := hw c hc
  obtain ⟨e1, e2, e3⟩ := hs c hc
  have h := lpf (fun fu k (n : Nat) => f_Wo_leftIn_L19 N 28 fu (nI c) (nI n) (nI k) μ) (zN g c) (fun k n => if iN g c k = 0 then n else n + 1) (fun n => some (nI n, μ)) (fun k n => n ≤ k) (fun fu n hn => by
      simp (disch := omega) only [f_Wo_leftIn_L19, Nat.reduceAdd, n_29, gd_in, nI_clamp, e1, hz, nI_leI, Nat.le_refl, if_true]) (fun fu k n hk hn => by
      obtain ⟨ho, ho3, ha, ha10, ha6, hi, hi9⟩ := hk9 k hk
      obtain ⟨f1, f2, f3⟩ := e3 k hk
      simp (disch := omega) only [f_Wo_leftIn_L19, Nat.reduceAdd, n_29, n_32, gd_in, nI_clamp, e1, hz, nI_leI, if_neg, l_0, l_1, l_6, pk_mul, nI_add, Nat.mul_comm c 6, f3, hi, Nat.le_zero_eq]
      by_cases h0 : iN g c k = 0
      · simp only [h0, if_true, true_and]; omega
      · simp only [h0, if_false, true_and]; omega) (zN g c) 0 N 0 (by omega) (by omega) (by omega)
  unfold f_Wo_leftIn
  simp (disch := omega) only [l_0, nI_ltI, if_neg, if_pos, Nat.reduceAdd, n_29, show Int32.ofNat 6 = nI 6 from rfl]
  exact h
