/-! ===== calls that only look ===== -/
theorem L_0 : (0 : Int64) = lN 0 := rfl
theorem L_1 : (1 : Int64) = lN 1 := rfl
theorem L_2 : (2 : Int64) = lN 2 := rfl
theorem L_3 : (3 : Int64) = lN 3 := rfl
theorem L_9 : (9 : Int64) = lN 9 := rfl
theorem L_30 : (30 : Int64) = lN 30 := rfl
theorem L_60 : (60 : Int64) = lN 60 := rfl
theorem L_99 : (99 : Int64) = lN 99 := rfl
theorem L_100 : (100 : Int64) = lN 100 := rfl
theorem mo_isInI {N : Nat} {x a b : Int32} {μ : MM} : f_Mo_isIn N x.toInt64 a.toInt64 b.toInt64 μ = some (bI (decide (a ≤ x) && decide (x ≤ b)), μ) := by
  unfold f_Mo_isIn
  simp only [lg_cmp_lt, lg_cmp_gt, fa_wide_lt]
  by_cases h1 : a ≤ x
  · by_cases h2 : x ≤ b
    · rw [if_neg (by rw [fa_lt]; rw [fa_le] at h1; omega), if_neg (by rw [fa_lt]; rw [fa_le] at h2; omega)]; simp only [h1, h2, decide_true, Bool.and_self]; rfl
    · rw [if_neg (by rw [fa_lt]; rw [fa_le] at h1; omega), if_pos (fa_of_nle h2)]; simp only [h1, h2, decide_true, decide_false, Bool.and_false]; rfl
  · rw [if_pos (fa_of_nle h1)]; simp only [h1, decide_false, Bool.false_and]; rfl
theorem mo_isIn {N a b : Nat} {x : Int32} {μ : MM} (ha : a < 2 ^ 31) (hb : b < 2 ^ 31) : f_Mo_isIn N x.toInt64 (lN a) (lN b) μ = some (bI (decide (nI a ≤ x) && decide (x ≤ nI b)), μ) := by
  rw [← nI_l ha, ← nI_l hb]
  exact mo_isInI
theorem mo_in_f {a b : Nat} {x : Int32} (h : x < nI a ∨ nI b < x) : (decide (nI a ≤ x) && decide (x ≤ nI b)) = false := by
  rcases h with h | h
  · rw [decide_eq_false ((fa_of_lt h).2.1), Bool.false_and]
  · rw [decide_eq_false ((fa_of_lt h).2.1), Bool.and_false]
theorem mo_in_t {a b j : Nat} (h1 : a ≤ j) (h2 : j ≤ b) (hb : b < 2 ^ 31) : (decide (nI a ≤ nI j) && decide (nI j ≤ nI b)) = true := by
  rw [decide_eq_true ((nI_leI (by omega) (by omega)).mpr h1), decide_eq_true ((nI_leI (by omega) (by omega)).mpr h2)]; rfl
/-- an argument is outside or one of a few numbers -/
theorem arg_in (x : Int32) {n : Nat} (hn : n < 2 ^ 31 - 1) : x < nI 0 ∨ nI n < x ∨ ∃ j, j ≤ n ∧ x = nI j := by
  rcases pk_ix x (n := n + 1) (by omega) with h | h | ⟨j, h1, h2⟩
  · exact Or.inl h
  · refine Or.inr (Or.inl ?_)
    rw [fa_le, nI_toInt (by omega)] at h
    rw [fa_lt, nI_toInt (by omega)]
    omega
  · exact Or.inr (Or.inr ⟨j, by omega, h2⟩)
theorem co_isNone {N nc nt : Nat} {μ : MM} {p m f T F : Nat → Int32} (hC : CC nc nt (μ.1 23) p m f T F) : f_Co_isNone N 23 μ = some (bI (decide (nc = 0)), μ) := by
  obtain ⟨h1, h0, hnc, hnt, -, -⟩ := hC
  simp (disch := omega) only [f_Co_isNone, h1, l_0, l_1, nI_eq, bI_d, gd_zB]
def MK (nc nt : Nat) (m : MM) : Prop := m.1 355 27 = nI nc ∧ m.1 355 26 = nI nt ∧ RW nc nt (m.1 368) ∧ TW nt (m.1 362) ∧ FW nc (m.1 365) ∧ nc ≤ 6 ∧ nt ≤ 8
theorem Rel_L {k : Nat} {c m : MM} (h : Rel k c m) : ∃ nc nt, LK nc nt (m.1 368) (m.1 362) (m.1 365) c ∧ MK nc nt m := by
  obtain ⟨nc, nt, lg, lgI, a, nx, tl, lc, rc, st, cl, h1, h2, h3, h4, h5, h6, -⟩ := h
  exact ⟨nc, nt, ⟨h1, h5, h6, h3, h4⟩, h2.1, h2.2, h6, h3, h4, h1.2.2.1, h1.2.2.2.1⟩
theorem Rel_t {k : Nat} {c m : MM} {v : Int32} (h : Rel k c m) : Rel k c (mm_I m 355 0 v) := h
/-- only looks, on both sides -/
theorem Sp_ro {k : Nat} {fR fM : MM → Option (Int32 × MM)} (h : ∀ c m, Rel k c (mm_I m 355 0 0) → ∃ r, fR c = some (r, c) ∧ fM m = some (r, mm_I m 355 0 0)) : Sp k fR fM := by
  intro c m hr
  obtain ⟨r, e1, e2⟩ := h c m (Rel_t hr)
  exact ⟨r, c, _, e1, e2, Rel_k (Rel_t hr) (by omega)⟩
theorem or_0 (x : Int32) : x ||| nI 0 = x := by
  apply Int32.toBitVec_inj.mp
  rw [Int32.toBitVec_or]
  show x.toBitVec ||| 0#32 = x.toBitVec
  simp
def bits (p : Nat → Bool) (n : Nat) : Int32 := fo (fun k x => if p k = true then x ||| (nI 1 <<< (nI k &&& nI 31)) else x) n 0 (nI 0)
theorem op_shared {k N : Nat} (x1 x2 : Int32) : Sp k (f_Ro_shared N x1 x2) (f_Mo_shared N x1 x2) := Sp_ro fun c m h => by
  unfold f_Mo_shared
  rw [wr_e]
  generalize mm_I m 355 0 0 = m0 at h ⊢
  obtain ⟨nc, nt, hL, hm27, hm26, hW, hT, hF, hnc, hnt⟩ := Rel_L h
  unfold f_Ro_shared
  rcases pk_ix x1 (n := nt) (by omega) with hx | hx | ⟨j, hj, rfl⟩
  · exact ⟨-1, by rw [co_isThing_f hL.1 (Or.inl hx), ob_e]; rfl, by rw [mo_isThing_f hm26 (Or.inl hx), ob_e]; rfl⟩
  · exact ⟨-1, by rw [co_isThing_f hL.1 (Or.inr hx), ob_e]; rfl, by rw [mo_isThing_f hm26 (Or.inr hx), ob_e]; rfl⟩
  · rw [co_isThing_t hL.1 hj, ob_e, mo_isThing_t hm26 hnt hj, ob_e]
    simp (disch := omega) only [l_0, l_1, nI_eq, if_neg]
    rcases pk_ix x2 (n := nt) (by omega) with hx | hx | ⟨j2, hj2, rfl⟩
    · exact ⟨-nI 1, by rw [co_isThing_f hL.1 (Or.inl hx), ob_e]; rfl, by rw [mo_isThing_f hm26 (Or.inl hx), ob_e]; rfl⟩
    · exact ⟨-nI 1, by rw [co_isThing_f hL.1 (Or.inr hx), ob_e]; rfl, by rw [mo_isThing_f hm26 (Or.inr hx), ob_e]; rfl⟩
    · rw [co_isThing_t hL.1 hj2, ob_e, mo_isThing_t hm26 hnt hj2, ob_e, mo_marks (by omega), ob_e, mo_marks (by omega), ob_e]
      obtain ⟨⟨-, -, -, -, hpm, -⟩, -⟩ := hL
      simp (disch := omega) only [nI_eq, if_neg, gd_in, nI_clamp, (hpm j hj).2, (hpm j2 hj2).2]
      exact ⟨_, rfl, rfl⟩
theorem op_fits {k N : Nat} (hN : 15000 ≤ N) (x1 x2 : Int32) : Sp k (f_Ro_fits N x1 x2) (f_Mo_fits N x1 x2) := Sp_ro fun c m h => by
  unfold f_Mo_fits
  rw [wr_e]
  generalize mm_I m 355 0 0 = m0 at h ⊢
  obtain ⟨nc, nt, hL, hm27, hm26, hW, hT, hF, hnc, hnt⟩ := Rel_L h
  unfold f_Ro_fits
  rcases pk_ix x1 (n := nc) (by omega) with hx | hx | ⟨j, hj, rfl⟩
  · exact ⟨-1, by rw [co_isCard_f hL.1 (Or.inl hx), ob_e]; rfl, by rw [mo_isCard_f hm27 (Or.inl hx), ob_e]; rfl⟩
  · exact ⟨-1, by rw [co_isCard_f hL.1 (Or.inr hx), ob_e]; rfl, by rw [mo_isCard_f hm27 (Or.inr hx), ob_e]; rfl⟩
  · rw [co_isCard_t hL.1 hj, ob_e, mo_isCard_t hm27 hnc hj, ob_e]
    simp (disch := omega) only [l_0, l_1, nI_eq, if_neg]
    rcases pk_ix x2 (n := nt) (by omega) with hx | hx | ⟨j2, hj2, rfl⟩
    · exact ⟨-nI 1, by rw [co_isThing_f hL.1 (Or.inl hx), ob_e]; rfl, by rw [mo_isThing_f hm26 (Or.inl hx), ob_e]; rfl⟩
    · exact ⟨-nI 1, by rw [co_isThing_f hL.1 (Or.inr hx), ob_e]; rfl, by rw [mo_isThing_f hm26 (Or.inr hx), ob_e]; rfl⟩
    · rw [co_isThing_t hL.1 hj2, ob_e, mo_isThing_t hm26 hnt hj2, ob_e]
      simp (disch := omega) only [nI_eq, if_neg]
      rw [co_isFit hN hL hj hj2, ob_e, mo_fitsIn hN n_368 hW hT hm27 hnc hnt hj hj2, ob_e]
      exact ⟨_, rfl, rfl⟩
theorem co_suited {N nc nt c : Nat} (hN : 15000 ≤ N) {g T F : Nat → Int32} {μ : MM} (h : LK nc nt g T F μ) (hc : c < nc) : f_Co_suitedThings N 23 (nI c) μ = some (bits (fit g T nc c) nt, μ) := by
  have h0 := h.1.2.1
  have hnt := h.1.2.2.2.1
  have hnc := h.1.2.2.1
  have hl := lpf (fun fu k (x : Int32) => f_Co_suitedThings_L4 N 23 fu (nI c) x (nI k) μ) nt (fun k x => if fit g T nc c k = true then x ||| (nI 1 <<< (nI k &&& nI 31)) else x) (fun x => some (x, μ)) (fun _ _ => True) (fun fu x _ => by
      simp (disch := omega) only [f_Co_suitedThings_L4, h0, nI_leI, Nat.le_refl, if_true]) (fun fu k x hk _ => by
      refine ⟨?_, trivial⟩
      simp (disch := omega) only [f_Co_suitedThings_L4, h0, nI_leI, if_neg]
      rw [co_isFit hN h hc hk, ob_e]
      simp only [l_0, l_1, l_31, nI_add, bI_0]
      cases fit g T nc c k <;> rfl) nt 0 N (nI 0) (by omega) (by omega) trivial
  exact hl.1
theorem mo_suits {N nc nt c : Nat} (hN : 15000 ≤ N) {μ : MM} (h : MK nc nt μ) (hc : c < nc) : f_Mo_suitsOf N (nI c) μ = some (bits (fit (μ.1 368) (μ.1 362) nc c) nt, μ) := by
  obtain ⟨hm27, hm26, hW, hT, hF, hnc, hnt⟩ := h
  have hl := lpf (fun fu k (x : Int32) => f_Mo_suitsOf_L4 N fu (nI c) x (nI k) μ) nt (fun k x => if fit (μ.1 368) (μ.1 362) nc c k = true then x ||| (nI 1 <<< (nI k &&& nI 31)) else x) (fun x => some (x, μ)) (fun _ _ => True) (fun fu x _ => by
      simp (disch := omega) only [f_Mo_suitsOf_L4, hm26, nI_leI, Nat.le_refl, if_true]) (fun fu k x hk _ => by
      refine ⟨?_, trivial⟩
      simp (disch := omega) only [f_Mo_suitsOf_L4, hm26, nI_leI, if_neg]
      rw [mo_fitsIn hN n_368 hW hT hm27 hnc hnt hc hk, ob_e]
      simp only [l_0, l_1, l_31, nI_add, bI_0]
      cases fit (μ.1 368) (μ.1 362) nc c k
      · simp only [if_true, or_0, Bool.false_eq_true, if_false]
      · simp) nt 0 N (nI 0) (by omega) (by omega) trivial
  exact hl.1
theorem op_suits {k N : Nat} (hN : 15000 ≤ N) (x1 : Int32) : Sp k (f_Ro_suits N x1) (f_Mo_suits N x1) := Sp_ro fun c m h => by
  unfold f_Mo_suits
  rw [wr_e]
  generalize mm_I m 355 0 0 = m0 at h ⊢
  obtain ⟨nc, nt, hL, hM⟩ := Rel_L h
  have hnc := hM.2.2.2.2.2.1
  unfold f_Ro_suits
  rcases pk_ix x1 (n := nc) (by omega) with hx | hx | ⟨j, hj, rfl⟩
  · exact ⟨-1, by rw [co_isCard_f hL.1 (Or.inl hx), ob_e]; rfl, by rw [mo_isCard_f hM.1 (Or.inl hx), ob_e]; rfl⟩
  · exact ⟨-1, by rw [co_isCard_f hL.1 (Or.inr hx), ob_e]; rfl, by rw [mo_isCard_f hM.1 (Or.inr hx), ob_e]; rfl⟩
  · rw [co_isCard_t hL.1 hj, ob_e, mo_isCard_t hM.1 hnc hj, ob_e]
    simp (disch := omega) only [l_0, l_1, nI_eq, if_neg]
    rw [co_suited hN hL hj, ob_e, mo_suits hN hM hj, ob_e]
    exact ⟨_, rfl, rfl⟩
theorem none_R {nc : Nat} : (bI (decide (nc = 0)) = nI 0) = ¬ nc = 0 := by
  rw [bI_0, decide_eq_false_iff_not]
theorem op_right {k N : Nat} (hN : 15000 ≤ N) : Sp k (f_Ro_right N) (f_Mo_right N) := Sp_ro fun c m h => by
  unfold f_Mo_right
  rw [wr_e]
  generalize mm_I m 355 0 0 = m0 at h ⊢
  obtain ⟨nc, nt, hL, hM⟩ := Rel_L h
  have h1 := hL.1.1
  obtain ⟨hm27, hm26, hW, hT, hF, hnc, hnt⟩ := id hM
  unfold f_Ro_right
  rw [co_isNone hL.1, ob_e, hm27]
  simp (disch := omega) only [l_0, none_R, nI_eq]
  by_cases h0 : nc = 0
  · simp only [h0, not_true_eq_false, if_false, if_true]
    exact ⟨_, rfl, rfl⟩
  · simp only [h0, not_false_eq_true, if_false, if_true]
    refine ⟨bits (rgt (m0.1 368) (m0.1 362) nc) nc, ?_, ?_⟩
    · exact (lpf (fun fu k (x : Int32) => f_Ro_right_L16 N fu x (nI k) c) nc (fun k x => if rgt (m0.1 368) (m0.1 362) nc k = true then x ||| (nI 1 <<< (nI k &&& nI 31)) else x) (fun x => some (x, c)) (fun _ _ => True) (fun fu x _ => by
        simp (disch := omega) only [f_Ro_right_L16, h1, nI_leI, Nat.le_refl, if_true]) (fun fu k x hk _ => by
        refine ⟨?_, trivial⟩
        simp (disch := omega) only [f_Ro_right_L16, h1, nI_leI, if_neg]
        rw [co_isRight hN hL hk, ob_e]
        simp only [l_0, l_1, l_31, nI_add, bI_0]
        cases rgt (m0.1 368) (m0.1 362) nc k <;> rfl) nc 0 N (nI 0) (by omega) (by omega) trivial).1
    · exact (lpf (fun fu k (x : Int32) => f_Mo_right_L18 N fu x (nI k) m0) nc (fun k x => if rgt (m0.1 368) (m0.1 362) nc k = true then x ||| (nI 1 <<< (nI k &&& nI 31)) else x) (fun x => some (x, m0)) (fun _ _ => True) (fun fu x _ => by
        simp (disch := omega) only [f_Mo_right_L18, hm27, nI_leI, Nat.le_refl, if_true]) (fun fu k x hk _ => by
        refine ⟨?_, trivial⟩
        simp (disch := omega) only [f_Mo_right_L18, hm27, nI_leI, if_neg]
        rw [mo_isRight hN n_368 hW hT hm27 hnc hnt hk, ob_e]
        simp only [l_0, l_1, l_31, nI_add, bI_0]
        cases rgt (m0.1 368) (m0.1 362) nc k
        · simp only [if_true, or_0, Bool.false_eq_true, if_false]
        · simp) nc 0 N (nI 0) (by omega) (by omega) trivial).1
