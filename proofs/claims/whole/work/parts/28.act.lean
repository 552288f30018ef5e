/-! ===== more acts ===== -/
theorem mm_Id {μ : MM} {a k : Nat} {v : Int32} (h : μ.1 a k = v) : mm_I μ a k v = μ := by
  apply Prod.ext
  · funext b j
    show (mm_I μ a k v).1 b j = μ.1 b j
    rw [gI]
    by_cases e : b = a
    · rw [if_pos e]
      by_cases e2 : j = k
      · rw [if_pos e2, e, e2, h]
      · rw [if_neg e2]
    · rw [if_neg e]
  · rfl
theorem co_left_f {N nc nt : Nat} {x : Int32} {μ : MM} {p m f T F : Nat → Int32} (hC : CC nc nt (μ.1 23) p m f T F) (hx : x < 0 ∨ nI nc ≤ x) : f_Ro_hasWordLeft N x μ = some (nI 0, μ) := by
  unfold f_Ro_hasWordLeft
  rw [co_isCard_f hC hx, ob_e]
  rfl
theorem co_left_t {N nc nt c : Nat} (hN : 15000 ≤ N) {g T F : Nat → Int32} {μ : MM} (h : LK nc nt g T F μ) (hc : c < nc) : f_Ro_hasWordLeft N (nI c) μ = some (bI (decide (¬ lef g c = 0)), μ) := by
  obtain ⟨q1, q2⟩ := co_leftIn hN h hc
  have hz6 := (h.2.2.1.1 c hc).2.2.1
  unfold f_Ro_hasWordLeft
  rw [co_isCard_t h.1 hc, ob_e]
  simp (disch := omega) only [l_0, l_1, nI_eq, if_neg]
  rw [q1, ob_e]
  simp (disch := omega) only [nI_le0]
  by_cases e : lef g c = 0
  · rw [if_pos e, decide_eq_false (by omega)]; rfl
  · rw [if_neg e, decide_eq_true e]; rfl
theorem op_copy {k N : Nat} (hN : 15000 ≤ N) (x1 : Int32) : Sp k (f_Ro_copy N x1) (f_Mo_copy N x1) := by
  intro c m h
  replace h : Rel k c (mm_I m 355 0 0) := h
  unfold f_Mo_copy
  rw [wr_e]
  generalize mm_I m 355 0 0 = m0 at h ⊢
  have hr := h
  obtain ⟨nc, nt, lg, lgI, a, nx, tl, lc, rc, st, cl, h⟩ := h
  obtain ⟨hL, hM⟩ := RB_L h
  obtain ⟨hm27, hm26, hW, hT, hF, hnc, hnt⟩ := id hM
  obtain ⟨-, s2, s3, s4⟩ := id hL.2.1
  obtain ⟨-, q1, q2, q3, q4, q5, q6⟩ := id hW
  unfold f_Ro_copy
  rcases pk_ix x1 (n := nc) (by omega) with hx | hx | ⟨i, hi, rfl⟩
  · exact no_op (-1) hr (by rw [co_left_f hL.1 (Or.inl hx), ob_e]; rfl) (by rw [mo_isCard_f hm27 (Or.inl hx), ob_e]; rfl)
  · exact no_op (-1) hr (by rw [co_left_f hL.1 (Or.inr hx), ob_e]; rfl) (by rw [mo_isCard_f hm27 (Or.inr hx), ob_e]; rfl)
  · obtain ⟨w1, w2⟩ := mo_leftOf hN n_368 hW hnc hi
    obtain ⟨hz, hz1, hz6, -⟩ := id (hW.1 i hi)
    rw [co_left_t hN hL hi, ob_e, mo_isCard_t hm27 hnc hi, ob_e, w1, ob_e, q3, s3, q3]
    simp (disch := omega) only [l_0, l_1, nI_eq, if_neg, none_R, nI_leI]
    by_cases hl : lef (m0.1 368) i = 0
    · simp only [hl, not_true_eq_false, decide_false, bI_f, if_true]
      refine no_op (-nI 1) hr rfl ?_
      by_cases hmo : moN (m0.1 368) = 0
      · rw [if_pos hmo]
      · rw [if_neg hmo]
    · have hd : (bI (decide (¬ lef (m0.1 368) i = 0)) = nI 0) = False := by rw [bI_0]; simp [hl]
      simp only [hd, hl, if_false]
      by_cases hmo : moN (m0.1 368) = 0
      · have hmo1 : ¬ 1 ≤ moN (m0.1 368) := by omega
        simp only [if_neg hmo1, if_pos hmo]
        exact no_op (-nI 1) hr rfl rfl
      · have hmo1 : 1 ≤ moN (m0.1 368) := by omega
        simp only [if_neg hmo, if_pos hmo1]
        obtain ⟨a', nx', c', m', k1, k2, k3, k4, k5, k6, k7, k8, k9, k10⟩ := RB_keep hN h
        have u1 : m'.1 368 121 = nI (moN (m0.1 368)) := by rw [k8 368 (by decide) (by decide)]; exact q3
        have u2 : c'.1 27 3 = nI (moN (m0.1 368)) := by rw [k6 27 (by decide), s3]; exact q3
        have k11 := RB_ob (D' := 10 * (k + 6)) (b := 1) (v := moN (m0.1 368) - 1) k3 (by omega) k4 (Or.inr ⟨rfl, by omega⟩)
        have hz' : zN ((mm_I m' 368 121 (nI (moN (m0.1 368) - 1))).1 368) i = zN (m0.1 368) i := by
          unfold zN; rw [gI_s, if_neg (by omega), k8 368 (by decide) (by decide)]
        rw [k1, k2, obv_e, obv_e, u1, u2, wr_e, wr_e, pk_sub (by omega)]
        have key := lp_2 (fun fu p (x : MM) => obv (f_Wo_freshen_L16 N 28 fu (nI i) (nI p) x) fun μ4z => (some ((μ4z.1 27 3), μ4z) : Option (Int32 × MM))) (fun fu p (y : MM) => f_Mo_copy_L53 N fu (nI i) (nI p) y) (zN (m0.1 368) i) (fun _ x y => RB (10 * (k + 6)) nc nt lg lgI a' nx' tl lc rc st cl x y ∧ zN (y.1 368) i = zN (m0.1 368) i) (fun X Y => ∃ r c' m', X = some (r, c') ∧ Y = some (r, m') ∧ Rel (k + 6) c' m') (fun fa fb x y hxy => by
            obtain ⟨g1, g2⟩ := hxy
            obtain ⟨hL2, hM2⟩ := RB_L g1
            obtain ⟨y1, y2, y3, y4, -⟩ := id (hM2.2.2.1.1 i hi)
            obtain ⟨e1, e2, e3⟩ := id (hL2.2.1.1 i hi)
            obtain ⟨-, t2, t3, t4⟩ := id hL2.2.1
            rw [g2] at y1
            simp (disch := omega) only [f_Wo_freshen_L16, f_Mo_copy_L53, Nat.reduceAdd, n_29, gd_in, nI_clamp, e1, y1, nI_leI, Nat.le_refl, if_true, obv_e, mo_words n_368, ob_e]
            exact ⟨_, _, _, rfl, by rw [t3], RB_Rel g1⟩) (fun fa fb p x y hp hxy => by
            obtain ⟨g1, g2⟩ := hxy
            obtain ⟨hL2, hM2⟩ := RB_L g1
            obtain ⟨y1, y2, y3, y4, y5⟩ := id (hM2.2.2.1.1 i hi)
            obtain ⟨e1, e2, e3⟩ := id (hL2.2.1.1 i hi)
            have hp' : p < zN (y.1 368) i := by omega
            obtain ⟨f1, f2, f3⟩ := e3 p hp'
            obtain ⟨-, -, -, -, -, v6, v7⟩ := y5 p hp'
            rw [g2] at y1
            simp (disch := omega) only [f_Wo_freshen_L16, f_Mo_copy_L53, Nat.reduceAdd, n_29, n_32, gd_in, nI_clamp, e1, y1, f3, v6, nI_leI, if_neg, mo_words n_368, mo_ink n_368, ob_e, l_0, l_1, l_3, l_4, l_6, l_9, l_20, pk_mul, nI_add, Nat.mul_comm i 6, Nat.le_zero_eq]
            left
            by_cases e : iN (y.1 368) i p = 0
            · simp only [if_pos e]
              exact ⟨x, y, rfl, rfl, g1, g2⟩
            · simp only [if_neg e, wr_e]
              exact ⟨_, _, rfl, rfl, RB_ik g1 (Nat.le_refl _) k4 hi hp' (by omega), by
                rw [← g2]; unfold zN; rw [gI_s, if_neg (by omega)]⟩) (zN (m0.1 368) i) 0 N N _ _ (by omega) (by omega) (by omega) ⟨k11, hz'⟩
        have ef : f_Wo_freshen N 28 (nI i) (mm_I c' 27 3 (nI (moN (m0.1 368) - 1))) = f_Wo_freshen_L16 N 28 N (nI i) (nI 0) (mm_I c' 27 3 (nI (moN (m0.1 368) - 1))) := by
          unfold f_Wo_freshen
          simp (disch := omega) only [l_0, nI_ltI, if_neg, if_pos, Nat.reduceAdd, n_29, show Int32.ofNat 6 = nI 6 from rfl]
        rw [ef]
        exact key
theorem op_lamp {k N : Nat} (hN : 15000 ≤ N) (x1 : Int32) : Sp k (f_Ro_lamp N x1) (f_Mo_lamp N x1) := by
  intro c m h
  replace h : Rel k c (mm_I m 355 0 0) := h
  unfold f_Mo_lamp
  rw [wr_e]
  generalize mm_I m 355 0 0 = m0 at h ⊢
  have hr := h
  obtain ⟨nc, nt, lg, lgI, a, nx, tl, lc, rc, st, cl, h⟩ := h
  obtain ⟨hL, hM⟩ := RB_L h
  obtain ⟨hm27, hm26, hW, hT, hF, hnc, hnt⟩ := id hM
  unfold f_Ro_lamp
  rcases pk_ix x1 (n := nc) (by omega) with hx | hx | ⟨i, hi, rfl⟩
  · exact no_op (-1) hr (by rw [co_left_f hL.1 (Or.inl hx), ob_e]; rfl) (by rw [mo_isCard_f hm27 (Or.inl hx), ob_e]; rfl)
  · exact no_op (-1) hr (by rw [co_left_f hL.1 (Or.inr hx), ob_e]; rfl) (by rw [mo_isCard_f hm27 (Or.inr hx), ob_e]; rfl)
  · obtain ⟨w1, w2⟩ := mo_leftOf hN n_368 hW hnc hi
    obtain ⟨hz, hz1, hz6, -⟩ := id (hW.1 i hi)
    rw [co_left_t hN hL hi, ob_e, mo_isCard_t hm27 hnc hi, ob_e, w1, ob_e]
    simp (disch := omega) only [l_0, l_1, nI_eq, if_neg, none_R]
    by_cases hl : lef (m0.1 368) i = 0
    · simp only [hl, not_true_eq_false, decide_false, bI_f, if_true]
      exact no_op (-nI 1) hr rfl rfl
    · have hd : (bI (decide (¬ lef (m0.1 368) i = 0)) = nI 0) = False := by rw [bI_0]; simp [hl]
      simp only [hd, hl, if_false]
      obtain ⟨a', nx', c', m', k1, k2, k3, k4, k5, k6, k7, k8, k9, k10⟩ := RB_keep hN h
      have hz' : zN (m'.1 368) i = zN (m0.1 368) i := by rw [k8 368 (by decide) (by decide)]
      rw [k1, k2, obv_e, obv_e]
      have key := lp_2 (fun fu p (x : MM) => obv (f_Wo_dim_L16 N 28 fu (nI i) (nI p) x) fun μ3z => ob (f_Wo_leftIn N 28 (nI i) μ3z) fun t49 μ4z => (some (t49, μ4z) : Option (Int32 × MM))) (fun fu p (y : MM) => f_Mo_lamp_L32 N fu (nI i) (nI p) y) (zN (m0.1 368) i) (fun _ x y => RB (10 * k) nc nt lg lgI a' nx' tl lc rc st cl x y ∧ zN (y.1 368) i = zN (m0.1 368) i) (fun X Y => ∃ r c' m', X = some (r, c') ∧ Y = some (r, m') ∧ Rel (k + 6) c' m') (fun fa fb x y hxy => by
          obtain ⟨g1, g2⟩ := hxy
          obtain ⟨hL2, hM2⟩ := RB_L g1
          obtain ⟨y1, y2, y3, y4, -⟩ := id (hM2.2.2.1.1 i hi)
          obtain ⟨e1, e2, e3⟩ := id (hL2.2.1.1 i hi)
          have z1 := (co_leftIn hN hL2 hi).1
          have z2 := (mo_leftOf hN n_368 hM2.2.2.1 hnc hi).1
          rw [g2] at y1
          simp (disch := omega) only [f_Wo_dim_L16, f_Mo_lamp_L32, Nat.reduceAdd, n_29, gd_in, nI_clamp, e1, y1, nI_leI, Nat.le_refl, if_true, obv_e, mo_words n_368, ob_e, z1, z2]
          exact ⟨_, _, _, rfl, rfl, Rel_up g1⟩) (fun fa fb p x y hp hxy => by
          obtain ⟨g1, g2⟩ := hxy
          obtain ⟨hL2, hM2⟩ := RB_L g1
          obtain ⟨y1, y2, y3, y4, y5⟩ := id (hM2.2.2.1.1 i hi)
          obtain ⟨e1, e2, e3⟩ := id (hL2.2.1.1 i hi)
          have hp' : p < zN (y.1 368) i := by omega
          obtain ⟨f1, f2, f3⟩ := e3 p hp'
          obtain ⟨-, -, -, -, -, v6, v7⟩ := y5 p hp'
          rw [g2] at y1
          simp (disch := omega) only [f_Wo_dim_L16, f_Mo_lamp_L32, f_Mo_lamp_B77, Nat.reduceAdd, n_29, n_32, gd_in, nI_clamp, e1, y1, f3, v6, nI_leI, if_neg, mo_words n_368, mo_ink n_368, ob_e, l_0, l_1, l_3, l_4, l_6, l_20, pk_mul, nI_add, Nat.mul_comm i 6, Nat.le_zero_eq, wr_e]
          left
          by_cases e : iN (y.1 368) i p = 0
          · simp only [if_pos e]
            refine ⟨x, y, rfl, ?_, g1, g2⟩
            rw [mm_Id (by rw [v6, e, pk_sub (by omega)])]
          · simp (disch := omega) only [if_neg e, pk_sub]
            exact ⟨_, _, rfl, rfl, RB_ik g1 (Nat.le_refl _) k4 hi hp' (by omega), by
              rw [← g2]; unfold zN; rw [gI_s, if_neg (by omega)]⟩) (zN (m0.1 368) i) 0 N N c' m' (by omega) (by omega) (by omega) ⟨k3, hz'⟩
      have ef : f_Wo_dim N 28 (nI i) c' = f_Wo_dim_L16 N 28 N (nI i) (nI 0) c' := by
        unfold f_Wo_dim
        simp (disch := omega) only [l_0, nI_ltI, if_neg, if_pos, Nat.reduceAdd, n_29, show Int32.ofNat 6 = nI 6 from rfl]
      rw [ef]
      exact key
/-! a card written anew -/
theorem co_takeRow {N i q z : Nat} {c : MM} (hN : 15000 ≤ N) (hi : i < 6) (hq : q < 4) (hz : c.1 44 q = nI z) (hz6 : z ≤ 6) : ∃ c', f_Wo_takeRow N 28 43 (nI i) (nI q) c = some c' ∧ c'.2 = c.2 ∧ (∀ x, x ≠ 29 → x ≠ 30 → x ≠ 31 → x ≠ 32 → c'.1 x = c.1 x) ∧ (∀ x, c'.1 29 x = if x = i then nI z else c.1 29 x) ∧ (∀ j, j < z → c'.1 30 (6 * i + j) = c.1 45 (6 * q + j) ∧ c'.1 31 (6 * i + j) = c.1 46 (6 * q + j) ∧ c'.1 32 (6 * i + j) = nI 9) ∧ ∀ x, x < 6 * i ∨ 6 * i + z ≤ x → c'.1 30 x = c.1 30 x ∧ c'.1 31 x = c.1 31 x ∧ c'.1 32 x = c.1 32 x := by
  have h := lpx (fun fu p (x : MM) => f_Wo_takeRow_L37 N 28 43 fu (nI i) (nI q) (nI p) x) z (fun p x => mm_I (mm_I (mm_I (mm_I x 30 (6 * i + p) (x.1 45 (6 * q + p))) 31 (6 * i + p) (x.1 46 (6 * q + p))) 32 (6 * i + p) (nI 9)) 29 i (nI (p + 1))) (fun x => some x) (fun p a => a.2 = c.2 ∧ (∀ x, x ≠ 29 → x ≠ 30 → x ≠ 31 → x ≠ 32 → a.1 x = c.1 x) ∧ (∀ x, a.1 29 x = if x = i then nI p else c.1 29 x) ∧ (∀ j, j < p → a.1 30 (6 * i + j) = c.1 45 (6 * q + j) ∧ a.1 31 (6 * i + j) = c.1 46 (6 * q + j) ∧ a.1 32 (6 * i + j) = nI 9) ∧ ∀ x, x < 6 * i ∨ 6 * i + p ≤ x → a.1 30 x = c.1 30 x ∧ a.1 31 x = c.1 31 x ∧ a.1 32 x = c.1 32 x) (fun fu a ha => by
      have e : a.1 44 q = nI z := by rw [ha.2.1 44 (by decide) (by decide) (by decide) (by decide)]; exact hz
      simp (disch := omega) only [f_Wo_takeRow_L37, Nat.reduceAdd, n_44, gd_in, nI_clamp, e, nI_leI, Nat.le_refl, if_true]) (fun fu p a hp ha => by
      have e : a.1 44 q = nI z := by rw [ha.2.1 44 (by decide) (by decide) (by decide) (by decide)]; exact hz
      have e2 : a.1 29 i = nI p := by rw [ha.2.2.1 i, if_pos rfl]
      obtain ⟨p1, p2, p3, p4, p5⟩ := ha
      refine ⟨?_, p1, fun x x1 x2 x3 x4 => ?_, fun x => ?_, fun j hj => ?_, fun x hx => ?_⟩
      · simp (disch := omega) only [f_Wo_takeRow_L37, f_Wo_add, Nat.reduceAdd, n_44, n_45, n_46, n_29, n_30, n_31, n_32, gd_in, nI_clamp, e, e2, nI_leI, nI_ltI, if_neg, if_pos, l_0, l_1, l_6, l_9, pk_mul, nI_add, Nat.mul_comm q 6, Nat.mul_comm i 6, show Int32.ofNat 6 = nI 6 from rfl, ob_e, wr_e, gI]
      · rw [gI_o x1, gI_o x4, gI_o x3, gI_o x2, p2 x x1 x2 x3 x4]
      · rw [gI_s]
        by_cases q : x = i
        · rw [if_pos q, if_pos q]
        · rw [if_neg q, if_neg q, gI_o (by decide), gI_o (by decide), gI_o (by decide), p3 x, if_neg q]
      · by_cases q : j = p
        · subst q
          rw [gI_o (by decide), gI_o (by decide), gI_o (by decide), gI_s, if_pos rfl, gI_o (by decide), gI_o (by decide), gI_s, if_pos rfl, gI_o (by decide), gI_s, if_pos rfl, p2 45 (by decide) (by decide) (by decide) (by decide), p2 46 (by decide) (by decide) (by decide) (by decide)]
          exact ⟨rfl, rfl, rfl⟩
        · rw [gI_o (by decide), gI_o (by decide), gI_o (by decide), gI_s, if_neg (by omega), gI_o (by decide), gI_o (by decide), gI_s, if_neg (by omega), gI_o (by decide), gI_o (by decide), gI_s, if_neg (by omega), gI_o (by decide), gI_o (by decide)]
          exact p4 j (by omega)
      · rw [gI_o (by decide), gI_o (by decide), gI_o (by decide), gI_s, if_neg (by omega), gI_o (by decide), gI_o (by decide), gI_s, if_neg (by omega), gI_o (by decide), gI_o (by decide), gI_s, if_neg (by omega), gI_o (by decide), gI_o (by decide)]
        exact p5 x (by omega)) z 0 N (mm_I c 29 i (nI 0)) (by omega) (by omega) ⟨rfl, fun x x1 _ _ _ => gI_o x1, fun x => gI_s, fun j hj => absurd hj (by omega), fun x _ => by rw [gI_o (by decide), gI_o (by decide), gI_o (by decide)]; exact ⟨rfl, rfl, rfl⟩⟩
  obtain ⟨A, h1, h2⟩ := h
  refine ⟨A, ?_, h2⟩
  unfold f_Wo_takeRow
  simp (disch := omega) only [l_0, nI_ltI, nI_leI, if_neg, if_pos, Nat.reduceAdd, n_29, n_44, show Int32.ofNat 6 = nI 6 from rfl, show Int32.ofNat 4 = nI 4 from rfl, gd_in, nI_clamp, wr_e]
  exact h1
