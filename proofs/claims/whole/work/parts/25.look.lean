/-! ===== more looks ===== -/
theorem op_card {k N : Nat} (hN : 15000 ≤ N) (x1 x2 : Int32) : Sp k (f_Ro_card N x1 x2) (f_Mo_card N x1 x2) := Sp_ro fun c m h => by
  unfold f_Mo_card
  rw [wr_e]
  generalize mm_I m 355 0 0 = m0 at h ⊢
  obtain ⟨nc, nt, hL, hM⟩ := Rel_L h
  obtain ⟨hm27, hm26, hW, hT, hF, hnc, hnt⟩ := id hM
  unfold f_Ro_card
  rcases pk_ix x1 (n := nc) (by omega) with hx | hx | ⟨j, hj, rfl⟩
  · exact ⟨-1, by rw [co_isCard_f hL.1 (Or.inl hx), ob_e]; rfl, by rw [mo_isCard_f hm27 (Or.inl hx), ob_e]; rfl⟩
  · exact ⟨-1, by rw [co_isCard_f hL.1 (Or.inr hx), ob_e]; rfl, by rw [mo_isCard_f hm27 (Or.inr hx), ob_e]; rfl⟩
  · have hR := co_isRight hN hL hj
    obtain ⟨⟨-, -, -, -, hpm, hf⟩, ⟨hs, -⟩, -⟩ := id hL
    obtain ⟨e1, e2, -⟩ := hs j hj
    rw [co_isCard_t hL.1 hj, ob_e, mo_isCard_t hm27 hnc hj, ob_e, L_0, L_3, mo_isIn (by decide) (by decide), ob_e]
    simp (disch := omega) only [l_0, l_1, nI_eq, if_neg]
    rcases arg_in x2 (n := 3) (by decide) with hx | hx | ⟨i, hi, rfl⟩
    · have hn : ∀ b : Nat, b < 2 ^ 31 → (x2 = nI b) = False := fun b hb => eq_false fun e => by
        rw [e, nI_ltI hb (by decide)] at hx; omega
      rw [mo_in_f (Or.inl hx)]
      simp (disch := omega) only [bI_f, nI_eq, if_true, hn, l_2, l_3, if_false]
      exact ⟨_, rfl, rfl⟩
    · have hn : ∀ b : Nat, b ≤ 3 → (x2 = nI b) = False := fun b hb => eq_false fun e => by
        rw [e, nI_ltI (by decide) (by omega)] at hx; omega
      rw [mo_in_f (Or.inr hx)]
      simp (disch := omega) only [bI_f, nI_eq, if_true, hn, l_2, l_3, if_false]
      exact ⟨_, rfl, rfl⟩
    · rw [mo_in_t (by omega) hi (by decide)]
      simp (disch := omega) only [bI_t, nI_eq, l_2, l_3, if_neg]
      obtain rfl | rfl | rfl | rfl : i = 0 ∨ i = 1 ∨ i = 2 ∨ i = 3 := by omega
      · simp (disch := omega) only [if_true, gd_in, nI_clamp, l_16, pk_mul, nI_add, hf j hj]
        exact ⟨_, rfl, rfl⟩
      · simp (disch := omega) only [if_true, if_neg, gd_in, nI_clamp, l_20, pk_mul, e2]
        exact ⟨_, rfl, rfl⟩
      · simp (disch := omega) only [if_true, if_neg, gd_in, nI_clamp, e1]
        rw [mo_words n_368 (by omega), ob_e]
        exact ⟨_, rfl, rfl⟩
      · simp (disch := omega) only [if_true, if_neg]
        rw [hR, ob_e, mo_isRight hN n_368 hW hT hm27 hnc hnt hj, ob_e]
        exact ⟨_, rfl, rfl⟩
theorem op_word {k N : Nat} (x1 x2 x3 : Int32) : Sp k (f_Ro_word N x1 x2 x3) (f_Mo_word N x1 x2 x3) := Sp_ro fun c m h => by
  unfold f_Mo_word
  rw [wr_e]
  generalize mm_I m 355 0 0 = m0 at h ⊢
  obtain ⟨nc, nt, hL, hM⟩ := Rel_L h
  obtain ⟨hm27, hm26, hW, hT, hF, hnc, hnt⟩ := id hM
  unfold f_Ro_word
  rcases pk_ix x1 (n := nc) (by omega) with hx | hx | ⟨j, hj, rfl⟩
  · exact ⟨-1, by rw [co_isCard_f hL.1 (Or.inl hx), ob_e]; rfl, by rw [mo_isCard_f hm27 (Or.inl hx), ob_e]; rfl⟩
  · exact ⟨-1, by rw [co_isCard_f hL.1 (Or.inr hx), ob_e]; rfl, by rw [mo_isCard_f hm27 (Or.inr hx), ob_e]; rfl⟩
  · obtain ⟨⟨-, -, -, -, hpm, hf⟩, ⟨hs, -⟩, -⟩ := id hL
    obtain ⟨e1, e2, e3⟩ := hs j hj
    obtain ⟨hz, hz1, hz6, hu, hk9⟩ := hW.1 j hj
    rw [co_isCard_t hL.1 hj, ob_e, mo_isCard_t hm27 hnc hj, ob_e]
    unfold f_Wo_tell
    simp (disch := omega) only [l_0, l_1, nI_eq, if_neg, if_pos, Nat.reduceAdd, n_29, n_30, n_31, n_32, nI_ltI, nI_leI, show Int32.ofNat 6 = nI 6 from rfl, gd_in, nI_clamp, e1, hz]
    rcases pk_ix x2 (n := zN (m0.1 368) j) (by omega) with hx | hx | ⟨i, hi, rfl⟩
    · simp only [show (x2 < nI 0) = True from eq_true hx, if_true, ob_e]
      exact ⟨_, rfl, rfl⟩
    · have hx0 : ¬ x2 < nI 0 := fun q => by
        rw [fa_lt, nI_toInt (by decide)] at q
        rw [fa_le, nI_toInt (by omega)] at hx
        omega
      have hx1 : ¬ x2 < nI (zN (m0.1 368) j) := fun q => (fa_of_lt q).2.1 hx
      rw [mo_words n_368 (by omega), ob_e, hz]
      simp only [if_neg hx0, if_neg hx1, if_pos hx, ob_e]
      exact ⟨_, rfl, rfl⟩
    · obtain ⟨f1, f2, f3⟩ := e3 i hi
      rw [mo_words n_368 (by omega), ob_e, hz, L_0, L_2, mo_isIn (by decide) (by decide), ob_e]
      simp (disch := omega) only [nI_ltI, nI_leI, if_neg, if_pos]
      rcases arg_in x3 (n := 2) (by decide) with hx | hx | ⟨w, hw, rfl⟩
      · have hn : ∀ b : Nat, b < 2 ^ 31 → (x3 = nI b) = False := fun b hb => eq_false fun e => by
          rw [e, nI_ltI hb (by decide)] at hx; omega
        rw [mo_in_f (Or.inl hx)]
        simp (disch := omega) only [bI_f, nI_eq, if_true, hn, l_2, if_false, ob_e]
        exact ⟨_, rfl, rfl⟩
      · have hn : ∀ b : Nat, b ≤ 2 → (x3 = nI b) = False := fun b hb => eq_false fun e => by
          rw [e, nI_ltI (by decide) (by omega)] at hx; omega
        rw [mo_in_f (Or.inr hx)]
        simp (disch := omega) only [bI_f, nI_eq, if_true, hn, l_2, if_false, ob_e]
        exact ⟨_, rfl, rfl⟩
      · rw [mo_in_t (by omega) hw (by decide)]
        simp (disch := omega) only [bI_t, nI_eq, l_2, l_3, l_6, l_20, if_neg, pk_mul, nI_add, gd_in, nI_clamp, Nat.mul_comm j 6, f1, f2, f3]
        obtain rfl | rfl | rfl : w = 0 ∨ w = 1 ∨ w = 2 := by omega
        · simp only [if_true, ob_e, Nat.add_zero]
          exact ⟨_, rfl, rfl⟩
        · simp (disch := omega) only [if_true, if_neg, ob_e]
          exact ⟨_, rfl, by rw [show 20 * j + 2 + 3 * i + 1 = 20 * j + 3 + 3 * i by omega]⟩
        · simp (disch := omega) only [if_true, if_neg, ob_e]
          exact ⟨_, rfl, by rw [show 20 * j + 2 + 3 * i + 2 = 20 * j + 4 + 3 * i by omega]⟩
theorem Rel_D {k : Nat} {c m : MM} (h : Rel k c m) : ∃ rc, DB rc (c.1 0 6) (m.1 355 30) (c.1 44) (c.1 45) (c.1 46) (m.1 367) := by
  obtain ⟨nc, nt, lg, lgI, a, nx, tl, lc, rc, st, cl, h1, h2, h3, h4, h5, h6, h7, h8, h9, h10, h11, h12, h13, h14, h15, h16⟩ := h
  exact ⟨rc, h15⟩
theorem op_reading {k N : Nat} (x1 x2 x3 : Int32) : Sp k (f_Ro_reading N x1 x2 x3) (f_Mo_reading N x1 x2 x3) := Sp_ro fun c m h => by
  unfold f_Mo_reading
  rw [wr_e]
  generalize mm_I m 355 0 0 = m0 at h ⊢
  obtain ⟨rc, hrc, hc6, hm30, hD⟩ := Rel_D h
  unfold f_Ro_reading f_Mo_isReading
  rw [hc6, hm30]
  rcases pk_ix x1 (n := rc) (by omega) with hx | hx | ⟨j, hj, rfl⟩
  · rw [if_pos hx, if_pos hx, ob_e]
    exact ⟨-1, rfl, rfl⟩
  · have hx0 : ¬ x1 < 0 := fun q => by
      rw [fa_lt] at q
      rw [fa_le, nI_toInt (by omega)] at hx
      have : (0 : Int32).toInt = 0 := by decide
      omega
    rw [if_neg hx0, if_neg hx0, if_pos hx, if_pos hx, ob_e]
    exact ⟨-1, rfl, rfl⟩
  · obtain ⟨hz, hz1, hz6, hsz, hk9⟩ := hD j hj
    unfold f_Wo_tell
    simp (disch := omega) only [l_0, l_1, nI_ltI, nI_leI, nI_eq, if_neg, if_pos, ob_e, l_13, pk_mul, gd_in, nI_clamp, hz, Nat.reduceAdd, n_44, n_45, n_46, n_47, show Int32.ofNat 4 = nI 4 from rfl, hsz]
    rcases pk_ix x2 (n := rzN (m0.1 367) j) (by omega) with hx | hx | ⟨i, hi, rfl⟩
    · simp only [if_pos (show x2 < nI 0 from hx), ob_e]
      refine ⟨-nI 1, ?_, rfl⟩
      by_cases hx3 : x3 = 2
      · rw [if_pos hx3]
      · rw [if_neg hx3]
    · have hx0 : ¬ x2 < nI 0 := fun q => by
        rw [fa_lt, nI_toInt (by decide)] at q
        rw [fa_le, nI_toInt (by omega)] at hx
        omega
      have hx1 : ¬ x2 < nI (rzN (m0.1 367) j) := fun q => (fa_of_lt q).2.1 hx
      simp only [if_neg hx0, if_neg hx1, if_pos hx, ob_e]
      refine ⟨-nI 1, ?_, rfl⟩
      by_cases hx3 : x3 = 2
      · rw [if_pos hx3]
      · rw [if_neg hx3]
    · obtain ⟨g1, g2, g3, g4, g5, g6, g7⟩ := hk9 i hi
      rw [L_0, L_1, mo_isIn (by decide) (by decide), ob_e]
      simp (disch := omega) only [nI_ltI, nI_leI, if_neg, if_pos]
      rcases arg_in x3 (n := 1) (by decide) with hx | hx | ⟨w, hw, rfl⟩
      · have hn : ∀ b : Nat, b < 2 ^ 31 → (x3 = nI b) = False := fun b hb => eq_false fun e => by
          rw [e, nI_ltI hb (by decide)] at hx; omega
        rw [mo_in_f (Or.inl hx)]
        simp (disch := omega) only [bI_f, nI_eq, if_true, hn, l_2, if_false, ob_e]
        exact ⟨_, rfl, rfl⟩
      · have hn : ∀ b : Nat, b ≤ 1 → (x3 = nI b) = False := fun b hb => eq_false fun e => by
          rw [e, nI_ltI (by decide) (by omega)] at hx; omega
        rw [mo_in_f (Or.inr hx)]
        simp (disch := omega) only [bI_f, nI_eq, if_true, hn, l_2, if_false, ob_e]
        refine ⟨-nI 1, ?_, rfl⟩
        by_cases hx3 : x3 = nI 2
        · rw [if_pos hx3]
        · rw [if_neg hx3]
      · rw [mo_in_t (by omega) hw (by decide)]
        simp (disch := omega) only [bI_t, nI_eq, l_2, l_6, if_neg, pk_mul, nI_add, gd_in, nI_clamp, Nat.mul_comm j 6, g6, g7]
        obtain rfl | rfl : w = 0 ∨ w = 1 := by omega
        · simp only [if_true, ob_e, Nat.add_zero]
          exact ⟨_, rfl, rfl⟩
        · simp (disch := omega) only [if_true, if_neg, ob_e]
          exact ⟨_, rfl, by rw [show 13 * j + 1 + 2 * i + 1 = 13 * j + 2 + 2 * i by omega]⟩
theorem co_gone {N nc nt : Nat} (hN : 15000 ≤ N) {g T F : Nat → Int32} {μ : MM} (h : LK nc nt g T F μ) : f_Co_goneWords N 23 μ = some (nI (fo (fun c n => n + (zN g c - lef g c)) nc 0 0), μ) ∧ fo (fun c n => n + (zN g c - lef g c)) nc 0 0 ≤ 6 * nc := by
  have hl9 := fun c hc => co_leftIn hN (c := c) h hc
  obtain ⟨⟨h1, h0, hnc, hnt, hpm, hf⟩, ⟨hs, -⟩, ⟨hw, -⟩, hT, -⟩ := h
  exact lpf (fun fu k (n : Nat) => f_Co_goneWords_L4 N 23 fu (nI n) (nI k) μ) nc (fun c n => n + (zN g c - lef g c)) (fun n => some (nI n, μ)) (fun k n => n ≤ 6 * k) (fun fu n hn => by
      simp (disch := omega) only [f_Co_goneWords_L4, h1, nI_leI, Nat.le_refl, if_true]) (fun fu k n hk hn => by
      obtain ⟨hz, hz1, hz6, hu, hk9⟩ := hw k hk
      obtain ⟨e1, e2, e3⟩ := hs k hk
      obtain ⟨q1, q2⟩ := hl9 k hk
      refine ⟨?_, by omega⟩
      simp (disch := omega) only [f_Co_goneWords_L4, h1, nI_leI, if_neg, Nat.reduceAdd, n_29, gd_in, nI_clamp, e1, hz]
      rw [q1, ob_e, pk_sub q2, nI_add, l_1, nI_add]) nc 0 N 0 (by omega) (by omega) (by omega)
theorem mo_gone {N nc nt c : Nat} (hN : 15000 ≤ N) {m : MM} (h : MK nc nt m) (hc : c < nc) : f_Mo_goneOf N (nI c) m = some (nI (zN (m.1 368) c - lef (m.1 368) c), m) ∧ lef (m.1 368) c ≤ zN (m.1 368) c := by
  obtain ⟨hm27, hm26, hW, hT, hF, hnc, hnt⟩ := h
  obtain ⟨hz, hz1, hz6, hu, hk9⟩ := hW.1 c hc
  obtain ⟨q1, q2⟩ := mo_leftOf hN n_368 hW hnc hc
  unfold f_Mo_goneOf
  rw [mo_words n_368 (by omega), ob_e, q1, ob_e, hz, pk_sub q2]
  exact ⟨rfl, q2⟩
theorem mo_goneAll {N nc nt : Nat} (hN : 15000 ≤ N) {m : MM} (h : MK nc nt m) : f_Mo_count_L144 N N 0 0 m = some (nI (fo (fun c n => n + (zN (m.1 368) c - lef (m.1 368) c)) nc 0 0), m) := by
  have hg := fun c hc => mo_gone hN (c := c) h hc
  obtain ⟨hm27, hm26, hW, hT, hF, hnc, hnt⟩ := h
  exact (lpf (fun fu k (n : Nat) => f_Mo_count_L144 N fu (nI n) (nI k) m) nc (fun c n => n + (zN (m.1 368) c - lef (m.1 368) c)) (fun n => some (nI n, m)) (fun k n => True) (fun fu n hn => by
      simp (disch := omega) only [f_Mo_count_L144, hm27, nI_leI, Nat.le_refl, if_true]) (fun fu k n hk hn => by
      refine ⟨?_, trivial⟩
      simp (disch := omega) only [f_Mo_count_L144, hm27, nI_leI, if_neg]
      rw [(hg k hk).1, ob_e, nI_add, l_1, nI_add]) nc 0 N 0 (by omega) (by omega) trivial).1
theorem ite2 {p : Prop} [Decidable p] {a1 a2 b1 b2 : Option (Int32 × MM)} {c m : MM} (h1 : ∃ r, a1 = some (r, c) ∧ b1 = some (r, m)) (h2 : ∃ r, a2 = some (r, c) ∧ b2 = some (r, m)) : ∃ r, (if p then a1 else a2) = some (r, c) ∧ (if p then b1 else b2) = some (r, m) := by
  by_cases h : p
  · simpa only [if_pos h] using h1
  · simpa only [if_neg h] using h2
theorem sm2 {x y : Int32} {c m : MM} (h : x = y) : ∃ r, (some (x, c) : Option (Int32 × MM)) = some (r, c) ∧ some (y, m) = some (r, m) := ⟨y, by rw [h], rfl⟩
theorem op_count {k N : Nat} (hN : 15000 ≤ N) (x1 : Int32) : Sp k (f_Ro_count N x1) (f_Mo_count N x1) := Sp_ro fun c m h => by
  unfold f_Mo_count
  rw [wr_e]
  generalize mm_I m 355 0 0 = m0 at h ⊢
  obtain ⟨nc, nt, lg, lgI, a, nx, tl, lc, rc, st, cl, h1, h2, h3, h4, h5, h6, h7, h8, h9, h10, h11, h12, h13, h14, h15, h16, h17⟩ := h
  have hL : LK nc nt (m0.1 368) (m0.1 362) (m0.1 365) c := ⟨h1, h5, h6, h3, h4⟩
  have hM : MK nc nt m0 := ⟨h2.1, h2.2, h6, h3, h4, h1.2.2.1, h1.2.2.2.1⟩
  unfold f_Ro_count
  refine ite2 (sm2 (h1.1.trans h2.1.symm)) (ite2 (sm2 (h1.2.1.trans h2.2.symm)) (ite2 (sm2 (h14.2.1.trans h14.2.2.1.symm)) (ite2 (sm2 (h15.2.1.trans h15.2.2.1.symm)) (ite2 (sm2 (h13.2.1.trans h13.2.2.1.symm)) (ite2 (sm2 h14.2.2.2.1) (ite2 (sm2 h5.2.2.2) (ite2 (sm2 h5.2.1) (ite2 (sm2 h5.2.2.1) (ite2 (sm2 (h17.1.trans h17.2.1.symm)) (ite2 (sm2 (h16.2.1.trans h16.2.2.1.symm)) (ite2 ?_ (ite2 ?_ (ite2 (sm2 (h11.2.2.1.trans h11.2.2.2.2.1.symm)) (sm2 rfl))))))))))))))
  · rw [(co_gone hN hL).1, ob_e, mo_goneAll hN hM]
    exact ⟨_, rfl, rfl⟩
  · unfold f_Ag_logLength
    rw [ob_e]
    refine sm2 ?_
    obtain ⟨hw, q1, q2, q3, q4, q5, q6⟩ := h6
    rw [h5.2.2.2, q5, h7.1]
    by_cases hd : dyN (m0.1 368) < 60
    · rw [l_60, if_pos ((nI_ltI (by omega) (by omega)).mpr hd), Nat.min_eq_right (by omega)]
    · rw [l_60, if_neg (fun q => hd ((nI_ltI (by omega) (by omega)).mp q)), Nat.min_eq_left (by omega)]
theorem HB_I {a nx nc nt : Nat} {lg : Nat → Nat → Nat} {cs cn ma : Int32} {c : MM} {b j : Nat} {v : Int32} {U g : Nat → Int32} (h : HB a nx nc nt lg cs cn ma c.1 U g) (hb : b < 53 ∨ 333 ≤ b) : HB a nx nc nt lg cs cn ma (mm_I c b j v).1 U g := HB_c h (fun i h1 h2 => by
  show up_2 c.1 b j v i = c.1 i
  exact up_2_ne (by omega))
theorem HB_F {a nx nc nt : Nat} {lg : Nat → Nat → Nat} {cs cn ma : Int32} {c : MM} {b : Nat} {f : Nat → Int32} {U g : Nat → Int32} (h : HB a nx nc nt lg cs cn ma c.1 U g) (hb : b < 53 ∨ 333 ≤ b) : HB a nx nc nt lg cs cn ma (mm_F c b f).1 U g := HB_c h (fun i h1 h2 => by
  funext j
  show (if i = b then f j else c.1 i j) = c.1 i j
  rw [if_neg (by omega)])
theorem op_law {k N : Nat} (x1 : Int32) : Sp k (f_Ro_law N x1) (f_Mo_law N x1) := by
  intro c m h
  replace h : Rel k c (mm_I m 355 0 0) := h
  unfold f_Mo_law
  rw [wr_e]
  generalize mm_I m 355 0 0 = m0 at h ⊢
  have hr := Rel_k h (show k ≤ k + 6 by omega)
  obtain ⟨nc, nt, lg, lgI, a, nx, tl, lc, rc, st, cl, h1, h2, h3, h4, h5, h6, h7, h8, h9, h10, h11, h12, h13, h14, h15, h16, h17⟩ := h
  obtain ⟨w1, w2, w3, w4, w5, w6⟩ := h14
  have hnew : ∀ x : Int32, (x = -nI 1 ∨ ∃ j, j < lc ∧ x = nI j) → Rel (k + 6) (mm_I c 34 1 x) (mm_I m0 355 34 x) := fun x hx => ⟨nc, nt, lg, lgI, a, nx, tl, lc, rc, st, cl, h1, h2, h3, h4, h5, h6, h7, h8, h9, by show dyN (m0.1 368) ≤ _; omega, HB_I h11 (by omega), IB_k h12 (by omega), h13, ⟨w1, w2, w3, rfl, hx, w6⟩, h15, h16, h17⟩
  unfold f_Ro_law
  rw [w2, w3]
  by_cases hx1 : x1 = -1
  · subst hx1
    rw [if_neg (by decide), if_pos (show (-1 : Int32) < nI lc from (m_gt (a := lc) (by omega)).mpr trivial), if_pos rfl, wr_e]
    exact ⟨1, _, _, rfl, rfl, hnew _ (Or.inl rfl)⟩
  · rw [if_neg hx1, show (0 : Int64) = (nI 0).toInt64 by decide, mo_isInI, ob_e]
    rcases pk_ix x1 (n := lc) (by omega) with hx | hx | ⟨j, hj, rfl⟩
    · have h3 : x1 < -1 := by
        have e1 : ¬ x1.toInt = (-1 : Int32).toInt := fun e => hx1 (Int32.toInt_inj.mp e)
        rw [fa_lt] at hx ⊢
        have : (0 : Int32).toInt = 0 := by decide
        have : (-1 : Int32).toInt = -1 := by decide
        omega
      rw [if_pos h3, decide_eq_false (show ¬ nI 0 ≤ x1 from fun q => (fa_of_lt hx).2.1 q), Bool.false_and]
      exact ⟨0, _, _, rfl, rfl, hr⟩
    · have e0 : ¬ x1 ≤ nI lc - 1 := fun q => by
        have : (nI lc - nI 1).toInt = (lc : Int) - 1 := pk_sub_toInt (by omega) (by decide)
        rw [fa_le] at hx q
        rw [show nI lc - 1 = nI lc - nI 1 from rfl, this] at q
        rw [nI_toInt (by omega)] at hx
        omega
      have e1 : ¬ x1 < nI lc := fun q => (fa_of_lt q).2.1 hx
      rw [decide_eq_false e0, Bool.and_false, if_neg e1]
      refine ⟨0, _, _, ?_, rfl, hr⟩
      split <;> rfl
    · have e0 : nI j ≤ nI lc - 1 := by
        rw [show nI lc - 1 = nI lc - nI 1 from rfl, pk_sub (by omega), nI_leI (by omega) (by omega)]; omega
      have e1 : nI j < nI lc := (nI_ltI (by omega) (by omega)).mpr hj
      rw [decide_eq_true e0, decide_eq_true (show nI 0 ≤ nI j from (nI_leI (by omega) (by omega)).mpr (by omega)), if_neg (fun q => by
        have := (m_lt (a := j) (by omega)).mp q; exact this), if_pos e1, wr_e]
      exact ⟨1, _, _, rfl, rfl, hnew _ (Or.inr ⟨j, hj, rfl⟩)⟩
theorem op_cleaner {k N : Nat} (x1 : Int32) : Sp k (f_Ro_cleaner N x1) (f_Mo_cleaner N x1) := by
  intro c m h
  replace h : Rel k c (mm_I m 355 0 0) := h
  unfold f_Mo_cleaner
  rw [wr_e]
  generalize mm_I m 355 0 0 = m0 at h ⊢
  have hr := Rel_k h (show k ≤ k + 6 by omega)
  obtain ⟨nc, nt, lg, lgI, a, nx, tl, lc, rc, st, cl, h1, h2, h3, h4, h5, h6, h7, h8, h9, h10, h11, h12, h13, h14, h15, h16, h17⟩ := h
  obtain ⟨w1, w2, w3⟩ := h17
  have hnew : ∀ j : Nat, j ≤ 99 → Rel (k + 6) (mm_I c 0 15 (nI j)) (mm_I m0 355 35 (nI j)) := fun j hj => ⟨nc, nt, lg, lgI, a, nx, tl, lc, rc, st, j, h1, h2, h3, h4, h5, h6, h7, h8, h9, by show dyN (m0.1 368) ≤ _; omega, HB_I h11 (by omega), IB_k h12 (by omega), h13, h14, h15, h16, ⟨rfl, rfl, hj⟩⟩
  unfold f_Ro_cleaner
  rw [w1, L_0, L_99, mo_isIn (by decide) (by decide), ob_e, w2]
  rcases arg_in x1 (n := 99) (by decide) with hx | hx | ⟨j, hj, rfl⟩
  · rw [if_pos (show x1 < 0 from hx), mo_in_f (Or.inl hx)]
    exact ⟨0, _, _, rfl, rfl, hr⟩
  · have hx0 : ¬ x1 < 0 := fun q => by
      rw [fa_lt] at q hx
      have : (0 : Int32).toInt = 0 := by decide
      have : (nI 99).toInt = 99 := by decide
      omega
    rw [if_neg hx0, if_pos (show 99 < x1 from hx), mo_in_f (Or.inr hx)]
    exact ⟨0, _, _, rfl, rfl, hr⟩
  · rw [mo_in_t (by omega) hj (by decide)]
    simp (disch := omega) only [l_0, l_99, l_1, bI_t, nI_eq, nI_ltI, if_neg]
    by_cases e : j = cl
    · simp only [if_pos e]
      exact ⟨_, _, _, rfl, rfl, hr⟩
    · simp only [if_neg e, wr_e]
      exact ⟨_, _, _, rfl, rfl, hnew j hj⟩
theorem op_end {k N : Nat} (x1 : Int32) : Sp k (f_Ro_end N x1) (f_Mo_end N x1) := by
  intro c m h
  replace h : Rel k c (mm_I m 355 0 0) := h
  unfold f_Mo_end
  rw [wr_e]
  generalize mm_I m 355 0 0 = m0 at h ⊢
  have hr := Rel_k h (show k ≤ k + 6 by omega)
  obtain ⟨nc, nt, lg, lgI, a, nx, tl, lc, rc, st, cl, h1, h2, h3, h4, h5, h6, h7, h8, h9, h10, h11, h12, h13, h14, h15, h16, h17⟩ := h
  obtain ⟨w1, w2, w3, w4⟩ := h13
  have hnew : ∀ j : Nat, j ≤ tl → Rel (k + 6) (mm_I c 1 1 (nI j)) (mm_I m0 355 6 (nI j)) := fun j hj => ⟨nc, nt, lg, lgI, a, nx, j, lc, rc, st, cl, h1, h2, h3, h4, h5, h6, h7, h8, h9, by show dyN (m0.1 368) ≤ _; omega, HB_I h11 (by omega), IB_k h12 (by omega), ⟨by omega, rfl, rfl, fun i hi => w4 i (by omega)⟩, h14, h15, h16, h17⟩
  unfold f_Ro_end
  rw [w2, w3]
  rcases arg_in x1 (n := tl) (by omega) with hx | hx | ⟨j, hj, rfl⟩
  · rw [if_pos (show x1 < 0 from hx), if_pos (show x1 < 0 from hx)]
    exact ⟨0, _, _, rfl, rfl, hr⟩
  · have hx1 : ¬ x1 ≤ nI tl := (fa_of_lt hx).2.1
    rw [if_neg hx1, if_neg hx1]
    refine ⟨0, c, m0, ?_, ?_, hr⟩
    · split <;> rfl
    · split <;> rfl
  · simp (disch := omega) only [l_0, l_1, nI_ltI, nI_leI, if_neg, if_pos, wr_e]
    exact ⟨_, _, _, rfl, rfl, hnew j hj⟩
