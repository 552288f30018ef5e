/-! ===== a card written anew; undone; images ===== -/
theorem mo_lays {N q0 q2 i r z v : Nat} {m : MM} (hN : 15000 ≤ N) (hq0 : sh_n q0 = 304) (hne : q2 ≠ q0) (hi : i < 6) (hr : r + 2 * z < sh_n q2) (hs : sh_n q2 < 1000) (hz : m.1 q2 r = nI z) (hz6 : z ≤ 6) : ∃ m', f_Mo_lays N q0 q2 (nI i) (nI r) (nI v) m = some m' ∧ m'.2 = m.2 ∧ (∀ x, x ≠ q0 → m'.1 x = m.1 x) ∧ m'.1 q0 (20 * i + 1) = nI z ∧ (∀ j, j < z → m'.1 q0 (20 * i + 2 + 3 * j) = m.1 q2 (r + 1 + 2 * j) ∧ m'.1 q0 (20 * i + 3 + 3 * j) = m.1 q2 (r + 2 + 2 * j) ∧ m'.1 q0 (20 * i + 4 + 3 * j) = nI v) ∧ ∀ x, x < 20 * i + 1 ∨ 20 * i + 2 + 3 * z ≤ x → m'.1 q0 x = m.1 q0 x := by
  have h := lpx (fun fu p (x : MM) => f_Mo_lays_L18 N q0 q2 fu (nI i) (nI r) (nI v) (nI z) (nI p) x) z (fun p x => mm_I (mm_I (mm_I x q0 (20 * i + 2 + 3 * p) (x.1 q2 (r + 1 + 2 * p))) q0 (20 * i + 3 + 3 * p) (x.1 q2 (r + 2 + 2 * p))) q0 (20 * i + 4 + 3 * p) (nI v)) (fun x => some x) (fun p a => a.2 = m.2 ∧ (∀ x, x ≠ q0 → a.1 x = m.1 x) ∧ a.1 q0 (20 * i + 1) = nI z ∧ (∀ j, j < p → a.1 q0 (20 * i + 2 + 3 * j) = m.1 q2 (r + 1 + 2 * j) ∧ a.1 q0 (20 * i + 3 + 3 * j) = m.1 q2 (r + 2 + 2 * j) ∧ a.1 q0 (20 * i + 4 + 3 * j) = nI v) ∧ ∀ x, x < 20 * i + 1 ∨ 20 * i + 2 + 3 * p ≤ x → a.1 q0 x = m.1 q0 x) (fun fu a ha => by
      simp (disch := omega) only [f_Mo_lays_L18, nI_leI, Nat.le_refl, if_true]) (fun fu p a hp ha => by
      obtain ⟨p1, p2, p3, p4, p5⟩ := ha
      refine ⟨?_, p1, fun x x1 => ?_, ?_, fun j hj => ?_, fun x hx => ?_⟩
      · have e1 : (mm_I a q0 (20 * i + 2 + 3 * p) (a.1 q2 (r + 1 + 2 * p))).1 q2 = a.1 q2 := gI_o hne
        simp (disch := omega) only [f_Mo_lays_L18, hq0, gd_in, nI_clamp, nI_leI, if_neg, l_1, l_2, l_3, l_4, l_20, pk_mul, nI_add, wr_e, e1]
      · rw [gI_o x1, gI_o x1, gI_o x1, p2 x x1]
      · rw [gI_s, if_neg (by omega), gI_s, if_neg (by omega), gI_s, if_neg (by omega)]; exact p3
      · by_cases q : j = p
        · subst q
          refine ⟨?_, ?_, ?_⟩
          · rw [gI_s, if_neg (by omega), gI_s, if_neg (by omega), gI_s, if_pos rfl, p2 q2 hne]
          · rw [gI_s, if_neg (by omega), gI_s, if_pos rfl, p2 q2 hne]
          · rw [gI_s, if_pos rfl]
        · obtain ⟨t1, t2, t3⟩ := p4 j (by omega)
          refine ⟨?_, ?_, ?_⟩
          · rw [gI_s, if_neg (by omega), gI_s, if_neg (by omega), gI_s, if_neg (by omega)]; exact t1
          · rw [gI_s, if_neg (by omega), gI_s, if_neg (by omega), gI_s, if_neg (by omega)]; exact t2
          · rw [gI_s, if_neg (by omega), gI_s, if_neg (by omega), gI_s, if_neg (by omega)]; exact t3
      · rw [gI_s, if_neg (by omega), gI_s, if_neg (by omega), gI_s, if_neg (by omega)]
        exact p5 x (by omega)) z 0 N (mm_I m q0 (20 * i + 1) (nI z)) (by omega) (by omega) ⟨rfl, fun x x1 => gI_o x1, by rw [gI_s, if_pos rfl], fun j hj => absurd hj (by omega), fun x hx => by rw [gI_s, if_neg (by omega)]⟩
  obtain ⟨A, h1, h2⟩ := h
  refine ⟨A, ?_, h2⟩
  unfold f_Mo_lays
  simp (disch := omega) only [hq0, l_1, l_20, pk_mul, nI_add, gd_in, nI_clamp, wr_e, hz]
  exact h1
theorem op_write {k N : Nat} (hN : 15000 ≤ N) (x1 x2 : Int32) : Sp k (f_Ro_write N x1 x2) (f_Mo_write N x1 x2) := by
  intro c m h
  replace h : Rel k c (mm_I m 355 0 0) := h
  unfold f_Mo_write
  rw [wr_e]
  generalize mm_I m 355 0 0 = m0 at h ⊢
  have hr := h
  obtain ⟨nc, nt, lg, lgI, a, nx, tl, lc, rc, st, cl, h⟩ := h
  obtain ⟨hL, hM⟩ := RB_L h
  obtain ⟨hm27, hm26, hW, hT, hF, hnc, hnt⟩ := id hM
  obtain ⟨hrc, hc6, hm30, hD⟩ := id h.2.2.2.2.2.2.2.2.2.2.2.2.2.2.1
  unfold f_Ro_write
  rcases pk_ix x1 (n := nc) (by omega) with hx | hx | ⟨i, hi, rfl⟩
  · exact no_op (-1) hr (by rw [co_isCard_f hL.1 (Or.inl hx), ob_e]; rfl) (by rw [mo_isCard_f hm27 (Or.inl hx), ob_e]; rfl)
  · exact no_op (-1) hr (by rw [co_isCard_f hL.1 (Or.inr hx), ob_e]; rfl) (by rw [mo_isCard_f hm27 (Or.inr hx), ob_e]; rfl)
  · obtain ⟨e1, e2, -⟩ := hL.2.1.1 i hi
    rw [co_isCard_t hL.1 hi, ob_e, mo_isCard_t hm27 hnc hi, ob_e]
    unfold f_Mo_isReading
    rw [hc6, hm30]
    simp (disch := omega) only [l_0, l_1, nI_eq, if_neg]
    rcases pk_ix x2 (n := rc) (by omega) with hx | hx | ⟨q, hq, rfl⟩
    · simp only [eq_true (show x2 < nI 0 from hx), if_true, ob_e]
      exact no_op (-nI 1) hr rfl rfl
    · have hx0 : ¬ x2 < nI 0 := fun q => by
        rw [fa_lt, nI_toInt (by decide)] at q
        rw [fa_le, nI_toInt (by omega)] at hx
        omega
      simp only [eq_false hx0, if_false, eq_true hx, if_true, ob_e]
      exact no_op (-nI 1) hr rfl rfl
    · simp (disch := omega) only [nI_ltI, nI_leI, nI_eq, if_neg, ob_e, gd_in, nI_clamp, l_20, l_13, pk_mul, e2]
      by_cases hu : m0.1 368 (20 * i) = -nI 1
      · simp only [if_pos hu]
        obtain ⟨a', nx', c', m', k1, k2, k3, k4, k5, k6, k7, k8, k9, k10⟩ := RB_keep hN h
        rw [k1, k2, obv_e, obv_e]
        obtain ⟨d1, d2, d3, d4, d5⟩ := hD q hq
        obtain ⟨c2, r1, r2, r3, r4, r5, r6⟩ := co_takeRow (N := N) (i := i) (q := q) (z := rzN (m0.1 367) q) (c := c') hN (by omega) (by omega) (by rw [k6 44 (by decide), d4]; exact d1) d3
        obtain ⟨m2, s1, s2, s3, s4, s5, s6⟩ := mo_lays (N := N) (q0 := 368) (q2 := 367) (i := i) (r := 13 * q) (z := rzN (m0.1 367) q) (v := 9) (m := m') hN n_368 (by decide) (by omega) (by rw [n_367]; omega) (by rw [n_367]; omega) (by rw [k8 367 (by decide) (by decide)]; exact d1) d3
        rw [r1, l_9, s1, obv_e, obv_e, mo_words n_368 (by omega), ob_e, s4, r4 i, if_pos rfl]
        refine ⟨_, _, _, rfl, rfl, ⟨nc, nt, lg, lgI, a', nx', tl, lc, rc, st, cl, ?_⟩⟩
        have w367 : m'.1 367 = m0.1 367 := k8 367 (by decide) (by decide)
        have w368 : m'.1 368 = m0.1 368 := k8 368 (by decide) (by decide)
        have hzi : zN (m2.1 368) i = rzN (m0.1 367) q := by unfold zN; rw [s4, nI_clamp (by omega)]
        have hzo : ∀ x, x < nc → x ≠ i → zN (m2.1 368) x = zN (m0.1 368) x := fun x hx hxi => by unfold zN; rw [s6 _ (by omega), w368]
        obtain ⟨t1, t2, t3, t4⟩ := hL.2.1
        obtain ⟨y0, y1, y2, y3, y4, y5, y6⟩ := hW
        have hL' := (RB_L k3).1
        refine RB_now k3 (by omega) k4 (fun x hx => r3 x (by omega) (by omega) (by omega) (by omega)) s3 ?_ ?_ (fun x hx => s6 x (by omega))
        · rw [r3 27 (by decide) (by decide) (by decide) (by decide), r3 33 (by decide) (by decide) (by decide) (by decide), k6 27 (by decide), k6 33 (by decide)]
          refine ⟨fun x hx => ?_, by rw [s6 _ (by omega), w368]; exact t2, by rw [s6 _ (by omega), w368]; exact t3, by rw [s6 _ (by omega), w368]; exact t4⟩
          obtain ⟨g1, g2, g3⟩ := t1 x hx
          by_cases hxi : x = i
          · subst hxi
            rw [hzi]
            refine ⟨by rw [r4, if_pos rfl, s4], by rw [s6 _ (by omega), w368]; exact g2, fun p hp => ?_⟩
            obtain ⟨v1, v2, v3⟩ := r5 p hp
            obtain ⟨u1, u2, u3⟩ := s5 p hp
            obtain ⟨-, -, -, -, -, j6, j7⟩ := d5 p hp
            rw [v1, v2, v3, u1, u2, u3, k6 45 (by decide), k6 46 (by decide), j6, j7, w367]
            exact ⟨rfl, rfl, rfl⟩
          · have z6 := (y0 x hx).2.2.1
            rw [hzo x hx hxi]
            refine ⟨by rw [r4, if_neg hxi, s6 _ (by omega), w368, k6 29 (by decide)]; exact g1, by rw [s6 _ (by omega), w368]; exact g2, fun p hp => ?_⟩
            obtain ⟨v1, v2, v3⟩ := r6 (6 * x + p) (by omega)
            rw [v1, v2, v3, s6 _ (by omega), s6 _ (by omega), s6 _ (by omega), w368, k6 30 (by decide), k6 31 (by decide), k6 32 (by decide)]
            exact g3 p hp
        · refine ⟨fun x hx => ?_, ?_⟩
          · obtain ⟨g1, g2, g3, g4, g5⟩ := y0 x hx
            have hu0 : uT (m2.1 368) x = uT (m0.1 368) x := by unfold uT; rw [s6 _ (by omega), w368]
            by_cases hxi : x = i
            · subst hxi
              rw [hzi, hu0, s4, s6 _ (by omega), w368]
              refine ⟨rfl, d2, d3, g4, fun p hp => ?_⟩
              obtain ⟨u1, u2, u3⟩ := s5 p hp
              obtain ⟨j1, j2, j3, j4, j5, -, -⟩ := d5 p hp
              have o1 : oN (m2.1 368) x p = roN (m0.1 367) q p := by unfold oN roN; rw [u1, w367]
              have o2 : aN (m2.1 368) x p = raN (m0.1 367) q p := by unfold aN raN; rw [u2, w367]
              have o3 : iN (m2.1 368) x p = 9 := by unfold iN; rw [u3, nI_clamp (by omega)]
              rw [o1, o2, o3, u1, u2, u3, w367]
              exact ⟨j1, j2, j3, j4, j5, rfl, by omega⟩
            · rw [hzo x hx hxi, hu0, s6 _ (by omega), s6 _ (by omega), w368]
              refine ⟨g1, g2, g3, g4, fun p hp => ?_⟩
              have o1 : oN (m2.1 368) x p = oN (m0.1 368) x p := by unfold oN; rw [s6 _ (by omega), w368]
              have o2 : aN (m2.1 368) x p = aN (m0.1 368) x p := by unfold aN; rw [s6 _ (by omega), w368]
              have o3 : iN (m2.1 368) x p = iN (m0.1 368) x p := by unfold iN; rw [s6 _ (by omega), w368]
              rw [o1, o2, o3, s6 _ (by omega), s6 _ (by omega), s6 _ (by omega), w368]
              exact g5 p hp
          · unfold liN moN dyN
            rw [s6 _ (by omega), s6 _ (by omega), s6 _ (by omega), w368]
            exact ⟨y1, y2, y3, y4, y5, y6⟩
      · simp only [if_neg hu]
        exact no_op (-nI 1) hr rfl rfl
theorem hday_0 {a nx nc nt : Nat} {lg : Nat → Nat → Nat} {cs cn ma : Int32} {c : Nat → Nat → Int32} {U g : Nat → Int32} (h : HB a nx nc nt lg cs cn ma c U g) : ∀ j, j ≤ a → hday a U g 0 ≤ hday a U g j := by
  intro j
  induction j with
  | zero => intro _; exact Nat.le_refl _
  | succ j ih => intro hj; exact Nat.le_trans (ih (by omega)) (h.2.2.2.2.2 j (by omega)).2.2.2.1
theorem hday_a {a : Nat} {U g : Nat → Int32} : hday a U g a = dyN g := by unfold hday; rw [if_neg (by omega)]
theorem op_undo {k N : Nat} (hN : 15000 ≤ N) : Sp k (f_Ro_undo N) (f_Mo_undo N) := by
  intro c m h
  replace h : Rel k c (mm_I m 355 0 0) := h
  unfold f_Mo_undo
  rw [wr_e]
  generalize mm_I m 355 0 0 = m0 at h ⊢
  have hr := h
  obtain ⟨nc, nt, lg, lgI, a, nx, tl, lc, rc, st, cl, h⟩ := h
  obtain ⟨h1, h2, h3, h4, h5, h6, h7, h8, h9, h10, h11, -⟩ := id h
  have hnc := h1.2.2.1
  obtain ⟨b1, b2, b3, b4, b5, b6⟩ := id h11
  unfold f_Ro_undo f_Hi_undoInto
  rw [b3, b5]
  simp (disch := omega) only [l_0, nI_eq]
  by_cases h0 : a = 0
  · simp only [if_pos h0, ob_e]
    exact no_op _ hr rfl rfl
  · simp only [if_neg h0]
    obtain ⟨r1, r2, r3, r4, r5⟩ := b6 (a - 1) (by omega)
    have hpos : (nx + 40 - a + (a - 1)) % 40 = (nx + 39) % 40 := by omega
    rw [hpos] at r1
    have hlt : (nx + 39) % 40 < 40 := Nat.mod_lt _ (by omega)
    have hmod : nx + 40 - 1 = nx + 39 := by omega
    generalize hp : (nx + 39) % 40 = p at *
    obtain ⟨c1, k1, k2⟩ := sh_take (N := N) (s := 27) (q := 53 + 7 * p) (μ := mm_I (mm_I c 51 1 (nI p)) 51 0 (nI (a - 1))) sz_27 (sz_ring p hlt) (by omega)
    have hl := lpx (fun fu x (b : MM) => f_Mo_undo_L26 N fu (nI x) b) 304 (fun x b => mm_I b 368 x (b.1 370 (304 * (a - 1) + x))) (fun b => some (nI (a - 1), b)) (fun x b => (∀ y, y ≠ 368 → b.1 y = (mm_I m0 355 37 (nI (a - 1))).1 y) ∧ ∀ y, y < x → b.1 368 y = m0.1 370 (304 * (a - 1) + y)) (fun fu b hb => by
        have e : b.1 355 37 = nI (a - 1) := by rw [hb.1 355 (by decide), gI_s, if_pos rfl]
        simp (disch := omega) only [f_Mo_undo_L26, l_304, nI_leI, Nat.le_refl, if_true, e]) (fun fu x b hx hb => by
        have e : b.1 355 37 = nI (a - 1) := by rw [hb.1 355 (by decide), gI_s, if_pos rfl]
        refine ⟨?_, fun y hy => ?_, fun y hy => ?_⟩
        · simp (disch := omega) only [f_Mo_undo_L26, l_304, l_1, e, nI_leI, if_neg, pk_mul, nI_add, gd_in, nI_clamp, wr_e]
        · rw [gI_o hy, hb.1 y hy]
        · rw [gI_s]
          by_cases q : y = x
          · rw [if_pos q, q, hb.1 370 (by decide), gI_o (by decide)]
          · rw [if_neg q]; exact hb.2 y (by omega)) 304 0 N (mm_I m0 355 37 (nI (a - 1))) (by omega) (by omega) ⟨fun _ _ => rfl, fun y hy => absurd hy (by omega)⟩
    obtain ⟨m2, l1, l2, l3⟩ := hl
    have hra : RA (hrow (m0.1 370) (a - 1)) (m2.1 368) := l3
    have hc2 : ∀ i, i ≠ 51 → (i < 27 ∨ 34 ≤ i) → c1.1 i = c.1 i := fun i hi hi2 => by
      rw [k2.2.1 i (by omega), gI_o hi, gI_o hi]
    have hm2 : ∀ i, i ≠ 355 → i ≠ 368 → m2.1 i = m0.1 i := fun i hi hi2 => by rw [l2 i hi2, gI_o hi]
    have c51 : c1.1 51 0 = nI (a - 1) ∧ c1.1 51 1 = nI p := by
      rw [k2.2.1 51 (by omega)]
      refine ⟨by rw [gI_s, if_pos rfl], by rw [gI_s, if_neg (by omega), gI_s, if_pos rfl]⟩
    have hdy : ∀ j, j ≤ a - 1 → hday (a - 1) (m2.1 370) (m2.1 368) j = hday a (m0.1 370) (m0.1 368) j := fun j hj => by
      unfold hday
      rw [hm2 370 (by decide) (by decide), if_pos (show j < a by omega)]
      by_cases e : j = a - 1
      · rw [if_neg (by omega), dyN_g hra, e]
      · rw [if_pos (by omega)]
    have hdl : dyN (m2.1 368) ≤ dyN (m0.1 368) := by
      have := hdy (a - 1) (Nat.le_refl _)
      rw [hday_a] at this
      rw [this]
      have q := r4
      rw [show a - 1 + 1 = a by omega, hday_a] at q
      exact q
    refine ⟨nI (a - 1), c1, m2, ?_, ?_, ⟨nc, nt, lg, lgI, a - 1, p, tl, lc, rc, st, cl, ?_⟩⟩
    · simp (disch := omega) only [b4, l_40, l_1, nI_add, pk_sub, pk_rem, hmod, hp, wr_e, gI, if_pos, if_neg, if_true, if_false, b3, gd_in, nI_clamp]
      rw [k1, obv_e, ob_e, c51.1]
    · rw [wr_e, l_1, pk_sub (by omega)]
      exact l1
    · refine RB_of h (by omega) (fun i hi hi2 => hc2 i (by omega) (by omega)) (fun i hi => hm2 i (by omega) (by omega)) (fun j hj => by rw [l2 355 (by decide), gI_s, if_neg (by omega)]) ?_ (RW_g hra hnc r2) (LG_g hra r3) h8 ?_ (by omega) ?_
      · refine SR_g hra hnc r2 (SR_cp (s := 27) (q := 53 + 7 * p) (c := mm_I (mm_I c 51 1 (nI p)) 51 0 (nI (a - 1))) ?_ r2 hnc k2)
        rw [gI_o (by omega), gI_o (by omega), gI_o (by omega), gI_o (by omega), gI_o (by omega), gI_o (by omega), gI_o (by omega), gI_o (by omega), gI_o (by omega), gI_o (by omega), gI_o (by omega), gI_o (by omega)]
        exact r1
      · rw [hdy 0 (by omega), hc2 49 (by decide) (by decide)]
        exact fun e e1 e2 => h9 e (by omega) e2
      · refine ⟨by omega, hlt, c51.1, c51.2, by rw [l2 355 (by decide), gI_s, if_pos rfl], fun j hj => ?_⟩
        obtain ⟨w1, w2, w3, w4, w5⟩ := b6 j (by omega)
        have e : (p + 40 - (a - 1) + j) % 40 = (nx + 40 - a + j) % 40 := by omega
        have hlt2 : (nx + 40 - a + j) % 40 < 40 := Nat.mod_lt _ (by omega)
        rw [e, hdy j (by omega), hdy (j + 1) (by omega), hm2 370 (by decide) (by decide)]
        generalize (nx + 40 - a + j) % 40 = y at *
        rw [hc2 _ (by omega) (by omega), hc2 (53 + 7 * y + 2) (by omega) (by omega), hc2 (53 + 7 * y + 3) (by omega) (by omega), hc2 (53 + 7 * y + 4) (by omega) (by omega), hc2 (53 + 7 * y + 5) (by omega) (by omega), hc2 (53 + 7 * y + 6) (by omega) (by omega)]
        exact ⟨w1, w2, w3, w4, w5⟩
theorem op_image {k N : Nat} (hN : 15000 ≤ N) : Sp k (f_Ro_image N) (f_Mo_image N) := by
  intro c m h
  replace h : Rel k c (mm_I m 355 0 0) := h
  unfold f_Mo_image
  rw [wr_e]
  generalize mm_I m 355 0 0 = m0 at h ⊢
  have hr := h
  obtain ⟨nc, nt, lg, lgI, a, nx, tl, lc, rc, st, cl, h⟩ := h
  obtain ⟨hL, hM⟩ := RB_L h
  obtain ⟨hm27, hm26, hW, hT, hF, hnc, hnt⟩ := id hM
  obtain ⟨h1, h2, h3, h4, h5, h6, h7, h8, h9, h10, h11, h12, h13, h14, h15, h16, h17⟩ := h
  unfold f_Ro_image
  rw [co_isNone hL.1, ob_e, hm27]
  simp (disch := omega) only [l_0, none_R, nI_eq]
  by_cases h0 : nc = 0
  · simp only [h0, not_true_eq_false, if_false, if_true]
    exact no_op _ hr rfl rfl
  · simp only [h0, not_false_eq_true, if_false, if_true]
    obtain ⟨c1, k1, k2⟩ := sh_take (N := N) (s := 347) (q := 27) (μ := c) sz_347 sz_27 (by omega)
    obtain ⟨m1, l1, l2, l3, l4⟩ := mo_copies (N := N) (q0 := 368) (q1 := 375) (m := m0) hN n_368 n_375 (by decide)
    rw [k1, l1, obv_e, obv_e]
    have cp : cpb (nI 0) (nI 0) 128 128 128 = true := by decide
    have n128 : Int32.toNatClampNeg 128 = 128 := by decide
    simp (disch := omega) only [gd_t cp, wr_e, nI_clamp, n128]
    have hra : RA (m0.1 368) (m1.1 375) := l4
    have hc : ∀ i, i < 347 → (mm_I (mm_F c1 354 (va_cpy (c1.1 49) (c1.1 354) 0 0 128)) 0 14 1).1 i = (mm_I c 0 14 1).1 i := fun i hi => by
      funext j
      rw [gI, gI, gF, k2.2.1 i (by omega), if_neg (show ¬ i = 354 by omega)]
    have hm : ∀ i, i ≠ 375 → (mm_I m1 355 48 1).1 i = (mm_I m0 355 48 1).1 i := fun i hi => by
      funext j
      rw [gI, gI, l3 i hi]
    have hd0 := hday_0 h11 a (Nat.le_refl _)
    rw [hday_a] at hd0
    refine ⟨m0.1 368 122, mm_I (mm_F c1 354 (va_cpy (c1.1 49) (c1.1 354) 0 0 128)) 0 14 1, mm_I m1 355 48 1, ?_, ?_, ⟨nc, nt, lg, lg, a, nx, tl, lc, rc, st, cl, ?_⟩⟩
    · rw [hc 27 (by decide), gI_o (by decide), h5.2.2.2]
    · rw [hm 368 (by decide), gI_o (by decide)]
    · unfold RB
      rw [hc 23 (by decide), hc 24 (by decide), hc 25 (by decide), hc 26 (by decide), hc 27 (by decide), hc 29 (by decide), hc 30 (by decide), hc 31 (by decide), hc 32 (by decide), hc 33 (by decide), hc 49 (by decide), hc 51 (by decide), hc 1 (by decide), hc 2 (by decide), hc 34 (by decide), hc 37 (by decide), hc 38 (by decide), hc 39 (by decide), hc 40 (by decide), hc 41 (by decide), hc 44 (by decide), hc 45 (by decide), hc 46 (by decide), hc 341 (by decide), hc 342 (by decide), hc 343 (by decide), hc 344 (by decide), hc 0 (by decide), hm 355 (by decide), hm 356 (by decide), hm 357 (by decide), hm 358 (by decide), hm 362 (by decide), hm 365 (by decide), hm 367 (by decide), hm 368 (by decide), hm 370 (by decide), hm 371 (by decide), hm 372 (by decide), hm 373 (by decide)]
      refine ⟨h1, h2, h3, h4, h5, h6, h7, h8, h9, by show dyN (m0.1 368) ≤ _; omega, HB_c h11 (fun i hi hi2 => by rw [hc i (by omega)]; exact gI_o (by omega)), Or.inr ⟨rfl, rfl, ?_, ?_, ?_, h8, ?_, ?_⟩, h13, h14, h15, h16, h17⟩
      · rw [gI_o (b := 375) (by decide)]
        refine SR_g hra hnc h6 ?_
        have := SR_cp (s := 347) (q := 27) h5 h6 hnc k2
        rw [gI_o (b := 347) (by decide), gI_o (b := 349) (by decide), gI_o (b := 350) (by decide), gI_o (b := 351) (by decide), gI_o (b := 352) (by decide), gI_o (b := 353) (by decide), gF_o (b := 347) (by decide), gF_o (b := 349) (by decide), gF_o (b := 350) (by decide), gF_o (b := 351) (by decide), gF_o (b := 352) (by decide), gF_o (b := 353) (by decide)]
        exact this
      · rw [gI_o (b := 375) (by decide)]; exact RW_g hra hnc h6
      · rw [gI_o (b := 375) (by decide)]; exact LG_g hra h7
      · rw [gI_o (b := 375) (by decide), gI_o (b := 354) (by decide), gF_s, dyN_g hra]
        intro e e1 e2
        have hlt : e % 128 < 128 := Nat.mod_lt _ (by omega)
        rw [pk_cpy_in (by omega) (by omega), k2.2.1 49 (by omega), Nat.zero_add, Nat.sub_zero]
        exact h9 e e1 (by omega)
      · rw [gI_o (b := 375) (by decide), dyN_g hra]; omega
theorem op_back {k N : Nat} (hN : 15000 ≤ N) : Sp k (f_Ro_back N) (f_Mo_back N) := by
  intro c m h
  replace h : Rel k c (mm_I m 355 0 0) := h
  unfold f_Mo_back
  rw [wr_e]
  generalize mm_I m 355 0 0 = m0 at h ⊢
  have hr := h
  obtain ⟨nc, nt, lg, lgI, a, nx, tl, lc, rc, st, cl, h⟩ := h
  obtain ⟨hL, hM⟩ := RB_L h
  obtain ⟨hm27, hm26, hW, hT, hF, hnc, hnt⟩ := id hM
  obtain ⟨h1, h2, h3, h4, h5, h6, h7, h8, h9, h10, h11, h12, h13, h14, h15, h16, h17⟩ := id h
  unfold f_Ro_back
  rcases h12 with ⟨i1, i2⟩ | ⟨i1, i2, i3, i4, i5, i6, i7, i8⟩
  · rw [i1, i2]
    simp (disch := omega) only [l_0, nI_eq, if_pos]
    exact no_op _ hr rfl rfl
  · rw [i1, i2]
    simp (disch := omega) only [l_0, nI_eq, if_neg]
    obtain ⟨c1, k1, k2⟩ := sh_take (N := N) (s := 27) (q := 347) (μ := c) sz_27 sz_347 (by omega)
    obtain ⟨m1, l1, l2, l3, l4⟩ := mo_copies (N := N) (q0 := 375) (q1 := 368) (m := m0) hN n_375 n_368 (by decide)
    rw [k1, l1, obv_e, obv_e]
    have cp : cpb (nI 0) (nI 0) 128 128 128 = true := by decide
    have n128 : Int32.toNatClampNeg 128 = 128 := by decide
    simp (disch := omega) only [gd_t cp, wr_e, nI_clamp, n128, f_Hi_forget, obv_e, l_0]
    have hra : RA (m0.1 375) (m1.1 368) := l4
    have hd : hday 0 ((mm_I m1 355 37 (nI 0)).1 370) ((mm_I m1 355 37 (nI 0)).1 368) 0 = dyN (m0.1 375) := by
      rw [hday_a, gI_o (by decide), dyN_g hra]
    refine ⟨m0.1 375 122, mm_I (mm_F c1 49 (va_cpy (c1.1 354) (c1.1 49) 0 0 128)) 51 0 (nI 0), mm_I m1 355 37 (nI 0), ?_, ?_, ⟨nc, nt, lgI, lgI, 0, nx, tl, lc, rc, st, cl, ?_⟩⟩
    · rw [gI_o (by decide), gF_o (by decide), k2.2.2.2.2.2.2, i3.2.2.2]
    · rw [gI_o (by decide), l4 122 (by decide)]
    · refine RB_of h (by omega) (fun i hi hi2 => ?_) (fun i hi => ?_) (fun j hj => ?_) ?_ ?_ ?_ i6 ?_ ?_ ?_
      · rw [gI_o (by omega), gF_o (by omega), k2.2.1 i (by omega)]
      · rw [gI_o (by omega), l3 i (by omega)]
      · rw [gI_s, if_neg (by omega), l3 355 (by decide)]
      · rw [gI_o (b := 27) (by decide), gI_o (b := 29) (by decide), gI_o (b := 30) (by decide), gI_o (b := 31) (by decide), gI_o (b := 32) (by decide), gI_o (b := 33) (by decide), gF_o (b := 27) (by decide), gF_o (b := 29) (by decide), gF_o (b := 30) (by decide), gF_o (b := 31) (by decide), gF_o (b := 32) (by decide), gF_o (b := 33) (by decide), gI_o (b := 368) (by decide)]
        exact SR_g hra hnc i4 (SR_cp (s := 27) (q := 347) i3 i4 hnc k2)
      · rw [gI_o (b := 368) (by decide)]; exact RW_g hra hnc i4
      · rw [gI_o (b := 368) (by decide)]; exact LG_g hra i5
      · rw [hd, gI_o (b := 368) (by decide), dyN_g hra, gI_o (b := 49) (by decide), gF_s]
        intro e e1 e2
        have hlt : e % 128 < 128 := Nat.mod_lt _ (by omega)
        rw [pk_cpy_in (by omega) (by omega), k2.2.1 354 (by omega), Nat.zero_add, Nat.sub_zero]
        exact i7 e e1 e2
      · rw [gI_o (b := 368) (by decide), dyN_g hra]; omega
      · refine ⟨by omega, h11.2.1, by rw [gI_s, if_pos rfl], ?_, by rw [gI_s, if_pos rfl], fun j hj => absurd hj (by omega)⟩
        rw [gI_s, if_neg (by decide), gF_o (by decide), k2.2.1 51 (by omega)]
        exact h11.2.2.2.1
