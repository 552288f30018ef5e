/-! ===== days, decades ===== -/
theorem RB_D {D D' nc nt a nx tl lc rc st cl : Nat} {lg lgI : Nat → Nat → Nat} {c m : MM} (h : RB D nc nt lg lgI a nx tl lc rc st cl c m) (hD : D ≤ D') : RB D' nc nt lg lgI a nx tl lc rc st cl c m := by
  obtain ⟨h1, h2, h3, h4, h5, h6, h7, h8, h9, h10, h11, h12, h13⟩ := h
  exact ⟨h1, h2, h3, h4, h5, h6, h7, h8, h9, by omega, h11, IB_k h12 hD, h13⟩
theorem op_days {k N : Nat} (hN : 15000 ≤ N) (hk : k ≤ 3072) (x1 : Int32) : Sp k (f_Ro_days N x1) (f_Mo_days N x1) := by
  intro c m h
  replace h : Rel k c (mm_I m 355 0 0) := h
  unfold f_Mo_days
  rw [wr_e]
  generalize mm_I m 355 0 0 = m0 at h ⊢
  have hr := h
  obtain ⟨nc, nt, lg, lgI, a, nx, tl, lc, rc, st, cl, h⟩ := h
  obtain ⟨hL, hM⟩ := RB_L h
  have hm27 := hM.1
  have hnc := hM.2.2.2.2.2.1
  unfold f_Ro_days
  rw [co_isNone hL.1, ob_e, hm27]
  by_cases h0 : nc = 0
  · rw [decide_eq_true h0, if_neg (show ¬ bI true = 0 by decide), if_pos (show nI nc = 0 by rw [h0]; rfl)]
    exact no_op (-1) hr rfl rfl
  · rw [decide_eq_false h0, if_pos (show bI false = 0 from rfl), if_neg (show ¬ nI nc = 0 from fun q => by rw [l_0, nI_eq (by omega) (by omega)] at q; exact h0 q), L_1, L_60, mo_isIn (by decide) (by decide), ob_e]
    rcases arg_in x1 (n := 60) (by decide) with hy | hy | ⟨n, hn, rfl⟩
    · rw [if_pos (show x1 < 1 from fa_trans hy (by decide)), mo_in_f (Or.inl (fa_trans hy (by decide)))]
      exact no_op (-1) hr rfl rfl
    · have hx0 : ¬ x1 < 1 := fun q => by
        rw [fa_lt] at q hy
        have : (1 : Int32).toInt = 1 := by decide
        have : (nI 60).toInt = 60 := by decide
        omega
      rw [if_neg hx0, if_neg (show ¬ x1 ≤ 60 from (fa_of_lt hy).2.1), mo_in_f (Or.inr hy)]
      exact no_op (-1) hr rfl rfl
    · by_cases hn0 : n = 0
      · subst hn0
        rw [if_pos (by decide), mo_in_f (Or.inl (by decide))]
        exact no_op (-1) hr rfl rfl
      · rw [if_neg (show ¬ nI n < 1 from fun q => by rw [l_1, nI_ltI (by omega) (by omega)] at q; omega), if_pos (show nI n ≤ 60 from (nI_leI (b := 60) (by omega) (by omega)).mpr hn), mo_in_t (by omega) hn (by decide), if_neg (show ¬ bI true = 0 by decide)]
        refine lp_2 (fun fu i (x : MM) => f_Ro_days_L25 N fu (nI n) (nI i) x) (fun fu i (y : MM) => f_Mo_days_L28 N fu (nI n) (nI i) y) n (fun i x y => ∃ lg a nx, RB (10 * k + i) nc nt lg lgI a nx tl lc rc st cl x y) (fun X Y => ∃ r c' m', X = some (r, c') ∧ Y = some (r, m') ∧ Rel (k + 6) c' m') (fun fa fb x y hR => ?_) (fun fa fb i x y hi hR => ?_) n 0 N N c m0 (by omega) (by omega) (by omega) ⟨lg, a, nx, h⟩
        · obtain ⟨lg1, a1, nx1, g⟩ := hR
          have e := (RB_L g).1.2.1.2.2.2
          show ∃ r c' m', f_Ro_days_L25 N (fa + 1) (nI n) (nI n) x = _ ∧ f_Mo_days_L28 N (fb + 1) (nI n) (nI n) y = _ ∧ _
          rw [f_Ro_days_L25, f_Mo_days_L28, if_pos ((nI_leI (by omega) (by omega)).mpr (Nat.le_refl _)), if_pos ((nI_leI (by omega) (by omega)).mpr (Nat.le_refl _)), e]
          exact ⟨_, _, _, rfl, rfl, RB_Rel (RB_D g (by omega))⟩
        · obtain ⟨lg1, a1, nx1, g⟩ := hR
          left
          obtain ⟨a', nx', c', m', k1, k2, k3, k4, k5, k6, k7, k8, k9, k10⟩ := RB_keep hN g
          obtain ⟨lg2, c2, m2, d1, d2, d3, -, -⟩ := day_2 hN (by omega) k3 k4 k5
          refine ⟨c2, m2, ?_, ?_, lg2, a', nx', d3⟩
          · show f_Ro_days_L25 N (fa + 1) (nI n) (nI i) x = _
            rw [f_Ro_days_L25, if_neg (fun q => by have := (nI_leI (by omega) (by omega)).mp q; omega), k1, obv_e, d1, obv_e, l_1, nI_add]
          · show f_Mo_days_L28 N (fb + 1) (nI n) (nI i) y = _
            rw [f_Mo_days_L28, if_neg (fun q => by have := (nI_leI (by omega) (by omega)).mp q; omega), k2, obv_e, d2, obv_e, l_1, nI_add]
/-! draws -/
def nxs (s : Int64) : Int64 := s * 6364136223846793005 + 1442695040888963407
def drI (s : Int64) (x : Int32) : Int32 := Int64.toInt32 ((Int64.toUInt64 s >>> ((Int32.toInt64 33).toUInt64 &&& Int64.toUInt64 63)).toInt64 - (Int64.toUInt64 s >>> ((Int32.toInt64 33).toUInt64 &&& Int64.toUInt64 63)).toInt64 / (Int32.toInt64 x) * (Int32.toInt64 x))
theorem ush (s : Int64) : ∃ v, v < 2 ^ 31 ∧ (Int64.toUInt64 s >>> ((Int32.toInt64 33).toUInt64 &&& Int64.toUInt64 63)).toInt64 = lN v := by
  rw [show ((Int32.toInt64 33).toUInt64 &&& Int64.toUInt64 63) = (33 : UInt64) by decide]
  refine ⟨(Int64.toUInt64 s >>> (33 : UInt64)).toNat, ?_, ?_⟩
  · rw [UInt64.toNat_shiftRight, Nat.shiftRight_eq_div_pow]
    have := (Int64.toUInt64 s).toNat_lt
    have e : (33 : UInt64).toNat % 64 = 33 := by decide
    rw [e]
    omega
  · apply Int64.toBitVec_inj.mp
    show (Int64.toUInt64 s >>> (33 : UInt64)).toBitVec = BitVec.ofNat 64 (Int64.toUInt64 s >>> (33 : UInt64)).toNat
    rw [← UInt64.toNat_toBitVec, BitVec.ofNat_toNat]
    simp
theorem dr_lt {s : Int64} {n : Nat} (h0 : 0 < n) (hn : n < 2 ^ 31) : ∃ v, v < n ∧ drI s (nI n) = nI v := by
  obtain ⟨v, hv, e⟩ := ush s
  unfold drI
  rw [e, nI_l hn, pk_lRem (by omega) h0 (by omega), lN_i]
  exact ⟨v % n, Nat.mod_lt _ h0, rfl⟩
theorem nzl_n {n : Nat} (h0 : 0 < n) (hn : n < 2 ^ 31) : nzl (nI n).toInt64 = true := by
  unfold nzl
  rw [nI_l hn, decide_eq_true_eq]
  intro q
  have := (lN_eq (a := n) (b := 0) hn (by decide)).mp q
  omega
theorem ro_draw {N n : Nat} {μ : MM} (h0 : 0 < n) (hn : n < 2 ^ 31) : f_Ro_draw N (nI n) μ = some (drI (nxs (μ.2 0 16)) (nI n), mm_J μ 0 16 (nxs (μ.2 0 16))) := by
  unfold f_Ro_draw
  rw [wr_e, if_pos (show (1 : Int32) ≤ nI n from (nI_leI (a := 1) (by decide) hn).mpr h0), gd_t (nzl_n h0 hn)]
  have e : (mm_J μ 0 16 (μ.2 0 16 * 6364136223846793005 + 1442695040888963407)).2 0 16 = nxs (μ.2 0 16) := by
    rw [gJ, if_pos rfl, if_pos rfl]; rfl
  rw [e]
  rfl
theorem mo_draw {N n : Nat} {μ : MM} (h0 : 0 < n) (hn : n < 2 ^ 31) : f_Mo_draw N (nI n) μ = some (drI (nxs (μ.2 355 38)) (nI n), mm_J μ 355 38 (nxs (μ.2 355 38))) := by
  unfold f_Mo_draw
  rw [wr_e, gd_t (nzl_n h0 hn)]
  have e : (mm_J μ 355 38 (μ.2 355 38 * 6364136223846793005 + 1442695040888963407)).2 355 38 = nxs (μ.2 355 38) := by
    rw [gJ, if_pos rfl, if_pos rfl]; rfl
  rw [e]
  rfl
theorem dr_s {μ : MM} {a j : Nat} {v : Int64} : (mm_J μ a j v).2 a j = v := by rw [gJ, if_pos rfl, if_pos rfl]
/-- the cleaner, on both sides -/
theorem clean_2 {N D nc nt a nx tl lc rc st cl fb : Nat} {lg lgI : Nat → Nat → Nat} {c m : MM} {n i : Int32} (h : RB D nc nt lg lgI a nx tl lc rc st cl c m) (ha : 1 ≤ a) (hl : hday a (m.1 370) (m.1 368) (a - 1) = dyN (m.1 368)) (h0 : 0 < nc) (hx : c.2 0 16 = m.2 355 38) : ∃ c' m', f_Ro_clean N c = some c' ∧ (ob (f_Mo_draw N 100 m) fun t47 μ5z => (if (μ5z.1 355 35) ≤ t47 then (f_Mo_decades_B121 N (f_Mo_decades_L34 N fb) n i μ5z)
    else (ob (f_Mo_draw N (μ5z.1 355 27) μ5z) fun t62 μ7z => (ob (f_Mo_draw N (μ7z.1 355 27) μ7z) fun t72 μ8z => (gd (inb (20 * t62) 304) (gd (inb (20 * t72) 304) (gd (inb (20 * t62) 304) (wr (mm_I μ8z 368 (Int32.toNatClampNeg (20 * t62)) (μ8z.1 368 (Int32.toNatClampNeg (20 * t72)))) fun μ9z => (gd (inb (20 * t72) 304) (wr (mm_I μ9z 368 (Int32.toNatClampNeg (20 * t72)) (μ8z.1 368 (Int32.toNatClampNeg (20 * t62)))) fun μ10z => (f_Mo_decades_B121 N (f_Mo_decades_L34 N fb) n i μ10z))))))))))) = f_Mo_decades_B121 N (f_Mo_decades_L34 N fb) n i m' ∧ RB D nc nt lg lgI a nx tl lc rc st cl c' m' ∧ hday a (m'.1 370) (m'.1 368) (a - 1) = dyN (m'.1 368) ∧ c'.2 0 16 = m'.2 355 38 := by
  obtain ⟨hL, hM⟩ := RB_L h
  have hm27 := hM.1
  have hnc := hM.2.2.2.2.2.1
  have h23 := hL.1.1
  obtain ⟨w1, w2, w3⟩ := id h.2.2.2.2.2.2.2.2.2.2.2.2.2.2.2.2
  unfold f_Ro_clean
  obtain ⟨s1, hs1⟩ : ∃ s, nxs (m.2 355 38) = s := ⟨_, rfl⟩
  have r1 := ro_draw (N := N) (n := 100) (μ := c) (by decide) (by decide)
  have r2 := mo_draw (N := N) (n := 100) (μ := m) (by decide) (by decide)
  rw [hx, hs1] at r1
  rw [hs1] at r2
  obtain ⟨c1, p1, p2, p3⟩ : ∃ c1, mm_J c 0 16 s1 = c1 ∧ c1.1 = c.1 ∧ c1.2 0 16 = s1 := ⟨_, rfl, rfl, dr_s⟩
  obtain ⟨m1, q1, q2, q3⟩ : ∃ m1, mm_J m 355 38 s1 = m1 ∧ m1.1 = m.1 ∧ m1.2 355 38 = s1 := ⟨_, rfl, rfl, dr_s⟩
  rw [p1] at r1
  rw [q1] at r2
  rw [show (100 : Int32) = nI 100 from rfl, r1, ob_e, r2, ob_e, p2, q2, w1, w2]
  obtain ⟨v, hv, ev⟩ := dr_lt (s := s1) (n := 100) (by decide) (by decide)
  rw [ev]
  have hRB : ∀ c' m', c'.1 = c.1 → m'.1 = m.1 → RB D nc nt lg lgI a nx tl lc rc st cl c' m' := fun c' m' e1 e2 => by
    unfold RB at h ⊢
    rw [e1, e2]; exact h
  by_cases hcl : v < cl
  · rw [if_pos ((nI_ltI (by omega) (by omega)).mpr hcl), if_neg (show ¬ nI cl ≤ nI v from fun q => by have := (nI_leI (by omega) (by omega)).mp q; omega), h23, hm27]
    have r3 := ro_draw (N := N) (n := nc) (μ := c1) h0 (by omega)
    have r4 := mo_draw (N := N) (n := nc) (μ := m1) h0 (by omega)
    rw [p3] at r3
    rw [q3] at r4
    obtain ⟨c2, p4, p5, p6⟩ : ∃ c2, mm_J c1 0 16 (nxs s1) = c2 ∧ c2.1 = c.1 ∧ c2.2 0 16 = nxs s1 := ⟨_, rfl, p2, dr_s⟩
    obtain ⟨m2, q4, q5, q6⟩ : ∃ m2, mm_J m1 355 38 (nxs s1) = m2 ∧ m2.1 = m.1 ∧ m2.2 355 38 = nxs s1 := ⟨_, rfl, q2, dr_s⟩
    rw [p4] at r3
    rw [q4] at r4
    rw [r3, ob_e, r4, ob_e, p5, q5, h23, hm27]
    have r5 := ro_draw (N := N) (n := nc) (μ := c2) h0 (by omega)
    have r6 := mo_draw (N := N) (n := nc) (μ := m2) h0 (by omega)
    rw [p6] at r5
    rw [q6] at r6
    obtain ⟨c3, p7, p8, p9⟩ : ∃ c3, mm_J c2 0 16 (nxs (nxs s1)) = c3 ∧ c3.1 = c.1 ∧ c3.2 0 16 = nxs (nxs s1) := ⟨_, rfl, p5, dr_s⟩
    obtain ⟨m3, q7, q8, q9⟩ : ∃ m3, mm_J m2 355 38 (nxs (nxs s1)) = m3 ∧ m3.1 = m.1 ∧ m3.2 355 38 = nxs (nxs s1) := ⟨_, rfl, q5, dr_s⟩
    rw [p7] at r5
    rw [q7] at r6
    rw [r5, ob_e, r6, ob_e]
    obtain ⟨p, hp, ep⟩ := dr_lt (s := nxs s1) (n := nc) h0 (by omega)
    obtain ⟨q, hq, eq⟩ := dr_lt (s := nxs (nxs s1)) (n := nc) h0 (by omega)
    rw [ep, eq]
    have hs : ∀ j, j < nc → c3.1 33 j = m3.1 368 (20 * j) := fun j hj => by rw [p8, q8]; exact (hL.2.1.1 j hj).2.1
    have h3 := hRB c3 m3 p8 q8
    obtain ⟨hL3, hM3⟩ := RB_L h3
    have hl3 : hday a (m3.1 370) (m3.1 368) (a - 1) = dyN (m3.1 368) := by rw [q8]; exact hl
    simp (disch := omega) only [l_20, pk_mul, gd_in, nI_clamp, wr_e]
    by_cases e : p = q
    · subst e
      rw [if_pos rfl]
      have hid : mm_I (mm_I m3 368 (20 * p) (m3.1 368 (20 * p))) 368 (20 * p) (m3.1 368 (20 * p)) = m3 := by
        rw [mm_Id (μ := mm_I m3 368 (20 * p) (m3.1 368 (20 * p))) (by rw [gI_s, if_pos rfl]), mm_Id rfl]
      rw [hid]
      exact ⟨c3, m3, rfl, rfl, h3, hl3, by rw [p9, q9]⟩
    · rw [if_neg (show ¬ nI p = nI q from fun z => e ((nI_eq (by omega) (by omega)).mp z)), co_isCard_t hL3.1 hp, ob_e, if_neg (show ¬ nI 1 = 0 by decide), co_isCard_t hL3.1 hq, ob_e, if_neg (show ¬ nI 1 = 0 by decide), hs p hp, hs q hq]
      have k1 := RB_un (D' := D) (j := p) (v := m3.1 368 (20 * q)) h3 (Nat.le_refl _) ha hp (RW_un0 hM3.2.2.1 hq)
      have k2 := RB_un (D' := D) (j := q) (v := m3.1 368 (20 * p)) k1 (Nat.le_refl _) ha hq (RW_un0 hM3.2.2.1 hp)
      refine ⟨_, _, rfl, rfl, k2, ?_, ?_⟩
      · have : hday a (m3.1 370) (m3.1 368) (a - 1) = dyN (hrow (m3.1 370) (a - 1)) := by unfold hday; rw [if_pos (by omega)]
        rw [this] at hl3
        unfold hday
        rw [if_pos (by omega), gI_o (by decide), gI_o (by decide), hl3]
        unfold dyN
        rw [gI_s, if_neg (by omega), gI_s, if_neg (by omega)]
      · rw [gI2, gI2, gI2, gI2, p9, q9]
  · rw [if_neg (show ¬ nI v < nI cl from fun q => hcl ((nI_ltI (by omega) (by omega)).mp q)), if_pos ((nI_leI (by omega) (by omega)).mpr (by omega))]
    exact ⟨c1, m1, rfl, rfl, hRB c1 m1 p2 q2, by rw [q2]; exact hl, by rw [p3, q3]⟩
theorem op_decades {k N : Nat} (hN : 15000 ≤ N) (hk : k ≤ 3072) (x1 : Int32) (y2 : Int64) : Sp k (f_Ro_decades N x1 y2) (f_Mo_decades N x1 y2) := by
  intro c m h
  replace h : Rel k c (mm_I m 355 0 0) := h
  unfold f_Mo_decades
  rw [wr_e]
  generalize mm_I m 355 0 0 = m0 at h ⊢
  have hr := h
  obtain ⟨nc, nt, lg, lgI, a, nx, tl, lc, rc, st, cl, h⟩ := h
  obtain ⟨hL, hM⟩ := RB_L h
  have hm27 := hM.1
  have hnc := hM.2.2.2.2.2.1
  unfold f_Ro_decades
  rw [co_isNone hL.1, ob_e, hm27]
  by_cases h0 : nc = 0
  · rw [decide_eq_true h0, if_neg (show ¬ bI true = 0 by decide), if_pos (show nI nc = 0 by rw [h0]; rfl)]
    exact no_op (-1) hr rfl rfl
  · rw [decide_eq_false h0, if_pos (show bI false = 0 from rfl), if_neg (show ¬ nI nc = 0 from fun q => by rw [l_0, nI_eq (by omega) (by omega)] at q; exact h0 q), L_1, L_60, mo_isIn (by decide) (by decide), ob_e]
    rcases arg_in x1 (n := 60) (by decide) with hy | hy | ⟨n, hn, rfl⟩
    · rw [if_pos (show x1 < 1 from fa_trans hy (by decide)), mo_in_f (Or.inl (fa_trans hy (by decide)))]
      exact no_op (-1) hr rfl rfl
    · have hx0 : ¬ x1 < 1 := fun q => by
        rw [fa_lt] at q hy
        have : (1 : Int32).toInt = 1 := by decide
        have : (nI 60).toInt = 60 := by decide
        omega
      rw [if_neg hx0, if_neg (show ¬ x1 ≤ 60 from (fa_of_lt hy).2.1), mo_in_f (Or.inr hy)]
      exact no_op (-1) hr rfl rfl
    · by_cases hn0 : n = 0
      · subst hn0
        rw [if_pos (by decide), mo_in_f (Or.inl (by decide))]
        exact no_op (-1) hr rfl rfl
      · rw [if_neg (show ¬ nI n < 1 from fun q => by rw [l_1, nI_ltI (by omega) (by omega)] at q; omega), if_pos (show nI n ≤ 60 from (nI_leI (b := 60) (by omega) (by omega)).mpr hn), mo_in_t (by omega) hn (by decide), if_neg (show ¬ bI true = 0 by decide), wr_e, wr_e]
        refine lp_2 (fun fu i (x : MM) => f_Ro_decades_L31 N fu (nI n) (nI i) x) (fun fu i (y : MM) => f_Mo_decades_L34 N fu (nI n) (nI i) y) n (fun i x y => (∃ lg a nx, RB (10 * k + i) nc nt lg lgI a nx tl lc rc st cl x y) ∧ x.2 0 16 = y.2 355 38) (fun X Y => ∃ r c' m', X = some (r, c') ∧ Y = some (r, m') ∧ Rel (k + 6) c' m') (fun fa fb x y hR => ?_) (fun fa fb i x y hi hR => ?_) n 0 N N (mm_J c 0 16 y2) (mm_J m0 355 38 y2) (by omega) (by omega) (by omega) ⟨⟨lg, a, nx, h⟩, by rw [dr_s, dr_s]⟩
        · obtain ⟨⟨lg1, a1, nx1, g⟩, -⟩ := hR
          have e := (RB_L g).1.2.1.2.2.2
          show ∃ r c' m', f_Ro_decades_L31 N (fa + 1) (nI n) (nI n) x = _ ∧ f_Mo_decades_L34 N (fb + 1) (nI n) (nI n) y = _ ∧ _
          rw [f_Ro_decades_L31, f_Mo_decades_L34, if_pos ((nI_leI (by omega) (by omega)).mpr (Nat.le_refl _)), if_pos ((nI_leI (by omega) (by omega)).mpr (Nat.le_refl _)), e]
          exact ⟨_, _, _, rfl, rfl, RB_Rel (RB_D g (by omega))⟩
        · obtain ⟨⟨lg1, a1, nx1, g⟩, hx⟩ := hR
          left
          obtain ⟨a', nx', c', m', k1, k2, k3, k4, k5, k6, k7, k8, k9, k10⟩ := RB_keep hN g
          obtain ⟨c1, m1, b1, b2, b3, b4, b5⟩ := clean_2 (N := N) (fb := fb) (n := nI n) (i := nI i) k3 k4 k5 (by omega) (by rw [k7, k10]; exact hx)
          obtain ⟨lg2, c2, m2, d1, d2, d3, d4, d5⟩ := day_2 hN (by omega) b3 k4 b4
          refine ⟨c2, m2, ?_, ?_, ⟨lg2, a', nx', d3⟩, by rw [d4, d5]; exact b5⟩
          · show f_Ro_decades_L31 N (fa + 1) (nI n) (nI i) x = _
            rw [f_Ro_decades_L31, if_neg (fun q => by have := (nI_leI (by omega) (by omega)).mp q; omega), k1, obv_e, b1, obv_e, d1, obv_e, l_1, nI_add]
          · show f_Mo_decades_L34 N (fb + 1) (nI n) (nI i) y = _
            rw [f_Mo_decades_L34, if_neg (fun q => by have := (nI_leI (by omega) (by omega)).mp q; omega), k2, obv_e]
            refine b2.trans ?_
            unfold f_Mo_decades_B121
            rw [d2, obv_e, l_1, nI_add]
