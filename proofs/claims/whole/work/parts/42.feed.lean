/-! ===== feed ===== -/
def byU (x s : Int32) : Int32 := (Int32.toUInt32 x >>> (Int32.toUInt32 s &&& Int32.toUInt32 31)).toInt32 &&& 255
def byS (x s : Int32) : Int32 := (x >>> (s &&& 31)) &&& 255
theorem by_eq {x : Int32} {n : Nat} (hn : n ≤ 24) : byU x (nI n) = byS x (nI n) := by
  unfold byU byS
  apply b_ext
  intro i hi
  rw [b_and, b_and, b_255]
  by_cases h8 : i < 8
  · rw [b_ushr n (by omega), b_sshr n (by omega) x hi, if_pos (by omega)]
  · rw [decide_eq_false h8, Bool.and_false, Bool.and_false]
theorem by_n (x s : Int32) : ∃ v, v < 256 ∧ byS x s = nI v := pk_andE (x >>> (s &&& 31)) (m := 255) 8 (by decide)
theorem t8_and (y : Int32) : (y &&& 255).toInt8 = y.toInt8 := by
  apply Int8.toBitVec_inj.mp
  rw [Int32.toBitVec_toInt8, Int32.toBitVec_toInt8, Int32.toBitVec_and]
  apply BitVec.eq_of_getLsbD_eq
  intro i hi
  rw [BitVec.getLsbD_signExtend, BitVec.getLsbD_signExtend, if_pos (by omega), if_pos (by omega), BitVec.getLsbD_and]
  have hm : ∀ i < 8, (255 : Int32).toBitVec.getLsbD i = true := by decide
  rw [hm i hi, Bool.and_true]
/-- how many bytes of a number count -/
def nz1 (x : Int32) (n : Nat) : Nat := if byS x (nI n) = 0 then 0 else 1
def nz (x : Int32) : Nat := nz1 x 24 + nz1 x 16 + nz1 x 8 + nz1 x 0
theorem nz1_le (x : Int32) (n : Nat) : nz1 x n ≤ 1 := by unfold nz1; split <;> omega
theorem nz_le (x : Int32) : nz x ≤ 4 := by
  have h1 := nz1_le x 24
  have h2 := nz1_le x 16
  have h3 := nz1_le x 8
  have h4 := nz1_le x 0
  unfold nz; omega
theorem s_8 : nI 24 + (-8) = nI 16 ∧ nI 16 + (-8) = nI 8 ∧ nI 8 + (-8) = nI 0 ∧ nI 0 + (-8) < 0 := by decide
theorem sb_s {N fu n y : Nat} {x : Int32} {μ : MM} (hn : n ≤ 24) : f_Ta_solidBytes_L5 N (fu + 1) x (nI y) (nI n) μ = f_Ta_solidBytes_L5 N fu x (nI (y + nz1 x n)) (nI n + (-8)) μ := by
  rw [f_Ta_solidBytes_L5, if_neg (nI_pos (by omega))]
  show f_Ta_solidBytes_L5 N fu x (if byU x (nI n) = 0 then nI y else nI y + 1) _ μ = _
  rw [by_eq hn, l_1, nI_add]
  unfold nz1
  by_cases h : byS x (nI n) = 0
  · rw [if_pos h, if_pos h]; rfl
  · rw [if_neg h, if_neg h]
theorem ta_solid {N : Nat} {x : Int32} {μ : MM} (hN : 15000 ≤ N) : f_Ta_solidBytes N x μ = some (nI (nz x), μ) := by
  obtain ⟨q, rfl⟩ : ∃ q, N = q + 5 := ⟨N - 5, by omega⟩
  unfold f_Ta_solidBytes
  show f_Ta_solidBytes_L5 (q + 5) (q + 4 + 1) x (nI 0) (nI 24) μ = _
  obtain ⟨e1, e2, e3, e4⟩ := s_8
  rw [sb_s (by omega), e1, sb_s (by omega), e2, sb_s (by omega), e3, sb_s (by omega), f_Ta_solidBytes_L5, if_pos e4]
  unfold nz
  rw [Nat.zero_add]
theorem bi_s {N fu n y : Nat} {x : Int32} {μ : MM} (hn : n ≤ 24) : f_Mo_bytesIn_L5 N (fu + 1) x (nI y) (nI n) μ = f_Mo_bytesIn_L5 N fu x (nI (y + nz1 x n)) (nI n + (-8)) μ := by
  rw [f_Mo_bytesIn_L5, if_neg (nI_pos (by omega))]
  show f_Mo_bytesIn_L5 N fu x (nI y + (if byS x (nI n) = 0 then (0 : Int32) else 1)) _ μ = _
  unfold nz1
  by_cases h : byS x (nI n) = 0
  · rw [if_pos h, if_pos h, l_0, nI_add]
  · rw [if_neg h, if_neg h, l_1, nI_add]
theorem mo_bytes {N : Nat} {x : Int32} {μ : MM} (hN : 15000 ≤ N) : f_Mo_bytesIn N x μ = some (nI (nz x), μ) := by
  obtain ⟨q, rfl⟩ : ∃ q, N = q + 5 := ⟨N - 5, by omega⟩
  unfold f_Mo_bytesIn
  show f_Mo_bytesIn_L5 (q + 5) (q + 4 + 1) x (nI 0) (nI 24) μ = _
  obtain ⟨e1, e2, e3, e4⟩ := s_8
  rw [bi_s (by omega), e1, bi_s (by omega), e2, bi_s (by omega), e3, bi_s (by omega), f_Mo_bytesIn_L5, if_pos e4]
  unfold nz
  rw [Nat.zero_add]
theorem RB_tb {D nc nt a nx tl lc rc st cl v : Nat} {lg lgI : Nat → Nat → Nat} {c m : MM} (h : RB D nc nt lg lgI a nx tl lc rc st cl c m) (ht : tl < 240) (h0 : 0 < v) (hv : v < 256) : RB D nc nt lg lgI a nx (tl + 1) lc rc st cl (mm_I (mm_I c 2 tl (nI v)) 1 1 (nI (tl + 1))) (mm_I (mm_I m 356 tl ((nI v).toInt8.toInt32)) 355 6 (nI (tl + 1))) := by
  obtain ⟨h1, h2, h3, h4, h5, h6, h7, h8, h9, h10, h11, h12, h13, h14, h15, h16, h17⟩ := h
  refine ⟨h1, h2, h3, h4, h5, h6, h7, h8, h9, h10, HB_c h11 (fun i i1 i2 => by rw [gI_o (by omega), gI_o (by omega)]), h12, ?_, h14, h15, h16, h17⟩
  obtain ⟨t1, t2, t3, t4⟩ := h13
  refine ⟨by omega, rfl, rfl, fun j hj => ?_⟩
  unfold yN
  rw [gI_o (b := 2) (by decide), gI_o (b := 356) (by decide), gI_s]
  by_cases e : j = tl
  · rw [if_pos e, gI_s, if_pos e, nI_clamp (by omega)]
    exact ⟨rfl, h0, hv, rfl⟩
  · rw [if_neg e, gI_s, if_neg e]
    exact t4 j (by omega)
theorem ap_s {N D nc nt a nx tl lc rc st cl fa fb n : Nat} {lg lgI : Nat → Nat → Nat} {c m : MM} {x : Int32} (h : RB D nc nt lg lgI a nx tl lc rc st cl c m) (hn : n ≤ 24) (ht : tl + nz1 x n ≤ 240) : ∃ c' m', f_Ta_append_L3 N (fa + 1) x (nI n) c = f_Ta_append_L3 N fa x (nI n + (-8)) c' ∧ f_Mo_put_L3 N (fb + 1) x (nI n) m = f_Mo_put_L3 N fb x (nI n + (-8)) m' ∧ RB D nc nt lg lgI a nx (tl + nz1 x n) lc rc st cl c' m' := by
  obtain ⟨t1, t2, t3, t4⟩ := id h.2.2.2.2.2.2.2.2.2.2.2.2.1
  rw [f_Ta_append_L3, f_Mo_put_L3, if_neg (nI_pos (by omega)), if_neg (nI_pos (by omega))]
  have e1 : (Int32.toUInt32 x >>> (Int32.toUInt32 (nI n) &&& Int32.toUInt32 31)).toInt32 &&& 255 = byS x (nI n) := by_eq hn
  have e2 : (x >>> (nI n &&& 31)) &&& 255 = byS x (nI n) := rfl
  rw [e1, e2]
  unfold nz1 at ht ⊢
  by_cases hb : byS x (nI n) = 0
  · rw [if_pos hb, if_pos hb, if_pos hb]
    exact ⟨c, m, rfl, rfl, h⟩
  · rw [if_neg hb] at ht
    rw [if_neg hb, if_neg hb, if_neg hb, t2, t3, if_neg (show ¬ (240 : Int32) ≤ nI tl from fun q => by
      have := (nI_leI (a := 240) (b := tl) (by omega) (by omega)).mp q; omega)]
    obtain ⟨v, hv, ev⟩ := by_n x (nI n)
    have h0 : 0 < v := by
      rcases Nat.eq_zero_or_pos v with z | z
      · rw [ev, z] at hb; exact absurd rfl hb
      · exact z
    have e3 : vp_nar .byte ((Int32.toInt8 (x >>> (nI n &&& 31))).toInt32) = (nI v).toInt8.toInt32 := by
      rw [pk_vb, ← t8_and (x >>> (nI n &&& 31)), e2, ev]
    rw [e3, ev]
    simp (disch := omega) only [gd_in, nI_clamp, wr_e, gI_o (show (1 : Nat) ≠ 2 by decide), gI_o (show (355 : Nat) ≠ 356 by decide), t2, t3, l_1, nI_add]
    exact ⟨_, _, rfl, rfl, RB_tb h (by omega) h0 hv⟩
theorem app_2 {N D nc nt a nx tl lc rc st cl : Nat} {lg lgI : Nat → Nat → Nat} {c m : MM} {x : Int32} (hN : 15000 ≤ N) (h : RB D nc nt lg lgI a nx tl lc rc st cl c m) (ht : tl + nz x ≤ 240) : ∃ c' m', f_Ta_append N x c = some c' ∧ f_Mo_put N x m = some m' ∧ RB D nc nt lg lgI a nx (tl + nz x) lc rc st cl c' m' := by
  obtain ⟨q, rfl⟩ : ∃ q, N = q + 5 := ⟨N - 5, by omega⟩
  obtain ⟨e1, e2, e3, e4⟩ := s_8
  unfold nz at ht ⊢
  obtain ⟨c1, m1, a1, b1, g1⟩ := ap_s (N := q + 5) (fa := q + 4) (fb := q + 4) (n := 24) (x := x) h (by omega) (by omega)
  obtain ⟨c2, m2, a2, b2, g2⟩ := ap_s (N := q + 5) (fa := q + 3) (fb := q + 3) (n := 16) (x := x) g1 (by omega) (by omega)
  obtain ⟨c3, m3, a3, b3, g3⟩ := ap_s (N := q + 5) (fa := q + 2) (fb := q + 2) (n := 8) (x := x) g2 (by omega) (by omega)
  obtain ⟨c4, m4, a4, b4, g4⟩ := ap_s (N := q + 5) (fa := q + 1) (fb := q + 1) (n := 0) (x := x) g3 (by omega) (by omega)
  rw [e1] at a1 b1
  rw [e2] at a2 b2
  rw [e3] at a3 b3
  refine ⟨c4, m4, ?_, ?_, ?_⟩
  · unfold f_Ta_append
    show f_Ta_append_L3 (q + 5) (q + 4 + 1) x (nI 24) c = _
    rw [a1, a2, a3, a4, f_Ta_append_L3, if_pos e4]
  · unfold f_Mo_put
    show f_Mo_put_L3 (q + 5) (q + 4 + 1) x (nI 24) m = _
    rw [b1, b2, b3, b4, f_Mo_put_L3, if_pos e4]
  · rw [show tl + (nz1 x 24 + nz1 x 16 + nz1 x 8 + nz1 x 0) = tl + nz1 x 24 + nz1 x 16 + nz1 x 8 + nz1 x 0 by omega]
    exact g4
theorem op_feed {k N : Nat} (hN : 15000 ≤ N) (x1 x2 x3 x4 x5 : Int32) : Sp k (f_Ro_feed N x1 x2 x3 x4 x5) (f_Mo_feed N x1 x2 x3 x4 x5) := by
  intro c m h
  replace h : Rel k c (mm_I m 355 0 0) := h
  unfold f_Mo_feed
  rw [wr_e]
  generalize mm_I m 355 0 0 = m0 at h ⊢
  have hr := h
  obtain ⟨nc, nt, lg, lgI, a, nx, tl, lc, rc, st, cl, h⟩ := h
  obtain ⟨t1, t2, t3, t4⟩ := id h.2.2.2.2.2.2.2.2.2.2.2.2.1
  unfold f_Ro_feed
  have z1 := nz_le x1
  have z2 := nz_le x2
  have z3 := nz_le x3
  have z4 := nz_le x4
  have z5 := nz_le x5
  rw [ta_solid hN, ob_e, ta_solid hN, ob_e, ta_solid hN, ob_e, ta_solid hN, ob_e, ta_solid hN, ob_e, mo_bytes hN, ob_e, mo_bytes hN, ob_e, mo_bytes hN, ob_e, mo_bytes hN, ob_e, mo_bytes hN, ob_e, t2, t3]
  simp only [nI_add]
  by_cases hf : tl + (nz x1 + nz x2 + nz x3 + nz x4 + nz x5) ≤ 240
  · rw [if_pos (show nI (tl + (nz x1 + nz x2 + nz x3 + nz x4 + nz x5)) ≤ 240 from (nI_leI (b := 240) (by omega) (by omega)).mpr hf), if_pos (show nI (tl + nz x1 + nz x2 + nz x3 + nz x4 + nz x5) ≤ 240 from (nI_leI (b := 240) (by omega) (by omega)).mpr (by omega))]
    obtain ⟨c1, m1, a1, b1, g1⟩ := app_2 (x := x1) hN h (by omega)
    obtain ⟨c2, m2, a2, b2, g2⟩ := app_2 (x := x2) hN g1 (by omega)
    obtain ⟨c3, m3, a3, b3, g3⟩ := app_2 (x := x3) hN g2 (by omega)
    obtain ⟨c4, m4, a4, b4, g4⟩ := app_2 (x := x4) hN g3 (by omega)
    obtain ⟨c5, m5, a5, b5, g5⟩ := app_2 (x := x5) hN g4 (by omega)
    obtain ⟨-, u2, u3, -⟩ := id g5.2.2.2.2.2.2.2.2.2.2.2.2.1
    rw [a1, obv_e, a2, obv_e, a3, obv_e, a4, obv_e, a5, obv_e, b1, obv_e, b2, obv_e, b3, obv_e, b4, obv_e, b5, obv_e, u2, u3]
    exact ⟨_, _, _, rfl, rfl, Rel_up g5⟩
  · rw [if_neg (show ¬ nI (tl + (nz x1 + nz x2 + nz x3 + nz x4 + nz x5)) ≤ 240 from fun q => hf ((nI_leI (b := 240) (by omega) (by omega)).mp q)), if_neg (show ¬ nI (tl + nz x1 + nz x2 + nz x3 + nz x4 + nz x5) ≤ 240 from fun q => by
      have := (nI_leI (b := 240) (by omega) (by omega)).mp q; omega)]
    exact no_op (-1) hr rfl rfl
