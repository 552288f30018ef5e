/-! ===== a day, on both sides ===== -/
theorem mo_B153 {N q n y z : Nat} {m : MM} (hq : m.1 368 123 = nI q) (hq2 : q < 60) : ∃ m', f_Mo_goDay_B153 N 368 (nI n) (nI y) (nI z) m = some m' ∧ (∀ a, a ≠ 368 → m'.1 a = m.1 a) ∧ m'.2 = m.2 ∧ ∀ x, m'.1 368 x = if x = 123 then nI (q + 1) else if x = 124 + 3 * q then nI y else if x = 125 + 3 * q then nI z else if x = 126 + 3 * q then nI n else m.1 368 x := by
  have e3 : (mm_I (mm_I (mm_I m 368 (124 + 3 * q) (nI y)) 368 (125 + 3 * q) (nI z)) 368 (126 + 3 * q) (nI n)).1 368 123 = nI q := by
    rw [gI_s, if_neg (by omega), gI_s, if_neg (by omega), gI_s, if_neg (by omega)]; exact hq
  refine ⟨mm_I (mm_I (mm_I (mm_I m 368 (124 + 3 * q) (nI y)) 368 (125 + 3 * q) (nI z)) 368 (126 + 3 * q) (nI n)) 368 123 (nI (q + 1)), ?_, fun a ha => by rw [gI_o ha, gI_o ha, gI_o ha, gI_o ha], rfl, fun x => ?_⟩
  · unfold f_Mo_goDay_B153
    simp (disch := omega) only [n_368, gd_t (show inb 123 304 = true by decide), hq, l_124, l_3, l_1, l_2, pk_mul, nI_add, gd_in, nI_clamp, wr_e]
    rw [show 124 + 3 * q + 1 = 125 + 3 * q by omega, show 124 + 3 * q + 2 = 126 + 3 * q by omega, e3, nI_add]
  · rw [gI_s]
    by_cases e1 : x = 123
    · rw [if_pos e1, if_pos e1]
    · rw [if_neg e1, if_neg e1, gI_s]
      by_cases e4 : x = 126 + 3 * q
      · rw [if_pos e4, if_neg (by omega), if_neg (by omega), if_pos e4]
      · rw [if_neg e4, gI_s]
        by_cases e3 : x = 125 + 3 * q
        · rw [if_pos e3, if_neg (by omega), if_pos e3]
        · rw [if_neg e3, gI_s]
          by_cases e2 : x = 124 + 3 * q
          · rw [if_pos e2, if_pos e2]
          · rw [if_neg e2, if_neg e2, if_neg e3, if_neg e4]
theorem mo_L115 {N n y z : Nat} {m : MM} (hN : 15000 ≤ N) (hq : m.1 368 123 = nI 60) : ∃ m', f_Mo_goDay_L115 N 368 N (nI n) (nI y) (nI z) 1 m = f_Mo_goDay_B153 N 368 (nI n) (nI y) (nI z) m' ∧ (∀ a, a ≠ 368 → m'.1 a = m.1 a) ∧ m'.2 = m.2 ∧ m'.1 368 123 = nI 59 ∧ (∀ x, x < 123 → m'.1 368 x = m.1 368 x) ∧ ∀ x, 124 ≤ x → x < 301 → m'.1 368 x = m.1 368 (x + 3) := by
  obtain ⟨m1, a1, a0, a2, a3, a4, a5⟩ := lpe (fun fu j (a : MM) => f_Mo_goDay_L115 N 368 fu (nI n) (nI y) (nI z) (nI j) a) 178 (fun a => f_Mo_goDay_B153 N 368 (nI n) (nI y) (nI z) (mm_I a 368 123 (nI 59))) (fun j a => 1 ≤ j ∧ (∀ x, x ≠ 368 → a.1 x = m.1 x) ∧ a.2 = m.2 ∧ (∀ x, x < 124 ∨ 123 + j ≤ x → a.1 368 x = m.1 368 x) ∧ ∀ x, 124 ≤ x → x < 123 + j → a.1 368 x = m.1 368 (x + 3)) (fun fu a ha => by
      have e : a.1 368 123 = nI 60 := by rw [ha.2.2.2.1 123 (by omega)]; exact hq
      show f_Mo_goDay_L115 N 368 (fu + 1) (nI n) (nI y) (nI z) (nI 178) a = _
      rw [f_Mo_goDay_L115, if_pos (by decide), n_368, gd_t (show inb 123 304 = true by decide), gd_t (show inb 123 304 = true by decide), wr_e, e, l_1, pk_sub (by omega)]) (fun fu j a hj ha => by
      obtain ⟨b0, b1, b2, b3, b4⟩ := ha
      refine ⟨mm_I a 368 (123 + j) (a.1 368 (123 + j + 3)), ?_, by omega, fun x hx => by rw [gI_o hx]; exact b1 x hx, b2, fun x hx => ?_, fun x h1 h2 => ?_⟩
      · simp (disch := omega) only [f_Mo_goDay_L115, l_177, nI_ltI, if_neg, l_123, l_3, l_1, nI_add, n_368, gd_in, nI_clamp, wr_e]
      · rw [gI_s, if_neg (by omega)]; exact b3 x (by omega)
      · rw [gI_s]
        by_cases e : x = 123 + j
        · rw [if_pos e, b3 _ (by omega), e]
        · rw [if_neg e]; exact b4 x h1 (by omega)) 177 1 N m (by omega) (by omega) ⟨by omega, fun _ _ => rfl, rfl, fun _ _ => rfl, fun x h1 h2 => absurd h2 (by omega)⟩
  refine ⟨mm_I m1 368 123 (nI 59), a1, fun a ha => by rw [gI_o ha]; exact a2 a ha, a3, by rw [gI_s, if_pos rfl], fun x hx => by rw [gI_s, if_neg (by omega)]; exact a4 x (by omega), fun x h1 h2 => by rw [gI_s, if_neg (by omega)]; exact a5 x h1 (by omega)⟩
def lgU (lg : Nat → Nat → Nat) (d y z n : Nat) : Nat → Nat → Nat := fun e w => if e = d then (if w = 0 then y else if w = 1 then z else n) else lg e w
theorem mo_logS {N d n y z : Nat} {lg : Nat → Nat → Nat} {m : MM} (hN : 15000 ≤ N) (h1 : m.1 368 123 = nI (min 60 d)) (h2 : ∀ j, j < min 60 d → ∀ w, w < 3 → m.1 368 (124 + 3 * j + w) = nI (lg (d - min 60 d + j) w)) : ∃ m', (if m.1 368 123 = 60 then f_Mo_goDay_L115 N 368 N (nI n) (nI y) (nI z) 1 m else f_Mo_goDay_B153 N 368 (nI n) (nI y) (nI z) m) = some m' ∧ (∀ a, a ≠ 368 → m'.1 a = m.1 a) ∧ m'.2 = m.2 ∧ (∀ x, x < 123 → m'.1 368 x = m.1 368 x) ∧ m'.1 368 123 = nI (min 60 (d + 1)) ∧ ∀ j, j < min 60 (d + 1) → ∀ w, w < 3 → m'.1 368 (124 + 3 * j + w) = nI (lgU lg d y z n (d + 1 - min 60 (d + 1) + j) w) := by
  by_cases hd : d < 60
  · have hm : min 60 d = d := Nat.min_eq_right (by omega)
    have hm2 : min 60 (d + 1) = d + 1 := Nat.min_eq_right (by omega)
    rw [hm] at h1 h2
    rw [hm2]
    rw [if_neg (fun q => by rw [h1, l_60, nI_eq (by omega) (by omega)] at q; omega)]
    obtain ⟨m', b1, b2, b3, b4⟩ := mo_B153 (N := N) (n := n) (y := y) (z := z) h1 hd
    refine ⟨m', b1, b2, b3, fun x hx => by rw [b4, if_neg (by omega), if_neg (by omega), if_neg (by omega), if_neg (by omega)], by rw [b4, if_pos rfl], fun j hj w hw => ?_⟩
    rw [b4, if_neg (by omega), show d + 1 - (d + 1) + j = j by omega]
    unfold lgU
    by_cases e : j = d
    · rw [if_pos e]
      obtain rfl | rfl | rfl : w = 0 ∨ w = 1 ∨ w = 2 := by omega
      · rw [if_pos (by omega), if_pos rfl]
      · rw [if_neg (by omega), if_pos (by omega), if_neg (by omega), if_pos rfl]
      · rw [if_neg (by omega), if_neg (by omega), if_pos (by omega), if_neg (by omega), if_neg (by omega)]
    · have := h2 j (by omega) w hw
      rw [show d - d + j = j by omega] at this
      rw [if_neg e, if_neg (by omega), if_neg (by omega), if_neg (by omega), this]
  · have hm : min 60 d = 60 := Nat.min_eq_left (by omega)
    have hm2 : min 60 (d + 1) = 60 := Nat.min_eq_left (by omega)
    rw [hm] at h1 h2
    rw [hm2, if_pos (show m.1 368 123 = 60 from h1)]
    obtain ⟨m1, a1, a2, a3, a4, a5, a6⟩ := mo_L115 (N := N) (n := n) (y := y) (z := z) hN h1
    obtain ⟨m', b1, b2, b3, b4⟩ := mo_B153 (N := N) (n := n) (y := y) (z := z) a4 (by omega)
    refine ⟨m', a1.trans b1, fun a ha => (b2 a ha).trans (a2 a ha), b3.trans a3, fun x hx => by rw [b4, if_neg (by omega), if_neg (by omega), if_neg (by omega), if_neg (by omega)]; exact a5 x hx, by rw [b4, if_pos rfl], fun j hj w hw => ?_⟩
    rw [b4, if_neg (by omega)]
    unfold lgU
    by_cases e : j = 59
    · rw [if_pos (show d + 1 - 60 + j = d by omega)]
      obtain rfl | rfl | rfl : w = 0 ∨ w = 1 ∨ w = 2 := by omega
      · rw [if_pos (by omega), if_pos rfl]
      · rw [if_neg (by omega), if_pos (by omega), if_neg (by omega), if_pos rfl]
      · rw [if_neg (by omega), if_neg (by omega), if_pos (by omega), if_neg (by omega), if_neg (by omega)]
    · have := h2 (j + 1) (by omega) w hw
      rw [if_neg (by omega), if_neg (by omega), if_neg (by omega), if_neg (by omega), a6 _ (by omega) (by omega), show 124 + 3 * j + w + 3 = 124 + 3 * (j + 1) + w by omega, this, show d - 60 + (j + 1) = d + 1 - 60 + j by omega]
theorem RW_lo {nc nt : Nat} {g g' : Nat → Int32} (h : ∀ x, x < 123 → g' x = g x) (hnc : nc ≤ 6) (hnt : nt ≤ 8) (hw : RW nc nt g) : RW nc nt g' := by
  obtain ⟨-, q1, q2, q3, q4, q5, q6⟩ := id hw
  refine RW_mk hw hnt (fun i hi => h _ (by omega)) (fun i hi => ?_) (fun i k hi hk => ?_) (fun i k hi hk => ?_) ⟨_, q2, by rw [h _ (by omega)]; exact q1⟩ ⟨_, q4, by rw [h _ (by omega)]; exact q3⟩ ⟨_, q6, by rw [h _ (by omega)]; exact q5⟩
  · rw [h _ (by omega)]; exact RW_un0 hw hi
  · have := (hw.1 i hi).2.2.1
    exact ⟨h _ (by omega), h _ (by omega)⟩
  · have := (hw.1 i hi).2.2.1
    rw [h _ (by omega)]; exact RW_ik0 hw hi hk
theorem SR_lo {nc nt : Nat} {ob sz so ab ik un g g' : Nat → Int32} (h : ∀ x, x < 123 → g' x = g x) (hnc : nc ≤ 6) (hw : RW nc nt g) (hs : SR nc ob sz so ab ik un g) : SR nc ob sz so ab ik un g' := by
  obtain ⟨h1, h2⟩ := hs
  rw [SR, h 120 (by omega), h 121 (by omega), h 122 (by omega)]
  refine ⟨fun c hc => ?_, h2⟩
  obtain ⟨e1, e2, e3⟩ := h1 c hc
  obtain ⟨-, -, hz6, -⟩ := hw.1 c hc
  rw [show zN g' c = zN g c by unfold zN; rw [h _ (by omega)], h (20 * c + 1) (by omega), h (20 * c) (by omega)]
  refine ⟨e1, e2, fun k hk => ?_⟩
  rw [h (20 * c + 2 + 3 * k) (by omega), h (20 * c + 3 + 3 * k) (by omega), h (20 * c + 4 + 3 * k) (by omega)]
  exact e3 k hk
theorem LG_lg {lg lg' : Nat → Nat → Nat} {g : Nat → Int32} (h : LG lg g) (he : ∀ e w, e < dyN g → lg' e w = lg e w) : LG lg' g := by
  obtain ⟨h1, h2⟩ := h
  refine ⟨h1, fun j hj w hw => ?_⟩
  rw [h2 j hj w hw, he _ _ (by omega)]
theorem hday_up {a nx nc nt : Nat} {lg : Nat → Nat → Nat} {cs cn ma : Int32} {c : Nat → Nat → Int32} {U g : Nat → Int32} (h : HB a nx nc nt lg cs cn ma c U g) : ∀ j, j ≤ a → hday a U g j ≤ hday a U g 0 + j := by
  intro j
  induction j with
  | zero => intro _; exact Nat.le_refl _
  | succ j ih =>
    intro hj
    have h1 := ih (by omega)
    have h2 := (h.2.2.2.2.2 j (by omega)).2.2.2.2
    omega
theorem hday_to {a nx nc nt : Nat} {lg : Nat → Nat → Nat} {cs cn ma : Int32} {c : Nat → Nat → Int32} {U g : Nat → Int32} (h : HB a nx nc nt lg cs cn ma c U g) : ∀ i j, j + i = a → hday a U g j ≤ dyN g := by
  intro i
  induction i with
  | zero => intro j hj; have : j = a := by omega
            subst this; rw [hday_a]; exact Nat.le_refl _
  | succ i ih =>
    intro j hj
    exact Nat.le_trans (h.2.2.2.2.2 j (by omega)).2.2.2.1 (ih (j + 1) (by omega))
/-- a day on both sides, behind what was kept -/
theorem day_2 {N D nc nt a nx tl lc rc st cl : Nat} {lg lgI : Nat → Nat → Nat} {c m : MM} (hN : 15000 ≤ N) (hD : D < 900000) (h : RB D nc nt lg lgI a nx tl lc rc st cl c m) (ha : 1 ≤ a) (hl : hday a (m.1 370) (m.1 368) (a - 1) = dyN (m.1 368)) : ∃ lg' c' m', f_Ag_passDay N c = some c' ∧ f_Mo_goDay N 368 m = some m' ∧ RB (D + 1) nc nt lg' lgI a nx tl lc rc st cl c' m' ∧ c'.2 = c.2 ∧ m'.2 = m.2 := by
  have hR := h
  obtain ⟨hL, hM⟩ := RB_L h
  obtain ⟨h1, h2, h3, h4, h5, h6, h7, h8, h9, h10, h11, h12, h13, h14, h15, h16, h17⟩ := h
  have hnc := h1.2.2.1
  have hnt := h1.2.2.2.1
  obtain ⟨lo, hlo, hKC, hKM⟩ := law_2 h14
  obtain ⟨c1, a1, a2, a3, a4⟩ := co_fade (x2 := nI (gal (m.1 368) nc)) hN hKC (fun _ _ => rfl) hL
  obtain ⟨m1, b1, b2, b3, b4, b5⟩ := mo_fades hN hlo hKM rfl rfl rfl n_368 (by decide) (by decide) (by decide) (by decide) (by decide) h6 h4 h2.1 hnc
  have hL1 : LK nc nt (m1.1 368) (m.1 362) (m.1 365) c1 := FD_LK hL b5 a2 a4
  obtain ⟨z1, z2⟩ := FD_z h6 b5
  have hgal := FD_gal h6 hnc b5
  obtain ⟨g1, g2⟩ := co_gone hN hL
  obtain ⟨g3, g4⟩ := co_gone hN hL1
  have g2' : gal (m.1 368) nc ≤ 6 * nc := g2
  have g4' : gal (m1.1 368) nc ≤ 6 * nc := g4
  generalize hn : sm (fun c => cn (gnk lo (m.1 365) (m.1 368) c) (zN (m.1 368) c)) nc = n at b1 hgal
  obtain ⟨-, y1, y2, y3, y4, y5, y6⟩ := id h6
  have d122 : m1.1 368 122 = nI (dyN (m.1 368)) := by rw [z2 122 (by omega) hnc]; exact y5
  have c274 : c1.1 27 4 = nI (dyN (m.1 368)) := by rw [a2 27 (by decide) (by decide) (by decide), h5.2.2.2]; exact y5
  generalize hd : dyN (m.1 368) = d at *
  -- the day is counted
  have hmm : ∀ x, x ≠ 122 → (mm_I m1 368 122 (nI (d + 1))).1 368 x = m1.1 368 x := fun x hx => by rw [gI_s, if_neg hx]
  have hM1 : MK nc nt (mm_I m1 368 122 (nI (d + 1))) := by
    obtain ⟨k1, k2, k3, k4, k5, k6, k7⟩ := hM
    refine ⟨?_, ?_, ?_, ?_, ?_, k6, k7⟩
    · rw [gI_o (by decide), b3 27 (by unfold scr; omega)]; exact k1
    · rw [gI_o (by decide), b3 26 (by unfold scr; omega)]; exact k2
    · obtain ⟨-, q1, q2, q3, q4, q5, q6⟩ := id hL1.2.2.1
      refine RW_mk hL1.2.2.1 hnt (fun i hi => hmm _ (by omega)) (fun i hi => ?_) (fun i k hi hk => ?_) (fun i k hi hk => ?_) ⟨_, q2, by rw [hmm _ (by omega)]; exact q1⟩ ⟨_, q4, by rw [hmm _ (by omega)]; exact q3⟩ ⟨d + 1, by omega, by rw [gI_s, if_pos rfl]⟩
      · rw [hmm _ (by omega)]; exact RW_un0 hL1.2.2.1 hi
      · have := (hL1.2.2.1.1 i hi).2.2.1
        exact ⟨hmm _ (by omega), hmm _ (by omega)⟩
      · have := (hL1.2.2.1.1 i hi).2.2.1
        rw [hmm _ (by omega)]; exact RW_ik0 hL1.2.2.1 hi hk
    · rw [gI_o (by decide), b2 362 (by decide) (by decide) (by decide)]; exact k4
    · rw [gI_o (by decide), b2 365 (by decide) (by decide) (by decide)]; exact k5
  have hL2 : LK nc nt ((mm_I m1 368 122 (nI (d + 1))).1 368) ((mm_I m1 368 122 (nI (d + 1))).1 362) ((mm_I m1 368 122 (nI (d + 1))).1 365) (mm_I c1 27 4 (nI (d + 1))) := by
    obtain ⟨e1, ⟨s1, s2, s3, s4⟩, e3, e4, e5⟩ := hL1
    rw [gI_o (b := 362) (by decide), gI_o (b := 365) (by decide), b2 362 (by decide) (by decide) (by decide), b2 365 (by decide) (by decide) (by decide)]
    refine ⟨?_, ⟨fun i hi => ?_, ?_, ?_, ?_⟩, hM1.2.2.1, e4, e5⟩
    · rw [gI_o (b := 23) (by decide), gI_o (b := 24) (by decide), gI_o (b := 25) (by decide), gI_o (b := 26) (by decide)]; exact e1
    · obtain ⟨f1, f2, f3⟩ := s1 i hi
      have h6' := (e3.1 i hi).2.2.1
      rw [show zN ((mm_I m1 368 122 (nI (d + 1))).1 368) i = zN (m1.1 368) i by unfold zN; rw [hmm _ (by omega)], gI_o (b := 29) (by decide), gI_o (b := 30) (by decide), gI_o (b := 31) (by decide), gI_o (b := 32) (by decide), gI_o (b := 33) (by decide), hmm _ (by omega), hmm _ (by omega)]
      refine ⟨f1, f2, fun k hk => ?_⟩
      rw [hmm _ (by omega), hmm _ (by omega), hmm _ (by omega)]; exact f3 k hk
    · rw [gI_s, if_neg (by decide), hmm _ (by omega)]; exact s2
    · rw [gI_s, if_neg (by decide), hmm _ (by omega)]; exact s3
    · rw [gI_s, if_pos rfl, gI_s, if_pos rfl]
  have hDL : DL nc nt (mm_I c1 27 4 (nI (d + 1))) (mm_I m1 368 122 (nI (d + 1))) (mm_I c1 27 4 (nI (d + 1))) (mm_I m1 368 122 (nI (d + 1))) := ⟨hL2, hM1, fun _ _ _ => rfl, rfl, fun _ _ => rfl, rfl, fun _ _ => rfl⟩
  obtain ⟨y, c3, m3, r1, r2, r3, r4⟩ := chg_2 (n := n) hN hDL
  obtain ⟨t1, t2, t3, t4, t5, t6, t7⟩ := r4
  have w1 := co_wrong hN t1
  have w2 := mo_wrong (n := n) (y := y) hN t2
  have e362 : m3.1 362 = (mm_I m1 368 122 (nI (d + 1))).1 362 := t5 362 (by decide)
  rw [e362] at w2
  generalize hz : cn (fun c => !(rgt (m3.1 368) ((mm_I m1 368 122 (nI (d + 1))).1 362) nc c)) nc = z at w1 w2
  have hz6 : z ≤ nc := by rw [← hz]; exact cn_le _ _
  have hlog : ∀ x, 123 ≤ x → m3.1 368 x = m.1 368 x := fun x hx => by rw [t7 x (by omega), hmm _ (by omega), z2 x (by omega) hnc]
  obtain ⟨u1, u2⟩ := id h7
  rw [hd] at u1 u2
  obtain ⟨m', v1, v2, v3, v4, v5, v6⟩ := mo_logS (N := N) (d := d) (n := n) (y := y) (z := z) (lg := lg) (m := m3) hN (by rw [hlog 123 (by omega)]; exact u1) (fun j hj w hw => by rw [hlog _ (by omega)]; exact u2 j hj w hw)
  have hcf : ∀ i, i ≠ 27 → i ≠ 32 → i ≠ 33 → i ≠ 35 → i ≠ 42 → i ≠ 49 → ∀ v, (mm_I c3 49 (d % 128) v).1 i = c.1 i := fun i i1 i2 i3 i4 i5 i6 v => by
    rw [gI_o i6, t3 i i1 i3, gI_o i1, a2 i i2 i4 i5]
  have hmf : ∀ i, i ≠ 355 → i ≠ 359 → i ≠ 368 → m'.1 i = m.1 i := fun i i1 i2 i3 => by
    rw [v2 i i3, t5 i i3, gI_o i3, b2 i i1 i2 i3]
  have hm122 : m'.1 368 122 = nI (d + 1) := by rw [v4 122 (by omega), t7 122 (by omega), gI_s, if_pos rfl]
  have hdy : dyN (m'.1 368) = d + 1 := by unfold dyN; rw [hm122, nI_clamp (by omega)]
  have hRW3 := t1.2.2.1
  have hd128 : d % 128 < 128 := Nat.mod_lt _ (by omega)
  have h0 := hday_up h11 a (Nat.le_refl _)
  rw [hday_a, hd] at h0
  have ha40 := h11.1
  refine ⟨lgU lg d y z n, mm_I c3 49 (d % 128) (nI (y + 16 * z + 256 * n)), m', ?_, ?_, ?_, ?_, ?_⟩
  · unfold f_Ag_passDay
    rw [g1, ob_e, show f_Ag_passDay_L18 N N (nI (fo (fun c n => n + (zN (m.1 368) c - lef (m.1 368) c)) nc 0 0)) 0 c = pdT N (nI (gal (m.1 368) nc)) c1 from a1]
    unfold pdT
    rw [g3, ob_e, wr_e, c274, l_1, nI_add, r2, ob_e, w1, ob_e, m127 (by omega), gd_in (by omega) (by omega), nI_clamp (by omega), wr_e, show fo (fun c n => n + (zN (m1.1 368) c - lef (m1.1 368) c)) nc 0 0 = gal (m1.1 368) nc from rfl, pk_sub (by omega), show (16 : Int32) = nI 16 from rfl, show (256 : Int32) = nI 256 from rfl, pk_mul, pk_mul, nI_add, nI_add, hgal, show gal (m.1 368) nc + n - gal (m.1 368) nc = n by omega]
  · unfold f_Mo_goDay
    rw [b1, ob_e, n_368, gd_t (show inb 122 304 = true by decide), gd_t (show inb 122 304 = true by decide), wr_e, d122, l_1, nI_add]
    rw [r3, w2]
    exact v1
  · refine RB_of hR (by omega) (fun i hi hi2 => hcf i (by omega) (by omega) (by omega) (by omega) (by omega) (by omega) _) (fun i hi => hmf i (by omega) (by omega) (by omega)) (fun j hj => ?_) ?_ (RW_lo v4 hnc hnt hRW3) ?_ ?_ ?_ (by omega) ?_
    · have : scr j := by unfold scr; omega
      rw [v2 355 (by decide), t5 355 (by decide), gI_o (by decide), b3 j this]
    · rw [gI_o (b := 27) (by decide), gI_o (b := 29) (by decide), gI_o (b := 30) (by decide), gI_o (b := 31) (by decide), gI_o (b := 32) (by decide), gI_o (b := 33) (by decide)]
      exact SR_lo v4 hnc hRW3 t1.2.1
    · unfold LG
      rw [hdy]
      exact ⟨v5, v6⟩
    · intro e
      unfold lgU
      have hn36 : n ≤ 36 := by omega
      obtain ⟨l1, l2, l3⟩ := h8 e
      by_cases q : e = d
      · rw [if_pos q, if_pos q, if_pos q, if_pos rfl, if_neg (by omega), if_pos rfl, if_neg (by omega), if_neg (by omega)]
        omega
      · rw [if_neg q, if_neg q, if_neg q]; exact ⟨l1, l2, l3⟩
    · rw [hdy]
      have e0 : hday a (m'.1 370) (m'.1 368) 0 = hday a (m.1 370) (m.1 368) 0 := by
        unfold hday
        rw [if_pos (by omega), if_pos (by omega), hmf 370 (by decide) (by decide) (by decide)]
      rw [e0]
      intro e q1 q2
      rw [gI_s]
      unfold lgU
      by_cases q : e = d
      · rw [if_pos (by rw [q]), if_pos q, if_pos q, if_pos q, if_pos rfl, if_neg (by omega), if_pos rfl, if_neg (by omega), if_neg (by omega)]
      · rw [if_neg (by omega), if_neg q, if_neg q, if_neg q, t3 49 (by decide) (by decide), gI_o (by decide), a2 49 (by decide) (by decide) (by decide)]
        exact h9 e (by omega) q2
    · obtain ⟨q1, q2, q3, q4, q5, q6⟩ := h11
      have hU : m'.1 370 = m.1 370 := hmf 370 (by decide) (by decide) (by decide)
      have hto := hday_to ⟨q1, q2, q3, q4, q5, q6⟩
      refine ⟨q1, q2, by rw [hcf 51 (by decide) (by decide) (by decide) (by decide) (by decide) (by decide)]; exact q3, by rw [hcf 51 (by decide) (by decide) (by decide) (by decide) (by decide) (by decide)]; exact q4, by rw [v2 355 (by decide), t5 355 (by decide), gI_o (by decide), b3 37 (by unfold scr; omega)]; exact q5, fun j hj => ?_⟩
      obtain ⟨x1, x2, x3, x4, x5⟩ := q6 j hj
      have hp : (nx + 40 - a + j) % 40 < 40 := Nat.mod_lt _ (by omega)
      generalize (nx + 40 - a + j) % 40 = p at *
      have hdj : hday a (m.1 370) (m.1 368) j = dyN (hrow (m.1 370) j) := by unfold hday; rw [if_pos hj]
      have hle := hto (a - j) j (by omega)
      rw [hd, hdj] at hle
      rw [hcf _ (by omega) (by omega) (by omega) (by omega) (by omega) (by omega), hcf (53 + 7 * p + 2) (by omega) (by omega) (by omega) (by omega) (by omega) (by omega), hcf (53 + 7 * p + 3) (by omega) (by omega) (by omega) (by omega) (by omega) (by omega), hcf (53 + 7 * p + 4) (by omega) (by omega) (by omega) (by omega) (by omega) (by omega), hcf (53 + 7 * p + 5) (by omega) (by omega) (by omega) (by omega) (by omega) (by omega), hcf (53 + 7 * p + 6) (by omega) (by omega) (by omega) (by omega) (by omega) (by omega), hU]
      refine ⟨x1, x2, LG_lg x3 (fun e w he => by unfold lgU; rw [if_neg (by omega)]), ?_⟩
      have hj1 : hday a (m.1 370) (m'.1 368) j = hday a (m.1 370) (m.1 368) j := by unfold hday; rw [if_pos hj, if_pos hj]
      rw [hj1]
      by_cases q : j + 1 = a
      · have e1 : hday a (m.1 370) (m'.1 368) (j + 1) = d + 1 := by rw [q, hday_a]; exact hdy
        have e2 : hday a (m.1 370) (m.1 368) j = d := by rw [show j = a - 1 by omega]; exact hl
        omega
      · have e1 : hday a (m.1 370) (m'.1 368) (j + 1) = hday a (m.1 370) (m.1 368) (j + 1) := by unfold hday; rw [if_pos (by omega), if_pos (by omega)]
        rw [e1]; exact ⟨x4, x5⟩
  · show c3.2 = c.2
    rw [t4]; exact a3
  · rw [v3, t6]; exact b4
