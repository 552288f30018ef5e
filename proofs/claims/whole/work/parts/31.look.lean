/-! ===== wanted, twins, the log, what stood ===== -/
def waS (g T : Nat → Int32) (nc nt c b : Nat) : Nat := if bcI (bits (fit g T nc b) nt) ≤ bcI (bits (fit g T nc c) nt) then b else c
theorem op_wanted {k N : Nat} (hN : 15000 ≤ N) (x1 : Int32) : Sp k (f_Ro_wanted N x1) (f_Mo_wanted N x1) := Sp_ro fun c m h => by
  unfold f_Mo_wanted
  rw [wr_e]
  generalize mm_I m 355 0 0 = m0 at h ⊢
  obtain ⟨nc, nt, hL, hM⟩ := Rel_L h
  have h1 := hL.1.1
  obtain ⟨hm27, hm26, hW, hT, hF, hnc, hnt⟩ := id hM
  unfold f_Ro_wanted
  rw [co_isNone hL.1, ob_e, hm27]
  simp (disch := omega) only [l_0, none_R, nI_eq]
  by_cases h0 : nc = 0
  · simp only [h0, not_true_eq_false, if_false, if_true]
    exact ⟨_, rfl, rfl⟩
  · simp only [h0, not_false_eq_true, if_false, if_true]
    rw [L_0, L_1, mo_isIn (by decide) (by decide), ob_e]
    rcases arg_in x1 (n := 1) (by decide) with hx | hx | ⟨w, hw, rfl⟩
    · simp only [eq_true hx, if_true]; rw [mo_in_f (Or.inl hx)]
      exact ⟨_, rfl, rfl⟩
    · have hx0 : ¬ x1 < nI 0 := fun q => by
        rw [fa_lt, nI_toInt (by decide)] at q hx
        omega
      simp only [if_neg hx0, if_neg (show ¬ x1 ≤ 1 from (fa_of_lt hx).2.1)]; rw [mo_in_f (Or.inr hx)]
      exact ⟨_, rfl, rfl⟩
    · rw [mo_in_t (by omega) hw (by decide)]
      simp (disch := omega) only [bI_t, nI_eq, nI_ltI, nI_leI, if_neg, if_pos, l_1, l_9]
      have h9 : ∀ c, bcI (bits (fit (m0.1 368) (m0.1 362) nc c) nt) < nI 9 := fun c => by
        obtain ⟨v, hv, e⟩ := bits_nI (p := fit (m0.1 368) (m0.1 362) nc c) nt (by omega)
        rw [e]
        have h8 : (2 : Nat) ^ nt ≤ 2 ^ 8 := Nat.pow_le_pow_right (by decide) hnt
        exact bc_8 v (by omega)
      obtain ⟨n1, rfl⟩ : ∃ q, nc = q + 1 := ⟨nc - 1, by omega⟩
      generalize hB : fo (fun c b => waS (m0.1 368) (m0.1 362) (n1 + 1) nt (c) b) n1 1 0 = B
      refine ⟨(if nI w = nI 0 then nI B else bcI (bits (fit (m0.1 368) (m0.1 362) (n1 + 1) B) nt)), ?_, ?_⟩
      · obtain ⟨N1, rfl⟩ : ∃ q, N = q + 1 := ⟨N - 1, by omega⟩
        have e0 : f_Ro_wanted_L29 (N1 + 1) (N1 + 1) (nI w) (nI 0) (nI 9) (nI 0) c = f_Ro_wanted_L29 (N1 + 1) N1 (nI w) (nI 0) (bcI (bits (fit (m0.1 368) (m0.1 362) (n1 + 1) 0) nt)) (nI 1) c := by
          simp (disch := omega) only [f_Ro_wanted_L29, h1, nI_leI, if_neg]
          rw [co_suited hN hL (by omega), ob_e, bc_e, ob_e, if_neg (fa_of_lt (h9 0)).2.1, if_neg (fa_of_lt (h9 0)).2.1]
          rfl
        rw [e0]
        refine (lpf (fun fu q (b : Nat) => f_Ro_wanted_L29 (N1 + 1) fu (nI w) (nI b) (bcI (bits (fit (m0.1 368) (m0.1 362) (n1 + 1) b) nt)) (nI q) c) (n1 + 1) (fun c b => waS (m0.1 368) (m0.1 362) (n1 + 1) nt c b) (fun b => some ((if nI w = nI 0 then nI b else bcI (bits (fit (m0.1 368) (m0.1 362) (n1 + 1) b) nt)), c)) (fun _ _ => True) (fun fu b _ => by
          simp (disch := omega) only [f_Ro_wanted_L29, h1, nI_leI, Nat.le_refl, if_true, l_0]
          rfl) (fun fu q b hq _ => by
          refine ⟨?_, trivial⟩
          simp (disch := omega) only [f_Ro_wanted_L29, h1, nI_leI, if_neg]
          rw [co_suited hN hL (by omega), ob_e, bc_e, ob_e, l_1, nI_add]
          unfold waS
          split <;> rfl) n1 1 N1 0 (by omega) (by omega) trivial).1.trans ?_
        rw [hB]
      · refine (lpf (fun fu q (b : Nat) => f_Mo_wanted_L28 N fu (nI w) (nI b) (nI q) m0) (n1 + 1) (fun c b => waS (m0.1 368) (m0.1 362) (n1 + 1) nt c b) (fun b => some ((if nI w = nI 0 then nI b else bcI (bits (fit (m0.1 368) (m0.1 362) (n1 + 1) b) nt)), m0)) (fun _ b => b < n1 + 1) (fun fu b hb => by
          simp (disch := omega) only [f_Mo_wanted_L28, hm27, nI_leI, Nat.le_refl, if_true, l_0]
          rw [mo_suits hN hM hb, ob_e, bc_e, ob_e]
          by_cases qw : nI w = nI 0
          · simp only [qw, if_true]
          · simp only [qw, if_false]) (fun fu q b hq hb => by
          refine ⟨?_, ?_⟩
          · simp (disch := omega) only [f_Mo_wanted_L28, hm27, nI_leI, if_neg]
            rw [mo_suits hN hM hq, ob_e, bc_e, ob_e, mo_suits hN hM hb, ob_e, bc_e, ob_e, l_1, nI_add]
            unfold waS
            split <;> rfl
          · unfold waS
            split <;> omega) n1 1 N 0 (by omega) (by omega) (by omega)).1.trans ?_
        rw [hB]
theorem op_twins {k N : Nat} (hN : 15000 ≤ N) (x1 : Int32) : Sp k (f_Ro_twins N x1) (f_Mo_twins N x1) := Sp_ro fun c m h => by
  unfold f_Mo_twins
  rw [wr_e]
  generalize mm_I m 355 0 0 = m0 at h ⊢
  obtain ⟨nc, nt, hL, hM⟩ := Rel_L h
  have h1 := hL.1.2.1
  have hpm := hL.1.2.2.2.2.1
  obtain ⟨hm27, hm26, hW, hT, hF, hnc, hnt⟩ := id hM
  unfold f_Ro_twins
  rw [co_isNone hL.1, ob_e, hm27]
  simp (disch := omega) only [l_0, none_R, nI_eq]
  by_cases h0 : nc = 0
  · simp only [h0, not_true_eq_false, if_false, if_true]
    exact ⟨_, rfl, rfl⟩
  · simp only [h0, not_false_eq_true, if_false, if_true]
    by_cases hx : -1 ≤ x1
    · rw [if_pos hx, if_pos hx]
      refine lp_2 (fun fu p (x : Int32) => f_Ro_twins_L21 N fu x1 x (nI p) c) (fun fu p (y : Int32) => f_Mo_twins_L23 N fu x1 y (nI p) m0) nt (fun _ x y => x = y) (fun X Y => ∃ r, X = some (r, c) ∧ Y = some (r, m0)) (fun fa fb x y hxy => by
        subst hxy
        simp (disch := omega) only [f_Ro_twins_L21, f_Mo_twins_L23, h1, hm26, nI_leI, Nat.le_refl, if_true]
        exact ⟨_, rfl, rfl⟩) (fun fa fb p x y hp hxy => ?_) nt 0 N N (nI 0) (nI 0) (by omega) (by omega) (by omega) rfl
      subst hxy
      simp (disch := omega) only [f_Ro_twins_L21, f_Mo_twins_L23, h1, hm26, nI_leI, if_neg, l_1, nI_add]
      refine lp_2 (fun fu q (x : Int32) => f_Ro_twins_L37 N (f_Ro_twins_L21 N fa) fu x1 x (nI p) (nI q) c) (fun fu q (y : Int32) => f_Mo_twins_L36 N (f_Mo_twins_L23 N fb) fu x1 y (nI p) (nI q) m0) nt (fun _ x y => x = y) (fun X Y => (∃ a' c', X = f_Ro_twins_L21 N fa x1 a' (nI (p + 1)) c ∧ Y = f_Mo_twins_L23 N fb x1 c' (nI (p + 1)) m0 ∧ a' = c') ∨ ∃ r, X = some (r, c) ∧ Y = some (r, m0)) (fun ga gb x y hxy => by
        subst hxy
        simp (disch := omega) only [f_Ro_twins_L37, f_Mo_twins_L36, h1, hm26, nI_leI, Nat.le_refl, if_true, l_1, nI_add]
        exact Or.inl ⟨_, _, rfl, rfl, rfl⟩) (fun ga gb q x y hq hxy => ?_) (nt - (p + 1)) (p + 1) N N x x (by omega) (by omega) (by omega) rfl
      subst hxy
      simp (disch := omega) only [f_Ro_twins_L37, f_Mo_twins_L36, h1, hm26, nI_leI, if_neg, gd_in, nI_clamp, mo_marks, ob_e, (hpm p hp).2, (hpm q hq).2, l_1, nI_add, l_10, pk_mul, Nat.mul_comm 10 p]
      by_cases e1 : m0.1 362 (2 * p + 1) = m0.1 362 (2 * q + 1)
      · simp only [if_pos e1]
        by_cases e2 : x = x1
        · simp only [if_pos e2]
          exact Or.inr (Or.inr ⟨_, rfl, rfl⟩)
        · simp only [if_neg e2]
          exact Or.inl ⟨_, _, rfl, rfl, rfl⟩
      · simp only [if_neg e1]
        exact Or.inl ⟨_, _, rfl, rfl, rfl⟩
    · rw [if_neg hx, if_neg hx]
      exact ⟨_, rfl, rfl⟩
theorem m127 {n : Nat} (h : n < 2 ^ 31) : nI n &&& 127 = nI (n % 128) := pk_andN (n := n) (by omega) (m := 127) 7 (by decide)
theorem enc_0 {a b d : Nat} (ha : a < 16) (hb : b < 16) (hd : d < 64) : nI (a + 16 * b + 256 * d) &&& 15 = nI a := by
  rw [pk_andN (n := a + 16 * b + 256 * d) (by omega) (m := 15) 4 (by decide)]
  exact congrArg nI (by omega)
theorem enc_1 {a b d : Nat} (ha : a < 16) (hb : b < 16) (hd : d < 64) : nI (a + 16 * b + 256 * d) >>> ((4 : Int32) &&& 31) &&& 15 = nI b := by
  rw [pk_shrN (n := a + 16 * b + 256 * d) (by omega) _ 4 (by decide), pk_andN (by omega) (m := 15) 4 (by decide)]
  exact congrArg nI (by omega)
theorem enc_2 {a b d : Nat} (ha : a < 16) (hb : b < 16) (hd : d < 64) : nI (a + 16 * b + 256 * d) >>> ((8 : Int32) &&& 31) = nI d := by
  rw [pk_shrN (n := a + 16 * b + 256 * d) (by omega) _ 8 (by decide)]
  exact congrArg nI (by omega)
theorem op_log {k N : Nat} (x1 x2 : Int32) : Sp k (f_Ro_log N x1 x2) (f_Mo_log N x1 x2) := Sp_ro fun c m h => by
  unfold f_Mo_log
  rw [wr_e]
  generalize mm_I m 355 0 0 = m0 at h ⊢
  obtain ⟨nc, nt, lg, lgI, a, nx, tl, lc, rc, st, cl, h1, h2, h3, h4, h5, h6, h7, h8, h9, h10, h11, -⟩ := h
  obtain ⟨hw, q1, q2, q3, q4, q5, q6⟩ := h6
  obtain ⟨g1, g2⟩ := h7
  have hd0 := hday_0 h11 a (Nat.le_refl _)
  rw [hday_a] at hd0
  have e4 : c.1 27 4 = nI (dyN (m0.1 368)) := h5.2.2.2.trans q5
  unfold f_Ro_log f_Ag_logged f_Ag_logLength
  rw [e4, g1, L_0, L_2]
  generalize dyN (m0.1 368) = d at *
  have hmin : (if nI d < (60 : Int32) then nI d else (60 : Int32)) = nI (min 60 d) := by
    rw [l_60]
    by_cases hd : d < 60
    · rw [if_pos ((nI_ltI (by omega) (by omega)).mpr hd), Nat.min_eq_right (by omega)]
    · rw [if_neg (fun q => hd ((nI_ltI (by omega) (by omega)).mp q)), Nat.min_eq_left (by omega)]
  rw [ob_e, hmin, show (lN 0) = (nI 0).toInt64 by decide, mo_isInI, ob_e]
  rcases pk_ix x1 (n := min 60 d) (by omega) with hx | hx | ⟨j, hj, rfl⟩
  · rw [if_pos hx, decide_eq_false (show ¬ nI 0 ≤ x1 from (fa_of_lt hx).2.1), Bool.false_and]
    exact ⟨_, rfl, rfl⟩
  · have hx0 : ¬ x1 < 0 := fun q => by
      rw [fa_lt] at q
      rw [fa_le, nI_toInt (by omega)] at hx
      have : (0 : Int32).toInt = 0 := by decide
      omega
    have e0 : ¬ x1 ≤ nI (min 60 d) - 1 := fun q => by
      have : (nI (min 60 d) - nI 1).toInt = ((min 60 d : Nat) : Int) - 1 := pk_sub_toInt (by omega) (by decide)
      rw [fa_le] at hx q
      rw [show nI (min 60 d) - 1 = nI (min 60 d) - nI 1 from rfl, this] at q
      rw [nI_toInt (by omega)] at hx
      omega
    rw [if_neg hx0, if_pos hx, decide_eq_false e0, Bool.and_false]
    exact ⟨_, rfl, rfl⟩
  · rw [decide_eq_true (show nI 0 ≤ nI j from (nI_leI (by omega) (by omega)).mpr (by omega)), l_1, pk_sub (by omega), decide_eq_true ((nI_leI (by omega) (by omega)).mpr (by omega))]
    rw [show (nI 0).toInt64 = lN 0 by decide, mo_isIn (by decide) (by decide), ob_e]
    simp (disch := omega) only [l_0, l_2, l_3, l_124, nI_ltI, nI_leI, if_neg, bI_t, Bool.and_self, nI_eq, pk_sub]
    rcases arg_in x2 (n := 2) (by decide) with hx | hx | ⟨w, hw2, rfl⟩
    · simp only [eq_true hx, if_true]; rw [mo_in_f (Or.inl hx)]
      exact ⟨_, rfl, rfl⟩
    · have hx0 : ¬ x2 < nI 0 := fun q => by
        rw [fa_lt, nI_toInt (by decide)] at q hx
        omega
      rw [mo_in_f (Or.inr hx)]; simp only [eq_false hx0, if_false, eq_false (fa_of_lt hx).2.1]
      exact ⟨_, rfl, rfl⟩
    · rw [mo_in_t (by omega) hw2 (by decide)]
      have hlt : (d - 1 - j) % 128 < 128 := Nat.mod_lt _ (by omega)
      have hr := h9 (d - 1 - j) (by omega) (by omega)
      obtain ⟨b1, b2, b3⟩ := h8 (d - 1 - j)
      have hg := g2 (min 60 d - 1 - j) (by omega) w (by omega)
      rw [show d - min 60 d + (min 60 d - 1 - j) = d - 1 - j by omega] at hg
      simp (disch := omega) only [bI_t, nI_eq, nI_ltI, nI_leI, if_neg, if_pos, m127, gd_in, nI_clamp, hr, g1, e4, pk_sub, pk_mul, nI_add, hg, enc_0 b1 b2 b3, enc_1 b1 b2 b3, enc_2 b1 b2 b3]
      obtain rfl | rfl | rfl : w = 0 ∨ w = 1 ∨ w = 2 := by omega
      · simp only [if_true, ob_e]
        exact ⟨_, rfl, rfl⟩
      · simp (disch := omega) only [if_true, if_neg, ob_e]
        exact ⟨_, rfl, rfl⟩
      · simp (disch := omega) only [if_true, if_neg, ob_e]
        exact ⟨_, rfl, rfl⟩
theorem nar_b {x : Int32} (h : x = 0 ∨ x = 1) : vp_nar .boolean x = x := by
  rcases h with rfl | rfl <;> decide
/-- a new note of what stood -/
theorem RB_st {D D' nc nt a nx tl lc rc st cl : Nat} {lg lgI : Nat → Nat → Nat} {c m : MM} (h : RB D nc nt lg lgI a nx tl lc rc st cl c m) (hD : D ≤ D') {t i : Nat} {v : Int32} (hs : st < 10) (ht : t < nt) (hi : i < nc) (hv : v = nI 0 ∨ v = nI 1) : RB D' nc nt lg lgI a nx tl lc rc (st + 1) cl (mm_I (mm_I (mm_I (mm_I c 342 st (nI t)) 343 st (nI i)) 344 st v) 341 0 (nI (st + 1))) (mm_I (mm_I (mm_I (mm_I m 371 st (nI t)) 372 st (nI i)) 373 st v) 355 45 (nI (st + 1))) := by
  obtain ⟨h1, h2, h3, h4, h5, h6, h7, h8, h9, h10, h11, h12, h13, h14, h15, h16, h17⟩ := h
  have hnc := h1.2.2.1
  have hnt := h1.2.2.2.1
  refine ⟨h1, h2, h3, h4, h5, h6, h7, h8, h9, by show dyN (m.1 368) ≤ _; omega, HB_c h11 (fun x hx hx2 => ?_), IB_k h12 hD, h13, h14, h15, ?_, h17⟩
  · rw [gI_o (by omega), gI_o (by omega), gI_o (by omega), gI_o (by omega)]
  · obtain ⟨n1, n2, n3, n4⟩ := h16
    refine ⟨by omega, by rw [gI_s, if_pos rfl], by rw [gI_s, if_pos rfl], fun x hx => ?_⟩
    have y1 : yN ((mm_I (mm_I (mm_I (mm_I m 371 st (nI t)) 372 st (nI i)) 373 st v) 355 45 (nI (st + 1))).1 371) x = if x = st then t else yN (m.1 371) x := by
      unfold yN
      rw [gI_o (by decide), gI_o (by decide), gI_o (by decide), gI_s]
      by_cases e : x = st
      · rw [if_pos e, if_pos e, nI_clamp (by omega)]
      · rw [if_neg e, if_neg e]
    have y2 : yN ((mm_I (mm_I (mm_I (mm_I m 371 st (nI t)) 372 st (nI i)) 373 st v) 355 45 (nI (st + 1))).1 372) x = if x = st then i else yN (m.1 372) x := by
      unfold yN
      rw [gI_o (by decide), gI_o (by decide), gI_s, gI_o (by decide)]
      by_cases e : x = st
      · rw [if_pos e, if_pos e, nI_clamp (by omega)]
      · rw [if_neg e, if_neg e]
    rw [y1, y2]
    simp (disch := decide) only [gI, if_pos, if_neg]
    by_cases e : x = st
    · simp only [if_pos e]
      exact ⟨trivial, trivial, ht, trivial, trivial, hi, trivial, hv⟩
    · simp only [if_neg e]
      exact n4 x (by omega)
theorem op_stood {k N : Nat} (x1 x2 x3 : Int32) (hx3 : x3 = 0 ∨ x3 = 1) : Sp k (f_Ro_stood N x1 x2 x3) (f_Mo_stood N x1 x2 x3) := by
  intro c m h
  replace h : Rel k c (mm_I m 355 0 0) := h
  unfold f_Mo_stood
  rw [wr_e]
  generalize mm_I m 355 0 0 = m0 at h ⊢
  have hr := h
  obtain ⟨nc, nt, lg, lgI, a, nx, tl, lc, rc, st, cl, h⟩ := h
  obtain ⟨hL, hM⟩ := RB_L h
  obtain ⟨hm27, hm26, hW, hT, hF, hnc, hnt⟩ := id hM
  obtain ⟨n1, n2, n3, n4⟩ := id h.2.2.2.2.2.2.2.2.2.2.2.2.2.2.2.1
  unfold f_Ro_stood f_Gu_note
  rcases pk_ix x1 (n := nt) (by omega) with hx | hx | ⟨j, hj, rfl⟩
  · exact no_op (-1) hr (by rw [co_isThing_f hL.1 (Or.inl hx), ob_e]; rfl) (by rw [mo_isThing_f hm26 (Or.inl hx), ob_e]; rfl)
  · exact no_op (-1) hr (by rw [co_isThing_f hL.1 (Or.inr hx), ob_e]; rfl) (by rw [mo_isThing_f hm26 (Or.inr hx), ob_e]; rfl)
  · rw [co_isThing_t hL.1 hj, ob_e, mo_isThing_t hm26 hnt hj, ob_e]
    simp (disch := omega) only [l_0, l_1, nI_eq, if_neg]
    rcases pk_ix x2 (n := nc) (by omega) with hx | hx | ⟨i, hi, rfl⟩
    · exact no_op (-nI 1) hr (by rw [co_isCard_f hL.1 (Or.inl hx), ob_e]; rfl) (by rw [mo_isCard_f hm27 (Or.inl hx), ob_e]; rfl)
    · exact no_op (-nI 1) hr (by rw [co_isCard_f hL.1 (Or.inr hx), ob_e]; rfl) (by rw [mo_isCard_f hm27 (Or.inr hx), ob_e]; rfl)
    · rw [co_isCard_t hL.1 hi, ob_e, mo_isCard_t hm27 hnc hi, ob_e, n2, n3, nar_b hx3]
      simp (disch := omega) only [nI_eq, if_neg, l_10, nI_ltI]
      by_cases e : st = 10
      · rw [if_pos e, if_neg (by omega), ob_e]
        exact no_op _ hr rfl rfl
      · rw [if_neg e, if_pos (by omega)]
        simp (disch := omega) only [gd_in, nI_clamp, wr_e, gI, if_neg, if_pos, n2, n3, nI_add, ob_e]
        exact ⟨_, _, _, rfl, rfl, RB_Rel (RB_st h (by omega) (by omega) hj hi (by rcases hx3 with rfl | rfl; exact Or.inl rfl; exact Or.inr rfl))⟩
