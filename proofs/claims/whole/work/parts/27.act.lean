/-! ===== acts ===== -/
theorem RW_mk {nc nt : Nat} {g g' : Nat → Int32} (hw : RW nc nt g) (hnt : nt ≤ 8) (hs : ∀ c, c < nc → g' (20 * c + 1) = g (20 * c + 1)) (hu : ∀ c, c < nc → g' (20 * c) = -nI 1 ∨ ∃ t, t < nt ∧ g' (20 * c) = nI t)
    (ho : ∀ c k, c < nc → k < zN g c → g' (20 * c + 2 + 3 * k) = g (20 * c + 2 + 3 * k) ∧ g' (20 * c + 3 + 3 * k) = g (20 * c + 3 + 3 * k)) (hi : ∀ c k, c < nc → k < zN g c → ∃ v, v ≤ 9 ∧ g' (20 * c + 4 + 3 * k) = nI v)
    (hl : ∃ v, v ≤ 9 ∧ g' 120 = nI v) (hmo : ∃ v, v ≤ 99 ∧ g' 121 = nI v) (hd : ∃ v, v < 1000000 ∧ g' 122 = nI v) : RW nc nt g' := by
  refine ⟨fun c hc => ?_, ?_⟩
  · obtain ⟨e1, e2, e3, e4, e5⟩ := hw.1 c hc
    have hz : zN g' c = zN g c := by unfold zN; rw [hs c hc]
    rw [hz]
    refine ⟨(hs c hc).trans e1, e2, e3, ?_, fun k hk => ?_⟩
    · rcases hu c hc with h | ⟨t, ht, h⟩
      · exact Or.inl h
      · have : uT g' c = t := by unfold uT; rw [h, nI_clamp (by omega)]
        rw [this]
        exact Or.inr ⟨h, ht⟩
    · obtain ⟨f1, f2, f3, f4, f5, f6, f7⟩ := e5 k hk
      obtain ⟨o1, o2⟩ := ho c k hc hk
      obtain ⟨v, hv, hv2⟩ := hi c k hc hk
      have h1 : oN g' c k = oN g c k := by unfold oN; rw [o1]
      have h2 : aN g' c k = aN g c k := by unfold aN; rw [o2]
      have h3 : iN g' c k = v := by unfold iN; rw [hv2, nI_clamp (by omega)]
      rw [h1, h2, h3]
      exact ⟨o1.trans f1, f2, o2.trans f3, f4, f5, hv2, hv⟩
  · obtain ⟨l, l1, l2⟩ := hl
    obtain ⟨u, u1, u2⟩ := hmo
    obtain ⟨d, d1, d2⟩ := hd
    have h1 : liN g' = l := by unfold liN; rw [l2, nI_clamp (by omega)]
    have h2 : moN g' = u := by unfold moN; rw [u2, nI_clamp (by omega)]
    have h3 : dyN g' = d := by unfold dyN; rw [d2, nI_clamp (by omega)]
    rw [h1, h2, h3]
    exact ⟨l2, l1, u2, u1, d2, d1⟩
theorem RW_un0 {nc nt : Nat} {g : Nat → Int32} (hw : RW nc nt g) {c : Nat} (hc : c < nc) : g (20 * c) = -nI 1 ∨ ∃ t, t < nt ∧ g (20 * c) = nI t := by
  rcases (hw.1 c hc).2.2.2.1 with h | ⟨h1, h2⟩
  · exact Or.inl h
  · exact Or.inr ⟨_, h2, h1⟩
theorem RW_ik0 {nc nt : Nat} {g : Nat → Int32} (hw : RW nc nt g) {c k : Nat} (hc : c < nc) (hk : k < zN g c) : ∃ v, v ≤ 9 ∧ g (20 * c + 4 + 3 * k) = nI v := by
  obtain ⟨-, -, -, -, -, f6, f7⟩ := (hw.1 c hc).2.2.2.2 k hk
  exact ⟨_, f7, f6⟩
theorem gI_o {μ : MM} {a k b : Nat} {v : Int32} (h : b ≠ a) : (mm_I μ a k v).1 b = μ.1 b := by
  funext j; rw [gI, if_neg h]
theorem gI_s {μ : MM} {a k j : Nat} {v : Int32} : (mm_I μ a k v).1 a j = if j = k then v else μ.1 a j := by
  rw [gI, if_pos rfl]
theorem gF_o {μ : MM} {a b : Nat} {g : Nat → Int32} (h : b ≠ a) : (mm_F μ a g).1 b = μ.1 b := by
  funext j; rw [gF, if_neg h]
theorem gF_s {μ : MM} {a : Nat} {g : Nat → Int32} : (mm_F μ a g).1 a = g := by
  funext j; rw [gF, if_pos rfl]
theorem RB_un {D D' nc nt a nx tl lc rc st cl : Nat} {lg lgI : Nat → Nat → Nat} {c m : MM} (h : RB D nc nt lg lgI a nx tl lc rc st cl c m) (hD : D ≤ D') (ha : 1 ≤ a) {j : Nat} {v : Int32} (hj : j < nc) (hv : v = -nI 1 ∨ ∃ t, t < nt ∧ v = nI t) : RB D' nc nt lg lgI a nx tl lc rc st cl (mm_I c 33 j v) (mm_I m 368 (20 * j) v) := by
  obtain ⟨h1, -, -, -, h5, h6, -⟩ := id h
  have hnc := h1.2.2.1
  have hnt := h1.2.2.2.1
  refine RB_now h hD ha (fun i hi => gI_o (by omega)) (fun i hi => gI_o hi) ?_ ?_ (fun k hk => by rw [gI_s, if_neg (by omega)])
  · obtain ⟨s1, s2, s3, s4⟩ := h5
    rw [gI_o (b := 27) (by decide), gI_o (b := 29) (by decide), gI_o (b := 30) (by decide), gI_o (b := 31) (by decide), gI_o (b := 32) (by decide)]
    have hz : ∀ i, zN ((mm_I m 368 (20 * j) v).1 368) i = zN (m.1 368) i := fun i => by unfold zN; rw [gI_s, if_neg (by omega)]
    refine ⟨fun i hi => ?_, by rw [gI_s, if_neg (by omega)]; exact s2, by rw [gI_s, if_neg (by omega)]; exact s3, by rw [gI_s, if_neg (by omega)]; exact s4⟩
    obtain ⟨e1, e2, e3⟩ := s1 i hi
    obtain ⟨-, -, z6, -⟩ := h6.1 i hi
    rw [hz i]
    refine ⟨by rw [gI_s, if_neg (by omega)]; exact e1, ?_, fun k hk => ?_⟩
    · rw [gI_s, gI_s]
      by_cases e : i = j
      · rw [if_pos e, if_pos (by omega)]
      · rw [if_neg e, if_neg (by omega)]; exact e2
    · rw [gI_s, gI_s, gI_s, if_neg (by omega), if_neg (by omega), if_neg (by omega)]
      exact e3 k hk
  · obtain ⟨-, q1, q2, q3, q4, q5, q6⟩ := id h6
    refine RW_mk h6 hnt (fun i hi => by rw [gI_s, if_neg (by omega)]) (fun i hi => ?_) (fun i k hi hk => ?_) (fun i k hi hk => ?_) ⟨_, q2, by rw [gI_s, if_neg (by omega)]; exact q1⟩ ⟨_, q4, by rw [gI_s, if_neg (by omega)]; exact q3⟩ ⟨_, q6, by rw [gI_s, if_neg (by omega)]; exact q5⟩
    · rw [gI_s]
      by_cases e : i = j
      · rw [if_pos (by omega)]; exact hv
      · rw [if_neg (by omega)]; exact RW_un0 h6 hi
    · obtain ⟨-, -, z6, -⟩ := h6.1 i hi
      rw [gI_s, gI_s, if_neg (by omega), if_neg (by omega)]; exact ⟨rfl, rfl⟩
    · obtain ⟨-, -, z6, -⟩ := h6.1 i hi
      rw [gI_s, if_neg (by omega)]; exact RW_ik0 h6 hi hk
theorem RB_ik {D D' nc nt a nx tl lc rc st cl : Nat} {lg lgI : Nat → Nat → Nat} {c m : MM} (h : RB D nc nt lg lgI a nx tl lc rc st cl c m) (hD : D ≤ D') (ha : 1 ≤ a) {j p v : Nat} (hj : j < nc) (hp : p < zN (m.1 368) j) (hv : v ≤ 9) : RB D' nc nt lg lgI a nx tl lc rc st cl (mm_I c 32 (6 * j + p) (nI v)) (mm_I m 368 (20 * j + 4 + 3 * p) (nI v)) := by
  obtain ⟨h1, -, -, -, h5, h6, -⟩ := id h
  have hnc := h1.2.2.1
  have hnt := h1.2.2.2.1
  have hp6 := (h6.1 j hj).2.2.1
  refine RB_now h hD ha (fun i hi => gI_o (by omega)) (fun i hi => gI_o hi) ?_ ?_ (fun k hk => by rw [gI_s, if_neg (by omega)])
  · obtain ⟨s1, s2, s3, s4⟩ := h5
    rw [gI_o (b := 27) (by decide), gI_o (b := 29) (by decide), gI_o (b := 30) (by decide), gI_o (b := 31) (by decide), gI_o (b := 33) (by decide)]
    have hz : ∀ i, zN ((mm_I m 368 (20 * j + 4 + 3 * p) (nI v)).1 368) i = zN (m.1 368) i := fun i => by unfold zN; rw [gI_s, if_neg (by omega)]
    refine ⟨fun i hi => ?_, by rw [gI_s, if_neg (by omega)]; exact s2, by rw [gI_s, if_neg (by omega)]; exact s3, by rw [gI_s, if_neg (by omega)]; exact s4⟩
    obtain ⟨e1, e2, e3⟩ := s1 i hi
    obtain ⟨-, -, z6, -⟩ := h6.1 i hi
    rw [hz i]
    refine ⟨by rw [gI_s, if_neg (by omega)]; exact e1, by rw [gI_s, if_neg (by omega)]; exact e2, fun k hk => ?_⟩
    obtain ⟨f1, f2, f3⟩ := e3 k hk
    rw [gI_s, gI_s, gI_s, gI_s, if_neg (show ¬ 20 * i + 2 + 3 * k = 20 * j + 4 + 3 * p by omega), if_neg (show ¬ 20 * i + 3 + 3 * k = 20 * j + 4 + 3 * p by omega)]
    refine ⟨f1, f2, ?_⟩
    by_cases e : i = j ∧ k = p
    · rw [if_pos (by omega), if_pos (by omega)]
    · rw [if_neg (by omega), if_neg (by omega)]; exact f3
  · obtain ⟨-, q1, q2, q3, q4, q5, q6⟩ := id h6
    refine RW_mk h6 hnt (fun i hi => by rw [gI_s, if_neg (by omega)]) (fun i hi => ?_) (fun i k hi hk => ?_) (fun i k hi hk => ?_) ⟨_, q2, by rw [gI_s, if_neg (by omega)]; exact q1⟩ ⟨_, q4, by rw [gI_s, if_neg (by omega)]; exact q3⟩ ⟨_, q6, by rw [gI_s, if_neg (by omega)]; exact q5⟩
    · rw [gI_s, if_neg (by omega)]; exact RW_un0 h6 hi
    · obtain ⟨-, -, z6, -⟩ := h6.1 i hi
      rw [gI_s, gI_s, if_neg (by omega), if_neg (by omega)]; exact ⟨rfl, rfl⟩
    · rw [gI_s]
      by_cases e : 20 * i + 4 + 3 * k = 20 * j + 4 + 3 * p
      · rw [if_pos e]; exact ⟨v, hv, rfl⟩
      · rw [if_neg e]; exact RW_ik0 h6 hi hk
theorem RB_ob {D D' nc nt a nx tl lc rc st cl : Nat} {lg lgI : Nat → Nat → Nat} {c m : MM} (h : RB D nc nt lg lgI a nx tl lc rc st cl c m) (hD : D ≤ D') (ha : 1 ≤ a) {b v : Nat} (hb : b = 0 ∧ v ≤ 9 ∨ b = 1 ∧ v ≤ 99) : RB D' nc nt lg lgI a nx tl lc rc st cl (mm_I c 27 (2 + b) (nI v)) (mm_I m 368 (120 + b) (nI v)) := by
  obtain ⟨h1, -, -, -, h5, h6, -⟩ := id h
  have hnc := h1.2.2.1
  have hnt := h1.2.2.2.1
  refine RB_now h hD ha (fun i hi => gI_o (by omega)) (fun i hi => gI_o hi) ?_ ?_ (fun k hk => by rw [gI_s, if_neg (by omega)])
  · obtain ⟨s1, s2, s3, s4⟩ := h5
    rw [gI_o (b := 33) (by decide), gI_o (b := 29) (by decide), gI_o (b := 30) (by decide), gI_o (b := 31) (by decide), gI_o (b := 32) (by decide)]
    have hz : ∀ i, i < nc → zN ((mm_I m 368 (120 + b) (nI v)).1 368) i = zN (m.1 368) i := fun i hi => by unfold zN; rw [gI_s, if_neg (by omega)]
    refine ⟨fun i hi => ?_, ?_, ?_, ?_⟩
    · obtain ⟨e1, e2, e3⟩ := s1 i hi
      obtain ⟨-, -, z6, -⟩ := h6.1 i hi
      rw [hz i hi]
      refine ⟨by rw [gI_s, if_neg (by omega)]; exact e1, by rw [gI_s, if_neg (by omega)]; exact e2, fun k hk => ?_⟩
      rw [gI_s, gI_s, gI_s, if_neg (by omega), if_neg (by omega), if_neg (by omega)]
      exact e3 k hk
    · rw [gI_s, gI_s]
      by_cases e : b = 0
      · rw [if_pos (by omega), if_pos (by omega)]
      · rw [if_neg (by omega), if_neg (by omega)]; exact s2
    · rw [gI_s, gI_s]
      by_cases e : b = 1
      · rw [if_pos (by omega), if_pos (by omega)]
      · rw [if_neg (by omega), if_neg (by omega)]; exact s3
    · rw [gI_s, gI_s, if_neg (by omega), if_neg (by omega)]; exact s4
  · obtain ⟨-, q1, q2, q3, q4, q5, q6⟩ := id h6
    refine RW_mk h6 hnt (fun i hi => by rw [gI_s, if_neg (by omega)]) (fun i hi => ?_) (fun i k hi hk => ?_) (fun i k hi hk => ?_) ?_ ?_ ⟨_, q6, by rw [gI_s, if_neg (by omega)]; exact q5⟩
    · rw [gI_s, if_neg (by omega)]; exact RW_un0 h6 hi
    · obtain ⟨-, -, z6, -⟩ := h6.1 i hi
      rw [gI_s, gI_s, if_neg (by omega), if_neg (by omega)]; exact ⟨rfl, rfl⟩
    · obtain ⟨-, -, z6, -⟩ := h6.1 i hi
      rw [gI_s, if_neg (by omega)]; exact RW_ik0 h6 hi hk
    · rw [gI_s]
      by_cases e : b = 0
      · rw [if_pos (by omega)]; exact ⟨v, by omega, rfl⟩
      · rw [if_neg (by omega)]; exact ⟨_, q2, q1⟩
    · rw [gI_s]
      by_cases e : b = 1
      · rw [if_pos (by omega)]; exact ⟨v, by omega, rfl⟩
      · rw [if_neg (by omega)]; exact ⟨_, q4, q3⟩
theorem RB_0 {D nc nt a nx tl lc rc st cl : Nat} {lg lgI : Nat → Nat → Nat} {c m : MM} {v : Int32} (h : RB D nc nt lg lgI a nx tl lc rc st cl c m) : RB D nc nt lg lgI a nx tl lc rc st cl c (mm_I m 355 0 v) := h
theorem Rel_up {k nc nt a nx tl lc rc st cl : Nat} {lg lgI : Nat → Nat → Nat} {c m : MM} (h : RB (10 * k) nc nt lg lgI a nx tl lc rc st cl c m) : Rel (k + 6) c m := Rel_k (k := k) ⟨nc, nt, lg, lgI, a, nx, tl, lc, rc, st, cl, h⟩ (by omega)
/-- what refuses answers alike and changes nothing -/
theorem no_op {k : Nat} {c m : MM} {x y : Option (Int32 × MM)} (r : Int32) (h : Rel k c m) (h1 : x = some (r, c)) (h2 : y = some (r, m)) : ∃ r c' m', x = some (r, c') ∧ y = some (r, m') ∧ Rel (k + 6) c' m' := ⟨r, c, m, h1, h2, Rel_k h (by omega)⟩
theorem op_put {k N : Nat} (hN : 15000 ≤ N) (x1 x2 : Int32) : Sp k (f_Ro_put N x1 x2) (f_Mo_put_ N x1 x2) := by
  intro c m h
  replace h : Rel k c (mm_I m 355 0 0) := h
  unfold f_Mo_put_
  rw [wr_e]
  generalize mm_I m 355 0 0 = m0 at h ⊢
  have hr := h
  obtain ⟨nc, nt, lg, lgI, a, nx, tl, lc, rc, st, cl, h⟩ := h
  obtain ⟨hL, hM⟩ := RB_L h
  obtain ⟨hm27, hm26, hW, hT, hF, hnc, hnt⟩ := id hM
  unfold f_Ro_put
  rcases pk_ix x1 (n := nt) (by omega) with hx | hx | ⟨j, hj, rfl⟩
  · exact no_op (-1) hr (by rw [co_isThing_f hL.1 (Or.inl hx), ob_e]; rfl) (by rw [mo_isThing_f hm26 (Or.inl hx), ob_e]; rfl)
  · exact no_op (-1) hr (by rw [co_isThing_f hL.1 (Or.inr hx), ob_e]; rfl) (by rw [mo_isThing_f hm26 (Or.inr hx), ob_e]; rfl)
  · rw [co_isThing_t hL.1 hj, ob_e, mo_isThing_t hm26 hnt hj, ob_e]
    simp (disch := omega) only [l_0, l_1, nI_eq, if_neg]
    rcases pk_ix x2 (n := nc) (by omega) with hx | hx | ⟨i, hi, rfl⟩
    · exact no_op (-nI 1) hr (by rw [co_isCard_f hL.1 (Or.inl hx), ob_e]; rfl) (by rw [mo_isCard_f hm27 (Or.inl hx), ob_e]; rfl)
    · exact no_op (-nI 1) hr (by rw [co_isCard_f hL.1 (Or.inr hx), ob_e]; rfl) (by rw [mo_isCard_f hm27 (Or.inr hx), ob_e]; rfl)
    · obtain ⟨e1, e2, -⟩ := hL.2.1.1 i hi
      rw [co_isCard_t hL.1 hi, ob_e, mo_isCard_t hm27 hnc hi, ob_e, co_cardOver hN hL, ob_e, mo_cardOver hN n_368 hm27 hnc, ob_e]
      simp (disch := omega) only [nI_eq, if_neg, gd_in, nI_clamp, l_20, pk_mul, e2]
      by_cases ho : oI (ovr (m0.1 368) nc (nI j)) = -nI 1
      · simp only [if_pos ho]
        by_cases hu : m0.1 368 (20 * i) = -nI 1
        · simp only [if_pos hu]
          obtain ⟨a', nx', c', m', k1, k2, k3, k4, k5, k6, k7, k8, k9, k10⟩ := RB_keep hN h
          rw [k1, k2, obv_e, obv_e]
          simp only [wr_e]
          refine ⟨_, _, _, rfl, ?_, RB_Rel (RB_un k3 (by omega) k4 hi (Or.inr ⟨j, hj, rfl⟩))⟩
          rw [gI_o (by decide), gI_o (by decide)]
          obtain ⟨-, -, b3, -, b5, -⟩ := k3.2.2.2.2.2.2.2.2.2.2.1
          rw [b3, b5]
        · simp only [if_neg hu]
          exact no_op _ hr rfl rfl
      · simp only [if_neg ho]
        exact no_op _ hr rfl rfl
theorem op_take {k N : Nat} (hN : 15000 ≤ N) (x1 : Int32) : Sp k (f_Ro_take N x1) (f_Mo_take N x1) := by
  intro c m h
  replace h : Rel k c (mm_I m 355 0 0) := h
  unfold f_Mo_take
  rw [wr_e]
  generalize mm_I m 355 0 0 = m0 at h ⊢
  have hr := h
  obtain ⟨nc, nt, lg, lgI, a, nx, tl, lc, rc, st, cl, h⟩ := h
  obtain ⟨hL, hM⟩ := RB_L h
  obtain ⟨hm27, hm26, hW, hT, hF, hnc, hnt⟩ := id hM
  unfold f_Ro_take
  rcases pk_ix x1 (n := nc) (by omega) with hx | hx | ⟨i, hi, rfl⟩
  · exact no_op (-1) hr (by rw [co_isCard_f hL.1 (Or.inl hx), ob_e]; rfl) (by rw [mo_isCard_f hm27 (Or.inl hx), ob_e]; rfl)
  · exact no_op (-1) hr (by rw [co_isCard_f hL.1 (Or.inr hx), ob_e]; rfl) (by rw [mo_isCard_f hm27 (Or.inr hx), ob_e]; rfl)
  · obtain ⟨e1, e2, -⟩ := hL.2.1.1 i hi
    rw [co_isCard_t hL.1 hi, ob_e, mo_isCard_t hm27 hnc hi, ob_e]
    simp (disch := omega) only [l_0, l_1, nI_eq, if_neg, gd_in, nI_clamp, l_20, pk_mul, e2]
    by_cases hu : m0.1 368 (20 * i) = -nI 1
    · simp only [if_pos hu]
      exact no_op _ hr rfl rfl
    · simp only [if_neg hu]
      obtain ⟨a', nx', c', m', k1, k2, k3, k4, k5, k6, k7, k8, k9, k10⟩ := RB_keep hN h
      rw [k1, k2, obv_e, obv_e]
      simp only [wr_e]
      refine ⟨_, _, _, rfl, ?_, RB_Rel (RB_un k3 (by omega) k4 hi (Or.inl rfl))⟩
      rw [k6 33 (by decide), k8 368 (by decide) (by decide), e2]
theorem op_light {k N : Nat} (hN : 15000 ≤ N) (x1 : Int32) : Sp k (f_Ro_light N x1) (f_Mo_light N x1) := by
  intro c m h
  replace h : Rel k c (mm_I m 355 0 0) := h
  unfold f_Mo_light
  rw [wr_e]
  generalize mm_I m 355 0 0 = m0 at h ⊢
  have hr := h
  obtain ⟨nc, nt, lg, lgI, a, nx, tl, lc, rc, st, cl, h⟩ := h
  obtain ⟨hL, hM⟩ := RB_L h
  obtain ⟨hm27, hm26, hW, hT, hF, hnc, hnt⟩ := id hM
  obtain ⟨-, s2, s3, s4⟩ := hL.2.1
  obtain ⟨-, q1, q2, q3, q4, q5, q6⟩ := id hW
  unfold f_Ro_light
  rw [co_isNone hL.1, ob_e, hm27]
  simp (disch := omega) only [l_0, none_R, nI_eq]
  by_cases h0 : nc = 0
  · simp only [h0, not_true_eq_false, if_false, if_true]
    exact no_op _ hr rfl rfl
  · simp only [h0, not_false_eq_true, if_false, if_true]
    rw [L_0, L_9, mo_isIn (by decide) (by decide), ob_e]
    rcases arg_in x1 (n := 9) (by decide) with hx | hx | ⟨j, hj, rfl⟩
    · simp only [eq_true hx, if_true]; rw [mo_in_f (Or.inl hx)]
      exact no_op _ hr rfl rfl
    · have hx0 : ¬ x1 < nI 0 := fun q => by
        rw [fa_lt, nI_toInt (by decide)] at q hx
        omega
      simp only [if_neg hx0, if_pos (show 9 < x1 from hx)]; rw [mo_in_f (Or.inr hx)]
      exact no_op _ hr rfl rfl
    · rw [mo_in_t (by omega) hj (by decide)]
      simp (disch := omega) only [bI_t, nI_eq, nI_ltI, if_neg, l_9, l_1, s2]
      by_cases e : nI j = m0.1 368 120
      · simp only [if_pos e]
        exact no_op _ hr rfl rfl
      · simp only [if_neg e]
        obtain ⟨a', nx', c', m', k1, k2, k3, k4, k5, k6, k7, k8, k9, k10⟩ := RB_keep hN h
        rw [k1, k2, obv_e, obv_e]
        simp only [wr_e]
        exact ⟨_, _, _, rfl, rfl, RB_Rel (RB_ob (b := 0) k3 (by omega) k4 (Or.inl ⟨rfl, hj⟩))⟩
