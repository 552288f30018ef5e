/-! ===== once, probe, saves ===== -/
/-- a step of the model's walks over rows -/
theorem mo_once_e {N cd G R fu : Nat} {y x2 : Int32} {m0 : MM} (q1 : f_Mo_goneOf N (nI cd) m0 = some (nI G, m0)) (q2 : f_Mo_rowsOf N (nI G) m0 = some (nI R, m0)) (hR : R ≤ 1728) : f_Mo_once_L25 N (fu + 1) (nI cd) x2 y (nI R) m0 = some ((if x2 = -1 then y else -1), m0) := by
  rw [f_Mo_once_L25, q1, ob_e, q2, ob_e, if_pos ((nI_leI (by omega) (by omega)).mpr (Nat.le_refl _))]
theorem mo_once_s {N cd G R row fu : Nat} {y x2 : Int32} {m0 : MM} (q1 : f_Mo_goneOf N (nI cd) m0 = some (nI G, m0)) (q2 : f_Mo_rowsOf N (nI G) m0 = some (nI R, m0)) (hR : R ≤ 1728) (hrow : row < R) {b : Bool} (f0 : f_Mo_isRow N (nI cd) (nI row) m0 = some (bI b, m0)) : f_Mo_once_L25 N (fu + 1) (nI cd) x2 y (nI row) m0 = if b = true then (if y = x2 then some (nI row, m0) else f_Mo_once_L25 N fu (nI cd) x2 (y + 1) (nI (row + 1)) m0) else f_Mo_once_L25 N fu (nI cd) x2 y (nI (row + 1)) m0 := by
  rw [f_Mo_once_L25, q1, ob_e, q2, ob_e, if_neg (fun q => by have := (nI_leI (by omega) (by omega)).mp q; omega), f0, ob_e, l_1, nI_add]
  cases b <;> rfl
theorem mo_saves_e {N cd G R fu : Nat} {y z w : Int32} {m0 : MM} (q1 : f_Mo_goneOf N (nI cd) m0 = some (nI G, m0)) (q2 : f_Mo_rowsOf N (nI G) m0 = some (nI R, m0)) (hR : R ≤ 1728) : f_Mo_saves_L33 N (fu + 1) (nI cd) w y z (nI R) m0 = if y = -1 then some (y, m0) else if w = 0 then some (y, m0) else some (z, m0) := by
  rw [f_Mo_saves_L33, q1, ob_e, q2, ob_e, if_pos ((nI_leI (by omega) (by omega)).mpr (Nat.le_refl _))]
theorem mo_saves_s {N cd G R row fu : Nat} {y z w : Int32} {m0 : MM} (q1 : f_Mo_goneOf N (nI cd) m0 = some (nI G, m0)) (q2 : f_Mo_rowsOf N (nI G) m0 = some (nI R, m0)) (hR : R ≤ 1728) (hrow : row < R) {b : Bool} (f0 : f_Mo_isRow N (nI cd) (nI row) m0 = some (bI b, m0)) : f_Mo_saves_L33 N (fu + 1) (nI cd) w y z (nI row) m0 = if b = true then f_Mo_saves_L65 N (f_Mo_saves_L33 N fu) N (nI cd) w y z (nI row) 0 0 m0 else f_Mo_saves_L33 N fu (nI cd) w y z (nI (row + 1)) m0 := by
  rw [f_Mo_saves_L33, q1, ob_e, q2, ob_e, if_neg (fun q => by have := (nI_leI (by omega) (by omega)).mp q; omega), f0, ob_e, l_1, nI_add]
  cases b <;> rfl
theorem op_once {k N : Nat} (hN : 15000 ≤ N) (x1 x2 : Int32) : Sp k (f_Ro_once N x1 x2) (f_Mo_once N x1 x2) := by
  intro c m h
  replace h : Rel k c (mm_I m 355 0 0) := h
  unfold f_Mo_once
  rw [wr_e]
  generalize mm_I m 355 0 0 = m0 at h ⊢
  have hr := h
  obtain ⟨nc, nt, st, hL, hM, hS, c0, m45, hcc⟩ := ask_2 h
  have hm27 := hM.1
  have hnc := hM.2.2.2.2.2.1
  unfold f_Ro_once
  by_cases hx : x2 < -1
  · rw [if_pos hx]
    have hx' : ¬ (-1 : Int32) ≤ x2 := (fa_of_lt hx).2.1
    rcases pk_ix x1 (n := nc) (by omega) with hy | hy | ⟨cd, hc, rfl⟩
    · exact no_op (-1) hr rfl (by rw [mo_canAsk_f hm27 (Or.inl hy), ob_e]; rfl)
    · exact no_op (-1) hr rfl (by rw [mo_canAsk_f hm27 (Or.inr hy), ob_e]; rfl)
    · refine no_op (-1) hr rfl ?_
      rw [mo_canAsk hN hM hc, ob_e, if_neg hx']
      split <;> rfl
  · rw [if_neg hx]
    have hx' : (-1 : Int32) ≤ x2 := fa_of_nlt hx
    rcases pk_ix x1 (n := nc) (by omega) with hy | hy | ⟨cd, hc, rfl⟩
    · exact no_op (-1) hr (by rw [gu_aim_f hL.1 (Or.inl hy), ob_e]; rfl) (by rw [mo_canAsk_f hm27 (Or.inl hy), ob_e]; rfl)
    · exact no_op (-1) hr (by rw [gu_aim_f hL.1 (Or.inr hy), ob_e]; rfl) (by rw [mo_canAsk_f hm27 (Or.inr hy), ob_e]; rfl)
    · rw [mo_canAsk hN hM hc, ob_e]
      by_cases h3 : gon (m0.1 368) cd ≤ 3
      · obtain ⟨c1, a1, a2⟩ := gu_aim_t hN hL hc h3
        have hp := p12 _ h3
        have q1 : f_Mo_goneOf N (nI cd) m0 = some (nI (gon (m0.1 368) cd), m0) := (mo_gone hN hM hc).1
        generalize hG : gon (m0.1 368) cd = G at a2 hp q1
        have h3' : G ≤ 3 := hG ▸ h3
        obtain ⟨R, hR⟩ : ∃ R, 12 ^ G = R := ⟨_, rfl⟩
        have q2 : f_Mo_rowsOf N (nI G) m0 = some (nI R, m0) := hR ▸ mo_rows h3'
        rw [hR] at hp
        rw [a1, ob_e, decide_eq_true h3', if_neg (show ¬ nI 1 = 0 by decide), if_neg (show ¬ bI true = 0 by decide), if_pos hx']
        by_cases hx1 : x2 = -1
        · subst hx1
          rw [if_pos rfl]
          refine lp_2 (fun fu row (p : Nat × MM) => ob (f_Gu_countRows_L4 N fu (nI p.1) (nI row) p.2) fun t27 μ3z => (some (t27, μ3z) : Option (Int32 × MM))) (fun fu row (y : Nat) => f_Mo_once_L25 N fu (nI cd) (-nI 1) (nI y) (nI row) m0) (R) (fun row p y => p.1 = y ∧ y ≤ row ∧ GQ c (m0.1 368) cd (G) p.2) (fun X Y => ∃ r c' m', X = some (r, c') ∧ Y = some (r, m') ∧ Rel (k + 6) c' m') (fun fa fb p y hR => ?_) (fun fa fb row p y hrow hR => ?_) R 0 N N (0, c1) 0 (by omega) (by omega) (by omega) ⟨rfl, by omega, a2⟩
          · obtain ⟨e1, e2, e3⟩ := hR
            have h7 := e3.2.2.2.1
            rw [hR] at h7
            rw [mo_once_e q1 q2 hp.2]
            simp (disch := omega) only [f_Gu_countRows_L4, h7, ob_e, nI_leI, Nat.le_refl, if_true]
            exact ⟨nI y, p.2, m0, by rw [e1], rfl, Rel_k (Rel_gu hr e3.1 e3.2.1) (by omega)⟩
          · obtain ⟨e1, e2, e3⟩ := hR
            have h7 := e3.2.2.2.1
            rw [hR] at h7
            obtain ⟨μ', f1, f2, f3, f4⟩ := gu_isRow hN hL e3 h3' hG.symm hc (show row < 1728 by omega) hS c0 hcc
            have f0 := mo_isRow hN hM hS m45 hc (show row < 1728 by omega) h3
            generalize irw (m0.1 368) (m0.1 362) (m0.1 371) (m0.1 372) (m0.1 373) st cd row = b at f1 f0
            left
            cases b
            · refine ⟨(p.1, μ'), y, ?_, ?_, e1, by omega, f2⟩
              · simp (disch := omega) only [f_Gu_countRows_L4, h7, nI_leI, if_neg, f1, ob_e, l_0, l_1, bI_f, nI_add, if_true]
              · rw [mo_once_s q1 q2 hp.2 hrow f0]; rfl
            · refine ⟨(p.1 + 1, μ'), y + 1, ?_, ?_, by rw [e1], by omega, f2⟩
              · simp (disch := omega) only [f_Gu_countRows_L4, h7, nI_leI, if_neg, f1, ob_e, l_0, l_1, bI_t, nI_add, nI_eq]
              · rw [mo_once_s q1 q2 hp.2 hrow f0, if_pos rfl, if_neg (fun e => by rw [m_eq (by omega)] at e; exact e), l_1, nI_add]
        · rw [if_neg hx1]
          refine lp_2 (fun fu row (p : Int32 × MM) => ob (f_Gu_findRow_L4 N fu x2 p.1 (nI row) p.2) fun t27 μ3z => (some (t27, μ3z) : Option (Int32 × MM))) (fun fu row (y : Int32) => f_Mo_once_L25 N fu (nI cd) x2 y (nI row) m0) (R) (fun row p y => p.1 = y ∧ GQ c (m0.1 368) cd (G) p.2) (fun X Y => ∃ r c' m', X = some (r, c') ∧ Y = some (r, m') ∧ Rel (k + 6) c' m') (fun fa fb p y hR => ?_) (fun fa fb row p y hrow hR => ?_) R 0 N N (0, c1) 0 (by omega) (by omega) (by omega) ⟨rfl, a2⟩
          · obtain ⟨e1, e3⟩ := hR
            have h7 := e3.2.2.2.1
            rw [hR] at h7
            rw [mo_once_e q1 q2 hp.2, if_neg hx1]
            simp (disch := omega) only [f_Gu_findRow_L4, h7, ob_e, nI_leI, Nat.le_refl, if_true]
            exact ⟨-1, p.2, m0, rfl, rfl, Rel_k (Rel_gu hr e3.1 e3.2.1) (by omega)⟩
          · obtain ⟨e1, e3⟩ := hR
            have h7 := e3.2.2.2.1
            rw [hR] at h7
            obtain ⟨μ', f1, f2, f3, f4⟩ := gu_isRow hN hL e3 h3' hG.symm hc (show row < 1728 by omega) hS c0 hcc
            have f0 := mo_isRow hN hM hS m45 hc (show row < 1728 by omega) h3
            generalize irw (m0.1 368) (m0.1 362) (m0.1 371) (m0.1 372) (m0.1 373) st cd row = b at f1 f0
            cases b
            · left
              refine ⟨(p.1, μ'), y, ?_, ?_, e1, f2⟩
              · simp (disch := omega) only [f_Gu_findRow_L4, h7, nI_leI, if_neg, f1, ob_e, l_0, l_1, bI_f, nI_add, if_true]
              · rw [mo_once_s q1 q2 hp.2 hrow f0]; rfl
            · by_cases hxy : y = x2
              · right
                refine ⟨nI row, μ', m0, ?_, ?_, Rel_k (Rel_gu hr f2.1 f2.2.1) (by omega)⟩
                · simp (disch := omega) only [f_Gu_findRow_L4, h7, nI_leI, if_neg, f1, ob_e, l_0, l_1, bI_t, nI_add, nI_eq, e1, hxy, if_true]
                · rw [mo_once_s q1 q2 hp.2 hrow f0, if_pos rfl, if_pos hxy]
              · left
                refine ⟨(p.1 + 1, μ'), y + 1, ?_, ?_, by rw [e1], f2⟩
                · simp (disch := omega) only [f_Gu_findRow_L4, h7, nI_leI, if_neg, f1, ob_e, l_0, l_1, bI_t, nI_add, nI_eq, e1, hxy, if_false]
                · rw [mo_once_s q1 q2 hp.2 hrow f0, if_pos rfl, if_neg hxy]
      · obtain ⟨c1, a1, a2, a3⟩ := gu_aim_g hN hL hc (by omega)
        rw [a1, ob_e, decide_eq_false h3]
        exact ⟨-1, c1, m0, rfl, rfl, Rel_k (Rel_gu hr a2 a3) (by omega)⟩
def cn (p : Nat → Bool) : Nat → Nat
  | 0 => 0
  | n + 1 => cn p n + (if p n = true then 1 else 0)
theorem cn_le (p : Nat → Bool) : ∀ n, cn p n ≤ n := by
  intro n
  induction n with
  | zero => exact Nat.le_refl _
  | succ n ih => rw [cn]; split <;> omega
/-- how many things a row fits -/
def tfi (g T : Nat → Int32) (nt cd row : Nat) : Nat := cn (fun t => fby g T cd row t) nt
theorem gu_tfi {N nc nt cd n row : Nat} {c0 μ : MM} {g T F : Nat → Int32} (hN : 15000 ≤ N) (hL : LK nc nt g T F c0) (h : GQ c0 g cd n μ) (hn : n ≤ 3) (hng : n = gon g cd) (hcd : cd < nc) (hr : row < 1728) : ∃ μ', f_Gu_thingsFitting N (nI row) μ = some (nI (tfi g T nt cd row), μ') ∧ GQ c0 g cd n μ' := by
  have hz : ∀ k, k < zN g cd → aN g cd k < 10 := fun k hk => ((hL.2.2.1.1 cd hcd).2.2.2.2 k hk).2.2.2.1
  obtain ⟨μ', e1, e2, e3, e4⟩ := gu_layOut hN h hn hr hz
  refine ⟨μ', ?_, e2⟩
  unfold f_Gu_thingsFitting
  rw [e1, obv_e]
  have hL2 : LK nc nt g T F μ' := LK_of hL (fun a ha => e2.1 a (by omega) (by omega))
  have h0 := hL2.1.2.1
  have hnt := hL2.1.2.2.2.1
  obtain ⟨y, w1, w2⟩ := lpx (fun fu t (y : Nat) => f_Gu_thingsFitting_L9 N fu (nI y) (nI t) μ') nt (fun t y => y + (if fby g T cd row t = true then 1 else 0)) (fun y => some (nI y, μ')) (fun t y => y = cn (fun t => fby g T cd row t) t) (fun fu y hy => by
      simp (disch := omega) only [f_Gu_thingsFitting_L9, h0, nI_leI, Nat.le_refl, if_true]) (fun fu t y ht hy => by
      refine ⟨?_, by rw [hy]; rfl⟩
      simp (disch := omega) only [f_Gu_thingsFitting_L9, h0, nI_leI, if_neg]
      rw [gu_would2 hL2 e3 hng ht, ob_e]
      cases fby g T cd row t
      · simp (disch := omega) only [bI_f, l_0, l_1, if_true, nI_add, Bool.false_eq_true, if_false]
      · simp (disch := omega) only [bI_t, l_0, l_1, nI_eq, if_neg, if_true, nI_add]) nt 0 N 0 (by omega) (by omega) rfl
  rw [w2] at w1
  exact w1
theorem op_saves {k N : Nat} (hN : 15000 ≤ N) (x1 x2 : Int32) : Sp k (f_Ro_saves N x1 x2) (f_Mo_saves N x1 x2) := by
  intro c m h
  replace h : Rel k c (mm_I m 355 0 0) := h
  unfold f_Mo_saves
  rw [wr_e]
  generalize mm_I m 355 0 0 = m0 at h ⊢
  have hr := h
  obtain ⟨nc, nt, st, hL, hM, hS, c0, m45, hcc⟩ := ask_2 h
  have hm27 := hM.1
  have hm26 := hM.2.1
  have hnc := hM.2.2.2.2.2.1
  have hnt := hM.2.2.2.2.2.2
  unfold f_Ro_saves
  have hbad : ∀ y : Int32, (y < nI 0 ∨ nI 1 < y) → ∃ r c' m', (some ((-1 : Int32), c) : Option (Int32 × MM)) = some (r, c') ∧ (ob (f_Mo_canAsk N x1 m0) fun t7 μ2z => if t7 = 0 then some (-1, μ2z) else ob (f_Mo_isIn N (Int32.toInt64 y) 0 1 μ2z) fun t17 μ3z => if t17 = 0 then some (-1, μ3z) else f_Mo_saves_L33 N N x1 y (-1) 0 0 μ3z) = some (r, m') ∧ Rel (k + 6) c' m' := fun y hy => by
    refine no_op (-1) hr rfl ?_
    rcases pk_ix x1 (n := nc) (by omega) with hy1 | hy1 | ⟨cd, hc, rfl⟩
    · rw [mo_canAsk_f hm27 (Or.inl hy1), ob_e]; rfl
    · rw [mo_canAsk_f hm27 (Or.inr hy1), ob_e]; rfl
    · rw [mo_canAsk hN hM hc, ob_e]
      split
      · rfl
      · rw [L_0, L_1, mo_isIn (by decide) (by decide), ob_e, mo_in_f hy]; rfl
  rcases arg_in x2 (n := 1) (by decide) with hx | hx | ⟨w, hw, rfl⟩
  · rw [if_pos (show x2 < 0 from hx)]
    exact hbad x2 (Or.inl hx)
  · have hx0 : ¬ x2 < 0 := fun q => by
      rw [fa_lt] at q hx
      have : (0 : Int32).toInt = 0 := by decide
      have : (nI 1).toInt = 1 := by decide
      omega
    rw [if_neg hx0, if_pos (show 1 < x2 from hx)]
    exact hbad x2 (Or.inr hx)
  · rw [if_neg (show ¬ nI w < 0 from nI_pos (by omega)), if_neg (show ¬ 1 < nI w from fun q => by
      have := (nI_ltI (a := 1) (b := w) (by decide) (by omega)).mp q; omega)]
    rcases pk_ix x1 (n := nc) (by omega) with hy | hy | ⟨cd, hc, rfl⟩
    · exact no_op (-1) hr (by rw [gu_aim_f hL.1 (Or.inl hy), ob_e]; rfl) (by rw [mo_canAsk_f hm27 (Or.inl hy), ob_e]; rfl)
    · exact no_op (-1) hr (by rw [gu_aim_f hL.1 (Or.inr hy), ob_e]; rfl) (by rw [mo_canAsk_f hm27 (Or.inr hy), ob_e]; rfl)
    · rw [mo_canAsk hN hM hc, ob_e]
      by_cases h3 : gon (m0.1 368) cd ≤ 3
      · obtain ⟨c1, a1, a2⟩ := gu_aim_t hN hL hc h3
        have hp := p12 _ h3
        have q1 : f_Mo_goneOf N (nI cd) m0 = some (nI (gon (m0.1 368) cd), m0) := (mo_gone hN hM hc).1
        generalize hG : gon (m0.1 368) cd = G at a2 hp q1
        have h3' : G ≤ 3 := hG ▸ h3
        obtain ⟨R, hR⟩ : ∃ R, 12 ^ G = R := ⟨_, rfl⟩
        have q2 : f_Mo_rowsOf N (nI G) m0 = some (nI R, m0) := hR ▸ mo_rows h3'
        rw [hR] at hp
        rw [a1, ob_e, decide_eq_true h3', if_neg (show ¬ nI 1 = 0 by decide), if_neg (show ¬ bI true = 0 by decide), L_0, L_1, mo_isIn (by decide) (by decide), ob_e, mo_in_t (by omega) hw (by decide), if_neg (show ¬ bI true = 0 by decide)]
        have hlt : ∀ row, tfi (m0.1 368) (m0.1 362) nt cd row ≤ 8 := fun row => Nat.le_trans (cn_le _ _) hnt
        refine lp_2 (fun fu row (p : Int32 × Int32 × MM) => ob (f_Gu_kindestRow_L6 N fu p.1 p.2.1 (nI row) p.2.2) fun t26 μ2z => (if nI w = 0 then (some (t26, μ2z) : Option (Int32 × MM)) else (if t26 = (-1) then (some (t26, μ2z)) else (ob (f_Gu_thingsFitting N t26 μ2z) fun t48 μ3z => (some (t48, μ3z)))))) (fun fu row (y : Int32 × Int32) => f_Mo_saves_L33 N fu (nI cd) (nI w) y.1 y.2 (nI row) m0) (R) (fun row p y => p.1 = y.1 ∧ p.2.1 = y.2 ∧ GQ c (m0.1 368) cd (G) p.2.2 ∧ (y.1 = -nI 1 ∨ ∃ b, b < 1728 ∧ y.1 = nI b ∧ y.2 = nI (tfi (m0.1 368) (m0.1 362) nt cd b))) (fun X Y => ∃ r c' m', X = some (r, c') ∧ Y = some (r, m') ∧ Rel (k + 6) c' m') (fun fa fb p y hR => ?_) (fun fa fb row p y hrow hR => ?_) R 0 N N (-1, 0, c1) (-1, 0) (by omega) (by omega) (by omega) ⟨rfl, rfl, a2, Or.inl rfl⟩
        · obtain ⟨e1, e2, e3, e4⟩ := hR
          have h7 := e3.2.2.2.1
          rw [hR] at h7
          rw [mo_saves_e q1 q2 hp.2]
          simp (disch := omega) only [f_Gu_kindestRow_L6, h7, ob_e, nI_leI, Nat.le_refl, if_true, l_1, l_0, e1]
          rcases e4 with e4 | ⟨b, b1, b2, b3⟩
          · rw [e4]
            refine ⟨-nI 1, p.2.2, m0, ?_, ?_, Rel_k (Rel_gu hr e3.1 e3.2.1) (by omega)⟩
            · by_cases hw0 : nI w = nI 0
              · simp only [hw0, if_true]
              · simp only [hw0, if_false, if_true]
            · rfl
          · have hb1 : ¬ nI b = -nI 1 := fun e => by rw [m_eq (by omega)] at e; exact e
            rw [b2, b3]
            by_cases hw0 : nI w = nI 0
            · refine ⟨nI b, p.2.2, m0, ?_, ?_, Rel_k (Rel_gu hr e3.1 e3.2.1) (by omega)⟩
              · simp only [hw0, if_true]
              · simp only [hb1, hw0, if_true, if_false]
            · obtain ⟨μ', g1, g2⟩ := gu_tfi (F := m0.1 365) hN hL e3 h3' hG.symm hc b1
              refine ⟨nI (tfi (m0.1 368) (m0.1 362) nt cd b), μ', m0, ?_, ?_, Rel_k (Rel_gu hr g2.1 g2.2.1) (by omega)⟩
              · simp only [hw0, hb1, if_false, g1, ob_e]
              · simp only [hb1, hw0, if_false]
        · obtain ⟨e1, e2, e3, e4⟩ := hR
          have h7 := e3.2.2.2.1
          rw [hR] at h7
          obtain ⟨μ', f1, f2, f3, f4⟩ := gu_isRow hN hL e3 h3' hG.symm hc (show row < 1728 by omega) hS c0 hcc
          have f0 := mo_isRow hN hM hS m45 hc (show row < 1728 by omega) h3
          generalize irw (m0.1 368) (m0.1 362) (m0.1 371) (m0.1 372) (m0.1 373) st cd row = b at f1 f0
          left
          cases b
          · refine ⟨(p.1, p.2.1, μ'), y, ?_, ?_, e1, e2, f2, e4⟩
            · simp (disch := omega) only [f_Gu_kindestRow_L6, h7, nI_leI, if_neg, f1, ob_e, l_0, l_1, bI_f, nI_add, if_true]
            · rw [mo_saves_s q1 q2 hp.2 hrow f0]; rfl
          · obtain ⟨μ2, g1, g2⟩ := gu_tfi (F := m0.1 365) hN hL f2 h3' hG.symm hc (show row < 1728 by omega)
            have hin : f_Mo_saves_L65 N (f_Mo_saves_L33 N fb) N (nI cd) (nI w) y.1 y.2 (nI row) (nI 0) (nI 0) m0 = if y.1 = -nI 1 then f_Mo_saves_L33 N fb (nI cd) (nI w) (nI row) (nI (tfi (m0.1 368) (m0.1 362) nt cd row)) (nI (row + 1)) m0 else if y.2 < nI (tfi (m0.1 368) (m0.1 362) nt cd row) then f_Mo_saves_L33 N fb (nI cd) (nI w) (nI row) (nI (tfi (m0.1 368) (m0.1 362) nt cd row)) (nI (row + 1)) m0 else f_Mo_saves_L33 N fb (nI cd) (nI w) y.1 y.2 (nI (row + 1)) m0 := by
              obtain ⟨z, w1, w2⟩ := lpx (fun fu t (z : Nat) => f_Mo_saves_L65 N (f_Mo_saves_L33 N fb) fu (nI cd) (nI w) y.1 y.2 (nI row) (nI z) (nI t) m0) nt (fun t z => z + (if fby (m0.1 368) (m0.1 362) cd row t = true then 1 else 0)) (fun z => if y.1 = -nI 1 then f_Mo_saves_L33 N fb (nI cd) (nI w) (nI row) (nI z) (nI (row + 1)) m0 else if y.2 < nI z then f_Mo_saves_L33 N fb (nI cd) (nI w) (nI row) (nI z) (nI (row + 1)) m0 else f_Mo_saves_L33 N fb (nI cd) (nI w) y.1 y.2 (nI (row + 1)) m0) (fun t z => z = cn (fun t => fby (m0.1 368) (m0.1 362) cd row t) t) (fun fu z hz => by
                  simp (disch := omega) only [f_Mo_saves_L65, hm26, nI_leI, Nat.le_refl, if_true, l_1, nI_add]) (fun fu t z ht hz => by
                  refine ⟨?_, by rw [hz]; rfl⟩
                  simp (disch := omega) only [f_Mo_saves_L65, hm26, nI_leI, if_neg]
                  rw [mo_fitsBy hN hM hc ht (by omega) h3, ob_e]
                  cases fby (m0.1 368) (m0.1 362) cd row t
                  · simp (disch := omega) only [bI_f, l_0, l_1, if_true, nI_add, Bool.false_eq_true, if_false]
                  · simp (disch := omega) only [bI_t, l_0, l_1, nI_eq, if_neg, if_true, nI_add]) nt 0 N 0 (by omega) (by omega) rfl
              rw [w2] at w1
              exact w1
            have hB : f_Mo_saves_L33 N (fb + 1) (nI cd) (nI w) y.1 y.2 (nI row) m0 = f_Mo_saves_L65 N (f_Mo_saves_L33 N fb) N (nI cd) (nI w) y.1 y.2 (nI row) (nI 0) (nI 0) m0 := by
              rw [mo_saves_s q1 q2 hp.2 hrow f0, if_pos rfl]; rfl
            rw [hB, hin]
            by_cases hu : y.1 = -nI 1
            · refine ⟨(nI row, nI (tfi (m0.1 368) (m0.1 362) nt cd row), μ2), (nI row, nI (tfi (m0.1 368) (m0.1 362) nt cd row)), ?_, ?_, rfl, rfl, g2, Or.inr ⟨row, by omega, rfl, rfl⟩⟩
              · simp (disch := omega) only [f_Gu_kindestRow_L6, h7, nI_leI, if_neg, f1, ob_e, l_0, l_1, bI_t, nI_eq, g1, e1, hu, if_true, nI_add]
              · simp only [hu, if_true]
            · by_cases hv : y.2 < nI (tfi (m0.1 368) (m0.1 362) nt cd row)
              · refine ⟨(nI row, nI (tfi (m0.1 368) (m0.1 362) nt cd row), μ2), (nI row, nI (tfi (m0.1 368) (m0.1 362) nt cd row)), ?_, ?_, rfl, rfl, g2, Or.inr ⟨row, by omega, rfl, rfl⟩⟩
                · simp (disch := omega) only [f_Gu_kindestRow_L6, h7, nI_leI, if_neg, f1, ob_e, l_0, l_1, bI_t, nI_eq, g1, e1, e2, hu, if_false, eq_false (fa_of_lt hv).2.1, nI_add]
                · simp only [hu, hv, if_true, if_false]
              · refine ⟨(p.1, p.2.1, μ2), y, ?_, ?_, e1, e2, g2, e4⟩
                · simp (disch := omega) only [f_Gu_kindestRow_L6, h7, nI_leI, if_neg, f1, ob_e, l_0, l_1, bI_t, nI_eq, g1, e1, e2, hu, if_false, eq_true (fa_of_nlt hv), if_true, nI_add]
                · simp only [hu, hv, if_false]
      · obtain ⟨c1, a1, a2, a3⟩ := gu_aim_g hN hL hc (by omega)
        rw [a1, ob_e, decide_eq_false h3]
        exact ⟨-1, c1, m0, rfl, rfl, Rel_k (Rel_gu hr a2 a3) (by omega)⟩
