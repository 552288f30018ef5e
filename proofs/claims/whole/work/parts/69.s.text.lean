/-! ===== text ===== -/
theorem Rel_W {k : Nat} {c m : MM} (h : Rel k c m) : ∃ lc, lc ≤ 4 ∧ c.1 34 0 = nI lc ∧ m.1 355 7 = nI lc := by
  obtain ⟨nc, nt, lg, lgI, a, nx, tl, lc, rc, st, cl, g1, g2, g3, g4, g5, g6, g7, g8, g9, g10, g11, g12, g13, g14, g15, g16, g17⟩ := h
  exact ⟨lc, g14.1, g14.2.1, g14.2.2.1⟩
theorem n_eq4 {a : Nat} (h : a ≤ 4) : (nI a = 4 ↔ a = 4) ∧ (nI a < 4 ↔ a < 4) := ⟨nI_eq (b := 4) (by omega) (by decide), nI_ltI (b := 4) (by omega) (by decide)⟩
theorem op_text {k N : Nat} (hN : 15000 ≤ N) (x1 : Int32) : Sp k (f_Ro_text N x1) (f_Mo_text N x1) := by
  intro c m h
  have h0 : Rel k c (mm_I m 355 0 0) := h
  by_cases hx : ∃ j, j ≤ 2 ∧ x1 = nI j
  · obtain ⟨j, hj, rfl⟩ := hx
    have hin : ∀ μ : MM, f_Mo_isIn N (Int32.toInt64 (nI j)) 0 2 μ = some (1, μ) := fun μ => by
      have : j = 0 ∨ j = 1 ∨ j = 2 := by omega
      rcases this with rfl | rfl | rfl <;> rfl
    unfold f_Ro_text f_Mo_text
    rw [wr_e, hin, ob_e, if_neg (show ¬ (1 : Int32) = 0 by decide)]
    generalize mm_I m 355 0 0 = m0 at h0 ⊢
    obtain ⟨lc, l1, l2, l3⟩ := Rel_W h0
    obtain ⟨rc, r1, r2, r3, -⟩ := Rel_D h0
    obtain ⟨r, c', m', e1, e2, e3, ek, e4⟩ := fa_in hN hj h0
    -- not full, on both sides
    have hgo : ∀ (A : MM → Option (Int32 × MM)) (B : MM → Option (Int32 × MM)), (r = -1 → ∃ r2 c2 m2, A c' = some (r2, c2) ∧ B m' = some (r2, m2) ∧ Rel k c2 m2) → ∃ r3 c3 m3, (ob (f_Ro_fault N (nI j) c) fun t10 μ2z => (if t10 = (-1) then A μ2z else (some ((-1), μ2z)))) = some (r3, c3) ∧ (ob (f_Mo_fault N (nI j) m0) fun t45 μ3z => (if t45 = (-1) then B μ3z else (some ((-1), μ3z)))) = some (r3, m3) ∧ Rel (k + 6) c3 m3 := fun A B hAB => by
      rw [e1, e2, ob_e, ob_e]
      by_cases hr : r = -1
      · obtain ⟨r2, c2, m2, q1, q2, q3⟩ := hAB hr
        rw [if_pos hr, if_pos hr]
        exact ⟨r2, c2, m2, q1, q2, Rel_k q3 (by omega)⟩
      · rw [if_neg hr, if_neg hr]
        exact ⟨-1, c', m', rfl, rfl, Rel_k e3 (by omega)⟩
    have : j = 0 ∨ j = 1 ∨ j = 2 := by omega
    rcases this with rfl | rfl | rfl
    · unfold f_Ro_isFull f_Mo_text_B30 f_Mo_text_B43
      rw [if_neg (show ¬ nI 0 = 1 by decide), if_neg (show ¬ nI 0 = 2 by decide), ob_e, if_pos rfl, if_neg (show ¬ nI 0 = 1 by decide), if_neg (show ¬ nI 0 = 2 by decide)]
      refine hgo _ _ (fun hr => ?_)
      obtain ⟨r2, c2, m2, q1, q2, q3⟩ := te_coll hN e3 (e4 hr)
      refine ⟨r2, c2, m2, ?_, ?_, q3⟩
      · rw [← q1, wr_e, wr_e, if_neg (show ¬ nI 0 = 1 by decide), if_neg (show ¬ nI 0 = 2 by decide)]
      · rw [← q2, wr_e, if_neg (show ¬ nI 0 = 1 by decide), if_neg (show ¬ nI 0 = 2 by decide)]
    · unfold f_Ro_isFull
      rw [if_pos (show nI 1 = 1 from rfl), l2, l3, if_pos (show nI 1 = 1 from rfl)]
      by_cases h4 : lc = 4
      · rw [if_neg (fun z => by have := (n_eq4 l1).2.mp z; omega), gd_t (by decide), ob_e, if_neg (show ¬ (1 : Int32) = 0 by decide), if_pos ((n_eq4 l1).1.mpr h4)]
        exact ⟨-1, c, m0, rfl, rfl, Rel_k h0 (by omega)⟩
      · rw [if_pos ((n_eq4 l1).2.mpr (by omega)), gd_t (by decide), ob_e, if_pos rfl, if_neg (fun z => h4 ((n_eq4 l1).1.mp z))]
        unfold f_Mo_text_B30 f_Mo_text_B43
        rw [if_neg (show ¬ nI 1 = 2 by decide)]
        refine hgo _ _ (fun hr => ?_)
        have hlt : c'.1 34 0 < 4 := by
          rw [ek 34 (by omega), l2]; exact (n_eq4 l1).2.mpr (by omega)
        obtain ⟨r2, c2, m2, q1, q2, q3⟩ := te_law hN e3 (e4 hr) hlt
        refine ⟨r2, c2, m2, ?_, ?_, q3⟩
        · rw [← q1, wr_e, wr_e, if_pos (show nI 1 = 1 from rfl)]
        · rw [← q2, wr_e, if_pos (show nI 1 = 1 from rfl)]
    · unfold f_Ro_isFull f_Mo_text_B30
      rw [if_neg (show ¬ nI 2 = 1 by decide), if_pos (show nI 2 = 2 from rfl), r2, if_neg (show ¬ nI 2 = 1 by decide), if_pos (show nI 2 = 2 from rfl), r3]
      by_cases h4 : rc = 4
      · rw [if_neg (fun z => by have := (n_eq4 r1).2.mp z; omega), ob_e, if_neg (show ¬ (1 : Int32) = 0 by decide), if_pos ((n_eq4 r1).1.mpr h4)]
        exact ⟨-1, c, m0, rfl, rfl, Rel_k h0 (by omega)⟩
      · rw [if_pos ((n_eq4 r1).2.mpr (by omega)), ob_e, if_pos rfl, if_neg (fun z => h4 ((n_eq4 r1).1.mp z))]
        unfold f_Mo_text_B43
        refine hgo _ _ (fun hr => ?_)
        have hlt : c'.1 0 6 < 4 := by
          rw [ek 0 (by omega), r2]; exact (n_eq4 r1).2.mpr (by omega)
        obtain ⟨r2', c2, m2, q1, q2, q3⟩ := te_read hN e3 (e4 hr) hlt
        refine ⟨r2', c2, m2, ?_, ?_, q3⟩
        · rw [← q1, wr_e, wr_e, if_neg (show ¬ nI 2 = 1 by decide), if_pos (show nI 2 = 2 from rfl)]
        · rw [← q2, wr_e, if_neg (show ¬ nI 2 = 1 by decide), if_pos (show nI 2 = 2 from rfl)]
  · have hout : x1 < nI 0 ∨ nI 2 < x1 := by
      rcases arg_in x1 (n := 2) (by omega) with h1 | h1 | h1
      · exact Or.inl h1
      · exact Or.inr h1
      · exact absurd h1 hx
    have hn1 : ¬ x1 = 1 := fun z => hx ⟨1, by decide, z⟩
    have hn2 : ¬ x1 = 2 := fun z => hx ⟨2, by decide, z⟩
    have hin : ∀ μ : MM, f_Mo_isIn N (Int32.toInt64 x1) 0 2 μ = some (0, μ) := fun μ => by
      rw [show (0 : Int64) = Int32.toInt64 (nI 0) from rfl, show (2 : Int64) = Int32.toInt64 (nI 2) from rfl, mo_isInI]
      rcases hout with h1 | h1
      · rw [decide_eq_false (fa_of_lt h1).2.1]; rfl
      · rw [decide_eq_false (fa_of_lt h1).2.1, Bool.and_false]; rfl
    have hfa : f_Ro_fault N x1 c = some (-2, c) := by
      unfold f_Ro_fault
      rcases hout with h1 | h1
      · rw [if_pos (show x1 < 0 from h1)]
      · rw [if_neg (show ¬ x1 ≤ 2 from (fa_of_lt h1).2.1)]
        split <;> rfl
    refine ⟨-1, c, mm_I m 355 0 0, ?_, ?_, Rel_k h0 (by omega)⟩
    · unfold f_Ro_text f_Ro_isFull
      rw [if_neg hn1, if_neg hn2, ob_e, if_pos rfl, hfa, ob_e, if_neg (by decide)]
    · unfold f_Mo_text
      rw [wr_e, hin, ob_e, if_pos rfl]
