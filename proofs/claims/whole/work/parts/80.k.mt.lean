/-! ===== clash, both sides ===== -/
theorem op_clash {k N : Nat} (hN : 15000 ≤ N) : Sp k (f_Ro_clash N) (f_Mo_clash N) := by
  intro c m h
  have h : Rel k c (mm_I m 355 0 0) := Rel_t h
  unfold f_Mo_clash
  rw [wr_e]
  generalize mm_I m 355 0 0 = m0 at h ⊢
  obtain ⟨nc, nt, hL, hM⟩ := Rel_L h
  obtain ⟨hm27, hm26, hW, hT, hF, hnc, hnt⟩ := id hM
  unfold f_Ro_clash
  rw [co_isNone hL.1, ob_e, hm27]
  by_cases hz : nc = 0
  · have e1 : ¬ bI (decide (nc = 0)) = (0 : Int32) := by rw [decide_eq_true hz]; decide
    rw [if_neg e1, if_pos (show nI nc = (0 : Int32) by rw [hz]; rfl)]
    exact ⟨_, c, m0, rfl, rfl, Rel_k h (by omega)⟩
  · have e1 : bI (decide (nc = 0)) = (0 : Int32) := by rw [decide_eq_false hz]; rfl
    rw [if_pos e1, if_neg (nI_ne0 (by omega) (by omega))]
    obtain ⟨c1, p1, p2, b, hh, AB, hS, hF⟩ := ma_prepare hN hL
    obtain ⟨m1, l1, l2, l3, l4⟩ := mo_trial hN hM
    unfold f_Ma_leastClash
    rw [p1, obv_e, l1, obv_e]
    have h64 : 2 ^ nc ≤ 64 := Nat.pow_le_pow_right (n := 2) (by decide) hnc
    have h1 : 1 ≤ 2 ^ nc := Nat.one_le_two_pow
    have hl := lp_2 (fun fu j (a : Int32 × MM) => f_Ma_leastClash_L8 N fu a.1 (nI j) a.2) (fun fu j (a : Int32 × MM) => f_Mo_clash_L29 N fu a.1 (nI j) a.2) (2 ^ nc) (fun _ a d => a.1 = d.1 ∧ MU 0 c1 a.2 ∧ NU 0 m1 d.2 ∧ NS nc nt (m0.1 368) (m0.1 362) d.2) (fun y z => ∃ r c' m', y = some (r, c') ∧ z = some (r, m') ∧ MU 0 c1 c' ∧ NU 0 m1 m') (fun fa fb a d hr => ?_) (fun fa fb j a d hj hr => Or.inl ?_) (2 ^ nc - 1) 1 N N (-1, c1) (-1, m1) (by omega) (by omega) (by omega) ⟨rfl, MU_r, NU_r, l4⟩
    · obtain ⟨r, c', m', e1, e2, e3, e4⟩ := hl
      have e1 : f_Ma_leastClash_L8 N N (-1) 1 c1 = some (r, c') := e1
      have e2 : f_Mo_clash_L29 N N (-1) 1 m1 = some (r, m') := e2
      rw [e1, e2, ob_e]
      exact ⟨r, c', m', rfl, rfl, Rel_mt h (fun a ha => by rw [e3.2.1 a (by omega) (by omega)]; exact p2.2 a (by omega)) (fun a a1 a2 => by rw [e4.2.1 a a1 a2]; exact l3 a a2) (fun j j1 j2 j3 => by rw [e4.2.2.1 j j1 j2 j3, l3 355 (by decide)])⟩
    · obtain ⟨x, μ⟩ := a
      obtain ⟨x', n⟩ := d
      obtain ⟨r1, r2, r3, r4⟩ := hr
      have r1 : x = x' := r1
      subst r1
      have hS1 := MS_of hS r2.2.1
      show ∃ r c' m', f_Ma_leastClash_L8 N (fa + 1) x (nI (2 ^ nc)) μ = some (r, c') ∧ f_Mo_clash_L29 N (fb + 1) x (nI (2 ^ nc)) n = some (r, m') ∧ MU 0 c1 c' ∧ NU 0 m1 m'
      rw [f_Ma_leastClash_L8, f_Mo_clash_L29, hS1.1, r4.1, l_1, l_31, sh1 nc (by omega), if_pos (nI_le (Nat.le_refl _) (by omega)), if_pos (nI_le (Nat.le_refl _) (by omega))]
      exact ⟨x, μ, n, rfl, rfl, r2, r3⟩
    · obtain ⟨x, μ⟩ := a
      obtain ⟨x', n⟩ := d
      obtain ⟨r1, r2, r3, r4⟩ := hr
      have r1 : x = x' := r1
      subst r1
      have hS1 := MS_of hS r2.2.1
      obtain ⟨y, μ', e1, e2, e3⟩ := ma_canAll (mk := nI j) hN hF nc 0 12 (fun _ => 9) 0 μ (by omega) (by omega) hS1 mt_ok0 mt_PA0 (fun t _ => by rw [b_0]; rfl) (fun i hi => by omega)
      obtain ⟨y', n', g1, g2, g3, g4⟩ := mo_can (mk := nI j) hN hW hT hnc hnt nc 0 12 (fun _ => 9) 0 n (by omega) (by omega) r4 mt_ok0 (fun i hi => by omega) (fun t _ => by rw [b_0]; rfl) (fun i hi => by omega)
      have hy : y' = y := by
        rw [Bool.eq_iff_iff]; exact g4.trans e3.symm
      subst hy
      have e1 : f_Ma_canAll N (nI 0) (nI j) (nI 0) μ = some (bI y', μ') := e1
      have g1 : f_Mo_canBeRight N (nI j) (nI 0) (nI 0) n = some (bI y', n') := g1
      show ∃ a' c' : Int32 × MM, f_Ma_leastClash_L8 N (fa + 1) x (nI j) μ = f_Ma_leastClash_L8 N fa a'.1 (nI (j + 1)) a'.2 ∧ f_Mo_clash_L29 N (fb + 1) x (nI j) n = f_Mo_clash_L29 N fb c'.1 (nI (j + 1)) c'.2 ∧ a'.1 = c'.1 ∧ MU 0 c1 a'.2 ∧ NU 0 m1 c'.2 ∧ NS nc nt (m0.1 368) (m0.1 362) c'.2
      rw [f_Ma_leastClash_L8, f_Mo_clash_L29, hS1.1, r4.1, l_1, l_31, sh1 nc (by omega), if_neg (nI_ge hj (by omega)), if_neg (nI_ge hj (by omega))]
      unfold f_Ma_leastClash_B37 f_Mo_clash_B55
      have e1 : f_Ma_canAll N 0 (nI j) 0 μ = some (bI y', μ') := e1
      have g1 : f_Mo_canBeRight N (nI j) 0 0 n = some (bI y', n') := g1
      simp only [bc_e, ob_e, e1, g1]
      rw [show (nI j + nI 1 : Int32) = nI (j + 1) from nI_add j 1]
      have hgo : ∃ a' c' : Int32 × MM, f_Ma_leastClash_L8 N fa (if bI y' = 0 then nI j else x) (nI (j + 1)) μ' = f_Ma_leastClash_L8 N fa a'.1 (nI (j + 1)) a'.2 ∧ f_Mo_clash_L29 N fb (if bI y' = 0 then nI j else x) (nI (j + 1)) n' = f_Mo_clash_L29 N fb c'.1 (nI (j + 1)) c'.2 ∧ a'.1 = c'.1 ∧ MU 0 c1 a'.2 ∧ NU 0 m1 c'.2 ∧ NS nc nt (m0.1 368) (m0.1 362) c'.2 :=
        ⟨(_, μ'), (_, n'), rfl, rfl, rfl, MU_t r2 e2, NU_t r3 g2, g3⟩
      by_cases q1 : x = -nI 1
      · rw [if_pos q1, if_pos q1, nI_1]; exact hgo
      · rw [if_neg q1, if_neg q1]
        by_cases q2 : bcI x ≤ bcI (nI j)
        · rw [if_pos q2, if_pos q2]
          exact ⟨(x, μ), (x, n), rfl, rfl, rfl, r2, r3, r4⟩
        · rw [if_neg q2, if_neg q2, nI_1]; exact hgo
