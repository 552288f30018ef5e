/-! ===== fault, the other sorts ===== -/
theorem cSh_15 : cSh 15 0 := by unfold cSh; decide +kernel
theorem fa_read {k N : Nat} {c m : MM} (hN : 15000 ≤ N) (h : Rel k c m) : ∃ r c' m', (ob (f_Tr_readReading N c) fun t36 μ2z => (f_Ro_fault_B49 N t36 μ2z)) = some (r, c') ∧ f_Mo_fault_B46 N 2 m = some (r, m') ∧ Rel k c' m' ∧ (∀ a, a = 0 ∨ 23 ≤ a → c'.1 a = c.1 a) ∧
    (r = -1 → ∃ ws : List (Nat × Nat), 1 ≤ ws.length ∧ ws.length ≤ 6 ∧ (∀ w, w ∈ ws → wOK w) ∧ c'.1 16 0 = nI ws.length ∧ m'.1 367 52 = nI ws.length ∧ ∀ i, i < ws.length → c'.1 17 i = nI (ws.getD i (0, 0)).1 ∧ c'.1 18 i = nI (ws.getD i (0, 0)).2 ∧ m'.1 367 (53 + 2 * i) = nI (ws.getD i (0, 0)).1 ∧ m'.1 367 (54 + 2 * i) = nI (ws.getD i (0, 0)).2) := by
  obtain ⟨n, Y, hX, hC, h6, ht⟩ := Rel_T h
  have n9 := hX.1
  have hn7 : sh_n 367 = 65 := by decide +kernel
  obtain ⟨ok, p', ws, R1, R2, R3, R4, R5, R6, R7⟩ := words_ok hX 6 0 0 (by omega) (by omega)
  rw [Nat.zero_add] at R3 R4
  have hM := MT_R hX ht
  have k16 : (mm_I c 16 0 (nI 0)).1 (15 + 1) 0 = nI 0 := by rw [gI_s, if_pos rfl]
  have hC1 : CT n Y (mm_I c 16 0 (nI 0)) := CT_w hC (by decide) (by decide)
  have e1 := R1 N (mm_I c 16 0 (nI 0)) 15 0 N (nI 9) hN hC1 cSh_15 k16 (by omega)
  obtain ⟨w1, w2, w3, w4, w5, w6⟩ := cWs_g (q := 15) (row := 0) (ink := nI 9) ws (mm_I c 16 0 (nI 0)) 0 k16
  obtain ⟨v1, v2, v3, v4⟩ := mWs_g (q := 367) (off := 52) ws (m1R n m) 0
  obtain ⟨r1, r2⟩ := R2 N 356 0 367 52 N (m1R n m) (m.1 355 12) hN hM (by decide) (by decide) (by omega) (by omega) (by omega)
  have hC2 : CT n Y (cWs 15 0 (nI 9) (mm_I c 16 0 (nI 0)) 0 ws) := CT_fr hC1 (by rw [w1 1 (by decide) (by decide) (by decide) (by decide)]) (w1 2 (by decide) (by decide) (by decide) (by decide))
  have hcl : f_Tr_readReading N c = (if bI ok = 0 then (some (0, cP (cWs 15 0 (nI 9) (mm_I c 16 0 (nI 0)) 0 ws) p')) else (ob (f_Ta_peek N (cP (cWs 15 0 (nI 9) (mm_I c 16 0 (nI 0)) 0 ws) p')) fun t35 μ4z => (if t35 = (-1) then (some (1, μ4z)) else (some (0, μ4z))))) := by
    have e1' : f_Tr_readWords N 15 0 9 (cP (mm_I c 16 0 (nI 0)) 0) = _ := e1
    unfold f_Tr_readReading
    rw [rewind_e, obv_e, wr_e, mm_cP (by decide), show mm_I c 16 0 0 = mm_I c 16 0 (nI 0) from rfl, e1', ob_e]
  have hRel : ∀ (p p2 : Nat) (f d : Int32) (m2 : MM), (∀ a, a ≠ 367 → m2.1 a = (m1R n m).1 a) → (∀ j, j < 52 → m2.1 367 j = (m1R n m).1 367 j) → Rel k (cP (cWs 15 0 (nI 9) (mm_I c 16 0 (nI 0)) 0 ws) p) (mQ m2 p2 f d) := fun p p2 f d m2 g1 g2 => by
    refine Rel_rd h (fun a ha => ?_) ?_ (fun a a1 a2 a3 a4 a5 => ?_) (fun j hj => ?_) (fun j hj => ?_)
    · rw [cP_1 (by omega), w1 a (by omega) (by omega) (by omega) (by omega), gI_o (by omega)]
    · unfold cP
      rw [gI_s, if_neg (by decide), w1 1 (by decide) (by decide) (by decide) (by decide), gI_o (by decide)]
    · rw [mQ_1 a1, g1 a a5, m1R_1 a1]
    · have hj' : j ≠ 10 ∧ j ≠ 11 ∧ j ≠ 12 ∧ ¬ j = 9 ∧ ¬ j = 8 ∧ ¬ j = 5 := by unfold fld at hj; omega
      rw [mQ_s hj'.1 hj'.2.1 hj'.2.2.1, g1 355 (by decide), m1R_5, if_neg hj'.2.2.2.1, if_neg hj'.2.2.2.2.1, if_neg hj'.2.2.2.2.2]
    · rw [mQ_1 (by decide), g2 j hj, m1R_1 (by decide)]
  have hkp : ∀ p a, a = 0 ∨ 23 ≤ a → (cP (cWs 15 0 (nI 9) (mm_I c 16 0 (nI 0)) 0 ws) p).1 a = c.1 a := fun p a ha => by rw [cP_1 (by omega), w1 a (by omega) (by omega) (by omega) (by omega), gI_o (by omega)]
  rw [hcl]
  unfold f_Mo_fault_B46
  rw [if_pos rfl, h6, starts_e, obv_e]
  cases ok with
  | false =>
    obtain ⟨p'', e2⟩ := r2 rfl
    have e2' : f_Mo_readWords N 367 52 (mQ (m1R n m) 0 (-nI 1) (m.1 355 12)) = _ := e2
    rw [e2', obv_e, mQ_11, if_neg (nf (by omega)), if_pos (show bI false = 0 from rfl), ob_e]
    refine ⟨nI p', _, _, ?_, rfl, hRel p' p'' _ _ _ v1 (fun j hj => v4 j (by omega)), hkp _, fun h => absurd h (nf (by omega))⟩
    unfold f_Ro_fault_B49
    rw [if_pos rfl, cP_p]
  | true =>
    have e2 := r1 rfl
    rw [Nat.zero_add] at e2
    have e2' : f_Mo_readWords N 367 52 (mQ (m1R n m) 0 (-nI 1) (m.1 355 12)) = _ := e2
    have hM2 : MT n Y 356 0 (mm_I (mWs 367 52 (m1R n m) 0 ws) 367 52 (nI ws.length)) := MT_w (MT_fr hM (by rw [v1 355 (by decide)]) (by rw [v1 355 (by decide)]) (by rw [v1 355 (by decide)]) (v1 356 (by decide))) (by decide) (by decide)
    have g1 : ∀ a, a ≠ 367 → (mm_I (mWs 367 52 (m1R n m) 0 ws) 367 52 (nI ws.length)).1 a = (m1R n m).1 a := fun a ha => by rw [gI_o ha, v1 a ha]
    have g2 : ∀ j, j < 52 → (mm_I (mWs 367 52 (m1R n m) 0 ws) 367 52 (nI ws.length)).1 367 j = (m1R n m).1 367 j := fun j hj => by rw [gI_s, if_neg (by omega), v4 j (by omega)]
    obtain ⟨z1, z2, z3⟩ := sk_p (Y := Y) R7
    rw [e2', obv_e, mQ_11, if_pos m1e, mo_look hN hX hM2 R7, ob_e, if_neg (show ¬ bI true = 0 by decide), cp_peek hN hX hC2 R7, ob_e]
    by_cases hm : sg n Y (sk n Y p') = -1
    · rw [if_pos hm, if_pos hm, ob_e, mQ_11]
      refine ⟨-1, _, _, ?_, rfl, hRel (sk n Y p') (sk n Y p') _ _ _ g1 g2, hkp _, fun _ => ⟨ws, R3 rfl, R4, R5, ?_, ?_, fun i hi => ?_⟩⟩
      · unfold f_Ro_fault_B49
        rw [if_neg (by decide)]
      · rw [cP_1 (by decide)]
        rw [Nat.zero_add] at w3; exact w3
      · rw [mQ_1 (by decide), gI_s, if_pos rfl]
      · obtain ⟨x1, x2, x3⟩ := w5 i hi
        obtain ⟨y1, y2⟩ := v3 i hi
        rw [show 6 * 0 + 0 + i = i by omega] at x1 x2
        rw [Nat.zero_add] at y1 y2
        refine ⟨?_, ?_, ?_, ?_⟩
        · rw [cP_1 (by decide)]; exact x1
        · rw [cP_1 (by decide)]; exact x2
        · rw [mQ_1 (by decide), gI_s, if_neg (by omega)]; exact y1
        · rw [mQ_1 (by decide), gI_s, if_neg (by omega)]; exact y2
    · rw [if_neg hm, if_neg hm, ob_e, mo_fails, ob_e, mQ_11]
      refine ⟨nI (sk n Y p'), _, _, ?_, rfl, hRel (sk n Y p') (sk n Y p') _ _ _ g1 g2, hkp _, fun h => absurd h (nf (by omega))⟩
      unfold f_Ro_fault_B49
      rw [if_pos rfl, cP_p]
