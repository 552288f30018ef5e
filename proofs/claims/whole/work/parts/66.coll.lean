/-! ===== clauses of a collection ===== -/
theorem kcl_p {n p nt nc ru : Nat} {Y : Nat → Nat} {fc fc' : Nat → MM → Option (Int32 × MM)} {fm fm' : Nat → MM → Option MM} {ok : Bool} {p0 p' nt' nc' ru' : Nat} (h : KCL n Y p0 nt nc ru fc fm ok p' nt' nc' ru') (h1 : ∀ (N : Nat) (c m : MM) (d : Int32), 15000 ≤ N → CT n Y c → MT n Y 356 0 m → DR nt nc ru c m → fc' N (cP c p) = fc N (cP c p0) ∧ fm' N (mQ m p (-nI 1) d) = fm N (mQ m p0 (-nI 1) d)) : KCL n Y p nt nc ru fc' fm' ok p' nt' nc' ru' := fun N c m d hN hC hM hD => by
  obtain ⟨e1, e2⟩ := h1 N c m d hN hC hM hD
  rw [e1, e2]
  exact h N c m d hN hC hM hD
theorem dcl_ok {n p nt nc ru : Nat} {Y : Nat → Nat} (hX : TX n Y) (hp : p ≤ n) (hnt : nt ≤ 8) (hnc : nc ≤ 6) (hru : ru ≤ 1) : ∃ ok p' nt' nc' ru', p ≤ p' ∧ p' ≤ n ∧ (ok = true → p < p') ∧ KCL n Y p nt nc ru (fun N μ => f_Tr_readClause N μ) (fun N μ => f_Mo_readClause N μ) ok p' nt' nc' ru' := by
  have n9 := hX.1
  obtain ⟨s1, s2, s3⟩ := sk_p (Y := Y) hp
  generalize hp0 : sk n Y p = p0 at s1 s2 s3
  have hfail : KCL n Y p0 nt nc ru (fun _ μ => some (0, μ)) (fun N μ => ob (f_Mo_fails N μ) fun t59 μ14z => (some μ14z)) false p0 0 0 0 := fun N c m d hN hC hM hD => ⟨c, m, p0, rfl, by show ob (f_Mo_fails N (mQ m p0 (-nI 1) d)) _ = _; rw [mo_fails, ob_e, if_neg (by decide)], ⟨fun _ _ _ => rfl, rfl⟩, ⟨fun _ _ _ _ _ => rfl, fun _ _ _ _ => rfl, rfl⟩, fun h => (by cases h)⟩
  have h52 : ∀ (N : Nat) (x : Int32) (μ : MM), f_Mo_readClause_B52 N x μ = ob (f_Mo_fails N μ) fun t59 μ14z => (some μ14z) := fun N x μ => by
    unfold f_Mo_readClause_B52 f_Mo_readClause_B53
    rw [if_pos rfl]
  have hgo : ∀ (N : Nat) (c m : MM) (d : Int32), 15000 ≤ N → CT n Y c → MT n Y 356 0 m → DR nt nc ru c m → f_Tr_readClause N (cP c p) = (if sg n Y p0 = 115 then (if nI ru = 0 then (obv (f_Ta_step N (cP c p0)) fun μ6z => (ob (f_Tr_readRules N μ6z) fun t29 μ7z => (gd (zb t29) (some (t29, μ7z))))) else (f_Tr_readClause_B33 N (sg n Y p0) (cP c p0))) else (f_Tr_readClause_B33 N (sg n Y p0) (cP c p0))) ∧ f_Mo_readClause N (mQ m p (-nI 1) d) = (if sg n Y p0 = 115 then (if nI ru = 0 then (f_Mo_readClause_B48 N (sg n Y p0) (mQ m p0 (-nI 1) d)) else (f_Mo_readClause_B18 N (sg n Y p0) (mQ m p0 (-nI 1) d))) else (f_Mo_readClause_B18 N (sg n Y p0) (mQ m p0 (-nI 1) d))) ∧ (cP c p0).1 4 0 = nI nt ∧ (cP c p0).1 4 1 = nI nc ∧ (mQ m p0 (-nI 1) d).1 355 28 = nI nt ∧ (mQ m p0 (-nI 1) d).1 355 29 = nI nc := fun N c m d hN hC hM hD => by
    refine ⟨?_, ?_, ?_, ?_, ?_, ?_⟩
    · unfold f_Tr_readClause
      rw [cp_peek hN hX hC hp, hp0, ob_e, cP_1 (by decide), hD.2.1.1]
    · unfold f_Mo_readClause
      rw [mo_look hN hX hM hp, hp0, ob_e, mQ_s (by decide) (by decide) (by decide), hD.2.1.2]
    · rw [cP_1 (by decide)]; exact hD.2.2.1.1
    · rw [cP_1 (by decide)]; exact hD.2.2.2.1.1
    · rw [mQ_s (by decide) (by decide) (by decide)]; exact hD.2.2.1.2
    · rw [mQ_s (by decide) (by decide) (by decide)]; exact hD.2.2.2.1.2
  have hru0 : nI ru = 0 ↔ ru = 0 := nI_eq (b := 0) (by omega) (by decide)
  by_cases c1 : sg n Y p0 = 115
  · have hl := (sg_lt (v := 115) hX (by decide) c1).1
    by_cases c2 : ru = 0
    · subst c2
      obtain ⟨ok, p', a1, a2, a3⟩ := rules_ok (nt := nt) (nc := nc) hX hl
      refine ⟨ok, p', nt, nc, 1, by omega, a2, fun _ => by omega, kcl_p a3 (fun N c m d hN hC hM hD => ?_)⟩
      obtain ⟨g1, g2, -⟩ := hgo N c m d hN hC hM hD
      refine ⟨?_, ?_⟩
      · show f_Tr_readClause N (cP c p) = _
        rw [g1, if_pos c1, if_pos (show nI 0 = 0 from rfl)]
      · show f_Mo_readClause N (mQ m p (-nI 1) d) = _
        rw [g2, if_pos c1, if_pos (show nI 0 = 0 from rfl), c1]; rfl
    · refine ⟨false, p0, 0, 0, 0, s1, s2, fun h => (by cases h), kcl_p hfail (fun N c m d hN hC hM hD => ?_)⟩
      obtain ⟨g1, g2, -⟩ := hgo N c m d hN hC hM hD
      refine ⟨?_, ?_⟩
      · show f_Tr_readClause N (cP c p) = _
        rw [g1, if_pos c1, if_neg (fun z => c2 (hru0.mp z))]
        unfold f_Tr_readClause_B33 f_Tr_readClause_B63
        rw [c1, if_neg (by decide), if_neg (by decide)]
      · show f_Mo_readClause N (mQ m p (-nI 1) d) = _
        rw [g2, if_pos c1, if_neg (fun z => c2 (hru0.mp z))]
        unfold f_Mo_readClause_B18 f_Mo_readClause_B33
        rw [c1, if_neg (by decide), if_neg (by decide), h52]
  · by_cases c3 : sg n Y p0 = 116
    · have hl := (sg_lt (v := 116) hX (by decide) c3).1
      by_cases c4 : nt < 8
      · obtain ⟨ok, p', a1, a2, a3⟩ := thing_ok (nc := nc) (ru := ru) hX hl c4
        refine ⟨ok, p', nt + 1, nc, ru, by omega, a2, fun _ => by omega, kcl_p a3 (fun N c m d hN hC hM hD => ?_)⟩
        obtain ⟨g1, g2, g3, g4, g5, g6⟩ := hgo N c m d hN hC hM hD
        refine ⟨?_, ?_⟩
        · show f_Tr_readClause N (cP c p) = _
          rw [g1, if_neg c1]
          unfold f_Tr_readClause_B33
          rw [if_pos c3, g3, if_neg (show ¬ (8 : Int32) ≤ nI nt from fun z => by have := (nI_leI (a := 8) (by decide) (by omega)).mp z; omega)]
        · show f_Mo_readClause N (mQ m p (-nI 1) d) = _
          rw [g2, if_neg c1]
          unfold f_Mo_readClause_B18
          rw [if_pos c3, g5, if_pos (show nI nt < 8 from (nI_ltI (b := 8) (by omega) (by decide)).mpr c4), c3]; rfl
      · refine ⟨false, p0, 0, 0, 0, s1, s2, fun h => (by cases h), kcl_p hfail (fun N c m d hN hC hM hD => ?_)⟩
        obtain ⟨g1, g2, g3, g4, g5, g6⟩ := hgo N c m d hN hC hM hD
        refine ⟨?_, ?_⟩
        · show f_Tr_readClause N (cP c p) = _
          rw [g1, if_neg c1]
          unfold f_Tr_readClause_B33 f_Tr_readClause_B63
          rw [if_pos c3, g3, if_pos (show (8 : Int32) ≤ nI nt from (nI_leI (a := 8) (by decide) (by omega)).mpr (by omega)), c3, if_neg (by decide)]
        · show f_Mo_readClause N (mQ m p (-nI 1) d) = _
          rw [g2, if_neg c1]
          unfold f_Mo_readClause_B18 f_Mo_readClause_B33
          rw [if_pos c3, g5, if_neg (show ¬ nI nt < 8 from fun z => c4 ((nI_ltI (b := 8) (by omega) (by decide)).mp z)), c3, if_neg (by decide), h52]
    · by_cases c5 : sg n Y p0 = 99
      · have hl := (sg_lt (v := 99) hX (by decide) c5).1
        by_cases c6 : nc < 6
        · obtain ⟨ok, p', a1, a2, a3⟩ := card_ok (nt := nt) (ru := ru) hX hl c6
          refine ⟨ok, p', nt, nc + 1, ru, by omega, a2, fun _ => by omega, kcl_p a3 (fun N c m d hN hC hM hD => ?_)⟩
          obtain ⟨g1, g2, g3, g4, g5, g6⟩ := hgo N c m d hN hC hM hD
          refine ⟨?_, ?_⟩
          · show f_Tr_readClause N (cP c p) = _
            rw [g1, if_neg c1]
            unfold f_Tr_readClause_B33 f_Tr_readClause_B63
            rw [if_neg c3, if_pos c5, g4, if_neg (show ¬ (6 : Int32) ≤ nI nc from fun z => by have := (nI_leI (a := 6) (by decide) (by omega)).mp z; omega)]
          · show f_Mo_readClause N (mQ m p (-nI 1) d) = _
            rw [g2, if_neg c1]
            unfold f_Mo_readClause_B18 f_Mo_readClause_B33
            rw [if_neg c3, if_pos c5, g6, if_neg (show ¬ (6 : Int32) ≤ nI nc from fun z => by have := (nI_leI (a := 6) (by decide) (by omega)).mp z; omega), c5]; rfl
        · refine ⟨false, p0, 0, 0, 0, s1, s2, fun h => (by cases h), kcl_p hfail (fun N c m d hN hC hM hD => ?_)⟩
          obtain ⟨g1, g2, g3, g4, g5, g6⟩ := hgo N c m d hN hC hM hD
          refine ⟨?_, ?_⟩
          · show f_Tr_readClause N (cP c p) = _
            rw [g1, if_neg c1]
            unfold f_Tr_readClause_B33 f_Tr_readClause_B63
            rw [if_neg c3, if_pos c5, g4, if_pos (show (6 : Int32) ≤ nI nc from (nI_leI (a := 6) (by decide) (by omega)).mpr (by omega))]
          · show f_Mo_readClause N (mQ m p (-nI 1) d) = _
            rw [g2, if_neg c1]
            unfold f_Mo_readClause_B18 f_Mo_readClause_B33
            rw [if_neg c3, if_pos c5, g6, if_pos (show (6 : Int32) ≤ nI nc from (nI_leI (a := 6) (by decide) (by omega)).mpr (by omega)), h52]
      · refine ⟨false, p0, 0, 0, 0, s1, s2, fun h => (by cases h), kcl_p hfail (fun N c m d hN hC hM hD => ?_)⟩
        obtain ⟨g1, g2, g3, g4, g5, g6⟩ := hgo N c m d hN hC hM hD
        refine ⟨?_, ?_⟩
        · show f_Tr_readClause N (cP c p) = _
          rw [g1, if_neg c1]
          unfold f_Tr_readClause_B33 f_Tr_readClause_B63
          rw [if_neg c3, if_neg c5]
        · show f_Mo_readClause N (mQ m p (-nI 1) d) = _
          rw [g2, if_neg c1]
          unfold f_Mo_readClause_B18 f_Mo_readClause_B33
          rw [if_neg c3, if_neg c5, h52]
