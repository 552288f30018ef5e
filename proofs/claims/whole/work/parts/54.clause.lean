/-! ===== a clause ===== -/
def KOK (n : Nat) (Y : Nat → Nat) (p : Nat) (ok : Bool) (p' : Nat) (cs : List Int32) (cc vv : (Nat → Int32) → Int32) : Prop :=
  (∀ (N : Nat) (c : MM) (s : Nat) (g : Nat → Int32), 15000 ≤ N → CT n Y c → s ≤ p → (ok = true → f_Lr_readClause N (cQ c p s g) = some (nI 1, cQ c p' (s + cs.length) (app g s cs))) ∧ (ok = false → ∃ s' g', f_Lr_readClause N (cQ c p s g) = some (nI 0, cQ c p' s' g'))) ∧
  (∀ (N q bg : Nat) (m : MM) (L : Nat → Int32), 15000 ≤ N → MT n Y q bg m → LE m L → m.1 355 13 = nI 121 → (ok = true → f_Mo_clause N (mQ m p (-nI 1) (nI 0)) = some (cRes m (cc L) (vv L) p')) ∧ (ok = false → ∃ p'' x, f_Mo_clause N (mQ m p (-nI 1) (nI 0)) = some (mQ m p'' (nI p') x))) ∧
  (ok = true → p < p' ∧ cs.length + 2 ≤ p' - p ∧ CEV cs cc vv) ∧ p' ≤ n
theorem sp_y (x : Int32) : (spX 2005 1 x).isSome = decide (x = 121) := by
  cases h : spX 2005 1 x with
  | some j =>
    obtain ⟨j1, j2⟩ := sp_some h
    have j0 : j = 0 := by omega
    subst j0
    rw [← j2]
    exact (by decide +kernel : (some 0 : Option Nat).isSome = decide (st_I (2005 + 1000) 0 = 121))
  | none =>
    by_cases e : x = 121
    · subst e
      exact absurd h (by decide +kernel)
    · rw [decide_eq_false e]; rfl
theorem clause_ok {n p : Nat} {Y : Nat → Nat} (hX : TX n Y) (hp : p ≤ n) : ∃ ok p' cs cc vv, KOK n Y p ok p' cs cc vv := by
  have n9 := hX.1
  obtain ⟨a1, a2, a3⟩ := sk_p (Y := Y) hp
  generalize hp1 : sk n Y p = p1 at a1 a2 a3
  by_cases hy : sg n Y p1 = nI 121
  · have l1 := (sg_lt hX (by decide) hy).1
    obtain ⟨b1, b2, b3⟩ := sk_p (Y := Y) (n := n) (p := p1 + 1) (by omega)
    generalize hp2 : sk n Y (p1 + 1) = p2 at b1 b2 b3
    have hm1 : ∀ (N q bg : Nat) (m : MM), 15000 ≤ N → MT n Y q bg m → f_Mo_clause N (mQ m p (-nI 1) (nI 0)) = (ob (f_Mo_takes N 58 (mQ m (p1 + 1) (-nI 1) (nI 0))) fun t33 μ4z => (if t33 = 0 then (some μ4z)
    else (ob (f_Mo_look N μ4z) fun t45 μ5z => (if t45 = 33 then (f_Mo_clause_B64 N (nI 121) μ5z)
    else (if t45 = 40 then (f_Mo_clause_B64 N (nI 121) μ5z)
    else (ob (f_Mo_sum N μ5z) fun t90 μ11z => (if (μ11z.1 355 11) = (-1) then (ob (f_Mo_look N μ11z) fun t103 μ12z => (ob (f_Mo_isSign N t103 μ12z) fun t106 μ13z => (if t106 = 0 then (f_Mo_clause_B134 N (nI 121) 1 t90 μ13z)
    else (ob (f_Mo_condition N 1 t90 μ13z) fun t115 μ14z => (ob (f_Mo_takes N 63 μ14z) fun t122 μ15z => (if t122 = 0 then (some μ15z)
    else (ob (f_Mo_sum N μ15z) fun t130 μ16z => (f_Mo_clause_B134 N (nI 121) t115 t130 μ16z))))))))
    else (f_Mo_clause_B134 N (nI 121) 1 t90 μ11z)))))))) := fun N q bg m hN hM => by
      unfold f_Mo_clause
      rw [mo_look hN hX hM hp, hp1, ob_e, mo_among hN sc_2005, ob_e, hy, sp_y, if_neg (by decide), wr_e, mQ_10, show nI p1 + 1 = nI (p1 + 1) from nI_add p1 1, mQ_p]
    have hc1 : ∀ (N : Nat) (c : MM) (s : Nat) (g : Nat → Int32), 15000 ≤ N → CT n Y c → f_Lr_readClause N (cQ c p s g) = (ob (f_Ta_accept N 58 (cQ c (p1 + 1) s g)) fun t18 μ2z => (if t18 = 0 then (some (0, μ2z))
    else (ob (f_Ta_peek N μ2z) fun t30 μ3z => (if t30 = 33 then (f_Lr_readClause_B46 N  μ3z)
    else (if t30 = 40 then (f_Lr_readClause_B46 N  μ3z)
    else (f_Lr_readClause_B51 N 0 μ3z)))))) := fun N c s g hN hC => by
      unfold f_Lr_readClause
      rw [show (121 : Int32) = nI 121 from rfl, ta_accept hN hX hC hp (by decide), hp1, if_pos hy, ob_e, if_neg (by decide)]
    by_cases hd : sg n Y p2 = nI 58
    · have l2 := (sg_lt hX (by decide) hd).1
      obtain ⟨d1, d2, d3⟩ := sk_p (Y := Y) (n := n) (p := p2 + 1) (by omega)
      have hss := sk_sk (Y := Y) (n := n) (p := p2 + 1) (by omega)
      generalize hp3 : sk n Y (p2 + 1) = p3 at d1 d2 d3 hss
      have hm2 : ∀ (N q bg : Nat) (m : MM), 15000 ≤ N → MT n Y q bg m → f_Mo_clause N (mQ m p (-nI 1) (nI 0)) = (if sg n Y p3 = 33 then (f_Mo_clause_B64 N (nI 121) (mQ m p3 (-nI 1) (nI 0)))
    else (if sg n Y p3 = 40 then (f_Mo_clause_B64 N (nI 121) (mQ m p3 (-nI 1) (nI 0)))
    else (ob (f_Mo_sum N (mQ m p3 (-nI 1) (nI 0))) fun t90 μ11z => (if (μ11z.1 355 11) = (-1) then (ob (f_Mo_look N μ11z) fun t103 μ12z => (ob (f_Mo_isSign N t103 μ12z) fun t106 μ13z => (if t106 = 0 then (f_Mo_clause_B134 N (nI 121) 1 t90 μ13z)
    else (ob (f_Mo_condition N 1 t90 μ13z) fun t115 μ14z => (ob (f_Mo_takes N 63 μ14z) fun t122 μ15z => (if t122 = 0 then (some μ15z)
    else (ob (f_Mo_sum N μ15z) fun t130 μ16z => (f_Mo_clause_B134 N (nI 121) t115 t130 μ16z))))))))
    else (f_Mo_clause_B134 N (nI 121) 1 t90 μ11z))))) := fun N q bg m hN hM => by
        rw [hm1 N q bg m hN hM, show (58 : Int32) = nI 58 from rfl, mo_takes hN hX hM (by omega), hp2, if_pos hd, ob_e, if_neg (by decide), mo_look hN hX hM (by omega), hp3, ob_e]
      have hc2 : ∀ (N : Nat) (c : MM) (s : Nat) (g : Nat → Int32), 15000 ≤ N → CT n Y c → f_Lr_readClause N (cQ c p s g) = (if sg n Y p3 = 33 then (f_Lr_readClause_B46 N  (cQ c p3 s g))
    else (if sg n Y p3 = 40 then (f_Lr_readClause_B46 N (cQ c p3 s g))
    else (f_Lr_readClause_B51 N 0 (cQ c p3 s g)))) := fun N c s g hN hC => by
        rw [hc1 N c s g hN hC, show (58 : Int32) = nI 58 from rfl, ta_accept hN hX hC (by omega) (by decide), hp2, if_pos hd, ob_e, if_neg (by decide), ta_peek hN hX hC (by omega), hp3, ob_e]
      by_cases hbr : sg n Y p3 = 33 ∨ sg n Y p3 = 40
      · -- a condition that begins with a sign
        have hm3 : ∀ (N q bg : Nat) (m : MM), 15000 ≤ N → MT n Y q bg m → f_Mo_clause N (mQ m p (-nI 1) (nI 0)) = ob (f_cl_Mo_unit N 38 0 0 0 (mQ m p3 (-nI 1) (nI 0))) fun t14 μ1z => restM N 38 39 t14 μ1z := fun N q bg m hN hM => by
          have h64 : f_Mo_clause_B64 N (nI 121) (mQ m p3 (-nI 1) (nI 0)) = ob (f_cl_Mo_unit N 38 0 0 0 (mQ m p3 (-nI 1) (nI 0))) fun t14 μ1z => restM N 38 39 t14 μ1z := by
            unfold f_Mo_clause_B64 f_Mo_condition
            rw [cond_g]
            unfold f_Mo_condition_body
            rw [part_g]
            unfold f_Mo_part_body
            rw [if_pos rfl, ob_a, ob_a]
            refine congrArg (ob _) (funext fun a => funext fun μ => ?_)
            unfold restM
            rw [ob_a]
          rw [hm2 N q bg m hN hM]
          by_cases h : sg n Y p3 = 33
          · rw [if_pos h, h64]
          · rw [if_neg h, if_pos (hbr.resolve_left h), h64]
        have hc3 : ∀ (N : Nat) (c : MM) (s : Nat) (g : Nat → Int32), 15000 ≤ N → CT n Y c → f_Lr_readClause N (cQ c p s g) = (ob (f_cl_Lr_readUnit N 40 0 (nI 0) (cQ c p3 s g)) fun t88 μ9z => (f_Lr_readClause_B99 N t88 μ9z)) := fun N c s g hN hC => by
          have h46 : f_Lr_readClause_B46 N (cQ c p3 s g) = (ob (f_cl_Lr_readUnit N 40 0 (nI 0) (cQ c p3 s g)) fun t88 μ9z => (f_Lr_readClause_B99 N t88 μ9z)) := by
            unfold f_Lr_readClause_B46 f_Lr_readClause_B51 f_Lr_readClause_B82
            rw [if_neg (by decide), if_neg (by decide)]; rfl
          rw [hc2 N c s g hN hC]
          by_cases h : sg n Y p3 = 33
          · rw [if_pos h, h46]
          · rw [if_neg h, if_pos (hbr.resolve_left h), h46]
        obtain ⟨okU, pU, csU, fU, U1, U2, U3, U4⟩ := unit_ok hX 6 0 (by omega) p3 d2
        cases okU with
        | false =>
          refine ⟨false, pU, [], fun _ => 0, fun _ => 0, fun N c s g hN hC hs => ⟨fun e => (by cases e), fun _ => ?_⟩, fun N q bg m L hN hM hL h13 => ⟨fun e => (by cases e), fun _ => ?_⟩, fun e => (by cases e), U4⟩
          · obtain ⟨s', g', e⟩ := (U1 N c s g 40 hN hC (by omega) (by omega)).2 rfl
            refine ⟨s', g', ?_⟩
            rw [hc3 N c s g hN hC, e, ob_e]; rfl
          · obtain ⟨v, p'', x, hv, e⟩ := (U2 N q bg m L 38 hN hM hL (by omega)).2 rfl
            refine ⟨p'', x, ?_⟩
            rw [hm3 N q bg m hN hM, e, ob_e]
            unfold restM
            rw [part_stop (by omega) (by omega) hv, ob_e, cond_stop (by omega) (by omega) hv, ob_e, mo_takes2 (by omega), ob_e]; rfl
        | true =>
          obtain ⟨V1, V2, V3, V4⟩ := U3 rfl
          obtain ⟨ok, p', cs, cc, vv, R1, R2, R3, R4⟩ := rest_ok hX U4 fU V3
          have hcs : (csU ++ cs).length = csU.length + cs.length := by simp
          refine ⟨ok, p', csU ++ cs, cc, vv, fun N c s g hN hC hs => ⟨fun h => ?_, fun h => ?_⟩, fun N q bg m L hN hM hL h13 => ⟨fun h => ?_, fun h => ?_⟩, fun h => ?_, R4⟩
          · have e := (U1 N c s g 40 hN hC (by omega) (by omega)).1 rfl
            have e2 := (R1 N c (s + csU.length) (app g s csU) hN hC (by omega)).1 h
            rw [hc3 N c s g hN hC, e, ob_e, e2, hcs, app_app, Nat.add_assoc]
          · have e := (U1 N c s g 40 hN hC (by omega) (by omega)).1 rfl
            obtain ⟨s', g', e2⟩ := (R1 N c (s + csU.length) (app g s csU) hN hC (by omega)).2 h
            exact ⟨s', g', by rw [hc3 N c s g hN hC, e, ob_e, e2]⟩
          · have e := (U2 N q bg m L 38 hN hM hL (by omega)).1 rfl
            rw [hm3 N q bg m hN hM, e, ob_e]
            exact (R2 N q bg m L 38 39 hN hM hL (by omega) (by omega) h13).1 h
          · have e := (U2 N q bg m L 38 hN hM hL (by omega)).1 rfl
            rw [hm3 N q bg m hN hM, e, ob_e]
            exact (R2 N q bg m L 38 39 hN hM hL (by omega) (by omega) h13).2 h
          · obtain ⟨r1, r2, r3⟩ := R3 h
            exact ⟨by omega, by rw [hcs]; omega, r3 csU V4⟩
      · -- a sum first
        have h33 : ¬ sg n Y p3 = 33 := fun h => hbr (Or.inl h)
        have h40 : ¬ sg n Y p3 = 40 := fun h => hbr (Or.inr h)
        obtain ⟨okA, pA, csA, fA, A1, A2, A3, A4⟩ := sum_ok hX 6 0 (by omega) p3 d2
        cases okA with
        | false =>
          refine ⟨false, pA, [], fun _ => 0, fun _ => 0, fun N c s g hN hC hs => ⟨fun e => (by cases e), fun _ => ?_⟩, fun N q bg m L hN hM hL h13 => ⟨fun e => (by cases e), fun _ => ?_⟩, fun e => (by cases e), A4⟩
          · obtain ⟨s', g', e⟩ := (A1 N c s g 40 hN hC (by omega) (by omega)).2 rfl
            refine ⟨s', g', ?_⟩
            rw [hc2 N c s g hN hC, if_neg h33, if_neg h40]
            unfold f_Lr_readClause_B51 f_Lr_readSum
            rw [if_pos rfl, show (f_cl_Lr_readSum N 40 0 0 (cQ c p3 s g)) = f_cl_Lr_readSum N 40 0 (nI 0) (cQ c p3 s g) from rfl, e, ob_e]; rfl
          · obtain ⟨v, p'', x, e⟩ := (A2 N q bg m L 40 hN hM hL (by omega)).2 rfl
            refine ⟨p'', x, ?_⟩
            rw [hm2 N q bg m hN hM, if_neg h33, if_neg h40]
            unfold f_Mo_sum
            rw [e, ob_e, mQ_11, if_neg (nf (by omega)), cl_134f (by omega)]
        | true =>
          obtain ⟨B1, B2, B3, B4⟩ := A3 rfl
          obtain ⟨z1, z2, z3⟩ := sk_p (Y := Y) A4
          have hss2 := sk_sk (Y := Y) A4
          generalize hp5 : sk n Y pA = p5 at z1 z2 z3 hss2
          have hc3 : ∀ (N : Nat) (c : MM) (s : Nat) (g : Nat → Int32), 15000 ≤ N → CT n Y c → s ≤ p → f_Lr_readClause N (cQ c p s g) = (if bI (isS (sg n Y p5)) = 0 then (some (1, cQ c p5 (s + csA.length) (app g s csA))) else (f_Lr_readClause_B82 N 0 (cQ c p5 (s + csA.length) (app g s csA)))) := fun N c s g hN hC hs => by
            have e := (A1 N c s g 40 hN hC (by omega) (by omega)).1 rfl
            rw [hc2 N c s g hN hC, if_neg h33, if_neg h40]
            unfold f_Lr_readClause_B51 f_Lr_readSum
            rw [if_pos rfl, show (f_cl_Lr_readSum N 40 0 0 (cQ c p3 s g)) = f_cl_Lr_readSum N 40 0 (nI 0) (cQ c p3 s g) from rfl, e, ob_e, if_neg (by decide), ta_peek hN hX hC A4, hp5, ob_e, lr_comparing, ob_e]
          have hm3 : ∀ (N q bg : Nat) (m : MM) (L : Nat → Int32), 15000 ≤ N → MT n Y q bg m → LE m L → f_Mo_clause N (mQ m p (-nI 1) (nI 0)) = (if bI (isS (sg n Y p5)) = 0 then (f_Mo_clause_B134 N (nI 121) 1 (fA L) (mQ m p5 (-nI 1) (nI 0)))
    else (ob (f_Mo_condition N 1 (fA L) (mQ m p5 (-nI 1) (nI 0))) fun t115 μ14z => (ob (f_Mo_takes N 63 μ14z) fun t122 μ15z => (if t122 = 0 then (some μ15z)
    else (ob (f_Mo_sum N μ15z) fun t130 μ16z => (f_Mo_clause_B134 N (nI 121) t115 t130 μ16z)))))) := fun N q bg m L hN hM hL => by
            have e := (A2 N q bg m L 40 hN hM hL (by omega)).1 rfl
            have e' : f_Mo_sum N (mQ m p3 (-nI 1) (nI 0)) = _ := e
            rw [hm2 N q bg m hN hM, if_neg h33, if_neg h40, e', ob_e, mQ_11, if_pos m1e, mo_look hN hX hM A4, hp5, ob_e, mo_isSign, ob_e]
          cases hsi : isS (sg n Y p5) with
          | false =>
            refine ⟨true, p5, csA, fun _ => 1, fA, fun N c s g hN hC hs => ⟨fun _ => ?_, fun e => (by cases e)⟩, fun N q bg m L hN hM hL h13 => ⟨fun _ => ?_, fun e => (by cases e)⟩, fun _ => ⟨by omega, by omega, CEV_v B4 (by omega)⟩, z2⟩
            · rw [hc3 N c s g hN hC hs, hsi, if_pos (show bI false = 0 from rfl)]; rfl
            · rw [hm3 N q bg m L hN hM hL, hsi, if_pos (show bI false = 0 from rfl), cl_134 h13]
          | true =>
            obtain ⟨okC, pC, csC, fC, C1, C2, C3, C4⟩ := cmp_ok hX (w := 0) (by omega) z2 fA
            have hc4 : ∀ (N : Nat) (c : MM) (s : Nat) (g : Nat → Int32), 15000 ≤ N → CT n Y c → s ≤ p → f_Lr_readClause N (cQ c p s g) = (ob (f_Lr_readComparison N (nI 0) (cQ c p5 (s + csA.length) (app g s csA))) fun t96 μ4z => (f_Lr_readClause_B99 N t96 μ4z)) := fun N c s g hN hC hs => by
              rw [hc3 N c s g hN hC hs, hsi, if_neg (show ¬ bI true = 0 by decide)]
              unfold f_Lr_readClause_B82
              rw [if_pos rfl]; rfl
            have hm4 : ∀ (N q bg : Nat) (m : MM) (L : Nat → Int32), 15000 ≤ N → MT n Y q bg m → LE m L → f_Mo_clause N (mQ m p (-nI 1) (nI 0)) = ob (f_Mo_compares_B12 N (fA L) (mQ m p5 (-nI 1) (nI 0))) fun t14 μ1z => restM N 38 39 t14 μ1z := fun N q bg m L hN hM hL => by
              rw [hm3 N q bg m L hN hM hL, hsi, if_neg (show ¬ bI true = 0 by decide)]
              unfold f_Mo_condition
              rw [cond_g]
              unfold f_Mo_condition_body
              rw [part_g]
              unfold f_Mo_part_body f_Mo_compares
              rw [if_neg (by decide), if_neg (by decide), ob_a, ob_a]
              refine congrArg (ob _) (funext fun a => funext fun μ => ?_)
              unfold restM
              rw [ob_a]
            cases okC with
            | false =>
              refine ⟨false, pC, [], fun _ => 0, fun _ => 0, fun N c s g hN hC hs => ⟨fun e => (by cases e), fun _ => ?_⟩, fun N q bg m L hN hM hL h13 => ⟨fun e => (by cases e), fun _ => ?_⟩, fun e => (by cases e), C4⟩
              · obtain ⟨s', g', e⟩ := (C1 N c (s + csA.length) (app g s csA) hN hC (by omega)).2 rfl
                refine ⟨s', g', ?_⟩
                rw [hc4 N c s g hN hC hs, e, ob_e]; rfl
              · obtain ⟨v, p'', x, hv, e⟩ := (C2 N q bg m L hN hM hL).2 rfl
                refine ⟨p'', x, ?_⟩
                rw [hm4 N q bg m L hN hM hL, e, ob_e]
                unfold restM
                rw [part_stop (by omega) (by omega) hv, ob_e, cond_stop (by omega) (by omega) hv, ob_e, mo_takes2 (by omega), ob_e]; rfl
            | true =>
              obtain ⟨V1, V2, V3, V4⟩ := C3 rfl
              obtain ⟨ok, p', cs, cc, vv, R1, R2, R3, R4⟩ := rest_ok hX C4 fC V3
              have hcs : (csA ++ csC ++ cs).length = csA.length + csC.length + cs.length := by simp; omega
              have happ : ∀ (g : Nat → Int32) (s : Nat), app g s (csA ++ csC ++ cs) = app (app (app g s csA) (s + csA.length) csC) (s + csA.length + csC.length) cs := fun g s => by
                rw [app_app, app_app]
                simp only [List.length_append, Nat.add_assoc]
              refine ⟨ok, p', csA ++ csC ++ cs, cc, vv, fun N c s g hN hC hs => ⟨fun h => ?_, fun h => ?_⟩, fun N q bg m L hN hM hL h13 => ⟨fun h => ?_, fun h => ?_⟩, fun h => ?_, R4⟩
              · have e := (C1 N c (s + csA.length) (app g s csA) hN hC (by omega)).1 rfl
                have e2 := (R1 N c (s + csA.length + csC.length) (app (app g s csA) (s + csA.length) csC) hN hC (by omega)).1 h
                rw [hc4 N c s g hN hC hs, e, ob_e, e2, hcs, happ, show s + csA.length + csC.length + cs.length = s + (csA.length + csC.length + cs.length) by omega]
              · have e := (C1 N c (s + csA.length) (app g s csA) hN hC (by omega)).1 rfl
                obtain ⟨s', g', e2⟩ := (R1 N c (s + csA.length + csC.length) (app (app g s csA) (s + csA.length) csC) hN hC (by omega)).2 h
                exact ⟨s', g', by rw [hc4 N c s g hN hC hs, e, ob_e, e2]⟩
              · have e := (C2 N q bg m L hN hM hL).1 rfl
                rw [hm4 N q bg m L hN hM hL, e, ob_e]
                exact (R2 N q bg m L 38 39 hN hM hL (by omega) (by omega) h13).1 h
              · have e := (C2 N q bg m L hN hM hL).1 rfl
                rw [hm4 N q bg m L hN hM hL, e, ob_e]
                exact (R2 N q bg m L 38 39 hN hM hL (by omega) (by omega) h13).2 h
              · obtain ⟨r1, r2, r3⟩ := R3 h
                exact ⟨by omega, by rw [hcs]; omega, r3 (csA ++ csC) (V4 csA (EV_k B4 (by omega)))⟩
    · refine ⟨false, p2, [], fun _ => 0, fun _ => 0, fun N c s g hN hC hs => ⟨fun e => (by cases e), fun _ => ⟨s, g, ?_⟩⟩, fun N q bg m L hN hM hL h13 => ⟨fun e => (by cases e), fun _ => ⟨p2, nI 0, ?_⟩⟩, fun e => (by cases e), b2⟩
      · rw [hc1 N c s g hN hC, show (58 : Int32) = nI 58 from rfl, ta_accept hN hX hC (by omega) (by decide), hp2, if_neg hd, ob_e]; rfl
      · rw [hm1 N q bg m hN hM, show (58 : Int32) = nI 58 from rfl, mo_takes hN hX hM (by omega), hp2, if_neg hd, ob_e]; rfl
  · refine ⟨false, p1, [], fun _ => 0, fun _ => 0, fun N c s g hN hC hs => ⟨fun e => (by cases e), fun _ => ⟨s, g, ?_⟩⟩, fun N q bg m L hN hM hL h13 => ⟨fun e => (by cases e), fun _ => ⟨p1, nI 0, ?_⟩⟩, fun e => (by cases e), a2⟩
    · unfold f_Lr_readClause
      rw [show (121 : Int32) = nI 121 from rfl, ta_accept hN hX hC hp (by decide), hp1, if_neg hy, ob_e]; rfl
    · unfold f_Mo_clause
      rw [mo_look hN hX hM hp, hp1, ob_e, mo_among hN sc_2005, ob_e, sp_y, decide_eq_false (show ¬ sg n Y p1 = 121 from hy), if_pos (show bI false = 0 from rfl), mo_fails, ob_e]
