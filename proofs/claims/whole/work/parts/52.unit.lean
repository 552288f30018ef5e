/-! ===== units ===== -/
theorem ob_a {α β γ : Type} (x : Option (α × MM)) (k : α → MM → Option (β × MM)) (l : β → MM → Option γ) : ob (ob x k) l = ob x fun a μ => ob (k a μ) l := by
  cases x with
  | none => rfl
  | some v => rfl
theorem goes_in {N w p : Nat} {m : MM} (hw : w < 6) : f_Mo_goesIn N (mQ m p (-nI 1) (nI w)) = some (1, mQ m (p + 1) (-nI 1) (nI (w + 1))) := by
  unfold f_Mo_goesIn
  rw [mQ_12, if_neg (show ¬ nI w = 6 from fun z => by have := (nI_eq (b := 6) (by omega) (by decide)).mp z; omega), wr_e, show nI w + 1 = nI (w + 1) from nI_add w 1, mQ_d, mQ_10, wr_e, show nI p + 1 = nI (p + 1) from nI_add p 1, mQ_p]
theorem goes_6 {N p : Nat} {m : MM} : f_Mo_goesIn N (mQ m p (-nI 1) (nI 6)) = some (0, mQ m p (nI p) (nI 6)) := by
  unfold f_Mo_goesIn
  rw [mQ_12, if_pos (show nI 6 = 6 from rfl), mo_fails, ob_e, gd_t (by decide)]; rfl
theorem d_out {w p : Nat} {m : MM} {f : Int32} : mm_I (mQ m p f (nI (w + 1))) 355 12 ((mQ m p f (nI (w + 1))).1 355 12 - 1) = mQ m p f (nI w) := by
  rw [mQ_12, show nI (w + 1) - 1 = nI w from pk_sub (a := w + 1) (b := 1) (by omega), mQ_d]
theorem not_v {x : Int32} (h : BV x) : (if x = 0 then (1 : Int32) else 0) = 1 - x ∧ BV (1 - x) := by
  rcases h with rfl | rfl <;> (unfold BV; decide)
theorem unit_of {n w p : Nat} {Y : Nat → Nat} (hX : TX n Y) (hw : w ≤ 6) (hp : p ≤ n) (hU : w < 6 → ∀ p1, p1 ≤ n → ∃ ok p' cs f, UOK n Y (w + 1) p1 ok p' cs f) : ∃ ok p' cs f, UOK n Y w p ok p' cs f := by
  have n9 := hX.1
  obtain ⟨s1, s2, s3⟩ := sk_p (Y := Y) hp
  generalize hp0 : sk n Y p = p0 at s1 s2 s3
  by_cases hbr : sg n Y p0 = 33 ∨ sg n Y p0 = 40
  · have hlt : p0 < n := by
      rcases hbr with h | h
      · exact (sg_lt (v := 33) hX (by decide) h).1
      · exact (sg_lt (v := 40) hX (by decide) h).1
    have hcl0 : ∀ (N : Nat) (c : MM) (s : Nat) (g : Nat → Int32) (t : Nat), 15000 ≤ N → CT n Y c → f_cl_Lr_readUnit N (t + 1) 0 (nI w) (cQ c p s g) = f_Lr_readUnit_B42 N (f_cl_Lr_readUnit N t 0) (f_cl_Lr_readUnit N t 1) (nI w) (sg n Y p0) (cQ c p0 s g) := fun N c s g t hN hC => by
      rw [unit_l]
      unfold f_Lr_readUnit_body
      rw [ta_peek hN hX hC hp, hp0, ob_e]
      by_cases h : sg n Y p0 = 33
      · rw [if_pos h]
      · rw [if_neg h, if_pos (hbr.resolve_left h)]
    by_cases hw6 : w < 6
    · obtain ⟨okA, pA, csA, fA, A1, A2, A3, A4⟩ := hU hw6 (p0 + 1) (by omega)
      have hcl1 : ∀ (N : Nat) (c : MM) (s : Nat) (g : Nat → Int32) (x2 : Int32) (r0 r1 : Int32 → MM → Option (Int32 × MM)), CT n Y c → f_Lr_readUnit_B42 N r0 r1 (nI w) x2 (cQ c p0 s g) = (if x2 = 33 then (ob (r0 (nI (w + 1)) (cQ c (p0 + 1) s g)) fun t67 μ6z => (if t67 = 0 then (some (0, μ6z)) else (ob (f_Lr_emit N (-20) μ6z) fun t76 μ7z => (if t76 = 0 then (some (0, μ7z)) else (some (1, μ7z)))))) else (ob (r0 (nI (w + 1)) (cQ c (p0 + 1) s g)) fun t92 μ3z => (if t92 = 0 then (some (0, μ3z)) else (ob (r1 (nI (w + 1)) μ3z) fun t102 μ4z => (if t102 = 0 then (some (0, μ4z)) else (ob (f_Ta_accept N 41 μ4z) fun t114 μ5z => (if t114 = 0 then (some (0, μ5z)) else (some (1, μ5z))))))))) := fun N c s g x2 r0 r1 hC => by
        unfold f_Lr_readUnit_B42
        rw [if_pos (show nI w < 6 from (nI_ltI (b := 6) (by omega) (by decide)).mpr hw6), ta_step hX hC hlt, obv_e, show nI w + 1 = nI (w + 1) from nI_add w 1]
      by_cases h33 : sg n Y p0 = 33
      · -- a not
        have hmo0 : ∀ (N q bg : Nat) (m : MM) (t : Nat), 15000 ≤ N → MT n Y q bg m → f_cl_Mo_unit N (t + 1) 0 0 0 (mQ m p (-nI 1) (nI w)) = (ob (f_cl_Mo_unit N t 0 0 0 (mQ m (p0 + 1) (-nI 1) (nI (w + 1)))) fun t21 μ8z => (wr (mm_I μ8z 355 12 ((μ8z.1 355 12) - 1)) fun μ9z => (gd (zb (if t21 = 0 then (1 : Int32) else 0)) (some ((if t21 = 0 then (1 : Int32) else 0), μ9z))))) := fun N q bg m t hN hM => by
          rw [unit_g]
          unfold f_Mo_unit_body
          rw [mo_look hN hX hM hp, hp0, ob_e, h33, if_pos rfl, goes_in hw6, ob_e, if_neg (by decide)]
        cases okA with
        | false =>
          refine ⟨false, pA, [], fun _ => 0, fun N c s g t hN hC hs ht => ⟨fun e => (by cases e), fun _ => ?_⟩, fun N q bg m L t hN hM hL ht => ⟨fun e => (by cases e), fun _ => ?_⟩, fun e => (by cases e), A4⟩
          · obtain ⟨t, rfl⟩ : ∃ z, t = z + 1 := ⟨t - 1, by omega⟩
            obtain ⟨s', g', e⟩ := (A1 N c s g t hN hC (by omega) (by omega)).2 rfl
            refine ⟨s', g', ?_⟩
            rw [hcl0 N c s g t hN hC, hcl1 N c s g _ _ _ hC, if_pos h33, e, ob_e]; rfl
          · obtain ⟨t, rfl⟩ : ∃ z, t = z + 1 := ⟨t - 1, by omega⟩
            obtain ⟨v, p'', x, hv, e⟩ := (A2 N q bg m L t hN hM hL (by omega)).2 rfl
            have hb := (not_v hv).2
            rw [hmo0 N q bg m t hN hM, e, ob_e, wr_e, (not_v hv).1, gd_t (BV_z hb), mQ_d]
            exact ⟨_, _, _, hb, rfl⟩
        | true =>
          obtain ⟨B1, B2, B3, B4⟩ := A3 rfl
          have hcs : (csA ++ [-20]).length = csA.length + 1 := by simp
          refine ⟨true, pA, csA ++ [-20], fun L => 1 - fA L, fun N c s g t hN hC hs ht => ⟨fun _ => ?_, fun e => (by cases e)⟩, fun N q bg m L t hN hM hL ht => ⟨fun _ => ?_, fun e => (by cases e)⟩, fun _ => ⟨by omega, by rw [hcs]; omega, fun L => (not_v (B3 L)).2, EV_k (EV_no B4 (by omega)) (by omega)⟩, A4⟩
          · obtain ⟨t, rfl⟩ : ∃ z, t = z + 1 := ⟨t - 1, by omega⟩
            have e := (A1 N c s g t hN hC (by omega) (by omega)).1 rfl
            rw [hcl0 N c s g t hN hC, hcl1 N c s g _ _ _ hC, if_pos h33, e, ob_e, if_neg (by decide), lr_emit (by omega), ob_e, if_neg (by decide), hcs, app_app]; rfl
          · obtain ⟨t, rfl⟩ : ∃ z, t = z + 1 := ⟨t - 1, by omega⟩
            have e := (A2 N q bg m L t hN hM hL (by omega)).1 rfl
            rw [hmo0 N q bg m t hN hM, e, ob_e, wr_e, (not_v (B3 L)).1, gd_t (BV_z (not_v (B3 L)).2), d_out]
      · -- a bracket
        have h40 := hbr.resolve_left h33
        have hmo0 : ∀ (N q bg : Nat) (m : MM) (t : Nat), 15000 ≤ N → MT n Y q bg m → f_cl_Mo_unit N (t + 3) 0 0 0 (mQ m p (-nI 1) (nI w)) = (ob (ob (f_cl_Mo_unit N t 0 0 0 (mQ m (p0 + 1) (-nI 1) (nI (w + 1)))) fun t14 μ1z => (ob (f_Mo_part_L18 N (f_cl_Mo_unit N t 0 0 0) (f_cl_Mo_unit N t 1) (f_cl_Mo_unit N t 2) N t14 μ1z) fun t3 μ1z => f_Mo_condition_L7 N (f_cl_Mo_unit N (t + 1) 0 0 0) (f_cl_Mo_unit N (t + 1) 1) (f_cl_Mo_unit N (t + 1) 2) N t3 μ1z)) fun t63 μ4z => (ob (f_Mo_takes N 41 μ4z) fun t70 μ5z => (if t70 = 0 then (some (0, μ5z)) else (wr (mm_I μ5z 355 12 ((μ5z.1 355 12) - 1)) fun μ6z => (gd (zb t63) (some (t63, μ6z))))))) := fun N q bg m t hN hM => by
          rw [show t + 3 = t + 2 + 1 by omega, unit_g]
          unfold f_Mo_unit_body
          rw [mo_look hN hX hM hp, hp0, ob_e, if_neg h33, if_pos h40, goes_in hw6, ob_e, if_neg (by decide), show t + 2 = t + 1 + 1 by omega, cond_g]
          unfold f_Mo_condition_body
          rw [part_g]
          unfold f_Mo_part_body
          rw [if_pos rfl, ob_a (f_cl_Mo_unit N t 0 0 0 (mQ m (p0 + 1) (-nI 1) (nI (w + 1))))]
        cases okA with
        | false =>
          refine ⟨false, pA, [], fun _ => 0, fun N c s g t hN hC hs ht => ⟨fun e => (by cases e), fun _ => ?_⟩, fun N q bg m L t hN hM hL ht => ⟨fun e => (by cases e), fun _ => ?_⟩, fun e => (by cases e), A4⟩
          · obtain ⟨t, rfl⟩ : ∃ z, t = z + 1 := ⟨t - 1, by omega⟩
            obtain ⟨s', g', e⟩ := (A1 N c s g t hN hC (by omega) (by omega)).2 rfl
            refine ⟨s', g', ?_⟩
            rw [hcl0 N c s g t hN hC, hcl1 N c s g _ _ _ hC, if_neg h33, e, ob_e]; rfl
          · obtain ⟨t, rfl⟩ : ∃ z, t = z + 3 := ⟨t - 3, by omega⟩
            obtain ⟨v, p'', x, hv, e⟩ := (A2 N q bg m L t hN hM hL (by omega)).2 rfl
            refine ⟨0, p'', x, Or.inl rfl, ?_⟩
            rw [hmo0 N q bg m t hN hM, e, ob_e, part_stop (by omega) (by omega) hv, ob_e, cond_stop (by omega) (by omega) hv, ob_e, mo_takes2 (by omega), ob_e]; rfl
        | true =>
          obtain ⟨B1, B2, B3, B4⟩ := A3 rfl
          obtain ⟨okM, pM, csM, fM, M1, M2, M3, M4⟩ := more_ok hX (hU hw6) A4 B3
          cases okM with
          | false =>
            refine ⟨false, pM, [], fun _ => 0, fun N c s g t hN hC hs ht => ⟨fun e => (by cases e), fun _ => ?_⟩, fun N q bg m L t hN hM hL ht => ⟨fun e => (by cases e), fun _ => ?_⟩, fun e => (by cases e), M4⟩
            · obtain ⟨t, rfl⟩ : ∃ z, t = z + 1 := ⟨t - 1, by omega⟩
              have e := (A1 N c s g t hN hC (by omega) (by omega)).1 rfl
              obtain ⟨s', g', e2⟩ := (M1 N c (s + csA.length) (app g s csA) t hN hC (by omega) (by omega)).2 rfl
              refine ⟨s', g', ?_⟩
              rw [hcl0 N c s g t hN hC, hcl1 N c s g _ _ _ hC, if_neg h33, e, ob_e, if_neg (by decide), e2, ob_e]; rfl
            · obtain ⟨t, rfl⟩ : ∃ z, t = z + 3 := ⟨t - 3, by omega⟩
              have e := (A2 N q bg m L t hN hM hL (by omega)).1 rfl
              obtain ⟨v, p'', x, hv, e2⟩ := (M2 N q bg m L t (t + 1) (f_cl_Mo_unit N (t + 1) 0 0 0) (f_cl_Mo_unit N t 1) (f_cl_Mo_unit N t 2) (f_cl_Mo_unit N (t + 1) 2) hN hM hL (by omega) (by omega)).2 rfl
              refine ⟨0, p'', x, Or.inl rfl, ?_⟩
              rw [hmo0 N q bg m t hN hM, e, ob_e, e2, ob_e, mo_takes2 (by omega), ob_e]; rfl
          | true =>
            obtain ⟨D1, D2, D3, D4⟩ := M3 rfl
            obtain ⟨z1, z2, z3⟩ := sk_p (Y := Y) M4
            have hcs : (csA ++ csM).length = csA.length + csM.length := by simp
            by_cases hcl : sg n Y (sk n Y pM) = nI 41
            · have hl1 := (sg_lt hX (by decide) hcl).1
              refine ⟨true, sk n Y pM + 1, csA ++ csM, fM, fun N c s g t hN hC hs ht => ⟨fun _ => ?_, fun e => (by cases e)⟩, fun N q bg m L t hN hM hL ht => ⟨fun _ => ?_, fun e => (by cases e)⟩, fun _ => ⟨by omega, by rw [hcs]; omega, D3, EV_k (D4 csA (EV_k B4 (by omega))) (by omega)⟩, by omega⟩
              · obtain ⟨t, rfl⟩ : ∃ z, t = z + 1 := ⟨t - 1, by omega⟩
                have e := (A1 N c s g t hN hC (by omega) (by omega)).1 rfl
                have e2 := (M1 N c (s + csA.length) (app g s csA) t hN hC (by omega) (by omega)).1 rfl
                rw [hcl0 N c s g t hN hC, hcl1 N c s g _ _ _ hC, if_neg h33, e, ob_e, if_neg (by decide), e2, ob_e, if_neg (by decide), show (41 : Int32) = nI 41 from rfl, ta_accept hN hX hC M4 (by decide), if_pos hcl, ob_e, if_neg (by decide), hcs, app_app, Nat.add_assoc]; rfl
              · obtain ⟨t, rfl⟩ : ∃ z, t = z + 3 := ⟨t - 3, by omega⟩
                have e := (A2 N q bg m L t hN hM hL (by omega)).1 rfl
                have e2 := (M2 N q bg m L t (t + 1) (f_cl_Mo_unit N (t + 1) 0 0 0) (f_cl_Mo_unit N t 1) (f_cl_Mo_unit N t 2) (f_cl_Mo_unit N (t + 1) 2) hN hM hL (by omega) (by omega)).1 rfl
                rw [hmo0 N q bg m t hN hM, e, ob_e, e2, ob_e, show (41 : Int32) = nI 41 from rfl, mo_takes hN hX hM M4, if_pos hcl, ob_e, if_neg (by decide), wr_e, d_out, gd_t (BV_z (D3 L))]
            · refine ⟨false, sk n Y pM, [], fun _ => 0, fun N c s g t hN hC hs ht => ⟨fun e => (by cases e), fun _ => ⟨s + csA.length + csM.length, app (app g s csA) (s + csA.length) csM, ?_⟩⟩, fun N q bg m L t hN hM hL ht => ⟨fun e => (by cases e), fun _ => ⟨0, sk n Y pM, nI (w + 1), Or.inl rfl, ?_⟩⟩, fun e => (by cases e), z2⟩
              · obtain ⟨t, rfl⟩ : ∃ z, t = z + 1 := ⟨t - 1, by omega⟩
                have e := (A1 N c s g t hN hC (by omega) (by omega)).1 rfl
                have e2 := (M1 N c (s + csA.length) (app g s csA) t hN hC (by omega) (by omega)).1 rfl
                rw [hcl0 N c s g t hN hC, hcl1 N c s g _ _ _ hC, if_neg h33, e, ob_e, if_neg (by decide), e2, ob_e, if_neg (by decide), show (41 : Int32) = nI 41 from rfl, ta_accept hN hX hC M4 (by decide), if_neg hcl, ob_e]; rfl
              · obtain ⟨t, rfl⟩ : ∃ z, t = z + 3 := ⟨t - 3, by omega⟩
                have e := (A2 N q bg m L t hN hM hL (by omega)).1 rfl
                have e2 := (M2 N q bg m L t (t + 1) (f_cl_Mo_unit N (t + 1) 0 0 0) (f_cl_Mo_unit N t 1) (f_cl_Mo_unit N t 2) (f_cl_Mo_unit N (t + 1) 2) hN hM hL (by omega) (by omega)).1 rfl
                rw [hmo0 N q bg m t hN hM, e, ob_e, e2, ob_e, show (41 : Int32) = nI 41 from rfl, mo_takes hN hX hM M4, if_neg hcl, ob_e]; rfl
    · have hw' : w = 6 := by omega
      subst hw'
      refine ⟨false, p0, [], fun _ => 0, fun N c s g t hN hC hs ht => ⟨fun e => (by cases e), fun _ => ⟨s, g, ?_⟩⟩, fun N q bg m L t hN hM hL ht => ⟨fun e => (by cases e), fun _ => ⟨0, p0, nI 6, Or.inl rfl, ?_⟩⟩, fun e => (by cases e), s2⟩
      · obtain ⟨t, rfl⟩ : ∃ z, t = z + 1 := ⟨t - 1, by omega⟩
        rw [hcl0 N c s g t hN hC]
        unfold f_Lr_readUnit_B42
        rw [if_neg (by decide)]; rfl
      · obtain ⟨t, rfl⟩ : ∃ z, t = z + 1 := ⟨t - 1, by omega⟩
        rw [unit_g]
        unfold f_Mo_unit_body
        rw [mo_look hN hX hM hp, hp0, ob_e]
        by_cases h : sg n Y p0 = 33
        · rw [if_pos h, goes_6, ob_e, if_pos rfl]
        · rw [if_neg h, if_pos (hbr.resolve_left h), goes_6, ob_e, if_pos rfl]
  · -- a comparison
    have h33 : ¬ sg n Y p0 = 33 := fun h => hbr (Or.inl h)
    have h40 : ¬ sg n Y p0 = 40 := fun h => hbr (Or.inr h)
    obtain ⟨okA, pA, csA, fA, A1, A2, A3, A4⟩ := sum_ok hX (6 - w) w (by omega) p0 s2
    have hcl0 : ∀ (N : Nat) (c : MM) (s : Nat) (g : Nat → Int32) (t : Nat), 15000 ≤ N → CT n Y c → f_cl_Lr_readUnit N (t + 1) 0 (nI w) (cQ c p s g) = (ob (f_cl_Lr_readSum N 40 0 (nI w) (cQ c p0 s g)) fun t22 μ8z => (if t22 = 0 then (some (0, μ8z)) else (ob (f_Lr_readComparison N (nI w) μ8z) fun t30 μ9z => (if t30 = 0 then (some (0, μ9z)) else (some (1, μ9z)))))) := fun N c s g t hN hC => by
      rw [unit_l]
      unfold f_Lr_readUnit_body
      rw [ta_peek hN hX hC hp, hp0, ob_e, if_neg h33, if_neg h40]; rfl
    have hmo0 : ∀ (N q bg : Nat) (m : MM) (t : Nat), 15000 ≤ N → MT n Y q bg m → f_cl_Mo_unit N (t + 1) 0 0 0 (mQ m p (-nI 1) (nI w)) = (ob (ob (f_cl_Mo_atom N 40 2 () (mQ m p0 (-nI 1) (nI w))) fun t9 μ1z => (f_Mo_compares_B12 N t9 μ1z)) fun t93 μ2z => (gd (zb t93) (some (t93, μ2z)))) := fun N q bg m t hN hM => by
      rw [unit_g]
      unfold f_Mo_unit_body f_Mo_compares
      rw [mo_look hN hX hM hp, hp0, ob_e, if_neg h33, if_neg h40, if_pos rfl]; rfl
    cases okA with
    | false =>
      refine ⟨false, pA, [], fun _ => 0, fun N c s g t hN hC hs ht => ⟨fun e => (by cases e), fun _ => ?_⟩, fun N q bg m L t hN hM hL ht => ⟨fun e => (by cases e), fun _ => ?_⟩, fun e => (by cases e), A4⟩
      · obtain ⟨t, rfl⟩ : ∃ z, t = z + 1 := ⟨t - 1, by omega⟩
        obtain ⟨s', g', e⟩ := (A1 N c s g 40 hN hC (by omega) (by omega)).2 rfl
        refine ⟨s', g', ?_⟩
        rw [hcl0 N c s g t hN hC, e, ob_e]; rfl
      · obtain ⟨t, rfl⟩ : ∃ z, t = z + 1 := ⟨t - 1, by omega⟩
        obtain ⟨v, p'', x, e⟩ := (A2 N q bg m L 40 hN hM hL (by omega)).2 rfl
        refine ⟨0, p'', x, Or.inl rfl, ?_⟩
        rw [hmo0 N q bg m t hN hM, e, ob_e]
        unfold f_Mo_compares_B12
        rw [mQ_11, if_neg (nf (by omega)), ob_e, gd_t (by decide)]
    | true =>
      obtain ⟨B1, B2, B3, B4⟩ := A3 rfl
      obtain ⟨ok, p', cs, f', C1, C2, C3, C4⟩ := cmp_ok hX hw A4 fA
      have hcs : (csA ++ cs).length = csA.length + cs.length := by simp
      refine ⟨ok, p', csA ++ cs, f', fun N c s g t hN hC hs ht => ⟨fun h => ?_, fun h => ?_⟩, fun N q bg m L t hN hM hL ht => ⟨fun h => ?_, fun h => ?_⟩, fun h => ?_, C4⟩
      · obtain ⟨t, rfl⟩ : ∃ z, t = z + 1 := ⟨t - 1, by omega⟩
        have e := (A1 N c s g 40 hN hC (by omega) (by omega)).1 rfl
        have e2 := (C1 N c (s + csA.length) (app g s csA) hN hC (by omega)).1 h
        rw [hcl0 N c s g t hN hC, e, ob_e, if_neg (by decide), e2, ob_e, if_neg (by decide), hcs, app_app, Nat.add_assoc]; rfl
      · obtain ⟨t, rfl⟩ : ∃ z, t = z + 1 := ⟨t - 1, by omega⟩
        have e := (A1 N c s g 40 hN hC (by omega) (by omega)).1 rfl
        obtain ⟨s', g', e2⟩ := (C1 N c (s + csA.length) (app g s csA) hN hC (by omega)).2 h
        refine ⟨s', g', ?_⟩
        rw [hcl0 N c s g t hN hC, e, ob_e, if_neg (by decide), e2, ob_e]; rfl
      · obtain ⟨t, rfl⟩ : ∃ z, t = z + 1 := ⟨t - 1, by omega⟩
        have e := (A2 N q bg m L 40 hN hM hL (by omega)).1 rfl
        have e2 := (C2 N q bg m L hN hM hL).1 h
        rw [hmo0 N q bg m t hN hM, e, ob_e, e2, ob_e, gd_t (BV_z ((C3 h).2.2.1 L))]
      · obtain ⟨t, rfl⟩ : ∃ z, t = z + 1 := ⟨t - 1, by omega⟩
        have e := (A2 N q bg m L 40 hN hM hL (by omega)).1 rfl
        obtain ⟨v, p'', x, hv, e2⟩ := (C2 N q bg m L hN hM hL).2 h
        refine ⟨v, p'', x, hv, ?_⟩
        rw [hmo0 N q bg m t hN hM, e, ob_e, e2, ob_e, gd_t (BV_z hv)]
      · obtain ⟨c1, c2, c3, c4⟩ := C3 h
        exact ⟨by omega, by rw [hcs]; omega, c3, c4 csA (EV_k B4 (by omega))⟩
theorem unit_ok {n : Nat} {Y : Nat → Nat} (hX : TX n Y) : ∀ (e w : Nat), w + e = 6 → ∀ p, p ≤ n → ∃ ok p' cs f, UOK n Y w p ok p' cs f := by
  intro e
  induction e with
  | zero => exact fun w hw p hp => unit_of hX (by omega) hp (fun h => absurd h (by omega))
  | succ e ih => exact fun w hw p hp => unit_of hX (by omega) hp (fun _ p1 hp1 => ih (w + 1) (by omega) p1 hp1)
