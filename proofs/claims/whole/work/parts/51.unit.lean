/-! ===== conditions, to their end ===== -/
theorem penO_0 : penO 0 = [] := rfl
theorem penO_1 : penO 1 = [-19] := by unfold penO; rw [if_neg (by decide)]
theorem lr_penO {N p s : Nat} {c : MM} {g : Nat → Int32} {wt : Int32} {K : MM → Option (Int32 × MM)} (hs : s + (penO wt).length ≤ 240) : (if wt = 0 then K (cQ c p s g) else ob (f_Lr_emit N (-19) (cQ c p s g)) fun t81 μ8z => (if t81 = 0 then (some (0, μ8z)) else K μ8z)) = K (cQ c p (s + (penO wt).length) (app g s (penO wt))) := by
  by_cases h : wt = 0
  · rw [if_pos h, h]; rfl
  · have h1 : penO wt = [-19] := by unfold penO; rw [if_neg h]
    rw [h1] at hs
    rw [if_neg h, lr_emit (by have : s + 1 ≤ 240 := hs; omega), ob_e, if_neg (by decide), h1]; rfl
def OOK (n : Nat) (Y : Nat → Nat) (w p : Nat) (wt : Int32) (f : (Nat → Int32) → Int32) (ok : Bool) (p' : Nat) (cs : List Int32) (f' : (Nat → Int32) → Int32) : Prop :=
  (∀ (N : Nat) (c : MM) (s : Nat) (g : Nat → Int32) (t fu i : Nat) (r1 : Int32 → MM → Option (Int32 × MM)), 15000 ≤ N → CT n Y c → s + (penO wt).length ≤ p → i ≤ p → n - p < fu → 2 * (6 - w) + 1 ≤ t → (ok = true → f_Lr_readMoreUnits_L4 N (f_cl_Lr_readUnit N t 0) r1 fu (nI w) wt (nI i) (cQ c p s g) = some (nI 1, cQ c p' (s + cs.length) (app g s cs))) ∧ (ok = false → ∃ s' g', f_Lr_readMoreUnits_L4 N (f_cl_Lr_readUnit N t 0) r1 fu (nI w) wt (nI i) (cQ c p s g) = some (nI 0, cQ c p' s' g'))) ∧
  (∀ (N q bg : Nat) (m : MM) (L : Nat → Int32) (t fu : Nat) (r0 : MM → Option (Int32 × MM)) (r2 : Int32 → Int32 → MM → Option (Int32 × MM)), 15000 ≤ N → MT n Y q bg m → LE m L → 3 * (6 - w) + 2 ≤ t → n - p < fu → (ok = true → f_Mo_condition_L7 N r0 (f_cl_Mo_unit N t 1) r2 fu (f L) (mQ m p (-nI 1) (nI w)) = some (f' L, mQ m p' (-nI 1) (nI w))) ∧ (ok = false → ∃ v p'' x, BV v ∧ f_Mo_condition_L7 N r0 (f_cl_Mo_unit N t 1) r2 fu (f L) (mQ m p (-nI 1) (nI w)) = some (v, mQ m p'' (nI p') x))) ∧
  (ok = true → p ≤ p' ∧ cs.length ≤ p' - p + (penO wt).length ∧ (∀ L, BV (f' L)) ∧ (∀ cs0, EV (cs0 ++ penO wt) f (6 + 2 * (6 - w)) → EV (cs0 ++ cs) f' (6 + 2 * (6 - w)))) ∧ p' ≤ n
theorem part_g {N t : Nat} {μ : MM} {a b : Int32} : f_cl_Mo_unit N (t + 1) 1 a b μ = f_Mo_part_body N (f_cl_Mo_unit N t 0 0 0) (f_cl_Mo_unit N t 1) (f_cl_Mo_unit N t 2) a b μ := by rw [f_cl_Mo_unit, if_neg (by decide), if_pos rfl]
theorem cond_g {N t : Nat} {μ : MM} {a b : Int32} : f_cl_Mo_unit N (t + 1) 2 a b μ = f_Mo_condition_body N (f_cl_Mo_unit N t 0 0 0) (f_cl_Mo_unit N t 1) (f_cl_Mo_unit N t 2) a b μ := by rw [f_cl_Mo_unit, if_neg (by decide), if_neg (by decide)]
theorem unit_g {N t : Nat} {μ : MM} {a b : Int32} : f_cl_Mo_unit N (t + 1) 0 a b μ = f_Mo_unit_body N (f_cl_Mo_unit N t 0 0 0) (f_cl_Mo_unit N t 1) (f_cl_Mo_unit N t 2) μ := by rw [f_cl_Mo_unit, if_pos rfl]
theorem unit_l {N t : Nat} {μ : MM} {a : Int32} : f_cl_Lr_readUnit N (t + 1) 0 a μ = f_Lr_readUnit_body N (f_cl_Lr_readUnit N t 0) (f_cl_Lr_readUnit N t 1) a μ := by rw [f_cl_Lr_readUnit, if_pos rfl]
theorem more_l {N t : Nat} {μ : MM} {a : Int32} : f_cl_Lr_readUnit N (t + 1) 1 a μ = f_Lr_readMoreUnits_body N (f_cl_Lr_readUnit N t 0) (f_cl_Lr_readUnit N t 1) a μ := by rw [f_cl_Lr_readUnit, if_neg (by decide)]
theorem part_stop {N fu pf p'' : Nat} {m : MM} {x v : Int32} {r0 : MM → Option (Int32 × MM)} {r1 r2 : Int32 → Int32 → MM → Option (Int32 × MM)} (hfu : 1 ≤ fu) (h : pf < 2 ^ 31) (hv : BV v) : f_Mo_part_L18 N r0 r1 r2 fu v (mQ m p'' (nI pf) x) = some (v, mQ m p'' (nI pf) x) := by
  obtain ⟨fu, rfl⟩ : ∃ z, fu = z + 1 := ⟨fu - 1, by omega⟩
  rw [f_Mo_part_L18, mQ_11, if_neg (nf h), gd_t (BV_z hv)]
theorem cond_stop {N fu pf p'' : Nat} {m : MM} {x v : Int32} {r0 : MM → Option (Int32 × MM)} {r1 r2 : Int32 → Int32 → MM → Option (Int32 × MM)} (hfu : 1 ≤ fu) (h : pf < 2 ^ 31) (hv : BV v) : f_Mo_condition_L7 N r0 r1 r2 fu v (mQ m p'' (nI pf) x) = some (v, mQ m p'' (nI pf) x) := by
  obtain ⟨fu, rfl⟩ : ∃ z, fu = z + 1 := ⟨fu - 1, by omega⟩
  rw [f_Mo_condition_L7, mQ_11, if_neg (nf h), gd_t (BV_z hv)]
theorem or_ok {n w : Nat} {Y : Nat → Nat} (hX : TX n Y) (hA : ∀ p, p ≤ n → ∃ ok p' cs f, UOK n Y w p ok p' cs f) : ∀ (k p : Nat) (f : (Nat → Int32) → Int32) (wt : Int32), p ≤ n → n - p ≤ k → (∀ L, BV (f L)) → sk n Y p = p → ¬ sg n Y p = 38 → ∃ ok p' cs f', OOK n Y w p wt f ok p' cs f' := by
  intro k
  have n9 := hX.1
  have hend : ∀ (p : Nat) (f : (Nat → Int32) → Int32) (wt : Int32), p ≤ n → (∀ L, BV (f L)) → sk n Y p = p → ¬ sg n Y p = 38 → ¬ sg n Y p = 124 → ∃ ok p' cs f', OOK n Y w p wt f ok p' cs f' := by
    intro p f wt hp hV hsk h38 h124
    refine ⟨true, p, penO wt, f, fun N c s g t fu i r1 hN hC hs hi hfu ht => ⟨fun _ => ?_, fun e => (by cases e)⟩, fun N q bg m L t fu r0 r2 hN hM hL ht hfu => ⟨fun _ => ?_, fun e => (by cases e)⟩, fun _ => ⟨Nat.le_refl _, by omega, hV, fun cs0 h => h⟩, hp⟩
    · obtain ⟨fu, rfl⟩ : ∃ z, fu = z + 1 := ⟨fu - 1, by omega⟩
      rw [f_Lr_readMoreUnits_L4, if_neg (show ¬ (240 : Int32) < nI i from fun z => by have := (nI_ltI (a := 240) (by omega) (by omega)).mp z; omega), ta_peek hN hX hC hp, hsk, ob_e, if_neg h38, if_neg h124]
      exact lr_penO (K := fun μ => some (1, μ)) (by omega)
    · obtain ⟨fu, rfl⟩ : ∃ z, fu = z + 1 := ⟨fu - 1, by omega⟩
      rw [f_Mo_condition_L7, mQ_11, if_pos m1e, mo_look hN hX hM hp, hsk, ob_e, if_neg h124, gd_t (BV_z (hV L))]
  induction k with
  | zero =>
    intro p f wt hp hk hV hsk h38
    have hsg : sg n Y p = -nI 1 := by rw [sg_m hX]; omega
    exact hend p f wt hp hV hsk h38 (by rw [hsg]; decide)
  | succ k ih =>
    intro p f wt hp hk hV hsk h38
    by_cases h124 : sg n Y p = 124
    · have hlt : p < n := (sg_lt (v := 124) hX (by decide) h124).1
      obtain ⟨okA, pA, csA, fA, A1, A2, A3, A4⟩ := hA (p + 1) (by omega)
      have hcl0 : ∀ (N : Nat) (c : MM) (s : Nat) (g : Nat → Int32) (r0 r1 : Int32 → MM → Option (Int32 × MM)) (fu i : Nat), 15000 ≤ N → CT n Y c → i ≤ n → s + (penO wt).length ≤ 240 → f_Lr_readMoreUnits_L4 N r0 r1 (fu + 1) (nI w) wt (nI i) (cQ c p s g) = f_Lr_readMoreUnits_B68 N r0 r1 (f_Lr_readMoreUnits_L4 N r0 r1 fu) (nI w) 1 (nI i) 124 (cQ c (p + 1) (s + (penO wt).length) (app g s (penO wt))) := fun N c s g r0 r1 fu i hN hC hi hs2 => by
        rw [f_Lr_readMoreUnits_L4, if_neg (show ¬ (240 : Int32) < nI i from fun z => by have := (nI_ltI (a := 240) (by omega) (by omega)).mp z; omega), ta_peek hN hX hC hp, hsk, ob_e, h124, if_neg (by decide), if_pos rfl]
        unfold f_Lr_readMoreUnits_B37
        rw [ta_step hX hC hlt, obv_e, if_pos rfl]
        exact lr_penO (K := fun μ => f_Lr_readMoreUnits_B66 N r0 r1 (f_Lr_readMoreUnits_L4 N r0 r1 fu) (nI w) (nI i) 124 μ) hs2
      have hmo0 : ∀ (N q bg : Nat) (m : MM) (v : Int32) (r0 : MM → Option (Int32 × MM)) (r1 r2 : Int32 → Int32 → MM → Option (Int32 × MM)) (fu : Nat), 15000 ≤ N → MT n Y q bg m → f_Mo_condition_L7 N r0 r1 r2 (fu + 1) v (mQ m p (-nI 1) (nI w)) = ob (r1 0 0 (mQ m (p + 1) (-nI 1) (nI w))) fun t37 μ4z => f_Mo_condition_L7 N r0 r1 r2 fu (if v = 0 then (if t37 = 0 then 0 else 1) else 1) μ4z := fun N q bg m v r0 r1 r2 fu hN hM => by
        rw [f_Mo_condition_L7, mQ_11, if_pos m1e, mo_look hN hX hM hp, hsk, ob_e, h124, if_pos rfl, wr_e, mQ_10, show nI p + 1 = nI (p + 1) from nI_add p 1, mQ_p]
        refine congrArg (ob _) (funext fun t37 => funext fun μ4z => ?_)
        by_cases h1 : v = 0
        · rw [if_pos h1, if_pos h1]
          by_cases h2 : t37 = 0
          · rw [if_pos h2, if_pos h2]
          · rw [if_neg h2, if_neg h2]
        · rw [if_neg h1, if_neg h1]
      have hb : ∀ a b : Int32, BV (if a = 0 then (if b = 0 then 0 else 1) else 1) := fun a b => by
        split
        · split
          · exact Or.inl rfl
          · exact Or.inr rfl
        · exact Or.inr rfl
      cases okA with
      | false =>
        refine ⟨false, pA, [], fun _ => 0, fun N c s g t fu i r1 hN hC hs hi hfu ht => ⟨fun e => (by cases e), fun _ => ?_⟩, fun N q bg m L t fu r0 r2 hN hM hL ht hfu => ⟨fun e => (by cases e), fun _ => ?_⟩, fun e => (by cases e), A4⟩
        · obtain ⟨fu, rfl⟩ : ∃ z, fu = z + 1 := ⟨fu - 1, by omega⟩
          obtain ⟨s', g', e⟩ := (A1 N c (s + (penO wt).length) (app g s (penO wt)) t hN hC (by omega) (by omega)).2 rfl
          refine ⟨s', g', ?_⟩
          rw [hcl0 N c s g _ _ fu i hN hC (by omega) (by omega)]
          unfold f_Lr_readMoreUnits_B68
          rw [e, ob_e]; rfl
        · obtain ⟨fu, rfl⟩ : ∃ z, fu = z + 1 := ⟨fu - 1, by omega⟩
          obtain ⟨t, rfl⟩ : ∃ z, t = z + 1 := ⟨t - 1, by omega⟩
          obtain ⟨v, p'', x, hv, e⟩ := (A2 N q bg m L t hN hM hL (by omega)).2 rfl
          rw [hmo0 N q bg m (f L) _ _ _ fu hN hM, part_g]
          unfold f_Mo_part_body
          rw [if_pos rfl, e, ob_e, part_stop (by omega) (by omega) hv, ob_e, cond_stop (by omega) (by omega) (hb _ _)]
          exact ⟨_, p'', x, hb _ _, rfl⟩
      | true =>
        obtain ⟨B1, B2, B3, B4⟩ := A3 rfl
        obtain ⟨okT, pT, csT, fT, e, T1, T2, T3, T4, T5⟩ := and_ok hX hA (n - pA) pA fA A4 (Nat.le_refl _) B3
        have hcl1 : ∀ (N : Nat) (c : MM) (s : Nat) (g : Nat → Int32) (t fu i : Nat) (r1 : Int32 → MM → Option (Int32 × MM)), 15000 ≤ N → CT n Y c → s + (penO wt).length ≤ p → i ≤ p → 2 * (6 - w) + 1 ≤ t → f_Lr_readMoreUnits_L4 N (f_cl_Lr_readUnit N t 0) r1 (fu + 1) (nI w) wt (nI i) (cQ c p s g) = f_Lr_readMoreUnits_L4 N (f_cl_Lr_readUnit N t 0) r1 fu (nI w) 1 (nI (i + 1)) (cQ c pA (s + (penO wt).length + csA.length) (app (app g s (penO wt)) (s + (penO wt).length) csA)) := fun N c s g t fu i r1 hN hC hs hi ht => by
          have e := (A1 N c (s + (penO wt).length) (app g s (penO wt)) t hN hC (by omega) (by omega)).1 rfl
          rw [hcl0 N c s g _ _ fu i hN hC (by omega) (by omega)]
          unfold f_Lr_readMoreUnits_B68
          rw [e, ob_e, if_neg (by decide), if_neg (by decide), show nI i + 1 = nI (i + 1) from nI_add i 1]
        cases okT with
        | false =>
          refine ⟨false, pT, [], fun _ => 0, fun N c s g t fu i r1 hN hC hs hi hfu ht => ⟨fun e => (by cases e), fun _ => ?_⟩, fun N q bg m L t fu r0 r2 hN hM hL ht hfu => ⟨fun e => (by cases e), fun _ => ?_⟩, fun e => (by cases e), T4⟩
          · obtain ⟨fu, rfl⟩ : ∃ z, fu = z + 1 + e + 1 := ⟨fu - 1 - e - 1, by omega⟩
            obtain ⟨s', g', e9⟩ := (T1 N c (s + (penO wt).length + csA.length) (app (app g s (penO wt)) (s + (penO wt).length) csA) t fu (i + 1) 1 r1 hN hC (by omega) (by omega) ht).2 rfl
            exact ⟨s', g', by rw [hcl1 N c s g t (fu + 1 + e) i r1 hN hC hs hi ht, e9]⟩
          · obtain ⟨fu, rfl⟩ : ∃ z, fu = z + 1 := ⟨fu - 1, by omega⟩
            obtain ⟨t, rfl⟩ : ∃ z, t = z + 1 := ⟨t - 1, by omega⟩
            have e1 := (A2 N q bg m L t hN hM hL (by omega)).1 rfl
            obtain ⟨v, p'', x, hv, e2⟩ := (T2 N q bg m L t N (f_cl_Mo_unit N t 1) (f_cl_Mo_unit N t 2) hN hM hL (by omega) (by omega)).2 rfl
            rw [hmo0 N q bg m (f L) _ _ _ fu hN hM, part_g]
            unfold f_Mo_part_body
            rw [if_pos rfl, e1, ob_e, e2, ob_e, cond_stop (by omega) (by omega) (hb _ _)]
            exact ⟨_, p'', x, hb _ _, rfl⟩
        | true =>
          obtain ⟨U1, U2, U3, U4, U5, U6, U7⟩ := T3 rfl
          obtain ⟨ok, p', cs, f', R1, R2, R3, R4⟩ := ih pT (fun L => jn (-19) (f L) (fT L)) 1 T4 (by omega) (fun L => (jn_or (hV L) (U4 L)).2) U6 U7
          have hpo : (penO 1).length = 1 := by rw [penO_1]; rfl
          have hcs : (penO wt ++ csA ++ csT ++ cs).length = (penO wt).length + csA.length + csT.length + cs.length := by simp; omega
          refine ⟨ok, p', penO wt ++ csA ++ csT ++ cs, f', fun N c s g t fu i r1 hN hC hs hi hfu ht => ?_, fun N q bg m L t fu r0 r2 hN hM hL ht hfu => ?_, fun hok => ?_, R4⟩
          · obtain ⟨fu, rfl⟩ : ∃ z, fu = z + 1 + e + 1 := ⟨fu - 1 - e - 1, by omega⟩
            have h1 := hcl1 N c s g t (fu + 1 + e) i r1 hN hC hs hi ht
            have h2 := (T1 N c (s + (penO wt).length + csA.length) (app (app g s (penO wt)) (s + (penO wt).length) csA) t fu (i + 1) 1 r1 hN hC (by omega) (by omega) ht).1 rfl
            obtain ⟨q1, q2⟩ := R1 N c (s + (penO wt).length + csA.length + csT.length) (app (app (app g s (penO wt)) (s + (penO wt).length) csA) (s + (penO wt).length + csA.length) csT) t (fu + 1) (i + 1 + e) r1 hN hC (by omega) (by omega) (by omega) ht
            have happ : app g s (penO wt ++ csA ++ csT ++ cs) = app (app (app (app g s (penO wt)) (s + (penO wt).length) csA) (s + (penO wt).length + csA.length) csT) (s + (penO wt).length + csA.length + csT.length) cs := by
              rw [app_app, app_app, app_app]
              simp only [List.length_append, Nat.add_assoc]
            refine ⟨fun h => ?_, fun h => ?_⟩
            · rw [h1, h2, q1 h, happ, hcs, show s + (penO wt).length + csA.length + csT.length + cs.length = s + ((penO wt).length + csA.length + csT.length + cs.length) by omega]
            · obtain ⟨s', g', e9⟩ := q2 h
              exact ⟨s', g', by rw [h1, h2, e9]⟩
          · obtain ⟨fu, rfl⟩ : ∃ z, fu = z + 1 := ⟨fu - 1, by omega⟩
            obtain ⟨t, rfl⟩ : ∃ z, t = z + 1 := ⟨t - 1, by omega⟩
            have e1 := (A2 N q bg m L t hN hM hL (by omega)).1 rfl
            have e2 := (T2 N q bg m L t N (f_cl_Mo_unit N t 1) (f_cl_Mo_unit N t 2) hN hM hL (by omega) (by omega)).1 rfl
            obtain ⟨q1, q2⟩ := R2 N q bg m L (t + 1) fu r0 r2 hN hM hL ht (by omega)
            rw [hmo0 N q bg m (f L) _ _ _ fu hN hM, part_g]
            unfold f_Mo_part_body
            rw [if_pos rfl, e1, ob_e, e2, ob_e, ← (jn_or (hV L) (U4 L)).1]
            exact ⟨q1, q2⟩
          · obtain ⟨q1, q2, q3, q4⟩ := R3 hok
            rw [hpo] at q2
            refine ⟨by omega, by rw [hcs]; omega, q3, fun cs0 h => ?_⟩
            have hEV := U5 csA (EV_k B4 (by omega))
            have := q4 (cs0 ++ penO wt ++ (csA ++ csT)) (by rw [penO_1]; exact EV_bin h hEV (Nat.le_refl _) (by omega) (by omega) (by unfold isB; decide))
            rw [show cs0 ++ (penO wt ++ csA ++ csT ++ cs) = cs0 ++ penO wt ++ (csA ++ csT) ++ cs by simp]
            exact this
    · exact hend p f wt hp hV hsk h38 h124
/-- what stands behind the first unit of a condition -/
def MOK (n : Nat) (Y : Nat → Nat) (w p : Nat) (f : (Nat → Int32) → Int32) (ok : Bool) (p' : Nat) (cs : List Int32) (f' : (Nat → Int32) → Int32) : Prop :=
  (∀ (N : Nat) (c : MM) (s : Nat) (g : Nat → Int32) (t : Nat), 15000 ≤ N → CT n Y c → s ≤ p → 2 * (6 - w) + 2 ≤ t → (ok = true → f_cl_Lr_readUnit N t 1 (nI w) (cQ c p s g) = some (nI 1, cQ c p' (s + cs.length) (app g s cs))) ∧ (ok = false → ∃ s' g', f_cl_Lr_readUnit N t 1 (nI w) (cQ c p s g) = some (nI 0, cQ c p' s' g'))) ∧
  (∀ (N q bg : Nat) (m : MM) (L : Nat → Int32) (t t2 : Nat) (r0 : MM → Option (Int32 × MM)) (r1 r2 r3 : Int32 → Int32 → MM → Option (Int32 × MM)), 15000 ≤ N → MT n Y q bg m → LE m L → 3 * (6 - w) + 1 ≤ t → 3 * (6 - w) + 2 ≤ t2 → (ok = true → ob (f_Mo_part_L18 N (f_cl_Mo_unit N t 0 0 0) r1 r2 N (f L) (mQ m p (-nI 1) (nI w))) (fun t3 μ1z => f_Mo_condition_L7 N r0 (f_cl_Mo_unit N t2 1) r3 N t3 μ1z) = some (f' L, mQ m p' (-nI 1) (nI w))) ∧ (ok = false → ∃ v p'' x, BV v ∧ ob (f_Mo_part_L18 N (f_cl_Mo_unit N t 0 0 0) r1 r2 N (f L) (mQ m p (-nI 1) (nI w))) (fun t3 μ1z => f_Mo_condition_L7 N r0 (f_cl_Mo_unit N t2 1) r3 N t3 μ1z) = some (v, mQ m p'' (nI p') x))) ∧
  (ok = true → p ≤ p' ∧ cs.length ≤ p' - p ∧ (∀ L, BV (f' L)) ∧ (∀ cs0, EV cs0 f (5 + 2 * (6 - w)) → EV (cs0 ++ cs) f' (6 + 2 * (6 - w)))) ∧ p' ≤ n
theorem more_ok {n w : Nat} {Y : Nat → Nat} (hX : TX n Y) (hA : ∀ p, p ≤ n → ∃ ok p' cs f, UOK n Y w p ok p' cs f) {p : Nat} {f : (Nat → Int32) → Int32} (hp : p ≤ n) (hV : ∀ L, BV (f L)) : ∃ ok p' cs f', MOK n Y w p f ok p' cs f' := by
  have n9 := hX.1
  obtain ⟨okT, pT, csT, fT, e, T1, T2, T3, T4, T5⟩ := and_ok hX hA (n - p) p f hp (Nat.le_refl _) hV
  cases okT with
  | false =>
    refine ⟨false, pT, [], fun _ => 0, fun N c s g t hN hC hs ht => ⟨fun e => (by cases e), fun _ => ?_⟩, fun N q bg m L t t2 r0 r1 r2 r3 hN hM hL ht ht2 => ⟨fun e => (by cases e), fun _ => ?_⟩, fun e => (by cases e), T4⟩
    · obtain ⟨t, rfl⟩ : ∃ z, t = z + 1 := ⟨t - 1, by omega⟩
      obtain ⟨N1, hN1⟩ : ∃ z, N = z + 1 + e := ⟨N - 1 - e, by omega⟩
      obtain ⟨s', g', e2⟩ := (T1 N c s g t N1 0 0 (f_cl_Lr_readUnit N t 1) hN hC (by omega) (by omega) (by omega)).2 rfl
      rw [← hN1] at e2
      refine ⟨s', g', ?_⟩
      rw [more_l]
      exact e2
    · obtain ⟨v, p'', x, hv, e2⟩ := (T2 N q bg m L t N r1 r2 hN hM hL (by omega) (by omega)).2 rfl
      rw [e2, ob_e, cond_stop (by omega) (by omega) hv]
      exact ⟨v, p'', x, hv, rfl⟩
  | true =>
    obtain ⟨U1, U2, U3, U4, U5, U6, U7⟩ := T3 rfl
    obtain ⟨ok, p', cs, f', R1, R2, R3, R4⟩ := or_ok hX hA (n - pT) pT fT 0 T4 (Nat.le_refl _) U4 U6 U7
    have hcs : (csT ++ cs).length = csT.length + cs.length := by simp
    refine ⟨ok, p', csT ++ cs, f', fun N c s g t hN hC hs ht => ?_, fun N q bg m L t t2 r0 r1 r2 r3 hN hM hL ht ht2 => ?_, fun hok => ?_, R4⟩
    · obtain ⟨t, rfl⟩ : ∃ z, t = z + 1 := ⟨t - 1, by omega⟩
      obtain ⟨N1, hN1⟩ : ∃ z, N = z + 1 + e := ⟨N - 1 - e, by omega⟩
      have e2 := (T1 N c s g t N1 0 0 (f_cl_Lr_readUnit N t 1) hN hC (by omega) (by omega) (by omega)).1 rfl
      rw [← hN1, Nat.zero_add] at e2
      obtain ⟨q1, q2⟩ := R1 N c (s + csT.length) (app g s csT) t (N1 + 1) e (f_cl_Lr_readUnit N t 1) hN hC (by show s + csT.length + 0 ≤ pT; omega) (by omega) (by omega) (by omega)
      have h0 : f_cl_Lr_readUnit N (t + 1) 1 (nI w) (cQ c p s g) = f_Lr_readMoreUnits_L4 N (f_cl_Lr_readUnit N t 0) (f_cl_Lr_readUnit N t 1) (N1 + 1) (nI w) 0 (nI e) (cQ c pT (s + csT.length) (app g s csT)) := by
        rw [more_l]; exact e2
      refine ⟨fun h => ?_, fun h => ?_⟩
      · rw [h0, q1 h, hcs, app_app, Nat.add_assoc]
      · obtain ⟨s', g', e9⟩ := q2 h
        exact ⟨s', g', by rw [h0, e9]⟩
    · have e2 := (T2 N q bg m L t N r1 r2 hN hM hL (by omega) (by omega)).1 rfl
      obtain ⟨q1, q2⟩ := R2 N q bg m L t2 N r0 r3 hN hM hL ht2 (by omega)
      rw [e2, ob_e]
      exact ⟨q1, q2⟩
    · obtain ⟨q1, q2, q3, q4⟩ := R3 hok
      rw [penO_0] at q2 q4
      have q2' : cs.length ≤ p' - pT := q2
      refine ⟨by omega, by rw [hcs]; omega, q3, fun cs0 h => ?_⟩
      have := q4 (cs0 ++ csT) (by rw [List.append_nil]; exact EV_k (U5 cs0 h) (by omega))
      rw [← List.append_assoc]; exact this
