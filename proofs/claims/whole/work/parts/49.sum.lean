/-! ===== sums, to their end ===== -/
theorem pend_0 : pend 0 = [] := rfl
theorem pend_1 {o : Int32} (h : ¬ o = 0) : pend o = [o] := by unfold pend; rw [if_neg h]
/-- what waits is emitted -/
theorem lr_pend {N p s : Nat} {c : MM} {g : Nat → Int32} {wt : Int32} {K : MM → Option (Int32 × MM)} (hs : s + (pend wt).length ≤ 240) : (if wt = 0 then K (cQ c p s g) else ob (f_Lr_emit N wt (cQ c p s g)) fun t81 μ8z => (if t81 = 0 then (some (0, μ8z)) else K μ8z)) = K (cQ c p (s + (pend wt).length) (app g s (pend wt))) := by
  by_cases h : wt = 0
  · rw [if_pos h, h]; rfl
  · rw [pend_1 h] at hs
    rw [if_neg h, lr_emit (by have : s + 1 ≤ 240 := hs; omega), ob_e, if_neg (by decide), pend_1 h]; rfl
theorem tail_ok {n w : Nat} {Y : Nat → Nat} (hX : TX n Y) (hA : ∀ p, p ≤ n → ∃ ok p' cs f, AOK n Y w p ok p' cs f) : ∀ (k p : Nat) (f : (Nat → Int32) → Int32) (wt : Int32), p ≤ n → n - p ≤ k → (∀ L, LO L → VB (f L)) → sk n Y p = p → ¬ sg n Y p = 42 → ¬ sg n Y p = 47 → ∃ (ok : Bool) (p' : Nat) (cs : List Int32) (f' : (Nat → Int32) → Int32),
    (∀ (N : Nat) (c : MM) (s : Nat) (g : Nat → Int32) (t fu i : Nat), 15000 ≤ N → CT n Y c → s + (pend wt).length ≤ p → i ≤ p → n - p < fu → 2 * (6 - w) + 1 ≤ t → (ok = true → f_Lr_readSum_L14 N (f_cl_Lr_readSum N t 0) (f_cl_Lr_readSum N t 1) fu (nI w) wt (nI i) (cQ c p s g) = some (nI 1, cQ c p' (s + cs.length) (app g s cs))) ∧ (ok = false → ∃ s' g', f_Lr_readSum_L14 N (f_cl_Lr_readSum N t 0) (f_cl_Lr_readSum N t 1) fu (nI w) wt (nI i) (cQ c p s g) = some (nI 0, cQ c p' s' g'))) ∧
    (∀ (N q bg : Nat) (m : MM) (L : Nat → Int32) (t fu : Nat), 15000 ≤ N → MT n Y q bg m → LE m L → 3 * (6 - w) + 2 ≤ t → n - p < fu → (ok = true → f_Mo_sum_L5 N (f_cl_Mo_atom N t 0 ()) (f_cl_Mo_atom N t 1 ()) (f_cl_Mo_atom N t 2 ()) fu (f L) (mQ m p (-nI 1) (nI w)) = some (f' L, mQ m p' (-nI 1) (nI w))) ∧ (ok = false → ∃ v p'' x, f_Mo_sum_L5 N (f_cl_Mo_atom N t 0 ()) (f_cl_Mo_atom N t 1 ()) (f_cl_Mo_atom N t 2 ()) fu (f L) (mQ m p (-nI 1) (nI w)) = some (v, mQ m p'' (nI p') x))) ∧
    (ok = true → p ≤ p' ∧ cs.length ≤ p' - p + (pend wt).length ∧ (∀ L, LO L → VB (f' L)) ∧ (∀ cs0, EV (cs0 ++ pend wt) f (3 + 2 * (6 - w)) → EV (cs0 ++ cs) f' (3 + 2 * (6 - w)))) ∧ p' ≤ n := by
  intro k
  have n9 := hX.1
  -- the end of a sum
  have hend : ∀ (p : Nat) (f : (Nat → Int32) → Int32) (wt : Int32), p ≤ n → (∀ L, LO L → VB (f L)) → sk n Y p = p → ¬ sg n Y p = 42 → ¬ sg n Y p = 47 → ¬ sg n Y p = 43 → ¬ sg n Y p = 45 → ∃ (ok : Bool) (p' : Nat) (cs : List Int32) (f' : (Nat → Int32) → Int32),
    (∀ (N : Nat) (c : MM) (s : Nat) (g : Nat → Int32) (t fu i : Nat), 15000 ≤ N → CT n Y c → s + (pend wt).length ≤ p → i ≤ p → n - p < fu → 2 * (6 - w) + 1 ≤ t → (ok = true → f_Lr_readSum_L14 N (f_cl_Lr_readSum N t 0) (f_cl_Lr_readSum N t 1) fu (nI w) wt (nI i) (cQ c p s g) = some (nI 1, cQ c p' (s + cs.length) (app g s cs))) ∧ (ok = false → ∃ s' g', f_Lr_readSum_L14 N (f_cl_Lr_readSum N t 0) (f_cl_Lr_readSum N t 1) fu (nI w) wt (nI i) (cQ c p s g) = some (nI 0, cQ c p' s' g'))) ∧
    (∀ (N q bg : Nat) (m : MM) (L : Nat → Int32) (t fu : Nat), 15000 ≤ N → MT n Y q bg m → LE m L → 3 * (6 - w) + 2 ≤ t → n - p < fu → (ok = true → f_Mo_sum_L5 N (f_cl_Mo_atom N t 0 ()) (f_cl_Mo_atom N t 1 ()) (f_cl_Mo_atom N t 2 ()) fu (f L) (mQ m p (-nI 1) (nI w)) = some (f' L, mQ m p' (-nI 1) (nI w))) ∧ (ok = false → ∃ v p'' x, f_Mo_sum_L5 N (f_cl_Mo_atom N t 0 ()) (f_cl_Mo_atom N t 1 ()) (f_cl_Mo_atom N t 2 ()) fu (f L) (mQ m p (-nI 1) (nI w)) = some (v, mQ m p'' (nI p') x))) ∧
    (ok = true → p ≤ p' ∧ cs.length ≤ p' - p + (pend wt).length ∧ (∀ L, LO L → VB (f' L)) ∧ (∀ cs0, EV (cs0 ++ pend wt) f (3 + 2 * (6 - w)) → EV (cs0 ++ cs) f' (3 + 2 * (6 - w)))) ∧ p' ≤ n := by
    intro p f wt hp hV hsk h42 h47 h43 h45
    refine ⟨true, p, pend wt, f, fun N c s g t fu i hN hC hs hi hfu ht => ⟨fun _ => ?_, fun e => (by cases e)⟩, fun N q bg m L t fu hN hM hL ht hfu => ⟨fun _ => ?_, fun e => (by cases e)⟩, fun _ => ⟨Nat.le_refl _, by omega, hV, fun cs0 h => h⟩, hp⟩
    · obtain ⟨fu, rfl⟩ : ∃ z, fu = z + 1 := ⟨fu - 1, by omega⟩
      rw [f_Lr_readSum_L14, if_neg (show ¬ (240 : Int32) < nI i from fun z => by have := (nI_ltI (a := 240) (by omega) (by omega)).mp z; omega), ta_peek hN hX hC hp, hsk, ob_e, lr_join, ob_e, joI_f h42 h43 h45 h47, if_pos rfl]
      exact lr_pend (K := fun μ => some (1, μ)) (by omega)
    · obtain ⟨fu, rfl⟩ : ∃ z, fu = z + 1 := ⟨fu - 1, by omega⟩
      rw [f_Mo_sum_L5, show (mQ m p (-nI 1) (nI w)).1 355 11 = -nI 1 by rw [mQ_5]; rfl, if_pos (show -nI 1 = (-1 : Int32) from rfl), mo_look hN hX hM hp, hsk, ob_e, if_neg h43, mo_look hN hX hM hp, hsk, ob_e, if_neg h45]
  induction k with
  | zero =>
    intro p f wt hp hk hV hsk h42 h47
    have hsg : sg n Y p = -nI 1 := by rw [sg_m hX]; omega
    exact hend p f wt hp hV hsk h42 h47 (by rw [hsg]; decide) (by rw [hsg]; decide)
  | succ k ih =>
    intro p f wt hp hk hV hsk h42 h47
    by_cases hop : sg n Y p = 43 ∨ sg n Y p = 45
    · have hlt : p < n := by
        rcases hop with h | h
        · exact (sg_lt (v := 43) hX (by decide) h).1
        · exact (sg_lt (v := 45) hX (by decide) h).1
      obtain ⟨o, ho, ho2, hoB⟩ : ∃ o, joI (sg n Y p) = o ∧ (o = -11 ∨ o = -12) ∧ isB o := by
        rcases hop with h | h
        · exact ⟨-11, by rw [h]; decide, Or.inl rfl, by unfold isB; decide⟩
        · exact ⟨-12, by rw [h]; decide, Or.inr rfl, by unfold isB; decide⟩
      have ho0 : ¬ o = 0 := by rcases ho2 with rfl | rfl <;> decide
      obtain ⟨okA, pA, csA, fA, A1, A2, A3, A4⟩ := hA (p + 1) (by omega)
      -- the program: a loose sign, up to the atom
      have hcl0 : ∀ (N : Nat) (c : MM) (s : Nat) (g : Nat → Int32) (r0 r1 : Int32 → MM → Option (Int32 × MM)) (fu i : Nat), 15000 ≤ N → CT n Y c → i ≤ n → s + (pend wt).length ≤ 240 → f_Lr_readSum_L14 N r0 r1 (fu + 1) (nI w) wt (nI i) (cQ c p s g) = f_Lr_readSum_B89 N r0 r1 (f_Lr_readSum_L14 N r0 r1 fu) (nI w) wt (nI i) o 1 (cQ c (p + 1) (s + (pend wt).length) (app g s (pend wt))) := fun N c s g r0 r1 fu i hN hC hi hs2 => by
        have h56 : f_Lr_readSum_B56 N r0 r1 (f_Lr_readSum_L14 N r0 r1 fu) (nI w) wt (nI i) o (cQ c p s g) = f_Lr_readSum_B89 N r0 r1 (f_Lr_readSum_L14 N r0 r1 fu) (nI w) wt (nI i) o 1 (cQ c (p + 1) (s + (pend wt).length) (app g s (pend wt))) := by
          unfold f_Lr_readSum_B56 f_Lr_readSum_B61
          rw [ta_step hX hC hlt, obv_e, if_neg (by decide)]
          exact lr_pend (K := fun μ => f_Lr_readSum_B89 N r0 r1 (f_Lr_readSum_L14 N r0 r1 fu) (nI w) wt (nI i) o 1 μ) hs2
        rw [f_Lr_readSum_L14, if_neg (show ¬ (240 : Int32) < nI i from fun z => by have := (nI_ltI (a := 240) (by omega) (by omega)).mp z; omega), ta_peek hN hX hC hp, hsk, ob_e, lr_join, ob_e, ho, if_neg ho0]
        by_cases h11 : o = -11
        · rw [if_pos h11, h56]
        · rw [if_neg h11, if_pos (ho2.resolve_left h11), h56]
      have hmo0 : ∀ (N q bg : Nat) (m : MM) (v : Int32) (r0 r1 r2 : MM → Option (Int32 × MM)) (fu : Nat), 15000 ≤ N → MT n Y q bg m → f_Mo_sum_L5 N r0 r1 r2 (fu + 1) v (mQ m p (-nI 1) (nI w)) = ob (r1 (mQ m (p + 1) (-nI 1) (nI w))) fun t57 μ5z => f_Mo_sum_L5 N r0 r1 r2 fu (wthI (if (if sg n Y p = 43 then (1 : Int32) else 0) = 0 then ((Int32.toInt64 v) - (Int32.toInt64 t57)) else ((Int32.toInt64 v) + (Int32.toInt64 t57)))) μ5z := fun N q bg m v r0 r1 r2 fu hN hM => by
        have hB : f_Mo_sum_B31 N r0 r1 r2 (f_Mo_sum_L5 N r0 r1 r2 fu) v (mQ m p (-nI 1) (nI w)) = ob (r1 (mQ m (p + 1) (-nI 1) (nI w))) fun t57 μ5z => f_Mo_sum_L5 N r0 r1 r2 fu (wthI (if (if sg n Y p = 43 then (1 : Int32) else 0) = 0 then ((Int32.toInt64 v) - (Int32.toInt64 t57)) else ((Int32.toInt64 v) + (Int32.toInt64 t57)))) μ5z := by
          unfold f_Mo_sum_B31 f_Mo_sum_B45 f_Mo_sum_B77
          rw [mo_look hN hX hM hp, hsk, ob_e, wr_e, show (mQ m p (-nI 1) (nI w)).1 355 10 = nI p by rw [mQ_5]; rfl, show (1 : Int32) = nI 1 from rfl, nI_add, mQ_p]
          rfl
        rw [f_Mo_sum_L5, show (mQ m p (-nI 1) (nI w)).1 355 11 = -nI 1 by rw [mQ_5]; rfl, if_pos (show -nI 1 = (-1 : Int32) from rfl), mo_look hN hX hM hp, hsk, ob_e]
        by_cases h43 : sg n Y p = 43
        · rw [if_pos h43, hB]
        · rw [if_neg h43, mo_look hN hX hM hp, hsk, ob_e, if_pos (hop.resolve_left h43), hB]
      have hmt : ∀ (N t : Nat) (μ : MM), f_cl_Mo_atom N (t + 1) 1 () μ = f_Mo_term_body N (f_cl_Mo_atom N t 0 ()) (f_cl_Mo_atom N t 1 ()) (f_cl_Mo_atom N t 2 ()) μ := fun N t μ => by rw [f_cl_Mo_atom, if_neg (by decide), if_pos rfl]
      have hstop : ∀ (N t fu : Nat) (m : MM) (pf p'' : Nat) (x v : Int32), pf < 2 ^ 31 → f_Mo_sum_L5 N (f_cl_Mo_atom N t 0 ()) (f_cl_Mo_atom N t 1 ()) (f_cl_Mo_atom N t 2 ()) (fu + 1) v (mQ m p'' (nI pf) x) = some (v, mQ m p'' (nI pf) x) := fun N t fu m pf p'' x v h => by
        rw [f_Mo_sum_L5, show (mQ m p'' (nI pf) x).1 355 11 = nI pf by rw [mQ_5]; rfl, if_neg (show ¬ nI pf = -1 from fun z => by
          have z2 : nI pf = -nI 1 := z
          rw [m_eq h] at z2; exact z2)]
      have hstopT : ∀ (N t fu : Nat) (m : MM) (pf p'' : Nat) (x v : Int32), pf < 2 ^ 31 → f_Mo_term_L5 N (f_cl_Mo_atom N t 0 ()) (f_cl_Mo_atom N t 1 ()) (f_cl_Mo_atom N t 2 ()) (fu + 1) v (mQ m p'' (nI pf) x) = some (v, mQ m p'' (nI pf) x) := fun N t fu m pf p'' x v h => by
        rw [f_Mo_term_L5, show (mQ m p'' (nI pf) x).1 355 11 = nI pf by rw [mQ_5]; rfl, if_neg (show ¬ nI pf = -1 from fun z => by
          have z2 : nI pf = -nI 1 := z
          rw [m_eq h] at z2; exact z2)]
      cases okA with
      | false =>
        refine ⟨false, pA, [], fun _ => 0, fun N c s g t fu i hN hC hs hi hfu ht => ⟨fun e => (by cases e), fun _ => ?_⟩, fun N q bg m L t fu hN hM hL ht hfu => ⟨fun e => (by cases e), fun _ => ?_⟩, fun e => (by cases e), A4⟩
        · obtain ⟨fu, rfl⟩ : ∃ z, fu = z + 1 := ⟨fu - 1, by omega⟩
          obtain ⟨s', g', e⟩ := (A1 N c (s + (pend wt).length) (app g s (pend wt)) t hN hC (by omega) (by omega)).2 rfl
          refine ⟨s', g', ?_⟩
          rw [hcl0 N c s g _ _ fu i hN hC (by omega) (by omega)]
          unfold f_Lr_readSum_B89
          rw [e, ob_e]; rfl
        · obtain ⟨fu, rfl⟩ : ∃ z, fu = z + 2 := ⟨fu - 2, by omega⟩
          obtain ⟨t, rfl⟩ : ∃ z, t = z + 1 := ⟨t - 1, by omega⟩
          obtain ⟨N1, hN1⟩ : ∃ z, N = z + 1 := ⟨N - 1, by omega⟩
          obtain ⟨v, p'', x, e⟩ := (A2 N q bg m L t hN hM hL (by omega)).2 rfl
          rw [hmo0 N q bg m (f L) _ _ _ (fu + 1) hN hM, hmt]
          unfold f_Mo_term_body
          have h9 : f_Mo_term_L5 N (f_cl_Mo_atom N t 0 ()) (f_cl_Mo_atom N t 1 ()) (f_cl_Mo_atom N t 2 ()) N v (mQ m p'' (nI pA) x) = some (v, mQ m p'' (nI pA) x) := by
            have := hstopT N t N1 m pA p'' x v (by omega)
            rw [← hN1] at this; exact this
          rw [e, ob_e, h9, ob_e, hstop N (t + 1) fu m pA p'' x _ (by omega)]
          exact ⟨_, p'', x, rfl⟩
      | true =>
        obtain ⟨B1, B2, B3, B4⟩ := A3 rfl
        obtain ⟨okT, pT, csT, fT, e, T1, T2, T3, T4, T5⟩ := term_ok hX hA (n - pA) pA fA A4 (Nat.le_refl _) B3
        have hcl1 : ∀ (N : Nat) (c : MM) (s : Nat) (g : Nat → Int32) (t fu i : Nat), 15000 ≤ N → CT n Y c → s + (pend wt).length ≤ p → i ≤ p → 2 * (6 - w) + 1 ≤ t → f_Lr_readSum_L14 N (f_cl_Lr_readSum N t 0) (f_cl_Lr_readSum N t 1) (fu + 1) (nI w) wt (nI i) (cQ c p s g) = f_Lr_readSum_L14 N (f_cl_Lr_readSum N t 0) (f_cl_Lr_readSum N t 1) fu (nI w) o (nI (i + 1)) (cQ c pA (s + (pend wt).length + csA.length) (app (app g s (pend wt)) (s + (pend wt).length) csA)) := fun N c s g t fu i hN hC hs hi ht => by
          have e := (A1 N c (s + (pend wt).length) (app g s (pend wt)) t hN hC (by omega) (by omega)).1 rfl
          rw [hcl0 N c s g _ _ fu i hN hC (by omega) (by omega)]
          unfold f_Lr_readSum_B89 f_Lr_readSum_B113
          rw [e, ob_e, if_neg (by decide), if_neg (by decide), if_neg (by decide), l_1, nI_add]
        cases okT with
        | false =>
          refine ⟨false, pT, [], fun _ => 0, fun N c s g t fu i hN hC hs hi hfu ht => ⟨fun e => (by cases e), fun _ => ?_⟩, fun N q bg m L t fu hN hM hL ht hfu => ⟨fun e => (by cases e), fun _ => ?_⟩, fun e => (by cases e), T4⟩
          · obtain ⟨fu, rfl⟩ : ∃ z, fu = z + 1 + e + 1 := ⟨fu - 1 - e - 1, by omega⟩
            obtain ⟨s', g', e9⟩ := (T1 N c (s + (pend wt).length + csA.length) (app (app g s (pend wt)) (s + (pend wt).length) csA) t fu (i + 1) o hN hC (by omega) (by omega) ht).2 rfl
            exact ⟨s', g', by rw [hcl1 N c s g t (fu + 1 + e) i hN hC hs hi ht, e9]⟩
          · obtain ⟨fu, rfl⟩ : ∃ z, fu = z + 2 := ⟨fu - 2, by omega⟩
            obtain ⟨t, rfl⟩ : ∃ z, t = z + 1 := ⟨t - 1, by omega⟩
            have e1 := (A2 N q bg m L t hN hM hL (by omega)).1 rfl
            obtain ⟨v, p'', x, e2⟩ := (T2 N q bg m L t N hN hM hL (by omega) (by omega)).2 rfl
            rw [hmo0 N q bg m (f L) _ _ _ (fu + 1) hN hM, hmt]
            unfold f_Mo_term_body
            rw [e1, ob_e, e2, ob_e, hstop N (t + 1) fu m pT p'' x _ (by omega)]
            exact ⟨_, p'', x, rfl⟩
        | true =>
          obtain ⟨U1, U2, U3, U4, U5, U6, U7, U8⟩ := T3 rfl
          have ho4 : o = -11 ∨ o = -12 ∨ o = -13 ∨ o = -14 := by rcases ho2 with h | h; exact Or.inl h; exact Or.inr (Or.inl h)
          have hV1 : ∀ L, LO L → VB (jm o (f L) (fT L)) := fun L hL => jm_v
          obtain ⟨ok, p', cs, f', R1, R2, R3, R4⟩ := ih pT (fun L => jm o (f L) (fT L)) o T4 (by omega) hV1 U6 U7 U8
          have hpo : (pend o).length = 1 := by rw [pend_1 ho0]; rfl
          have hcs : (pend wt ++ csA ++ csT ++ cs).length = (pend wt).length + csA.length + csT.length + cs.length := by simp; omega
          refine ⟨ok, p', pend wt ++ csA ++ csT ++ cs, f', fun N c s g t fu i hN hC hs hi hfu ht => ?_, fun N q bg m L t fu hN hM hL ht hfu => ?_, fun hok => ?_, R4⟩
          · obtain ⟨fu, rfl⟩ : ∃ z, fu = z + 1 + e + 1 := ⟨fu - 1 - e - 1, by omega⟩
            have h1 := hcl1 N c s g t (fu + 1 + e) i hN hC hs hi ht
            have h2 := (T1 N c (s + (pend wt).length + csA.length) (app (app g s (pend wt)) (s + (pend wt).length) csA) t fu (i + 1) o hN hC (by omega) (by omega) ht).1 rfl
            obtain ⟨r1, r2⟩ := R1 N c (s + (pend wt).length + csA.length + csT.length) (app (app (app g s (pend wt)) (s + (pend wt).length) csA) (s + (pend wt).length + csA.length) csT) t (fu + 1) (i + 1 + e) hN hC (by omega) (by omega) (by omega) ht
            have happ : app g s (pend wt ++ csA ++ csT ++ cs) = app (app (app (app g s (pend wt)) (s + (pend wt).length) csA) (s + (pend wt).length + csA.length) csT) (s + (pend wt).length + csA.length + csT.length) cs := by
              rw [app_app, app_app, app_app]
              simp only [List.length_append, Nat.add_assoc]
            refine ⟨fun h => ?_, fun h => ?_⟩
            · rw [h1, h2, r1 h, happ, hcs, show s + (pend wt).length + csA.length + csT.length + cs.length = s + ((pend wt).length + csA.length + csT.length + cs.length) by omega]
            · obtain ⟨s', g', e9⟩ := r2 h
              exact ⟨s', g', by rw [h1, h2, e9]⟩
          · obtain ⟨fu, rfl⟩ : ∃ z, fu = z + 1 := ⟨fu - 1, by omega⟩
            obtain ⟨t, rfl⟩ : ∃ z, t = z + 1 := ⟨t - 1, by omega⟩
            have e1 := (A2 N q bg m L t hN hM hL (by omega)).1 rfl
            have e2 := (T2 N q bg m L t N hN hM hL (by omega) (by omega)).1 rfl
            obtain ⟨r1, r2⟩ := R2 N q bg m L (t + 1) fu hN hM hL ht (by omega)
            have hval : wthI (if (if sg n Y p = 43 then (1 : Int32) else 0) = 0 then ((Int32.toInt64 (f L)) - (Int32.toInt64 (fT L))) else ((Int32.toInt64 (f L)) + (Int32.toInt64 (fT L)))) = jm o (f L) (fT L) := by
              by_cases h43 : sg n Y p = 43
              · have hoe : o = -11 := by rw [← ho, h43]; decide
                rw [if_pos h43, if_neg (by decide), hoe, jm_11]
              · have hoe : o = -12 := by rw [← ho, hop.resolve_left h43]; decide
                rw [if_neg h43, if_pos rfl, hoe, jm_12]
            rw [hmo0 N q bg m (f L) _ _ _ fu hN hM, hmt]
            unfold f_Mo_term_body
            rw [e1, ob_e, e2, ob_e, hval]
            exact ⟨r1, r2⟩
          · obtain ⟨r1, r2, r3, r4⟩ := R3 hok
            rw [hpo] at r2
            refine ⟨by omega, by rw [hcs]; omega, r3, fun cs0 h => ?_⟩
            have hEV := U5 csA (EV_k B4 (by omega))
            have := r4 (cs0 ++ pend wt ++ (csA ++ csT)) (by rw [pend_1 ho0]; exact EV_f (EV_bin h hEV (Nat.le_refl _) (by omega) (by omega) hoB) (fun L hL => jm_jn ho4 (hV L hL) (U4 L hL)))
            rw [show cs0 ++ (pend wt ++ csA ++ csT ++ cs) = cs0 ++ pend wt ++ (csA ++ csT) ++ cs by simp]
            exact this
    · exact hend p f wt hp hV hsk h42 h47 (fun h => hop (Or.inl h)) (fun h => hop (Or.inr h))
theorem sum_of {n w : Nat} {Y : Nat → Nat} (hX : TX n Y) (hA : ∀ p, p ≤ n → ∃ ok p' cs f, AOK n Y w p ok p' cs f) {p : Nat} (hp : p ≤ n) : ∃ ok p' cs f, SOK n Y w p ok p' cs f := by
  have n9 := hX.1
  have hgl : ∀ (N t : Nat) (x : Int32) (μ : MM), f_cl_Lr_readSum N (t + 1) 0 x μ = f_Lr_readSum_body N (f_cl_Lr_readSum N t 0) (f_cl_Lr_readSum N t 1) x μ := fun N t x μ => by rw [f_cl_Lr_readSum, if_pos rfl]
  have hgm : ∀ (N t : Nat) (μ : MM), f_cl_Mo_atom N (t + 1) 2 () μ = f_Mo_sum_body N (f_cl_Mo_atom N t 0 ()) (f_cl_Mo_atom N t 1 ()) (f_cl_Mo_atom N t 2 ()) μ := fun N t μ => by rw [f_cl_Mo_atom, if_neg (by decide), if_neg (by decide)]
  have hmt : ∀ (N t : Nat) (μ : MM), f_cl_Mo_atom N (t + 1) 1 () μ = f_Mo_term_body N (f_cl_Mo_atom N t 0 ()) (f_cl_Mo_atom N t 1 ()) (f_cl_Mo_atom N t 2 ()) μ := fun N t μ => by rw [f_cl_Mo_atom, if_neg (by decide), if_pos rfl]
  have hstop : ∀ (N t : Nat) (m : MM) (pf p'' : Nat) (x v : Int32), 15000 ≤ N → pf < 2 ^ 31 → f_Mo_sum_L5 N (f_cl_Mo_atom N t 0 ()) (f_cl_Mo_atom N t 1 ()) (f_cl_Mo_atom N t 2 ()) N v (mQ m p'' (nI pf) x) = some (v, mQ m p'' (nI pf) x) := fun N t m pf p'' x v hN h => by
    have : ∀ fu, f_Mo_sum_L5 N (f_cl_Mo_atom N t 0 ()) (f_cl_Mo_atom N t 1 ()) (f_cl_Mo_atom N t 2 ()) (fu + 1) v (mQ m p'' (nI pf) x) = some (v, mQ m p'' (nI pf) x) := fun fu => by
      rw [f_Mo_sum_L5, show (mQ m p'' (nI pf) x).1 355 11 = nI pf by rw [mQ_5]; rfl, if_neg (show ¬ nI pf = -1 from fun z => by
        have z2 : nI pf = -nI 1 := z
        rw [m_eq h] at z2; exact z2)]
    obtain ⟨N1, hN1⟩ : ∃ z, N = z + 1 := ⟨N - 1, by omega⟩
    have := this N1
    rw [← hN1] at this; exact this
  have hstopT : ∀ (N t : Nat) (m : MM) (pf p'' : Nat) (x v : Int32), 15000 ≤ N → pf < 2 ^ 31 → f_Mo_term_L5 N (f_cl_Mo_atom N t 0 ()) (f_cl_Mo_atom N t 1 ()) (f_cl_Mo_atom N t 2 ()) N v (mQ m p'' (nI pf) x) = some (v, mQ m p'' (nI pf) x) := fun N t m pf p'' x v hN h => by
    have : ∀ fu, f_Mo_term_L5 N (f_cl_Mo_atom N t 0 ()) (f_cl_Mo_atom N t 1 ()) (f_cl_Mo_atom N t 2 ()) (fu + 1) v (mQ m p'' (nI pf) x) = some (v, mQ m p'' (nI pf) x) := fun fu => by
      rw [f_Mo_term_L5, show (mQ m p'' (nI pf) x).1 355 11 = nI pf by rw [mQ_5]; rfl, if_neg (show ¬ nI pf = -1 from fun z => by
        have z2 : nI pf = -nI 1 := z
        rw [m_eq h] at z2; exact z2)]
    obtain ⟨N1, hN1⟩ : ∃ z, N = z + 1 := ⟨N - 1, by omega⟩
    have := this N1
    rw [← hN1] at this; exact this
  obtain ⟨okA, pA, csA, fA, A1, A2, A3, A4⟩ := hA p hp
  cases okA with
  | false =>
    refine ⟨false, pA, [], fun _ => 0, fun N c s g t hN hC hs ht => ⟨fun e => (by cases e), fun _ => ?_⟩, fun N q bg m L t hN hM hL ht => ⟨fun e => (by cases e), fun _ => ?_⟩, fun e => (by cases e), A4⟩
    · obtain ⟨t, rfl⟩ : ∃ z, t = z + 1 := ⟨t - 1, by omega⟩
      obtain ⟨s', g', e⟩ := (A1 N c s g t hN hC hs (by omega)).2 rfl
      refine ⟨s', g', ?_⟩
      rw [hgl]
      unfold f_Lr_readSum_body
      rw [e, ob_e]; rfl
    · obtain ⟨t, rfl⟩ : ∃ z, t = z + 2 := ⟨t - 2, by omega⟩
      obtain ⟨v, p'', x, e⟩ := (A2 N q bg m L t hN hM hL (by omega)).2 rfl
      refine ⟨v, p'', x, ?_⟩
      rw [show t + 2 = t + 1 + 1 by omega, hgm]
      unfold f_Mo_sum_body
      rw [hmt]
      unfold f_Mo_term_body
      rw [e, ob_e, hstopT N t m pA p'' x v hN (by omega), ob_e, hstop N (t + 1) m pA p'' x v hN (by omega)]
  | true =>
    obtain ⟨B1, B2, B3, B4⟩ := A3 rfl
    obtain ⟨okT, pT, csT, fT, e, T1, T2, T3, T4, T5⟩ := term_ok hX hA (n - pA) pA fA A4 (Nat.le_refl _) B3
    cases okT with
    | false =>
      refine ⟨false, pT, [], fun _ => 0, fun N c s g t hN hC hs ht => ⟨fun e => (by cases e), fun _ => ?_⟩, fun N q bg m L t hN hM hL ht => ⟨fun e => (by cases e), fun _ => ?_⟩, fun e => (by cases e), T4⟩
      · obtain ⟨t, rfl⟩ : ∃ z, t = z + 1 := ⟨t - 1, by omega⟩
        obtain ⟨N1, hN1⟩ : ∃ z, N = z + 1 + e := ⟨N - 1 - e, by omega⟩
        have e1 := (A1 N c s g t hN hC hs (by omega)).1 rfl
        obtain ⟨s', g', e2⟩ := (T1 N c (s + csA.length) (app g s csA) t N1 0 0 hN hC (by omega) (by omega) (by omega)).2 rfl
        rw [← hN1] at e2
        refine ⟨s', g', ?_⟩
        rw [hgl]
        unfold f_Lr_readSum_body
        rw [e1, ob_e, if_neg (by decide)]
        exact e2
      · obtain ⟨t, rfl⟩ : ∃ z, t = z + 2 := ⟨t - 2, by omega⟩
        have e1 := (A2 N q bg m L t hN hM hL (by omega)).1 rfl
        obtain ⟨v, p'', x, e2⟩ := (T2 N q bg m L t N hN hM hL (by omega) (by omega)).2 rfl
        refine ⟨v, p'', x, ?_⟩
        rw [show t + 2 = t + 1 + 1 by omega, hgm]
        unfold f_Mo_sum_body
        rw [hmt]
        unfold f_Mo_term_body
        rw [e1, ob_e, e2, ob_e, hstop N (t + 1) m pT p'' x v hN (by omega)]
    | true =>
      obtain ⟨U1, U2, U3, U4, U5, U6, U7, U8⟩ := T3 rfl
      obtain ⟨ok, p', cs, f', R1, R2, R3, R4⟩ := tail_ok hX hA (n - pT) pT fT 0 T4 (Nat.le_refl _) U4 U6 U7 U8
      have hcs : (csA ++ csT ++ cs).length = csA.length + csT.length + cs.length := by simp; omega
      refine ⟨ok, p', csA ++ csT ++ cs, f', fun N c s g t hN hC hs ht => ?_, fun N q bg m L t hN hM hL ht => ?_, fun hok => ?_, R4⟩
      · obtain ⟨t, rfl⟩ : ∃ z, t = z + 1 := ⟨t - 1, by omega⟩
        obtain ⟨N1, hN1⟩ : ∃ z, N = z + 1 + e := ⟨N - 1 - e, by omega⟩
        have e1 := (A1 N c s g t hN hC hs (by omega)).1 rfl
        have e2 := (T1 N c (s + csA.length) (app g s csA) t N1 0 0 hN hC (by omega) (by omega) (by omega)).1 rfl
        rw [← hN1, Nat.zero_add] at e2
        obtain ⟨r1, r2⟩ := R1 N c (s + csA.length + csT.length) (app (app g s csA) (s + csA.length) csT) t (N1 + 1) e hN hC (by show s + csA.length + csT.length + 0 ≤ pT; omega) (by omega) (by omega) (by omega)
        have happ : app g s (csA ++ csT ++ cs) = app (app (app g s csA) (s + csA.length) csT) (s + csA.length + csT.length) cs := by
          rw [app_app, app_app]
          simp only [List.length_append, Nat.add_assoc]
        have h0 : f_cl_Lr_readSum N (t + 1) 0 (nI w) (cQ c p s g) = f_Lr_readSum_L14 N (f_cl_Lr_readSum N t 0) (f_cl_Lr_readSum N t 1) (N1 + 1) (nI w) 0 (nI e) (cQ c pT (s + csA.length + csT.length) (app (app g s csA) (s + csA.length) csT)) := by
          rw [hgl]
          unfold f_Lr_readSum_body
          rw [e1, ob_e, if_neg (by decide)]
          exact e2
        refine ⟨fun h => ?_, fun h => ?_⟩
        · rw [h0, r1 h, happ, hcs, show s + csA.length + csT.length + cs.length = s + (csA.length + csT.length + cs.length) by omega]
        · obtain ⟨s', g', e9⟩ := r2 h
          exact ⟨s', g', by rw [h0, e9]⟩
      · obtain ⟨t, rfl⟩ : ∃ z, t = z + 2 := ⟨t - 2, by omega⟩
        have e1 := (A2 N q bg m L t hN hM hL (by omega)).1 rfl
        have e2 := (T2 N q bg m L t N hN hM hL (by omega) (by omega)).1 rfl
        obtain ⟨r1, r2⟩ := R2 N q bg m L (t + 1) N hN hM hL (by omega) (by omega)
        have h0 : f_cl_Mo_atom N (t + 2) 2 () (mQ m p (-nI 1) (nI w)) = f_Mo_sum_L5 N (f_cl_Mo_atom N (t + 1) 0 ()) (f_cl_Mo_atom N (t + 1) 1 ()) (f_cl_Mo_atom N (t + 1) 2 ()) N (fT L) (mQ m pT (-nI 1) (nI w)) := by
          rw [show t + 2 = t + 1 + 1 by omega, hgm]
          unfold f_Mo_sum_body
          rw [hmt]
          unfold f_Mo_term_body
          rw [e1, ob_e, e2, ob_e]
        rw [h0]
        exact ⟨r1, r2⟩
      · obtain ⟨r1, r2, r3, r4⟩ := R3 hok
        rw [pend_0] at r2 r4
        have r2' : cs.length ≤ p' - pT := r2
        refine ⟨by omega, by rw [hcs]; omega, r3, ?_⟩
        have hEV := U5 csA (EV_k B4 (by omega))
        have := r4 (csA ++ csT) (by rw [List.append_nil]; exact EV_k hEV (by omega))
        exact this
theorem sum_ok {n : Nat} {Y : Nat → Nat} (hX : TX n Y) : ∀ (e w : Nat), w + e = 6 → ∀ p, p ≤ n → ∃ ok p' cs f, SOK n Y w p ok p' cs f := by
  intro e
  induction e with
  | zero => exact fun w hw p hp => sum_of hX (fun p hp => atom_ok hX (by omega) hp (fun h => absurd h (by omega))) hp
  | succ e ih => exact fun w hw p hp => sum_of hX (fun p hp => atom_ok hX (by omega) hp (fun _ p1 hp1 => ih (w + 1) (by omega) p1 hp1)) hp
