/-! ===== conditions of a law ===== -/
def BV (x : Int32) : Prop := x = 0 ∨ x = 1
theorem BV_z {x : Int32} (h : BV x) : zb x = true := by rcases h with rfl | rfl <;> decide
theorem nf {pf : Nat} (h : pf < 2 ^ 31) : ¬ nI pf = -1 := fun z => by
  have z2 : nI pf = -nI 1 := z
  rw [m_eq h] at z2; exact z2
theorem mQ_11 {m : MM} {p : Nat} {f d : Int32} : (mQ m p f d).1 355 11 = f := by rw [mQ_5]; rfl
theorem mQ_10 {m : MM} {p : Nat} {f d : Int32} : (mQ m p f d).1 355 10 = nI p := by rw [mQ_5]; rfl
theorem mQ_12 {m : MM} {p : Nat} {f d : Int32} : (mQ m p f d).1 355 12 = d := by rw [mQ_5]; rfl
theorem m1e : -nI 1 = (-1 : Int32) := rfl
def isS (x : Int32) : Bool := decide (x = 61) || decide (x = 60) || decide (x = 62)
theorem lr_comparing {N : Nat} {x : Int32} {μ : MM} : f_Lr_isComparing N x μ = some (bI (isS x), μ) := by
  unfold f_Lr_isComparing isS
  by_cases h1 : x = 61
  · rw [if_pos h1, decide_eq_true h1]; rfl
  · rw [if_neg h1, decide_eq_false h1]
    by_cases h2 : x = 60
    · rw [if_pos h2, decide_eq_true h2]; rfl
    · rw [if_neg h2, decide_eq_false h2]
      by_cases h3 : x = 62
      · rw [if_pos h3, decide_eq_true h3]; rfl
      · rw [if_neg h3, decide_eq_false h3]; rfl
theorem mo_isSign {N : Nat} {x : Int32} {μ : MM} : f_Mo_isSign N x μ = some (bI (isS x), μ) := by
  unfold f_Mo_isSign isS
  by_cases h1 : x = 61
  · rw [if_pos h1, decide_eq_true h1]; rfl
  · rw [if_neg h1, decide_eq_false h1]
    by_cases h2 : x = 60
    · rw [if_pos h2, decide_eq_true h2]; rfl
    · rw [if_neg h2, decide_eq_false h2]
      by_cases h3 : x = 62
      · rw [if_pos h3, decide_eq_true h3]; rfl
      · rw [if_neg h3, decide_eq_false h3]; rfl
theorem isS_t {x : Int32} (h : isS x = true) : x = 61 ∨ x = 60 ∨ x = 62 := by
  unfold isS at h
  simp only [Bool.or_eq_true, decide_eq_true_eq] at h
  rcases h with (h | h) | h
  · exact Or.inl h
  · exact Or.inr (Or.inl h)
  · exact Or.inr (Or.inr h)
def cmI (x : Int32) : Int32 := if x = 61 then ((-15) : Int32) else (if x = 60 then ((-16) : Int32) else (-17))
theorem cmj_val {x : Int32} (h3 : x = 61 ∨ x = 60 ∨ x = 62) (a b : Int32) : (if x = 61 then (if a = b then (1 : Int32) else 0) else (if x = 60 then (if b ≤ a then (0 : Int32) else 1) else (if a ≤ b then (0 : Int32) else 1))) = jn (cmI x) a b := by
  unfold jn cmI
  rcases h3 with rfl | rfl | rfl
  · rw [if_pos rfl, if_pos rfl, if_neg (show ¬ (-15 : Int32) = -18 by decide), if_neg (show ¬ (-15 : Int32) = -17 by decide), if_neg (show ¬ (-15 : Int32) = -16 by decide), if_pos rfl]
  · rw [if_neg (show ¬ (60 : Int32) = 61 by decide), if_pos rfl, if_neg (show ¬ (60 : Int32) = 61 by decide), if_pos rfl, if_neg (show ¬ (-16 : Int32) = -18 by decide), if_neg (show ¬ (-16 : Int32) = -17 by decide), if_pos rfl]
  · rw [if_neg (show ¬ (62 : Int32) = 61 by decide), if_neg (show ¬ (62 : Int32) = 60 by decide), if_neg (show ¬ (62 : Int32) = 61 by decide), if_neg (show ¬ (62 : Int32) = 60 by decide), if_neg (show ¬ (-17 : Int32) = -18 by decide), if_pos rfl]
theorem cmp_ok {n w p : Nat} {Y : Nat → Nat} (hX : TX n Y) (hw : w ≤ 6) (hp : p ≤ n) (f1 : (Nat → Int32) → Int32) : ∃ (ok : Bool) (p' : Nat) (cs : List Int32) (f' : (Nat → Int32) → Int32),
    (∀ (N : Nat) (c : MM) (s : Nat) (g : Nat → Int32), 15000 ≤ N → CT n Y c → s ≤ p → (ok = true → f_Lr_readComparison N (nI w) (cQ c p s g) = some (nI 1, cQ c p' (s + cs.length) (app g s cs))) ∧ (ok = false → ∃ s' g', f_Lr_readComparison N (nI w) (cQ c p s g) = some (nI 0, cQ c p' s' g'))) ∧
    (∀ (N q bg : Nat) (m : MM) (L : Nat → Int32), 15000 ≤ N → MT n Y q bg m → LE m L → (ok = true → f_Mo_compares_B12 N (f1 L) (mQ m p (-nI 1) (nI w)) = some (f' L, mQ m p' (-nI 1) (nI w))) ∧ (ok = false → ∃ v p'' x, BV v ∧ f_Mo_compares_B12 N (f1 L) (mQ m p (-nI 1) (nI w)) = some (v, mQ m p'' (nI p') x))) ∧
    (ok = true → p < p' ∧ cs.length ≤ p' - p ∧ (∀ L, BV (f' L)) ∧ (∀ cs0, EV cs0 f1 (4 + 2 * (6 - w)) → EV (cs0 ++ cs) f' (4 + 2 * (6 - w)))) ∧ p' ≤ n := by
  have n9 := hX.1
  obtain ⟨s1, s2, s3⟩ := sk_p (Y := Y) hp
  generalize hp0 : sk n Y p = p0 at s1 s2 s3
  cases hsi : isS (sg n Y p0)
  · refine ⟨false, p0, [], fun _ => 0, fun N c s g hN hC hs => ⟨fun e => (by cases e), fun _ => ⟨s, g, ?_⟩⟩, fun N q bg m L hN hM hL => ⟨fun e => (by cases e), fun _ => ⟨0, p0, nI w, Or.inl rfl, ?_⟩⟩, fun e => (by cases e), s2⟩
    · unfold f_Lr_readComparison
      rw [ta_peek hN hX hC hp, hp0, ob_e, lr_comparing, ob_e, hsi]; rfl
    · unfold f_Mo_compares_B12
      rw [mQ_11, if_pos m1e, mo_look hN hX hM hp, hp0, ob_e, mo_isSign, ob_e, hsi, if_pos (show bI false = 0 from rfl), mo_fails, ob_e, gd_t (by decide)]; rfl
  · have h3 := isS_t hsi
    have hlt : p0 < n := by
      rcases h3 with h | h | h
      · exact (sg_lt (v := 61) hX (by decide) h).1
      · exact (sg_lt (v := 60) hX (by decide) h).1
      · exact (sg_lt (v := 62) hX (by decide) h).1
    obtain ⟨okA, pA, csA, fA, A1, A2, A3, A4⟩ := sum_ok hX (6 - w) w (by omega) (p0 + 1) (by omega)
    have hB : isB (cmI (sg n Y p0)) := by rcases h3 with h | h | h <;> (rw [h]; unfold isB; decide)
    have hval : ∀ a b : Int32, (if sg n Y p0 = 61 then (if a = b then (1 : Int32) else 0) else (if sg n Y p0 = 60 then (if b ≤ a then (0 : Int32) else 1) else (if a ≤ b then (0 : Int32) else 1))) = jn (cmI (sg n Y p0)) a b := fun a b => cmj_val h3 a b
    have hbv : ∀ a b : Int32, BV (jn (cmI (sg n Y p0)) a b) := fun a b => by
      rw [← hval]
      split
      · split
        · exact Or.inr rfl
        · exact Or.inl rfl
      · split
        · split
          · exact Or.inl rfl
          · exact Or.inr rfl
        · split
          · exact Or.inl rfl
          · exact Or.inr rfl
    have hcl : ∀ (N : Nat) (c : MM) (s : Nat) (g : Nat → Int32), 15000 ≤ N → CT n Y c → f_Lr_readComparison N (nI w) (cQ c p s g) = f_Lr_readComparison_B49 N (nI w) (cmI (sg n Y p0)) (cQ c (p0 + 1) s g) := fun N c s g hN hC => by
      unfold f_Lr_readComparison
      rw [ta_peek hN hX hC hp, hp0, ob_e, lr_comparing, ob_e, hsi, if_neg (show ¬ bI true = 0 by decide), ta_step hX hC hlt, obv_e]; rfl
    have hmo : ∀ (N q bg : Nat) (m : MM) (v : Int32), 15000 ≤ N → MT n Y q bg m → f_Mo_compares_B12 N v (mQ m p (-nI 1) (nI w)) = ob (f_Mo_sum N (mQ m (p0 + 1) (-nI 1) (nI w))) fun t53 μ5z => some (jn (cmI (sg n Y p0)) v t53, μ5z) := fun N q bg m v hN hM => by
      unfold f_Mo_compares_B12
      rw [mQ_11, if_pos m1e, mo_look hN hX hM hp, hp0, ob_e, mo_isSign, ob_e, hsi, if_neg (show ¬ bI true = 0 by decide), wr_e, mQ_10, show nI p0 + 1 = nI (p0 + 1) from nI_add p0 1, mQ_p]
      refine congrArg (ob _) (funext fun t53 => funext fun μ5z => ?_)
      rw [hval, gd_t (BV_z (hbv _ _))]
    cases okA with
    | false =>
      refine ⟨false, pA, [], fun _ => 0, fun N c s g hN hC hs => ⟨fun e => (by cases e), fun _ => ?_⟩, fun N q bg m L hN hM hL => ⟨fun e => (by cases e), fun _ => ?_⟩, fun e => (by cases e), A4⟩
      · obtain ⟨s', g', e⟩ := (A1 N c s g 40 hN hC (by omega) (by omega)).2 rfl
        refine ⟨s', g', ?_⟩
        rw [hcl N c s g hN hC]
        unfold f_Lr_readComparison_B49 f_Lr_readSum
        rw [e, ob_e]; rfl
      · obtain ⟨v, p'', x, e⟩ := (A2 N q bg m L 40 hN hM hL (by omega)).2 rfl
        refine ⟨jn (cmI (sg n Y p0)) (f1 L) v, p'', x, hbv _ _, ?_⟩
        rw [hmo N q bg m (f1 L) hN hM]
        unfold f_Mo_sum
        rw [e, ob_e]
    | true =>
      obtain ⟨B1, B2, B3, B4⟩ := A3 rfl
      have hcs : (csA ++ [cmI (sg n Y p0)]).length = csA.length + 1 := by simp
      refine ⟨true, pA, csA ++ [cmI (sg n Y p0)], fun L => jn (cmI (sg n Y p0)) (f1 L) (fA L), fun N c s g hN hC hs => ⟨fun _ => ?_, fun e => (by cases e)⟩, fun N q bg m L hN hM hL => ⟨fun _ => ?_, fun e => (by cases e)⟩, fun _ => ⟨by omega, by rw [hcs]; omega, fun L => hbv _ _, fun cs0 h => ?_⟩, A4⟩
      · have e := (A1 N c s g 40 hN hC (by omega) (by omega)).1 rfl
        rw [hcl N c s g hN hC, hcs, app_app]
        unfold f_Lr_readComparison_B49 f_Lr_readSum
        rw [e, ob_e, if_neg (by decide), lr_emit (by omega), ob_e, if_neg (by decide)]
        rfl
      · have e := (A2 N q bg m L 40 hN hM hL (by omega)).1 rfl
        rw [hmo N q bg m (f1 L) hN hM]
        unfold f_Mo_sum
        rw [e, ob_e]
      · have := EV_bin h B4 (Nat.le_refl _) (by omega) (by omega) hB
        rw [← List.append_assoc]
        exact this
def UOK (n : Nat) (Y : Nat → Nat) (w p : Nat) (ok : Bool) (p' : Nat) (cs : List Int32) (f : (Nat → Int32) → Int32) : Prop :=
  (∀ (N : Nat) (c : MM) (s : Nat) (g : Nat → Int32) (t : Nat), 15000 ≤ N → CT n Y c → s ≤ p → 2 * (6 - w) + 1 ≤ t → (ok = true → f_cl_Lr_readUnit N t 0 (nI w) (cQ c p s g) = some (nI 1, cQ c p' (s + cs.length) (app g s cs))) ∧ (ok = false → ∃ s' g', f_cl_Lr_readUnit N t 0 (nI w) (cQ c p s g) = some (nI 0, cQ c p' s' g'))) ∧
  (∀ (N q bg : Nat) (m : MM) (L : Nat → Int32) (t : Nat), 15000 ≤ N → MT n Y q bg m → LE m L → 3 * (6 - w) + 1 ≤ t → (ok = true → f_cl_Mo_unit N t 0 0 0 (mQ m p (-nI 1) (nI w)) = some (f L, mQ m p' (-nI 1) (nI w))) ∧ (ok = false → ∃ v p'' x, BV v ∧ f_cl_Mo_unit N t 0 0 0 (mQ m p (-nI 1) (nI w)) = some (v, mQ m p'' (nI p') x))) ∧
  (ok = true → p < p' ∧ cs.length ≤ p' - p ∧ (∀ L, BV (f L)) ∧ EV cs f (4 + 2 * (6 - w))) ∧ p' ≤ n
theorem jn_and {a b : Int32} (ha : BV a) (hb : BV b) : jn (-18) a b = (if a = 0 then 0 else if b = 0 then 0 else 1) ∧ BV (jn (-18) a b) := by
  rcases ha with rfl | rfl <;> rcases hb with rfl | rfl <;> (unfold BV; decide)
theorem jn_or {a b : Int32} (ha : BV a) (hb : BV b) : jn (-19) a b = (if a = 0 then (if b = 0 then 0 else 1) else 1) ∧ BV (jn (-19) a b) := by
  rcases ha with rfl | rfl <;> rcases hb with rfl | rfl <;> (unfold BV; decide)
def penO (wt : Int32) : List Int32 := if wt = 0 then [] else [-19]
/-- what behind a unit is joined by & -/
theorem and_ok {n w : Nat} {Y : Nat → Nat} (hX : TX n Y) (hA : ∀ p, p ≤ n → ∃ ok p' cs f, UOK n Y w p ok p' cs f) : ∀ (k p : Nat) (f : (Nat → Int32) → Int32), p ≤ n → n - p ≤ k → (∀ L, BV (f L)) → ∃ (ok : Bool) (p' : Nat) (cs : List Int32) (f' : (Nat → Int32) → Int32) (e : Nat),
    (∀ (N : Nat) (c : MM) (s : Nat) (g : Nat → Int32) (t fu i : Nat) (wt : Int32) (r1 : Int32 → MM → Option (Int32 × MM)), 15000 ≤ N → CT n Y c → s ≤ p → i ≤ p → 2 * (6 - w) + 1 ≤ t → (ok = true → f_Lr_readMoreUnits_L4 N (f_cl_Lr_readUnit N t 0) r1 (fu + 1 + e) (nI w) wt (nI i) (cQ c p s g) = f_Lr_readMoreUnits_L4 N (f_cl_Lr_readUnit N t 0) r1 (fu + 1) (nI w) wt (nI (i + e)) (cQ c p' (s + cs.length) (app g s cs))) ∧ (ok = false → ∃ s' g', f_Lr_readMoreUnits_L4 N (f_cl_Lr_readUnit N t 0) r1 (fu + 1 + e) (nI w) wt (nI i) (cQ c p s g) = some (nI 0, cQ c p' s' g'))) ∧
    (∀ (N q bg : Nat) (m : MM) (L : Nat → Int32) (t fu : Nat) (r1 r2 : Int32 → Int32 → MM → Option (Int32 × MM)), 15000 ≤ N → MT n Y q bg m → LE m L → 3 * (6 - w) + 1 ≤ t → n - p < fu → (ok = true → f_Mo_part_L18 N (f_cl_Mo_unit N t 0 0 0) r1 r2 fu (f L) (mQ m p (-nI 1) (nI w)) = some (f' L, mQ m p' (-nI 1) (nI w))) ∧ (ok = false → ∃ v p'' x, BV v ∧ f_Mo_part_L18 N (f_cl_Mo_unit N t 0 0 0) r1 r2 fu (f L) (mQ m p (-nI 1) (nI w)) = some (v, mQ m p'' (nI p') x))) ∧
    (ok = true → p ≤ p' ∧ cs.length ≤ p' - p ∧ e ≤ p' - p ∧ (∀ L, BV (f' L)) ∧ (∀ cs0, EV cs0 f (5 + 2 * (6 - w)) → EV (cs0 ++ cs) f' (5 + 2 * (6 - w))) ∧ sk n Y p' = p' ∧ ¬ sg n Y p' = 38) ∧ p' ≤ n ∧ e ≤ n - p := by
  intro k
  have n9 := hX.1
  have hend : ∀ (p : Nat) (f : (Nat → Int32) → Int32), p ≤ n → (∀ L, BV (f L)) → ¬ sg n Y (sk n Y p) = 38 → ∃ (ok : Bool) (p' : Nat) (cs : List Int32) (f' : (Nat → Int32) → Int32) (e : Nat),
    (∀ (N : Nat) (c : MM) (s : Nat) (g : Nat → Int32) (t fu i : Nat) (wt : Int32) (r1 : Int32 → MM → Option (Int32 × MM)), 15000 ≤ N → CT n Y c → s ≤ p → i ≤ p → 2 * (6 - w) + 1 ≤ t → (ok = true → f_Lr_readMoreUnits_L4 N (f_cl_Lr_readUnit N t 0) r1 (fu + 1 + e) (nI w) wt (nI i) (cQ c p s g) = f_Lr_readMoreUnits_L4 N (f_cl_Lr_readUnit N t 0) r1 (fu + 1) (nI w) wt (nI (i + e)) (cQ c p' (s + cs.length) (app g s cs))) ∧ (ok = false → ∃ s' g', f_Lr_readMoreUnits_L4 N (f_cl_Lr_readUnit N t 0) r1 (fu + 1 + e) (nI w) wt (nI i) (cQ c p s g) = some (nI 0, cQ c p' s' g'))) ∧
    (∀ (N q bg : Nat) (m : MM) (L : Nat → Int32) (t fu : Nat) (r1 r2 : Int32 → Int32 → MM → Option (Int32 × MM)), 15000 ≤ N → MT n Y q bg m → LE m L → 3 * (6 - w) + 1 ≤ t → n - p < fu → (ok = true → f_Mo_part_L18 N (f_cl_Mo_unit N t 0 0 0) r1 r2 fu (f L) (mQ m p (-nI 1) (nI w)) = some (f' L, mQ m p' (-nI 1) (nI w))) ∧ (ok = false → ∃ v p'' x, BV v ∧ f_Mo_part_L18 N (f_cl_Mo_unit N t 0 0 0) r1 r2 fu (f L) (mQ m p (-nI 1) (nI w)) = some (v, mQ m p'' (nI p') x))) ∧
    (ok = true → p ≤ p' ∧ cs.length ≤ p' - p ∧ e ≤ p' - p ∧ (∀ L, BV (f' L)) ∧ (∀ cs0, EV cs0 f (5 + 2 * (6 - w)) → EV (cs0 ++ cs) f' (5 + 2 * (6 - w))) ∧ sk n Y p' = p' ∧ ¬ sg n Y p' = 38) ∧ p' ≤ n ∧ e ≤ n - p := by
    intro p f hp hV h38
    obtain ⟨s1, s2, s3⟩ := sk_p (Y := Y) hp
    have hss := sk_sk (Y := Y) hp
    generalize hp0 : sk n Y p = p0 at s1 s2 s3 hss h38
    refine ⟨true, p0, [], f, 0, fun N c s g t fu i wt r1 hN hC hs hi ht => ⟨fun _ => ?_, fun e => (by cases e)⟩, fun N q bg m L t fu r1 r2 hN hM hL ht hfu => ⟨fun _ => ?_, fun e => (by cases e)⟩, fun _ => ⟨s1, by show 0 ≤ _; omega, by omega, hV, fun cs0 h => by rw [List.append_nil]; exact h, hss, h38⟩, s2, by omega⟩
    · have hi9 : ¬ (240 : Int32) < nI i := fun z => by have := (nI_ltI (a := 240) (by omega) (by omega)).mp z; omega
      show f_Lr_readMoreUnits_L4 N _ _ (fu + 1) _ _ _ _ = f_Lr_readMoreUnits_L4 N _ _ (fu + 1) _ _ (nI i) (cQ c p0 s g)
      rw [f_Lr_readMoreUnits_L4, f_Lr_readMoreUnits_L4, if_neg hi9, if_neg hi9, ta_peek hN hX hC hp, hp0, ta_peek hN hX hC s2, hss]
    · obtain ⟨fu, rfl⟩ : ∃ z, fu = z + 1 := ⟨fu - 1, by omega⟩
      rw [f_Mo_part_L18, mQ_11, if_pos m1e, mo_look hN hX hM hp, hp0, ob_e, if_neg h38, gd_t (BV_z (hV L))]
  induction k with
  | zero =>
    intro p f hp hk hV
    refine hend p f hp hV ?_
    rw [sk_id (by omega), show sg n Y p = -nI 1 by rw [sg_m hX]; omega]; decide
  | succ k ih =>
    intro p f hp hk hV
    by_cases h38 : sg n Y (sk n Y p) = 38
    · obtain ⟨s1, s2, s3⟩ := sk_p (Y := Y) hp
      generalize hp0 : sk n Y p = p0 at s1 s2 s3 h38
      have hlt : p0 < n := (sg_lt (v := 38) hX (by decide) h38).1
      obtain ⟨okA, pA, csA, fA, A1, A2, A3, A4⟩ := hA (p0 + 1) (by omega)
      have hcl0 : ∀ (N : Nat) (c : MM) (s : Nat) (g : Nat → Int32) (r0 r1 : Int32 → MM → Option (Int32 × MM)) (fu i : Nat) (wt : Int32), 15000 ≤ N → CT n Y c → i ≤ n → f_Lr_readMoreUnits_L4 N r0 r1 (fu + 1) (nI w) wt (nI i) (cQ c p s g) = f_Lr_readMoreUnits_B68 N r0 r1 (f_Lr_readMoreUnits_L4 N r0 r1 fu) (nI w) wt (nI i) 38 (cQ c (p0 + 1) s g) := fun N c s g r0 r1 fu i wt hN hC hi => by
        rw [f_Lr_readMoreUnits_L4, if_neg (show ¬ (240 : Int32) < nI i from fun z => by have := (nI_ltI (a := 240) (by omega) (by omega)).mp z; omega), ta_peek hN hX hC hp, hp0, ob_e, h38, if_pos rfl]
        unfold f_Lr_readMoreUnits_B37
        rw [ta_step hX hC hlt, obv_e, if_neg (by decide)]
      have hmo0 : ∀ (N q bg : Nat) (m : MM) (v : Int32) (r0 : MM → Option (Int32 × MM)) (r1 r2 : Int32 → Int32 → MM → Option (Int32 × MM)) (fu : Nat), 15000 ≤ N → MT n Y q bg m → f_Mo_part_L18 N r0 r1 r2 (fu + 1) v (mQ m p (-nI 1) (nI w)) = ob (r0 (mQ m (p0 + 1) (-nI 1) (nI w))) fun t46 μ4z => f_Mo_part_L18 N r0 r1 r2 fu (if v = 0 then 0 else if t46 = 0 then 0 else 1) μ4z := fun N q bg m v r0 r1 r2 fu hN hM => by
        rw [f_Mo_part_L18, mQ_11, if_pos m1e, mo_look hN hX hM hp, hp0, ob_e, h38, if_pos rfl, wr_e, mQ_10, show nI p0 + 1 = nI (p0 + 1) from nI_add p0 1, mQ_p]
        refine congrArg (ob _) (funext fun t46 => funext fun μ4z => ?_)
        by_cases h1 : v = 0
        · rw [if_pos h1, if_pos h1]
        · rw [if_neg h1, if_neg h1]
          by_cases h2 : t46 = 0
          · rw [if_pos h2, if_pos h2]
          · rw [if_neg h2, if_neg h2]
      cases okA with
      | false =>
        refine ⟨false, pA, [], fun _ => 0, 0, fun N c s g t fu i wt r1 hN hC hs hi ht => ⟨fun e => (by cases e), fun _ => ?_⟩, fun N q bg m L t fu r1 r2 hN hM hL ht hfu => ⟨fun e => (by cases e), fun _ => ?_⟩, fun e => (by cases e), A4, by omega⟩
        · obtain ⟨s', g', e⟩ := (A1 N c s g t hN hC (by omega) (by omega)).2 rfl
          refine ⟨s', g', ?_⟩
          rw [Nat.add_zero, hcl0 N c s g _ _ fu i wt hN hC (by omega)]
          unfold f_Lr_readMoreUnits_B68
          rw [e, ob_e]; rfl
        · obtain ⟨fu, rfl⟩ : ∃ z, fu = z + 2 := ⟨fu - 2, by omega⟩
          obtain ⟨v, p'', x, hv, e⟩ := (A2 N q bg m L t hN hM hL (by omega)).2 rfl
          have hb : BV (if f L = 0 then 0 else if v = 0 then 0 else 1) := by
            split
            · exact Or.inl rfl
            · split
              · exact Or.inl rfl
              · exact Or.inr rfl
          refine ⟨_, p'', x, hb, ?_⟩
          rw [hmo0 N q bg m (f L) _ _ _ (fu + 1) hN hM, e, ob_e, f_Mo_part_L18, mQ_11, if_neg (nf (by omega)), gd_t (BV_z hb)]
      | true =>
        obtain ⟨B1, B2, B3, B4⟩ := A3 rfl
        obtain ⟨ok, p', cs, f', e, R1, R2, R3, R4, R5⟩ := ih pA (fun L => jn (-18) (f L) (fA L)) A4 (by omega) (fun L => (jn_and (hV L) (B3 L)).2)
        have hcs : (csA ++ [-18] ++ cs).length = csA.length + 1 + cs.length := by simp; omega
        refine ⟨ok, p', csA ++ [-18] ++ cs, f', e + 1, fun N c s g t fu i wt r1 hN hC hs hi ht => ?_, fun N q bg m L t fu r1 r2 hN hM hL ht hfu => ?_, fun hok => ?_, R4, by omega⟩
        · have h1 : f_Lr_readMoreUnits_L4 N (f_cl_Lr_readUnit N t 0) r1 (fu + 1 + e + 1) (nI w) wt (nI i) (cQ c p s g) = f_Lr_readMoreUnits_L4 N (f_cl_Lr_readUnit N t 0) r1 (fu + 1 + e) (nI w) wt (nI (i + 1)) (cQ c pA (s + csA.length + 1) (upg (app g s csA) (s + csA.length) (-18))) := by
            have e := (A1 N c s g t hN hC (by omega) (by omega)).1 rfl
            rw [hcl0 N c s g _ _ _ i wt hN hC (by omega)]
            unfold f_Lr_readMoreUnits_B68
            rw [e, ob_e, if_neg (by decide), if_pos rfl, lr_emit (by omega), ob_e, if_neg (by decide), show nI i + 1 = nI (i + 1) from nI_add i 1]
          obtain ⟨q1, q2⟩ := R1 N c (s + csA.length + 1) (upg (app g s csA) (s + csA.length) (-18)) t fu (i + 1) wt r1 hN hC (by omega) (by omega) ht
          have happ : app g s (csA ++ [-18] ++ cs) = app (upg (app g s csA) (s + csA.length) (-18)) (s + csA.length + 1) cs := by
            rw [List.append_assoc, app_app]; rfl
          refine ⟨fun h => ?_, fun h => ?_⟩
          · rw [show fu + 1 + (e + 1) = fu + 1 + e + 1 by omega, h1, q1 h, happ, hcs, show i + 1 + e = i + (e + 1) by omega, show s + csA.length + 1 + cs.length = s + (csA.length + 1 + cs.length) by omega]
          · obtain ⟨s', g', e9⟩ := q2 h
            exact ⟨s', g', by rw [show fu + 1 + (e + 1) = fu + 1 + e + 1 by omega, h1, e9]⟩
        · obtain ⟨fu, rfl⟩ : ∃ z, fu = z + 1 := ⟨fu - 1, by omega⟩
          have e := (A2 N q bg m L t hN hM hL (by omega)).1 rfl
          obtain ⟨q1, q2⟩ := R2 N q bg m L t fu r1 r2 hN hM hL ht (by omega)
          rw [hmo0 N q bg m (f L) _ _ _ fu hN hM, e, ob_e, ← (jn_and (hV L) (B3 L)).1]
          exact ⟨q1, q2⟩
        · obtain ⟨q1, q2, q3, q4, q5, q6, q7⟩ := R3 hok
          refine ⟨by omega, by rw [hcs]; omega, by omega, q4, fun cs0 h => ?_, q6, q7⟩
          have := q5 (cs0 ++ csA ++ [-18]) (EV_bin h B4 (by omega) (by omega) (by omega) (by unfold isB; decide))
          rw [show cs0 ++ (csA ++ [-18] ++ cs) = cs0 ++ csA ++ [-18] ++ cs by simp]
          exact this
    · exact hend p f hp hV h38
