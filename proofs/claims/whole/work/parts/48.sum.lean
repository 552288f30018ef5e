/-! ===== sums of a law ===== -/
theorem VB_add {a b : Int32} (ha : VB a) (hb : VB b) : Int32.toInt64 (a + b) = Int32.toInt64 a + Int32.toInt64 b := by
  unfold VB at ha hb
  apply Int64.toInt_inj.mp
  rw [Int32.toInt_toInt64, Int64.toInt_add, Int32.toInt_toInt64, Int32.toInt_toInt64, Int32.toInt_add, Int.bmod_eq_of_le (by omega) (by omega), Int.bmod_eq_of_le (by omega) (by omega)]
theorem VB_sub {a b : Int32} (ha : VB a) (hb : VB b) : Int32.toInt64 (a - b) = Int32.toInt64 a - Int32.toInt64 b := by
  unfold VB at ha hb
  apply Int64.toInt_inj.mp
  rw [Int32.toInt_toInt64, Int64.toInt_sub, Int32.toInt_toInt64, Int32.toInt_toInt64, Int32.toInt_sub, Int.bmod_eq_of_le (by omega) (by omega), Int.bmod_eq_of_le (by omega) (by omega)]
theorem VB_div {a b : Int32} (ha : VB a) : Int32.toInt64 (a / b) = Int32.toInt64 a / Int32.toInt64 b := by
  unfold VB at ha
  have h1 : (a.toInt.tdiv b.toInt).natAbs ≤ a.toInt.natAbs := by
    rw [Int.natAbs_tdiv]; exact Nat.div_le_self _ _
  apply Int64.toInt_inj.mp
  rw [Int32.toInt_toInt64, Int64.toInt_div, Int32.toInt_toInt64, Int32.toInt_toInt64, Int32.toInt_div, Int.bmod_eq_of_le (by omega) (by omega), Int.bmod_eq_of_le (by omega) (by omega)]
theorem jn_v {y a b : Int32} (hy : y = -11 ∨ y = -12 ∨ y = -13 ∨ y = -14) : VB (jn y a b) := by
  rcases hy with rfl | rfl | rfl | rfl
  · exact wth_v _
  · exact wth_v _
  · exact wth_v _
  · show VB (if b = 0 then 0 else wthI (Int32.toInt64 (a / b)))
    split
    · exact VB_n (v := 0) (by omega)
    · exact wth_v _
/-- joined as the model does -/
def jm (y a b : Int32) : Int32 := if y = -14 then (if b = 0 then 0 else wthI (Int32.toInt64 a / Int32.toInt64 b)) else if y = -13 then wthI (Int32.toInt64 a * Int32.toInt64 b) else if y = -12 then wthI (Int32.toInt64 a - Int32.toInt64 b) else wthI (Int32.toInt64 a + Int32.toInt64 b)
theorem jm_v {y a b : Int32} : VB (jm y a b) := by
  unfold jm
  split
  · split
    · exact VB_n (v := 0) (by omega)
    · exact wth_v _
  · split
    · exact wth_v _
    · split <;> exact wth_v _
theorem jm_14 {a b : Int32} : jm (-14) a b = (if b = 0 then 0 else wthI (Int32.toInt64 a / Int32.toInt64 b)) := by unfold jm; rw [if_pos rfl]
theorem jm_13 {a b : Int32} : jm (-13) a b = wthI (Int32.toInt64 a * Int32.toInt64 b) := by unfold jm; rw [if_neg (show ¬ (-13 : Int32) = -14 by decide), if_pos rfl]
theorem jm_12 {a b : Int32} : jm (-12) a b = wthI (Int32.toInt64 a - Int32.toInt64 b) := by unfold jm; rw [if_neg (show ¬ (-12 : Int32) = -14 by decide), if_neg (show ¬ (-12 : Int32) = -13 by decide), if_pos rfl]
theorem jm_11 {a b : Int32} : jm (-11) a b = wthI (Int32.toInt64 a + Int32.toInt64 b) := by unfold jm; rw [if_neg (show ¬ (-11 : Int32) = -14 by decide), if_neg (show ¬ (-11 : Int32) = -13 by decide), if_neg (show ¬ (-11 : Int32) = -12 by decide)]
theorem jn_14 {a b : Int32} : jn (-14) a b = (if b = 0 then 0 else wthI (Int32.toInt64 (a / b))) := by unfold jn; rw [if_neg (show ¬ (-14 : Int32) = -18 by decide), if_neg (show ¬ (-14 : Int32) = -17 by decide), if_neg (show ¬ (-14 : Int32) = -16 by decide), if_neg (show ¬ (-14 : Int32) = -15 by decide), if_pos rfl]
theorem jn_13 {a b : Int32} : jn (-13) a b = wthI (Int32.toInt64 a * Int32.toInt64 b) := by unfold jn; rw [if_neg (show ¬ (-13 : Int32) = -18 by decide), if_neg (show ¬ (-13 : Int32) = -17 by decide), if_neg (show ¬ (-13 : Int32) = -16 by decide), if_neg (show ¬ (-13 : Int32) = -15 by decide), if_neg (show ¬ (-13 : Int32) = -14 by decide), if_pos rfl]
theorem jn_12 {a b : Int32} : jn (-12) a b = wthI (Int32.toInt64 (a - b)) := by unfold jn; rw [if_neg (show ¬ (-12 : Int32) = -18 by decide), if_neg (show ¬ (-12 : Int32) = -17 by decide), if_neg (show ¬ (-12 : Int32) = -16 by decide), if_neg (show ¬ (-12 : Int32) = -15 by decide), if_neg (show ¬ (-12 : Int32) = -14 by decide), if_neg (show ¬ (-12 : Int32) = -13 by decide), if_pos rfl]
theorem jn_11 {a b : Int32} : jn (-11) a b = wthI (Int32.toInt64 (a + b)) := by unfold jn; rw [if_neg (show ¬ (-11 : Int32) = -18 by decide), if_neg (show ¬ (-11 : Int32) = -17 by decide), if_neg (show ¬ (-11 : Int32) = -16 by decide), if_neg (show ¬ (-11 : Int32) = -15 by decide), if_neg (show ¬ (-11 : Int32) = -14 by decide), if_neg (show ¬ (-11 : Int32) = -13 by decide), if_neg (show ¬ (-11 : Int32) = -12 by decide), if_pos rfl]
theorem jm_jn {y a b : Int32} (hy : y = -11 ∨ y = -12 ∨ y = -13 ∨ y = -14) (ha : VB a) (hb : VB b) : jm y a b = jn y a b := by
  rcases hy with rfl | rfl | rfl | rfl
  · rw [jm_11, jn_11, VB_add ha hb]
  · rw [jm_12, jn_12, VB_sub ha hb]
  · rw [jm_13, jn_13]
  · rw [jm_14, jn_14, VB_div ha]
def joI (x : Int32) : Int32 := if x = 42 then (-13) else if x = 43 then (-11) else if x = 44 then 0 else if x = 45 then (-12) else if x = 46 then 0 else if x = 47 then (-14) else 0
theorem lr_join {N : Nat} {x : Int32} {μ : MM} : f_Lr_joining N x μ = some (joI x, μ) := by
  unfold f_Lr_joining joI
  (repeat' split) <;> rfl
theorem joI_f {x : Int32} (h1 : ¬ x = 42) (h2 : ¬ x = 43) (h3 : ¬ x = 45) (h4 : ¬ x = 47) : joI x = 0 := by
  unfold joI
  rw [if_neg h1, if_neg h2, if_neg h3, if_neg h4]
  split
  · rfl
  · split <;> rfl
def pend (wt : Int32) : List Int32 := if wt = 0 then [] else [wt]
/-- what behind an atom is joined tightly -/
theorem term_ok {n w : Nat} {Y : Nat → Nat} (hX : TX n Y) (hA : ∀ p, p ≤ n → ∃ ok p' cs f, AOK n Y w p ok p' cs f) : ∀ (k p : Nat) (f : (Nat → Int32) → Int32), p ≤ n → n - p ≤ k → (∀ L, LO L → VB (f L)) → ∃ (ok : Bool) (p' : Nat) (cs : List Int32) (f' : (Nat → Int32) → Int32) (e : Nat),
    (∀ (N : Nat) (c : MM) (s : Nat) (g : Nat → Int32) (t fu i : Nat) (wt : Int32), 15000 ≤ N → CT n Y c → s ≤ p → i ≤ p → 2 * (6 - w) + 1 ≤ t → (ok = true → f_Lr_readSum_L14 N (f_cl_Lr_readSum N t 0) (f_cl_Lr_readSum N t 1) (fu + 1 + e) (nI w) wt (nI i) (cQ c p s g) = f_Lr_readSum_L14 N (f_cl_Lr_readSum N t 0) (f_cl_Lr_readSum N t 1) (fu + 1) (nI w) wt (nI (i + e)) (cQ c p' (s + cs.length) (app g s cs))) ∧ (ok = false → ∃ s' g', f_Lr_readSum_L14 N (f_cl_Lr_readSum N t 0) (f_cl_Lr_readSum N t 1) (fu + 1 + e) (nI w) wt (nI i) (cQ c p s g) = some (nI 0, cQ c p' s' g'))) ∧
    (∀ (N q bg : Nat) (m : MM) (L : Nat → Int32) (t fu : Nat), 15000 ≤ N → MT n Y q bg m → LE m L → 3 * (6 - w) + 1 ≤ t → n - p < fu → (ok = true → f_Mo_term_L5 N (f_cl_Mo_atom N t 0 ()) (f_cl_Mo_atom N t 1 ()) (f_cl_Mo_atom N t 2 ()) fu (f L) (mQ m p (-nI 1) (nI w)) = some (f' L, mQ m p' (-nI 1) (nI w))) ∧ (ok = false → ∃ v p'' x, f_Mo_term_L5 N (f_cl_Mo_atom N t 0 ()) (f_cl_Mo_atom N t 1 ()) (f_cl_Mo_atom N t 2 ()) fu (f L) (mQ m p (-nI 1) (nI w)) = some (v, mQ m p'' (nI p') x))) ∧
    (ok = true → p ≤ p' ∧ cs.length ≤ p' - p ∧ e ≤ p' - p ∧ (∀ L, LO L → VB (f' L)) ∧ (∀ cs0, EV cs0 f (2 + 2 * (6 - w)) → EV (cs0 ++ cs) f' (2 + 2 * (6 - w))) ∧ sk n Y p' = p' ∧ ¬ sg n Y p' = 42 ∧ ¬ sg n Y p' = 47) ∧ p' ≤ n ∧ e ≤ n - p := by
  intro k
  have n9 := hX.1
  induction k with
  | zero =>
    intro p f hp hk hV
    have hpn : p = n := by omega
    have hsk : sk n Y p = p := sk_id (by omega)
    have hsg : sg n Y p = -nI 1 := by rw [sg_m hX]; omega
    refine ⟨true, p, [], f, 0, fun N c s g t fu i wt hN hC hs hi ht => ⟨fun _ => rfl, fun e => (by cases e)⟩, fun N q bg m L t fu hN hM hL ht hfu => ⟨fun _ => ?_, fun e => (by cases e)⟩, fun _ => ⟨Nat.le_refl _, by show 0 ≤ _; omega, by omega, hV, fun cs0 h => by rw [List.append_nil]; exact h, hsk, by rw [hsg]; decide, by rw [hsg]; decide⟩, hp, by omega⟩
    obtain ⟨fu, rfl⟩ : ∃ z, fu = z + 1 := ⟨fu - 1, by omega⟩
    rw [f_Mo_term_L5, show (mQ m p (-nI 1) (nI w)).1 355 11 = -nI 1 by rw [mQ_5]; rfl, if_pos (show -nI 1 = (-1 : Int32) from rfl), mo_look hN hX hM hp, ob_e, hsk, hsg, if_neg (by decide), mo_look hN hX hM hp, ob_e, hsk, hsg, if_neg (by decide)]
  | succ k ih =>
    intro p f hp hk hV
    obtain ⟨s1, s2, s3⟩ := sk_p (Y := Y) hp
    have hss := sk_sk (Y := Y) hp
    generalize hp0 : sk n Y p = p0 at s1 s2 s3 hss
    have hpeek : ∀ (N : Nat) (c : MM) (s : Nat) (g : Nat → Int32) (r0 r1 : Int32 → MM → Option (Int32 × MM)) (fu i : Nat) (wt : Int32), 15000 ≤ N → CT n Y c → i ≤ n → f_Lr_readSum_L14 N r0 r1 (fu + 1) (nI w) wt (nI i) (cQ c p s g) = f_Lr_readSum_L14 N r0 r1 (fu + 1) (nI w) wt (nI i) (cQ c p0 s g) := fun N c s g r0 r1 fu i wt hN hC hi => by
      have hi9 : ¬ (240 : Int32) < nI i := fun z => by have := (nI_ltI (a := 240) (by omega) (by omega)).mp z; omega
      rw [f_Lr_readSum_L14, f_Lr_readSum_L14, if_neg hi9, if_neg hi9, ta_peek hN hX hC hp, hp0, ta_peek hN hX hC s2, hss]
    by_cases hop : sg n Y p0 = 42 ∨ sg n Y p0 = 47
    · -- * or /
      have hlt : p0 < n := by
        rcases hop with h | h
        · exact (sg_lt (v := 42) hX (by decide) h).1
        · exact (sg_lt (v := 47) hX (by decide) h).1
      obtain ⟨o, ho, ho2, hoB⟩ : ∃ o, joI (sg n Y p0) = o ∧ (o = -13 ∨ o = -14) ∧ isB o := by
        rcases hop with h | h
        · exact ⟨-13, by rw [h]; decide, Or.inl rfl, by unfold isB; decide⟩
        · exact ⟨-14, by rw [h]; decide, Or.inr rfl, by unfold isB; decide⟩
      have ho0 : ¬ o = 0 ∧ ¬ o = -11 ∧ ¬ o = -12 := by rcases ho2 with rfl | rfl <;> decide
      obtain ⟨okA, pA, csA, fA, A1, A2, A3, A4⟩ := hA (p0 + 1) (by omega)
      have hcl0 : ∀ (N : Nat) (c : MM) (s : Nat) (g : Nat → Int32) (r0 r1 : Int32 → MM → Option (Int32 × MM)) (fu i : Nat) (wt : Int32), 15000 ≤ N → CT n Y c → i ≤ n → f_Lr_readSum_L14 N r0 r1 (fu + 1) (nI w) wt (nI i) (cQ c p s g) = f_Lr_readSum_B89 N r0 r1 (f_Lr_readSum_L14 N r0 r1 fu) (nI w) wt (nI i) o 0 (cQ c (p0 + 1) s g) := fun N c s g r0 r1 fu i wt hN hC hi => by
        rw [f_Lr_readSum_L14, if_neg (show ¬ (240 : Int32) < nI i from fun z => by have := (nI_ltI (a := 240) (by omega) (by omega)).mp z; omega), ta_peek hN hX hC hp, hp0, ob_e, lr_join, ob_e, ho, if_neg ho0.1, if_neg ho0.2.1, if_neg ho0.2.2]
        unfold f_Lr_readSum_B61
        rw [ta_step hX hC hlt, obv_e, if_pos rfl]
      have hmo0 : ∀ (N q bg : Nat) (m : MM) (v : Int32) (r0 r1 r2 : MM → Option (Int32 × MM)) (fu : Nat), 15000 ≤ N → MT n Y q bg m → f_Mo_term_L5 N r0 r1 r2 (fu + 1) v (mQ m p (-nI 1) (nI w)) = ob (r0 (mQ m (p0 + 1) (-nI 1) (nI w))) fun t57 μ5z => (if (if sg n Y p0 = 42 then (1 : Int32) else 0) = 0 then (if (lg_cmp (Int32.toInt64 t57) 0) = 0 then (f_Mo_term_B87 N r0 r1 r2 (f_Mo_term_L5 N r0 r1 r2 fu) 0 μ5z)
    else (gd (nzl (Int32.toInt64 t57)) (f_Mo_term_B87 N r0 r1 r2 (f_Mo_term_L5 N r0 r1 r2 fu) ((Int32.toInt64 v) / (Int32.toInt64 t57)) μ5z)))
    else (f_Mo_term_B87 N r0 r1 r2 (f_Mo_term_L5 N r0 r1 r2 fu) ((Int32.toInt64 v) * (Int32.toInt64 t57)) μ5z)) := fun N q bg m v r0 r1 r2 fu hN hM => by
        rw [f_Mo_term_L5, show (mQ m p (-nI 1) (nI w)).1 355 11 = -nI 1 by rw [mQ_5]; rfl, if_pos (show -nI 1 = (-1 : Int32) from rfl), mo_look hN hX hM hp, hp0, ob_e]
        have hB : f_Mo_term_B31 N r0 r1 r2 (f_Mo_term_L5 N r0 r1 r2 fu) v (mQ m p0 (-nI 1) (nI w)) = ob (r0 (mQ m (p0 + 1) (-nI 1) (nI w))) fun t57 μ5z => (if (if sg n Y p0 = 42 then (1 : Int32) else 0) = 0 then (if (lg_cmp (Int32.toInt64 t57) 0) = 0 then (f_Mo_term_B87 N r0 r1 r2 (f_Mo_term_L5 N r0 r1 r2 fu) 0 μ5z)
    else (gd (nzl (Int32.toInt64 t57)) (f_Mo_term_B87 N r0 r1 r2 (f_Mo_term_L5 N r0 r1 r2 fu) ((Int32.toInt64 v) / (Int32.toInt64 t57)) μ5z)))
    else (f_Mo_term_B87 N r0 r1 r2 (f_Mo_term_L5 N r0 r1 r2 fu) ((Int32.toInt64 v) * (Int32.toInt64 t57)) μ5z)) := by
          unfold f_Mo_term_B31 f_Mo_term_B45
          rw [mo_look hN hX hM s2, hss, ob_e, wr_e, show (mQ m p0 (-nI 1) (nI w)).1 355 10 = nI p0 by rw [mQ_5]; rfl, show (1 : Int32) = nI 1 from rfl, nI_add, mQ_p]
        by_cases h42 : sg n Y p0 = 42
        · rw [if_pos h42, hB]
        · rw [if_neg h42, mo_look hN hX hM s2, hss, ob_e, if_pos (hop.resolve_left h42), hB]
      cases okA with
      | false =>
        refine ⟨false, pA, [], fun _ => 0, 0, fun N c s g t fu i wt hN hC hs hi ht => ⟨fun e => (by cases e), fun _ => ?_⟩, fun N q bg m L t fu hN hM hL ht hfu => ⟨fun e => (by cases e), fun _ => ?_⟩, fun e => (by cases e), A4, by omega⟩
        · obtain ⟨s', g', e⟩ := (A1 N c s g t hN hC (by omega) (by omega)).2 rfl
          refine ⟨s', g', ?_⟩
          rw [Nat.add_zero, hcl0 N c s g _ _ fu i wt hN hC (by omega)]
          unfold f_Lr_readSum_B89
          rw [e, ob_e]; rfl
        · obtain ⟨fu, rfl⟩ : ∃ z, fu = z + 2 := ⟨fu - 2, by omega⟩
          obtain ⟨v, p'', x, e⟩ := (A2 N q bg m L t hN hM hL (by omega)).2 rfl
          have hfin : ∀ v : Int32, f_Mo_term_L5 N (f_cl_Mo_atom N t 0 ()) (f_cl_Mo_atom N t 1 ()) (f_cl_Mo_atom N t 2 ()) (fu + 1) v (mQ m p'' (nI pA) x) = some (v, mQ m p'' (nI pA) x) := fun v => by
            rw [f_Mo_term_L5, show (mQ m p'' (nI pA) x).1 355 11 = nI pA by rw [mQ_5]; rfl, if_neg (show ¬ nI pA = -1 from fun z => by
              have z2 : nI pA = -nI 1 := z
              rw [m_eq (by omega)] at z2; exact z2)]
          rw [hmo0 N q bg m (f L) _ _ _ (fu + 1) hN hM, e, ob_e]
          have hB87 : ∀ y : Int64, f_Mo_term_B87 N (f_cl_Mo_atom N t 0 ()) (f_cl_Mo_atom N t 1 ()) (f_cl_Mo_atom N t 2 ()) (f_Mo_term_L5 N (f_cl_Mo_atom N t 0 ()) (f_cl_Mo_atom N t 1 ()) (f_cl_Mo_atom N t 2 ()) (fu + 1)) y (mQ m p'' (nI pA) x) = some (wthI y, mQ m p'' (nI pA) x) := fun y => hfin (wthI y)
          by_cases c1 : (if sg n Y p0 = 42 then (1 : Int32) else 0) = 0
          · rw [if_pos c1]
            by_cases c2 : lg_cmp (Int32.toInt64 v) 0 = 0
            · rw [if_pos c2, hB87]; exact ⟨_, _, _, rfl⟩
            · rw [if_neg c2, gd_t (by unfold nzl; rw [lg_cmp_eq] at c2; simpa using c2), hB87]; exact ⟨_, _, _, rfl⟩
          · rw [if_neg c1, hB87]; exact ⟨_, _, _, rfl⟩
      | true =>
        obtain ⟨B1, B2, B3, B4⟩ := A3 rfl
        have ho4 : o = -11 ∨ o = -12 ∨ o = -13 ∨ o = -14 := Or.inr (Or.inr ho2)
        have hV1 : ∀ L, LO L → VB (jm o (f L) (fA L)) := fun L hL => jm_v
        obtain ⟨ok, p', cs, f', e, R1, R2, R3, R4, R5⟩ := ih pA (fun L => jm o (f L) (fA L)) A4 (by omega) hV1
        have hcl1 : ∀ (N : Nat) (c : MM) (s : Nat) (g : Nat → Int32) (t fu i : Nat) (wt : Int32), 15000 ≤ N → CT n Y c → s ≤ p → i ≤ p → 2 * (6 - w) + 1 ≤ t → f_Lr_readSum_L14 N (f_cl_Lr_readSum N t 0) (f_cl_Lr_readSum N t 1) (fu + 1) (nI w) wt (nI i) (cQ c p s g) = f_Lr_readSum_L14 N (f_cl_Lr_readSum N t 0) (f_cl_Lr_readSum N t 1) fu (nI w) wt (nI (i + 1)) (cQ c pA (s + csA.length + 1) (upg (app g s csA) (s + csA.length) o)) := fun N c s g t fu i wt hN hC hs hi ht => by
          have e := (A1 N c s g t hN hC (by omega) (by omega)).1 rfl
          rw [hcl0 N c s g _ _ fu i wt hN hC (by omega)]
          unfold f_Lr_readSum_B89 f_Lr_readSum_B113
          rw [e, ob_e, if_neg (by decide), if_pos rfl, lr_emit (by omega), ob_e, if_neg (by decide), if_pos rfl, l_1, nI_add]
        have hmo1 : ∀ (N q bg : Nat) (m : MM) (L : Nat → Int32) (t fu : Nat), 15000 ≤ N → MT n Y q bg m → LE m L → 3 * (6 - w) + 1 ≤ t → f_Mo_term_L5 N (f_cl_Mo_atom N t 0 ()) (f_cl_Mo_atom N t 1 ()) (f_cl_Mo_atom N t 2 ()) (fu + 1) (f L) (mQ m p (-nI 1) (nI w)) = f_Mo_term_L5 N (f_cl_Mo_atom N t 0 ()) (f_cl_Mo_atom N t 1 ()) (f_cl_Mo_atom N t 2 ()) fu (jm o (f L) (fA L)) (mQ m pA (-nI 1) (nI w)) := fun N q bg m L t fu hN hM hL ht => by
          have e := (A2 N q bg m L t hN hM hL (by omega)).1 rfl
          rw [hmo0 N q bg m (f L) _ _ _ fu hN hM, e, ob_e]
          by_cases h42 : sg n Y p0 = 42
          · have hoe : o = -13 := by rw [← ho, h42]; decide
            rw [if_pos h42, if_neg (by decide), hoe, jm_13]; rfl
          · have h47 := hop.resolve_left h42
            have hoe : o = -14 := by rw [← ho, h47]; decide
            rw [if_neg h42, if_pos rfl, hoe]
            by_cases c2 : fA L = 0
            · rw [c2, if_pos (by decide)]
              show f_Mo_term_L5 N _ _ _ fu (wthI 0) _ = _
              rw [show wthI 0 = jm (-14) (f L) 0 from by rw [jm_14, if_pos rfl]; decide]
            · have hne : ¬ Int32.toInt64 (fA L) = 0 := fun z => c2 (by
                have := (fa_wide_eq (fA L) 0).mp z; exact this)
              rw [if_neg (show ¬ lg_cmp (Int32.toInt64 (fA L)) 0 = 0 from fun z => hne ((lg_cmp_eq _ _).mp z)), gd_t (by unfold nzl; simpa using hne)]
              show f_Mo_term_L5 N _ _ _ fu (wthI _) _ = _
              rw [jm_14, if_neg c2]
        have hcs : (csA ++ [o] ++ cs).length = csA.length + 1 + cs.length := by simp; omega
        refine ⟨ok, p', csA ++ [o] ++ cs, f', e + 1, fun N c s g t fu i wt hN hC hs hi ht => ?_, fun N q bg m L t fu hN hM hL ht hfu => ?_, fun hok => ?_, R4, by omega⟩
        · have h1 := hcl1 N c s g t (fu + 1 + e) i wt hN hC hs hi ht
          obtain ⟨r1, r2⟩ := R1 N c (s + csA.length + 1) (upg (app g s csA) (s + csA.length) o) t fu (i + 1) wt hN hC (by omega) (by omega) ht
          have happ : app g s (csA ++ [o] ++ cs) = app (upg (app g s csA) (s + csA.length) o) (s + csA.length + 1) cs := by
            rw [List.append_assoc, app_app]; rfl
          refine ⟨fun h => ?_, fun h => ?_⟩
          · rw [show fu + 1 + (e + 1) = fu + 1 + e + 1 by omega, h1, r1 h, happ, hcs, show i + 1 + e = i + (e + 1) by omega, show s + csA.length + 1 + cs.length = s + (csA.length + 1 + cs.length) by omega]
          · obtain ⟨s', g', e9⟩ := r2 h
            exact ⟨s', g', by rw [show fu + 1 + (e + 1) = fu + 1 + e + 1 by omega, h1, e9]⟩
        · obtain ⟨fu, rfl⟩ : ∃ z, fu = z + 1 := ⟨fu - 1, by omega⟩
          obtain ⟨r1, r2⟩ := R2 N q bg m L t fu hN hM hL ht (by omega)
          rw [hmo1 N q bg m L t fu hN hM hL ht]
          exact ⟨r1, r2⟩
        · obtain ⟨r1, r2, r3, r4, r5, r6, r7, r8⟩ := R3 hok
          refine ⟨by omega, by rw [hcs]; omega, by omega, r4, fun cs0 h => ?_, r6, r7, r8⟩
          have := r5 (cs0 ++ csA ++ [o]) (EV_f (EV_bin h (EV_k B4 (show 1 + 2 * (6 - w) ≤ 1 + 2 * (6 - w) by omega)) (by omega) (by omega) (by omega) hoB) (fun L hL => jm_jn ho4 (hV L hL) (B3 L hL)))
          rw [show cs0 ++ (csA ++ [o] ++ cs) = cs0 ++ csA ++ [o] ++ cs by simp]
          exact this
    · -- none
      have h42 : ¬ sg n Y p0 = 42 := fun h => hop (Or.inl h)
      have h47 : ¬ sg n Y p0 = 47 := fun h => hop (Or.inr h)
      refine ⟨true, p0, [], f, 0, fun N c s g t fu i wt hN hC hs hi ht => ⟨fun _ => hpeek N c s g _ _ fu i wt hN hC (by omega), fun e => (by cases e)⟩, fun N q bg m L t fu hN hM hL ht hfu => ⟨fun _ => ?_, fun e => (by cases e)⟩, fun _ => ⟨s1, by show 0 ≤ _; omega, by omega, hV, fun cs0 h => by rw [List.append_nil]; exact h, hss, h42, h47⟩, s2, by omega⟩
      obtain ⟨fu, rfl⟩ : ∃ z, fu = z + 1 := ⟨fu - 1, by omega⟩
      rw [f_Mo_term_L5, show (mQ m p (-nI 1) (nI w)).1 355 11 = -nI 1 by rw [mQ_5]; rfl, if_pos (show -nI 1 = (-1 : Int32) from rfl), mo_look hN hX hM hp, hp0, ob_e, if_neg h42, mo_look hN hX hM s2, hss, ob_e, if_neg h47]
