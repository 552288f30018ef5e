/-! ===== clauses of a law ===== -/
theorem wo_give {N fu : Nat} {μ : MM} {hh r sz h i : Nat} {L : Nat → Int32} (hw : WP μ hh r sz L) (hi : i < sz) (hc : μ.1 r i = -22) : f_La_worth_L34 N (fu + 1) r (nI h) (nI i) μ = some (μ.1 42 0, μ) := by
  rw [wo_0 hw hi, hc, if_pos rfl]
theorem wo_ask {N fu : Nat} {μ : MM} {hh r sz h i : Nat} {L : Nat → Int32} (hw : WP μ hh r sz L) (hi : i < sz) (hc : μ.1 r i = -21) : f_La_worth_L34 N (fu + 1) r (nI h) (nI i) μ = if (μ.1 42 0) = 0 then (ob (f_La_clauseEnd N (nI i) μ) fun t86 μ5z => (f_La_worth_L34 N fu r 0 (t86 + 1) μ5z)) else (f_La_worth_L34 N fu r 0 (nI (i + 1)) μ) := by
  rw [wo_0 hw hi, hc, if_neg (by decide), if_pos rfl]
theorem cl_end {N : Nat} {μ : MM} {hh r sz e : Nat} {L : Nat → Int32} (hw : WP μ hh r sz L) (he : e < sz) (hc : μ.1 r e = -22) : ∀ (k fu i : Nat), e = i + k → k < fu → (∀ j, i ≤ j → j < e → ¬ μ.1 r j = -22) → f_La_clauseEnd_L2 N fu (nI i) μ = some (nI e, μ) := by
  obtain ⟨w1, w2, w3, w4, w5, w6⟩ := hw
  intro k
  induction k with
  | zero =>
    intro fu i h1 h2 h3
    obtain ⟨fu, rfl⟩ : ∃ z, fu = z + 1 := ⟨fu - 1, by omega⟩
    have hie : i = e := by omega
    subst hie
    rw [f_La_clauseEnd_L2, w1, gd_in w2 (by omega), nI_clamp (by omega), w4, if_neg (fun z => by have := (nI_leI (by omega) (by omega)).mp z; omega), gd_in w2 (by omega), gd_in (by omega) (by omega), nI_clamp (by omega), ← w3, if_pos hc]
  | succ k ih =>
    intro fu i h1 h2 h3
    obtain ⟨fu, rfl⟩ : ∃ z, fu = z + 1 := ⟨fu - 1, by omega⟩
    rw [f_La_clauseEnd_L2, w1, gd_in w2 (by omega), nI_clamp (by omega), w4, if_neg (fun z => by have := (nI_leI (by omega) (by omega)).mp z; omega), gd_in w2 (by omega), gd_in (by omega) (by omega), nI_clamp (by omega), ← w3, if_neg (h3 i (by omega) (by omega)), show nI i + 1 = nI (i + 1) from nI_add i 1]
    exact ih fu (i + 1) (by omega) (by omega) (fun j hj hj2 => h3 j (by omega) hj2)
theorem NG_at {cs : List Int32} (h : NG cs) {j : Nat} (hj : j < cs.length) : ¬ cs.getD j 0 = -22 := by
  rw [List.getD_eq_getElem?_getD, List.getElem?_eq_getElem hj]
  exact h _ (List.getElem_mem hj)
/-- a clause is worth vv where cc holds -/
def CEV (cs : List Int32) (cc vv : (Nat → Int32) → Int32) : Prop := ∀ (N fu : Nat) (μ : MM) (hh r sz i : Nat) (L : Nat → Int32), 15000 ≤ N → LO L → WP μ hh r sz L → i + cs.length < sz → (∀ j, j < cs.length → μ.1 r (i + j) = cs.getD j 0) → μ.1 r (i + cs.length) = -22 →
  ∃ μ' fu', (∀ a, a ≠ 42 → μ'.1 a = μ.1 a) ∧ μ'.2 = μ.2 ∧ fu ≤ fu' ∧ f_La_worth_L34 N (fu + cs.length + 1) r (nI 0) (nI i) μ = if cc L = 0 then f_La_worth_L34 N fu' r (nI 0) (nI (i + cs.length + 1)) μ' else some (vv L, μ')
theorem CEV_v {cs : List Int32} {vv : (Nat → Int32) → Int32} {k : Nat} (h : EV cs vv k) (hk : k ≤ 32) : CEV cs (fun _ => 1) vv := by
  intro N fu μ hh r sz i L hN hO hW hi hc hg
  obtain ⟨μ', a1, a2, a3, a4, a5⟩ := h.2 N (fu + 1) μ hh r sz 0 i L hO hW (by omega) (by omega) hc
  have hr : r ≠ 42 := by have := hW.2.2.1; have := hW.2.1; omega
  refine ⟨μ', fu, a2, a3, Nat.le_refl _, ?_⟩
  rw [if_neg (show ¬ (1 : Int32) = 0 by decide), show fu + cs.length + 1 = fu + 1 + cs.length by omega, a1, wo_give (WP_of hW a2) (by omega) (by rw [a2 r hr]; exact hg), a5]
theorem CEV_c {c1 c2 : List Int32} {cc vv : (Nat → Int32) → Int32} {k1 k2 : Nat} (h1 : EV c1 cc k1) (h2 : EV c2 vv k2) (hk1 : k1 ≤ 32) (hk2 : k2 ≤ 32) : CEV (c1 ++ [-21] ++ c2) cc vv := by
  intro N fu μ hh r sz i L hN hO hW hi hc hg
  have hlen : (c1 ++ [-21] ++ c2).length = c1.length + 1 + c2.length := by simp; omega
  rw [hlen] at hi hc hg ⊢
  have hr : r ≠ 42 := by have := hW.2.2.1; have := hW.2.1; omega
  have g1 : ∀ j, j < c1.length → μ.1 r (i + j) = c1.getD j 0 := fun j hj => by
    rw [hc j (by omega), List.append_assoc, gd_l hj]
  have g2 : μ.1 r (i + c1.length) = -21 := by
    rw [hc _ (by omega), List.append_assoc, show c1.length = c1.length + 0 by omega, gd_r]; rfl
  have g3 : ∀ j, j < c2.length → μ.1 r (i + c1.length + 1 + j) = c2.getD j 0 := fun j hj => by
    rw [show i + c1.length + 1 + j = i + ((c1 ++ [-21]).length + j) by simp; omega, hc _ (by simp; omega), gd_r]
  obtain ⟨m1, a1, a2, a3, a4, a5⟩ := h1.2 N (fu + c2.length + 2) μ hh r sz 0 i L hO hW (by omega) (by omega) g1
  have hW1 := WP_of hW a2
  have hw5 := hW.2.2.2.2.1
  have e0 : f_La_worth_L34 N (fu + (c1.length + 1 + c2.length) + 1) r (nI 0) (nI i) μ = (if (m1.1 42 0) = 0 then (ob (f_La_clauseEnd N (nI (i + c1.length)) m1) fun t86 μ5z => (f_La_worth_L34 N (fu + c2.length + 1) r 0 (t86 + 1) μ5z)) else (f_La_worth_L34 N (fu + c2.length + 1) r 0 (nI (i + c1.length + 1)) m1)) := by
    rw [show fu + (c1.length + 1 + c2.length) + 1 = fu + c2.length + 2 + c1.length by omega, a1, show fu + c2.length + 2 = fu + c2.length + 1 + 1 by omega, wo_ask hW1 (by omega) (by rw [a2 r hr]; exact g2)]
  rw [e0, a5]
  by_cases h0 : cc L = 0
  · refine ⟨m1, fu + c2.length + 1, a2, a3, by omega, ?_⟩
    rw [if_pos h0, if_pos h0]
    unfold f_La_clauseEnd
    rw [cl_end hW1 (e := i + (c1.length + 1 + c2.length)) (by omega) (by rw [a2 r hr]; exact hg) (1 + c2.length) N (i + c1.length) (by omega) (by omega) (fun j hj1 hj2 => by
      rw [a2 r hr]
      by_cases hj : j = i + c1.length
      · rw [hj, g2]; decide
      · rw [show j = i + c1.length + 1 + (j - (i + c1.length + 1)) by omega, g3 _ (by omega)]
        exact NG_at h2.1 (by omega)), ob_e, show nI (i + (c1.length + 1 + c2.length)) + 1 = nI (i + (c1.length + 1 + c2.length) + 1) from nI_add _ 1]
    rfl
  · rw [if_neg h0]
    obtain ⟨m2, b1, b2, b3, b4, b5⟩ := h2.2 N (fu + 1) m1 hh r sz 0 (i + c1.length + 1) L hO hW1 (by omega) (by omega) (fun j hj => by rw [a2 r hr]; exact g3 j hj)
    refine ⟨m2, fu, fun a ha => by rw [b2 a ha, a2 a ha], by rw [b3, a3], Nat.le_refl _, ?_⟩
    rw [if_neg h0, show fu + c2.length + 1 = fu + 1 + c2.length by omega]
    refine Eq.trans b1 ?_
    rw [wo_give (WP_of hW1 b2) (by omega) (by rw [b2 r hr, a2 r hr, show i + c1.length + 1 + c2.length = i + (c1.length + 1 + c2.length) by omega]; exact hg), b5]
/-- the model has found a worth -/
def mF (m : MM) (h v : Int32) : MM := mm_I (mm_I m 355 17 h) 355 14 v
theorem mF_5 {m : MM} {h v : Int32} (j : Nat) : (mF m h v).1 355 j = if j = 14 then v else if j = 17 then h else m.1 355 j := by
  unfold mF; rw [gI_s]
  by_cases e : j = 14
  · rw [if_pos e, if_pos e]
  · rw [if_neg e, if_neg e, gI_s]
theorem mF_1 {m : MM} {h v : Int32} {a : Nat} (ha : a ≠ 355) : (mF m h v).1 a = m.1 a := by
  unfold mF; rw [gI_o ha, gI_o ha]
theorem mF_2 {m : MM} {h v : Int32} : (mF m h v).2 = m.2 := rfl
theorem mQ_F {m : MM} {p : Nat} {f d h v : Int32} : mm_I (mm_I (mQ m p f d) 355 17 h) 355 14 v = mQ (mF m h v) p f d := by
  apply mQ_ext
  · rfl
  · intro a ha; rw [gI_o ha, gI_o ha, mQ_1 ha, mF_1 ha]
  · intro j
    rw [gI_s, mF_5]
    by_cases e1 : j = 14
    · subst e1; rfl
    · rw [if_neg e1, gI_s]
      by_cases e2 : j = 17
      · subst e2; rfl
      · rw [if_neg e2, mQ_5, if_neg e1, if_neg e2]
theorem MT_F {n : Nat} {Y : Nat → Nat} {q bg : Nat} {m : MM} {h v : Int32} (hM : MT n Y q bg m) : MT n Y q bg (mF m h v) := by
  obtain ⟨g1, g2, g3, g4, g5, g6, g7⟩ := hM
  refine ⟨by rw [mF_5]; exact g1, by rw [mF_5]; exact g2, by rw [mF_5]; exact g3, g4, g5, g6, fun j hj => by rw [mF_1 g4.2.1]; exact g7 j hj⟩
theorem LE_F {m : MM} {L : Nat → Int32} {h v : Int32} (hL : LE m L) : LE (mF m h v) L := fun i hi => by rw [mF_1 (by decide)]; exact hL i hi
def cRes (m : MM) (c v : Int32) (p : Nat) : MM := if m.1 355 17 = 0 ∧ ¬ c = 0 then mQ (mF m 1 v) p (-nI 1) (nI 0) else mQ m p (-nI 1) (nI 0)
theorem cl_134 {N p : Nat} {m : MM} {x2 x3 : Int32} (h : m.1 355 13 = nI 121) : f_Mo_clause_B134 N (nI 121) x2 x3 (mQ m p (-nI 1) (nI 0)) = some (cRes m x2 x3 p) := by
  unfold f_Mo_clause_B134 cRes
  rw [mQ_11, if_pos m1e, show (mQ m p (-nI 1) (nI 0)).1 355 17 = m.1 355 17 by rw [mQ_5]; rfl, show (mQ m p (-nI 1) (nI 0)).1 355 13 = m.1 355 13 by rw [mQ_5]; rfl, h]
  by_cases h1 : m.1 355 17 = 0
  · rw [if_pos h1, if_pos rfl]
    by_cases h2 : x2 = 0
    · rw [if_pos h2, if_neg (fun z => z.2 h2)]
    · rw [if_neg h2, if_pos ⟨h1, h2⟩, wr_e, wr_e, mQ_F]
  · rw [if_neg h1, if_neg (fun z => h1 z.1)]
theorem cl_134f {N p pf : Nat} {m : MM} {x1 x2 x3 d : Int32} (h : pf < 2 ^ 31) : f_Mo_clause_B134 N x1 x2 x3 (mQ m p (nI pf) d) = some (mQ m p (nI pf) d) := by
  unfold f_Mo_clause_B134
  rw [mQ_11, if_neg (nf h)]
def restM (N t t2 : Nat) (v : Int32) (μ : MM) : Option MM := ob (ob (f_Mo_part_L18 N (f_cl_Mo_unit N t 0 0 0) (f_cl_Mo_unit N t 1) (f_cl_Mo_unit N t 2) N v μ) (fun t3 μ1z => f_Mo_condition_L7 N (f_cl_Mo_unit N t2 0 0 0) (f_cl_Mo_unit N t2 1) (f_cl_Mo_unit N t2 2) N t3 μ1z)) fun t67 μ6z => (ob (f_Mo_takes N 63 μ6z) fun t74 μ7z => (if t74 = 0 then (some μ7z) else (ob (f_Mo_sum N μ7z) fun t82 μ8z => (f_Mo_clause_B134 N (nI 121) t67 t82 μ8z))))
/-- what stands behind the first unit of a clause -/
theorem rest_ok {n p : Nat} {Y : Nat → Nat} (hX : TX n Y) (hp : p ≤ n) (f : (Nat → Int32) → Int32) (hV : ∀ L, BV (f L)) : ∃ (ok : Bool) (p' : Nat) (cs : List Int32) (cc vv : (Nat → Int32) → Int32),
    (∀ (N : Nat) (c : MM) (s : Nat) (g : Nat → Int32), 15000 ≤ N → CT n Y c → s ≤ p → (ok = true → f_Lr_readClause_B99 N (nI 1) (cQ c p s g) = some (nI 1, cQ c p' (s + cs.length) (app g s cs))) ∧ (ok = false → ∃ s' g', f_Lr_readClause_B99 N (nI 1) (cQ c p s g) = some (nI 0, cQ c p' s' g'))) ∧
    (∀ (N q bg : Nat) (m : MM) (L : Nat → Int32) (t t2 : Nat), 15000 ≤ N → MT n Y q bg m → LE m L → 19 ≤ t → 20 ≤ t2 → m.1 355 13 = nI 121 → (ok = true → restM N t t2 (f L) (mQ m p (-nI 1) (nI 0)) = some (cRes m (cc L) (vv L) p')) ∧ (ok = false → ∃ p'' x, restM N t t2 (f L) (mQ m p (-nI 1) (nI 0)) = some (mQ m p'' (nI p') x))) ∧
    (ok = true → p ≤ p' ∧ cs.length ≤ p' - p ∧ (∀ cs0, EV cs0 f 16 → CEV (cs0 ++ cs) cc vv)) ∧ p' ≤ n := by
  have n9 := hX.1
  obtain ⟨okM, pM, csM, fM, M1, M2, M3, M4⟩ := more_ok hX (unit_ok hX 6 0 (by omega)) hp hV
  cases okM with
  | false =>
    refine ⟨false, pM, [], fun _ => 0, fun _ => 0, fun N c s g hN hC hs => ⟨fun e => (by cases e), fun _ => ?_⟩, fun N q bg m L t t2 hN hM hL ht ht2 h13 => ⟨fun e => (by cases e), fun _ => ?_⟩, fun e => (by cases e), M4⟩
    · obtain ⟨s', g', e⟩ := (M1 N c s g 40 hN hC hs (by omega)).2 rfl
      refine ⟨s', g', ?_⟩
      unfold f_Lr_readClause_B99 f_Lr_readMoreUnits
      rw [if_neg (by decide), show (0 : Int32) = nI 0 from rfl, e, ob_e]; rfl
    · obtain ⟨v, p'', x, hv, e⟩ := (M2 N q bg m L t t2 (f_cl_Mo_unit N t2 0 0 0) (f_cl_Mo_unit N t 1) (f_cl_Mo_unit N t 2) (f_cl_Mo_unit N t2 2) hN hM hL (by omega) (by omega)).2 rfl
      refine ⟨p'', x, ?_⟩
      unfold restM
      rw [e, ob_e, mo_takes2 (by omega), ob_e]; rfl
  | true =>
    obtain ⟨D1, D2, D3, D4⟩ := M3 rfl
    obtain ⟨z1, z2, z3⟩ := sk_p (Y := Y) M4
    by_cases hcl : sg n Y (sk n Y pM) = nI 63
    · have hl1 := (sg_lt hX (by decide) hcl).1
      obtain ⟨okS, pS, csS, fS, S1, S2, S3, S4⟩ := sum_ok hX 6 0 (by omega) (sk n Y pM + 1) (by omega)
      have hcl0 : ∀ (N : Nat) (c : MM) (s : Nat) (g : Nat → Int32), 15000 ≤ N → CT n Y c → s ≤ p → f_Lr_readClause_B99 N (nI 1) (cQ c p s g) = ob (f_cl_Lr_readSum N 40 0 (nI 0) (cQ c (sk n Y pM + 1) (s + csM.length + 1) (upg (app g s csM) (s + csM.length) (-21)))) fun t135 μ8z => (if t135 = 0 then (some (0, μ8z)) else (some (1, μ8z))) := fun N c s g hN hC hs => by
        have e := (M1 N c s g 40 hN hC hs (by omega)).1 rfl
        unfold f_Lr_readClause_B99 f_Lr_readMoreUnits f_Lr_readSum
        rw [if_neg (by decide), show (f_cl_Lr_readUnit N 40 1 0 (cQ c p s g)) = f_cl_Lr_readUnit N 40 1 (nI 0) (cQ c p s g) from rfl, e, ob_e, if_neg (by decide), show (63 : Int32) = nI 63 from rfl, ta_accept hN hX hC M4 (by decide), if_pos hcl, ob_e, if_neg (by decide), lr_emit (by omega), ob_e, if_neg (by decide)]
        rfl
      have hmo0 : ∀ (N q bg : Nat) (m : MM) (L : Nat → Int32) (t t2 : Nat), 15000 ≤ N → MT n Y q bg m → LE m L → 19 ≤ t → 20 ≤ t2 → restM N t t2 (f L) (mQ m p (-nI 1) (nI 0)) = ob (f_cl_Mo_atom N 40 2 () (mQ m (sk n Y pM + 1) (-nI 1) (nI 0))) fun t82 μ8z => (f_Mo_clause_B134 N (nI 121) (fM L) t82 μ8z) := fun N q bg m L t t2 hN hM hL ht ht2 => by
        have e := (M2 N q bg m L t t2 (f_cl_Mo_unit N t2 0 0 0) (f_cl_Mo_unit N t 1) (f_cl_Mo_unit N t 2) (f_cl_Mo_unit N t2 2) hN hM hL (by omega) (by omega)).1 rfl
        unfold restM f_Mo_sum
        rw [e, ob_e, show (63 : Int32) = nI 63 from rfl, mo_takes hN hX hM M4, if_pos hcl, ob_e, if_neg (by decide)]
      cases okS with
      | false =>
        refine ⟨false, pS, [], fun _ => 0, fun _ => 0, fun N c s g hN hC hs => ⟨fun e => (by cases e), fun _ => ?_⟩, fun N q bg m L t t2 hN hM hL ht ht2 h13 => ⟨fun e => (by cases e), fun _ => ?_⟩, fun e => (by cases e), S4⟩
        · obtain ⟨s', g', e⟩ := (S1 N c (s + csM.length + 1) (upg (app g s csM) (s + csM.length) (-21)) 40 hN hC (by omega) (by omega)).2 rfl
          refine ⟨s', g', ?_⟩
          rw [hcl0 N c s g hN hC hs, e, ob_e]; rfl
        · obtain ⟨v, p'', x, e⟩ := (S2 N q bg m L 40 hN hM hL (by omega)).2 rfl
          refine ⟨p'', x, ?_⟩
          rw [hmo0 N q bg m L t t2 hN hM hL ht ht2, e, ob_e, cl_134f (by omega)]
      | true =>
        obtain ⟨E1, E2, E3, E4⟩ := S3 rfl
        have hcs : (csM ++ [-21] ++ csS).length = csM.length + 1 + csS.length := by simp; omega
        refine ⟨true, pS, csM ++ [-21] ++ csS, fM, fS, fun N c s g hN hC hs => ⟨fun _ => ?_, fun e => (by cases e)⟩, fun N q bg m L t t2 hN hM hL ht ht2 h13 => ⟨fun _ => ?_, fun e => (by cases e)⟩, fun _ => ⟨by omega, by rw [hcs]; omega, fun cs0 h => ?_⟩, S4⟩
        · have e := (S1 N c (s + csM.length + 1) (upg (app g s csM) (s + csM.length) (-21)) 40 hN hC (by omega) (by omega)).1 rfl
          have happ : app g s (csM ++ [-21] ++ csS) = app (upg (app g s csM) (s + csM.length) (-21)) (s + csM.length + 1) csS := by
            rw [List.append_assoc, app_app]; rfl
          rw [hcl0 N c s g hN hC hs, e, ob_e, if_neg (by decide), hcs, happ, show s + csM.length + 1 + csS.length = s + (csM.length + 1 + csS.length) by omega]; rfl
        · have e := (S2 N q bg m L 40 hN hM hL (by omega)).1 rfl
          rw [hmo0 N q bg m L t t2 hN hM hL ht ht2, e, ob_e, cl_134 h13]
        · have := CEV_c (D4 cs0 (EV_k h (by omega))) E4 (by omega) (by omega)
          rw [show cs0 ++ (csM ++ [-21] ++ csS) = cs0 ++ csM ++ [-21] ++ csS by simp]
          exact this
    · refine ⟨false, sk n Y pM, [], fun _ => 0, fun _ => 0, fun N c s g hN hC hs => ⟨fun e => (by cases e), fun _ => ⟨s + csM.length, app g s csM, ?_⟩⟩, fun N q bg m L t t2 hN hM hL ht ht2 h13 => ⟨fun e => (by cases e), fun _ => ⟨sk n Y pM, nI 0, ?_⟩⟩, fun e => (by cases e), z2⟩
      · have e := (M1 N c s g 40 hN hC hs (by omega)).1 rfl
        unfold f_Lr_readClause_B99 f_Lr_readMoreUnits
        rw [if_neg (by decide), show (f_cl_Lr_readUnit N 40 1 0 (cQ c p s g)) = f_cl_Lr_readUnit N 40 1 (nI 0) (cQ c p s g) from rfl, e, ob_e, if_neg (by decide), show (63 : Int32) = nI 63 from rfl, ta_accept hN hX hC M4 (by decide), if_neg hcl, ob_e]; rfl
      · have e := (M2 N q bg m L t t2 (f_cl_Mo_unit N t2 0 0 0) (f_cl_Mo_unit N t 1) (f_cl_Mo_unit N t 2) (f_cl_Mo_unit N t2 2) hN hM hL (by omega) (by omega)).1 rfl
        unfold restM
        rw [e, ob_e, show (63 : Int32) = nI 63 from rfl, mo_takes hN hX hM M4, if_neg hcl, ob_e]; rfl
