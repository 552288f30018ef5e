/-! ===== a law ===== -/
theorem wo_out {N fu : Nat} {μ : MM} {hh r sz h i : Nat} {L : Nat → Int32} (hw : WP μ hh r sz L) (hi : i = sz) : f_La_worth_L34 N (fu + 1) r (nI h) (nI i) μ = some (0, μ) := by
  obtain ⟨w1, w2, w3, w4, w5, w6⟩ := hw
  rw [f_La_worth_L34, w1, gd_in w2 (by omega), nI_clamp (by omega), w4, if_pos ((nI_leI (by omega) (by omega)).mpr (by omega))]
theorem mF_F {m : MM} {h v h' v' : Int32} : mF (mF m h v) h' v' = mF m h' v' := by
  apply Prod.ext
  · funext a j
    by_cases ha : a = 355
    · subst ha
      rw [mF_5, mF_5, mF_5]
      by_cases e1 : j = 14
      · rw [if_pos e1, if_pos e1]
      · by_cases e2 : j = 17
        · rw [if_neg e1, if_pos e2, if_neg e1, if_pos e2]
        · rw [if_neg e1, if_neg e2, if_neg e1, if_neg e2, if_neg e1, if_neg e2]
    · rw [mF_1 ha, mF_1 ha, mF_1 ha]
  · rfl
theorem cRes_F {m : MM} {h v c x : Int32} {p : Nat} : cRes (mF m h v) c x p = if h = 0 ∧ ¬ c = 0 then mQ (mF m 1 x) p (-nI 1) (nI 0) else mQ (mF m h v) p (-nI 1) (nI 0) := by
  unfold cRes
  rw [show (mF m h v).1 355 17 = h by rw [mF_5]; rfl, mF_F]
/-- the steps from here on are worth W -/
def LEV (cs : List Int32) (W : (Nat → Int32) → Option Int32) : Prop := ∀ (N fu : Nat) (μ : MM) (hh r sz i : Nat) (L : Nat → Int32), 15000 ≤ N → LO L → WP μ hh r sz L → i + cs.length = sz → (∀ j, j < cs.length → μ.1 r (i + j) = cs.getD j 0) → cs.length < fu →
  ∃ μ', f_La_worth_L34 N fu r (nI 0) (nI i) μ = some ((W L).getD 0, μ') ∧ (∀ a, a ≠ 42 → μ'.1 a = μ.1 a) ∧ μ'.2 = μ.2
theorem LEV_nil : LEV [] (fun _ => none) := fun N fu μ hh r sz i L hN hO hW hi hc hfu => by
  obtain ⟨fu, rfl⟩ : ∃ z, fu = z + 1 := ⟨fu - 1, by have : (0 : Nat) < fu := hfu; omega⟩
  exact ⟨μ, wo_out hW (by simpa using hi), fun _ _ => rfl, rfl⟩
def oW (cc vv : (Nat → Int32) → Int32) (W : (Nat → Int32) → Option Int32) (L : Nat → Int32) : Option Int32 := if cc L = 0 then W L else some (vv L)
theorem oW_0 {cc vv : (Nat → Int32) → Int32} {W : (Nat → Int32) → Option Int32} {L : Nat → Int32} (h : cc L = 0) : oW cc vv W L = W L := by unfold oW; rw [if_pos h]
theorem oW_1 {cc vv : (Nat → Int32) → Int32} {W : (Nat → Int32) → Option Int32} {L : Nat → Int32} (h : ¬ cc L = 0) : oW cc vv W L = some (vv L) := by unfold oW; rw [if_neg h]
theorem LEV_cons {cs cs' : List Int32} {cc vv : (Nat → Int32) → Int32} {W : (Nat → Int32) → Option Int32} (h1 : CEV cs cc vv) (h2 : LEV cs' W) : LEV (cs ++ [-22] ++ cs') (oW cc vv W) := by
  intro N fu μ hh r sz i L hN hO hW hi hc hfu
  have hlen : (cs ++ [-22] ++ cs').length = cs.length + 1 + cs'.length := by simp; omega
  rw [hlen] at hi hc hfu
  have hr : r ≠ 42 := by have := hW.2.2.1; have := hW.2.1; omega
  obtain ⟨m1, fu', a1, a2, a3, a4⟩ := h1 N (fu - cs.length - 1) μ hh r sz i L hN hO hW (by omega) (fun j hj => by
    rw [hc j (by omega), List.append_assoc, gd_l hj]) (by rw [hc _ (by omega), List.append_assoc, show cs.length = cs.length + 0 by omega, gd_r]; rfl)
  rw [show fu - cs.length - 1 + cs.length + 1 = fu by omega] at a4
  rw [a4]
  by_cases h0 : cc L = 0
  · rw [if_pos h0, oW_0 h0]
    obtain ⟨m2, b1, b2, b3⟩ := h2 N fu' m1 hh r sz (i + cs.length + 1) L hN hO (WP_of hW a1) (by omega) (fun j hj => by
      rw [a1 r hr, show i + cs.length + 1 + j = i + ((cs ++ [-22]).length + j) by simp; omega, hc _ (by simp; omega), gd_r]) (by omega)
    exact ⟨m2, b1, fun a ha => by rw [b2 a ha, a1 a ha], by rw [b3, a2]⟩
  · rw [if_neg h0, oW_1 h0]
    exact ⟨m1, rfl, a1, a2⟩
def LOK (n : Nat) (Y : Nat → Nat) (p : Nat) (ok : Bool) (p' : Nat) (cs : List Int32) (W : (Nat → Int32) → Option Int32) : Prop :=
  (∀ (N : Nat) (c : MM) (s : Nat) (g : Nat → Int32) (fu i : Nat), 15000 ≤ N → CT n Y c → s ≤ p → i ≤ p → n - p < fu → (ok = true → f_Lr_readLaw_L14 N fu (nI i) (cQ c p s g) = some (nI 1, cQ c p' (s + cs.length) (app g s cs))) ∧ (ok = false → ∃ s' g', f_Lr_readLaw_L14 N fu (nI i) (cQ c p s g) = some (nI 0, cQ c p' s' g'))) ∧
  (∀ (N q bg : Nat) (m : MM) (L : Nat → Int32) (q1 fu : Nat) (h v : Int32), 15000 ≤ N → MT n Y q bg m → LE m L → m.1 355 13 = nI 121 → n - p < fu → (ok = true → ∃ h', obv (f_Mo_clause N (mQ (mF m h v) p (-nI 1) (nI 0))) (fun μ => f_Mo_goThrough_L32 N q1 fu μ) = some (mQ (mF m h' (if h = 0 then (W L).getD v else v)) p' (-nI 1) (nI 0))) ∧ (ok = false → ∃ h' v' p'' x, obv (f_Mo_clause N (mQ (mF m h v) p (-nI 1) (nI 0))) (fun μ => f_Mo_goThrough_L32 N q1 fu μ) = some (mQ (mF m h' v') p'' (nI p') x))) ∧
  (ok = true → p < p' ∧ cs.length ≤ p' - p ∧ LEV cs W) ∧ p' ≤ n
theorem law_from {n : Nat} {Y : Nat → Nat} (hX : TX n Y) : ∀ k p, p ≤ n → n - p ≤ k → ∃ ok p' cs W, LOK n Y p ok p' cs W := by
  have n9 := hX.1
  intro k
  induction k with
  | zero =>
    intro p hp hk
    obtain ⟨ok, p', cs, cc, vv, K1, K2, K3, K4⟩ := clause_ok (Y := Y) hX hp
    cases ok with
    | true => have := (K3 rfl).1; omega
    | false =>
      refine ⟨false, p', [], fun _ => none, fun N c s g fu i hN hC hs hi hfu => ⟨fun e => (by cases e), fun _ => ?_⟩, fun N q bg m L q1 fu h v hN hM hL h13 hfu => ⟨fun e => (by cases e), fun _ => ?_⟩, fun e => (by cases e), K4⟩
      · obtain ⟨fu, rfl⟩ : ∃ z, fu = z + 1 := ⟨fu - 1, by omega⟩
        obtain ⟨s', g', e⟩ := (K1 N c s g hN hC hs).2 rfl
        refine ⟨s', g', ?_⟩
        rw [f_Lr_readLaw_L14, if_neg (show ¬ (240 : Int32) < nI i from fun z => by have := (nI_ltI (a := 240) (by omega) (by omega)).mp z; omega), e, ob_e]; rfl
      · obtain ⟨fu, rfl⟩ : ∃ z, fu = z + 1 := ⟨fu - 1, by omega⟩
        obtain ⟨p'', x, e⟩ := (K2 N q bg (mF m h v) L hN (MT_F hM) (LE_F hL) (by rw [mF_5]; exact h13)).2 rfl
        refine ⟨h, v, p'', x, ?_⟩
        rw [e, obv_e, f_Mo_goThrough_L32, mQ_11, if_neg (nf (by omega))]
        unfold f_Mo_goThrough_B66
        rw [mQ_11, if_neg (nf (by omega))]
  | succ k ih =>
    intro p hp hk
    obtain ⟨ok, pK, csK, cc, vv, K1, K2, K3, K4⟩ := clause_ok (Y := Y) hX hp
    cases ok with
    | false =>
      refine ⟨false, pK, [], fun _ => none, fun N c s g fu i hN hC hs hi hfu => ⟨fun e => (by cases e), fun _ => ?_⟩, fun N q bg m L q1 fu h v hN hM hL h13 hfu => ⟨fun e => (by cases e), fun _ => ?_⟩, fun e => (by cases e), K4⟩
      · obtain ⟨fu, rfl⟩ : ∃ z, fu = z + 1 := ⟨fu - 1, by omega⟩
        obtain ⟨s', g', e⟩ := (K1 N c s g hN hC hs).2 rfl
        refine ⟨s', g', ?_⟩
        rw [f_Lr_readLaw_L14, if_neg (show ¬ (240 : Int32) < nI i from fun z => by have := (nI_ltI (a := 240) (by omega) (by omega)).mp z; omega), e, ob_e]; rfl
      · obtain ⟨fu, rfl⟩ : ∃ z, fu = z + 1 := ⟨fu - 1, by omega⟩
        obtain ⟨p'', x, e⟩ := (K2 N q bg (mF m h v) L hN (MT_F hM) (LE_F hL) (by rw [mF_5]; exact h13)).2 rfl
        refine ⟨h, v, p'', x, ?_⟩
        rw [e, obv_e, f_Mo_goThrough_L32, mQ_11, if_neg (nf (by omega))]
        unfold f_Mo_goThrough_B66
        rw [mQ_11, if_neg (nf (by omega))]
    | true =>
      obtain ⟨k1, k2, k3⟩ := K3 rfl
      obtain ⟨z1, z2, z3⟩ := sk_p (Y := Y) K4
      have hss := sk_sk (Y := Y) K4
      generalize hpS : sk n Y pK = pS at z1 z2 z3 hss
      have hc0 : ∀ (N : Nat) (c : MM) (s : Nat) (g : Nat → Int32) (fu i : Nat), 15000 ≤ N → CT n Y c → s ≤ p → i ≤ p → f_Lr_readLaw_L14 N (fu + 1) (nI i) (cQ c p s g) = (ob (if sg n Y pS = nI 59 then some (nI 1, cQ c (pS + 1) (s + csK.length + 1) (upg (app g s csK) (s + csK.length) (-22))) else some (nI 0, cQ c pS (s + csK.length + 1) (upg (app g s csK) (s + csK.length) (-22)))) fun t45 μ5z => (if t45 = 0 then (ob (f_Ta_peek N μ5z) fun t55 μ6z => (gd (zb (if t55 = (-1) then (1 : Int32) else 0)) (some ((if t55 = (-1) then (1 : Int32) else 0), μ6z))))
    else (f_Lr_readLaw_L14 N fu (nI (i + 1)) μ5z))) := fun N c s g fu i hN hC hs hi => by
        have e := (K1 N c s g hN hC hs).1 rfl
        rw [f_Lr_readLaw_L14, if_neg (show ¬ (240 : Int32) < nI i from fun z => by have := (nI_ltI (a := 240) (by omega) (by omega)).mp z; omega), e, ob_e, if_neg (by decide), lr_emit (by omega), ob_e, if_neg (by decide), show (59 : Int32) = nI 59 from rfl, ta_accept hN hX hC K4 (by decide), hpS, show nI i + 1 = nI (i + 1) from nI_add i 1]
      -- the model behind the clause
      have hm0 : ∀ (N q bg : Nat) (m : MM) (L : Nat → Int32) (h v : Int32), 15000 ≤ N → MT n Y q bg m → LE m L → m.1 355 13 = nI 121 → ∃ h', f_Mo_clause N (mQ (mF m h v) p (-nI 1) (nI 0)) = some (mQ (mF m h' (if h = 0 then (if cc L = 0 then v else vv L) else v)) pK (-nI 1) (nI 0)) ∧ (h' = 0 ↔ (h = 0 ∧ cc L = 0)) := fun N q bg m L h v hN hM hL h13 => by
        have e := (K2 N q bg (mF m h v) L hN (MT_F hM) (LE_F hL) (by rw [mF_5]; exact h13)).1 rfl
        rw [e, cRes_F]
        by_cases a1 : h = 0
        · by_cases a2 : cc L = 0
          · exact ⟨h, by rw [if_neg (fun z => z.2 a2), if_pos a1, if_pos a2], by simp [a1, a2]⟩
          · exact ⟨1, by rw [if_pos ⟨a1, a2⟩, if_pos a1, if_neg a2], by simp [a2]⟩
        · exact ⟨h, by rw [if_neg (fun z => a1 z.1), if_neg a1], by simp [a1]⟩
      by_cases h59 : sg n Y pS = nI 59
      · have hl := (sg_lt hX (by decide) h59).1
        obtain ⟨ok, p', cs, W, R1, R2, R3, R4⟩ := ih (pS + 1) (by omega) (by omega)
        have hcs : (csK ++ [-22] ++ cs).length = csK.length + 1 + cs.length := by simp; omega
        have happ : ∀ (g : Nat → Int32) (s : Nat), app g s (csK ++ [-22] ++ cs) = app (upg (app g s csK) (s + csK.length) (-22)) (s + csK.length + 1) cs := fun g s => by
          rw [List.append_assoc, app_app]; rfl
        refine ⟨ok, p', csK ++ [-22] ++ cs, oW cc vv W, fun N c s g fu i hN hC hs hi hfu => ?_, fun N q bg m L q1 fu h v hN hM hL h13 hfu => ?_, fun hok => ?_, R4⟩
        · obtain ⟨fu, rfl⟩ : ∃ z, fu = z + 1 := ⟨fu - 1, by omega⟩
          obtain ⟨r1, r2⟩ := R1 N c (s + csK.length + 1) (upg (app g s csK) (s + csK.length) (-22)) fu (i + 1) hN hC (by omega) (by omega) (by omega)
          rw [hc0 N c s g fu i hN hC hs hi, if_pos h59, ob_e, if_neg (by decide)]
          refine ⟨fun h => ?_, r2⟩
          rw [r1 h, hcs, happ, show s + csK.length + 1 + cs.length = s + (csK.length + 1 + cs.length) by omega]
        · obtain ⟨fu, rfl⟩ : ∃ z, fu = z + 1 := ⟨fu - 1, by omega⟩
          obtain ⟨h1, e, hh⟩ := hm0 N q bg m L h v hN hM hL h13
          have e2 : obv (f_Mo_clause N (mQ (mF m h v) p (-nI 1) (nI 0))) (fun μ => f_Mo_goThrough_L32 N q1 (fu + 1) μ) = obv (f_Mo_clause N (mQ (mF m h1 (if h = 0 then (if cc L = 0 then v else vv L) else v)) (pS + 1) (-nI 1) (nI 0))) (fun μ => f_Mo_goThrough_L32 N q1 fu μ) := by
            rw [e, obv_e, f_Mo_goThrough_L32, mQ_11, if_pos m1e, mo_look hN hX (MT_F hM) K4, hpS, ob_e, if_pos (show sg n Y pS = 59 from h59), wr_e, mQ_10, show nI pS + 1 = nI (pS + 1) from nI_add pS 1, mQ_p]
          rw [e2]
          obtain ⟨r1, r2⟩ := R2 N q bg m L q1 fu h1 (if h = 0 then (if cc L = 0 then v else vv L) else v) hN hM hL h13 (by omega)
          refine ⟨fun hok => ?_, r2⟩
          obtain ⟨h2, e3⟩ := r1 hok
          refine ⟨h2, ?_⟩
          rw [e3]
          by_cases a1 : h = 0
          · by_cases a2 : cc L = 0
            · rw [if_pos (hh.mpr ⟨a1, a2⟩), if_pos a1, if_pos a2, if_pos a1, oW_0 a2]
            · rw [if_neg (fun z => a2 (hh.mp z).2), if_pos a1, if_neg a2, if_pos a1, oW_1 a2]; rfl
          · rw [if_neg (fun z => a1 (hh.mp z).1), if_neg a1, if_neg a1]
        · obtain ⟨r1, r2, r3⟩ := R3 hok
          exact ⟨by omega, by rw [hcs]; omega, LEV_cons k3 r3⟩
      · by_cases hm1 : sg n Y pS = -nI 1
        · have hcs : (csK ++ [-22] ++ []).length = csK.length + 1 := by simp
          have happ : ∀ (g : Nat → Int32) (s : Nat), app g s (csK ++ [-22] ++ []) = upg (app g s csK) (s + csK.length) (-22) := fun g s => by
            rw [List.append_nil, app_app]; rfl
          refine ⟨true, pS, csK ++ [-22] ++ [], oW cc vv (fun _ => none), fun N c s g fu i hN hC hs hi hfu => ⟨fun _ => ?_, fun e => (by cases e)⟩, fun N q bg m L q1 fu h v hN hM hL h13 hfu => ⟨fun _ => ?_, fun e => (by cases e)⟩, fun _ => ⟨by omega, by rw [hcs]; omega, LEV_cons k3 LEV_nil⟩, z2⟩
          · obtain ⟨fu, rfl⟩ : ∃ z, fu = z + 1 := ⟨fu - 1, by omega⟩
            rw [hc0 N c s g fu i hN hC hs hi, if_neg h59, ob_e, if_pos (by decide), ta_peek hN hX hC z2, hss, ob_e, hm1, if_pos m1e, gd_t (by decide), hcs, happ]; rfl
          · obtain ⟨fu, rfl⟩ : ∃ z, fu = z + 1 := ⟨fu - 1, by omega⟩
            obtain ⟨h1, e, hh⟩ := hm0 N q bg m L h v hN hM hL h13
            refine ⟨h1, ?_⟩
            rw [e, obv_e, f_Mo_goThrough_L32, mQ_11, if_pos m1e, mo_look hN hX (MT_F hM) K4, hpS, ob_e, if_neg (show ¬ sg n Y pS = 59 from h59)]
            unfold f_Mo_goThrough_B66
            rw [mQ_11, if_pos m1e, mo_look hN hX (MT_F hM) z2, hss, ob_e, if_pos (show sg n Y pS = -1 from hm1)]
            by_cases a1 : h = 0
            · by_cases a2 : cc L = 0
              · rw [if_pos a1, if_pos a2, if_pos a1, oW_0 a2]; rfl
              · rw [if_pos a1, if_neg a2, if_pos a1, oW_1 a2]; rfl
            · rw [if_neg a1, if_neg a1]
        · refine ⟨false, pS, [], fun _ => none, fun N c s g fu i hN hC hs hi hfu => ⟨fun e => (by cases e), fun _ => ?_⟩, fun N q bg m L q1 fu h v hN hM hL h13 hfu => ⟨fun e => (by cases e), fun _ => ?_⟩, fun e => (by cases e), z2⟩
          · obtain ⟨fu, rfl⟩ : ∃ z, fu = z + 1 := ⟨fu - 1, by omega⟩
            refine ⟨s + csK.length + 1, upg (app g s csK) (s + csK.length) (-22), ?_⟩
            rw [hc0 N c s g fu i hN hC hs hi, if_neg h59, ob_e, if_pos (by decide), ta_peek hN hX hC z2, hss, ob_e, if_neg (show ¬ sg n Y pS = -1 from hm1), gd_t (by decide)]; rfl
          · obtain ⟨fu, rfl⟩ : ∃ z, fu = z + 1 := ⟨fu - 1, by omega⟩
            obtain ⟨h1, e, hh⟩ := hm0 N q bg m L h v hN hM hL h13
            refine ⟨h1, (if h = 0 then (if cc L = 0 then v else vv L) else v), pS, nI 0, ?_⟩
            rw [e, obv_e, f_Mo_goThrough_L32, mQ_11, if_pos m1e, mo_look hN hX (MT_F hM) K4, hpS, ob_e, if_neg (show ¬ sg n Y pS = 59 from h59)]
            unfold f_Mo_goThrough_B66
            rw [mQ_11, if_pos m1e, mo_look hN hX (MT_F hM) z2, hss, ob_e, if_neg (show ¬ sg n Y pS = -1 from hm1), mo_fails, ob_e]
