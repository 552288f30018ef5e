/-! ===== probe ===== -/
theorem lpe {α β : Type} (L : Nat → Nat → α → β) (n : Nat) (E : α → β) (P : Nat → α → Prop) (he : ∀ fu a, P n a → L (fu + 1) n a = E a) (hs : ∀ fu k a, k < n → P k a → ∃ a', L (fu + 1) k a = L fu (k + 1) a' ∧ P (k + 1) a') : ∀ m k fu a, k + m = n → m < fu → P k a → ∃ a', L fu k a = E a' ∧ P n a' := by
  intro m
  induction m with
  | zero =>
    intro k fu a hk hf hp
    obtain ⟨fu, rfl⟩ : ∃ q, fu = q + 1 := ⟨fu - 1, by omega⟩
    have : k = n := by omega
    subst this
    exact ⟨a, he fu a hp, hp⟩
  | succ m ih =>
    intro k fu a hk hf hp
    obtain ⟨fu, rfl⟩ : ∃ q, fu = q + 1 := ⟨fu - 1, by omega⟩
    obtain ⟨a', h1, h2⟩ := hs fu k a (by omega) hp
    rw [h1]
    exact ih (k + 1) fu a' (by omega) (by omega) h2
def absI (v : Int32) : Int32 := if 0 ≤ v then v else 0 - v
def apV (F R : Nat) : Int32 := 2 * nI F - nI R
theorem apV_1 {F R : Nat} : apV (F + 1) (R + 1) = apV F R + 1 := by
  unfold apV
  rw [← nI_add, ← nI_add, show nI 1 = (1 : Int32) from rfl]
  grind
theorem apV_2 {F R : Nat} : apV F (R + 1) = apV F R + (-1) := by
  unfold apV
  rw [← nI_add, show nI 1 = (1 : Int32) from rfl]
  grind
theorem mo_probe_e {N cd G R t fu : Nat} {x2 x3 v : Int32} {m0 : MM} {k31 : Int32 → Int32 → Int32 → Int32 → MM → Option (Int32 × MM)} (q1 : f_Mo_goneOf N (nI cd) m0 = some (nI G, m0)) (q2 : f_Mo_rowsOf N (nI G) m0 = some (nI R, m0)) (hR : R ≤ 1728) : f_Mo_probe_L46 N k31 (fu + 1) (nI cd) x2 x3 (nI t) v (nI R) m0 = if x2 = -1 then k31 (nI cd) (nI t) (absI v) (nI t + 1) m0 else if absI v < x3 then k31 (nI cd) (nI t) (absI v) (nI t + 1) m0 else k31 (nI cd) x2 x3 (nI t + 1) m0 := by
  rw [f_Mo_probe_L46, q1, ob_e, q2, ob_e, if_pos ((nI_leI (by omega) (by omega)).mpr (Nat.le_refl _))]
  rfl
theorem mo_probe_s {N cd G R t row fu : Nat} {x2 x3 v : Int32} {m0 : MM} {k31 : Int32 → Int32 → Int32 → Int32 → MM → Option (Int32 × MM)} (q1 : f_Mo_goneOf N (nI cd) m0 = some (nI G, m0)) (q2 : f_Mo_rowsOf N (nI G) m0 = some (nI R, m0)) (hR : R ≤ 1728) (hrow : row < R) {b b2 : Bool} (f0 : f_Mo_isRow N (nI cd) (nI row) m0 = some (bI b, m0)) (f1 : f_Mo_fitsBy N (nI cd) (nI row) (nI t) m0 = some (bI b2, m0)) : f_Mo_probe_L46 N k31 (fu + 1) (nI cd) x2 x3 (nI t) v (nI row) m0 = f_Mo_probe_L46 N k31 fu (nI cd) x2 x3 (nI t) (if b = true then (if b2 = true then v + 1 else v + (-1)) else v) (nI (row + 1)) m0 := by
  rw [f_Mo_probe_L46, q1, ob_e, q2, ob_e, if_neg (fun q => by have := (nI_leI (by omega) (by omega)).mp q; omega), f0, ob_e, f1, ob_e, l_1, nI_add]
  cases b <;> cases b2 <;> rfl
theorem GQ_345 {c0 μ : MM} {g : Nat → Int32} {cd n j : Nat} {v : Int32} (h : GQ c0 g cd n μ) : GQ c0 g cd n (mm_I μ 345 j v) := by
  obtain ⟨h1, h2⟩ := h
  refine ⟨fun a ha hb => by rw [gI_o hb]; exact h1 a ha hb, ?_⟩
  rw [gI_o (by decide)]
  exact h2
theorem RQ_345 {μ : MM} {g : Nat → Int32} {cd n row j : Nat} {v : Int32} (h : RQ g cd n row μ) : RQ g cd n row (mm_I μ 345 j v) := by
  unfold RQ
  rw [gI_o (by decide)]
  exact h
theorem gu_even {N nc nt cd n R st : Nat} {c0 μ : MM} {g T F mt mc mf : Nat → Int32} (hN : 15000 ≤ N) (hL : LK nc nt g T F c0) (h : GQ c0 g cd n μ) (hn : n ≤ 3) (hng : n = gon g cd) (hcd : cd < nc) (hR : 12 ^ n = R) (hR2 : R ≤ 1728) (hs : NN1 st nc nt mt mc mf) (hc1 : c0.1 341 0 = nI st) (hc2 : ∀ i, i < st → c0.1 342 i = mt i ∧ c0.1 343 i = mc i ∧ c0.1 344 i = mf i) : ∃ μ', f_Gu_evenThing N μ = f_Gu_evenThing_L98 N N (nI (cn (irw g T mt mc mf st cd) R)) (-1) 0 0 μ' ∧ GQ c0 g cd n μ' ∧ ∀ t, t < nt → μ'.1 345 t = nI (cn (fun r => irw g T mt mc mf st cd r && fby g T cd r t) R) := by
  have hnt := hL.1.2.2.2.1
  have h8 := lpe (fun fu j (a : MM) => f_Gu_evenThing_L2 N fu (nI j) a) 8 (fun a => f_Gu_evenThing_L25 N N 0 0 a) (fun j a => GQ c0 g cd n a ∧ ∀ i, i < j → a.1 345 i = nI 0) (fun fu a ha => by
      simp (disch := omega) only [f_Gu_evenThing_L2, l_8, nI_leI, Nat.le_refl, if_true]) (fun fu j a hj ha => by
      refine ⟨mm_I a 345 j (nI 0), ?_, GQ_345 ha.1, fun i hi => ?_⟩
      · simp (disch := omega) only [f_Gu_evenThing_L2, l_8, nI_leI, if_neg, gd_in, nI_clamp, wr_e, l_1, l_0, nI_add]
      · rw [gI_s]
        by_cases e : i = j
        · rw [if_pos e]
        · rw [if_neg e]; exact ha.2 i (by omega)) 8 0 N μ (by omega) (by omega) ⟨h, fun i hi => absurd hi (by omega)⟩
  obtain ⟨m1, a1, a2, a3⟩ := h8
  have hr9 := lpe (fun fu row (a : MM) => f_Gu_evenThing_L25 N fu (nI (cn (irw g T mt mc mf st cd) row)) (nI row) a) R (fun a => f_Gu_evenThing_L98 N N (nI (cn (irw g T mt mc mf st cd) R)) (-1) 0 0 a) (fun row a => GQ c0 g cd n a ∧ ∀ t, t < nt → a.1 345 t = nI (cn (fun r => irw g T mt mc mf st cd r && fby g T cd r t) row)) (fun fu a ha => by
      have h7 := ha.1.2.2.2.1
      rw [hR] at h7
      simp (disch := omega) only [f_Gu_evenThing_L25, h7, nI_leI, Nat.le_refl, if_true]) (fun fu row a hrow ha => by
      obtain ⟨b1, b2⟩ := ha
      have h7 := b1.2.2.2.1
      rw [hR] at h7
      obtain ⟨μ', f1, f2, f3, f4⟩ := gu_isRow hN hL b1 hn hng hcd (show row < 1728 by omega) hs hc1 hc2
      by_cases hb : irw g T mt mc mf st cd row = true
      · rw [hb] at f1
        have hL2 : LK nc nt g T F μ' := LK_of hL (fun x hx => f2.1 x (by omega) (by omega))
        have hin := lpe (fun f t (z : MM) => f_Gu_evenThing_L46 N (f_Gu_evenThing_L25 N fu) f (nI (cn (irw g T mt mc mf st cd) row + 1)) (nI row) (nI t) z) nt (fun z => f_Gu_evenThing_L25 N fu (nI (cn (irw g T mt mc mf st cd) row + 1)) (nI (row + 1)) z) (fun t z => GQ c0 g cd n z ∧ RQ g cd n row z ∧ (∀ j, j < t → z.1 345 j = nI (cn (fun r => irw g T mt mc mf st cd r && fby g T cd r j) (row + 1))) ∧ ∀ j, t ≤ j → j < nt → z.1 345 j = nI (cn (fun r => irw g T mt mc mf st cd r && fby g T cd r j) row)) (fun f z hz => by
            have h0 : z.1 23 0 = nI nt := by rw [hz.1.1 23 (by decide) (by decide)]; exact hL.1.2.1
            simp (disch := omega) only [f_Gu_evenThing_L46, h0, nI_leI, Nat.le_refl, if_true, l_1, nI_add]) (fun f t z ht hz => by
            obtain ⟨z1, z2, z3, z4⟩ := hz
            have h0 : z.1 23 0 = nI nt := by rw [z1.1 23 (by decide) (by decide)]; exact hL.1.2.1
            have hL3 : LK nc nt g T F z := LK_of hL (fun x hx => z1.1 x (by omega) (by omega))
            have w := gu_would2 (N := N) hL3 z2 hng ht
            have z5 := z4 t (Nat.le_refl _) ht
            refine ⟨mm_I z 345 t (nI (cn (fun r => irw g T mt mc mf st cd r && fby g T cd r t) (row + 1))), ?_, GQ_345 z1, RQ_345 z2, fun j hj => ?_, fun j hj hj2 => ?_⟩
            · rw [cn, hb, Bool.true_and]
              simp (disch := omega) only [f_Gu_evenThing_L46, f_Gu_evenThing_B77, h0, nI_leI, if_neg, gd_in, nI_clamp, w, ob_e, z5, wr_e, l_1, l_0, nI_add]
              cases fby g T cd row t
              · simp only [bI_f, if_true, nI_add, Bool.false_eq_true, if_false]
              · simp (disch := omega) only [bI_t, nI_eq, if_neg, if_true, nI_add]
            · rw [gI_s]
              by_cases e : j = t
              · rw [if_pos e, e]
              · rw [if_neg e]; exact z3 j (by omega)
            · rw [gI_s, if_neg (by omega)]; exact z4 j (by omega) hj2) nt 0 N μ' (by omega) (by omega) ⟨f2, f3, fun j hj => absurd hj (by omega), fun j _ hj => by rw [f4]; exact b2 j hj⟩
        obtain ⟨z, w1, w2, w3, w4, w5⟩ := hin
        refine ⟨z, ?_, w2, w4⟩
        rw [cn, hb, if_pos rfl]
        refine Eq.trans ?_ w1
        simp (disch := omega) only [f_Gu_evenThing_L25, h7, nI_leI, if_neg, f1, ob_e, bI_t, l_0, l_1, nI_eq, nI_add]
      · have hb' : irw g T mt mc mf st cd row = false := by simpa using hb
        rw [hb'] at f1
        refine ⟨μ', ?_, f2, fun t ht => ?_⟩
        · rw [cn, hb', if_neg (by decide)]
          simp (disch := omega) only [f_Gu_evenThing_L25, h7, nI_leI, if_neg, f1, ob_e, bI_f, l_0, l_1, if_true, nI_add]
          rfl
        · rw [f4, b2 t ht, cn, hb', Bool.false_and, if_neg (by decide), Nat.add_zero]) R 0 N m1 (by omega) (by omega) ⟨a2, fun t ht => a3 t (by omega)⟩
  obtain ⟨m2, b1, b2, b3⟩ := hr9
  exact ⟨m2, a1.trans b1, b2, b3⟩
theorem op_probe {k N : Nat} (hN : 15000 ≤ N) (x1 : Int32) : Sp k (f_Ro_probe N x1) (f_Mo_probe N x1) := by
  intro c m h
  replace h : Rel k c (mm_I m 355 0 0) := h
  have hid : mm_I (mm_I m 355 0 0) 355 0 0 = mm_I m 355 0 0 := mm_Id (by rw [gI_s, if_pos rfl])
  unfold f_Mo_probe
  rw [wr_e]
  generalize mm_I m 355 0 0 = m0 at h hid ⊢
  have hr := h
  obtain ⟨nc, nt, st, hL, hM, hS, c0, m45, hcc⟩ := ask_2 h
  have hm27 := hM.1
  have hm26 := hM.2.1
  have hnc := hM.2.2.2.2.2.1
  have hnt := hM.2.2.2.2.2.2
  unfold f_Ro_probe
  rcases pk_ix x1 (n := nc) (by omega) with hy | hy | ⟨cd, hc, rfl⟩
  · exact no_op (-1) hr (by rw [gu_aim_f hL.1 (Or.inl hy), ob_e]; rfl) (by rw [mo_canAsk_f hm27 (Or.inl hy), ob_e]; rfl)
  · exact no_op (-1) hr (by rw [gu_aim_f hL.1 (Or.inr hy), ob_e]; rfl) (by rw [mo_canAsk_f hm27 (Or.inr hy), ob_e]; rfl)
  · have hca := mo_canAsk hN hM hc
    rw [hca, ob_e]
    by_cases h3 : gon (m0.1 368) cd ≤ 3
    · obtain ⟨c1, a1, a2⟩ := gu_aim_t hN hL hc h3
      have hp := p12 _ h3
      have q1 : f_Mo_goneOf N (nI cd) m0 = some (nI (gon (m0.1 368) cd), m0) := (mo_gone hN hM hc).1
      have f0 := fun row hrow => mo_isRow (row := row) hN hM hS m45 hc hrow h3
      have fb := fun row t hrow ht => mo_fitsBy (row := row) (t := t) hN hM hc ht hrow h3
      generalize hG : gon (m0.1 368) cd = G at a2 hp q1 hca
      have h3' : G ≤ 3 := hG ▸ h3
      obtain ⟨R, hR⟩ : ∃ R, 12 ^ G = R := ⟨_, rfl⟩
      have q2 : f_Mo_rowsOf N (nI G) m0 = some (nI R, m0) := hR ▸ mo_rows h3'
      rw [hR] at hp
      obtain ⟨c2, d1, d2, d3⟩ := gu_even hN hL a2 h3' hG.symm hc hR hp.2 hS c0 hcc
      generalize hI : irw (m0.1 368) (m0.1 362) (m0.1 371) (m0.1 372) (m0.1 373) st cd = I at d1 d3
      have f0' : ∀ row, row < 1728 → f_Mo_isRow N (nI cd) (nI row) m0 = some (bI (I row), m0) := fun row hrow => by rw [← hI]; exact f0 row hrow
      have hcl := cn_le I R
      have honce : f_Mo_once N (nI cd) (-1) m0 = some (nI (cn I R), m0) := by
        unfold f_Mo_once
        rw [wr_e, hid, hca, ob_e, decide_eq_true h3', if_neg (show ¬ bI true = 0 by decide), if_pos (by decide)]
        obtain ⟨y, w1, w2⟩ := lpe (fun fu row (y : Nat) => f_Mo_once_L25 N fu (nI cd) (-1) (nI y) (nI row) m0) R (fun y => some (nI y, m0)) (fun row y => y = cn I row) (fun fu y hy => by
            show f_Mo_once_L25 N (fu + 1) (nI cd) (-1) (nI y) (nI R) m0 = _
            rw [mo_once_e q1 q2 hp.2, if_pos rfl]) (fun fu row y hrow hy => by
            have hy2 := cn_le I row
            refine ⟨if I row = true then y + 1 else y, ?_, ?_⟩
            · show f_Mo_once_L25 N (fu + 1) (nI cd) (-1) (nI y) (nI row) m0 = f_Mo_once_L25 N fu (nI cd) (-1) (nI (if I row = true then y + 1 else y)) (nI (row + 1)) m0
              rw [mo_once_s q1 q2 hp.2 hrow (f0' row (by omega))]
              cases I row
              · rfl
              · rw [if_pos rfl, if_pos rfl, if_neg (fun e => by rw [show (-1 : Int32) = -nI 1 from rfl, m_eq (by omega)] at e; exact e), l_1, nI_add]
            · rw [hy, cn]; split <;> rfl) R 0 N 0 (by omega) (by omega) rfl
        rw [w2] at w1
        exact w1
      rw [a1, ob_e, decide_eq_true h3', if_neg (show ¬ nI 1 = 0 by decide), if_neg (show ¬ bI true = 0 by decide), honce, ob_e, d1]
      have hmi : ∀ (t fb2 : Nat) (y : Int32 × Int32), t < nt → f_Mo_probe_L46 N (f_Mo_probe_L31 N fb2) N (nI cd) y.1 y.2 (nI t) 0 0 m0 = if y.1 = -1 then f_Mo_probe_L31 N fb2 (nI cd) (nI t) (absI (apV (cn (fun r => I r && fby (m0.1 368) (m0.1 362) cd r t) R) (cn I R))) (nI t + 1) m0 else if absI (apV (cn (fun r => I r && fby (m0.1 368) (m0.1 362) cd r t) R) (cn I R)) < y.2 then f_Mo_probe_L31 N fb2 (nI cd) (nI t) (absI (apV (cn (fun r => I r && fby (m0.1 368) (m0.1 362) cd r t) R) (cn I R))) (nI t + 1) m0 else f_Mo_probe_L31 N fb2 (nI cd) y.1 y.2 (nI t + 1) m0 := fun t fb2 y ht => by
        obtain ⟨v, w1, w2⟩ := lpe (fun fu row (v : Int32) => f_Mo_probe_L46 N (f_Mo_probe_L31 N fb2) fu (nI cd) y.1 y.2 (nI t) v (nI row) m0) R (fun v => if y.1 = -1 then f_Mo_probe_L31 N fb2 (nI cd) (nI t) (absI v) (nI t + 1) m0 else if absI v < y.2 then f_Mo_probe_L31 N fb2 (nI cd) (nI t) (absI v) (nI t + 1) m0 else f_Mo_probe_L31 N fb2 (nI cd) y.1 y.2 (nI t + 1) m0) (fun row v => v = apV (cn (fun r => I r && fby (m0.1 368) (m0.1 362) cd r t) row) (cn I row)) (fun fu v hv => mo_probe_e q1 q2 hp.2) (fun fu row v hrow hv => ⟨_, mo_probe_s q1 q2 hp.2 hrow (f0' row (by omega)) (fb row t (by omega) ht), by
            rw [hv, cn, cn]
            cases I row <;> cases fby (m0.1 368) (m0.1 362) cd row t
            · rfl
            · rfl
            · simp only [if_true, Bool.true_and, Bool.false_eq_true, if_false, Nat.add_zero]; exact apV_2.symm
            · simp only [if_true, Bool.true_and]; exact apV_1.symm⟩) R 0 N 0 (by omega) (by omega) (show (0 : Int32) = apV 0 0 by decide)
        rw [w2] at w1
        exact w1
      by_cases hz : cn I R = 0
      · rw [hz, if_pos (show nI 0 = 0 from rfl)]
        obtain ⟨N1, hN1⟩ : ∃ q, N = q + 1 := ⟨N - 1, by omega⟩
        refine ⟨-1, c2, m0, ?_, rfl, Rel_k (Rel_gu hr d2.1 d2.2.1) (by omega)⟩
        have : f_Gu_evenThing_L98 N N (nI 0) (-1) 0 0 c2 = some (-1, c2) := by
          rw [hN1]
          rw [f_Gu_evenThing_L98]
          split
          · rfl
          · rw [if_pos (by decide)]
        rw [this, ob_e]
      · have hzI : ¬ nI (cn I R) ≤ 0 := fun q => by
          rw [l_0, nI_leI (by omega) (by omega)] at q; omega
        have hzE : ¬ nI (cn I R) = 0 := fun q => by
          rw [l_0, nI_eq (by omega) (by omega)] at q; omega
        rw [if_neg hzE]
        have h0 : c2.1 23 0 = nI nt := by rw [d2.1 23 (by decide) (by decide)]; exact hL.1.2.1
        refine lp_2 (fun fu t (p : Int32 × Int32) => ob (f_Gu_evenThing_L98 N fu (nI (cn I R)) p.1 p.2 (nI t) c2) fun t15 μ2z => (some (t15, μ2z) : Option (Int32 × MM))) (fun fu t (y : Int32 × Int32) => f_Mo_probe_L31 N fu (nI cd) y.1 y.2 (nI t) m0) nt (fun _ p y => p = y) (fun X Y => ∃ r c' m', X = some (r, c') ∧ Y = some (r, m') ∧ Rel (k + 6) c' m') (fun fa fb p y hR => ?_) (fun fa fb2 t p y ht hR => ?_) nt 0 N N (-1, 0) (-1, 0) (by omega) (by omega) (by omega) rfl
        · subst hR
          simp (disch := omega) only [f_Gu_evenThing_L98, f_Mo_probe_L31, h0, hm26, nI_leI, Nat.le_refl, if_true, ob_e]
          exact ⟨_, _, _, rfl, rfl, Rel_k (Rel_gu hr d2.1 d2.2.1) (by omega)⟩
        · subst hR
          have hB : f_Mo_probe_L31 N (fb2 + 1) (nI cd) p.1 p.2 (nI t) m0 = f_Mo_probe_L46 N (f_Mo_probe_L31 N fb2) N (nI cd) p.1 p.2 (nI t) 0 0 m0 := by
            simp (disch := omega) only [f_Mo_probe_L31, hm26, nI_leI, if_neg]
          have hA : f_Gu_evenThing_L98 N (fa + 1) (nI (cn I R)) p.1 p.2 (nI t) c2 = if p.1 = -1 then f_Gu_evenThing_L98 N fa (nI (cn I R)) (nI t) (absI (apV (cn (fun r => I r && fby (m0.1 368) (m0.1 362) cd r t) R) (cn I R))) (nI t + 1) c2 else if p.2 ≤ absI (apV (cn (fun r => I r && fby (m0.1 368) (m0.1 362) cd r t) R) (cn I R)) then f_Gu_evenThing_L98 N fa (nI (cn I R)) p.1 p.2 (nI t + 1) c2 else f_Gu_evenThing_L98 N fa (nI (cn I R)) (nI t) (absI (apV (cn (fun r => I r && fby (m0.1 368) (m0.1 362) cd r t) R) (cn I R))) (nI t + 1) c2 := by
            rw [f_Gu_evenThing_L98, h0, if_neg (fun q => by have := (nI_leI (by omega) (by omega)).mp q; omega), if_neg hzI, gd_in (by omega) (by omega), nI_clamp (by omega), d3 t ht]
            rfl
          left
          simp only [hA, hB, hmi t fb2 p ht, l_1, nI_add]
          generalize absI (apV (cn (fun r => I r && fby (m0.1 368) (m0.1 362) cd r t) R) (cn I R)) = V
          by_cases hu : p.1 = -nI 1
          · simp only [hu, if_true]
            exact ⟨(nI t, V), (nI t, V), rfl, rfl, rfl⟩
          · by_cases hv : V < p.2
            · simp only [hu, hv, eq_false (fa_of_lt hv).2.1, if_true, if_false]
              exact ⟨(nI t, V), (nI t, V), rfl, rfl, rfl⟩
            · simp only [hu, hv, eq_true (fa_of_nlt hv), if_true, if_false]
              exact ⟨p, p, rfl, rfl, rfl⟩
    · obtain ⟨c1, a1, a2, a3⟩ := gu_aim_g hN hL hc (by omega)
      rw [a1, ob_e, decide_eq_false h3]
      exact ⟨-1, c1, m0, rfl, rfl, Rel_k (Rel_gu hr a2 a3) (by omega)⟩
