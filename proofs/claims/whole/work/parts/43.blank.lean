/-! ===== blank ===== -/
theorem n_369' : sh_n 369 = 304 := by decide +kernel
/-- cells that the relation doesn't ask of -/
theorem Rel_scr {k : Nat} {c c' m m' : MM} (h : Rel k c m) (hc : ∀ a, a ≠ 35 → a ≠ 42 → a ≠ 50 → c'.1 a = c.1 a) (hm : ∀ a, a ≠ 355 → a ≠ 359 → a ≠ 369 → m'.1 a = m.1 a) (hm5 : ∀ j, scr j → m'.1 355 j = m.1 355 j) : Rel k c' m' := by
  obtain ⟨nc, nt, lg, lgI, a, nx, tl, lc, rc, st, cl, h⟩ := h
  obtain ⟨-, -, -, -, h5, h6, h7, h8, h9, h10, h11, -⟩ := id h
  have e368 := hm 368 (by decide) (by decide) (by decide)
  have e370 := hm 370 (by decide) (by decide) (by decide)
  refine ⟨nc, nt, lg, lgI, a, nx, tl, lc, rc, st, cl, RB_of h (Nat.le_refl _) (fun i hi hi2 => hc i (by omega) (by omega) (by omega)) (fun i hi => hm i (by omega) (by omega) (by omega)) (fun j hj => hm5 j (by unfold scr; omega)) ?_ (by rw [e368]; exact h6) (by rw [e368]; exact h7) h8 ?_ (by rw [e368]; exact h10) ?_⟩
  · rw [e368, hc 27 (by decide) (by decide) (by decide), hc 29 (by decide) (by decide) (by decide), hc 30 (by decide) (by decide) (by decide), hc 31 (by decide) (by decide) (by decide), hc 32 (by decide) (by decide) (by decide), hc 33 (by decide) (by decide) (by decide)]
    exact h5
  · rw [e368, e370, hc 49 (by decide) (by decide) (by decide)]; exact h9
  · rw [e368, e370, hc 51 (by decide) (by decide) (by decide), hm5 37 (by unfold scr; omega)]
    exact HB_c h11 (fun i i1 i2 => hc i (by omega) (by omega) (by omega))
theorem lef_0 (g : Nat → Int32) (c : Nat) : ∀ m, (fo (fun k n => if iN g c k = 0 then n else n + 1) m 0 0 = 0 ↔ sm (fun k => iN g c k) m = 0) := by
  intro m
  induction m with
  | zero => exact ⟨fun _ => rfl, fun _ => rfl⟩
  | succ m ih =>
    rw [fo_succ, sm, Nat.zero_add]
    by_cases h : iN g c m = 0
    · rw [if_pos h, ih]; omega
    · rw [if_neg h]; omega
theorem sm_9 {g : Nat → Int32} {c : Nat} : ∀ {m : Nat}, (∀ k, k < m → iN g c k ≤ 9) → sm (fun k => iN g c k) m ≤ 9 * m := by
  intro m
  induction m with
  | zero => intro _; exact Nat.le_refl _
  | succ m ih =>
    intro h
    have h1 := ih (fun k hk => h k (by omega))
    have h2 := h m (by omega)
    rw [sm]; omega
theorem op_blank {k N : Nat} (hN : 15000 ≤ N) (hk : k ≤ 3072) (x1 : Int32) : Sp k (f_Ro_blank N x1) (f_Mo_blank N x1) := by
  intro c m h
  replace h : Rel k c (mm_I m 355 0 0) := h
  unfold f_Mo_blank
  rw [wr_e]
  generalize mm_I m 355 0 0 = m0 at h ⊢
  have hr := h
  obtain ⟨nc, nt, lg, lgI, a, nx, tl, lc, rc, st, cl, h⟩ := h
  obtain ⟨hL, hM⟩ := RB_L h
  obtain ⟨hm27, hm26, hW, hT, hF, hnc, hnt⟩ := id hM
  have hdD := h.2.2.2.2.2.2.2.2.2.1
  obtain ⟨lo, hlo, hKC, hKM⟩ := law_2 h.2.2.2.2.2.2.2.2.2.2.2.2.2.1
  unfold f_Ro_blank
  rcases pk_ix x1 (n := nc) (by omega) with hx | hx | ⟨j, hj, rfl⟩
  · exact no_op (-1) hr (by rw [co_isCard_f hL.1 (Or.inl hx), ob_e]; rfl) (by rw [mo_isCard_f hm27 (Or.inl hx), ob_e]; rfl)
  · exact no_op (-1) hr (by rw [co_isCard_f hL.1 (Or.inr hx), ob_e]; rfl) (by rw [mo_isCard_f hm27 (Or.inr hx), ob_e]; rfl)
  · rw [co_isCard_t hL.1 hj, ob_e, mo_isCard_t hm27 hnc hj, ob_e, if_neg (show ¬ nI 1 = 0 by decide), if_neg (show ¬ nI 1 = 0 by decide)]
    obtain ⟨m1, l1, l2, l3, l4⟩ := mo_copies (N := N) (q0 := 368) (q1 := 369) (m := m0) hN n_368 n_369' (by decide)
    rw [l1, obv_e]
    have hra : RA (m0.1 368) (m1.1 369) := l4
    obtain ⟨⟨-, -, -, -, hpm, hf⟩, ⟨hs, hs2, hs3, hs4⟩, -⟩ := id hL
    obtain ⟨-, qL, qL9, -, -, qd, qd6⟩ := id hW
    obtain ⟨hz, hz1, hz6, hu, hk9⟩ := hW.1 j hj
    obtain ⟨s1, s2, s3⟩ := hs j hj
    -- the ink now
    obtain ⟨c1, a1, hc1, a3⟩ := lpe (fun fu p (x : MM) => f_Ag_daysTillBlank_L21 N fu (nI j) (nI (zN (m0.1 368) j)) (nI p) x) (zN (m0.1 368) j) (fun x => f_Ag_daysTillBlank_L58 N N (nI j) (nI (zN (m0.1 368) j)) (nI 0) x) (fun p x => (∀ a, a ≠ 50 → x.1 a = c.1 a) ∧ ∀ q, q < p → x.1 50 q = nI (iN (m0.1 368) j q)) (fun fu x hx => by
        show f_Ag_daysTillBlank_L21 N (fu + 1) _ _ _ x = _
        rw [f_Ag_daysTillBlank_L21, if_pos ((nI_leI (by omega) (by omega)).mpr (Nat.le_refl _))]; rfl) (fun fu p x hp hx => by
        obtain ⟨t1, t2, t3⟩ := s3 p hp
        obtain ⟨-, -, -, -, -, hi, hi9⟩ := hk9 p hp
        refine ⟨mm_I x 50 p (nI (iN (m0.1 368) j p)), ?_, fun a ha => by rw [gI_o ha]; exact hx.1 a ha, fun q hq => ?_⟩
        · have e : x.1 32 (6 * j + p) = nI (iN (m0.1 368) j p) := by rw [hx.1 32 (by decide), t3]; exact hi
          simp (disch := omega) only [f_Ag_daysTillBlank_L21, nI_leI, if_neg, l_6, l_1, pk_mul, nI_add, Nat.mul_comm j 6, gd_in, nI_clamp, wr_e, e]
        · rw [gI_s]
          by_cases e : q = p
          · rw [if_pos e, e]
          · rw [if_neg e]; exact hx.2 q (by omega)) (zN (m0.1 368) j) 0 N c (by omega) (by omega) ⟨fun _ _ => rfl, fun q hq => absurd hq (by omega)⟩
    have hstart : f_Ag_daysTillBlank N (nI j) c = f_Ag_daysTillBlank_L58 N N (nI j) (nI (zN (m0.1 368) j)) (nI 0) c1 := by
      unfold f_Ag_daysTillBlank
      rw [gd_in (by omega) (by omega), nI_clamp (by omega), s1, hz]
      exact a1
    rw [hstart]
    -- side by side
    refine lp_2 (fun fu b (x : MM) => ob (f_Ag_daysTillBlank_L58 N fu (nI j) (nI (zN (m0.1 368) j)) (nI b) x) fun t15 μ2z => (some (t15, μ2z) : Option (Int32 × MM))) (fun fu b (y : MM) => f_Mo_blank_L28 N fu (nI j) (nI b) y) 100 (fun b x y => (∀ a, a ≠ 35 → a ≠ 42 → a ≠ 50 → x.1 a = c.1 a) ∧ (∀ a, a ≠ 355 → a ≠ 359 → a ≠ 369 → y.1 a = m0.1 a) ∧ (∀ q, scr q → y.1 355 q = m0.1 355 q) ∧ RW nc nt (y.1 369) ∧ zN (y.1 369) j = zN (m0.1 368) j ∧ liN (y.1 369) = liN (m0.1 368) ∧ (∀ q, q < zN (m0.1 368) j → oN (y.1 369) j q = oN (m0.1 368) j q) ∧ dyN (y.1 369) = dyN (m0.1 368) + b ∧ ∀ q, q < zN (m0.1 368) j → x.1 50 q = nI (iN (y.1 369) j q)) (fun X Y => ∃ r c' m', X = some (r, c') ∧ Y = some (r, m') ∧ Rel (k + 6) c' m') (fun fa fb x y hR => ?_) (fun fa fb b x y hb hR => ?_) 100 0 N N c1 m1 (by omega) (by omega) (by omega) ⟨fun a _ _ a3' => hc1 a a3', fun a _ _ h9 => l3 a h9, fun q _ => by rw [l3 355 (by decide)], RW_g hra hnc hW, zN_g hra (by omega), liN_g hra, fun q hq => oN_g hra (by omega) (by omega), by rw [dyN_g hra]; rfl, fun q hq => by rw [a3 q hq, iN_g hra (by omega) (by omega)]⟩
    · obtain ⟨e1, e2, e3, -⟩ := hR
      show ∃ r c' m', ob (f_Ag_daysTillBlank_L58 N (fa + 1) _ _ (nI 100) x) _ = _ ∧ f_Mo_blank_L28 N (fb + 1) _ (nI 100) y = _ ∧ _
      rw [f_Ag_daysTillBlank_L58, f_Mo_blank_L28, if_pos (by decide), if_pos (by decide), ob_e]
      exact ⟨_, _, _, rfl, rfl, Rel_k (Rel_scr hr e1 e2 e3) (by omega)⟩
    · obtain ⟨e1, e2, e3, e4, e5, e6, e7, e8, e9⟩ := hR
      generalize hG : y.1 369 = G at *
      have hi9 : ∀ q, q < zN (m0.1 368) j → iN G j q ≤ 9 := fun q hq => ((e4.1 j hj).2.2.2.2 q (by omega)).2.2.2.2.2.2
      have hs9 := fun p (hp : p ≤ zN (m0.1 368) j) => sm_9 (g := G) (c := j) (m := p) (fun q hq => hi9 q (by omega))
      -- the program's inner walk
      obtain ⟨w, w1, w2, w3, w4⟩ := lpe (fun f p (w : MM) => f_Ag_daysTillBlank_L71 N (f_Ag_daysTillBlank_L58 N fa) f (nI j) (nI (zN (m0.1 368) j)) (nI b) (nI (sm (fun q => iN G j q) p)) (nI p) w) (zN (m0.1 368) j) (fun w => if sm (fun q => iN G j q) (zN (m0.1 368) j) = 0 then some (nI b, w) else f_Ag_daysTillBlank_L58 N fa (nI j) (nI (zN (m0.1 368) j)) (nI (b + 1)) w) (fun p w => (∀ a, a ≠ 35 → a ≠ 42 → a ≠ 50 → w.1 a = c.1 a) ∧ (∀ q, q < p → w.1 50 q = nI (fdI lo (m0.1 365) G j q)) ∧ ∀ q, p ≤ q → q < zN (m0.1 368) j → w.1 50 q = nI (iN G j q)) (fun f w hw => by
          have := hs9 _ (Nat.le_refl _)
          show f_Ag_daysTillBlank_L71 N _ (f + 1) _ _ _ _ _ w = _
          rw [f_Ag_daysTillBlank_L71, if_pos ((nI_leI (by omega) (by omega)).mpr (Nat.le_refl _)), l_1, nI_add]
          by_cases q0 : sm (fun q => iN G j q) (zN (m0.1 368) j) = 0
          · rw [if_pos q0, if_pos (show nI (sm (fun q => iN G j q) (zN (m0.1 368) j)) = 0 by rw [q0]; rfl)]
          · rw [if_neg q0, if_neg (show ¬ nI (sm (fun q => iN G j q) (zN (m0.1 368) j)) = 0 from fun q => by rw [l_0, nI_eq (by omega) (by omega)] at q; exact q0 q)]) (fun f p w hp hw => by
          obtain ⟨v1, v2, v3⟩ := hw
          obtain ⟨ho, ho3, -, -, -, -, -⟩ := hk9 p hp
          obtain ⟨t1, t2, t3⟩ := s3 p hp
          have hcur := v3 p (Nat.le_refl _) hp
          obtain ⟨ww, r1, r2, r3⟩ := hKC N w j p (iN G j p) (dyN (m0.1 368) + b) (fN (m0.1 365) j) (liN (m0.1 368)) (oN (m0.1 368) j p) hN (fun a ha => v1 a (by omega) (by omega) (by omega)) (by omega) (by omega) (hi9 p hp) (by omega) (by rw [v1 26 (by decide) (by decide) (by decide), hf j hj]; exact (hF j hj).1) (hF j hj).2 (by rw [v1 27 (by decide) (by decide) (by decide), hs2]; exact qL) qL9 (by rw [v1 30 (by decide) (by decide) (by decide), t1]; exact ho) ho3
          have hfd : iN G j p - lo (iN G j p) (fN (m0.1 365) j) (liN (m0.1 368)) p (oN (m0.1 368) j p) (dyN (m0.1 368) + b) = fdI lo (m0.1 365) G j p := by
            unfold fdI; rw [e6, e7 p hp, e8]
          rw [hfd] at r1
          refine ⟨mm_I ww 50 p (nI (fdI lo (m0.1 365) G j p)), ?_, fun a b1 b2 b3 => by rw [gI_o b3, r2 a b1 b2]; exact v1 a b1 b2 b3, fun q hq => ?_, fun q hq hq2 => ?_⟩
          · have e27 : w.1 27 4 = nI (dyN (m0.1 368)) := by rw [v1 27 (by decide) (by decide) (by decide), hs4]; exact qd
            show f_Ag_daysTillBlank_L71 N _ (f + 1) _ _ _ _ _ w = _
            rw [f_Ag_daysTillBlank_L71, if_neg (show ¬ nI (zN (m0.1 368) j) ≤ nI p from fun q => by have := (nI_leI (by omega) (by omega)).mp q; omega), gd_in (by omega) (by omega), gd_in (by omega) (by omega), nI_clamp (by omega), hcur, e27, nI_add, r1, ob_e, gd_in (by omega) (by omega), wr_e, l_1, nI_add, nI_add]
            rfl
          · rw [gI_s]
            by_cases q0 : q = p
            · rw [if_pos q0, q0]
            · rw [if_neg q0, r2 50 (by decide) (by decide)]; exact v2 q (by omega)
          · rw [gI_s, if_neg (by omega), r2 50 (by decide) (by decide)]; exact v3 q (by omega) hq2) (zN (m0.1 368) j) 0 N x (by omega) (by omega) ⟨e1, fun q hq => absurd hq (by omega), fun q _ hq => e9 q hq⟩
      have hA : f_Ag_daysTillBlank_L58 N (fa + 1) (nI j) (nI (zN (m0.1 368) j)) (nI b) x = if sm (fun q => iN G j q) (zN (m0.1 368) j) = 0 then some (nI b, w) else f_Ag_daysTillBlank_L58 N fa (nI j) (nI (zN (m0.1 368) j)) (nI (b + 1)) w := by
        rw [f_Ag_daysTillBlank_L58, if_neg (show ¬ (99 : Int32) < nI b from fun q => by have := (nI_ltI (a := 99) (b := b) (by omega) (by omega)).mp q; omega)]
        exact w1
      have hlef : lef G j = 0 ↔ sm (fun q => iN G j q) (zN (m0.1 368) j) = 0 := by
        unfold lef; rw [e5]; exact lef_0 G j _
      have hWy : RW nc nt (y.1 369) := by rw [hG]; exact e4
      obtain ⟨u1, u2⟩ := mo_leftOf (q := 369) hN n_369' hWy hnc hj
      rw [hG] at u1 u2
      have hz6' := (e4.1 j hj).2.2.1
      show (∃ a' c', ob (f_Ag_daysTillBlank_L58 N (fa + 1) (nI j) (nI (zN (m0.1 368) j)) (nI b) x) _ = _ ∧ f_Mo_blank_L28 N (fb + 1) (nI j) (nI b) y = _ ∧ _) ∨ ∃ r c' m', ob (f_Ag_daysTillBlank_L58 N (fa + 1) (nI j) (nI (zN (m0.1 368) j)) (nI b) x) _ = _ ∧ f_Mo_blank_L28 N (fb + 1) (nI j) (nI b) y = _ ∧ _
      rw [hA, f_Mo_blank_L28, if_neg (show ¬ (99 : Int32) < nI b from fun q => by have := (nI_ltI (a := 99) (b := b) (by omega) (by omega)).mp q; omega), u1, ob_e]
      by_cases q0 : sm (fun q => iN G j q) (zN (m0.1 368) j) = 0
      · right
        rw [if_pos q0, if_pos (show nI (lef G j) = 0 by rw [hlef.mpr q0]; rfl), ob_e]
        exact ⟨_, _, _, rfl, rfl, Rel_k (Rel_scr hr w2 e2 e3) (by omega)⟩
      · left
        rw [if_neg q0, if_neg (show ¬ nI (lef G j) = 0 from fun q => by rw [l_0, nI_eq (by omega) (by omega)] at q; exact q0 (hlef.mp q))]
        obtain ⟨m2, b1, b2, b3, b4, b5⟩ := mo_fades (q := 369) (m := y) hN hlo hKM (e2 357 (by decide) (by decide) (by decide)) (e2 358 (by decide) (by decide) (by decide)) (e3 34 (by unfold scr; omega)) n_369' (by decide) (by decide) (by decide) (by decide) (by decide) hWy (by rw [e2 365 (by decide) (by decide) (by decide)]; exact hF) (by rw [e3 27 (by unfold scr; omega)]; exact hm27) hnc
        rw [hG, e2 365 (by decide) (by decide) (by decide)] at b5
        obtain ⟨z1, z2⟩ := FD_z e4 b5
        obtain ⟨-, -, -, -, -, yd, yd6⟩ := id e4
        have d122 : m2.1 369 122 = nI (dyN (m0.1 368) + b) := by rw [z2 122 (by omega) hnc, yd, e8]
        rw [b1, ob_e, wr_e, d122, l_1, nI_add]
        have hmm : ∀ v, v ≠ 122 → (mm_I m2 369 122 (nI (dyN (m0.1 368) + b + 1))).1 369 v = m2.1 369 v := fun v hv => by rw [gI_s, if_neg hv]
        have hRW2 := FD_RW e4 hnc hnt b5
        refine ⟨w, mm_I m2 369 122 (nI (dyN (m0.1 368) + b + 1)), rfl, by rw [nI_add], w2, fun a a1 a2 a3 => by rw [gI_o a3, b2 a a1 a2 a3]; exact e2 a a1 a2 a3, fun q hq => by rw [gI_o (by decide), b3 q hq]; exact e3 q hq, ?_, ?_, ?_, fun q hq => ?_, ?_, fun q hq => ?_⟩
        · obtain ⟨-, q1, q2, q3, q4, q5, q6⟩ := id hRW2
          refine RW_mk hRW2 hnt (fun i hi => hmm _ (by omega)) (fun i hi => ?_) (fun i k hi hk => ?_) (fun i k hi hk => ?_) ⟨_, q2, by rw [hmm _ (by omega)]; exact q1⟩ ⟨_, q4, by rw [hmm _ (by omega)]; exact q3⟩ ⟨dyN (m0.1 368) + b + 1, by omega, by rw [gI_s, if_pos rfl]⟩
          · rw [hmm _ (by omega)]; exact RW_un0 hRW2 hi
          · have := (hRW2.1 i hi).2.2.1
            exact ⟨hmm _ (by omega), hmm _ (by omega)⟩
          · have := (hRW2.1 i hi).2.2.1
            rw [hmm _ (by omega)]; exact RW_ik0 hRW2 hi hk
        · rw [← e5, ← FD_zN e4 hnc b5 hj]; unfold zN; rw [hmm _ (by omega)]
        · rw [← e6]; unfold liN; rw [hmm _ (by omega), z2 120 (by omega) hnc]
        · rw [← e7 q hq]; unfold oN
          have y1 := z1 j (2 + 3 * q) (by omega) (by omega) (by omega)
          rw [← Nat.add_assoc] at y1
          rw [hmm _ (by omega), y1]
        · unfold dyN; rw [gI_s, if_pos rfl, nI_clamp (by unfold dyN at hdD; omega)]
          rw [Nat.add_assoc]
        · rw [w3 q hq, ← FD_i e4 b5 hj (by omega)]; unfold iN; rw [hmm _ (by omega)]
