/-! ===== things of the draft ===== -/
theorem behind {N n p bg : Nat} {Y : Nat → Nat} {m : MM} {d : Int32} (hN : 15000 ≤ N) (hX : TX n Y) (hM : MT n Y 356 bg m) (hp : p ≤ n) : f_Mo_isBehindColon N (mQ m p (-nI 1) d) = if sg n Y (sk n Y p) = nI 58 then some (1, mQ m (sk n Y p + 1) (-nI 1) d) else some (0, mQ m (sk n Y p) (nI (sk n Y p)) d) := by
  unfold f_Mo_isBehindColon
  rw [mQ_11, if_pos m1e, mo_look hN hX hM hp, ob_e]
  by_cases h : sg n Y (sk n Y p) = nI 58
  · rw [if_pos (show sg n Y (sk n Y p) = 58 from h), if_pos h, wr_e, mQ_10, show nI (sk n Y p) + 1 = nI (sk n Y p + 1) from nI_add _ 1, mQ_p]
  · rw [if_neg (show ¬ sg n Y (sk n Y p) = 58 from h), if_neg h, mo_fails, ob_e]
theorem behind2 {N p pf : Nat} {m : MM} {d : Int32} (h : pf < 2 ^ 31) : f_Mo_isBehindColon N (mQ m p (nI pf) d) = some (0, mQ m p (nI pf) d) := by
  unfold f_Mo_isBehindColon
  rw [mQ_11, if_neg (nf h)]
theorem thing_ok {n p nt nc ru : Nat} {Y : Nat → Nat} (hX : TX n Y) (hp : p < n) (hnt : nt < 8) : ∃ ok p', p < p' ∧ p' ≤ n ∧ KCL n Y p nt nc ru (fun N μ => obv (f_Ta_step N μ) fun μ4z => (ob (f_Tr_readThing N μ4z) fun t59 μ5z => (gd (zb t59) (some (t59, μ5z))))) (fun N μ => f_Mo_readClause_B48 N (nI 116) μ) ok p' (nt + 1) nc ru := by
  have n9 := hX.1
  obtain ⟨okI, pI, vf, H1, H2, H3, H4, H5⟩ := items_ok IT_T hX (p := p + 1) (by omega)
  have hn : sh_n 363 = 16 := by decide +kernel
  obtain ⟨z1, z2, z3⟩ := sk_p (Y := Y) H5
  generalize hpS : sk n Y pI = pS at z1 z2 z3
  -- both sides, up to the colon
  have hcl : ∀ (N : Nat) (c c1 : MM), 15000 ≤ N → CT n Y c → f_Tr_readItems N 2002 1003 1004 1005 (cP c (p + 1)) = some (bI okI, cP c1 pI) → CT n Y c1 → obv (f_Ta_step N (cP c p)) (fun μ4z => (ob (f_Tr_readThing N μ4z) fun t59 μ5z => (gd (zb t59) (some (t59, μ5z))))) = (if okI = true then (if sg n Y pS = nI 58 then ob (ob (f_Tr_readMarks_L4 N N (nI 0) (nI (p6N 0)) (cP c1 (pS + 1))) fun t33 μ3z => (if t33 = (-1) then (some ((0 : Int32), μ3z)) else (gd (inb (μ3z.1 4 0) 8) (wr (mm_I μ3z 5 (Int32.toNatClampNeg (μ3z.1 4 0)) (μ3z.1 20 0)) fun μ4z => (gd (inb (μ4z.1 4 0) 8) (wr (mm_I μ4z 6 (Int32.toNatClampNeg (μ4z.1 4 0)) t33) fun μ5z => (wr (mm_I μ5z 4 0 ((μ5z.1 4 0) + 1)) fun μ6z => (some (1, μ6z))))))))) (fun t59 μ5z => (gd (zb t59) (some (t59, μ5z)))) else some (0, cP c1 pS)) else some (0, cP c1 pI)) := fun N c c1 hN hC e1 hC1 => by
    rw [cp_step hX hC hp, obv_e]
    unfold f_Tr_readThing
    rw [e1, ob_e]
    cases okI with
    | false => rw [if_pos (show bI false = 0 from rfl), ob_e, gd_t (by decide), if_neg (by decide)]
    | true =>
      rw [if_neg (show ¬ bI true = 0 by decide), if_pos rfl, show (58 : Int32) = nI 58 from rfl, cp_accept hN hX hC1 H5 (by decide), hpS]
      by_cases h58 : sg n Y pS = nI 58
      · rw [if_pos h58, if_pos h58, ob_e, if_neg (by decide)]; rfl
      · rw [if_neg h58, if_neg h58, ob_e, if_pos (by decide), ob_e, gd_t (by decide)]
  have hmo : ∀ (N : Nat) (m m1 : MM) (p'' : Nat) (d : Int32), 15000 ≤ N → MT n Y 356 0 m → m.1 355 28 = nI nt → f_Mo_readItems N 363 2008 (nI 116) (nI (2 * nt)) (mQ (mm_I m 355 28 (nI (nt + 1))) (p + 1) (-nI 1) d) = some (mQ m1 p'' (if okI = true then -nI 1 else nI pI) d) → (okI = true → p'' = pI) → MT n Y 356 0 m1 → m1.1 355 28 = nI (nt + 1) → f_Mo_readClause_B48 N (nI 116) (mQ m p (-nI 1) d) = (if okI = true then (if sg n Y pS = nI 58 then (ob (f_Mo_readMarks_L12 N N (nI 0) (oI (spX 2009 6 (sg n Y (sk n Y (pS + 1))))) (mQ m1 (sk n Y (pS + 1)) (-nI 1) d)) fun t156 μ10z => (wr (mm_I μ10z 363 (2 * nt + 1) t156) fun μ11z => (some μ11z))) else some (mQ m1 pS (nI pS) d)) else some (mQ m1 p'' (nI pI) d)) := fun N m m1 p'' d hN hM h28 e1 hpp hM1 h29 => by
    have ix : 2 * (nI (nt + 1) - 1) = nI (2 * nt) := by
      rw [show nI (nt + 1) - 1 = nI nt from pk_sub (a := nt + 1) (b := 1) (by omega)]
      exact (Int32.ofNat_mul 2 nt).symm
    have ix2 : 2 * nI (nt + 1) - 1 = nI (2 * nt + 1) := by
      rw [show 2 * nI (nt + 1) = nI (2 * (nt + 1)) from (Int32.ofNat_mul 2 _).symm, show nI (2 * (nt + 1)) - 1 = nI (2 * (nt + 1) - 1) from pk_sub (b := 1) (by omega)]
      congr 1
    unfold f_Mo_readClause_B48 f_Mo_readClause_B53
    rw [if_neg (by decide), wr_e, mQ_10, show nI p + 1 = nI (p + 1) from nI_add p 1, mQ_p, if_neg (by decide), if_pos (show nI 116 = 116 from rfl), mQ_s (by decide) (by decide) (by decide), h28, show nI nt + 1 = nI (nt + 1) from nI_add nt 1, wr_e, mm_mQ5 (by decide) (by decide) (by decide), mQ_s (by decide) (by decide) (by decide), gI_s, if_pos rfl, ix, e1, obv_e]
    cases okI with
    | false => rw [if_neg (by decide), if_neg (by decide), behind2 (by omega), ob_e, if_pos rfl]
    | true =>
      rw [if_pos rfl, if_pos rfl, hpp rfl, behind hN hX hM1 H5, hpS]
      by_cases h58 : sg n Y pS = nI 58
      · have hl := (sg_lt hX (by decide) h58).1
        rw [if_pos h58, if_pos h58, ob_e, if_neg (by decide)]
        unfold f_Mo_readMarks
        rw [mo_look hN hX hM1 (by omega), ob_e, mo_spot hN sc_2009, ob_e, mQ_s (by decide) (by decide) (by decide), h29, ix2]
        refine congrArg (ob _) (funext fun t156 => funext fun μ10z => ?_)
        rw [gd_in (by omega) (by decide), nI_clamp (by omega)]
      · rw [if_neg h58, if_neg h58, ob_e, if_pos rfl]
  have hF1 : ∀ (c c1 : MM), (∀ a, a ≠ 20 → c1.1 a = c.1 a) → c1.2 = c.2 → cFr c c1 := fun c c1 e2 e3 => ⟨fun a _ h20 => e2 a h20, e3⟩
  have hF2 : ∀ (m m1 : MM), (∀ a, a ≠ 363 → m1.1 a = (mm_I m 355 28 (nI (nt + 1))).1 a) → m1.2 = m.2 → mFr m m1 := fun m m1 e2 e3 => ⟨fun a a1 a2 a3 a4 => by rw [e2 a a3, gI_o a1], fun j j1 j2 j3 => by rw [e2 355 (by decide), gI_s, if_neg j1], e3⟩
  cases hk : okI with
  | false =>
    subst hk
    refine ⟨false, pI, by omega, H5, fun N c m d hN hC hM hD => ?_⟩
    obtain ⟨c1, e1, e2, e3, e4⟩ := H1 N c hN hC
    obtain ⟨m1, p'', f1, f2, f3, f4, f5⟩ := H2 N 356 0 363 (2 * nt) (mm_I m 355 28 (nI (nt + 1))) d hN (MT_5 hM (by decide) (by decide) (by decide)) (by decide) (by decide) (by omega) (by omega)
    have g1 := hF1 c c1 e2 e3
    have g2 := hF2 m m1 f2 f3
    refine ⟨c1, m1, p'', ?_, ?_, g1, g2, fun h => (by cases h)⟩
    · exact (hcl N c c1 hN hC e1 (CT_f hC g1)).trans (by rw [if_neg (by decide)]; rfl)
    · exact (hmo N m m1 p'' d hN hM hD.2.2.1.2 f1 (fun h => (by cases h)) (MT_f hM g2) (by rw [f2 355 (by decide), gI_s, if_pos rfl])).trans (by rw [if_neg (by decide), if_neg (by decide)])
  | true =>
    subst hk
    by_cases h58 : sg n Y pS = nI 58
    · have hl := (sg_lt hX (by decide) h58).1
      obtain ⟨ok, p', mf, R1, R2, R3, R4, R5⟩ := marks_from hX (n - (pS + 1)) (pS + 1) 0 (by omega) (Nat.le_refl _) (by decide)
      refine ⟨ok, p', by omega, R5, fun N c m d hN hC hM hD => ?_⟩
      obtain ⟨c1, e1, e2, e3, e4⟩ := H1 N c hN hC
      obtain ⟨m1, p'', f1, f2, f3, f4, f5⟩ := H2 N 356 0 363 (2 * nt) (mm_I m 355 28 (nI (nt + 1))) d hN (MT_5 hM (by decide) (by decide) (by decide)) (by decide) (by decide) (by omega) (by omega)
      have g1 := hF1 c c1 e2 e3
      have g2 := hF2 m m1 f2 f3
      have hM1 := MT_f hM g2
      obtain ⟨r, p2, t1, t2⟩ := R2 N 356 0 N m1 d hN hM1 (by omega)
      have hc9 := (hcl N c c1 hN hC e1 (CT_f hC g1)).trans (by rw [if_pos rfl, if_pos h58, R1 N c1 N hN (CT_f hC g1) (by omega), ob_e])
      have hm9 := (hmo N m m1 p'' d hN hM hD.2.2.1.2 f1 (fun _ => (f5 rfl).1) hM1 (by rw [f2 355 (by decide), gI_s, if_pos rfl])).trans (by rw [if_pos rfl, if_pos h58, t1, ob_e, wr_e, mm_mQ (by decide)])
      obtain ⟨⟨d1, d2, d3⟩, ⟨d4, d5⟩, ⟨d6, d7⟩, ⟨d8, d9⟩, d10, d11, d12, d13⟩ := hD
      have g3 : mFr m (mm_I m1 363 (2 * nt + 1) r) := ⟨fun a a1 a2 a3 a4 => by rw [gI_o a3]; exact g2.1 a a1 a2 a3 a4, fun j j1 j2 j3 => by rw [gI_o (by decide)]; exact g2.2.1 j j1 j2 j3, g2.2.2⟩
      cases ok with
      | false =>
        refine ⟨c1, _, p2, ?_, hm9, g1, g3, fun h => (by cases h)⟩
        refine hc9.trans ?_
        rw [if_neg (show ¬ false = true by decide), if_pos rfl, ob_e, gd_t (by decide)]; rfl
      | true =>
        have hv := e4 rfl 0 (by omega)
        have hw := (f5 rfl).2 0 (by omega)
        have hb := (H3 rfl 0 (by omega)).2
        obtain ⟨y1, y2⟩ := t2 rfl
        have h40 : c1.1 4 0 = nI nt := by rw [e2 4 (by decide)]; exact d6
        refine ⟨mm_I (mm_I (mm_I c1 5 nt (nI (vf 0))) 6 nt (nI mf)) 4 0 (nI (nt + 1)), _, p2, ?_, hm9, ⟨fun a ha h20 => by rw [gI_o (by omega), gI_o (by omega), gI_o (by omega)]; exact g1.1 a ha h20, g1.2⟩, g3, fun _ => ⟨y1, ⟨by omega, d2, d3⟩, ⟨?_, ?_⟩, ⟨?_, ?_⟩, ⟨?_, ?_⟩, ?_, ?_, ?_, ?_⟩⟩
        · refine hc9.trans ?_
          rw [if_pos rfl, if_neg (nf (by omega)), cP_1 (by decide), h40, gd_in hnt (by decide), nI_clamp (by omega), cP_1 (by decide), hv, wr_e, mm_cP (by decide), cP_1 (by decide), gI_o (by decide), h40, gd_in hnt (by decide), nI_clamp (by omega), wr_e, mm_cP (by decide), cP_1 (by decide), gI_o (by decide), gI_o (by decide), h40, show nI nt + 1 = nI (nt + 1) from nI_add nt 1, wr_e, mm_cP (by decide), ob_e, gd_t (by decide)]; rfl
        · rw [gI_o (by decide), gI_o (by decide), gI_o (by decide), e2 3 (by decide)]; exact d4
        · rw [gI_o (by decide), f2 355 (by decide), gI_s, if_neg (by decide)]; exact d5
        · rw [gI_s, if_pos rfl]
        · rw [gI_o (by decide), f2 355 (by decide), gI_s, if_pos rfl]
        · rw [gI_s, if_neg (by decide), gI_o (by decide), gI_o (by decide), e2 4 (by decide)]; exact d8
        · rw [gI_o (by decide), f2 355 (by decide), gI_s, if_neg (by decide)]; exact d9
        · simp only [gI_o (show (8 : Nat) ≠ 4 by decide), gI_o (show (8 : Nat) ≠ 6 by decide), gI_o (show (8 : Nat) ≠ 5 by decide), gI_o (show (361 : Nat) ≠ 363 by decide)]
          rw [e2 8 (by decide), f2 361 (by decide), gI_o (show (361 : Nat) ≠ 355 by decide)]; exact d10
        · simp only [gI_o (show (8 : Nat) ≠ 4 by decide), gI_o (show (8 : Nat) ≠ 6 by decide), gI_o (show (8 : Nat) ≠ 5 by decide)]
          rw [e2 8 (by decide)]; exact d11
        · intro t ht
          have hf4 : ∀ j, j < 2 * nt ∨ 2 * nt + 1 ≤ j → m1.1 363 j = m.1 363 j := fun j hj => by rw [f4 j hj, gI_o (by decide)]
          by_cases et : t = nt
          · subst et
            refine ⟨vf 0, mf, hb, R3, ?_, ?_, ?_, ?_⟩
            · rw [gI_o (by decide), gI_o (by decide), gI_s, if_pos rfl]
            · rw [gI_s, if_neg (by omega)]; exact hw
            · rw [gI_o (by decide), gI_s, if_pos rfl]
            · rw [gI_s, if_pos rfl, y2]
          · obtain ⟨a, b, x1, x2, x3, x4, x5, x6⟩ := d12 t (by omega)
            refine ⟨a, b, x1, x2, ?_, ?_, ?_, ?_⟩
            · rw [gI_o (by decide), gI_o (by decide), gI_s, if_neg et, e2 5 (by decide)]; exact x3
            · rw [gI_s, if_neg (by omega), hf4 _ (by omega)]; exact x4
            · rw [gI_o (by decide), gI_s, if_neg et, gI_o (by decide), e2 6 (by decide)]; exact x5
            · rw [gI_s, if_neg (by omega), hf4 _ (by omega)]; exact x6
        · have hc : ∀ a, a ≠ 4 → a ≠ 5 → a ≠ 6 → a ≠ 20 → (mm_I (mm_I (mm_I c1 5 nt (nI (vf 0))) 6 nt (nI mf)) 4 0 (nI (nt + 1))).1 a = c.1 a := fun a a1 a2 a3 a4 => by rw [gI_o a1, gI_o a3, gI_o a2, e2 a a4]
          rw [hc 7 (by decide) (by decide) (by decide) (by decide), hc 14 (by decide) (by decide) (by decide) (by decide), hc 10 (by decide) (by decide) (by decide) (by decide), hc 11 (by decide) (by decide) (by decide) (by decide), hc 12 (by decide) (by decide) (by decide) (by decide), hc 13 (by decide) (by decide) (by decide) (by decide), gI_o (show (366 : Nat) ≠ 363 by decide), f2 366 (by decide), gI_o (show (366 : Nat) ≠ 355 by decide)]
          exact d13
    · refine ⟨false, pS, by omega, z2, fun N c m d hN hC hM hD => ?_⟩
      obtain ⟨c1, e1, e2, e3, e4⟩ := H1 N c hN hC
      obtain ⟨m1, p'', f1, f2, f3, f4, f5⟩ := H2 N 356 0 363 (2 * nt) (mm_I m 355 28 (nI (nt + 1))) d hN (MT_5 hM (by decide) (by decide) (by decide)) (by decide) (by decide) (by omega) (by omega)
      have g1 := hF1 c c1 e2 e3
      have g2 := hF2 m m1 f2 f3
      refine ⟨c1, m1, pS, ?_, ?_, g1, g2, fun h => (by cases h)⟩
      · exact (hcl N c c1 hN hC e1 (CT_f hC g1)).trans (by rw [if_pos rfl, if_neg h58]; rfl)
      · exact (hmo N m m1 p'' d hN hM hD.2.2.1.2 f1 (fun _ => (f5 rfl).1) (MT_f hM g2) (by rw [f2 355 (by decide), gI_s, if_pos rfl])).trans (by rw [if_pos rfl, if_neg h58, if_neg (by decide)])
