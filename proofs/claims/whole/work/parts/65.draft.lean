/-! ===== cards of the draft ===== -/
theorem cAdd_o {q row k a : Nat} {ink : Int32} {c : MM} {w : Nat × Nat} (h1 : a ≠ q + 1) (h2 : a ≠ q + 2) (h3 : a ≠ q + 3) (h4 : a ≠ q + 4) : (cAdd q row ink c k w).1 a = c.1 a := by
  unfold cAdd; rw [gI_o h1, gI_o h4, gI_o h3, gI_o h2]
theorem cAdd_1 {q row k j : Nat} {ink : Int32} {c : MM} {w : Nat × Nat} : (cAdd q row ink c k w).1 (q + 1) j = if j = row then nI (k + 1) else c.1 (q + 1) j := by
  unfold cAdd; rw [gI_s, gI_o (by omega), gI_o (by omega), gI_o (by omega)]
theorem cAdd_2 {q row k j : Nat} {ink : Int32} {c : MM} {w : Nat × Nat} : (cAdd q row ink c k w).1 (q + 2) j = if j = 6 * row + k then nI w.1 else c.1 (q + 2) j := by
  unfold cAdd; rw [gI_o (by omega), gI_o (by omega), gI_o (by omega), gI_s]
theorem cAdd_3 {q row k j : Nat} {ink : Int32} {c : MM} {w : Nat × Nat} : (cAdd q row ink c k w).1 (q + 3) j = if j = 6 * row + k then nI w.2 else c.1 (q + 3) j := by
  unfold cAdd; rw [gI_o (by omega), gI_o (by omega), gI_s, gI_o (by omega)]
theorem cAdd_4 {q row k j : Nat} {ink : Int32} {c : MM} {w : Nat × Nat} : (cAdd q row ink c k w).1 (q + 4) j = if j = 6 * row + k then ink else c.1 (q + 4) j := by
  unfold cAdd; rw [gI_o (by omega), gI_s, gI_o (by omega), gI_o (by omega)]
theorem cWs_g {q row : Nat} {ink : Int32} : ∀ (ws : List (Nat × Nat)) (c : MM) (k : Nat), c.1 (q + 1) row = nI k →
    (∀ a, a ≠ q + 1 → a ≠ q + 2 → a ≠ q + 3 → a ≠ q + 4 → (cWs q row ink c k ws).1 a = c.1 a) ∧ (cWs q row ink c k ws).2 = c.2 ∧ (cWs q row ink c k ws).1 (q + 1) row = nI (k + ws.length) ∧ (∀ j, j ≠ row → (cWs q row ink c k ws).1 (q + 1) j = c.1 (q + 1) j) ∧
    (∀ i, i < ws.length → (cWs q row ink c k ws).1 (q + 2) (6 * row + k + i) = nI (ws.getD i (0, 0)).1 ∧ (cWs q row ink c k ws).1 (q + 3) (6 * row + k + i) = nI (ws.getD i (0, 0)).2 ∧ (cWs q row ink c k ws).1 (q + 4) (6 * row + k + i) = ink) ∧
    (∀ j, j < 6 * row + k ∨ 6 * row + k + ws.length ≤ j → (cWs q row ink c k ws).1 (q + 2) j = c.1 (q + 2) j ∧ (cWs q row ink c k ws).1 (q + 3) j = c.1 (q + 3) j ∧ (cWs q row ink c k ws).1 (q + 4) j = c.1 (q + 4) j) := by
  intro ws
  induction ws with
  | nil => intro c k hk; exact ⟨fun _ _ _ _ _ => rfl, rfl, hk, fun _ _ => rfl, fun i hi => absurd hi (by simp), fun _ _ => ⟨rfl, rfl, rfl⟩⟩
  | cons w ws ih =>
    intro c k hk
    obtain ⟨h1, h2, h3, h4, h5, h6⟩ := ih (cAdd q row ink c k w) (k + 1) cAdd_k
    have hlen : (w :: ws).length = ws.length + 1 := rfl
    refine ⟨fun a a1 a2 a3 a4 => (h1 a a1 a2 a3 a4).trans (cAdd_o a1 a2 a3 a4), h2.trans rfl, ?_, fun j hj => (h4 j hj).trans (by rw [cAdd_1, if_neg hj]), fun i hi => ?_, fun j hj => ?_⟩
    · rw [hlen, show k + (ws.length + 1) = k + 1 + ws.length by omega]; exact h3
    · cases i with
      | zero =>
        obtain ⟨g1, g2, g3⟩ := h6 (6 * row + k + 0) (by omega)
        refine ⟨g1.trans ?_, g2.trans ?_, g3.trans ?_⟩
        · rw [cAdd_2, if_pos (by omega)]; rfl
        · rw [cAdd_3, if_pos (by omega)]; rfl
        · rw [cAdd_4, if_pos (by omega)]
      | succ i =>
        obtain ⟨g1, g2, g3⟩ := h5 i (by rw [hlen] at hi; omega)
        rw [show 6 * row + k + (i + 1) = 6 * row + (k + 1) + i by omega]
        exact ⟨g1, g2, g3⟩
    · rw [hlen] at hj
      obtain ⟨g1, g2, g3⟩ := h6 j (by omega)
      refine ⟨g1.trans ?_, g2.trans ?_, g3.trans ?_⟩
      · rw [cAdd_2, if_neg (by omega)]
      · rw [cAdd_3, if_neg (by omega)]
      · rw [cAdd_4, if_neg (by omega)]
theorem mWs_g {q off : Nat} : ∀ (ws : List (Nat × Nat)) (m : MM) (k : Nat),
    (∀ a, a ≠ q → (mWs q off m k ws).1 a = m.1 a) ∧ (mWs q off m k ws).2 = m.2 ∧
    (∀ i, i < ws.length → (mWs q off m k ws).1 q (off + 1 + 2 * (k + i)) = nI (ws.getD i (0, 0)).1 ∧ (mWs q off m k ws).1 q (off + 2 + 2 * (k + i)) = nI (ws.getD i (0, 0)).2) ∧
    (∀ j, j < off + 1 + 2 * k ∨ off + 1 + 2 * (k + ws.length) ≤ j → (mWs q off m k ws).1 q j = m.1 q j) := by
  intro ws
  induction ws with
  | nil => intro m k; exact ⟨fun _ _ => rfl, rfl, fun i hi => absurd hi (by simp), fun _ _ => rfl⟩
  | cons w ws ih =>
    intro m k
    obtain ⟨h1, h2, h3, h4⟩ := ih (mAdd q off m k w) (k + 1)
    have hlen : (w :: ws).length = ws.length + 1 := rfl
    have hA : ∀ j, (mAdd q off m k w).1 q j = if j = off + 1 + 2 * k + 1 then nI w.2 else if j = off + 1 + 2 * k then nI w.1 else m.1 q j := fun j => by unfold mAdd; rw [gI_s, gI_s]
    refine ⟨fun a ha => (h1 a ha).trans (by unfold mAdd; rw [gI_o ha, gI_o ha]), h2.trans rfl, fun i hi => ?_, fun j hj => ?_⟩
    · cases i with
      | zero =>
        refine ⟨(h4 _ (by omega)).trans ?_, (h4 _ (by omega)).trans ?_⟩
        · rw [hA, if_neg (by omega), if_pos (by omega)]; rfl
        · rw [hA, if_pos (by omega)]; rfl
      | succ i =>
        obtain ⟨g1, g2⟩ := h3 i (by rw [hlen] at hi; omega)
        rw [show k + (i + 1) = k + 1 + i by omega]
        exact ⟨g1, g2⟩
    · rw [hlen] at hj
      exact (h4 j (by omega)).trans (by rw [hA, if_neg (by omega), if_neg (by omega)])
theorem cSh_9 {nc : Nat} (h : nc < 6) : cSh 9 nc := by
  have h1 : sh_n (9 + 1) = 6 := by decide +kernel
  have h2 : sh_n (9 + 2) = 36 := by decide +kernel
  have h3 : sh_n (9 + 3) = 36 := by decide +kernel
  have h4 : sh_n (9 + 4) = 36 := by decide +kernel
  unfold cSh
  rw [h1, h2, h3, h4]
  omega
theorem card_ok {n p nt nc ru : Nat} {Y : Nat → Nat} (hX : TX n Y) (hp : p < n) (hnc : nc < 6) : ∃ ok p', p < p' ∧ p' ≤ n ∧ KCL n Y p nt nc ru (fun N μ => obv (f_Ta_step N μ) fun μ2z => (ob (f_Tr_readCard N μ2z) fun t89 μ3z => (gd (zb t89) (some (t89, μ3z))))) (fun N μ => f_Mo_readClause_B48 N (nI 99) μ) ok p' nt (nc + 1) ru := by
  have n9 := hX.1
  obtain ⟨okI, pI, vf, H1, H2, H3, H4, H5⟩ := items_ok IT_C hX (p := p + 1) (by omega)
  have hn : sh_n 366 = 96 := by decide +kernel
  obtain ⟨z1, z2, z3⟩ := sk_p (Y := Y) H5
  generalize hpS : sk n Y pI = pS at z1 z2 z3
  -- the program's draft, laid out for the words
  have hcl : ∀ (N : Nat) (c c1 : MM), 15000 ≤ N → CT n Y c → f_Tr_readItems N 2003 1006 1007 1008 (cP c (p + 1)) = some (bI okI, cP c1 pI) → CT n Y c1 → c1.1 4 1 = nI nc → obv (f_Ta_step N (cP c p)) (fun μ2z => (ob (f_Tr_readCard N μ2z) fun t89 μ3z => (gd (zb t89) (some (t89, μ3z))))) = (if okI = true then (if sg n Y pS = nI 58 then ob (ob (f_Tr_readWords_L3 N 9 N (nI nc) (c1.1 20 0) (nI 0) (cP (mm_I (mm_I (mm_I (mm_I c1 7 nc (c1.1 20 1)) 14 nc (if c1.1 20 2 = 8 then -1 else c1.1 20 2)) 10 nc 0) 4 1 (nI (nc + 1))) (pS + 1))) fun t135 μ7z => (gd (zb t135) (some (t135, μ7z)))) (fun t89 μ3z => (gd (zb t89) (some (t89, μ3z)))) else some (0, cP c1 pS)) else some (0, cP c1 pI)) := fun N c c1 hN hC e1 hC1 h41 => by
    rw [cp_step hX hC hp, obv_e]
    unfold f_Tr_readCard
    rw [e1, ob_e]
    cases okI with
    | false => rw [if_pos (show bI false = 0 from rfl), ob_e, gd_t (by decide), if_neg (by decide)]
    | true =>
      rw [if_neg (show ¬ bI true = 0 by decide), if_pos rfl, show (58 : Int32) = nI 58 from rfl, cp_accept hN hX hC1 H5 (by decide), hpS]
      by_cases h58 : sg n Y pS = nI 58
      · have hB : ∀ (v : Int32), f_Tr_readCard_B87 N (nI nc) (nI nc) v (cP (mm_I c1 7 nc (c1.1 20 1)) (pS + 1)) = ob (f_Tr_readWords_L3 N 9 N (nI nc) (c1.1 20 0) (nI 0) (cP (mm_I (mm_I (mm_I (mm_I c1 7 nc (c1.1 20 1)) 14 nc v) 10 nc 0) 4 1 (nI (nc + 1))) (pS + 1))) fun t135 μ7z => (gd (zb t135) (some (t135, μ7z))) := fun v => by
          unfold f_Tr_readCard_B87 f_Tr_readWords
          rw [gd_in hnc (by decide), nI_clamp (by omega), wr_e, mm_cP (by decide), gd_in hnc (by decide), wr_e, mm_cP (by decide), cP_1 (by decide), gI_o (by decide), gI_o (by decide), gI_o (by decide), h41, show nI nc + 1 = nI (nc + 1) from nI_add nc 1, wr_e, mm_cP (by decide), cP_1 (by decide), gI_o (by decide), gI_o (by decide), gI_o (by decide), gI_o (by decide)]
          rfl
        rw [if_pos h58, if_pos h58, ob_e, if_neg (by decide), cP_1 (show (4 : Nat) ≠ 1 by decide), h41, gd_in hnc (by decide), nI_clamp (by omega), cP_1 (show (20 : Nat) ≠ 1 by decide), wr_e, mm_cP (by decide), cP_1 (show (20 : Nat) ≠ 1 by decide), gI_o (by decide)]
        by_cases h8 : c1.1 20 2 = 8
        · rw [if_pos h8, if_pos h8, hB]
        · rw [if_neg h8, if_neg h8, hB]
      · rw [if_neg h58, if_neg h58, ob_e, if_pos (by decide), ob_e, gd_t (by decide)]
  have hmo : ∀ (N : Nat) (m m1 : MM) (p'' : Nat) (d : Int32), 15000 ≤ N → MT n Y 356 0 m → m.1 355 29 = nI nc → f_Mo_readItems N 366 2010 (nI 99) (nI (16 * nc)) (mQ (mm_I m 355 29 (nI (nc + 1))) (p + 1) (-nI 1) d) = some (mQ m1 p'' (if okI = true then -nI 1 else nI pI) d) → (okI = true → p'' = pI) → MT n Y 356 0 m1 → m1.1 355 29 = nI (nc + 1) → f_Mo_readClause_B48 N (nI 99) (mQ m p (-nI 1) d) = (if okI = true then (if sg n Y pS = nI 58 then (obv (f_Mo_readWords_L2 N 366 N (nI (16 * nc + 3)) (nI 0) (mQ m1 (pS + 1) (-nI 1) d)) fun μ6z => (some μ6z)) else some (mQ m1 pS (nI pS) d)) else some (mQ m1 p'' (nI pI) d)) := fun N m m1 p'' d hN hM h28 e1 hpp hM1 h29 => by
    have ix : 16 * (nI (nc + 1) - 1) = nI (16 * nc) := by
      rw [show nI (nc + 1) - 1 = nI nc from pk_sub (a := nc + 1) (b := 1) (by omega)]
      exact (Int32.ofNat_mul 16 nc).symm
    unfold f_Mo_readClause_B48 f_Mo_readClause_B53
    rw [if_neg (by decide), wr_e, mQ_10, show nI p + 1 = nI (p + 1) from nI_add p 1, mQ_p, if_neg (by decide), if_neg (by decide), mQ_s (by decide) (by decide) (by decide), h28, show nI nc + 1 = nI (nc + 1) from nI_add nc 1, wr_e, mm_mQ5 (by decide) (by decide) (by decide), mQ_s (by decide) (by decide) (by decide), gI_s, if_pos rfl, ix, e1, obv_e]
    cases okI with
    | false => rw [if_neg (by decide), if_neg (by decide), behind2 (by omega), ob_e, if_pos rfl]
    | true =>
      rw [if_pos rfl, if_pos rfl, hpp rfl, behind hN hX hM1 H5, hpS]
      by_cases h58 : sg n Y pS = nI 58
      · rw [if_pos h58, if_pos h58, ob_e, if_neg (by decide), mQ_s (by decide) (by decide) (by decide), h29, ix, show nI (16 * nc) + 3 = nI (16 * nc + 3) from nI_add _ 3]
        rfl
      · rw [if_neg h58, if_neg h58, ob_e, if_pos rfl]
  have hF1 : ∀ (c c1 : MM), (∀ a, a ≠ 20 → c1.1 a = c.1 a) → c1.2 = c.2 → cFr c c1 := fun c c1 e2 e3 => ⟨fun a _ h20 => e2 a h20, e3⟩
  have hF2 : ∀ (m m1 : MM), (∀ a, a ≠ 366 → m1.1 a = (mm_I m 355 29 (nI (nc + 1))).1 a) → m1.2 = m.2 → mFr m m1 := fun m m1 e2 e3 => ⟨fun a a1 a2 a3 a4 => by rw [e2 a a4, gI_o a1], fun j j1 j2 j3 => by rw [e2 355 (by decide), gI_s, if_neg j2], e3⟩
  have hstart : ∀ (N : Nat) (c m : MM) (d : Int32), 15000 ≤ N → CT n Y c → MT n Y 356 0 m → ∃ c1 m1 p'', f_Tr_readItems N 2003 1006 1007 1008 (cP c (p + 1)) = some (bI okI, cP c1 pI) ∧ f_Mo_readItems N 366 2010 (nI 99) (nI (16 * nc)) (mQ (mm_I m 355 29 (nI (nc + 1))) (p + 1) (-nI 1) d) = some (mQ m1 p'' (if okI = true then -nI 1 else nI pI) d) ∧ (∀ a, a ≠ 20 → c1.1 a = c.1 a) ∧ c1.2 = c.2 ∧ (okI = true → ∀ i, i < 3 → c1.1 20 i = nI (vf i)) ∧ (∀ a, a ≠ 366 → m1.1 a = (mm_I m 355 29 (nI (nc + 1))).1 a) ∧ m1.2 = m.2 ∧ (∀ j, j < 16 * nc ∨ 16 * nc + 3 ≤ j → m1.1 366 j = m.1 366 j) ∧ (okI = true → p'' = pI ∧ ∀ i, i < 3 → m1.1 366 (16 * nc + i) = nI (vf i)) := fun N c m d hN hC hM => by
    obtain ⟨c1, e1, e2, e3, e4⟩ := H1 N c hN hC
    obtain ⟨m1, p'', f1, f2, f3, f4, f5⟩ := H2 N 356 0 366 (16 * nc) (mm_I m 355 29 (nI (nc + 1))) d hN (MT_5 hM (by decide) (by decide) (by decide)) (by decide) (by decide) (by omega) (by omega)
    exact ⟨c1, m1, p'', e1, f1, e2, e3, e4, f2, f3, fun j hj => (f4 j hj).trans (by rw [gI_o (by decide)]), f5⟩
  cases hk : okI with
  | false =>
    subst hk
    refine ⟨false, pI, by omega, H5, fun N c m d hN hC hM hD => ?_⟩
    obtain ⟨c1, m1, p'', e1, f1, e2, e3, e4, f2, f3, f4, f5⟩ := hstart N c m d hN hC hM
    have g1 := hF1 c c1 e2 e3
    have g2 := hF2 m m1 f2 f3
    refine ⟨c1, m1, p'', ?_, ?_, g1, g2, fun h => (by cases h)⟩
    · exact (hcl N c c1 hN hC e1 (CT_f hC g1) (by rw [e2 4 (by decide)]; exact hD.2.2.2.1.1)).trans (by rw [if_neg (by decide)]; rfl)
    · exact (hmo N m m1 p'' d hN hM hD.2.2.2.1.2 f1 (fun h => (by cases h)) (MT_f hM g2) (by rw [f2 355 (by decide), gI_s, if_pos rfl])).trans (by rw [if_neg (by decide), if_neg (by decide)])
  | true =>
    subst hk
    by_cases h58 : sg n Y pS = nI 58
    · have hl := (sg_lt hX (by decide) h58).1
      obtain ⟨ok, p', ws, R1, R2, R3, R4, R5, R6, R7⟩ := words_ok hX 6 0 (pS + 1) (by omega) (by omega)
      rw [Nat.zero_add] at R3 R4
      refine ⟨ok, p', by omega, R7, fun N c m d hN hC hM hD => ?_⟩
      obtain ⟨c1, m1, p'', e1, f1, e2, e3, e4, f2, f3, f4, f5⟩ := hstart N c m d hN hC hM
      have g1 := hF1 c c1 e2 e3
      have g2 := hF2 m m1 f2 f3
      have hM1 := MT_f hM g2
      have hC1 := CT_f hC g1
      obtain ⟨⟨d1, d2, d3⟩, ⟨d4, d5⟩, ⟨d6, d7⟩, ⟨d8, d9⟩, d10, d11, d12, d13⟩ := hD
      have h41 : c1.1 4 1 = nI nc := by rw [e2 4 (by decide)]; exact d8
      generalize hc2 : mm_I (mm_I (mm_I (mm_I c1 7 nc (c1.1 20 1)) 14 nc (if c1.1 20 2 = 8 then -1 else c1.1 20 2)) 10 nc 0) 4 1 (nI (nc + 1)) = c2
      have hC2 : CT n Y c2 := by rw [← hc2]; exact CT_w (CT_w (CT_w (CT_w hC1 (by decide) (by decide)) (by decide) (by decide)) (by decide) (by decide)) (by decide) (by decide)
      have k10 : c2.1 (9 + 1) nc = nI 0 := by rw [← hc2, gI_o (by decide), gI_s, if_pos rfl]; rfl
      have k10' : ∀ j, j ≠ nc → c2.1 10 j = c1.1 10 j := fun j hj => by rw [← hc2, gI_o (by decide), gI_s, if_neg hj, gI_o (by decide), gI_o (by decide)]
      have k7 : ∀ j, c2.1 7 j = if j = nc then c1.1 20 1 else c1.1 7 j := fun j => by rw [← hc2, gI_o (by decide), gI_o (by decide), gI_o (by decide), gI_s]
      have k14 : ∀ j, c2.1 14 j = if j = nc then (if c1.1 20 2 = 8 then -1 else c1.1 20 2) else c1.1 14 j := fun j => by rw [← hc2, gI_o (by decide), gI_o (by decide), gI_s, gI_o (by decide)]
      have k4 : ∀ j, c2.1 4 j = if j = 1 then nI (nc + 1) else c1.1 4 j := fun j => by rw [← hc2, gI_s, gI_o (by decide), gI_o (by decide), gI_o (by decide)]
      have k0 : ∀ a, a ≠ 4 → a ≠ 10 → a ≠ 14 → a ≠ 7 → c2.1 a = c1.1 a := fun a a1 a2 a3 a4 => by rw [← hc2, gI_o a1, gI_o a2, gI_o a3, gI_o a4]
      have e9 := R1 N c2 9 nc N (c1.1 20 0) hN hC2 (cSh_9 hnc) k10 (by omega)
      obtain ⟨w1, w2, w3, w4, w5, w6⟩ := cWs_g (q := 9) (row := nc) (ink := c1.1 20 0) ws c2 0 k10
      have hc9 := (hcl N c c1 hN hC e1 hC1 h41).trans (by rw [if_pos rfl, if_pos h58, hc2, e9, ob_e, gd_t (bI_z ok), ob_e, gd_t (bI_z ok)])
      have hm8 := hmo N m m1 p'' d hN hM d9 f1 (fun _ => (f5 rfl).1) hM1 (by rw [f2 355 (by decide), gI_s, if_pos rfl])
      rw [if_pos rfl, if_pos h58] at hm8
      obtain ⟨r1, r2⟩ := R2 N 356 0 366 (16 * nc + 3) N m1 d hN hM1 (by decide) (by decide) (by omega) (by omega) (by omega)
      obtain ⟨v1, v2, v3, v4⟩ := mWs_g (q := 366) (off := 16 * nc + 3) ws m1 0
      have g4 : cFr c (cWs 9 nc (c1.1 20 0) c2 0 ws) := ⟨fun a ha h20 => by rw [w1 a (by omega) (by omega) (by omega) (by omega), k0 a (by omega) (by omega) (by omega) (by omega), e2 a h20], by rw [w2, ← hc2]; exact e3⟩
      have g5 : mFr m (mWs 366 (16 * nc + 3) m1 0 ws) := ⟨fun a a1 a2 a3 a4 => (v1 a a4).trans (g2.1 a a1 a2 a3 a4), fun j j1 j2 j3 => by rw [v1 355 (by decide)]; exact g2.2.1 j j1 j2 j3, v2.trans g2.2.2⟩
      cases ok with
      | false =>
        obtain ⟨p2, e7⟩ := r2 rfl
        refine ⟨_, _, p2, hc9, ?_, g4, g5, fun h => (by cases h)⟩
        refine hm8.trans ?_
        rw [e7, obv_e, if_neg (by decide)]
      | true =>
        have e7 := r1 rfl
        rw [Nat.zero_add] at e7 w3
        have g6 : mFr m (mm_I (mWs 366 (16 * nc + 3) m1 0 ws) 366 (16 * nc + 3) (nI ws.length)) := ⟨fun a a1 a2 a3 a4 => by rw [gI_o a4]; exact g5.1 a a1 a2 a3 a4, fun j j1 j2 j3 => by rw [gI_o (by decide)]; exact g5.2.1 j j1 j2 j3, g5.2.2⟩
        have hv := e4 rfl
        have hw := (f5 rfl).2
        have hb := H3 rfl
        have b0 := hb 0 (by omega)
        have b1 := hb 1 (by omega)
        have b2 := hb 2 (by omega)
        have hFr : ∀ j, j < 16 * nc ∨ 16 * nc + 16 ≤ j → (mm_I (mWs 366 (16 * nc + 3) m1 0 ws) 366 (16 * nc + 3) (nI ws.length)).1 366 j = m.1 366 j := fun j hj => by
          rw [gI_s, if_neg (by omega), v4 j (by omega), f4 j (by omega)]
        have hm355 : ∀ j, j ≠ 29 → (mm_I (mWs 366 (16 * nc + 3) m1 0 ws) 366 (16 * nc + 3) (nI ws.length)).1 355 j = m.1 355 j := fun j hj => by rw [gI_o (by decide), v1 355 (by decide), f2 355 (by decide), gI_s, if_neg hj]
        refine ⟨_, _, p', hc9, hm8.trans (by rw [e7, obv_e, if_pos rfl]), g4, g6, fun _ => ⟨rfl, ⟨d1, by omega, d3⟩, ⟨?_, ?_⟩, ⟨?_, ?_⟩, ⟨?_, ?_⟩, ?_, ?_, ?_, ?_⟩⟩
        · rw [w1 3 (by decide) (by decide) (by decide) (by decide), k0 3 (by decide) (by decide) (by decide) (by decide), e2 3 (by decide)]; exact d4
        · rw [hm355 31 (by decide)]; exact d5
        · rw [w1 4 (by decide) (by decide) (by decide) (by decide), k4, if_neg (by decide), e2 4 (by decide)]; exact d6
        · rw [hm355 28 (by decide)]; exact d7
        · rw [w1 4 (by decide) (by decide) (by decide) (by decide), k4, if_pos rfl]
        · rw [gI_o (by decide), v1 355 (by decide), f2 355 (by decide), gI_s, if_pos rfl]
        · rw [w1 8 (by decide) (by decide) (by decide) (by decide), k0 8 (by decide) (by decide) (by decide) (by decide), e2 8 (by decide), gI_o (show (361 : Nat) ≠ 366 by decide), v1 361 (by decide), f2 361 (by decide), gI_o (show (361 : Nat) ≠ 355 by decide)]; exact d10
        · rw [w1 8 (by decide) (by decide) (by decide) (by decide), k0 8 (by decide) (by decide) (by decide) (by decide), e2 8 (by decide)]; exact d11
        · rw [w1 5 (by decide) (by decide) (by decide) (by decide), k0 5 (by decide) (by decide) (by decide) (by decide), e2 5 (by decide), w1 6 (by decide) (by decide) (by decide) (by decide), k0 6 (by decide) (by decide) (by decide) (by decide), e2 6 (by decide), gI_o (show (363 : Nat) ≠ 366 by decide), v1 363 (by decide), f2 363 (by decide), gI_o (show (363 : Nat) ≠ 355 by decide)]; exact d12
        · intro x hx
          by_cases ex : x = nc
          · subst ex
            refine ⟨vf 0, vf 1, vf 2, ws, ⟨b0.1, b0.2, b1.2, b2.2, R3 rfl, R4, R5⟩, ⟨?_, ?_, ?_, ?_, fun k hk => ⟨?_, ?_⟩⟩, ⟨?_, ?_, ?_, fun k hk => ⟨?_, ?_, ?_⟩⟩⟩
            · rw [gI_s, if_neg (by omega), v4 _ (by omega)]; exact hw 0 (by omega)
            · rw [gI_s, if_neg (by omega), v4 _ (by omega)]; exact hw 1 (by omega)
            · rw [gI_s, if_neg (by omega), v4 _ (by omega)]; exact hw 2 (by omega)
            · rw [gI_s, if_pos rfl]
            · have := (v3 k hk).1
              rw [Nat.zero_add] at this
              rw [gI_s, if_neg (by omega)]; exact this
            · have := (v3 k hk).2
              rw [Nat.zero_add] at this
              rw [gI_s, if_neg (by omega)]; exact this
            · rw [w1 7 (by decide) (by decide) (by decide) (by decide), k7, if_pos rfl, hv 1 (by omega)]
            · rw [w1 14 (by decide) (by decide) (by decide) (by decide), k14, if_pos rfl, hv 2 (by omega)]
              by_cases h8 : vf 2 = 8
              · rw [if_pos h8, if_pos (by rw [h8]; rfl)]; rfl
              · have b2' : vf 2 ≤ 8 := b2.2
                rw [if_neg h8, if_neg (show ¬ nI (vf 2) = 8 from fun z => h8 ((nI_eq (a := vf 2) (b := 8) (by omega) (by decide)).mp z))]
            · exact w3
            · exact (w5 k hk).1
            · exact (w5 k hk).2.1
            · rw [← hv 0 (by omega)]; exact (w5 k hk).2.2
          · obtain ⟨i, f, t, us, q1, ⟨q2, q3, q4, q5, q6⟩, ⟨q7, q8, q9, q10⟩⟩ := d13 x (by omega)
            have hlu := q1.2.2.2.2.2.1
            refine ⟨i, f, t, us, q1, ⟨(hFr _ (by omega)).trans q2, (hFr _ (by omega)).trans q3, (hFr _ (by omega)).trans q4, (hFr _ (by omega)).trans q5, fun k hk => ⟨(hFr _ (by omega)).trans (q6 k hk).1, (hFr _ (by omega)).trans (q6 k hk).2⟩⟩, ⟨?_, ?_, ?_, fun k hk => ?_⟩⟩
            · rw [w1 7 (by decide) (by decide) (by decide) (by decide), k7, if_neg ex, e2 7 (by decide)]; exact q7
            · rw [w1 14 (by decide) (by decide) (by decide) (by decide), k14, if_neg ex, e2 14 (by decide)]; exact q8
            · rw [w4 x ex, k10' x ex, e2 10 (by decide)]; exact q9
            · obtain ⟨y1, y2, y3⟩ := w6 (6 * x + k) (by omega)
              obtain ⟨x1, x2, x3⟩ := q10 k hk
              refine ⟨y1.trans ?_, y2.trans ?_, y3.trans ?_⟩
              · rw [k0 11 (by decide) (by decide) (by decide) (by decide), e2 11 (by decide)]; exact x1
              · rw [k0 12 (by decide) (by decide) (by decide) (by decide), e2 12 (by decide)]; exact x2
              · rw [k0 13 (by decide) (by decide) (by decide) (by decide), e2 13 (by decide)]; exact x3
    · refine ⟨false, pS, by omega, z2, fun N c m d hN hC hM hD => ?_⟩
      obtain ⟨c1, m1, p'', e1, f1, e2, e3, e4, f2, f3, f4, f5⟩ := hstart N c m d hN hC hM
      have g1 := hF1 c c1 e2 e3
      have g2 := hF2 m m1 f2 f3
      refine ⟨c1, m1, pS, ?_, ?_, g1, g2, fun h => (by cases h)⟩
      · exact (hcl N c c1 hN hC e1 (CT_f hC g1) (by rw [e2 4 (by decide)]; exact hD.2.2.2.1.1)).trans (by rw [if_pos rfl, if_neg h58]; rfl)
      · exact (hmo N m m1 p'' d hN hM hD.2.2.2.1.2 f1 (fun _ => (f5 rfl).1) (MT_f hM g2) (by rw [f2 355 (by decide), gI_s, if_pos rfl])).trans (by rw [if_pos rfl, if_neg h58, if_neg (by decide)])
