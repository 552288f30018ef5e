/-! ===== items before a colon ===== -/
def pcN (s : Nat) : Nat := s % 2 + s / 2 % 2 + s / 4 % 2
theorem pc_3 (s : Nat) : pcN s ≤ 3 := by unfold pcN; omega
theorem pc_a : ∀ s, s < 8 → ∀ i, i < 3 → tb s i = false → pcN (s + 2 ^ i) = pcN s + 1 ∧ s + 2 ^ i < 8 ∧ nI s ||| ((1 : Int32) <<< (nI i &&& 31)) = nI (s + 2 ^ i) := by decide +kernel
theorem pc_b : ∀ s, s < 8 → ∀ i, i < 3 → (((nI s >>> (nI i &&& 31)) &&& 1) = 1) = (tb s i = true) := by decide +kernel
def IT (nl s1 s2 q2 q3 q4 x1 : Nat) (df lo hi : Nat → Nat) : Prop :=
  (1 ≤ nl ∧ nl ≤ 3) ∧ SC s1 nl ∧ SC s2 nl ∧ (∀ k, k < nl → st_I (s1 + 1000) k = st_I (s2 + 1000) k) ∧ (sh_n q2 = nl ∧ sh_n q3 = nl ∧ sh_n q4 = nl) ∧
  (∀ i, i < nl → ro_I q2 i = nI (df i) ∧ ro_I q3 i = nI (lo i) ∧ ro_I q4 i = nI (hi i) ∧ hi i < 1000 ∧ lo i ≤ df i ∧ df i ≤ hi i) ∧
  (∀ N μ i, i < nl → f_Mo_usual N (nI x1) (nI i) μ = some (nI (df i), μ)) ∧ (∀ N μ i, i < nl → f_Mo_mostOf N (nI x1) (nI i) μ = some (nI (hi i), μ)) ∧
  (∀ i, i < nl → (if nI x1 = 99 then (if nI i = 0 then (1 : Int32) else 0) else 0) = nI (lo i))
def BD (nl : Nat) (lo hi v : Nat → Nat) : Prop := ∀ i, i < nl → lo i ≤ v i ∧ v i ≤ hi i
theorem CT_fr {n : Nat} {Y : Nat → Nat} {c c' : MM} (hC : CT n Y c) (h1 : c'.1 1 1 = c.1 1 1) (h2 : c'.1 2 = c.1 2) : CT n Y c' := ⟨by rw [h1]; exact hC.1, fun j hj => by rw [h2]; exact hC.2 j hj⟩
theorem MT_fr {n : Nat} {Y : Nat → Nat} {q bg : Nat} {m m' : MM} (hM : MT n Y q bg m) (h1 : m'.1 355 5 = m.1 355 5) (h2 : m'.1 355 8 = m.1 355 8) (h3 : m'.1 355 9 = m.1 355 9) (h4 : m'.1 q = m.1 q) : MT n Y q bg m' := by
  obtain ⟨g1, g2, g3, g4, g5, g6, g7⟩ := hM
  exact ⟨by rw [h1]; exact g1, by rw [h2]; exact g2, by rw [h3]; exact g3, g4, g5, g6, fun j hj => by rw [h4]; exact g7 j hj⟩
theorem items_from {nl s1 s2 q2 q3 q4 x1 : Nat} {df lo hi : Nat → Nat} (hI : IT nl s1 s2 q2 q3 q4 x1 df lo hi) {n : Nat} {Y : Nat → Nat} (hX : TX n Y) : ∀ e p sn (v0 : Nat → Nat), p ≤ n → n - p ≤ e → sn < 8 → BD nl lo hi v0 → ∃ (ok : Bool) (p' : Nat) (vf : Nat → Nat),
    (∀ (N : Nat) (c : MM) (fu : Nat), 15000 ≤ N → CT n Y c → (∀ i, i < nl → c.1 20 i = nI (v0 i)) → 3 - pcN sn < fu → ∃ c', f_Tr_readItems_L26 N s1 q2 q3 q4 fu (nI sn) (nI (pcN sn)) (cP c p) = some (bI ok, cP c' p') ∧ (∀ a, a ≠ 20 → c'.1 a = c.1 a) ∧ c'.2 = c.2 ∧ (ok = true → ∀ i, i < nl → c'.1 20 i = nI (vf i))) ∧
    (∀ (N q bg qm off fu : Nat) (m : MM) (d : Int32), 15000 ≤ N → MT n Y q bg m → qm ≠ 355 → qm ≠ q → off + nl ≤ sh_n qm → sh_n qm ≤ 1000 → (∀ i, i < nl → m.1 qm (off + i) = nI (v0 i)) → 3 - pcN sn < fu → ∃ m' p'', f_Mo_readItems_L45 N qm s2 fu (nI x1) (nI off) (nI sn) (oI (spX s2 nl (sg n Y (sk n Y p)))) (mQ m (sk n Y p) (-nI 1) d) = some (mQ m' p'' (if ok = true then -nI 1 else nI p') d) ∧ (∀ a, a ≠ qm → m'.1 a = m.1 a) ∧ m'.2 = m.2 ∧ (∀ j, j < off ∨ off + nl ≤ j → m'.1 qm j = m.1 qm j) ∧ (ok = true → p'' = p' ∧ ∀ i, i < nl → m'.1 qm (off + i) = nI (vf i))) ∧
    (ok = true → BD nl lo hi vf) ∧ p ≤ p' ∧ p' ≤ n := by
  have n9 := hX.1
  obtain ⟨⟨l1, l3⟩, sc1, sc2, heq, ⟨z2, z3, z4⟩, hro, hus, hmo, hlo⟩ := hI
  have hsp : ∀ x, spX s1 nl x = spX s2 nl x := fun x => sp_eq heq x
  intro e
  induction e using Nat.strongRecOn with
  | _ e ih =>
  intro p sn v0 hp he hsn hv0
  have hpc := pc_3 sn
  obtain ⟨a1, a2, a3⟩ := sk_p (Y := Y) hp
  generalize hp0 : sk n Y p = p0 at a1 a2 a3
  have hcl0 : ∀ (N : Nat) (c : MM) (fu : Nat), 15000 ≤ N → CT n Y c → f_Tr_readItems_L26 N s1 q2 q3 q4 (fu + 1) (nI sn) (nI (pcN sn)) (cP c p) = f_Tr_readItems_B62 N s1 q2 q3 q4 (f_Tr_readItems_L26 N s1 q2 q3 q4 fu) (nI sn) (nI (pcN sn)) (oI (spX s2 nl (sg n Y p0))) (cP c p0) := fun N c fu hN hC => by
    rw [f_Tr_readItems_L26, if_neg (show ¬ (3 : Int32) < nI (pcN sn) from fun z => by have := (nI_ltI (a := 3) (by decide) (by omega)).mp z; omega), cp_peek hN hX hC hp, hp0, ob_e]
    by_cases hl : p0 < n
    · have hy := hX.2 p0 hl
      rw [sg_v hl, if_neg (nf (by omega)), st_idx hN sc1 (by omega) hy.2, ob_e, hsp]
    · rw [sg_e hl, if_pos m1e, sp_m1 sc2]; rfl
  cases hs : spX s2 nl (sg n Y p0) with
  | none =>
    refine ⟨true, p0, v0, fun N c fu hN hC hv hfu => ⟨c, ?_, fun _ _ => rfl, rfl, fun _ => hv⟩, fun N q bg qm off fu m d hN hM h1 h2 h3 h4 hv hfu => ⟨m, p0, ?_, fun _ _ => rfl, rfl, fun _ _ => rfl, fun _ => ⟨rfl, hv⟩⟩, fun _ => hv0, a1, a2⟩
    · obtain ⟨fu, rfl⟩ : ∃ z, fu = z + 1 := ⟨fu - 1, by omega⟩
      rw [hcl0 N c fu hN hC, hs]
      unfold f_Tr_readItems_B62
      rw [if_pos (show oI none < 0 by decide)]; rfl
    · obtain ⟨fu, rfl⟩ : ∃ z, fu = z + 1 := ⟨fu - 1, by omega⟩
      rw [f_Mo_readItems_L45, if_pos (show oI none = -1 from rfl), if_pos rfl]
  | some i =>
    obtain ⟨i1, -⟩ := sp_some hs
    obtain ⟨r1, r2, r3, r4, r5, r6⟩ := hro i i1
    have hl : p0 < n := by
      by_cases hl : p0 < n
      · exact hl
      · rw [sg_e hl, sp_m1 sc2] at hs; cases hs
    have hcl1 : ∀ (N : Nat) (c : MM) (fu : Nat), 15000 ≤ N → CT n Y c → f_Tr_readItems_B62 N s1 q2 q3 q4 (f_Tr_readItems_L26 N s1 q2 q3 q4 fu) (nI sn) (nI (pcN sn)) (oI (some i)) (cP c p0) = (if ((nI sn >>> (nI i &&& 31)) &&& 1) = 1 then (some (0, cP c p0)) else (ob (f_Ta_peek N (cP c (p0 + 1))) fun t129 μ5z => (ob (f_Ta_readNumber N 2 (nI (lo i)) (nI (hi i)) μ5z) fun t147 μ6z => (if t147 = (-1) then (some (0, μ6z)) else (wr (mm_I μ6z 20 i t147) fun μ7z => (f_Tr_readItems_L26 N s1 q2 q3 q4 fu (nI sn ||| ((1 : Int32) <<< (nI i &&& 31))) (nI (pcN sn + 1)) μ7z)))))) := fun N c fu hN hC => by
      show f_Tr_readItems_B62 N s1 q2 q3 q4 (f_Tr_readItems_L26 N s1 q2 q3 q4 fu) (nI sn) (nI (pcN sn)) (nI i) (cP c p0) = _
      unfold f_Tr_readItems_B62
      rw [if_neg (nI_pos (by omega)), z3, z4, if_neg (show ¬ Int32.ofNat nl ≤ nI i from fun z => by have := (nI_leI (a := nl) (by omega) (by omega)).mp z; omega), if_neg (show ¬ Int32.ofNat nl ≤ nI i from fun z => by have := (nI_leI (a := nl) (by omega) (by omega)).mp z; omega), if_pos (show nI i < 3 from (nI_ltI (b := 3) (by omega) (by decide)).mpr (by omega)), cp_step hX hC hl, obv_e, nI_clamp (by omega), r2, r3, show nI (pcN sn) + 1 = nI (pcN sn + 1) from nI_add _ 1]
      simp only [gd_in i1 (by omega : nl < 2 ^ 31), gd_in (show i < 3 by omega) (by decide)]
    cases hb : tb sn i with
    | true =>
      refine ⟨false, p0, v0, fun N c fu hN hC hv hfu => ⟨c, ?_, fun _ _ => rfl, rfl, fun h => (by cases h)⟩, fun N q bg qm off fu m d hN hM h1 h2 h3 h4 hv hfu => ⟨m, p0, ?_, fun _ _ => rfl, rfl, fun _ _ => rfl, fun h => (by cases h)⟩, fun h => (by cases h), a1, a2⟩
      · obtain ⟨fu, rfl⟩ : ∃ z, fu = z + 1 := ⟨fu - 1, by omega⟩
        rw [hcl0 N c fu hN hC, hs, hcl1 N c fu hN hC, if_pos (by rw [pc_b sn hsn i (by omega)]; exact hb)]; rfl
      · obtain ⟨fu, rfl⟩ : ∃ z, fu = z + 1 := ⟨fu - 1, by omega⟩
        rw [f_Mo_readItems_L45, show oI (some i) = nI i from rfl, if_neg (nf (by omega)), mQ_11, if_pos m1e, mo_has (by omega) (by omega), ob_e, hb, if_neg (show ¬ bI true = 0 by decide), mo_fails, ob_e]; rfl
    | false =>
      obtain ⟨c1, c2, c3⟩ := pc_a sn hsn i (by omega) hb
      have hpc2 := pc_3 (sn + 2 ^ i)
      have hpc3 : pcN sn ≤ 2 := by omega
      obtain ⟨b1, b2, b3⟩ := sk_p (Y := Y) (n := n) (p := p0 + 1) (by omega)
      generalize hpa : sk n Y (p0 + 1) = pa at b1 b2 b3
      obtain ⟨u1, u2, u3⟩ := nu_p (Y := Y) (lo := lo i) (hi := hi i) b2
      have hcl2 : ∀ (N : Nat) (c : MM) (fu : Nat), 15000 ≤ N → CT n Y c → f_Tr_readItems_L26 N s1 q2 q3 q4 (fu + 1) (nI sn) (nI (pcN sn)) (cP c p) = (if nuI (nuN n Y (lo i) (hi i) pa).1 = (-1) then (some (0, cP c (nuN n Y (lo i) (hi i) pa).2)) else (wr (mm_I (cP c (nuN n Y (lo i) (hi i) pa).2) 20 i (nuI (nuN n Y (lo i) (hi i) pa).1)) fun μ7z => (f_Tr_readItems_L26 N s1 q2 q3 q4 fu (nI (sn + 2 ^ i)) (nI (pcN (sn + 2 ^ i))) μ7z))) := fun N c fu hN hC => by
        rw [hcl0 N c fu hN hC, hs, hcl1 N c fu hN hC, if_neg (by rw [pc_b sn hsn i (by omega), hb]; decide), cp_peek hN hX hC (by omega), hpa, ob_e, nu_c hN hX hC b2 (by omega) (by omega), ob_e, c3, c1]
      have hmo0 : ∀ (N q bg qm off fu : Nat) (m : MM) (d : Int32), 15000 ≤ N → MT n Y q bg m → qm ≠ 355 → off + nl ≤ sh_n qm → sh_n qm ≤ 1000 → f_Mo_readItems_L45 N qm s2 (fu + 1) (nI x1) (nI off) (nI sn) (oI (some i)) (mQ m p0 (-nI 1) d) = ob (f_Mo_number N (nI (lo i)) (nI (hi i)) (mQ m (p0 + 1) (-nI 1) d)) fun t122 μ7z => (wr (mm_I μ7z qm (off + i) t122) fun μ8z => (if (μ8z.1 355 11) = (-1) then (ob (f_Mo_look N μ8z) fun t137 μ9z => (ob (f_Mo_spotOf N s2 t137 μ9z) fun t140 μ10z => (f_Mo_readItems_L45 N qm s2 fu (nI x1) (nI off) (nI (sn + 2 ^ i)) t140 μ10z))) else (f_Mo_readItems_L45 N qm s2 fu (nI x1) (nI off) (nI (sn + 2 ^ i)) (nI i) μ8z))) := fun N q bg qm off fu m d hN hM h1 h3 h4 => by
        have h116 : (if nI x1 = 99 then (if nI i = 0 then (f_Mo_readItems_B116 N qm s2 (f_Mo_readItems_L45 N qm s2 fu) (nI x1) (nI off) (nI sn ||| ((1 : Int32) <<< (nI i &&& 31))) (nI i) (nI off + nI i) 1 (mQ m (p0 + 1) (-nI 1) d)) else (f_Mo_readItems_B115 N qm s2 (f_Mo_readItems_L45 N qm s2 fu) (nI x1) (nI off) (nI sn ||| ((1 : Int32) <<< (nI i &&& 31))) (nI i) (nI off + nI i) (mQ m (p0 + 1) (-nI 1) d))) else (f_Mo_readItems_B115 N qm s2 (f_Mo_readItems_L45 N qm s2 fu) (nI x1) (nI off) (nI sn ||| ((1 : Int32) <<< (nI i &&& 31))) (nI i) (nI off + nI i) (mQ m (p0 + 1) (-nI 1) d))) = f_Mo_readItems_B116 N qm s2 (f_Mo_readItems_L45 N qm s2 fu) (nI x1) (nI off) (nI (sn + 2 ^ i)) (nI i) (nI (off + i)) (nI (lo i)) (mQ m (p0 + 1) (-nI 1) d) := by
          have hlo1 := hlo i i1
          unfold f_Mo_readItems_B115
          rw [c3, nI_add]
          by_cases e1 : nI x1 = 99
          · rw [if_pos e1] at hlo1 ⊢
            by_cases e2 : nI i = 0
            · rw [if_pos e2] at hlo1 ⊢; rw [hlo1]
            · rw [if_neg e2] at hlo1 ⊢; rw [hlo1]
          · rw [if_neg e1] at hlo1 ⊢; rw [hlo1]
        rw [f_Mo_readItems_L45, show oI (some i) = nI i from rfl, if_neg (nf (by omega)), mQ_11, if_pos m1e, mo_has (by omega) (by omega), ob_e, hb, if_pos (show bI false = 0 from rfl), wr_e, mQ_10, show nI p0 + 1 = nI (p0 + 1) from nI_add p0 1, mQ_p, h116]
        unfold f_Mo_readItems_B116
        rw [hmo N _ i i1, ob_e]
        refine congrArg (ob _) (funext fun t122 => funext fun μ7z => ?_)
        rw [gd_in (by omega) (by omega), nI_clamp (by omega)]
      cases hnu : (nuN n Y (lo i) (hi i) pa).1 with
      | none =>
        refine ⟨false, (nuN n Y (lo i) (hi i) pa).2, v0, fun N c fu hN hC hv hfu => ⟨c, ?_, fun _ _ => rfl, rfl, fun h => (by cases h)⟩, fun N q bg qm off fu m d hN hM h1 h2 h3 h4 hv hfu => ?_, fun h => (by cases h), by omega, u1⟩
        · obtain ⟨fu, rfl⟩ : ∃ z, fu = z + 1 := ⟨fu - 1, by omega⟩
          rw [hcl2 N c fu hN hC, hnu, if_pos (show nuI none = -1 from rfl)]; rfl
        · obtain ⟨fu, rfl⟩ : ∃ z, fu = z + 2 := ⟨fu - 2, by omega⟩
          obtain ⟨q1, q2'⟩ := nu_m (d := d) hN hX hM (p := p0 + 1) (by omega) (by omega : lo i < 1000) r4
          rw [hpa] at q2'
          obtain ⟨r, p'', e9⟩ := q2' hnu
          refine ⟨mm_I m qm (off + i) r, p'', ?_, fun a ha => by rw [gI_o ha], rfl, fun j hj => by rw [gI_s, if_neg (by omega)], fun h => (by cases h)⟩
          rw [show fu + 2 = fu + 1 + 1 by omega, hmo0 N q bg qm off (fu + 1) m d hN hM h1 h3 h4, e9, ob_e, wr_e, mm_mQ h1, mQ_11, if_neg (nf (by omega)), f_Mo_readItems_L45, if_neg (nf (by omega)), mQ_11, if_neg (nf (by omega)), if_neg (by decide)]
      | some v =>
        obtain ⟨w1, w2, w3⟩ := u3 v hnu
        have hv1 : BD nl lo hi (fun j => if j = i then v else v0 j) := fun j hj => by
          show lo j ≤ (if j = i then v else v0 j) ∧ (if j = i then v else v0 j) ≤ hi j
          by_cases ej : j = i
          · rw [if_pos ej, ej]; exact ⟨w1, w2⟩
          · rw [if_neg ej]; exact hv0 j hj
        obtain ⟨ok, p', vf, R1, R2, R3, R4, R5⟩ := ih (n - (nuN n Y (lo i) (hi i) pa).2) (by omega) (nuN n Y (lo i) (hi i) pa).2 (sn + 2 ^ i) (fun j => if j = i then v else v0 j) u1 (Nat.le_refl _) c2 hv1
        refine ⟨ok, p', vf, fun N c fu hN hC hv hfu => ?_, fun N q bg qm off fu m d hN hM h1 h2 h3 h4 hv hfu => ?_, R3, by omega, R5⟩
        · obtain ⟨fu, rfl⟩ : ∃ z, fu = z + 1 := ⟨fu - 1, by omega⟩
          obtain ⟨c', d1, d2, d3, d4⟩ := R1 N (mm_I c 20 i (nI v)) fu hN (CT_w hC (by decide) (by decide)) (fun j hj => by
            rw [gI_s]
            by_cases ej : j = i
            · rw [if_pos ej, if_pos ej]
            · rw [if_neg ej, if_neg ej]; exact hv j hj) (by rw [c1]; omega)
          refine ⟨c', ?_, fun a ha => by rw [d2 a ha, gI_o ha], by rw [d3]; rfl, d4⟩
          rw [hcl2 N c fu hN hC, hnu, show nuI (some v) = nI v from rfl, if_neg (nf (by omega)), wr_e, mm_cP (by decide), d1]
        · obtain ⟨fu, rfl⟩ : ∃ z, fu = z + 1 := ⟨fu - 1, by omega⟩
          obtain ⟨q1, q2'⟩ := nu_m (d := d) hN hX hM (p := p0 + 1) (by omega) (by omega : lo i < 1000) r4
          rw [hpa] at q1
          have e9 := q1 v hnu
          obtain ⟨m', p'', d1, d2, d3, d4, d5⟩ := R2 N q bg qm off fu (mm_I m qm (off + i) (nI v)) d hN (MT_w hM h1 h2) h1 h2 h3 h4 (fun j hj => by
            rw [gI_s]
            by_cases ej : j = i
            · rw [if_pos (by omega), if_pos ej]
            · rw [if_neg (by omega), if_neg ej]; exact hv j hj) (by rw [c1]; omega)
          refine ⟨m', p'', ?_, fun a ha => by rw [d2 a ha, gI_o ha], by rw [d3]; rfl, fun j hj => by rw [d4 j hj, gI_s, if_neg (by omega)], d5⟩
          rw [hmo0 N q bg qm off fu m d hN hM h1 h3 h4, e9, ob_e, wr_e, mm_mQ h1, mQ_11, if_pos m1e, mo_look hN hX (MT_w hM h1 h2) u1, ob_e, mo_spot hN sc2, ob_e, d1]
