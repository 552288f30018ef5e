/-! ===== items, from the first to the last; marks ===== -/
theorem us_m {nl s1 s2 q2 q3 q4 x1 : Nat} {df lo hi : Nat → Nat} (hI : IT nl s1 s2 q2 q3 q4 x1 df lo hi) {N qm off p : Nat} {d : Int32} (hq : qm ≠ 355) (hn : off + nl ≤ sh_n qm) (hn2 : sh_n qm ≤ 1000) : ∀ k j fu m, j + k = nl → k < fu → (∀ i, i < j → m.1 qm (off + i) = nI (df i)) → ∃ m', f_Mo_readItems_L3 N qm s2 fu (nI x1) (nI off) (nI j) (mQ m p (-nI 1) d) = (ob (f_Mo_look N (mQ m' p (-nI 1) d)) fun t37 μ2z => (ob (f_Mo_spotOf N s2 t37 μ2z) fun t40 μ3z => (f_Mo_readItems_L45 N qm s2 N (nI x1) (nI off) 0 t40 μ3z))) ∧ (∀ a, a ≠ qm → m'.1 a = m.1 a) ∧ m'.2 = m.2 ∧ (∀ j, j < off ∨ off + nl ≤ j → m'.1 qm j = m.1 qm j) ∧ (∀ i, i < nl → m'.1 qm (off + i) = nI (df i)) := by
  obtain ⟨⟨l1, l3⟩, sc1, sc2, heq, ⟨z2, z3, z4⟩, hro, hus, hmo, hlo⟩ := hI
  intro k
  induction k with
  | zero =>
    intro j fu m hj hfu hv
    obtain ⟨fu, rfl⟩ : ∃ z, fu = z + 1 := ⟨fu - 1, by omega⟩
    have hj' : j = nl := by omega
    subst hj'
    refine ⟨m, ?_, fun _ _ => rfl, rfl, fun _ _ => rfl, hv⟩
    rw [f_Mo_readItems_L3, st_len sc2, ob_e, if_pos ((nI_leI (by omega) (by omega)).mpr (Nat.le_refl _))]
  | succ k ih =>
    intro j fu m hj hfu hv
    obtain ⟨fu, rfl⟩ : ∃ z, fu = z + 1 := ⟨fu - 1, by omega⟩
    obtain ⟨m', e1, e2, e3, e4, e5⟩ := ih (j + 1) fu (mm_I m qm (off + j) (nI (df j))) (by omega) (by omega) (fun i hi => by
      rw [gI_s]
      by_cases ej : i = j
      · rw [if_pos (by omega), ej]
      · rw [if_neg (by omega)]; exact hv i (by omega))
    refine ⟨m', ?_, fun a ha => by rw [e2 a ha, gI_o ha], by rw [e3]; rfl, fun i hi => by rw [e4 i hi, gI_s, if_neg (by omega)], e5⟩
    rw [f_Mo_readItems_L3, st_len sc2, ob_e, if_neg (fun z => by have := (nI_leI (by omega) (by omega)).mp z; omega), hus N _ j (by omega), ob_e, nI_add, gd_in (by omega) (by omega), nI_clamp (by omega), wr_e, mm_mQ hq, show nI j + 1 = nI (j + 1) from nI_add j 1, e1]
theorem mm_F_cP {c : MM} {p a : Nat} {g : Nat → Int32} (h : a ≠ 1) : mm_F (cP c p) a g = cP (mm_F c a g) p := by
  unfold cP
  apply Prod.ext
  · funext b j
    rw [gF, gI, gI, gF]
    by_cases e : b = a
    · subst e
      rw [if_pos rfl, if_neg h, if_pos rfl]
    · rw [if_neg e, if_neg e]
  · rfl
theorem items_ok {nl s1 s2 q2 q3 q4 x1 : Nat} {df lo hi : Nat → Nat} (hI : IT nl s1 s2 q2 q3 q4 x1 df lo hi) {n p : Nat} {Y : Nat → Nat} (hX : TX n Y) (hp : p ≤ n) : ∃ (ok : Bool) (p' : Nat) (vf : Nat → Nat),
    (∀ (N : Nat) (c : MM), 15000 ≤ N → CT n Y c → ∃ c', f_Tr_readItems N s1 q2 q3 q4 (cP c p) = some (bI ok, cP c' p') ∧ (∀ a, a ≠ 20 → c'.1 a = c.1 a) ∧ c'.2 = c.2 ∧ (ok = true → ∀ i, i < nl → c'.1 20 i = nI (vf i))) ∧
    (∀ (N q bg qm off : Nat) (m : MM) (d : Int32), 15000 ≤ N → MT n Y q bg m → qm ≠ 355 → qm ≠ q → off + nl ≤ sh_n qm → sh_n qm ≤ 1000 → ∃ m' p'', f_Mo_readItems N qm s2 (nI x1) (nI off) (mQ m p (-nI 1) d) = some (mQ m' p'' (if ok = true then -nI 1 else nI p') d) ∧ (∀ a, a ≠ qm → m'.1 a = m.1 a) ∧ m'.2 = m.2 ∧ (∀ j, j < off ∨ off + nl ≤ j → m'.1 qm j = m.1 qm j) ∧ (ok = true → p'' = p' ∧ ∀ i, i < nl → m'.1 qm (off + i) = nI (vf i))) ∧
    (ok = true → BD nl lo hi vf) ∧ p ≤ p' ∧ p' ≤ n := by
  have hI' := hI
  obtain ⟨⟨l1, l3⟩, sc1, sc2, heq, ⟨z2, z3, z4⟩, hro, hus, hmo, hlo⟩ := hI
  obtain ⟨ok, p', vf, H1, H2, H3, H4, H5⟩ := items_from hI' hX (n - p) p 0 df hp (Nat.le_refl _) (by decide) (fun i hi => ⟨(hro i hi).2.2.2.2.1, (hro i hi).2.2.2.2.2⟩)
  refine ⟨ok, p', vf, fun N c hN hC => ?_, fun N q bg qm off m d hN hM h1 h2 h3 h4 => ?_, H3, H4, H5⟩
  · have hcnt : (if (3 : Int32) < Int32.ofNat (sh_n q2) then (3 : Int32) else Int32.ofNat (sh_n q2)) = nI nl := by
      rw [z2, if_neg (show ¬ (3 : Int32) < Int32.ofNat nl from fun z => by have := (nI_ltI (a := 3) (b := nl) (by decide) (by omega)).mp z; omega)]; rfl
    have hcp : cpb 0 0 (nI nl) nl 3 = true := by
      have : nl = 1 ∨ nl = 2 ∨ nl = 3 := by omega
      rcases this with rfl | rfl | rfl <;> decide
    obtain ⟨c', e1, e2, e3, e4⟩ := H1 N (mm_F c 20 (va_cpy (ro_I q2) (c.1 20) (Int32.toNatClampNeg 0) (Int32.toNatClampNeg 0) nl)) N hN (CT_fr hC (by rw [gF_o (by decide)]) (by rw [gF_o (by decide)])) (fun i hi => by
      rw [gF_s]
      unfold va_cpy
      rw [if_pos (show Int32.toNatClampNeg 0 ≤ i ∧ i < Int32.toNatClampNeg 0 + nl from ⟨Nat.zero_le _, by show i < 0 + nl; omega⟩), show Int32.toNatClampNeg 0 + (i - Int32.toNatClampNeg 0) = i from by show 0 + (i - 0) = i; omega]
      exact (hro i hi).1) (by omega)
    refine ⟨c', ?_, fun a ha => by rw [e2 a ha, gF_o ha], by rw [e3]; rfl, e4⟩
    unfold f_Tr_readItems
    rw [hcnt, z2, gd_t hcp, wr_e, cP_1 (by decide), nI_clamp (by omega), mm_F_cP (by decide)]
    exact e1
  · obtain ⟨m1, e1, e2, e3, e4, e5⟩ := us_m hI' (N := N) (p := p) (d := d) h1 h3 h4 nl 0 N m (by omega) (by omega) (fun i hi => absurd hi (by omega))
    have hM1 : MT n Y q bg m1 := MT_fr hM (by rw [e2 355 (Ne.symm h1)]) (by rw [e2 355 (Ne.symm h1)]) (by rw [e2 355 (Ne.symm h1)]) (e2 q (Ne.symm h2))
    obtain ⟨m', p'', d1, d2, d3, d4, d5⟩ := H2 N q bg qm off N m1 d hN hM1 h1 h2 h3 h4 e5 (by omega)
    refine ⟨m', p'', ?_, fun a ha => by rw [d2 a ha, e2 a ha], by rw [d3, e3], fun j hj => by rw [d4 j hj, e4 j hj], d5⟩
    unfold f_Mo_readItems
    refine Eq.trans e1 ?_
    rw [mo_look hN hX hM1 hp, ob_e, mo_spot hN sc2, ob_e]
    exact d1
def p6N (s : Nat) : Nat := s % 2 + s / 2 % 2 + s / 4 % 2 + s / 8 % 2 + s / 16 % 2 + s / 32 % 2
theorem p6_6 (s : Nat) : p6N s ≤ 6 := by unfold p6N; omega
theorem p6_a : ∀ s, s < 64 → ∀ i, i < 6 → tb s i = false → p6N (s + 2 ^ i) = p6N s + 1 ∧ s + 2 ^ i < 64 ∧ nI s ||| ((1 : Int32) <<< (nI i &&& 31)) = nI (s + 2 ^ i) := by decide +kernel
theorem p6_b : ∀ s, s < 64 → ∀ i, i < 6 → ((nI s &&& ((1 : Int32) <<< (nI i &&& 31))) = 0) = (tb s i = false) := by decide +kernel
theorem marks_from {n : Nat} {Y : Nat → Nat} (hX : TX n Y) : ∀ e p mk, p ≤ n → n - p ≤ e → mk < 64 → ∃ (ok : Bool) (p' mf : Nat),
    (∀ (N : Nat) (c : MM) (fu : Nat), 15000 ≤ N → CT n Y c → n - p < fu → f_Tr_readMarks_L4 N fu (nI mk) (nI (p6N mk)) (cP c p) = some ((if ok = true then nI mf else -1), cP c p')) ∧
    (∀ (N q bg fu : Nat) (m : MM) (d : Int32), 15000 ≤ N → MT n Y q bg m → n - p < fu → ∃ r p'', f_Mo_readMarks_L12 N fu (nI mk) (oI (spX 2009 6 (sg n Y (sk n Y p)))) (mQ m (sk n Y p) (-nI 1) d) = some (r, mQ m p'' (if ok = true then -nI 1 else nI p') d) ∧ (ok = true → p'' = p' ∧ r = nI mf)) ∧
    mf < 64 ∧ p ≤ p' ∧ p' ≤ n := by
  have n9 := hX.1
  intro e
  induction e using Nat.strongRecOn with
  | _ e ih =>
  intro p mk hp he hmk
  have hp6 := p6_6 mk
  obtain ⟨a1, a2, a3⟩ := sk_p (Y := Y) hp
  generalize hp0 : sk n Y p = p0 at a1 a2 a3
  have h6 : ¬ (6 : Int32) < nI (p6N mk) := fun z => by have := (nI_ltI (a := 6) (by decide) (by omega)).mp z; omega
  cases hs : spX 2009 6 (sg n Y p0) with
  | none =>
    refine ⟨true, p0, mk, fun N c fu hN hC hfu => ?_, fun N q bg fu m d hN hM hfu => ⟨nI mk, p0, ?_, fun _ => ⟨rfl, rfl⟩⟩, hmk, a1, a2⟩
    · obtain ⟨fu, rfl⟩ : ∃ z, fu = z + 1 := ⟨fu - 1, by omega⟩
      rw [f_Tr_readMarks_L4, if_neg h6, cp_peek hN hX hC hp, hp0, ob_e, if_pos rfl]
      by_cases hl : p0 < n
      · have hy := hX.2 p0 hl
        rw [sg_v hl, sp_9 _ hy.2] at hs
        unfold ltN at hs
        by_cases c : 97 ≤ Y p0 ∧ Y p0 ≤ 102
        · rw [if_pos c] at hs; cases hs
        · rw [sg_v hl]
          by_cases c1 : nI (Y p0) < 97
          · rw [if_pos c1]
          · rw [if_neg c1, if_neg (show ¬ nI (Y p0) ≤ 102 from fun z => by
              have z1 := (nI_leI (b := 102) (by omega) (by decide)).mp z
              have z2 : ¬ Y p0 < 97 := fun q => c1 ((nI_ltI (b := 97) (by omega) (by decide)).mpr q)
              omega)]
      · rw [sg_e hl, if_pos (by decide)]
    · obtain ⟨fu, rfl⟩ : ∃ z, fu = z + 1 := ⟨fu - 1, by omega⟩
      rw [f_Mo_readMarks_L12, if_pos (show oI none = -1 from rfl), if_pos rfl]
  | some i =>
    obtain ⟨i6, -⟩ := sp_some hs
    have hl : p0 < n := by
      by_cases hl : p0 < n
      · exact hl
      · rw [sg_e hl, sp_m1 sc_2009] at hs; cases hs
    have hy := hX.2 p0 hl
    have hc : 97 ≤ Y p0 ∧ Y p0 ≤ 102 ∧ Y p0 - 97 = i := by
      rw [sg_v hl, sp_9 _ hy.2] at hs
      unfold ltN at hs
      by_cases c : 97 ≤ Y p0 ∧ Y p0 ≤ 102
      · rw [if_pos c] at hs; exact ⟨c.1, c.2, Option.some.inj hs⟩
      · rw [if_neg c] at hs; cases hs
    have hcl0 : ∀ (N : Nat) (c : MM) (fu : Nat), 15000 ≤ N → CT n Y c → f_Tr_readMarks_L4 N (fu + 1) (nI mk) (nI (p6N mk)) (cP c p) = (if (nI mk &&& ((1 : Int32) <<< (nI i &&& 31))) = 0 then (f_Tr_readMarks_L4 N fu (nI mk ||| ((1 : Int32) <<< (nI i &&& 31))) (nI (p6N mk + 1)) (cP c (p0 + 1))) else (some ((-1), cP c p0))) := fun N c fu hN hC => by
      rw [f_Tr_readMarks_L4, if_neg h6, cp_peek hN hX hC hp, hp0, ob_e, sg_v hl, if_neg (show ¬ nI (Y p0) < 97 from fun z => by have := (nI_ltI (b := 97) (by omega) (by decide)).mp z; omega), if_pos (show nI (Y p0) ≤ 102 from (nI_leI (b := 102) (by omega) (by decide)).mpr (by omega)), show nI (Y p0) - 97 = nI i from by rw [← hc.2.2]; exact pk_sub (b := 97) hc.1, cp_step hX hC hl, obv_e, show nI (p6N mk) + 1 = nI (p6N mk + 1) from nI_add _ 1]
    cases hb : tb mk i with
    | true =>
      refine ⟨false, p0, mk, fun N c fu hN hC hfu => ?_, fun N q bg fu m d hN hM hfu => ⟨nI mk, p0, ?_, fun h => (by cases h)⟩, hmk, a1, a2⟩
      · obtain ⟨fu, rfl⟩ : ∃ z, fu = z + 1 := ⟨fu - 1, by omega⟩
        rw [hcl0 N c fu hN hC, if_neg (by rw [p6_b mk hmk i i6, hb]; decide), if_neg (by decide)]
      · obtain ⟨fu, rfl⟩ : ∃ z, fu = z + 1 := ⟨fu - 1, by omega⟩
        rw [f_Mo_readMarks_L12, show oI (some i) = nI i from rfl, if_neg (nf (by omega)), mo_has (by omega) (by omega), ob_e, hb, if_neg (show ¬ bI true = 0 by decide), mo_fails, ob_e]; rfl
    | false =>
      obtain ⟨c1, c2, c3⟩ := p6_a mk hmk i i6 hb
      obtain ⟨ok, p', mf, R1, R2, R3, R4, R5⟩ := ih (n - (p0 + 1)) (by omega) (p0 + 1) (mk + 2 ^ i) (by omega) (Nat.le_refl _) c2
      refine ⟨ok, p', mf, fun N c fu hN hC hfu => ?_, fun N q bg fu m d hN hM hfu => ?_, R3, by omega, R5⟩
      · obtain ⟨fu, rfl⟩ : ∃ z, fu = z + 1 := ⟨fu - 1, by omega⟩
        rw [hcl0 N c fu hN hC, if_pos (by rw [p6_b mk hmk i i6]; exact hb), c3, ← c1]
        exact R1 N c fu hN hC (by omega)
      · obtain ⟨fu, rfl⟩ : ∃ z, fu = z + 1 := ⟨fu - 1, by omega⟩
        obtain ⟨r, p'', e1, e2⟩ := R2 N q bg fu m d hN hM (by omega)
        refine ⟨r, p'', ?_, e2⟩
        rw [f_Mo_readMarks_L12, show oI (some i) = nI i from rfl, if_neg (nf (by omega)), mo_has (by omega) (by omega), ob_e, hb, if_pos (show bI false = 0 from rfl), wr_e, mQ_10, show nI p0 + 1 = nI (p0 + 1) from nI_add p0 1, mQ_p, mo_look hN hX hM (by omega), ob_e, mo_spot hN sc_2009, ob_e, c3, e1]
