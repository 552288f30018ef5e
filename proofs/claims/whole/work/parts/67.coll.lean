/-! ===== a collection, to its end ===== -/
theorem p8_a : ∀ s, s < 256 → ∀ i, i < 8 → tb s i = false → s + 2 ^ i < 256 ∧ nI s ||| ((1 : Int32) <<< (nI i &&& 31)) = nI (s + 2 ^ i) := by decide +kernel
theorem p8_b : ∀ s, s < 256 → ∀ i, i < 8 → (((nI s >>> (nI i &&& 31)) &&& 1) = 1) = (tb s i = true) := by decide +kernel
def thO (nt nc : Nat) (F : Nat → Int32) (x : Nat) : Prop := ∀ y, x ≤ y → y < nc → ∀ t, t ≤ 8 → F (16 * y + 2) = nI t → t = 8 ∨ t < nt
theorem whole_from {nt nc ru N p p2 : Nat} {c m : MM} {f d : Int32} (hD : DR nt nc ru c m) : ∀ k x sn fu fu2, x + k = nc → sn < 256 → k < fu → k < fu2 → ∃ wh, f_Tr_isWhole_L4 N fu (nI sn) (nI x) (cP c p) = some (bI wh, cP c p) ∧ f_Mo_isWhole_L4 N fu2 (nI sn) (nI x) (mQ m p2 f d) = some (bI wh, mQ m p2 f d) ∧ (wh = true → 1 ≤ nt ∧ 1 ≤ nc ∧ thO nt nc (m.1 366) x) := by
  obtain ⟨⟨d1, d2, d3⟩, ⟨d4, d5⟩, ⟨d6, d7⟩, ⟨d8, d9⟩, d10, d11, d12, d13⟩ := hD
  have q1 : (cP c p).1 4 0 = nI nt := by rw [cP_1 (by decide)]; exact d6
  have q2 : (cP c p).1 4 1 = nI nc := by rw [cP_1 (by decide)]; exact d8
  have q3 : (mQ m p2 f d).1 355 28 = nI nt := by rw [mQ_s (by decide) (by decide) (by decide)]; exact d7
  have q4 : (mQ m p2 f d).1 355 29 = nI nc := by rw [mQ_s (by decide) (by decide) (by decide)]; exact d9
  have q5 : (cP c p).1 14 = c.1 14 := cP_1 (by decide)
  have q6 : (mQ m p2 f d).1 366 = m.1 366 := mQ_1 (by decide)
  intro k
  induction k with
  | zero =>
    intro x sn fu fu2 hx hsn hfu hfu2
    obtain ⟨fu, rfl⟩ : ∃ z, fu = z + 1 := ⟨fu - 1, by omega⟩
    obtain ⟨fu2, rfl⟩ : ∃ z, fu2 = z + 1 := ⟨fu2 - 1, by omega⟩
    have hle : nI nc ≤ nI x := (nI_leI (by omega) (by omega)).mpr (by omega)
    have e0 : ∀ a, a ≤ 8 → (nI a ≤ 0 ↔ a = 0) := fun a ha => by rw [l_0, nI_leI (by omega) (by omega)]; omega
    rw [f_Tr_isWhole_L4, f_Mo_isWhole_L4, q1, q2, q3, q4, if_pos hle, if_pos hle]
    by_cases h1 : nt = 0
    · exact ⟨false, by rw [if_pos ((e0 nt d1).mpr h1)]; rfl, by rw [if_pos ((e0 nt d1).mpr h1)]; rfl, fun h => (by cases h)⟩
    · by_cases h2 : nc = 0
      · exact ⟨false, by rw [if_neg (fun z => h1 ((e0 nt d1).mp z)), if_pos ((e0 nc (by omega)).mpr h2)]; rfl, by rw [if_neg (fun z => h1 ((e0 nt d1).mp z)), if_pos ((e0 nc (by omega)).mpr h2)]; rfl, fun h => (by cases h)⟩
      · exact ⟨true, by rw [if_neg (fun z => h1 ((e0 nt d1).mp z)), if_neg (fun z => h2 ((e0 nc (by omega)).mp z))]; rfl, by rw [if_neg (fun z => h1 ((e0 nt d1).mp z)), if_neg (fun z => h2 ((e0 nc (by omega)).mp z))]; rfl, fun _ => ⟨by omega, by omega, fun y hy1 hy2 => absurd hy2 (by omega)⟩⟩
  | succ k ih =>
    intro x sn fu fu2 hx hsn hfu hfu2
    obtain ⟨fu, rfl⟩ : ∃ z, fu = z + 1 := ⟨fu - 1, by omega⟩
    obtain ⟨fu2, rfl⟩ : ∃ z, fu2 = z + 1 := ⟨fu2 - 1, by omega⟩
    obtain ⟨i, g, t, ws, ⟨-, -, -, t8, -⟩, ⟨-, -, t2, -⟩, ⟨-, u2, -⟩⟩ := d13 x (by omega)
    have hnle : ¬ nI nc ≤ nI x := fun z => by have := (nI_leI (by omega) (by omega)).mp z; omega
    have hix : 16 * nI x + 2 = nI (16 * x + 2) := by rw [show 16 * nI x = nI (16 * x) from (Int32.ofNat_mul 16 x).symm]; exact nI_add _ 2
    have hone : ∀ y, x ≤ y → y < nc → ¬ y = x → x + 1 ≤ y := fun y h1 h2 h3 => by omega
    have hth : (t = 8 ∨ t < nt) → thO nt nc (m.1 366) (x + 1) → thO nt nc (m.1 366) x := fun h h2 y hy1 hy2 t' ht' e' => by
      by_cases ey : y = x
      · subst ey
        have : t' = t := (nI_eq (by omega) (by omega)).mp (e'.symm.trans t2)
        rw [this]; exact h
      · exact h2 y (hone y hy1 hy2 ey) hy2 t' ht' e'
    rw [f_Tr_isWhole_L4, f_Mo_isWhole_L4, q2, q4, if_neg hnle, if_neg hnle, gd_in (by omega) (by decide), nI_clamp (by omega), q5, u2, hix, gd_in (by omega) (by decide), nI_clamp (by omega), q6, t2, show nI x + 1 = nI (x + 1) from nI_add x 1]
    by_cases h8 : t = 8
    · obtain ⟨wh, e1, e2, e3⟩ := ih (x + 1) sn fu fu2 (by omega) hsn (by omega) (by omega)
      refine ⟨wh, ?_, ?_, fun h => ?_⟩
      · rw [if_pos h8, if_pos m1e, e1]
      · rw [if_pos (show nI t = 8 by rw [h8]; rfl), e2]
      · obtain ⟨y1, y2, y3⟩ := e3 h
        exact ⟨y1, y2, hth (Or.inl h8) y3⟩
    · have hn8 : ¬ nI t = 8 := fun z => h8 ((nI_eq (b := 8) (by omega) (by decide)).mp z)
      rw [if_neg h8, if_neg (nf (by omega)), if_neg hn8]
      by_cases hlt : t < nt
      · have hisT : f_Co_isThing N 4 (nI t) (cP c p) = some (1, cP c p) := by
          unfold f_Co_isThing
          rw [if_neg (nI_pos (by omega)), q1, if_neg (fun z => by have := (nI_leI (by omega) (by omega)).mp z; omega), if_neg (show ¬ (8 : Int32) ≤ nI t from fun z => by have := (nI_leI (a := 8) (by decide) (by omega)).mp z; omega)]
        rw [hisT, ob_e, if_neg (show ¬ (1 : Int32) = 0 by decide), q3, if_neg (show ¬ nI nt ≤ nI t from fun z => by have := (nI_leI (by omega) (by omega)).mp z; omega), mo_has (by omega) (by omega), ob_e]
        cases hb : tb sn t with
        | true =>
          exact ⟨false, by rw [if_pos (by rw [p8_b sn hsn t (by omega)]; exact hb)]; rfl, by rw [if_neg (show ¬ bI true = 0 by decide)]; rfl, fun h => (by cases h)⟩
        | false =>
          obtain ⟨c1, c2⟩ := p8_a sn hsn t (by omega) hb
          obtain ⟨wh, e1, e2, e3⟩ := ih (x + 1) (sn + 2 ^ t) fu fu2 (by omega) c1 (by omega) (by omega)
          refine ⟨wh, ?_, ?_, fun h => ?_⟩
          · rw [if_neg (by rw [p8_b sn hsn t (by omega), hb]; decide), c2, e1]
          · rw [if_pos (show bI false = 0 from rfl), c2, e2]
          · obtain ⟨y1, y2, y3⟩ := e3 h
            exact ⟨y1, y2, hth (Or.inr hlt) y3⟩
      · have hisT : f_Co_isThing N 4 (nI t) (cP c p) = some (0, cP c p) := by
          unfold f_Co_isThing
          rw [if_neg (nI_pos (by omega)), q1, if_pos ((nI_leI (by omega) (by omega)).mpr (by omega))]
        exact ⟨false, by rw [hisT, ob_e, if_pos rfl]; rfl, by rw [q3, if_pos ((nI_leI (by omega) (by omega)).mpr (by omega))]; rfl, fun h => (by cases h)⟩
theorem b111_f {N pf p'' : Nat} {m : MM} {d : Int32} (h : pf < 2 ^ 31) : f_Mo_readCollection_B111 N (mQ m p'' (nI pf) d) = some (mQ m p'' (nI pf) d) := by
  unfold f_Mo_readCollection_B111
  rw [mQ_11, if_neg (nf h)]
theorem coll_from {n : Nat} {Y : Nat → Nat} (hX : TX n Y) : ∀ e p nt nc ru (N : Nat) (c m : MM) (d : Int32) (fu fu2 i : Nat), p ≤ n → n - p ≤ e → 15000 ≤ N → CT n Y c → MT n Y 356 0 m → DR nt nc ru c m → i ≤ p → n - p < fu → n - p + 1 < fu2 → ∃ (ok : Bool) (p' nt' nc' ru' : Nat) (c' m' : MM) (p'' : Nat), f_Tr_readCollection_L71 N fu (nI i) (cP c p) = some (bI ok, cP c' p') ∧ f_Mo_readCollection_L55 N fu2 1 (mQ m p (-nI 1) d) = some (mQ m' p'' (if ok = true then -nI 1 else nI p') d) ∧ cFr c c' ∧ mFr m m' ∧ p' ≤ n ∧ (ok = true → DR nt' nc' ru' c' m' ∧ 1 ≤ nt' ∧ 1 ≤ nc' ∧ thO nt' nc' (m'.1 366) 0) := by
  have n9 := hX.1
  intro e
  induction e using Nat.strongRecOn with
  | _ e ih =>
  intro p nt nc ru N c m d fu fu2 i hp he hN hC hM hD hi hfu hfu2
  obtain ⟨fu, rfl⟩ : ∃ z, fu = z + 1 := ⟨fu - 1, by omega⟩
  obtain ⟨fu2, rfl⟩ : ∃ z, fu2 = z + 2 := ⟨fu2 - 2, by omega⟩
  obtain ⟨ok, p1, nt1, nc1, ru1, a1, a2, a3, a4⟩ := dcl_ok (nt := nt) (nc := nc) (ru := ru) hX hp hD.1.1 hD.1.2.1 hD.1.2.2
  obtain ⟨c1, m1, p'', e1, e2, e3, e4, e5⟩ := a4 N c m d hN hC hM hD
  have e1' : f_Tr_readClause N (cP c p) = some (bI ok, cP c1 p1) := e1
  have e2' : f_Mo_readClause N (mQ m p (-nI 1) d) = some (mQ m1 p'' (if ok = true then -nI 1 else nI p1) d) := e2
  have hC1 := CT_f hC e3
  have hM1 := MT_f hM e4
  rw [f_Tr_readCollection_L71, if_neg (show ¬ (240 : Int32) < nI i from fun z => by have := (nI_ltI (a := 240) (by omega) (by omega)).mp z; omega), e1', ob_e, show fu2 + 2 = fu2 + 1 + 1 by omega, f_Mo_readCollection_L55, if_neg (show ¬ (1 : Int32) = 0 by decide), mQ_11, if_pos m1e, e2', obv_e, mQ_11]
  cases ok with
  | false =>
    refine ⟨false, p1, 0, 0, 0, c1, m1, p'', ?_, ?_, e3, e4, a2, fun h => (by cases h)⟩
    · rw [if_pos (show bI false = 0 from rfl)]; rfl
    · rw [if_neg (show ¬ false = true by decide), if_neg (nf (by omega))]
      unfold f_Mo_readCollection_B92 f_Mo_readCollection_B93
      rw [if_pos rfl, f_Mo_readCollection_L55, if_pos rfl, b111_f (by omega)]
  | true =>
    obtain ⟨ep, hD1⟩ := e5 rfl
    subst ep
    have hlt := a3 rfl
    obtain ⟨z1, z2, z3⟩ := sk_p (Y := Y) a2
    have hss := sk_sk (Y := Y) a2
    rw [if_neg (show ¬ bI true = 0 by decide), show (59 : Int32) = nI 59 from rfl, cp_accept hN hX hC1 a2 (by decide), if_pos (show true = true from rfl), if_pos m1e, mo_look hN hX hM1 a2, ob_e]
    generalize hpS : sk n Y p'' = pS at z1 z2 z3 hss
    by_cases h59 : sg n Y pS = nI 59
    · have hl := (sg_lt hX (by decide) h59).1
      obtain ⟨ok, p', nt', nc', ru', c', m', p3, r1, r2, r3, r4, r5, r6⟩ := ih (n - (pS + 1)) (by omega) (pS + 1) nt1 nc1 ru1 N c1 m1 d fu (fu2 + 1) (i + 1) (by omega) (Nat.le_refl _) hN hC1 hM1 hD1 (by omega) (by omega) (by omega)
      refine ⟨ok, p', nt', nc', ru', c', m', p3, ?_, ?_, cFr_t e3 r3, mFr_t e4 r4, r5, r6⟩
      · rw [if_pos h59, ob_e, if_neg (by decide), show nI i + 1 = nI (i + 1) from nI_add i 1, r1]
      · rw [if_pos h59]
        unfold f_Mo_readCollection_B93
        rw [if_neg (by decide), wr_e, mQ_10, show nI pS + 1 = nI (pS + 1) from nI_add pS 1, mQ_p, r2]
    · rw [if_neg h59, ob_e, if_pos (by decide), if_neg h59]
      unfold f_Mo_readCollection_B92 f_Mo_readCollection_B93
      rw [if_pos rfl, f_Mo_readCollection_L55, if_pos rfl]
      unfold f_Mo_readCollection_B111 f_Mo_readCollection_B134
      rw [cp_peek hN hX hC1 z2, hss, ob_e, mQ_11, if_pos m1e, mo_look hN hX hM1 z2, hss, ob_e]
      by_cases hm : sg n Y pS = -1
      · rw [if_pos hm, if_pos hm]
        obtain ⟨wh, w1, w2, w3⟩ := whole_from (N := N) (p := pS) (p2 := pS) (f := -nI 1) (d := d) hD1 nc1 0 0 N N (by omega) (by decide) (by have := hD1.1.2.1; omega) (by have := hD1.1.2.1; omega)
        have w1' : f_Tr_isWhole N (cP c1 pS) = some (bI wh, cP c1 pS) := w1
        have w2' : f_Mo_isWhole N (mQ m1 pS (-nI 1) d) = some (bI wh, mQ m1 pS (-nI 1) d) := w2
        rw [w1', w2', ob_e, ob_e]
        cases wh with
        | true => exact ⟨true, pS, nt1, nc1, ru1, c1, m1, pS, by rw [if_neg (show ¬ bI true = 0 by decide)]; rfl, by rw [if_neg (show ¬ bI true = 0 by decide), if_pos rfl], e3, e4, z2, fun _ => ⟨hD1, w3 rfl⟩⟩
        | false => exact ⟨false, pS, 0, 0, 0, c1, m1, pS, by rw [if_pos (show bI false = 0 from rfl)]; rfl, by rw [if_pos (show bI false = 0 from rfl), mo_fails, ob_e, if_neg (by decide)], e3, e4, z2, fun h => (by cases h)⟩
      · rw [if_neg hm, if_neg hm]
        exact ⟨false, pS, 0, 0, 0, c1, m1, pS, rfl, by rw [mo_fails, ob_e, if_neg (by decide)], e3, e4, z2, fun h => (by cases h)⟩
