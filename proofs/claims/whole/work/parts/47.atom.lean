/-! ===== atoms of a law ===== -/
def LE (m : MM) (L : Nat → Int32) : Prop := ∀ i, i < 6 → m.1 359 (ltC i) = L i
def SOK (n : Nat) (Y : Nat → Nat) (w p : Nat) (ok : Bool) (p' : Nat) (cs : List Int32) (f : (Nat → Int32) → Int32) : Prop :=
  (∀ (N : Nat) (c : MM) (s : Nat) (g : Nat → Int32) (t : Nat), 15000 ≤ N → CT n Y c → s ≤ p → 2 * (6 - w) + 2 ≤ t → (ok = true → f_cl_Lr_readSum N t 0 (nI w) (cQ c p s g) = some (nI 1, cQ c p' (s + cs.length) (app g s cs))) ∧ (ok = false → ∃ s' g', f_cl_Lr_readSum N t 0 (nI w) (cQ c p s g) = some (nI 0, cQ c p' s' g'))) ∧
  (∀ (N q bg : Nat) (m : MM) (L : Nat → Int32) (t : Nat), 15000 ≤ N → MT n Y q bg m → LE m L → 3 * (6 - w) + 3 ≤ t → (ok = true → f_cl_Mo_atom N t 2 () (mQ m p (-nI 1) (nI w)) = some (f L, mQ m p' (-nI 1) (nI w))) ∧ (ok = false → ∃ v p'' x, f_cl_Mo_atom N t 2 () (mQ m p (-nI 1) (nI w)) = some (v, mQ m p'' (nI p') x))) ∧
  (ok = true → p < p' ∧ cs.length ≤ p' - p ∧ (∀ L, LO L → VB (f L)) ∧ EV cs f (3 + 2 * (6 - w))) ∧ p' ≤ n
def AOK (n : Nat) (Y : Nat → Nat) (w p : Nat) (ok : Bool) (p' : Nat) (cs : List Int32) (f : (Nat → Int32) → Int32) : Prop :=
  (∀ (N : Nat) (c : MM) (s : Nat) (g : Nat → Int32) (t : Nat), 15000 ≤ N → CT n Y c → s ≤ p → 2 * (6 - w) + 1 ≤ t → (ok = true → f_cl_Lr_readSum N t 1 (nI w) (cQ c p s g) = some (nI 1, cQ c p' (s + cs.length) (app g s cs))) ∧ (ok = false → ∃ s' g', f_cl_Lr_readSum N t 1 (nI w) (cQ c p s g) = some (nI 0, cQ c p' s' g'))) ∧
  (∀ (N q bg : Nat) (m : MM) (L : Nat → Int32) (t : Nat), 15000 ≤ N → MT n Y q bg m → LE m L → 3 * (6 - w) + 1 ≤ t → (ok = true → f_cl_Mo_atom N t 0 () (mQ m p (-nI 1) (nI w)) = some (f L, mQ m p' (-nI 1) (nI w))) ∧ (ok = false → ∃ v p'' x, f_cl_Mo_atom N t 0 () (mQ m p (-nI 1) (nI w)) = some (v, mQ m p'' (nI p') x))) ∧
  (ok = true → p < p' ∧ cs.length ≤ p' - p ∧ (∀ L, LO L → VB (f L)) ∧ EV cs f (1 + 2 * (6 - w))) ∧ p' ≤ n
theorem p10 : ∀ j, j ≤ 4 → 10 ^ j ≤ 10000 := by decide
theorem dg_t {n : Nat} {Y : Nat → Nat} {p : Nat} (h : dg n Y p = true) : p < n ∧ 48 ≤ Y p ∧ Y p ≤ 57 := by
  unfold dg at h
  simp only [Bool.and_eq_true, decide_eq_true_eq] at h
  exact ⟨h.1.1, h.1.2, h.2⟩
theorem dg_f {n : Nat} {Y : Nat → Nat} {p : Nat} (h : dg n Y p = false) : p < n → Y p < 48 ∨ 57 < Y p := by
  intro hp
  unfold dg at h
  rw [decide_eq_true hp, Bool.true_and] at h
  by_cases h1 : 48 ≤ Y p
  · rw [decide_eq_true h1, Bool.true_and, decide_eq_false_iff_not] at h; omega
  · omega
/-- the program's number, a step -/
theorem rn_s {N n p s fu v j : Nat} {Y : Nat → Nat} {c : MM} {g : Nat → Int32} {x1 x2 x3 : Int32} (hX : TX n Y) (hC : CT n Y c) (hp : p ≤ n) : f_Ta_readNumber_L6 N (fu + 1) x1 x2 x3 (nI v) (nI j) (cQ c p s g) = if dg n Y p = true then (if nI j = x1 then some (-1, cQ c p s g) else f_Ta_readNumber_L6 N fu x1 x2 x3 (nI (v * 10 + Y p) - 48) (nI (j + 1)) (cQ c (p + 1) s g)) else f_Ta_readNumber_B89 N x2 x3 (nI v) (nI j) (cQ c p s g) := by
  have e1 : (cQ c p s g).1 1 1 = nI n := (CT_Q hC).1
  have e2 : (cQ c p s g).1 1 2 = nI p := by rw [cQ_p, if_pos rfl]
  have n9 := hX.1
  rw [f_Ta_readNumber_L6, e1, e2]
  by_cases h : p < n
  · have hy := hX.2 p h
    rw [if_neg (fun z => by have := (nI_leI (by omega) (by omega)).mp z; omega), gd_in (by omega) (by omega), nI_clamp (by omega), (CT_Q hC).2 p h, gd_in (by omega) (by omega), gd_in (by omega) (by omega)]
    cases hd : dg n Y p
    · rw [if_neg (show ¬ false = true by decide)]
      rcases dg_f hd h with q | q
      · rw [if_pos (show nI (Y p) < 48 from (nI_ltI (b := 48) (by omega) (by omega)).mpr q)]
      · rw [if_neg (show ¬ nI (Y p) < 48 from fun z => by have := (nI_ltI (b := 48) (by omega) (by omega)).mp z; omega), if_pos (show (57 : Int32) < nI (Y p) from (nI_ltI (a := 57) (by omega) (by omega)).mpr q)]
    · obtain ⟨-, q1, q2⟩ := dg_t hd
      rw [if_pos rfl, if_neg (show ¬ nI (Y p) < 48 from fun z => by have := (nI_ltI (b := 48) (by omega) (by omega)).mp z; omega), if_neg (show ¬ (57 : Int32) < nI (Y p) from fun z => by have := (nI_ltI (a := 57) (by omega) (by omega)).mp z; omega), wr_e, l_1, nI_add, nI_add, cQ_m, show (10 : Int32) = nI 10 from rfl, pk_mul, nI_add]
  · rw [if_pos ((nI_leI (by omega) (by omega)).mpr (by omega)), if_neg (fun z => h (dg_t z).1)]
theorem num_ok {n p0 : Nat} {Y : Nat → Nat} (hX : TX n Y) : ∀ i j v, j + i = 4 → 1 ≤ j → p0 + j ≤ n → v < 10 ^ j → ∃ (ok : Bool) (p' v' : Nat), p0 + j ≤ p' ∧ p' ≤ n ∧ v' ≤ 9999 ∧
    (∀ (N fu s : Nat) (c : MM) (g : Nat → Int32), CT n Y c → f_Ta_readNumber_L6 N (fu + (i + 1)) 4 0 9999 (nI v) (nI j) (cQ c (p0 + j) s g) = some ((if ok = true then nI v' else -nI 1), cQ c p' s g)) ∧
    (∀ (N fu q bg : Nat) (m : MM) (d : Int32) (r1 r2 r3 : MM → Option (Int32 × MM)), MT n Y q bg m → f_Mo_atom_L90 N r1 r2 r3 (fu + (i + 1)) (nI v) (nI j) (mQ m (p0 + j) (-nI 1) d) = if ok = true then some (nI v', mQ m p' (-nI 1) d) else some (nI 0, mQ m p' (nI p') d)) := by
  intro i
  induction i with
  | zero =>
    intro j v hj h1 hp hv
    have hj4 : j = 4 := by omega
    subst hj4
    have hv9 : v ≤ 9999 := by omega
    cases hd : dg n Y (p0 + 4)
    · refine ⟨true, p0 + 4, v, Nat.le_refl _, hp, hv9, fun N fu s c g hC => ?_, fun N fu q bg m d r1 r2 r3 hM => ?_⟩
      · rw [rn_s hX hC hp, hd, if_neg (show ¬ false = true by decide)]
        unfold f_Ta_readNumber_B89 f_Ta_readNumber_B118
        rw [if_neg (by decide), if_neg (nI_pos (by omega)), if_pos (show nI v ≤ 9999 from (nI_leI (b := 9999) (by omega) (by decide)).mpr hv9), if_neg (by decide), if_pos rfl]
      · rw [f_Mo_atom_L90, mo_isDigit hX hM hp, ob_e, hd, if_pos (show bI false = 0 from rfl), if_pos rfl]
    · refine ⟨false, p0 + 4, 0, Nat.le_refl _, hp, by omega, fun N fu s c g hC => ?_, fun N fu q bg m d r1 r2 r3 hM => ?_⟩
      · rw [rn_s hX hC hp, hd, if_pos rfl, if_pos (show nI 4 = 4 from rfl), if_neg (by decide)]; rfl
      · rw [f_Mo_atom_L90, mo_isDigit hX hM hp, ob_e, hd, if_neg (show ¬ bI true = 0 by decide), show (mQ m (p0 + 4) (-nI 1) d).1 355 11 = -nI 1 by rw [mQ_5]; rfl, if_pos (show -nI 1 = (-1 : Int32) from rfl), if_pos (show nI 4 = 4 from rfl), mo_fails, ob_e, if_neg (by decide)]; rfl
  | succ i ih =>
    intro j v hj h1 hp hv
    have hv9 : v ≤ 9999 := by have := p10 j (by omega); omega
    cases hd : dg n Y (p0 + j)
    · refine ⟨true, p0 + j, v, Nat.le_refl _, hp, hv9, fun N fu s c g hC => ?_, fun N fu q bg m d r1 r2 r3 hM => ?_⟩
      · rw [show fu + (i + 1 + 1) = fu + (i + 1) + 1 by omega, rn_s hX hC hp, hd, if_neg (show ¬ false = true by decide)]
        unfold f_Ta_readNumber_B89 f_Ta_readNumber_B118
        have hj0 : ¬ nI j ≤ 0 := fun z => by rw [l_0, nI_leI (by omega) (by omega)] at z; omega
        rw [if_neg hj0, if_neg (nI_pos (by omega)), if_pos (show nI v ≤ 9999 from (nI_leI (b := 9999) (by omega) (by decide)).mpr hv9), if_neg hj0, if_pos rfl]
      · rw [show fu + (i + 1 + 1) = fu + (i + 1) + 1 by omega, f_Mo_atom_L90, mo_isDigit hX hM hp, ob_e, hd, if_pos (show bI false = 0 from rfl), if_pos rfl]
    · obtain ⟨q0, q1, q2⟩ := dg_t hd
      have hv2 : v * 10 + Y (p0 + j) - 48 < 10 ^ (j + 1) := by rw [Nat.pow_succ]; omega
      obtain ⟨ok, p', v', a1, a2, a3, a4, a5⟩ := ih (j + 1) (v * 10 + Y (p0 + j) - 48) (by omega) (by omega) (by omega) hv2
      refine ⟨ok, p', v', by omega, a2, a3, fun N fu s c g hC => ?_, fun N fu q bg m d r1 r2 r3 hM => ?_⟩
      · have := a4 N fu s c g hC
        rw [show fu + (i + 1 + 1) = fu + (i + 1) + 1 by omega, rn_s hX hC hp, hd, if_pos rfl, if_neg (show ¬ nI j = 4 from fun z => by have := (nI_eq (b := 4) (by omega) (by decide)).mp z; omega), show (48 : Int32) = nI 48 from rfl, pk_sub (by omega)]
        exact this
      · have := a5 N fu q bg m d r1 r2 r3 hM
        obtain ⟨g1, g2, g3, g4, g5, g6, g7⟩ := MT_Q (p := p0 + j) (f := -nI 1) (d := d) hM
        rw [show fu + (i + 1 + 1) = fu + (i + 1) + 1 by omega, f_Mo_atom_L90, mo_isDigit hX hM hp, ob_e, hd, if_neg (show ¬ bI true = 0 by decide), show (mQ m (p0 + j) (-nI 1) d).1 355 11 = -nI 1 by rw [mQ_5]; rfl, if_pos (show -nI 1 = (-1 : Int32) from rfl), if_neg (show ¬ nI j = 4 from fun z => by have := (nI_eq (b := 4) (by omega) (by decide)).mp z; omega), g1, g2, show (mQ m (p0 + j) (-nI 1) d).1 355 10 = nI (p0 + j) by rw [mQ_5]; rfl, nI_clamp (by omega), gd_t (by simpa using g4.1), nI_add, gd_in (by omega) (by omega), nI_clamp (by omega), g7 _ q0, s8_v _ (by omega), wr_e, l_1, nI_add, nI_add, mQ_p, show (10 : Int32) = nI 10 from rfl, pk_mul, nI_add, show (48 : Int32) = nI 48 from rfl, pk_sub (by omega), show 10 * v + Y (p0 + j) - 48 = v * 10 + Y (p0 + j) - 48 by omega]
        exact this
theorem atom_ok {n w p : Nat} {Y : Nat → Nat} (hX : TX n Y) (hw : w ≤ 6) (hp : p ≤ n) (hS : w < 6 → ∀ p1, p1 ≤ n → ∃ ok p' cs f, SOK n Y (w + 1) p1 ok p' cs f) : ∃ ok p' cs f, AOK n Y w p ok p' cs f := by
  obtain ⟨s1, s2, s3⟩ := sk_p (Y := Y) hp
  have n9 := hX.1
  have hgl : ∀ (N t : Nat) (x : Int32) (μ : MM), f_cl_Lr_readSum N (t + 1) 1 x μ = f_Lr_readAtom_body N (f_cl_Lr_readSum N t 0) (f_cl_Lr_readSum N t 1) x μ := fun N t x μ => by rw [f_cl_Lr_readSum, if_neg (by decide)]
  have hgm : ∀ (N t : Nat) (μ : MM), f_cl_Mo_atom N (t + 1) 0 () μ = f_Mo_atom_body N (f_cl_Mo_atom N t 0 ()) (f_cl_Mo_atom N t 1 ()) (f_cl_Mo_atom N t 2 ()) μ := fun N t μ => by rw [f_cl_Mo_atom, if_pos rfl]
  generalize hp0 : sk n Y p = p0 at s1 s2 s3
  by_cases hbr : sg n Y p0 = nI 91
  · -- a bracket
    obtain ⟨b1, b2⟩ := sg_lt hX (by decide) hbr
    have hnl : spX 2006 6 (nI 91) = none := by decide +kernel
    by_cases hw6 : w < 6
    · obtain ⟨ok, p1, cs, f, S1, S2, S3, S4⟩ := hS hw6 (p0 + 1) (by omega)
      cases ok with
      | false =>
        refine ⟨false, p1, [], fun _ => 0, fun N c s g t hN hC hs ht => ⟨fun e => (by cases e), fun _ => ?_⟩, fun N q bg m L t hN hM hL ht => ⟨fun e => (by cases e), fun _ => ?_⟩, fun e => (by cases e), S4⟩
        · obtain ⟨t, rfl⟩ : ∃ z, t = z + 1 := ⟨t - 1, by omega⟩
          obtain ⟨s', g', e⟩ := (S1 N c s g t hN hC (by omega) (by omega)).2 rfl
          refine ⟨s', g', ?_⟩
          rw [hgl]
          unfold f_Lr_readAtom_body
          rw [ta_peek hN hX hC hp, hp0, ob_e, hbr, if_pos (show nI 91 = 91 from rfl), if_pos (show nI w < 6 from (nI_ltI (b := 6) (by omega) (by decide)).mpr hw6), ta_step hX hC b1, obv_e, l_1, nI_add, e, ob_e]; rfl
        · obtain ⟨t, rfl⟩ : ∃ z, t = z + 1 := ⟨t - 1, by omega⟩
          obtain ⟨v, p'', x, e⟩ := (S2 N q bg m L t hN hM hL (by omega)).2 rfl
          refine ⟨0, p'', x, ?_⟩
          rw [hgm]
          unfold f_Mo_atom_body f_Mo_goesIn
          rw [mo_look hN hX hM hp, hp0, ob_e, mo_among hN sc_2006, ob_e, hbr, hnl, if_pos (show bI (none : Option Nat).isSome = 0 from rfl), if_pos (show nI 91 = 91 from rfl), show (mQ m p0 (-nI 1) (nI w)).1 355 12 = nI w by rw [mQ_5]; rfl, if_neg (show ¬ nI w = 6 from fun z => by have := (nI_eq (b := 6) (by omega) (by decide)).mp z; omega), wr_e, l_1, nI_add, mQ_d, show (mQ m p0 (-nI 1) (nI (w + 1))).1 355 10 = nI p0 by rw [mQ_5]; rfl, wr_e, nI_add, mQ_p, ob_e, if_neg (by decide), e, ob_e, mo_takes2 (by omega), ob_e]; rfl
      | true =>
        obtain ⟨T1, T2, T3, T4⟩ := S3 rfl
        obtain ⟨z1, z2, z3⟩ := sk_p (Y := Y) S4
        by_cases hcl : sg n Y (sk n Y p1) = nI 93
        · obtain ⟨y1, y2⟩ := sg_lt hX (by decide) hcl
          refine ⟨true, sk n Y p1 + 1, cs, f, fun N c s g t hN hC hs ht => ⟨fun _ => ?_, fun e => (by cases e)⟩, fun N q bg m L t hN hM hL ht => ⟨fun _ => ?_, fun e => (by cases e)⟩, fun _ => ⟨by omega, by omega, T3, EV_k T4 (by omega)⟩, by omega⟩
          · obtain ⟨t, rfl⟩ : ∃ z, t = z + 1 := ⟨t - 1, by omega⟩
            have e := (S1 N c s g t hN hC (by omega) (by omega)).1 rfl
            rw [hgl]
            unfold f_Lr_readAtom_body
            rw [ta_peek hN hX hC hp, hp0, ob_e, hbr, if_pos (show nI 91 = 91 from rfl), if_pos (show nI w < 6 from (nI_ltI (b := 6) (by omega) (by decide)).mpr hw6), ta_step hX hC b1, obv_e, l_1, nI_add, e, ob_e, if_neg (by decide), ta_peek hN hX hC S4, ob_e, if_pos (show sg n Y (sk n Y p1) = 93 from hcl), ta_step hX hC y1, obv_e]
          · obtain ⟨t, rfl⟩ : ∃ z, t = z + 1 := ⟨t - 1, by omega⟩
            have e := (S2 N q bg m L t hN hM hL (by omega)).1 rfl
            rw [hgm]
            unfold f_Mo_atom_body f_Mo_goesIn
            rw [mo_look hN hX hM hp, hp0, ob_e, mo_among hN sc_2006, ob_e, hbr, hnl, if_pos (show bI (none : Option Nat).isSome = 0 from rfl), if_pos (show nI 91 = 91 from rfl), show (mQ m p0 (-nI 1) (nI w)).1 355 12 = nI w by rw [mQ_5]; rfl, if_neg (show ¬ nI w = 6 from fun z => by have := (nI_eq (b := 6) (by omega) (by decide)).mp z; omega), wr_e, l_1, nI_add, mQ_d, show (mQ m p0 (-nI 1) (nI (w + 1))).1 355 10 = nI p0 by rw [mQ_5]; rfl, wr_e, nI_add, mQ_p, ob_e, if_neg (by decide), e, ob_e, show (93 : Int32) = nI 93 from rfl, mo_takes hN hX hM S4, if_pos hcl, ob_e, if_neg (by decide), wr_e, show (mQ m (sk n Y p1 + 1) (-nI 1) (nI (w + 1))).1 355 12 = nI (w + 1) by rw [mQ_5]; rfl, pk_sub (by omega), mQ_d]; rfl
        · refine ⟨false, sk n Y p1, [], fun _ => 0, fun N c s g t hN hC hs ht => ⟨fun e => (by cases e), fun _ => ?_⟩, fun N q bg m L t hN hM hL ht => ⟨fun e => (by cases e), fun _ => ?_⟩, fun e => (by cases e), z2⟩
          · obtain ⟨t, rfl⟩ : ∃ z, t = z + 1 := ⟨t - 1, by omega⟩
            have e := (S1 N c s g t hN hC (by omega) (by omega)).1 rfl
            refine ⟨s + cs.length, app g s cs, ?_⟩
            rw [hgl]
            unfold f_Lr_readAtom_body
            rw [ta_peek hN hX hC hp, hp0, ob_e, hbr, if_pos (show nI 91 = 91 from rfl), if_pos (show nI w < 6 from (nI_ltI (b := 6) (by omega) (by decide)).mpr hw6), ta_step hX hC b1, obv_e, l_1, nI_add, e, ob_e, if_neg (by decide), ta_peek hN hX hC S4, ob_e, if_neg (show ¬ sg n Y (sk n Y p1) = 93 from hcl)]; rfl
          · obtain ⟨t, rfl⟩ : ∃ z, t = z + 1 := ⟨t - 1, by omega⟩
            have e := (S2 N q bg m L t hN hM hL (by omega)).1 rfl
            refine ⟨0, sk n Y p1, nI (w + 1), ?_⟩
            rw [hgm]
            unfold f_Mo_atom_body f_Mo_goesIn
            rw [mo_look hN hX hM hp, hp0, ob_e, mo_among hN sc_2006, ob_e, hbr, hnl, if_pos (show bI (none : Option Nat).isSome = 0 from rfl), if_pos (show nI 91 = 91 from rfl), show (mQ m p0 (-nI 1) (nI w)).1 355 12 = nI w by rw [mQ_5]; rfl, if_neg (show ¬ nI w = 6 from fun z => by have := (nI_eq (b := 6) (by omega) (by decide)).mp z; omega), wr_e, l_1, nI_add, mQ_d, show (mQ m p0 (-nI 1) (nI (w + 1))).1 355 10 = nI p0 by rw [mQ_5]; rfl, wr_e, nI_add, mQ_p, ob_e, if_neg (by decide), e, ob_e, show (93 : Int32) = nI 93 from rfl, mo_takes hN hX hM S4, if_neg hcl, ob_e, if_pos (by decide)]
    · have hw' : w = 6 := by omega
      subst hw'
      refine ⟨false, p0, [], fun _ => 0, fun N c s g t hN hC hs ht => ⟨fun e => (by cases e), fun _ => ?_⟩, fun N q bg m L t hN hM hL ht => ⟨fun e => (by cases e), fun _ => ?_⟩, fun e => (by cases e), s2⟩
      · obtain ⟨t, rfl⟩ : ∃ z, t = z + 1 := ⟨t - 1, by omega⟩
        refine ⟨s, g, ?_⟩
        rw [hgl]
        unfold f_Lr_readAtom_body
        rw [ta_peek hN hX hC hp, hp0, ob_e, hbr, if_pos (show nI 91 = 91 from rfl), if_neg (by decide)]; rfl
      · obtain ⟨t, rfl⟩ : ∃ z, t = z + 1 := ⟨t - 1, by omega⟩
        refine ⟨0, p0, nI 6, ?_⟩
        rw [hgm]
        unfold f_Mo_atom_body f_Mo_goesIn
        rw [mo_look hN hX hM hp, hp0, ob_e, mo_among hN sc_2006, ob_e, hbr, hnl, if_pos (show bI (none : Option Nat).isSome = 0 from rfl), if_pos (show nI 91 = 91 from rfl), show (mQ m p0 (-nI 1) (nI 6)).1 355 12 = nI 6 by rw [mQ_5]; rfl, if_pos (show nI 6 = 6 from rfl), mo_fails, ob_e, gd_t (by decide), ob_e, if_pos (by decide)]
  · -- a letter or a number
    have hidx : ∀ (N : Nat) (c : MM) (s : Nat) (g : Nat → Int32) (r1 r2 : Int32 → MM → Option (Int32 × MM)), 15000 ≤ N → (if sg n Y p0 = (-1) then (f_Lr_readAtom_B78 N r1 r2 (-1) (cQ c p0 s g)) else (ob (f_St_indexOf_0f7a4 N 2000 ((Int32.toUInt32 (sg n Y p0) % 65536).toInt32) (cQ c p0 s g)) fun t75 μ2z => (f_Lr_readAtom_B78 N r1 r2 t75 μ2z))) = f_Lr_readAtom_B78 N r1 r2 (oI (spX 2006 6 (sg n Y p0))) (cQ c p0 s g) := fun N c s g r1 r2 hN => by
      by_cases h : p0 < n
      · have hy := hX.2 p0 h
        have e : sg n Y p0 = nI (Y p0) := by unfold sg; rw [if_pos h]
        rw [e, if_neg (show ¬ nI (Y p0) = -1 from fun z => by
          have z2 : nI (Y p0) = -nI 1 := z
          rw [m_eq (by omega)] at z2; exact z2), st_idx hN sc_2000 (by decide) (by omega), ob_e, sp_let]
      · have e : sg n Y p0 = -nI 1 := by rw [sg_m hX]; exact h
        rw [e, if_pos (show -nI 1 = (-1 : Int32) from rfl), sp_m1 sc_2006]; rfl
    have hn91 : ¬ sg n Y p0 = 91 := hbr
    cases hsp : spX 2006 6 (sg n Y p0) with
    | some j =>
      obtain ⟨j6, ej⟩ := sp_some hsp
      have ej2 : sg n Y p0 = nI (ltC j) := by
        rw [← ej, ← (st_let j j6).1]
        exact ((by decide +kernel : ∀ k, k < 6 → st_I (2006 + 1000) k = st_I 3000 k) j j6)
      have hl128 := (st_let j j6).2
      obtain ⟨b1, b2⟩ := sg_lt hX (by omega) ej2
      refine ⟨true, p0 + 1, [lcI j], fun L => L j, fun N c s g t hN hC hs ht => ⟨fun _ => ?_, fun e => (by cases e)⟩, fun N q bg m L t hN hM hL ht => ⟨fun _ => ?_, fun e => (by cases e)⟩, fun _ => ⟨by omega, by show 1 ≤ _; omega, fun L hL => by obtain ⟨v, hv, e⟩ := hL j j6; show VB (L j); rw [e]; exact VB_n hv, EV_k (EV_let j6) (by omega)⟩, by omega⟩
      · obtain ⟨t, rfl⟩ : ∃ z, t = z + 1 := ⟨t - 1, by omega⟩
        rw [hgl]
        unfold f_Lr_readAtom_body
        rw [ta_peek hN hX hC hp, hp0, ob_e, if_neg hn91, hidx _ _ _ _ _ _ hN, hsp]
        unfold f_Lr_readAtom_B78
        rw [if_neg (show ¬ oI (some j) < 0 from nI_pos (by omega)), ta_step hX hC b1, obv_e, lr_emit (by omega), ob_e, gd_t (by decide)]
        rfl
      · obtain ⟨t, rfl⟩ : ∃ z, t = z + 1 := ⟨t - 1, by omega⟩
        rw [hgm]
        unfold f_Mo_atom_body
        rw [mo_look hN hX hM hp, hp0, ob_e, mo_among hN sc_2006, ob_e, hsp, if_neg (show ¬ bI (some j).isSome = 0 from (by decide : ¬ bI true = 0)), wr_e, show (mQ m p0 (-nI 1) (nI w)).1 355 10 = nI p0 by rw [mQ_5]; rfl, l_1, nI_add, mQ_p, ej2, gd_in (by omega) (by decide), nI_clamp (by omega), mQ_1 (by decide), hL j j6]
    | none =>
      cases hd : dg n Y p0
      · -- no number
        refine ⟨false, p0, [], fun _ => 0, fun N c s g t hN hC hs ht => ⟨fun e => (by cases e), fun _ => ?_⟩, fun N q bg m L t hN hM hL ht => ⟨fun e => (by cases e), fun _ => ?_⟩, fun e => (by cases e), s2⟩
        · obtain ⟨t, rfl⟩ : ∃ z, t = z + 1 := ⟨t - 1, by omega⟩
          obtain ⟨N1, hN1⟩ : ∃ z, N = z + 1 := ⟨N - 1, by omega⟩
          refine ⟨s, g, ?_⟩
          rw [hgl]
          unfold f_Lr_readAtom_body
          rw [ta_peek hN hX hC hp, hp0, ob_e, if_neg hn91, hidx _ _ _ _ _ _ hN, hsp]
          unfold f_Lr_readAtom_B78 f_Ta_readNumber
          rw [if_pos (show oI none < 0 by decide)]
          have e : f_Ta_readNumber_L6 N N 4 0 9999 0 0 (cQ c p0 s g) = some (-1, cQ c p0 s g) := by
            have := rn_s (N := N) (fu := N1) (v := 0) (j := 0) (s := s) (g := g) (x1 := 4) (x2 := 0) (x3 := 9999) hX hC s2
            rw [hd, if_neg (by decide)] at this
            rw [hN1] at this ⊢
            refine this.trans ?_
            unfold f_Ta_readNumber_B89 f_Ta_readNumber_B118
            rw [if_pos (by decide), if_pos (by decide)]
          rw [e, ob_e]; rfl
        · obtain ⟨t, rfl⟩ : ∃ z, t = z + 1 := ⟨t - 1, by omega⟩
          obtain ⟨N1, hN1⟩ : ∃ z, N = z + 1 := ⟨N - 1, by omega⟩
          refine ⟨0, p0, nI w, ?_⟩
          rw [hgm]
          unfold f_Mo_atom_body
          rw [mo_look hN hX hM hp, hp0, ob_e, mo_among hN sc_2006, ob_e, hsp, if_pos (show bI (none : Option Nat).isSome = 0 from rfl), if_neg hn91, mo_isDigit hX hM s2, ob_e, hd, if_pos (show bI false = 0 from rfl), mo_fails, ob_e]
          have : f_Mo_atom_L90 N (f_cl_Mo_atom N t 0 ()) (f_cl_Mo_atom N t 1 ()) (f_cl_Mo_atom N t 2 ()) (N1 + 1) 0 0 (mQ m p0 (nI p0) (nI w)) = some (0, mQ m p0 (nI p0) (nI w)) := by
            rw [f_Mo_atom_L90, mo_isDigit hX hM s2, ob_e, hd, if_pos (show bI false = 0 from rfl)]
          rw [← hN1] at this
          exact this
      · -- a number
        obtain ⟨q0, q1, q2⟩ := dg_t hd
        obtain ⟨ok, p', v', a1, a2, a3, a4, a5⟩ := num_ok (p0 := p0) hX 3 1 (Y p0 - 48) (by omega) (by omega) (by omega) (by omega)
        have hcl : ∀ (N s : Nat) (c : MM) (g : Nat → Int32), 15000 ≤ N → CT n Y c → f_Ta_readNumber N 4 0 9999 (cQ c p0 s g) = some ((if ok = true then nI v' else -nI 1), cQ c p' s g) := fun N s c g hN hC => by
          unfold f_Ta_readNumber
          obtain ⟨N1, hN1⟩ : ∃ z, N = z + 5 := ⟨N - 5, by omega⟩
          have h1 := rn_s (N := N) (fu := N1 + 4) (v := 0) (j := 0) (s := s) (g := g) (x1 := 4) (x2 := 0) (x3 := 9999) hX hC s2
          have h2 := a4 N N1 s c g hC
          rw [hd, if_pos rfl, if_neg (show ¬ nI 0 = 4 by decide), show (48 : Int32) = nI 48 from rfl, pk_sub (by omega), Nat.zero_mul, Nat.zero_add, Nat.zero_add] at h1
          rw [show N1 + (3 + 1) = N1 + 4 by omega] at h2
          have h3 := h1.trans h2
          rw [show N1 + 4 + 1 = N by omega] at h3
          exact h3
        have hmo : ∀ (N q bg : Nat) (m : MM) (d : Int32) (r1 r2 r3 : MM → Option (Int32 × MM)), 15000 ≤ N → MT n Y q bg m → f_Mo_atom_L90 N r1 r2 r3 N 0 0 (mQ m p0 (-nI 1) d) = if ok = true then some (nI v', mQ m p' (-nI 1) d) else some (nI 0, mQ m p' (nI p') d) := fun N q bg m d r1 r2 r3 hN hM => by
          obtain ⟨N1, hN1⟩ : ∃ z, N = z + 5 := ⟨N - 5, by omega⟩
          have h2 := a5 N N1 q bg m d r1 r2 r3 hM
          obtain ⟨g1, g2, g3, g4, g5, g6, g7⟩ := MT_Q (p := p0) (f := -nI 1) (d := d) hM
          have h1 : f_Mo_atom_L90 N r1 r2 r3 (N1 + 4 + 1) 0 0 (mQ m p0 (-nI 1) d) = f_Mo_atom_L90 N r1 r2 r3 (N1 + 4) (nI (Y p0 - 48)) (nI 1) (mQ m (p0 + 1) (-nI 1) d) := by
            rw [f_Mo_atom_L90, mo_isDigit hX hM s2, ob_e, hd, if_neg (show ¬ bI true = 0 by decide), show (mQ m p0 (-nI 1) d).1 355 11 = -nI 1 by rw [mQ_5]; rfl, if_pos (show -nI 1 = (-1 : Int32) from rfl), if_neg (by decide), g1, g2, show (mQ m p0 (-nI 1) d).1 355 10 = nI p0 by rw [mQ_5]; rfl, nI_clamp (by omega), gd_t (by simpa using g4.1), nI_add, gd_in (by omega) (by omega), nI_clamp (by omega), g7 _ q0, s8_v _ (by omega), wr_e, l_1, nI_add, mQ_p, show (10 : Int32) = nI 10 from rfl, l_0, pk_mul, nI_add, nI_add, show (48 : Int32) = nI 48 from rfl, pk_sub (by omega), Nat.mul_zero, Nat.zero_add, Nat.zero_add]
          rw [show N1 + (3 + 1) = N1 + 4 by omega] at h2
          have h3 := h1.trans h2
          rw [show N1 + 4 + 1 = N by omega] at h3
          exact h3
        cases ok with
        | true =>
          refine ⟨true, p', [nI v'], fun _ => nI v', fun N c s g t hN hC hs ht => ⟨fun _ => ?_, fun e => (by cases e)⟩, fun N q bg m L t hN hM hL ht => ⟨fun _ => ?_, fun e => (by cases e)⟩, fun _ => ⟨by omega, by show 1 ≤ _; omega, fun L hL => VB_n (by omega), EV_k (EV_num a3) (by omega)⟩, a2⟩
          · obtain ⟨t, rfl⟩ : ∃ z, t = z + 1 := ⟨t - 1, by omega⟩
            rw [hgl]
            unfold f_Lr_readAtom_body
            rw [ta_peek hN hX hC hp, hp0, ob_e, if_neg hn91, hidx _ _ _ _ _ _ hN, hsp]
            unfold f_Lr_readAtom_B78
            rw [if_pos (show oI none < 0 by decide), hcl N s c g hN hC, ob_e, if_pos rfl, if_neg (show ¬ nI v' = -1 from fun z => by
              have z2 : nI v' = -nI 1 := z
              rw [m_eq (by omega)] at z2; exact z2), lr_emit (by omega), ob_e, if_neg (by decide)]
            rfl
          · obtain ⟨t, rfl⟩ : ∃ z, t = z + 1 := ⟨t - 1, by omega⟩
            rw [hgm]
            unfold f_Mo_atom_body
            rw [mo_look hN hX hM hp, hp0, ob_e, mo_among hN sc_2006, ob_e, hsp, if_pos (show bI (none : Option Nat).isSome = 0 from rfl), if_neg hn91, mo_isDigit hX hM s2, ob_e, hd, if_neg (show ¬ bI true = 0 by decide), hmo N q bg m _ _ _ _ hN hM, if_pos rfl]
        | false =>
          refine ⟨false, p', [], fun _ => 0, fun N c s g t hN hC hs ht => ⟨fun e => (by cases e), fun _ => ?_⟩, fun N q bg m L t hN hM hL ht => ⟨fun e => (by cases e), fun _ => ?_⟩, fun e => (by cases e), a2⟩
          · obtain ⟨t, rfl⟩ : ∃ z, t = z + 1 := ⟨t - 1, by omega⟩
            refine ⟨s, g, ?_⟩
            rw [hgl]
            unfold f_Lr_readAtom_body
            rw [ta_peek hN hX hC hp, hp0, ob_e, if_neg hn91, hidx _ _ _ _ _ _ hN, hsp]
            unfold f_Lr_readAtom_B78
            rw [if_pos (show oI none < 0 by decide), hcl N s c g hN hC, ob_e, if_neg (show ¬ false = true by decide), if_pos (show -nI 1 = (-1 : Int32) from rfl)]
            rfl
          · obtain ⟨t, rfl⟩ : ∃ z, t = z + 1 := ⟨t - 1, by omega⟩
            refine ⟨nI 0, p', nI w, ?_⟩
            rw [hgm]
            unfold f_Mo_atom_body
            rw [mo_look hN hX hM hp, hp0, ob_e, mo_among hN sc_2006, ob_e, hsp, if_pos (show bI (none : Option Nat).isSome = 0 from rfl), if_neg hn91, mo_isDigit hX hM s2, ob_e, hd, if_neg (show ¬ bI true = 0 by decide), hmo N q bg m _ _ _ _ hN hM, if_neg (by decide)]
