/-! ===== things changed, wrong cards ===== -/
def chB (T : Nat → Int32) (t : Nat) (b : Option Nat) : Bool := match b with
  | none => true
  | some j => decide (pN T t < pN T j)
def chS (g T : Nat → Int32) (nc c t : Nat) (b : Option Nat) : Option Nat := if (decide (oI (ovr g nc (nI t)) = -nI 1) && decide (pN T t ≤ moN g) && fit g T nc c t && chB T t b) = true then some t else b
def chp (g T : Nat → Int32) (nc nt c : Nat) : Option Nat := fo (chS g T nc c) nt 0 none
theorem co_cheap {N nc nt c : Nat} (hN : 15000 ≤ N) {g T F : Nat → Int32} {μ : MM} (h : LK nc nt g T F μ) (hc : c < nc) : f_Co_cheapestFor N 23 (nI c) μ = some (oI (chp g T nc nt c), μ) ∧ ∀ j, chp g T nc nt c = some j → j < nt := by
  have hov := fun x => co_cardOver (x := x) hN h
  have hfi := fun t ht => co_isFit hN (c := c) (t := t) h hc ht
  obtain ⟨⟨h1, h0, hnc, hnt, hpm, hf⟩, ⟨hs, s2, s3, s4⟩, ⟨hw, -, -, q3, q4, -⟩, hT, -⟩ := h
  have e3 : μ.1 27 3 = nI (moN g) := s3.trans q3
  have hl := lpf (fun fu t (b : Option Nat) => f_Co_cheapestFor_L4 N 23 fu (nI c) (oI b) (nI t) μ) nt (chS g T nc c) (fun b => some (oI b, μ)) (fun t b => ∀ j, b = some j → j < nt) (fun fu b hb => by
      simp (disch := omega) only [f_Co_cheapestFor_L4, h0, nI_leI, Nat.le_refl, if_true]) (fun fu t b ht hb => by
      obtain ⟨p1, p2, p3, p4⟩ := hT t ht
      have ep : μ.1 24 t = nI (pN T t) := (hpm t ht).1.trans p1
      have hB48 : ∀ r : Int32, (∀ z : Int32, f_Co_cheapestFor_B48 N 23 (f_Co_cheapestFor_L4 N 23 fu) (nI c) z (nI t) μ = f_Co_cheapestFor_L4 N 23 fu (nI c) (if (decide (oI (ovr g nc (nI t)) = -nI 1) && fit g T nc c t) = true then nI t else z) (nI (t + 1)) μ) := fun r z => by
        unfold f_Co_cheapestFor_B48
        rw [hov (nI t), ob_e, hfi t ht, ob_e, l_1, nI_add]
        by_cases e : oI (ovr g nc (nI t)) = -nI 1
        · rw [if_pos e, decide_eq_true e, Bool.true_and]
          cases fit g T nc c t <;> rfl
        · rw [if_neg e, decide_eq_false e, Bool.false_and, if_neg (by decide)]
      refine ⟨?_, ?_⟩
      · show f_Co_cheapestFor_L4 N 23 (fu + 1) (nI c) (oI b) (nI t) μ = _
        rw [f_Co_cheapestFor_L4, h0, if_neg (fun q => by have := (nI_leI (by omega) (by omega)).mp q; omega), gd_in (by omega) (by omega), nI_clamp (by omega), ep, e3]
        unfold chS
        by_cases e : pN T t ≤ moN g
        · rw [if_neg (fun q => by have := (nI_ltI (by omega) (by omega)).mp q; omega), decide_eq_true e, Bool.and_true]
          cases b with
          | none =>
            rw [if_pos (show oI none = -1 from rfl), hB48 0 (oI none)]
            simp only [chB, Bool.and_true]
            cases (decide (oI (ovr g nc (nI t)) = -nI 1) && fit g T nc c t) <;> rfl
          | some j =>
            have hj := hb j rfl
            obtain ⟨r1, r2, -, -⟩ := hT j hj
            have er : μ.1 24 j = nI (pN T j) := (hpm j hj).1.trans r1
            rw [if_neg (show ¬ oI (some j) = -1 from fun q => by
              have q2 : nI j = -nI 1 := q
              rw [m_eq (by omega)] at q2; exact q2), gd_in (by omega) (by omega), show oI (some j) = nI j from rfl, gd_in (by omega) (by omega), nI_clamp (by omega), er, hB48 0 (nI j)]
            by_cases e2 : pN T t < pN T j
            · rw [if_neg (fun q => by have := (nI_leI (by omega) (by omega)).mp q; omega), show chB T t (some j) = true from decide_eq_true e2, Bool.and_true]
              cases (decide (oI (ovr g nc (nI t)) = -nI 1) && fit g T nc c t) <;> rfl
            · rw [if_pos ((nI_leI (by omega) (by omega)).mpr (by omega)), show chB T t (some j) = false from decide_eq_false e2, Bool.and_false, if_neg (by decide), l_1, nI_add]
              rfl
        · rw [if_pos ((nI_ltI (by omega) (by omega)).mpr (by omega)), decide_eq_false e, Bool.and_false, Bool.false_and, Bool.false_and, if_neg (by decide), l_1, nI_add]
      · intro j hj
        unfold chS at hj
        split at hj
        · cases hj; exact ht
        · exact hb j hj) nt 0 N none (by omega) (by omega) (fun j hj => by cases hj)
  exact hl
theorem mo_changed {N nc nt c : Nat} (hN : 15000 ≤ N) {m : MM} (h : MK nc nt m) (hc : c < nc) : f_Mo_isChanged N 368 (nI c) m = match chp (m.1 368) (m.1 362) nc nt c with
    | none => some (nI 0, m)
    | some b => some (nI 1, mm_I (mm_I m 368 (20 * c) (nI b)) 368 121 (nI (moN (m.1 368)) - nI (pN (m.1 362) b))) := by
  obtain ⟨hm27, hm26, hW, hT, hF, hnc, hnt⟩ := h
  have hov := fun x => mo_cardOver (x := x) hN n_368 hm27 hnc
  have hfi := fun t ht => mo_fitsIn hN (c := c) (t := t) n_368 hW hT hm27 hnc hnt hc ht
  obtain ⟨-, -, -, q3, q4, -⟩ := id hW
  have hl := lpf (fun fu t (b : Option Nat) => f_Mo_isChanged_L5 N 368 fu (nI c) (oI b) (nI t) m) nt (chS (m.1 368) (m.1 362) nc c) (fun b => match b with
    | none => some (nI 0, m)
    | some b => some (nI 1, mm_I (mm_I m 368 (20 * c) (nI b)) 368 121 (nI (moN (m.1 368)) - nI (pN (m.1 362) b)))) (fun t b => ∀ j, b = some j → j < nt) (fun fu b hb => by
      show f_Mo_isChanged_L5 N 368 (fu + 1) (nI c) (oI b) (nI nt) m = _
      rw [f_Mo_isChanged_L5, hm26, if_pos ((nI_leI (by omega) (by omega)).mpr (Nat.le_refl _))]
      cases b with
      | none => rfl
      | some j =>
        have hj := hb j rfl
        have ep : m.1 362 (2 * j) = nI (pN (m.1 362) j) := (hT j hj).1
        rw [if_neg (show ¬ oI (some j) = -1 from fun q => by
          have q2 : nI j = -nI 1 := q
          rw [m_eq (by omega)] at q2; exact q2), show oI (some j) = nI j from rfl]
        simp (disch := omega) only [n_368, l_20, l_2, pk_mul, gd_in, nI_clamp, wr_e, gd_t (show inb 121 304 = true by decide), gI_o (show (362 : Nat) ≠ 368 by decide), ep]
        rw [gI_s, if_neg (by omega), q3]
        rfl) (fun fu t b ht hb => by
      obtain ⟨p1, p2, p3, p4⟩ := hT t ht
      refine ⟨?_, ?_⟩
      · show f_Mo_isChanged_L5 N 368 (fu + 1) (nI c) (oI b) (nI t) m = _
        rw [f_Mo_isChanged_L5, hm26, if_neg (fun q => by have := (nI_leI (by omega) (by omega)).mp q; omega), hov (nI t), ob_e]
        unfold chS
        by_cases e0 : oI (ovr (m.1 368) nc (nI t)) = -nI 1
        · rw [if_pos (show oI (ovr (m.1 368) nc (nI t)) = -1 from e0), decide_eq_true e0, Bool.true_and]
          simp (disch := omega) only [n_368, l_2, pk_mul, gd_in, nI_clamp, gd_t (show inb 121 304 = true by decide), p1, q3]
          by_cases e : pN (m.1 362) t ≤ moN (m.1 368)
          · rw [if_neg (fun q => by have := (nI_ltI (by omega) (by omega)).mp q; omega), decide_eq_true e, Bool.true_and, hfi t ht, ob_e]
            cases hft : fit (m.1 368) (m.1 362) nc c t
            · rw [if_pos (show bI false = 0 from rfl), Bool.false_and, if_neg (by decide), l_1, nI_add]
            · rw [if_neg (show ¬ bI true = 0 by decide), Bool.true_and]
              cases b with
              | none =>
                rw [if_pos (show oI none = -1 from rfl), l_1, nI_add]
                rfl
              | some j =>
                have hj := hb j rfl
                have er : m.1 362 (2 * j) = nI (pN (m.1 362) j) := (hT j hj).1
                have er9 := (hT j hj).2.1
                rw [if_neg (show ¬ oI (some j) = -1 from fun q => by
                  have q2 : nI j = -nI 1 := q
                  rw [m_eq (by omega)] at q2; exact q2), show oI (some j) = nI j from rfl]
                simp (disch := omega) only [pk_mul, gd_in, nI_clamp, er, p1, nI_leI, l_1, nI_add]
                by_cases e2 : pN (m.1 362) t < pN (m.1 362) j
                · rw [if_neg (show ¬ pN (m.1 362) j ≤ pN (m.1 362) t by omega), show chB (m.1 362) t (some j) = true from decide_eq_true e2, if_pos rfl]; rfl
                · rw [if_pos (show pN (m.1 362) j ≤ pN (m.1 362) t by omega), show chB (m.1 362) t (some j) = false from decide_eq_false e2, if_neg (by decide)]; rfl
          · rw [if_pos ((nI_ltI (by omega) (by omega)).mpr (by omega)), decide_eq_false e, Bool.false_and, Bool.false_and, if_neg (by decide), l_1, nI_add]
        · rw [if_neg (show ¬ oI (ovr (m.1 368) nc (nI t)) = -1 from e0), decide_eq_false e0, Bool.false_and, Bool.false_and, Bool.false_and, if_neg (by decide), l_1, nI_add]
      · intro j hj
        unfold chS at hj
        split at hj
        · cases hj; exact ht
        · exact hb j hj) nt 0 N none (by omega) (by omega) (fun j hj => by cases hj)
  exact hl.1
theorem chp_p {g T : Nat → Int32} {nc nt c j : Nat} (h : chp g T nc nt c = some j) : pN T j ≤ moN g := by
  have : ∀ (n k : Nat) (b : Option Nat), (∀ j, b = some j → pN T j ≤ moN g) → ∀ j, fo (chS g T nc c) n k b = some j → pN T j ≤ moN g := by
    intro n
    induction n with
    | zero => intro k b hb j hj; exact hb j hj
    | succ n ih =>
      intro k b hb j hj
      refine ih (k + 1) (chS g T nc c k b) (fun i hi => ?_) j hj
      unfold chS at hi
      split at hi
      · rename_i hq
        cases hi
        simp only [Bool.and_eq_true, decide_eq_true_eq] at hq
        exact hq.1.1.2
      · exact hb i hi
  exact this nt 0 none (fun j hj => by cases hj) j h
theorem co_wrong {N nc nt : Nat} (hN : 15000 ≤ N) {g T F : Nat → Int32} {μ : MM} (h : LK nc nt g T F μ) : f_Co_wrongCards N 23 μ = some (nI (cn (fun c => !(rgt g T nc c)) nc), μ) := by
  have hR := fun c hc => co_isRight hN (c := c) h hc
  have h1 := h.1.1
  have hnc := h.1.2.2.1
  obtain ⟨y, w1, w2⟩ := lpe (fun fu c (y : Nat) => f_Co_wrongCards_L4 N 23 fu (nI y) (nI c) μ) nc (fun y => some (nI y, μ)) (fun c y => y = cn (fun c => !(rgt g T nc c)) c) (fun fu y hy => by
      simp (disch := omega) only [f_Co_wrongCards_L4, h1, nI_leI, Nat.le_refl, if_true]) (fun fu c y hc hy => by
      refine ⟨y + (if (!(rgt g T nc c)) = true then 1 else 0), ?_, by rw [hy, cn]⟩
      show f_Co_wrongCards_L4 N 23 (fu + 1) (nI y) (nI c) μ = _
      rw [f_Co_wrongCards_L4, h1, if_neg (fun q => by have := (nI_leI (by omega) (by omega)).mp q; omega), hR c hc, ob_e, l_1, nI_add, nI_add]
      cases rgt g T nc c <;> rfl) nc 0 N 0 (by omega) (by omega) rfl
  rw [w2] at w1
  exact w1
/-- what a day's later part keeps -/
def DL (nc nt : Nat) (c1 m1 c m : MM) : Prop := LK nc nt (m.1 368) (m1.1 362) (m1.1 365) c ∧ MK nc nt m ∧ (∀ a, a ≠ 27 → a ≠ 33 → c.1 a = c1.1 a) ∧ c.2 = c1.2 ∧ (∀ a, a ≠ 368 → m.1 a = m1.1 a) ∧ m.2 = m1.2 ∧ (∀ x, 122 ≤ x → m.1 368 x = m1.1 368 x)
theorem DL_up {nc nt j b : Nat} {c1 m1 c m : MM} {v : Nat} (h : DL nc nt c1 m1 c m) (hj : j < nc) (hb : b < nt) (hv : v ≤ 99) : DL nc nt c1 m1 (mm_I (mm_I c 33 j (nI b)) 27 3 (nI v)) (mm_I (mm_I m 368 (20 * j) (nI b)) 368 121 (nI v)) := by
  obtain ⟨⟨h1, ⟨s1, s2, s3, s4⟩, h3, h4, h5⟩, ⟨k1, k2, k3, k4, k5, k6, k7⟩, d1, d2, d3, d4, d5⟩ := h
  have hg : ∀ x, x ≠ 20 * j → x ≠ 121 → (mm_I (mm_I m 368 (20 * j) (nI b)) 368 121 (nI v)).1 368 x = m.1 368 x := fun x x1 x2 => by rw [gI_s, if_neg x2, gI_s, if_neg x1]
  have hz : ∀ i, i < nc → zN ((mm_I (mm_I m 368 (20 * j) (nI b)) 368 121 (nI v)).1 368) i = zN (m.1 368) i := fun i hi => by unfold zN; rw [hg _ (by omega) (by omega)]
  obtain ⟨-, q1, q2, q3, q4, q5, q6⟩ := id h3
  have hRW : RW nc nt ((mm_I (mm_I m 368 (20 * j) (nI b)) 368 121 (nI v)).1 368) := by
    refine RW_mk h3 k7 (fun i hi => hg _ (by omega) (by omega)) (fun i hi => ?_) (fun i k hi hk => ?_) (fun i k hi hk => ?_) ⟨_, q2, by rw [hg _ (by omega) (by omega)]; exact q1⟩ ⟨v, hv, by rw [gI_s, if_pos rfl]⟩ ⟨_, q6, by rw [hg _ (by omega) (by omega)]; exact q5⟩
    · by_cases e : i = j
      · subst e; exact Or.inr ⟨b, hb, by rw [gI_s, if_neg (by omega), gI_s, if_pos rfl]⟩
      · rw [hg _ (by omega) (by omega)]; exact RW_un0 h3 hi
    · have := (h3.1 i hi).2.2.1
      exact ⟨hg _ (by omega) (by omega), hg _ (by omega) (by omega)⟩
    · have := (h3.1 i hi).2.2.1
      rw [hg _ (by omega) (by omega)]; exact RW_ik0 h3 hi hk
  refine ⟨⟨?_, ⟨fun i hi => ?_, ?_, ?_, ?_⟩, hRW, h4, h5⟩, ⟨?_, ?_, hRW, ?_, ?_, k6, k7⟩, fun a a1 a2 => ?_, d2, fun a ha => ?_, d4, fun x hx => ?_⟩
  · rw [gI_o (b := 23) (by decide), gI_o (b := 24) (by decide), gI_o (b := 25) (by decide), gI_o (b := 26) (by decide), gI_o (b := 23) (by decide), gI_o (b := 24) (by decide), gI_o (b := 25) (by decide), gI_o (b := 26) (by decide)]; exact h1
  · obtain ⟨e1, e2, e3⟩ := s1 i hi
    have h6 := (h3.1 i hi).2.2.1
    rw [hz i hi, gI_o (b := 29) (by decide), gI_o (b := 30) (by decide), gI_o (b := 31) (by decide), gI_o (b := 32) (by decide), gI_o (b := 33) (by decide), gI_o (b := 29) (by decide), gI_o (b := 30) (by decide), gI_o (b := 31) (by decide), gI_o (b := 32) (by decide)]
    refine ⟨by rw [hg _ (by omega) (by omega)]; exact e1, ?_, fun k hk => ?_⟩
    · by_cases e : i = j
      · rw [gI_s, if_pos e, gI_s, if_neg (by omega), gI_s, if_pos (by omega)]
      · rw [gI_s, if_neg e, hg _ (by omega) (by omega)]; exact e2
    · rw [hg _ (by omega) (by omega), hg _ (by omega) (by omega), hg _ (by omega) (by omega)]; exact e3 k hk
  · rw [gI_s, if_neg (by omega), gI_o (by decide), hg _ (by omega) (by omega)]; exact s2
  · rw [gI_s, if_pos rfl, gI_s, if_pos rfl]
  · rw [gI_s, if_neg (by omega), gI_o (by decide), hg _ (by omega) (by omega)]; exact s4
  · rw [gI_o (by decide), gI_o (by decide)]; exact k1
  · rw [gI_o (by decide), gI_o (by decide)]; exact k2
  · rw [gI_o (by decide), gI_o (by decide)]; exact k4
  · rw [gI_o (by decide), gI_o (by decide)]; exact k5
  · rw [gI_o a1, gI_o a2]; exact d1 a a1 a2
  · rw [gI_o ha, gI_o ha]; exact d3 a ha
  · rw [hg _ (by omega) (by omega)]; exact d5 x hx
/-- things are changed on both sides alike -/
theorem chg_2 {N nc nt n : Nat} {c1 m1 : MM} (hN : 15000 ≤ N) (h : DL nc nt c1 m1 c1 m1) : ∃ y c2 m2, y ≤ nc ∧ f_Ag_changeThings N c1 = some (nI y, c2) ∧ f_Mo_goDay_L22 N 368 N (nI n) 0 0 0 m1 = f_Mo_goDay_L68 N 368 N (nI n) (nI y) 0 0 m2 ∧ DL nc nt c1 m1 c2 m2 := by
  have hnc := h.2.1.2.2.2.2.2.1
  have hnt := h.2.1.2.2.2.2.2.2
  have key := lp_2 (fun fu j (p : Nat × MM) => f_Ag_changeThings_L4 N fu (nI p.1) (nI j) p.2) (fun fu j (p : Nat × MM) => f_Mo_goDay_L22 N 368 fu (nI n) (nI p.1) 0 (nI j) p.2) nc (fun j p q => p.1 = q.1 ∧ q.1 ≤ j ∧ DL nc nt c1 m1 p.2 q.2) (fun X Y => ∃ y c2 m2, y ≤ nc ∧ X = some (nI y, c2) ∧ Y = f_Mo_goDay_L68 N 368 N (nI n) (nI y) 0 0 m2 ∧ DL nc nt c1 m1 c2 m2) (fun fa fb p q hR => by
      obtain ⟨e1, e2, e3⟩ := hR
      have a1 := e3.1.1.1
      have a2 := e3.2.1.1
      refine ⟨q.1, p.2, q.2, e2, ?_, ?_, e3⟩
      · show f_Ag_changeThings_L4 N (fa + 1) (nI p.1) (nI nc) p.2 = _
        rw [f_Ag_changeThings_L4, a1, if_pos ((nI_leI (by omega) (by omega)).mpr (Nat.le_refl _)), e1]
      · show f_Mo_goDay_L22 N 368 (fb + 1) (nI n) (nI q.1) 0 (nI nc) q.2 = _
        rw [f_Mo_goDay_L22, a2, if_pos ((nI_leI (by omega) (by omega)).mpr (Nat.le_refl _))]) (fun fa fb j p q hj hR => by
      obtain ⟨e1, e2, e3⟩ := hR
      have a1 := e3.1.1.1
      have a2 := e3.2.1.1
      have eT : q.2.1 362 = m1.1 362 := e3.2.2.2.2.1 362 (by decide)
      have r1 := co_isRight hN e3.1 hj
      have r2 := mo_isRight hN n_368 e3.2.1.2.2.1 e3.2.1.2.2.2.1 a2 hnc hnt hj
      obtain ⟨t1, t2⟩ := co_cheap hN e3.1 hj
      have t3 := mo_changed hN e3.2.1 hj
      rw [eT] at r2 t3
      left
      have hA : f_Ag_changeThings_L4 N (fa + 1) (nI p.1) (nI j) p.2 = if rgt (q.2.1 368) (m1.1 362) nc j = true then f_Ag_changeThings_L4 N fa (nI p.1) (nI (j + 1)) p.2 else ob (f_Co_cheapestFor N 23 (nI j) p.2) fun t31 μ2z => (if t31 = (-1) then (f_Ag_changeThings_L4 N fa (nI p.1) (nI (j + 1)) μ2z) else (gd (inb (nI j) 6) (wr (mm_I μ2z 33 (Int32.toNatClampNeg (nI j)) t31) fun μ3z => (gd (inb t31 8) (wr (mm_I μ3z 27 3 ((μ3z.1 27 3) - (μ3z.1 24 (Int32.toNatClampNeg t31)))) fun μ4z => (f_Ag_changeThings_L4 N fa (nI (p.1 + 1)) (nI (j + 1)) μ4z)))))) := by
        rw [f_Ag_changeThings_L4, a1, if_neg (fun z => by have := (nI_leI (by omega) (by omega)).mp z; omega), r1, ob_e, l_1, nI_add, nI_add]
        cases rgt (q.2.1 368) (m1.1 362) nc j <;> rfl
      have hB : f_Mo_goDay_L22 N 368 (fb + 1) (nI n) (nI q.1) 0 (nI j) q.2 = if rgt (q.2.1 368) (m1.1 362) nc j = true then f_Mo_goDay_L22 N 368 fb (nI n) (nI q.1) 0 (nI (j + 1)) q.2 else ob (f_Mo_isChanged N 368 (nI j) q.2) fun t46 μ11z => f_Mo_goDay_L22 N 368 fb (nI n) (nI q.1 + (if t46 = 0 then (0 : Int32) else 1)) 0 (nI (j + 1)) μ11z := by
        rw [f_Mo_goDay_L22, a2, if_neg (fun z => by have := (nI_leI (by omega) (by omega)).mp z; omega), r2, ob_e, l_1, nI_add]
        cases rgt (q.2.1 368) (m1.1 362) nc j <;> rfl
      show ∃ a' c', f_Ag_changeThings_L4 N (fa + 1) (nI p.1) (nI j) p.2 = _ ∧ f_Mo_goDay_L22 N 368 (fb + 1) (nI n) (nI q.1) 0 (nI j) q.2 = _ ∧ _
      rw [hA, hB]
      by_cases hr : rgt (q.2.1 368) (m1.1 362) nc j = true
      · rw [if_pos hr, if_pos hr]
        exact ⟨p, q, rfl, rfl, e1, by omega, e3⟩
      · rw [if_neg hr, if_neg hr, t1, ob_e, t3]
        cases hb : chp (q.2.1 368) (m1.1 362) nc nt j with
        | none =>
          rw [if_pos (show oI none = -1 from rfl)]
          exact ⟨p, q, rfl, by show ob (some (nI 0, q.2)) _ = _; rw [ob_e, if_pos (show nI 0 = 0 from rfl), l_0, nI_add]; rfl, e1, by omega, e3⟩
        | some b =>
          have hbn := t2 b hb
          have hbp := chp_p hb
          obtain ⟨p1, p2, -, -⟩ := e3.1.2.2.2.1 b hbn
          have hmo := e3.1.2.2.1.2.2.2.1
          have hmo9 := e3.1.2.2.1.2.2.2.2.1
          have hs3 := e3.1.2.1.2.2.1
          have hpr := (e3.1.1.2.2.2.2.1 b hbn).1
          rw [if_neg (show ¬ oI (some b) = -1 from fun z => by
            have q2 : nI b = -nI 1 := z
            rw [m_eq (by omega)] at q2; exact q2), show oI (some b) = nI b from rfl, gd_in (by omega) (by omega), nI_clamp (by omega), wr_e, gd_in (by omega) (by omega), nI_clamp (by omega), wr_e, gI_o (show (27 : Nat) ≠ 33 by decide), gI_o (show (24 : Nat) ≠ 33 by decide), hs3, hmo, hpr, p1, pk_sub hbp]
          refine ⟨(p.1 + 1, mm_I (mm_I p.2 33 j (nI b)) 27 3 (nI (moN (q.2.1 368) - pN (m1.1 362) b))), (q.1 + 1, mm_I (mm_I q.2 368 (20 * j) (nI b)) 368 121 (nI (moN (q.2.1 368) - pN (m1.1 362) b))), rfl, ?_, by show p.1 + 1 = q.1 + 1; rw [e1], by show q.1 + 1 ≤ j + 1; omega, DL_up e3 hj hbn (by omega)⟩
          show ob (some (nI 1, _)) _ = _
          rw [ob_e, if_neg (show ¬ nI 1 = 0 by decide), l_1, nI_add, pk_sub hbp]) nc 0 N N (0, c1) (0, m1) (by omega) (by omega) (by omega) ⟨rfl, by omega, h⟩
  exact key
theorem mo_wrong {N nc nt n y : Nat} (hN : 15000 ≤ N) {m : MM} (h : MK nc nt m) : f_Mo_goDay_L68 N 368 N (nI n) (nI y) 0 0 m = (if m.1 368 123 = 60 then f_Mo_goDay_L115 N 368 N (nI n) (nI y) (nI (cn (fun c => !(rgt (m.1 368) (m.1 362) nc c)) nc)) 1 m else f_Mo_goDay_B153 N 368 (nI n) (nI y) (nI (cn (fun c => !(rgt (m.1 368) (m.1 362) nc c)) nc)) m) := by
  obtain ⟨hm27, hm26, hW, hT, hF, hnc, hnt⟩ := h
  have hR := fun c hc => mo_isRight hN (c := c) n_368 hW hT hm27 hnc hnt hc
  obtain ⟨z, w1, w2⟩ := lpe (fun fu c (z : Nat) => f_Mo_goDay_L68 N 368 fu (nI n) (nI y) (nI z) (nI c) m) nc (fun z => if m.1 368 123 = 60 then f_Mo_goDay_L115 N 368 N (nI n) (nI y) (nI z) 1 m else f_Mo_goDay_B153 N 368 (nI n) (nI y) (nI z) m) (fun c z => z = cn (fun c => !(rgt (m.1 368) (m.1 362) nc c)) c) (fun fu z hz => by
      show f_Mo_goDay_L68 N 368 (fu + 1) (nI n) (nI y) (nI z) (nI nc) m = _
      rw [f_Mo_goDay_L68, hm27, if_pos ((nI_leI (by omega) (by omega)).mpr (Nat.le_refl _)), n_368, gd_t (show inb 123 304 = true by decide)]) (fun fu c z hc hz => by
      refine ⟨z + (if (!(rgt (m.1 368) (m.1 362) nc c)) = true then 1 else 0), ?_, by rw [hz, cn]⟩
      show f_Mo_goDay_L68 N 368 (fu + 1) (nI n) (nI y) (nI z) (nI c) m = _
      rw [f_Mo_goDay_L68, hm27, if_neg (fun q => by have := (nI_leI (by omega) (by omega)).mp q; omega), hR c hc, ob_e, l_1, nI_add, ← nI_add z]
      cases rgt (m.1 368) (m.1 362) nc c <;> rfl) nc 0 N 0 (by omega) (by omega) rfl
  rw [w2] at w1
  exact w1
