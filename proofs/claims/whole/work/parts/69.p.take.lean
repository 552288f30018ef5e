/-! ===== text: the collection is taken over ===== -/
/-- a cell copied up to a length -/
theorem cpF {μ : MM} {a b n : Nat} : ∃ m1, mm_F μ a (va_cpy (μ.1 b) (μ.1 a) (Int32.toNatClampNeg 0) (Int32.toNatClampNeg 0) n) = m1 ∧ (∀ i, i ≠ a → m1.1 i = μ.1 i) ∧ ∀ j, j < n → m1.1 a j = μ.1 b j := by
  refine ⟨_, rfl, fun i hi => gF_o hi, fun j hj => ?_⟩
  rw [gF_s]
  unfold va_cpy
  rw [if_pos (show Int32.toNatClampNeg 0 ≤ j ∧ j < Int32.toNatClampNeg 0 + n from ⟨Nat.zero_le _, by show j < 0 + n; omega⟩), show Int32.toNatClampNeg 0 + (j - Int32.toNatClampNeg 0) = j from by show 0 + (j - 0) = j; omega]
theorem co_take {N : Nat} {c : MM} : ∃ c', f_Co_takeAll N 23 4 c = some c' ∧ (∀ a, a < 23 ∨ 34 ≤ a → c'.1 a = c.1 a) ∧ c'.1 23 0 = c.1 4 0 ∧ c'.1 23 1 = c.1 4 1 ∧ (∀ i, i < 8 → c'.1 24 i = c.1 5 i ∧ c'.1 25 i = c.1 6 i) ∧ (∀ i, i < 6 → c'.1 26 i = c.1 7 i ∧ c'.1 29 i = c.1 10 i ∧ c'.1 33 i = c.1 14 i) ∧ (∀ i, i < 36 → c'.1 30 i = c.1 11 i ∧ c'.1 31 i = c.1 12 i ∧ c'.1 32 i = c.1 13 i) ∧ c'.1 27 2 = c.1 8 2 ∧ c'.1 27 3 = c.1 8 3 ∧ c'.1 27 4 = c.1 8 4 := by
  have p8 : cpb 0 0 8 8 8 = true := by decide
  have p6 : cpb 0 0 6 6 6 = true := by decide
  generalize hc1 : mm_I (mm_I c 23 0 (c.1 4 0)) 23 1 (c.1 4 1) = c1
  obtain ⟨c2, e2, x2, y2⟩ := cpF (μ := c1) (a := 24) (b := 5) (n := 8)
  obtain ⟨c3, e3, x3, y3⟩ := cpF (μ := c2) (a := 25) (b := 6) (n := 8)
  obtain ⟨c4, e4, x4, y4⟩ := cpF (μ := c3) (a := 26) (b := 7) (n := 6)
  obtain ⟨c5, e5, hcp⟩ := sh_take (N := N) (s := 27) (q := 8) (μ := c4) (by unfold SZ; decide +kernel) (by unfold SZ; decide +kernel) (by omega)
  have o1 : ∀ a, a ≠ 23 → c1.1 a = c.1 a := fun a ha => by rw [← hc1, gI_o ha, gI_o ha]
  have o4 : ∀ a, a ≠ 23 → a ≠ 24 → a ≠ 25 → a ≠ 26 → c4.1 a = c.1 a := fun a a1 a2 a3 a4 => by rw [x4 a a4, x3 a a3, x2 a a2, o1 a a1]
  refine ⟨c5, ?_, ?_⟩
  · unfold f_Co_takeAll
    rw [wr_e, gI_o (by decide), wr_e, hc1, gd_t p8, wr_e]
    have e2' : mm_F c1 (23 + 1) (va_cpy (c1.1 (4 + 1)) (c1.1 (23 + 1)) (Int32.toNatClampNeg 0) (Int32.toNatClampNeg 0) (Int32.toNatClampNeg 8)) = c2 := e2
    rw [e2', gd_t p8, wr_e]
    have e3' : mm_F c2 (23 + 2) (va_cpy (c2.1 (4 + 2)) (c2.1 (23 + 2)) (Int32.toNatClampNeg 0) (Int32.toNatClampNeg 0) (Int32.toNatClampNeg 8)) = c3 := e3
    rw [e3', gd_t p6, wr_e]
    have e4' : mm_F c3 (23 + 3) (va_cpy (c3.1 (4 + 3)) (c3.1 (23 + 3)) (Int32.toNatClampNeg 0) (Int32.toNatClampNeg 0) (Int32.toNatClampNeg 6)) = c4 := e4
    rw [e4']
    have e5' : f_Sh_takeAll N (23 + 4) (4 + 4) c4 = some c5 := e5
    rw [e5', obv_e]
  · obtain ⟨-, g1, g2, g3, g4, g5, g6⟩ := hcp
    refine ⟨fun a ha => by rw [g1 a (by omega), o4 a (by omega) (by omega) (by omega) (by omega)], ?_, ?_, fun i hi => ⟨?_, ?_⟩, fun i hi => ⟨?_, ?_, ?_⟩, fun i hi => ⟨?_, ?_, ?_⟩, ?_, ?_, ?_⟩
    · rw [g1 23 (by omega), x4 23 (by decide), x3 23 (by decide), x2 23 (by decide), ← hc1, gI_s, if_neg (by decide), gI_s, if_pos rfl]
    · rw [g1 23 (by omega), x4 23 (by decide), x3 23 (by decide), x2 23 (by decide), ← hc1, gI_s, if_pos rfl]
    · rw [g1 24 (by omega), x4 24 (by decide), x3 24 (by decide), y2 i hi, o1 5 (by decide)]
    · rw [g1 25 (by omega), x4 25 (by decide), y3 i hi, x2 6 (by decide), o1 6 (by decide)]
    · rw [g1 26 (by omega), y4 i hi, x3 7 (by decide), x2 7 (by decide), o1 7 (by decide)]
    · exact (g2 i hi).1.trans (by rw [o4 (8 + 2) (by decide) (by decide) (by decide) (by decide)])
    · exact (g2 i hi).2.trans (by rw [o4 (8 + 6) (by decide) (by decide) (by decide) (by decide)])
    · exact (g3 i hi).1.trans (by rw [o4 (8 + 3) (by decide) (by decide) (by decide) (by decide)])
    · exact (g3 i hi).2.1.trans (by rw [o4 (8 + 4) (by decide) (by decide) (by decide) (by decide)])
    · exact (g3 i hi).2.2.trans (by rw [o4 (8 + 5) (by decide) (by decide) (by decide) (by decide)])
    · exact g4.trans (by rw [o4 8 (by decide) (by decide) (by decide) (by decide)])
    · exact g5.trans (by rw [o4 8 (by decide) (by decide) (by decide) (by decide)])
    · exact g6.trans (by rw [o4 8 (by decide) (by decide) (by decide) (by decide)])
/-- a row of the model copied, cell by cell -/
theorem cpy_m {a b n : Nat} (hab : a ≠ b) (L : Nat → Nat → MM → Option (Int32 × MM)) (E : MM → Option (Int32 × MM)) (he : ∀ fu m, L (fu + 1) n m = E m) (hs : ∀ fu x m, x < n → L (fu + 1) x m = L fu (x + 1) (mm_I m a x (m.1 b x))) : ∀ e x fu m, x + e = n → e < fu → ∃ m', L fu x m = E m' ∧ (∀ i, i ≠ a → m'.1 i = m.1 i) ∧ m'.2 = m.2 ∧ (∀ j, j < x ∨ n ≤ j → m'.1 a j = m.1 a j) ∧ (∀ j, x ≤ j → j < n → m'.1 a j = m.1 b j) := by
  intro e
  induction e with
  | zero =>
    intro x fu m hx hfu
    obtain ⟨fu, rfl⟩ : ∃ z, fu = z + 1 := ⟨fu - 1, by omega⟩
    have hx' : x = n := by omega
    subst hx'
    exact ⟨m, he fu m, fun _ _ => rfl, rfl, fun _ _ => rfl, fun j h1 h2 => absurd h2 (by omega)⟩
  | succ e ih =>
    intro x fu m hx hfu
    obtain ⟨fu, rfl⟩ : ∃ z, fu = z + 1 := ⟨fu - 1, by omega⟩
    obtain ⟨m', a1, a2, a3, a4, a5⟩ := ih (x + 1) fu (mm_I m a x (m.1 b x)) (by omega) (by omega)
    refine ⟨m', (hs fu x m (by omega)).trans a1, fun i hi => by rw [a2 i hi, gI_o hi], by rw [a3]; rfl, fun j hj => by rw [a4 j (by omega), gI_s, if_neg (by omega)], fun j h1 h2 => ?_⟩
    by_cases ej : j = x
    · subst ej
      rw [a4 j (by omega), gI_s, if_pos rfl]
    · rw [a5 j (by omega) h2, gI_o (Ne.symm hab)]
/-- the model's rows, copied and cleared -/
theorem cpy_all {N : Nat} {m : MM} (hN : 15000 ≤ N) : ∃ m', f_Mo_text_L207 N N 0 m = f_Mo_text_L306 N N 0 m' ∧ (∀ i, i ≠ 360 → i ≠ 362 → i ≠ 365 → i ≠ 368 → m'.1 i = m.1 i) ∧ m'.2 = m.2 ∧ (∀ j, j < 2 → m'.1 360 j = m.1 361 j) ∧ (∀ j, j < 16 → m'.1 362 j = m.1 363 j) ∧ (∀ j, j < 96 → m'.1 365 j = m.1 366 j) ∧ (∀ j, j < 304 → m'.1 368 j = nI 0) := by
  obtain ⟨m1, a1, a2, a3, a4, a5⟩ := cpy_m (a := 360) (b := 361) (n := 2) (by decide) (fun fu x m => f_Mo_text_L207 N fu (nI x) m) (fun m => f_Mo_text_L232 N N 0 m) (fun fu m => by
    show f_Mo_text_L207 N (fu + 1) (nI 2) m = _
    rw [f_Mo_text_L207, if_pos (by decide)]) (fun fu x m hx => by
    show f_Mo_text_L207 N (fu + 1) (nI x) m = f_Mo_text_L207 N fu (nI (x + 1)) _
    rw [f_Mo_text_L207, if_neg (show ¬ (2 : Int32) ≤ nI x from fun z => by have := (nI_leI (a := 2) (by decide) (by omega)).mp z; omega), gd_in hx (by decide), gd_in hx (by decide), nI_clamp (by omega), wr_e, show nI x + 1 = nI (x + 1) from nI_add x 1]) 2 0 N m (by omega) (by omega)
  obtain ⟨m2, b1, b2, b3, b4, b5⟩ := cpy_m (a := 362) (b := 363) (n := 16) (by decide) (fun fu x m => f_Mo_text_L232 N fu (nI x) m) (fun m => f_Mo_text_L258 N N 0 m) (fun fu m => by
    show f_Mo_text_L232 N (fu + 1) (nI 16) m = _
    rw [f_Mo_text_L232, if_pos (by decide)]) (fun fu x m hx => by
    show f_Mo_text_L232 N (fu + 1) (nI x) m = f_Mo_text_L232 N fu (nI (x + 1)) _
    rw [f_Mo_text_L232, if_neg (show ¬ (16 : Int32) ≤ nI x from fun z => by have := (nI_leI (a := 16) (by decide) (by omega)).mp z; omega), gd_in hx (by decide), gd_in hx (by decide), nI_clamp (by omega), wr_e, show nI x + 1 = nI (x + 1) from nI_add x 1]) 16 0 N m1 (by omega) (by omega)
  obtain ⟨m3, c1, c2, c3, c4, c5⟩ := cpy_m (a := 365) (b := 366) (n := 96) (by decide) (fun fu x m => f_Mo_text_L258 N fu (nI x) m) (fun m => f_Mo_text_L284 N N 0 m) (fun fu m => by
    show f_Mo_text_L258 N (fu + 1) (nI 96) m = _
    rw [f_Mo_text_L258, if_pos (by decide)]) (fun fu x m hx => by
    show f_Mo_text_L258 N (fu + 1) (nI x) m = f_Mo_text_L258 N fu (nI (x + 1)) _
    rw [f_Mo_text_L258, if_neg (show ¬ (96 : Int32) ≤ nI x from fun z => by have := (nI_leI (a := 96) (by decide) (by omega)).mp z; omega), gd_in hx (by decide), gd_in hx (by decide), nI_clamp (by omega), wr_e, show nI x + 1 = nI (x + 1) from nI_add x 1]) 96 0 N m2 (by omega) (by omega)
  -- the row of now, cleared
  have hclr : ∀ e x fu m, x + e = 304 → e < fu → ∃ m', f_Mo_text_L284 N fu (nI x) m = f_Mo_text_L306 N N 0 m' ∧ (∀ i, i ≠ 368 → m'.1 i = m.1 i) ∧ m'.2 = m.2 ∧ (∀ j, j < x → m'.1 368 j = m.1 368 j) ∧ (∀ j, x ≤ j → j < 304 → m'.1 368 j = nI 0) := by
    intro e
    induction e with
    | zero =>
      intro x fu m hx hfu
      obtain ⟨fu, rfl⟩ : ∃ z, fu = z + 1 := ⟨fu - 1, by omega⟩
      have hx' : x = 304 := by omega
      subst hx'
      exact ⟨m, by rw [f_Mo_text_L284, if_pos (by decide)], fun _ _ => rfl, rfl, fun _ _ => rfl, fun j h1 h2 => absurd h2 (by omega)⟩
    | succ e ih =>
      intro x fu m hx hfu
      obtain ⟨fu, rfl⟩ : ∃ z, fu = z + 1 := ⟨fu - 1, by omega⟩
      obtain ⟨m', q1, q2, q3, q4, q5⟩ := ih (x + 1) fu (mm_I m 368 x 0) (by omega) (by omega)
      refine ⟨m', ?_, fun i hi => by rw [q2 i hi, gI_o hi], by rw [q3]; rfl, fun j hj => by rw [q4 j (by omega), gI_s, if_neg (by omega)], fun j h1 h2 => ?_⟩
      · rw [f_Mo_text_L284, if_neg (show ¬ (304 : Int32) ≤ nI x from fun z => by have := (nI_leI (a := 304) (by decide) (by omega)).mp z; omega), gd_in (by omega) (by decide), nI_clamp (by omega), wr_e, show nI x + 1 = nI (x + 1) from nI_add x 1, q1]
      · by_cases ej : j = x
        · subst ej
          rw [q4 j (by omega), gI_s, if_pos rfl]; rfl
        · exact q5 j (by omega) h2
  obtain ⟨m4, d1, d2, d3, d4, d5⟩ := hclr 304 0 N m3 (by omega) (by omega)
  refine ⟨m4, ?_, fun i i1 i2 i3 i4 => by rw [d2 i i4, c2 i i3, b2 i i2, a2 i i1], by rw [d3, c3, b3, a3], fun j hj => ?_, fun j hj => ?_, fun j hj => ?_, fun j hj => d5 j (by omega) hj⟩
  · exact a1.trans (b1.trans (c1.trans d1))
  · rw [d2 360 (by decide), c2 360 (by decide), b2 360 (by decide), a5 j (by omega) hj]
  · rw [d2 362 (by decide), c2 362 (by decide), b5 j (by omega) hj, a2 363 (by decide)]
  · rw [d2 365 (by decide), c5 j (by omega) hj, b2 366 (by decide), a2 366 (by decide)]
