/-! ===== shelves copied; acts kept ===== -/
theorem l_11856 : (11856 : Int32) = nI 11856 := rfl
theorem lpx {α β : Type} (L : Nat → Nat → α → β) (n : Nat) (f : Nat → α → α) (E : α → β) (P : Nat → α → Prop) (he : ∀ fu a, P n a → L (fu + 1) n a = E a) (hs : ∀ fu k a, k < n → P k a → L (fu + 1) k a = L fu (k + 1) (f k a) ∧ P (k + 1) (f k a)) (m k fu : Nat) (a : α) (h1 : k + m = n) (h2 : m < fu) (h3 : P k a) : ∃ a', L fu k a = E a' ∧ P n a' := ⟨_, lpf L n f E P he hs m k fu a h1 h2 h3⟩
def SZ (s : Nat) : Prop := sh_n (s + 2) = 6 ∧ sh_n (s + 3) = 36 ∧ sh_n (s + 4) = 36 ∧ sh_n (s + 5) = 36
theorem sz_8 : SZ 8 := by unfold SZ; decide +kernel
theorem sz_27 : SZ 27 := by unfold SZ; decide +kernel
theorem sz_347 : SZ 347 := by unfold SZ; decide +kernel
theorem sz_ring : ∀ i, i < 40 → SZ (53 + 7 * i) := by unfold SZ; decide +kernel
def CP (s q : Nat) (μ μ' : MM) : Prop := μ'.2 = μ.2 ∧ (∀ i, i < s ∨ s + 7 ≤ i → μ'.1 i = μ.1 i) ∧ (∀ j, j < 6 → μ'.1 (s + 2) j = μ.1 (q + 2) j ∧ μ'.1 (s + 6) j = μ.1 (q + 6) j) ∧ (∀ j, j < 36 → μ'.1 (s + 3) j = μ.1 (q + 3) j ∧ μ'.1 (s + 4) j = μ.1 (q + 4) j ∧ μ'.1 (s + 5) j = μ.1 (q + 5) j) ∧ μ'.1 s 2 = μ.1 q 2 ∧ μ'.1 s 3 = μ.1 q 3 ∧ μ'.1 s 4 = μ.1 q 4
theorem if_6 : (if (Int32.ofNat 6) < (Int32.ofNat 6) then (Int32.ofNat 6) else (Int32.ofNat 6)) = nI 6 := by decide
theorem cp_F {μ : MM} {a b n : Nat} : ∃ m1, mm_F μ a (va_cpy (μ.1 b) (μ.1 a) 0 0 n) = m1 ∧ m1.2 = μ.2 ∧ (∀ i, i ≠ a → m1.1 i = μ.1 i) ∧ ∀ j, j < n → m1.1 a j = μ.1 b j := by
  refine ⟨_, rfl, rfl, fun i hi => ?_, fun j hj => ?_⟩
  · funext j; rw [gF, if_neg hi]
  · rw [gF, if_pos rfl, pk_cpy_in (by omega) (by omega), Nat.zero_add, Nat.sub_zero]
theorem cp_I {μ : MM} {a b k : Nat} : ∃ m1, mm_I μ a k (μ.1 b k) = m1 ∧ m1.2 = μ.2 ∧ (∀ i, i ≠ a → m1.1 i = μ.1 i) ∧ (∀ j, j ≠ k → m1.1 a j = μ.1 a j) ∧ m1.1 a k = μ.1 b k := by
  refine ⟨_, rfl, rfl, fun i hi => ?_, fun j hj => ?_, ?_⟩
  · funext j; rw [gI, if_neg hi]
  · rw [gI, if_pos rfl, if_neg hj]
  · rw [gI, if_pos rfl, if_pos rfl]
theorem sh_take {N s q : Nat} {μ : MM} (hs : SZ s) (hq : SZ q) (hd : q + 7 ≤ s ∨ s + 7 ≤ q) : ∃ μ', f_Sh_takeAll N s q μ = some μ' ∧ CP s q μ μ' := by
  obtain ⟨s1, s2, s3, s4⟩ := hs
  obtain ⟨q1, q2, q3, q4⟩ := hq
  have c6 : cpb 0 0 (nI 6) 6 6 = true := by decide
  have c36 : cpb 0 0 (nI 6 * 6) 36 36 = true := by decide
  have c6' : cpb 0 0 6 6 6 = true := by decide
  have n6 : Int32.toNatClampNeg (nI 6) = 6 := by decide
  have n36 : Int32.toNatClampNeg (nI 6 * 6) = 36 := by decide
  have n0 : Int32.toNatClampNeg 0 = 0 := by decide
  have n6' : Int32.toNatClampNeg 6 = 6 := by decide
  unfold f_Sh_takeAll f_Wo_takeAll
  simp only [Nat.add_assoc, Nat.reduceAdd, s1, s2, s3, s4, q1, q2, q3, q4, if_6, c6, c36, c6', gd_t, n6, n36, n0, n6']
  obtain ⟨m1, e1, x1, y1, z1⟩ := cp_F (μ := μ) (a := s + 2) (b := q + 2) (n := 6)
  rw [wr_e, e1]
  obtain ⟨m2, e2, x2, y2, z2⟩ := cp_F (μ := m1) (a := s + 3) (b := q + 3) (n := 36)
  rw [wr_e, e2]
  obtain ⟨m3, e3, x3, y3, z3⟩ := cp_F (μ := m2) (a := s + 4) (b := q + 4) (n := 36)
  rw [wr_e, e3]
  obtain ⟨m4, e4, x4, y4, z4⟩ := cp_F (μ := m3) (a := s + 5) (b := q + 5) (n := 36)
  rw [wr_e, e4, obv_e]
  obtain ⟨m5, e5, x5, y5, z5⟩ := cp_F (μ := m4) (a := s + 6) (b := q + 6) (n := 6)
  rw [wr_e, e5]
  obtain ⟨m6, e6, x6, y6, z6, w6⟩ := cp_I (μ := m5) (a := s) (b := q) (k := 2)
  rw [wr_e, e6]
  obtain ⟨m7, e7, x7, y7, z7, w7⟩ := cp_I (μ := m6) (a := s) (b := q) (k := 3)
  rw [wr_e, e7]
  obtain ⟨m8, e8, x8, y8, z8, w8⟩ := cp_I (μ := m7) (a := s) (b := q) (k := 4)
  rw [wr_e, e8]
  clear e1 e2 e3 e4 e5 e6 e7 e8
  refine ⟨m8, rfl, by rw [x8, x7, x6, x5, x4, x3, x2, x1], fun i hi => ?_, fun j hj => ⟨?_, ?_⟩, fun j hj => ⟨?_, ?_, ?_⟩, ?_, ?_, ?_⟩
  · rw [y8 i (by omega), y7 i (by omega), y6 i (by omega), y5 i (by omega), y4 i (by omega), y3 i (by omega), y2 i (by omega), y1 i (by omega)]
  · rw [y8 _ (by omega), y7 _ (by omega), y6 _ (by omega), y5 _ (by omega), y4 _ (by omega), y3 _ (by omega), y2 _ (by omega), z1 j hj]
  · rw [y8 _ (by omega), y7 _ (by omega), y6 _ (by omega), z5 j hj, y4 _ (by omega), y3 _ (by omega), y2 _ (by omega), y1 _ (by omega)]
  · rw [y8 _ (by omega), y7 _ (by omega), y6 _ (by omega), y5 _ (by omega), y4 _ (by omega), y3 _ (by omega), z2 j hj, y1 _ (by omega)]
  · rw [y8 _ (by omega), y7 _ (by omega), y6 _ (by omega), y5 _ (by omega), y4 _ (by omega), z3 j hj, y2 _ (by omega), y1 _ (by omega)]
  · rw [y8 _ (by omega), y7 _ (by omega), y6 _ (by omega), y5 _ (by omega), z4 j hj, y3 _ (by omega), y2 _ (by omega), y1 _ (by omega)]
  · rw [z8 _ (by omega), z7 _ (by omega), w6, y5 q (by omega), y4 q (by omega), y3 q (by omega), y2 q (by omega), y1 q (by omega)]
  · rw [z8 _ (by omega), w7, y6 q (by omega), y5 q (by omega), y4 q (by omega), y3 q (by omega), y2 q (by omega), y1 q (by omega)]
  · rw [w8, y7 q (by omega), y6 q (by omega), y5 q (by omega), y4 q (by omega), y3 q (by omega), y2 q (by omega), y1 q (by omega)]
theorem SR_cp {nc nt s q : Nat} {c c' : MM} {g : Nat → Int32} (h : SR nc (c.1 q) (c.1 (q + 2)) (c.1 (q + 3)) (c.1 (q + 4)) (c.1 (q + 5)) (c.1 (q + 6)) g) (hw : RW nc nt g) (hnc : nc ≤ 6) (hc : CP s q c c') : SR nc (c'.1 s) (c'.1 (s + 2)) (c'.1 (s + 3)) (c'.1 (s + 4)) (c'.1 (s + 5)) (c'.1 (s + 6)) g := by
  obtain ⟨h1, h2, h3, h4⟩ := h
  obtain ⟨-, -, p1, p2, p3, p4, p5⟩ := hc
  refine ⟨fun i hi => ?_, p3.trans h2, p4.trans h3, p5.trans h4⟩
  obtain ⟨e1, e2, e3⟩ := h1 i hi
  obtain ⟨-, -, hz6, -⟩ := hw.1 i hi
  refine ⟨(p1 i (by omega)).1.trans e1, (p1 i (by omega)).2.trans e2, fun k hk => ?_⟩
  obtain ⟨f1, f2, f3⟩ := e3 k hk
  obtain ⟨g1, g2, g3⟩ := p2 (6 * i + k) (by omega)
  exact ⟨g1.trans f1, g2.trans f2, g3.trans f3⟩
/-! rows that agree -/
def RA (g g' : Nat → Int32) : Prop := ∀ k, k < 304 → g' k = g k
theorem zN_g {g g' : Nat → Int32} (h : RA g g') {c : Nat} (hc : c < 6) : zN g' c = zN g c := by unfold zN; rw [h _ (by omega)]
theorem uT_g {g g' : Nat → Int32} (h : RA g g') {c : Nat} (hc : c < 6) : uT g' c = uT g c := by unfold uT; rw [h _ (by omega)]
theorem oN_g {g g' : Nat → Int32} (h : RA g g') {c k : Nat} (hc : c < 6) (hk : k < 6) : oN g' c k = oN g c k := by unfold oN; rw [h _ (by omega)]
theorem aN_g {g g' : Nat → Int32} (h : RA g g') {c k : Nat} (hc : c < 6) (hk : k < 6) : aN g' c k = aN g c k := by unfold aN; rw [h _ (by omega)]
theorem iN_g {g g' : Nat → Int32} (h : RA g g') {c k : Nat} (hc : c < 6) (hk : k < 6) : iN g' c k = iN g c k := by unfold iN; rw [h _ (by omega)]
theorem liN_g {g g' : Nat → Int32} (h : RA g g') : liN g' = liN g := by unfold liN; rw [h _ (by omega)]
theorem moN_g {g g' : Nat → Int32} (h : RA g g') : moN g' = moN g := by unfold moN; rw [h _ (by omega)]
theorem dyN_g {g g' : Nat → Int32} (h : RA g g') : dyN g' = dyN g := by unfold dyN; rw [h _ (by omega)]
theorem RW_g {nc nt : Nat} {g g' : Nat → Int32} (h : RA g g') (hnc : nc ≤ 6) (hw : RW nc nt g) : RW nc nt g' := by
  obtain ⟨h1, h2⟩ := hw
  rw [RW, liN_g h, moN_g h, dyN_g h, h 120 (by omega), h 121 (by omega), h 122 (by omega)]
  refine ⟨fun c hc => ?_, h2⟩
  obtain ⟨e1, e2, e3, e4, e5⟩ := h1 c hc
  rw [zN_g h (by omega), uT_g h (by omega), h (20 * c + 1) (by omega), h (20 * c) (by omega)]
  refine ⟨e1, e2, e3, e4, fun k hk => ?_⟩
  rw [oN_g h (by omega) (by omega), aN_g h (by omega) (by omega), iN_g h (by omega) (by omega), h (20 * c + 2 + 3 * k) (by omega), h (20 * c + 3 + 3 * k) (by omega), h (20 * c + 4 + 3 * k) (by omega)]
  exact e5 k hk
theorem SR_g {nc nt : Nat} {ob sz so ab ik un g g' : Nat → Int32} (h : RA g g') (hnc : nc ≤ 6) (hw : RW nc nt g) (hs : SR nc ob sz so ab ik un g) : SR nc ob sz so ab ik un g' := by
  obtain ⟨h1, h2⟩ := hs
  rw [SR, h 120 (by omega), h 121 (by omega), h 122 (by omega)]
  refine ⟨fun c hc => ?_, h2⟩
  obtain ⟨e1, e2, e3⟩ := h1 c hc
  obtain ⟨-, -, hz6, -⟩ := hw.1 c hc
  rw [zN_g h (by omega), h (20 * c + 1) (by omega), h (20 * c) (by omega)]
  refine ⟨e1, e2, fun k hk => ?_⟩
  rw [h (20 * c + 2 + 3 * k) (by omega), h (20 * c + 3 + 3 * k) (by omega), h (20 * c + 4 + 3 * k) (by omega)]
  exact e3 k hk
theorem LG_g {lg : Nat → Nat → Nat} {g g' : Nat → Int32} (h : RA g g') (hl : LG lg g) : LG lg g' := by
  obtain ⟨h1, h2⟩ := hl
  rw [LG, dyN_g h, h 123 (by omega)]
  refine ⟨h1, fun j hj w hw => ?_⟩
  rw [h _ (by omega)]
  exact h2 j hj w hw
/-- the log is the same where the day and what stands behind it is the same -/
theorem LG_s {lg : Nat → Nat → Nat} {g g' : Nat → Int32} (h : ∀ k, 122 ≤ k → g' k = g k) (hl : LG lg g) : LG lg g' := by
  have hd : dyN g' = dyN g := by unfold dyN; rw [h 122 (by omega)]
  obtain ⟨h1, h2⟩ := hl
  rw [LG, hd, h 123 (by omega)]
  refine ⟨h1, fun j hj w hw => ?_⟩
  rw [h _ (by omega)]
  exact h2 j hj w hw
theorem RG_lo {r : Nat → Int32} {lg : Nat → Nat → Nat} {lo lo' d : Nat} (h : RG r lg lo d) (hl : lo ≤ lo') : RG r lg lo' d := fun e h1 h2 => h e h1 (by omega)
/-! the model's copies -/
theorem mo_copies {N q0 q1 : Nat} {m : MM} (hN : 15000 ≤ N) (h0 : sh_n q0 = 304) (h1 : sh_n q1 = 304) (hd : q0 ≠ q1) : ∃ m', f_Mo_copies N q0 q1 m = some m' ∧ m'.2 = m.2 ∧ (∀ i, i ≠ q1 → m'.1 i = m.1 i) ∧ ∀ k, k < 304 → m'.1 q1 k = m.1 q0 k := by
  have h := lpx (fun fu k (a : MM) => f_Mo_copies_L2 N q0 q1 fu (nI k) a) 304 (fun k a => mm_I a q1 k (a.1 q0 k)) (fun a => some a) (fun k a => a.2 = m.2 ∧ (∀ i, i ≠ q1 → a.1 i = m.1 i) ∧ ∀ j, j < k → a.1 q1 j = m.1 q0 j) (fun fu a _ => by
      simp (disch := omega) only [f_Mo_copies_L2, l_304, nI_leI, Nat.le_refl, if_true]) (fun fu k a hk ha => by
      refine ⟨?_, ha.1, fun i hi => ?_, fun j hj => ?_⟩
      · simp (disch := omega) only [f_Mo_copies_L2, l_304, l_1, h0, h1, nI_leI, if_neg, gd_in, nI_clamp, wr_e, nI_add]
      · funext j; rw [gI, if_neg hi, ha.2.1 i hi]
      · rw [gI, if_pos rfl]
        by_cases e : j = k
        · rw [if_pos e, e, ha.2.1 q0 hd]
        · rw [if_neg e, ha.2.2 j (by omega)]) 304 0 N m (by omega) (by omega) ⟨rfl, fun _ _ => rfl, fun j hj => absurd hj (by omega)⟩
  obtain ⟨A, h1, h2⟩ := h
  exact ⟨A, h1, h2⟩
theorem mo_rem2 {N b : Nat} {m : MM} (hN : 15000 ≤ N) (hb : b < 40) (hm : m.1 355 37 = nI b) : ∃ m', f_Mo_remember_L52 N N 0 m = some m' ∧ m'.2 = m.2 ∧ (∀ i, i ≠ 355 → i ≠ 370 → m'.1 i = m.1 i) ∧ (∀ j, j ≠ 37 → m'.1 355 j = m.1 355 j) ∧ m'.1 355 37 = nI (b + 1) ∧ (∀ k, k < 304 → m'.1 370 (304 * b + k) = m.1 368 k) ∧ ∀ j, j < 304 * b → m'.1 370 j = m.1 370 j := by
  have h := lpx (fun fu k (a : MM) => f_Mo_remember_L52 N fu (nI k) a) 304 (fun k a => mm_I a 370 (304 * b + k) (a.1 368 k)) (fun a => some (mm_I a 355 37 (nI (b + 1)))) (fun k a => a.2 = m.2 ∧ (∀ i, i ≠ 370 → a.1 i = m.1 i) ∧ (∀ j, j < k → a.1 370 (304 * b + j) = m.1 368 j) ∧ ∀ j, j < 304 * b → a.1 370 j = m.1 370 j) (fun fu a ha => by
      have e : a.1 355 37 = nI b := by rw [ha.2.1 355 (by decide)]; exact hm
      simp (disch := omega) only [f_Mo_remember_L52, l_304, l_1, nI_leI, Nat.le_refl, if_true, wr_e, e, nI_add]) (fun fu k a hk ha => by
      have e : a.1 355 37 = nI b := by rw [ha.2.1 355 (by decide)]; exact hm
      refine ⟨?_, ha.1, fun i hi => ?_, fun j hj => ?_, fun j hj => ?_⟩
      · simp (disch := omega) only [f_Mo_remember_L52, l_304, l_1, e, nI_leI, if_neg, pk_mul, nI_add, gd_in, nI_clamp, wr_e]
      · funext j; rw [gI, if_neg hi, ha.2.1 i hi]
      · rw [gI, if_pos rfl]
        by_cases q : j = k
        · rw [if_pos (by omega), q, ha.2.1 368 (by decide)]
        · rw [if_neg (by omega), ha.2.2.1 j (by omega)]
      · rw [gI, if_pos rfl, if_neg (by omega), ha.2.2.2 j hj]) 304 0 N m (by omega) (by omega) ⟨rfl, fun _ _ => rfl, fun j hj => absurd hj (by omega), fun _ _ => rfl⟩
  obtain ⟨A, h1, h2, h3, h4, h5⟩ := h
  refine ⟨_, h1, h2, fun i hi hi2 => ?_, fun j hj => ?_, ?_, fun k hk => ?_, fun j hj => ?_⟩
  · funext j; rw [gI, if_neg hi, h3 i hi2]
  · rw [gI, if_pos rfl, if_neg hj, h3 355 (by decide)]
  · rw [gI, if_pos rfl, if_pos rfl]
  · rw [gI, if_neg (by decide)]; exact h4 k hk
  · rw [gI, if_neg (by decide)]; exact h5 j hj
theorem mo_rem1 {N : Nat} {m : MM} (hN : 15000 ≤ N) (hm : m.1 355 37 = nI 40) : ∃ m1, f_Mo_remember N m = f_Mo_remember_L52 N N 0 m1 ∧ m1.2 = m.2 ∧ (∀ i, i ≠ 355 → i ≠ 370 → m1.1 i = m.1 i) ∧ (∀ j, j ≠ 37 → m1.1 355 j = m.1 355 j) ∧ m1.1 355 37 = nI 39 ∧ ∀ j, j < 11856 → m1.1 370 j = m.1 370 (j + 304) := by
  have h := lpx (fun fu k (a : MM) => f_Mo_remember_L11 N fu (nI k) a) 11856 (fun k a => mm_I a 370 k (a.1 370 (k + 304))) (fun a => f_Mo_remember_L52 N N 0 (mm_I a 355 37 (nI 39))) (fun k a => a.2 = m.2 ∧ (∀ i, i ≠ 370 → a.1 i = m.1 i) ∧ (∀ j, j < k → a.1 370 j = m.1 370 (j + 304)) ∧ ∀ j, k ≤ j → a.1 370 j = m.1 370 j) (fun fu a ha => by
      have e : a.1 355 37 = nI 40 := by rw [ha.2.1 355 (by decide)]; exact hm
      simp (disch := omega) only [f_Mo_remember_L11, l_11856, l_1, nI_leI, Nat.le_refl, if_true, wr_e, e, pk_sub, Nat.reduceSub]) (fun fu k a hk ha => by
      refine ⟨?_, ha.1, fun i hi => ?_, fun j hj => ?_, fun j hj => ?_⟩
      · simp (disch := omega) only [f_Mo_remember_L11, l_11856, l_304, l_1, nI_leI, if_neg, nI_add, gd_in, nI_clamp, wr_e]
      · funext j; rw [gI, if_neg hi, ha.2.1 i hi]
      · rw [gI, if_pos rfl]
        by_cases q : j = k
        · rw [if_pos q, q, ha.2.2.2 _ (by omega)]
        · rw [if_neg q, ha.2.2.1 j (by omega)]
      · rw [gI, if_pos rfl, if_neg (by omega), ha.2.2.2 j (by omega)]) 11856 0 N m (by omega) (by omega) ⟨rfl, fun _ _ => rfl, fun j hj => absurd hj (by omega), fun _ _ => rfl⟩
  obtain ⟨A, h1, h2, h3, h4, h5⟩ := h
  refine ⟨mm_I A 355 37 (nI 39), ?_, h2, fun i hi hi2 => ?_, fun j hj => ?_, ?_, fun k hk => ?_⟩
  · unfold f_Mo_remember
    rw [hm, if_pos (by decide)]
    exact h1
  · funext j; rw [gI, if_neg hi, h3 i hi2]
  · rw [gI, if_pos rfl, if_neg hj, h3 355 (by decide)]
  · rw [gI, if_pos rfl, if_pos rfl]
  · rw [gI, if_neg (by decide)]; exact h4 k hk
/-- what is kept: the rows move up if there are forty -/
theorem mo_remember {N a : Nat} {m : MM} (hN : 15000 ≤ N) (ha : a ≤ 40) (hm : m.1 355 37 = nI a) : ∃ (s b : Nat) (m' : MM), (a < 40 ∧ s = 0 ∧ b = a ∨ a = 40 ∧ s = 1 ∧ b = 39) ∧ f_Mo_remember N m = some m' ∧ m'.2 = m.2 ∧ (∀ i, i ≠ 355 → i ≠ 370 → m'.1 i = m.1 i) ∧ (∀ j, j ≠ 37 → m'.1 355 j = m.1 355 j) ∧ m'.1 355 37 = nI (b + 1) ∧ RA (m.1 368) (hrow (m'.1 370) b) ∧ ∀ j, j < b → RA (hrow (m.1 370) (j + s)) (hrow (m'.1 370) j) := by
  rcases Nat.lt_or_ge a 40 with h | h
  · obtain ⟨m', h1, h2, h3, h4, h5, h6, h7⟩ := mo_rem2 hN h hm
    refine ⟨0, a, m', Or.inl ⟨h, rfl, rfl⟩, ?_, h2, h3, h4, h5, h6, fun j hj k hk => h7 _ (by omega)⟩
    unfold f_Mo_remember
    rw [hm, if_neg (fun e => by rw [l_40, nI_eq (by omega) (by omega)] at e; omega)]
    exact h1
  · have : a = 40 := by omega
    subst this
    obtain ⟨m1, g1, g2, g3, g4, g5, g6⟩ := mo_rem1 hN hm
    obtain ⟨m', h1, h2, h3, h4, h5, h6, h7⟩ := mo_rem2 hN (by omega) g5
    refine ⟨1, 39, m', Or.inr ⟨rfl, rfl, rfl⟩, g1.trans h1, h2.trans g2, fun i hi hi2 => (h3 i hi hi2).trans (g3 i hi hi2), fun j hj => (h4 j hj).trans (g4 j hj), h5, fun k hk => ?_, fun j hj k hk => ?_⟩
    · rw [← g3 368 (by decide) (by decide)]; exact h6 k hk
    · show m'.1 370 (304 * j + k) = m.1 370 (304 * (j + 1) + k)
      rw [h7 _ (by omega), g6 _ (by omega)]
      exact congrArg _ (by omega)
theorem hi_keep {N a nx : Nat} {c : MM} (ha : a ≤ 40) (hx : nx < 40) (h0 : c.1 51 0 = nI a) (h1 : c.1 51 1 = nI nx) : ∃ c1 c', f_Hi_keep N 27 c = some c' ∧ CP (53 + 7 * nx) 27 c c1 ∧ c'.2 = c1.2 ∧ (∀ i, i ≠ 51 → c'.1 i = c1.1 i) ∧ c'.1 51 0 = nI (min 40 (a + 1)) ∧ c'.1 51 1 = nI ((nx + 1) % 40) := by
  obtain ⟨c1, e1, hc⟩ := sh_take (N := N) (μ := c) (sz_ring nx hx) sz_27 (by omega)
  have g0 : c1.1 51 0 = nI a := by rw [hc.2.1 51 (by omega)]; exact h0
  have g1 : c1.1 51 1 = nI nx := by rw [hc.2.1 51 (by omega)]; exact h1
  unfold f_Hi_keep
  simp (disch := omega) only [h1, gd_in, nI_clamp, e1, obv_e, wr_e, g1, l_1, l_40, nI_add, pk_rem]
  refine ⟨c1, _, rfl, hc, rfl, fun i hi => ?_, ?_, ?_⟩
  · funext j
    simp only [gI, if_neg hi]
  · simp (disch := omega) only [gI, if_pos, if_neg, if_true, g0, nI_add, nI_ltI]
    by_cases e : a + 1 < 40
    · rw [if_pos e, Nat.min_eq_right (by omega)]
    · rw [if_neg e, Nat.min_eq_left (by omega)]
  · simp (disch := omega) only [gI, if_pos, if_neg, if_true]
/-- a new present, or a new past: the rest of the relation stays -/
theorem RB_of {D D' nc nt a a' nx nx' tl lc rc st cl : Nat} {lg lg' lgI : Nat → Nat → Nat} {c m c' m' : MM} (h : RB D nc nt lg lgI a nx tl lc rc st cl c m) (hD : D ≤ D')
    (hc : ∀ i, (i < 27 ∨ i = 34 ∨ (36 ≤ i ∧ i < 42) ∨ (43 ≤ i ∧ i < 48) ∨ 341 ≤ i) → i < 355 → c'.1 i = c.1 i) (hm : ∀ i, (356 ≤ i ∧ i < 359 ∨ i = 362 ∨ i = 365 ∨ i = 367 ∨ 371 ≤ i) → m'.1 i = m.1 i)
    (hm5 : ∀ j, (j = 6 ∨ j = 7 ∨ j = 26 ∨ j = 27 ∨ j = 30 ∨ j = 34 ∨ j = 35 ∨ j = 45 ∨ j = 48) → m'.1 355 j = m.1 355 j)
    (h5 : SR nc (c'.1 27) (c'.1 29) (c'.1 30) (c'.1 31) (c'.1 32) (c'.1 33) (m'.1 368)) (h6 : RW nc nt (m'.1 368)) (h7 : LG lg' (m'.1 368)) (h8 : LB lg')
    (h9 : RG (c'.1 49) lg' (hday a' (m'.1 370) (m'.1 368) 0) (dyN (m'.1 368))) (h10 : dyN (m'.1 368) ≤ D')
    (h11 : HB a' nx' nc nt lg' (c'.1 51 0) (c'.1 51 1) (m'.1 355 37) c'.1 (m'.1 370) (m'.1 368)) : RB D' nc nt lg' lgI a' nx' tl lc rc st cl c' m' := by
  obtain ⟨g1, g2, g3, g4, -, -, -, -, -, -, -, g12, g13, g14, g15, g16, g17⟩ := h
  unfold RB
  refine ⟨?_, ?_, ?_, ?_, h5, h6, h7, h8, h9, h10, h11, ?_, ?_, ?_, ?_, ?_, ?_⟩
  · rw [hc 23 (by omega) (by omega), hc 24 (by omega) (by omega), hc 25 (by omega) (by omega), hc 26 (by omega) (by omega), hm 362 (by omega), hm 365 (by omega)]; exact g1
  · rw [hm5 27 (by omega), hm5 26 (by omega)]; exact g2
  · rw [hm 362 (by omega)]; exact g3
  · rw [hm 365 (by omega)]; exact g4
  · rw [hc 0 (by omega) (by omega), hm5 48 (by omega), hc 347 (by omega) (by omega), hc 349 (by omega) (by omega), hc 350 (by omega) (by omega), hc 351 (by omega) (by omega), hc 352 (by omega) (by omega), hc 353 (by omega) (by omega), hc 354 (by omega) (by omega), hm 375 (by omega)]; exact IB_k g12 hD
  · rw [hc 1 (by omega) (by omega), hc 2 (by omega) (by omega), hm5 6 (by omega), hm 356 (by omega)]; exact g13
  · rw [hc 34 (by omega) (by omega), hc 37 (by omega) (by omega), hc 38 (by omega) (by omega), hc 39 (by omega) (by omega), hc 40 (by omega) (by omega), hc 41 (by omega) (by omega), hm5 7 (by omega), hm5 34 (by omega), hm 357 (by omega), hm 358 (by omega)]; exact g14
  · rw [hc 0 (by omega) (by omega), hc 44 (by omega) (by omega), hc 45 (by omega) (by omega), hc 46 (by omega) (by omega), hm5 30 (by omega), hm 367 (by omega)]; exact g15
  · rw [hc 341 (by omega) (by omega), hc 342 (by omega) (by omega), hc 343 (by omega) (by omega), hc 344 (by omega) (by omega), hm5 45 (by omega), hm 371 (by omega), hm 372 (by omega), hm 373 (by omega)]; exact g16
  · rw [hc 0 (by omega) (by omega), hm5 35 (by omega)]; exact g17
theorem RB_L {D nc nt a nx tl lc rc st cl : Nat} {lg lgI : Nat → Nat → Nat} {c m : MM} (h : RB D nc nt lg lgI a nx tl lc rc st cl c m) : LK nc nt (m.1 368) (m.1 362) (m.1 365) c ∧ MK nc nt m := by
  obtain ⟨h1, h2, h3, h4, h5, h6, -⟩ := h
  exact ⟨⟨h1, h5, h6, h3, h4⟩, h2.1, h2.2, h6, h3, h4, h1.2.2.1, h1.2.2.2.1⟩
/-- what is behind what was kept -/
theorem RB_keep {N D nc nt a nx tl lc rc st cl : Nat} {lg lgI : Nat → Nat → Nat} {c m : MM} (hN : 15000 ≤ N) (h : RB D nc nt lg lgI a nx tl lc rc st cl c m) : ∃ (a' nx' : Nat) (c' m' : MM), f_Hi_keep N 27 c = some c' ∧ f_Mo_remember N m = some m' ∧ RB D nc nt lg lgI a' nx' tl lc rc st cl c' m' ∧ 1 ≤ a' ∧ hday a' (m'.1 370) (m'.1 368) (a' - 1) = dyN (m'.1 368) ∧ (∀ i, i < 51 → c'.1 i = c.1 i) ∧ c'.2 = c.2 ∧ (∀ i, i ≠ 355 → i ≠ 370 → m'.1 i = m.1 i) ∧ (∀ j, j ≠ 37 → m'.1 355 j = m.1 355 j) ∧ m'.2 = m.2 := by
  have hR := h
  obtain ⟨h1, h2, h3, h4, h5, h6, h7, h8, h9, h10, ⟨b1, b2, b3, b4, b5, b6⟩, -⟩ := h
  have hnc := h1.2.2.1
  obtain ⟨s, b, m', hsb, e2, k1, k2, k3, k4, k5, k6⟩ := mo_remember hN b1 b5
  obtain ⟨c1, c', e1, q1, q2, q3, q4, q5⟩ := hi_keep (N := N) b1 b2 b3 b4
  have hb : min 40 (a + 1) = b + 1 := by omega
  rw [hb] at q4
  have hcc : ∀ i, i ≠ 51 → (i < 53 + 7 * nx ∨ 53 + 7 * nx + 7 ≤ i) → c'.1 i = c.1 i := fun i hi hi2 => (q3 i hi).trans (q1.2.1 i hi2)
  have hg : m'.1 368 = m.1 368 := k2 368 (by decide) (by decide)
  have hq : ∀ j, j < b + 1 → hday (b + 1) (m'.1 370) (m'.1 368) j = hday a (m.1 370) (m.1 368) (j + s) := fun j hj => by
    unfold hday
    rw [if_pos hj]
    by_cases e : j = b
    · subst e
      rw [if_neg (by omega), dyN_g k5]
    · rw [if_pos (by omega), dyN_g (k6 j (by omega))]
  have hch : ∀ j, j < a → hday a (m.1 370) (m.1 368) j ≤ hday a (m.1 370) (m.1 368) (j + 1) ∧ hday a (m.1 370) (m.1 368) (j + 1) ≤ hday a (m.1 370) (m.1 368) j + 1 := fun j hj => ⟨(b6 j hj).2.2.2.1, (b6 j hj).2.2.2.2⟩
  have htop : hday a (m.1 370) (m.1 368) (b + s) = dyN (m.1 368) := by
    unfold hday
    rw [if_neg (by omega)]
  have hlast : hday (b + 1) (m'.1 370) (m'.1 368) (b + 1) = dyN (m.1 368) := by
    unfold hday
    rw [if_neg (by omega), hg]
  have H : HB (b + 1) ((nx + 1) % 40) nc nt lg (c'.1 51 0) (c'.1 51 1) (m'.1 355 37) c'.1 (m'.1 370) (m'.1 368) := by
    refine ⟨by omega, Nat.mod_lt _ (by omega), q4, q5, k4, fun j hj => ?_⟩
    by_cases e : j = b
    · subst e
      have hp : ((nx + 1) % 40 + 40 - (j + 1) + j) % 40 = nx := by omega
      rw [hp]
      refine ⟨?_, RW_g k5 hnc h6, LG_g k5 h7, ?_, ?_⟩
      · rw [q3 _ (by omega), q3 (53 + 7 * nx + 2) (by omega), q3 (53 + 7 * nx + 3) (by omega), q3 (53 + 7 * nx + 4) (by omega), q3 (53 + 7 * nx + 5) (by omega), q3 (53 + 7 * nx + 6) (by omega)]
        exact SR_g k5 hnc h6 (SR_cp (q := 27) h5 h6 hnc q1)
      · rw [hq j hj, hlast, htop]; exact Nat.le_refl _
      · rw [hq j hj, hlast, htop]; omega
    · have hp : ((nx + 1) % 40 + 40 - (b + 1) + j) % 40 = (nx + 40 - a + (j + s)) % 40 := by omega
      have hne : (nx + 40 - a + (j + s)) % 40 ≠ nx := by omega
      have hlt : (nx + 40 - a + (j + s)) % 40 < 40 := Nat.mod_lt _ (by omega)
      rw [hp]
      obtain ⟨r1, r2, r3, r4, r5⟩ := b6 (j + s) (by omega)
      generalize (nx + 40 - a + (j + s)) % 40 = p at *
      refine ⟨?_, RW_g (k6 j (by omega)) hnc r2, LG_g (k6 j (by omega)) r3, ?_, ?_⟩
      · rw [hcc _ (by omega) (by omega), hcc (53 + 7 * p + 2) (by omega) (by omega), hcc (53 + 7 * p + 3) (by omega) (by omega), hcc (53 + 7 * p + 4) (by omega) (by omega), hcc (53 + 7 * p + 5) (by omega) (by omega), hcc (53 + 7 * p + 6) (by omega) (by omega)]
        exact SR_g (k6 j (by omega)) hnc r2 r1
      · rw [hq j hj, hq (j + 1) (by omega), show j + 1 + s = j + s + 1 by omega]; exact r4
      · rw [hq j hj, hq (j + 1) (by omega), show j + 1 + s = j + s + 1 by omega]; exact r5
  refine ⟨b + 1, (nx + 1) % 40, c', m', e1, e2, ?_, by omega, ?_, fun i hi => hcc i (by omega) (by omega), q2.trans q1.1, k2, k3, k1⟩
  · refine RB_of hR (Nat.le_refl _) (fun i hi hi2 => hcc i (by omega) (by omega)) (fun i hi => k2 i (by omega) (by omega)) (fun j hj => k3 j (by omega)) ?_ ?_ ?_ h8 ?_ ?_ H
    · rw [hg, hcc 27 (by omega) (by omega), hcc 29 (by omega) (by omega), hcc 30 (by omega) (by omega), hcc 31 (by omega) (by omega), hcc 32 (by omega) (by omega), hcc 33 (by omega) (by omega)]; exact h5
    · rw [hg]; exact h6
    · rw [hg]; exact h7
    · rw [hq 0 (by omega), hg, hcc 49 (by omega) (by omega)]
      refine RG_lo h9 ?_
      rcases hsb with ⟨-, rfl, -⟩ | ⟨x1, rfl, -⟩
      · exact Nat.le_refl _
      · exact (hch 0 (by omega)).1
    · rw [hg]; exact h10
  · rw [show b + 1 - 1 = b by omega, hq b (by omega), hg, htop]
/-- the present changes on the same day -/
theorem RB_now {D D' nc nt a nx tl lc rc st cl : Nat} {lg lgI : Nat → Nat → Nat} {c m c' m' : MM} (h : RB D nc nt lg lgI a nx tl lc rc st cl c m) (hD : D ≤ D') (ha : 1 ≤ a) (hc : ∀ i, (i < 27 ∨ 33 < i) → c'.1 i = c.1 i) (hm : ∀ i, i ≠ 368 → m'.1 i = m.1 i)
    (h5 : SR nc (c'.1 27) (c'.1 29) (c'.1 30) (c'.1 31) (c'.1 32) (c'.1 33) (m'.1 368)) (h6 : RW nc nt (m'.1 368)) (h7 : ∀ k, 122 ≤ k → m'.1 368 k = m.1 368 k) : RB D' nc nt lg lgI a nx tl lc rc st cl c' m' := by
  have hR := h
  obtain ⟨-, -, -, -, -, -, g7, g8, g9, g10, g11, -⟩ := h
  have hd : dyN (m'.1 368) = dyN (m.1 368) := by unfold dyN; rw [h7 122 (by omega)]
  have hh : ∀ j, hday a (m'.1 370) (m'.1 368) j = hday a (m.1 370) (m.1 368) j := fun j => by
    unfold hday
    rw [hm 370 (by decide), hd]
  refine RB_of hR hD (fun i hi hi2 => hc i (by omega)) (fun i hi => hm i (by omega)) (fun j hj => by rw [hm 355 (by decide)]) h5 h6 (LG_s h7 g7) g8 ?_ ?_ ?_
  · rw [hh 0, hd, hc 49 (by omega)]; exact g9
  · rw [hd]; omega
  · obtain ⟨b1, b2, b3, b4, b5, b6⟩ := g11
    refine ⟨b1, b2, by rw [hc 51 (by omega)]; exact b3, by rw [hc 51 (by omega)]; exact b4, by rw [hm 355 (by decide)]; exact b5, fun j hj => ?_⟩
    rw [hh j, hh (j + 1), hm 370 (by decide), hc _ (by omega), hc (53 + 7 * ((nx + 40 - a + j) % 40) + 2) (by omega), hc (53 + 7 * ((nx + 40 - a + j) % 40) + 3) (by omega), hc (53 + 7 * ((nx + 40 - a + j) % 40) + 4) (by omega), hc (53 + 7 * ((nx + 40 - a + j) % 40) + 5) (by omega), hc (53 + 7 * ((nx + 40 - a + j) % 40) + 6) (by omega)]
    exact b6 j hj
theorem RB_Rel {k nc nt a nx tl lc rc st cl : Nat} {lg lgI : Nat → Nat → Nat} {c m : MM} (h : RB (10 * (k + 6)) nc nt lg lgI a nx tl lc rc st cl c m) : Rel (k + 6) c m := ⟨nc, nt, lg, lgI, a, nx, tl, lc, rc, st, cl, h⟩
