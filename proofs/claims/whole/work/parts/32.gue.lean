/-! ===== what stood: rows of words that are gone ===== -/
def hasA (m : Nat) (x : Int32) : Bool := decide (nI m &&& x = x)
def hasN (m : Nat) (x : Int32) : Bool := decide (nI m &&& x = nI 0)
theorem hasA_iff {m : Nat} {x : Int32} : hasA m x = true ↔ ∀ i, i < 32 → bt x i = true → bt (nI m) i = true := by
  unfold hasA
  rw [decide_eq_true_eq]
  constructor
  · intro h i hi hb
    have := b_and (nI m) x i
    rw [h, hb] at this
    simpa using this.symm
  · intro h
    apply b_ext
    intro i hi
    rw [b_and]
    cases hb : bt x i
    · simp
    · simp [h i hi hb]
theorem hasN_iff {m : Nat} {x : Int32} : hasN m x = true ↔ ∀ i, i < 32 → bt x i = true → bt (nI m) i = false := by
  unfold hasN
  rw [decide_eq_true_eq]
  constructor
  · intro h i hi hb
    have := b_and (nI m) x i
    rw [h, hb, show nI 0 = (0 : Int32) from rfl, b_0] at this
    simpa using this.symm
  · intro h
    apply b_ext
    intro i hi
    rw [b_and, show nI 0 = (0 : Int32) from rfl, b_0]
    cases hb : bt x i
    · simp
    · simp [h i hi hb]
theorem hasA_or {m : Nat} {x y : Int32} : hasA m (x ||| y) = (hasA m x && hasA m y) := by
  rw [Bool.eq_iff_iff, Bool.and_eq_true, hasA_iff, hasA_iff, hasA_iff]
  constructor
  · intro h
    exact ⟨fun i hi hb => h i hi (by rw [b_or, hb, Bool.true_or]), fun i hi hb => h i hi (by rw [b_or, hb, Bool.or_true])⟩
  · rintro ⟨h1, h2⟩ i hi hb
    rw [b_or, Bool.or_eq_true] at hb
    exact hb.elim (h1 i hi) (h2 i hi)
theorem hasN_or {m : Nat} {x y : Int32} : hasN m (x ||| y) = (hasN m x && hasN m y) := by
  rw [Bool.eq_iff_iff, Bool.and_eq_true, hasN_iff, hasN_iff, hasN_iff]
  constructor
  · intro h
    exact ⟨fun i hi hb => h i hi (by rw [b_or, hb, Bool.true_or]), fun i hi hb => h i hi (by rw [b_or, hb, Bool.or_true])⟩
  · rintro ⟨h1, h2⟩ i hi hb
    rw [b_or, Bool.or_eq_true] at hb
    exact hb.elim (h1 i hi) (h2 i hi)
theorem bt_nI {m i : Nat} (hi : i < 32) : bt (nI m) i = tb m i := by
  unfold bt tb
  show (BitVec.ofNat 32 m).getLsbD i = _
  rw [BitVec.getLsbD_ofNat, Nat.testBit_eq_decide_div_mod_eq]
  simp [hi]
theorem bt_1 {a i : Nat} (ha : a < 32) (hi : i < 32) : bt (nI 1 <<< (nI a &&& nI 31)) i = decide (i = a) := by
  rw [show (nI 31 : Int32) = 31 from rfl, b_shl a ha _ hi]
  by_cases h : a ≤ i
  · rw [decide_eq_true h, Bool.true_and, (by decide +kernel : ∀ j, j < 32 → bt (nI 1) j = decide (j = 0)) (i - a) (by omega)]
    by_cases e : i = a
    · subst e; simp
    · rw [decide_eq_false e, decide_eq_false (by omega)]
  · rw [decide_eq_false h, Bool.false_and, decide_eq_false (by omega)]
theorem hasA_1 {m a : Nat} (ha : a < 32) : hasA m (nI 1 <<< (nI a &&& nI 31)) = tb m a := by
  rw [Bool.eq_iff_iff, hasA_iff]
  constructor
  · intro h
    have := h a ha (by rw [bt_1 ha ha]; simp)
    rwa [bt_nI ha] at this
  · intro h i hi hb
    rw [bt_1 ha hi, decide_eq_true_eq] at hb
    subst hb
    rw [bt_nI hi]; exact h
theorem hasN_1 {m a : Nat} (ha : a < 32) : hasN m (nI 1 <<< (nI a &&& nI 31)) = !(tb m a) := by
  rw [Bool.eq_iff_iff, hasN_iff, Bool.not_eq_true']
  constructor
  · intro h
    have := h a ha (by rw [bt_1 ha ha]; simp)
    rwa [bt_nI ha] at this
  · intro h i hi hb
    rw [bt_1 ha hi, decide_eq_true_eq] at hb
    subst hb
    rw [bt_nI hi]; exact h
theorem hasA_0 (m : Nat) : hasA m (nI 0) = true := by
  rw [hasA_iff]; intro i hi hb; rw [show nI 0 = (0 : Int32) from rfl, b_0] at hb; cases hb
theorem hasN_0 (m : Nat) : hasN m (nI 0) = true := by
  rw [hasN_iff]; intro i hi hb; rw [show nI 0 = (0 : Int32) from rfl, b_0] at hb; cases hb
theorem fo_and {α : Type} {H : α → Bool} {F : Nat → α → α} {p : Nat → Bool} : ∀ (n k : Nat) (x : α), (∀ j x, k ≤ j → j < k + n → H (F j x) = (H x && p j)) → H (fo F n k x) = (H x && al p n k) := by
  intro n
  induction n with
  | zero => intro k x _; simp [fo, al]
  | succ n ih =>
    intro k x h
    rw [fo, al, ih (k + 1) (F k x) (fun j x h1 h2 => h j x (by omega) (by omega)), h k x (by omega) (by omega), Bool.and_assoc]
theorem al_and {p q : Nat → Bool} : ∀ (n k : Nat), (al p n k && al q n k) = al (fun j => p j && q j) n k := by
  intro n
  induction n with
  | zero => intro k; rfl
  | succ n ih =>
    intro k
    rw [al, al, al, ← ih (k + 1)]
    cases p k <;> cases q k <;> simp
theorem al_snoc {p : Nat → Bool} : ∀ (n k : Nat), al p (n + 1) k = (al p n k && p (k + n)) := by
  intro n
  induction n with
  | zero => intro k; simp [al]
  | succ n ih =>
    intro k
    rw [al, ih (k + 1), al, Bool.and_assoc, show k + 1 + n = k + (n + 1) by omega]
theorem hasA_nmd {g : Nat → Int32} {c m s : Nat} (hz : ∀ k, k < zN g c → aN g c k < 10) : hasA m (nmd g c s) = al (fun k => decide (iN g c k = 0) || !decide (oN g c k = s) || tb m (aN g c k)) (zN g c) 0 := by
  unfold nmd
  rw [fo_and (H := hasA m) (p := fun k => decide (iN g c k = 0) || !decide (oN g c k = s) || tb m (aN g c k)) (zN g c) 0 (nI 0) (fun j x h1 h2 => ?_), hasA_0, Bool.true_and]
  have h10 := hz j (by omega)
  by_cases q : iN g c j = 0
  · simp [q]
  · by_cases q2 : oN g c j = s
    · simp only [q, q2, if_false, if_true, decide_false, decide_true, Bool.not_true, Bool.false_or, hasA_or]
      rw [hasA_1 (by omega)]
    · simp [q, q2]
theorem hasN_nmd {g : Nat → Int32} {c m s : Nat} (hz : ∀ k, k < zN g c → aN g c k < 10) : hasN m (nmd g c s) = al (fun k => decide (iN g c k = 0) || !decide (oN g c k = s) || !(tb m (aN g c k))) (zN g c) 0 := by
  unfold nmd
  rw [fo_and (H := hasN m) (p := fun k => decide (iN g c k = 0) || !decide (oN g c k = s) || !(tb m (aN g c k))) (zN g c) 0 (nI 0) (fun j x h1 h2 => ?_), hasN_0, Bool.true_and]
  have h10 := hz j (by omega)
  by_cases q : iN g c j = 0
  · simp [q]
  · by_cases q2 : oN g c j = s
    · simp only [q, q2, if_false, if_true, decide_false, decide_true, Bool.not_true, Bool.false_or, hasN_or]
      rw [hasN_1 (by omega)]
    · simp [q, q2]
/-- the words that are left, without likes; the digits of the words that are gone -/
def fbW (g : Nat → Int32) (c m : Nat) : Bool := al (fun k => decide (iN g c k = 0) || decide (2 ≤ oN g c k) || (tb m (aN g c k) == decide (oN g c k = 0))) (zN g c) 0
def dgt (row k : Nat) : Nat := row / 12 ^ k % 12
def fbD (m row n : Nat) : Bool := al (fun k => tb m (dgt row k % 6) == decide (dgt row k < 6)) n 0
def gon (g : Nat → Int32) (c : Nat) : Nat := zN g c - lef g c
def fby (g T : Nat → Int32) (c row t : Nat) : Bool := fbW g c (mN T t) && fbD (mN T t) row (gon g c)
theorem fbW_e {g : Nat → Int32} {c m : Nat} (hz : ∀ k, k < zN g c → aN g c k < 10) : (hasA m (nmd g c 0) && hasN m (nmd g c 1)) = fbW g c m := by
  rw [hasA_nmd hz, hasN_nmd hz, al_and]
  unfold fbW
  apply al_congr
  intro j _ _
  by_cases q : iN g c j = 0
  · simp [q]
  · by_cases q0 : oN g c j = 0
    · simp [q, q0]
    · by_cases q1 : oN g c j = 1
      · simp [q, q1]
      · have : 2 ≤ oN g c j := by omega
        simp [q, q0, q1, this]
theorem p12 : ∀ k, k ≤ 3 → 0 < 12 ^ k ∧ 12 ^ k ≤ 1728 := by decide
theorem dv12 (row k : Nat) : row / 12 ^ k / 12 = row / 12 ^ (k + 1) := by rw [Nat.div_div_eq_div_mul, Nat.pow_succ]
theorem dv_le (row k : Nat) : row / 12 ^ k ≤ row := Nat.div_le_self _ _
theorem mo_fitsBy {N nc nt c row t : Nat} (hN : 15000 ≤ N) {m : MM} (h : MK nc nt m) (hc : c < nc) (ht : t < nt) (hr : row < 1728) (hg3 : gon (m.1 368) c ≤ 3) : f_Mo_fitsBy N (nI c) (nI row) (nI t) m = some (bI (fby (m.1 368) (m.1 362) c row t), m) := by
  have hgo := mo_gone hN h hc
  obtain ⟨hm27, hm26, hW, hT, hF, hnc, hnt⟩ := h
  obtain ⟨hz, hz1, hz6, hu, hk9⟩ := hW.1 c hc
  obtain ⟨hp, hp9, hmk, hm64⟩ := hT t ht
  have h1 := lpa (fun fu k => f_Mo_fitsBy_L3 N fu (nI c) (nI row) (nI t) (nI k) m) (zN (m.1 368) c) (fun k => decide (iN (m.1 368) c k = 0) || decide (2 ≤ oN (m.1 368) c k) || (tb (mN (m.1 362) t) (aN (m.1 368) c k) == decide (oN (m.1 368) c k = 0))) (f_Mo_fitsBy_L72 N N (nI c) (nI t) (nI row) (nI 0) m) (some (nI 0, m)) (fun fu => by
      simp (disch := omega) only [f_Mo_fitsBy_L3, mo_words n_368, ob_e, hz, nI_leI, Nat.le_refl, if_true]; rfl) (fun fu k hk => by
      obtain ⟨ho, ho3, ha, ha10, ha6, hi, hi9⟩ := hk9 k hk
      simp (disch := omega) only [f_Mo_fitsBy_L3, mo_words n_368, mo_ink n_368, mo_sort n_368, ob_e, hz, hi, ho, nI_leI, if_neg, l_0, l_1, l_2, nI_add, Nat.le_zero_eq]
      by_cases q : iN (m.1 368) c k = 0
      · simp [q]
      · by_cases q2 : 2 ≤ oN (m.1 368) c k
        · simp [q, q2]
        · rw [mo_isTrue n_368 hW hT hm27 hnc hnt hc hk ht]
          unfold tru
          simp only [q, q2, if_false, if_pos (show oN (m.1 368) c k < 2 by omega), ob_e, decide_false, Bool.false_or, bI_0]
          cases (tb (mN (m.1 362) t) (aN (m.1 368) c k) == decide (oN (m.1 368) c k = 0)) <;> rfl) (zN (m.1 368) c) 0 N (by omega) (by omega)
  have h2 := lpa (fun fu k => f_Mo_fitsBy_L72 N fu (nI c) (nI t) (nI (row / 12 ^ k)) (nI k) m) (gon (m.1 368) c) (fun k => tb (mN (m.1 362) t) (dgt row k % 6) == decide (dgt row k < 6)) (some (nI 1, m)) (some (nI 0, m)) (fun fu => by
      simp (disch := omega) only [f_Mo_fitsBy_L72, hgo.1, ob_e]
      show (if nI (gon (m.1 368) c) ≤ nI (gon (m.1 368) c) then _ else _) = _
      rw [if_pos ((nI_leI (by omega) (by omega)).mpr (Nat.le_refl _))]; rfl) (fun fu k hk => by
      have hle := dv_le row k
      have hd : row / 12 ^ k % 12 < 12 := Nat.mod_lt _ (by omega)
      have hgl : gon (m.1 368) c = zN (m.1 368) c - lef (m.1 368) c := rfl
      simp (disch := omega) only [f_Mo_fitsBy_L72, f_Mo_fitsBy_B121, hgo.1, ob_e, nI_leI, if_neg, mo_marks, hmk, l_0, l_1, l_6, l_12, pk_rem, nI_add]
      simp (disch := omega) only [mo_has, ob_e, pk_div, dv12, nI_leI]
      unfold dgt
      by_cases q : row / 12 ^ k % 12 < 6
      · rw [decide_eq_true q]
        simp (disch := omega) only [if_neg, bI_1]
        cases tb (mN (m.1 362) t) (row / 12 ^ k % 12 % 6) <;> rfl
      · rw [decide_eq_false q]
        simp (disch := omega) only [if_pos, bI_0]
        cases tb (mN (m.1 362) t) (row / 12 ^ k % 12 % 6) <;> rfl) (gon (m.1 368) c) 0 N (by omega) (by omega)
  unfold f_Mo_fitsBy
  rw [l_0]
  refine h1.trans ?_
  rw [show row / 12 ^ 0 = row from Nat.div_one row] at h2
  rw [h2]
  unfold fby fbW fbD
  cases al (fun k => decide (iN (m.1 368) c k = 0) || decide (2 ≤ oN (m.1 368) c k) || (tb (mN (m.1 362) t) (aN (m.1 368) c k) == decide (oN (m.1 368) c k = 0))) (zN (m.1 368) c) 0
  · rfl
  · cases al (fun k => tb (mN (m.1 362) t) (dgt row k % 6) == decide (dgt row k < 6)) (gon (m.1 368) c) 0 <;> rfl
def irw (g T mt mc mf : Nat → Int32) (st c row : Nat) : Bool := al (fun i => !decide (yN mc i = c) || decide (bI (fby g T c row (yN mt i)) = mf i)) st 0
/-- what is asked of what stood -/
def NN1 (st nc nt : Nat) (mt mc mf : Nat → Int32) : Prop := st ≤ 10 ∧ ∀ i, i < st → mt i = nI (yN mt i) ∧ yN mt i < nt ∧ mc i = nI (yN mc i) ∧ yN mc i < nc
theorem mo_isRow {N nc nt c row st : Nat} (hN : 15000 ≤ N) {m : MM} (h : MK nc nt m) (hs : NN1 st nc nt (m.1 371) (m.1 372) (m.1 373)) (hn : m.1 355 45 = nI st) (hc : c < nc) (hr : row < 1728) (hg3 : gon (m.1 368) c ≤ 3) : f_Mo_isRow N (nI c) (nI row) m = some (bI (irw (m.1 368) (m.1 362) (m.1 371) (m.1 372) (m.1 373) st c row), m) := by
  obtain ⟨hs10, hs9⟩ := hs
  have hnc := h.2.2.2.2.2.1
  have h1 := lpa (fun fu i => f_Mo_isRow_L2 N fu (nI c) (nI row) (nI i) m) st (fun i => !decide (yN (m.1 372) i = c) || decide (bI (fby (m.1 368) (m.1 362) c row (yN (m.1 371) i)) = m.1 373 i)) (some (nI 1, m)) (some (nI 0, m)) (fun fu => by
      simp (disch := omega) only [f_Mo_isRow_L2, hn, nI_leI, Nat.le_refl, if_true, l_1]) (fun fu i hi => by
      obtain ⟨e1, e2, e3, e4⟩ := hs9 i hi
      simp (disch := omega) only [f_Mo_isRow_L2, hn, nI_leI, if_neg, gd_in, nI_clamp, l_1, l_0, nI_add]
      rw [e3, e1]
      simp (disch := omega) only [nI_eq]
      by_cases q : yN (m.1 372) i = c
      · rw [mo_fitsBy hN h hc e2 hr hg3, ob_e]
        simp only [q, if_true, decide_true, Bool.not_true, Bool.false_or, decide_eq_true_eq]
      · simp [q]) st 0 N (by omega) (by omega)
  unfold f_Mo_isRow
  rw [l_0]
  refine h1.trans ?_
  unfold irw
  cases al _ st 0 <;> rfl
/-! the program's guesses -/
theorem LK_of {nc nt : Nat} {g T F : Nat → Int32} {μ μ' : MM} (h : LK nc nt g T F μ) (he : ∀ a, a < 34 → μ'.1 a = μ.1 a) : LK nc nt g T F μ' := by
  unfold LK at h ⊢
  rw [he 23 (by decide), he 24 (by decide), he 25 (by decide), he 26 (by decide), he 27 (by decide), he 29 (by decide), he 30 (by decide), he 31 (by decide), he 32 (by decide), he 33 (by decide)]
  exact h
theorem Rel_gu {k : Nat} {c c' m : MM} (h : Rel k c m) (he : ∀ a, a ≠ 341 → a ≠ 345 → c'.1 a = c.1 a) (h0 : c'.1 341 0 = c.1 341 0) : Rel k c' m := by
  obtain ⟨nc, nt, lg, lgI, a, nx, tl, lc, rc, st, cl, h1, h2, h3, h4, h5, h6, h7, h8, h9, h10, h11, h12, h13, h14, h15, h16, h17⟩ := h
  have h11' := HB_c h11 (c' := c'.1) (fun i _ hi => he i (by omega) (by omega))
  refine ⟨nc, nt, lg, lgI, a, nx, tl, lc, rc, st, cl, ?_⟩
  unfold RB
  rw [h0]
  simp only [he 23 (by decide) (by decide), he 24 (by decide) (by decide), he 25 (by decide) (by decide), he 26 (by decide) (by decide), he 27 (by decide) (by decide), he 29 (by decide) (by decide), he 30 (by decide) (by decide), he 31 (by decide) (by decide), he 32 (by decide) (by decide), he 33 (by decide) (by decide), he 49 (by decide) (by decide), he 51 (by decide) (by decide), he 0 (by decide) (by decide), he 347 (by decide) (by decide), he 349 (by decide) (by decide), he 350 (by decide) (by decide), he 351 (by decide) (by decide), he 352 (by decide) (by decide), he 353 (by decide) (by decide), he 354 (by decide) (by decide), he 1 (by decide) (by decide), he 2 (by decide) (by decide), he 34 (by decide) (by decide), he 37 (by decide) (by decide), he 38 (by decide) (by decide), he 39 (by decide) (by decide), he 40 (by decide) (by decide), he 41 (by decide) (by decide), he 44 (by decide) (by decide), he 45 (by decide) (by decide), he 46 (by decide) (by decide), he 342 (by decide) (by decide), he 343 (by decide) (by decide), he 344 (by decide) (by decide)]
  exact ⟨h1, h2, h3, h4, h5, h6, h7, h8, h9, h10, h11', h12, h13, h14, h15, h16, h17⟩
def GQ (c0 : MM) (g : Nat → Int32) (cd n : Nat) (μ : MM) : Prop := (∀ a, a ≠ 341 → a ≠ 345 → μ.1 a = c0.1 a) ∧ μ.1 341 0 = c0.1 341 0 ∧ μ.1 341 6 = nI cd ∧ μ.1 341 8 = nI (12 ^ n) ∧ μ.1 341 9 = nmd g cd 0 ∧ μ.1 341 10 = nmd g cd 1 ∧ μ.1 341 7 = nI n
/-- the row is laid out -/
def RQ (g : Nat → Int32) (cd n row : Nat) (μ : MM) : Prop := ∀ m, (hasA m (μ.1 341 11) && hasN m (μ.1 341 12)) = (fbW g cd m && fbD m row n)
theorem GQ_w {c0 μ : MM} {g : Nat → Int32} {cd n j : Nat} {v : Int32} (h : GQ c0 g cd n μ) (hj : 11 ≤ j) : GQ c0 g cd n (mm_I μ 341 j v) := by
  obtain ⟨h1, h2, h3, h4, h5, h6, h7⟩ := h
  refine ⟨fun a ha hb => by rw [gI_o ha]; exact h1 a ha hb, ?_, ?_, ?_, ?_, ?_, ?_⟩
  · rw [gI_s, if_neg (by omega)]; exact h2
  · rw [gI_s, if_neg (by omega)]; exact h3
  · rw [gI_s, if_neg (by omega)]; exact h4
  · rw [gI_s, if_neg (by omega)]; exact h5
  · rw [gI_s, if_neg (by omega)]; exact h6
  · rw [gI_s, if_neg (by omega)]; exact h7
theorem gu_layOut {N cd n row : Nat} {c0 μ : MM} {g : Nat → Int32} (hN : 15000 ≤ N) (h : GQ c0 g cd n μ) (hn : n ≤ 3) (hr : row < 1728) (hz : ∀ k, k < zN g cd → aN g cd k < 10) : ∃ μ', f_Gu_layOut N (nI row) μ = some μ' ∧ GQ c0 g cd n μ' ∧ RQ g cd n row μ' ∧ μ'.1 345 = μ.1 345 := by
  unfold f_Gu_layOut
  rw [wr_e, wr_e]
  have h0 : GQ c0 g cd n (mm_I (mm_I μ 341 11 (μ.1 341 9)) 341 12 ((mm_I μ 341 11 (μ.1 341 9)).1 341 10)) := GQ_w (GQ_w h (by omega)) (by omega)
  have hl := lpx (fun fu k (a : MM) => f_Gu_layOut_L20 N fu (nI (row / 12 ^ k)) (nI k) a) n (fun k a => if 6 ≤ dgt row k then mm_I a 341 12 (a.1 341 12 ||| (nI 1 <<< (nI (dgt row k - 6) &&& nI 31))) else mm_I a 341 11 (a.1 341 11 ||| (nI 1 <<< (nI (dgt row k) &&& nI 31)))) (fun a => some a) (fun k a => GQ c0 g cd n a ∧ RQ g cd k row a ∧ a.1 345 = μ.1 345) (fun fu a ha => by
      have h4 := ha.1.2.2.2.2.2.2
      simp (disch := omega) only [f_Gu_layOut_L20, h4, nI_leI, Nat.le_refl, if_true]) (fun fu k a hk ha => by
      obtain ⟨a1, a2, a3⟩ := ha
      have h4 := a1.2.2.2.2.2.2
      have hle := dv_le row k
      have hd : row / 12 ^ k % 12 < 12 := Nat.mod_lt _ (by omega)
      refine ⟨?_, ?_⟩
      · simp (disch := omega) only [f_Gu_layOut_L20, h4, nI_leI, if_neg, l_6, l_12, l_31, l_1, pk_rem, nI_add]
        simp (disch := omega) only [pk_div, dv12, nI_leI]
        unfold dgt
        by_cases q : 6 ≤ row / 12 ^ k % 12
        · simp (disch := omega) only [q, if_true, wr_e, pk_sub]
        · simp only [q, if_false, wr_e]
      · by_cases q : 6 ≤ dgt row k
        · rw [if_pos q]
          refine ⟨GQ_w a1 (by omega), fun m => ?_, by rw [gI_o (by decide)]; exact a3⟩
          have hq : dgt row k < 12 := hd
          rw [gI_s, gI_s, if_neg (by omega), if_pos rfl, hasN_or, hasN_1 (by omega), ← Bool.and_assoc, a2 m, Bool.and_assoc]
          unfold fbD
          rw [al_snoc, Nat.zero_add, decide_eq_false (show ¬ dgt row k < 6 by omega), show dgt row k % 6 = dgt row k - 6 by omega]
          cases tb m (dgt row k - 6) <;> simp
        · rw [if_neg q]
          refine ⟨GQ_w a1 (by omega), fun m => ?_, by rw [gI_o (by decide)]; exact a3⟩
          rw [gI_s, gI_s, if_pos rfl, if_neg (by omega), hasA_or, hasA_1 (by omega)]
          unfold fbD
          rw [al_snoc, Nat.zero_add, decide_eq_true (show dgt row k < 6 by omega), show dgt row k % 6 = dgt row k by omega]
          have := a2 m
          unfold fbD at this
          rw [← Bool.and_assoc, ← this]
          cases hasA m (a.1 341 11) <;> cases hasN m (a.1 341 12) <;> cases tb m (dgt row k) <;> rfl) n 0 N _ (by omega) (by omega) ⟨h0, fun m => ?_, ?_⟩
  · obtain ⟨A, e1, e2, e3, e4⟩ := hl
    rw [show row / 12 ^ 0 = row from Nat.div_one row] at e1
    exact ⟨A, e1, e2, e3, e4⟩
  · have e8 := h.2.2.2.2.1
    have e9 := h.2.2.2.2.2.1
    simp only [gI]
    simp [e8, e9, fbW_e hz, fbD, al]
  · rw [gI_o (by decide), gI_o (by decide)]
theorem gu_would {N nc nt t : Nat} {g T F : Nat → Int32} {μ : MM} (h : LK nc nt g T F μ) (ht : t < nt) : f_Gu_wouldFit N (nI t) μ = some (bI (hasA (mN T t) (μ.1 341 11) && hasN (mN T t) (μ.1 341 12)), μ) := by
  have hB := co_isThing_t (N := N) h.1 ht
  obtain ⟨⟨h1, h0, hnc, hnt, hpm, hf⟩, -, -, hT, -⟩ := h
  obtain ⟨hp, hp9, hmk, hm64⟩ := hT t ht
  unfold f_Gu_wouldFit hasA hasN
  rw [hB, ob_e]
  simp (disch := omega) only [l_0, l_1, nI_eq, if_neg, gd_in, nI_clamp, (hpm t ht).2, hmk]
  by_cases q : nI (mN T t) &&& μ.1 341 11 = μ.1 341 11
  · by_cases q2 : nI (mN T t) &&& μ.1 341 12 = nI 0
    · simp only [q, q2, if_true, decide_true, Bool.and_self]; rfl
    · simp only [q, q2, if_true, if_false, decide_true, decide_false, Bool.and_false]; rfl
  · simp only [q, if_false, decide_false, Bool.false_and]; rfl
theorem gu_would2 {N nc nt t cd n row : Nat} {g T F : Nat → Int32} {μ : MM} (h : LK nc nt g T F μ) (hr : RQ g cd n row μ) (hn : n = gon g cd) (ht : t < nt) : f_Gu_wouldFit N (nI t) μ = some (bI (fby g T cd row t), μ) := by
  rw [gu_would h ht, hr]
  subst hn
  rfl
theorem gu_isRow {N nc nt cd n row st : Nat} {c0 μ : MM} {g T F mt mc mf : Nat → Int32} (hN : 15000 ≤ N) (hL : LK nc nt g T F c0) (h : GQ c0 g cd n μ) (hn : n ≤ 3) (hng : n = gon g cd) (hcd : cd < nc) (hr : row < 1728) (hs : NN1 st nc nt mt mc mf) (hc1 : c0.1 341 0 = nI st) (hc2 : ∀ i, i < st → c0.1 342 i = mt i ∧ c0.1 343 i = mc i ∧ c0.1 344 i = mf i) : ∃ μ', f_Gu_isRow N (nI row) μ = some (bI (irw g T mt mc mf st cd row), μ') ∧ GQ c0 g cd n μ' ∧ RQ g cd n row μ' ∧ μ'.1 345 = μ.1 345 := by
  have hz : ∀ k, k < zN g cd → aN g cd k < 10 := fun k hk => ((hL.2.2.1.1 cd hcd).2.2.2.2 k hk).2.2.2.1
  obtain ⟨μ', e1, e2, e3, e4⟩ := gu_layOut hN h hn hr hz
  refine ⟨μ', ?_, e2, e3, e4⟩
  unfold f_Gu_isRow
  rw [e1, obv_e]
  obtain ⟨hs10, hs9⟩ := hs
  have hnc := hL.1.2.2.1
  have hL2 : LK nc nt g T F μ' := LK_of hL (fun a ha => e2.1 a (by omega) (by omega))
  have g0 : μ'.1 341 0 = nI st := e2.2.1.trans hc1
  have h6 := e2.2.2.1
  have h1 := lpa (fun fu i => f_Gu_isRow_L7 N fu (nI i) μ') st (fun i => !decide (yN mc i = cd) || decide (bI (fby g T cd row (yN mt i)) = mf i)) (some (nI 1, μ')) (some (nI 0, μ')) (fun fu => by
      simp (disch := omega) only [f_Gu_isRow_L7, g0, nI_leI, Nat.le_refl, if_true, l_1]) (fun fu i hi => by
      obtain ⟨t1, t2, t3, t4⟩ := hs9 i hi
      obtain ⟨u1, u2, u3⟩ := hc2 i hi
      simp (disch := omega) only [f_Gu_isRow_L7, g0, h6, nI_leI, if_neg, gd_in, nI_clamp, l_1, l_0, nI_add]
      rw [e2.1 343 (by decide) (by decide), e2.1 342 (by decide) (by decide), u1, u2, t3, t1]
      simp (disch := omega) only [nI_eq]
      by_cases q : yN mc i = cd
      · rw [gu_would2 hL2 e3 hng t2, ob_e, e2.1 344 (by decide) (by decide), u3]
        simp only [q, if_true, decide_true, Bool.not_true, Bool.false_or, decide_eq_true_eq]
      · simp [q]) st 0 N (by omega) (by omega)
  rw [l_0]
  refine h1.trans ?_
  unfold irw
  cases al _ st 0 <;> rfl
/-! the card is aimed at -/
theorem gu_aim_f {N nc nt : Nat} {x : Int32} {μ : MM} {p m f T F : Nat → Int32} (hC : CC nc nt (μ.1 23) p m f T F) (hx : x < 0 ∨ nI nc ≤ x) : f_Gu_aim N x μ = some (nI 0, μ) := by
  unfold f_Gu_aim
  rw [co_isCard_f hC hx, ob_e]
  rfl
theorem gu_aim_g {N nc nt cd : Nat} (hN : 15000 ≤ N) {μ : MM} {g T F : Nat → Int32} (h : LK nc nt g T F μ) (hc : cd < nc) (h3 : 3 < gon g cd) : ∃ μ', f_Gu_aim N (nI cd) μ = some (nI 0, μ') ∧ (∀ a, a ≠ 341 → a ≠ 345 → μ'.1 a = μ.1 a) ∧ μ'.1 341 0 = μ.1 341 0 := by
  have hA := co_isCard_t (N := N) h.1 hc
  obtain ⟨q1, q2⟩ := co_leftIn hN h hc
  have hnc := h.1.2.2.1
  obtain ⟨hz, hz1, hz6, -⟩ := h.2.2.1.1 cd hc
  obtain ⟨e1, -⟩ := h.2.1.1 cd hc
  have hgo : zN g cd - lef g cd = gon g cd := rfl
  have h3' : ¬ gon g cd ≤ 3 := by omega
  refine ⟨mm_I μ 341 7 (nI (gon g cd)), ?_, fun a h1 _ => gI_o h1, by rw [gI_s, if_neg (by omega)]⟩
  have hle : gon g cd ≤ 6 := by omega
  unfold f_Gu_aim
  rw [hA, ob_e]
  simp (disch := omega) only [l_0, l_1, l_3, nI_eq, if_neg, gd_in, nI_clamp, q1, ob_e, e1, hz, pk_sub, hgo, wr_e, gI_s, if_true, nI_leI]
theorem gu_aim_t {N nc nt cd : Nat} (hN : 15000 ≤ N) {μ : MM} {g T F : Nat → Int32} (h : LK nc nt g T F μ) (hc : cd < nc) (h3 : gon g cd ≤ 3) : ∃ μ', f_Gu_aim N (nI cd) μ = some (nI 1, μ') ∧ GQ μ g cd (gon g cd) μ' := by
  have hA := co_isCard_t (N := N) h.1 hc
  obtain ⟨q1, q2⟩ := co_leftIn hN h hc
  have hnc := h.1.2.2.1
  obtain ⟨hz, hz1, hz6, -⟩ := h.2.2.1.1 cd hc
  obtain ⟨e1, -⟩ := h.2.1.1 cd hc
  have hgo : zN g cd - lef g cd = gon g cd := rfl
  have hL0 : LK nc nt g T F (mm_I μ 341 7 (nI (gon g cd))) := LK_of h (fun a ha => gI_o (by omega))
  have hL1 : LK nc nt g T F (mm_I (mm_I μ 341 7 (nI (gon g cd))) 341 6 (nI cd)) := LK_of hL0 (fun a ha => gI_o (by omega))
  have hL2 : LK nc nt g T F (mm_I (mm_I (mm_I μ 341 7 (nI (gon g cd))) 341 6 (nI cd)) 341 9 (nmd g cd 0)) := LK_of hL1 (fun a ha => gI_o (by omega))
  have hl := lpx (fun fu k (a : MM) => f_Gu_aim_L82 N fu (nI k) a) (gon g cd) (fun k a => mm_I a 341 8 (nI (12 ^ (k + 1)))) (fun a => some (nI 1, a)) (fun k a => (∀ x, x ≠ 341 → x ≠ 345 → a.1 x = μ.1 x) ∧ a.1 341 0 = μ.1 341 0 ∧ a.1 341 6 = nI cd ∧ a.1 341 8 = nI (12 ^ k) ∧ a.1 341 9 = nmd g cd 0 ∧ a.1 341 10 = nmd g cd 1 ∧ a.1 341 7 = nI (gon g cd)) (fun fu a ha => by
      have a7 := ha.2.2.2.2.2.2
      simp (disch := omega) only [f_Gu_aim_L82, a7, nI_leI, Nat.le_refl, if_true, l_1]) (fun fu k a hk ha => by
      obtain ⟨a1, a2, a3, a4, a5, a6, a7⟩ := ha
      refine ⟨?_, fun x h1 h2 => by rw [gI_o h1]; exact a1 x h1 h2, ?_, ?_, ?_, ?_, ?_, ?_⟩
      · simp (disch := omega) only [f_Gu_aim_L82, a7, nI_leI, if_neg, a4, l_12, pk_mul, wr_e, l_1, nI_add]
        rfl
      · rw [gI_s, if_neg (by omega)]; exact a2
      · rw [gI_s, if_neg (by omega)]; exact a3
      · rw [gI_s, if_pos rfl]
      · rw [gI_s, if_neg (by omega)]; exact a5
      · rw [gI_s, if_neg (by omega)]; exact a6
      · rw [gI_s, if_neg (by omega)]; exact a7) (gon g cd) 0 N (mm_I (mm_I (mm_I (mm_I (mm_I μ 341 7 (nI (gon g cd))) 341 6 (nI cd)) 341 9 (nmd g cd 0)) 341 10 (nmd g cd 1)) 341 8 (nI 1)) (by omega) (by omega) ⟨fun x h1 h2 => by rw [gI_o h1, gI_o h1, gI_o h1, gI_o h1, gI_o h1], by simp [gI], by simp [gI], by simp [gI], by simp [gI], by simp [gI], by simp [gI]⟩
  obtain ⟨A, b1, b2⟩ := hl
  refine ⟨A, ?_, b2⟩
  unfold f_Gu_aim
  rw [hA, ob_e]
  simp (disch := omega) only [l_0, l_1, l_3, nI_eq, if_neg, if_pos, gd_in, nI_clamp, q1, ob_e, e1, hz, pk_sub, hgo, wr_e, gI_s, if_true, nI_leI]
  rw [co_named hN (by decide) hL1 hc, ob_e, co_named hN (by decide) hL2 hc, ob_e]
  exact b1
theorem rows12 : ∀ n, n ≤ 3 → (if nI n = 0 then (1 : Int32) else (if nI n = 1 then (12 : Int32) else (if nI n = 2 then (144 : Int32) else 1728))) = nI (12 ^ n) := by decide
theorem mo_rows {N n : Nat} {μ : MM} (hn : n ≤ 3) : f_Mo_rowsOf N (nI n) μ = some (nI (12 ^ n), μ) := by
  unfold f_Mo_rowsOf
  rw [rows12 n hn]
theorem mo_canAsk_f {N nc : Nat} {x : Int32} {μ : MM} (hm : μ.1 355 27 = nI nc) (hx : x < 0 ∨ nI nc ≤ x) : f_Mo_canAsk N x μ = some (nI 0, μ) := by
  unfold f_Mo_canAsk
  rw [mo_isCard_f hm hx, ob_e]
  rfl
theorem mo_canAsk {N nc nt cd : Nat} (hN : 15000 ≤ N) {m : MM} (h : MK nc nt m) (hc : cd < nc) : f_Mo_canAsk N (nI cd) m = some (bI (decide (gon (m.1 368) cd ≤ 3)), m) := by
  obtain ⟨q1, q2⟩ := mo_gone hN h hc
  obtain ⟨hm27, hm26, hW, hT, hF, hnc, hnt⟩ := id h
  obtain ⟨hz, hz1, hz6, -⟩ := hW.1 cd hc
  unfold f_Mo_canAsk gon
  rw [mo_isCard_t hm27 hnc hc, ob_e, q1, ob_e]
  simp (disch := omega) only [l_0, l_1, l_3, nI_eq, if_neg, nI_ltI]
  by_cases q : zN (m.1 368) cd - lef (m.1 368) cd ≤ 3
  · rw [if_neg (by omega), decide_eq_true q]; rfl
  · rw [if_pos (by omega), decide_eq_false q]; rfl
/-- the two sides asked about a card -/
theorem ask_2 {k : Nat} {c m : MM} (h : Rel k c m) : ∃ nc nt st, LK nc nt (m.1 368) (m.1 362) (m.1 365) c ∧ MK nc nt m ∧ NN1 st nc nt (m.1 371) (m.1 372) (m.1 373) ∧ c.1 341 0 = nI st ∧ m.1 355 45 = nI st ∧ ∀ i, i < st → c.1 342 i = m.1 371 i ∧ c.1 343 i = m.1 372 i ∧ c.1 344 i = m.1 373 i := by
  obtain ⟨nc, nt, lg, lgI, a, nx, tl, lc, rc, st, cl, h1, h2, h3, h4, h5, h6, h7, h8, h9, h10, h11, h12, h13, h14, h15, ⟨n1, n2, n3, n4⟩, h17⟩ := h
  exact ⟨nc, nt, st, ⟨h1, h5, h6, h3, h4⟩, ⟨h2.1, h2.2, h6, h3, h4, h1.2.2.1, h1.2.2.2.1⟩, ⟨n1, fun i hi => ⟨(n4 i hi).2.1, (n4 i hi).2.2.1, (n4 i hi).2.2.2.2.1, (n4 i hi).2.2.2.2.2.1⟩⟩, n2, n3, fun i hi => ⟨(n4 i hi).1, (n4 i hi).2.2.2.1, (n4 i hi).2.2.2.2.2.2.1⟩⟩
