/-! ===== the program gets ready: masks ===== -/
theorem bits_bt {p : Nat → Bool} {i : Nat} (hi : i < 32) : ∀ n, n ≤ 32 → bt (bits p n) i = (decide (i < n) && p i) := by
  intro n
  induction n with
  | zero => intro _; show bt (nI 0) i = _; rw [show nI 0 = (0 : Int32) from rfl, b_0]; simp
  | succ n ih =>
    intro hn
    have e : bits p (n + 1) = if p (0 + n) = true then bits p n ||| (nI 1 <<< (nI (0 + n) &&& nI 31)) else bits p n := fo_succ _ n 0 _
    rw [e, Nat.zero_add]
    have h1 := ih (by omega)
    by_cases q : i = n
    · subst q
      cases hp : p i
      · rw [if_neg (by simp), h1]; simp [hp]
      · rw [if_pos rfl, b_put (by omega) hi]; simp
    · cases hp : p n
      · rw [if_neg (by simp), h1]
        rw [show decide (i < n + 1) = decide (i < n) from decide_eq_decide.mpr (by omega)]
      · rw [if_pos rfl, b_put (by omega) hi, h1, decide_eq_false (show ¬ n = i from fun e => q e.symm), Bool.or_false]
        rw [show decide (i < n + 1) = decide (i < n) from decide_eq_decide.mpr (by omega)]
theorem bt_off {x : Int32} {k i : Nat} (hk : k < 32) (hi : i < 32) : bt (x &&& ((nI 1 <<< (nI k &&& nI 31)) ^^^ -nI 1)) i = (bt x i && !decide (i = k)) := by
  rw [b_and, b_not hi, bt_1 hk hi]
theorem bt_0 {x : Int32} (h : ∀ i, i < 32 → bt x i = false) : x = nI 0 := b_ext (fun i hi => by rw [h i hi, show nI 0 = (0 : Int32) from rfl, b_0])
def mt_pr (T : Nat → Int32) (t : Nat) : Nat := min (pN T t) 9
theorem mt_pr9 (T : Nat → Int32) (t : Nat) : mt_pr T t ≤ 9 := Nat.min_le_right _ _
theorem ma_alike {N nc nt t : Nat} (hN : 15000 ≤ N) {g T F : Nat → Int32} {μ : MM} (h : LK nc nt g T F μ) (ht : t < nt) : f_Ma_alikeThings N (nI t) μ = some (bits (mt_AL T t) nt, μ) := by
  obtain ⟨⟨h1, h0, hnc, hnt, hpm, hf⟩, -, -, hT, -⟩ := h
  obtain ⟨-, -, et, et2⟩ := hT t ht
  refine bitsL (fun fu x k μ => f_Ma_alikeThings_L4 N fu (nI t) x k μ) (mt_AL T t) (n := nt) (by omega) (fun fu x => ?_) (fun fu k x hk => ?_)
  · simp (disch := omega) only [f_Ma_alikeThings_L4, h0, nI_leI, Nat.le_refl, if_true]
  · obtain ⟨-, -, ek, ek2⟩ := hT k hk
    simp (disch := omega) only [f_Ma_alikeThings_L4, h0, nI_leI, if_neg, nI_eq, gd_in, nI_clamp, (hpm t ht).2, (hpm k hk).2, et, ek, l_0, l_1, l_31, nI_add, and_0]
    unfold mt_AL
    by_cases q : k = t
    · simp [q]
    · simp only [if_neg q, decide_eq_false q]
      by_cases q2 : mN T t &&& mN T k = 0
      · simp [q2]
      · simp [q2]
theorem ma_able {N nc nt c : Nat} (hN : 15000 ≤ N) {g T F : Nat → Int32} {μ : MM} (h : LK nc nt g T F μ) (hc : c < nc) (y : Bool) : f_Ma_ableThings N (nI c) (bI y) μ = some (bits (fun t => hasA (mN T t) (nmd g c 0) && hasN (mN T t) (nmd g c 1) && !(y && decide (mN T t = 0))) nt, μ) := by
  unfold f_Ma_ableThings
  rw [l_0, l_1, co_named hN (by decide) h hc, ob_e, co_named hN (by decide) h hc, ob_e]
  obtain ⟨⟨h1, h0, hnc, hnt, hpm, hf⟩, -, -, hT, -⟩ := h
  refine bitsL (fun fu x k μ => f_Ma_ableThings_L39 N fu (bI y) (nmd g c 0) (nmd g c 1) x k μ) (fun t => hasA (mN T t) (nmd g c 0) && hasN (mN T t) (nmd g c 1) && !(y && decide (mN T t = 0))) (n := nt) (by omega) (fun fu x => ?_) (fun fu k x hk => ?_)
  · simp (disch := omega) only [f_Ma_ableThings_L39, h0, nI_leI, Nat.le_refl, if_true]
  · obtain ⟨-, -, ek, ek2⟩ := hT k hk
    simp (disch := omega) only [f_Ma_ableThings_L39, f_Ma_ableThings_B88, h0, nI_leI, if_neg, gd_in, nI_clamp, (hpm k hk).2, ek, l_0, l_1, l_31, nI_add, bI_0, nI_eq]
    unfold hasA hasN
    by_cases q1 : nI (mN T k) &&& nmd g c 0 = nmd g c 0
    · by_cases q2 : nI (mN T k) &&& nmd g c 1 = nI 0
      · cases y
        · simp [q1, q2]
        · by_cases q3 : mN T k = 0
          · simp [q3]
          · simp [q1, q2, q3]
      · simp [q1, q2]
    · simp [q1]
theorem ma_linked {N nc : Nat} (hN : 15000 ≤ N) (hnc : nc ≤ 6) {LI : Nat → Nat → Bool} {μ : MM} (hLI : ∀ c, c < nc → ∀ o, o < nc → bt (μ.1 336 c) o = LI c o) {c : Nat} (hc : c < nc) : f_Ma_linkedAhead N (nI c) μ = some (bits (fun a => LI c a || LI a c) c, μ) := by
  refine bitsL (fun fu x k μ => f_Ma_linkedAhead_L4 N fu (nI c) x k μ) (fun a => LI c a || LI a c) (n := c) (by omega) (fun fu x => ?_) (fun fu k x hk => ?_)
  · simp (disch := omega) only [f_Ma_linkedAhead_L4, nI_leI, Nat.le_refl, if_true]
  · have e1 := hLI c hc k (by omega)
    have e2 := hLI k (by omega) c hc
    simp (disch := omega) only [f_Ma_linkedAhead_L4, f_Ma_linkedAhead_B37, nI_leI, if_neg, gd_in, nI_clamp, l_1, l_31, nI_add, bq_1, e1, e2]
    cases LI c k <;> cases LI k c <;> simp
/-- what stands while the program gets ready -/
def PX (μ0 μ : MM) : Prop := μ.2 = μ0.2 ∧ ∀ a, a < 334 ∨ 339 < a → μ.1 a = μ0.1 a
def P4 (nc nt : Nat) (g T : Nat → Int32) (c : Nat) (x : Int32) : Prop := (∀ t, t < 32 → bt x t = true → t < nt ∧ mt_BA g T nc c t = true) ∧ ∀ s, mt_ok nt s nc → mt_V nc (mt_BA g T nc) (mt_LI g nc) (mt_AL T) s → ¬ s c = 9 → bt x (s c) = true
def PI (nc nt : Nat) (g T : Nat → Int32) (b : Nat → Nat) (k : Nat) (μ0 μ : MM) : Prop := PX μ0 μ ∧ (∀ t, t < nt → ∀ o, o < nt → bt (μ.1 334 t) o = mt_AL T t o) ∧ SO (mt_pr T) b nt (μ.1 335) ∧ (∀ c, c < k → ∀ o, o < nc → bt (μ.1 336 c) o = mt_LI g nc c o) ∧ ∀ c, c < k → P4 nc nt g T c (μ.1 338 c)
theorem PI_nar {nc nt : Nat} {g T : Nat → Int32} {b : Nat → Nat} {μ0 μ : MM} (hnc : nc ≤ 6) (hnt : nt ≤ 8) (h : PI nc nt g T b nc μ0 μ) {c o t : Nat} (hc : c < nc) (ho : o < nc) (ht : t < nt) (hl : mt_LI g nc c o = true) (hz : μ.1 334 t &&& μ.1 338 o = nI 0) : PI nc nt g T b nc μ0 (mm_I μ 338 c (μ.1 338 c &&& ((nI 1 <<< (nI t &&& nI 31)) ^^^ -nI 1))) := by
  obtain ⟨⟨e1, e2⟩, e3, e4, e5, e6⟩ := h
  refine ⟨⟨e1, fun a ha => by rw [gI_o (by omega)]; exact e2 a ha⟩, by rw [gI_o (by decide)]; exact e3, by rw [gI_o (by decide)]; exact e4, by rw [gI_o (by decide)]; exact e5, fun i hi => ?_⟩
  rw [gI_s]
  by_cases q : i = c
  · subst q
    rw [if_pos rfl]
    refine ⟨fun u hu hb => ?_, fun s hs hv h9 => ?_⟩
    · rw [bt_off (by omega) hu, Bool.and_eq_true] at hb
      exact (e6 i hi).1 u hu hb.1
    · have hsi := (hs.1 i hi).resolve_right h9
      rw [bt_off (by omega) (by omega), (e6 i hi).2 s hs hv h9, Bool.true_and]
      by_cases e : s i = t
      · exfalso
        obtain ⟨l1, l2⟩ := (hv i hi h9).2 o ho hl
        have hso := (hs.1 o ho).resolve_right l1
        have b1 := e3 t ht (s o) hso
        have b2 := (e6 o ho).2 s hs hv l1
        rw [← e, l2] at b1
        have := b_and (μ.1 334 t) (μ.1 338 o) (s o)
        rw [hz, show nI 0 = (0 : Int32) from rfl, b_0, ← e, b1, b2] at this
        cases this
      · rw [decide_eq_false e]; rfl
  · rw [if_neg q]; exact e6 i hi
theorem ma_narrow {N nc nt : Nat} (hN : 15000 ≤ N) (hnc : nc ≤ 6) (hnt : nt ≤ 8) {g T : Nat → Int32} {b : Nat → Nat} {μ0 μ : MM} (h1 : μ0.1 23 1 = nI nc) (h0 : μ0.1 23 0 = nI nt) (h : PI nc nt g T b nc μ0 μ) {c : Nat} (hc : c < nc) : ∃ μ', f_Ma_narrow N (nI c) μ = some μ' ∧ PI nc nt g T b nc μ0 μ' := by
  refine lpE (fun fu o μ1 => f_Ma_narrow_L2 N fu (nI c) (nI o) μ1) nc (fun _ μ1 => PI nc nt g T b nc μ0 μ1) (fun y => ∃ μ', y = some μ' ∧ PI nc nt g T b nc μ0 μ') (fun fu μ1 hp => ?_) (fun fu o μ1 ho hp => Or.inl ?_) nc 0 N μ (by omega) (by omega) h
  · rw [f_Ma_narrow_L2, hp.1.2 23 (by omega), h1, if_pos (nI_le (Nat.le_refl _) (by omega))]
    exact ⟨μ1, rfl, hp⟩
  · rw [f_Ma_narrow_L2, hp.1.2 23 (by omega), h1, if_neg (nI_ge ho (by omega)), gd_in (by omega) (by omega), nI_clamp (by omega), l_31, l_1]
    simp (disch := omega) only [bq_1, hp.2.2.2.1 c hc o ho, nI_add]
    cases hl : mt_LI g nc c o
    · rw [if_neg (by simp)]; exact ⟨μ1, rfl, hp⟩
    · rw [if_pos rfl, l_0]
      refine lpE (fun fu2 t μ2 => f_Ma_narrow_L29 N (f_Ma_narrow_L2 N fu) fu2 (nI c) (nI o) (nI t) μ2) nt (fun _ μ2 => PI nc nt g T b nc μ0 μ2) (fun y => ∃ a', y = f_Ma_narrow_L2 N fu (nI c) (nI (o + 1)) a' ∧ PI nc nt g T b nc μ0 a') (fun fu2 μ2 hp2 => ?_) (fun fu2 t μ2 ht hp2 => Or.inl ?_) nt 0 N μ1 (by omega) (by omega) hp
      · rw [f_Ma_narrow_L29, hp2.1.2 23 (by omega), h0, if_pos (nI_le (Nat.le_refl _) (by omega)), l_1, nI_add]
        exact ⟨μ2, rfl, hp2⟩
      · rw [f_Ma_narrow_L29, hp2.1.2 23 (by omega), h0, if_neg (nI_ge ht (by omega)), gd_in (by omega) (by omega), gd_in (by omega) (by omega), nI_clamp (by omega), nI_clamp (by omega), l_0]
        by_cases hz : μ2.1 334 t &&& μ2.1 338 o = nI 0
        · rw [if_pos hz, gd_in (by omega) (by omega), gd_in (by omega) (by omega), nI_clamp (by omega), wr_e, l_1, nI_add, l_31]
          exact ⟨_, rfl, PI_nar hnc hnt hp2 hc ho ht hl hz⟩
        · rw [if_neg hz, l_1, nI_add]
          exact ⟨μ2, rfl, hp2⟩
