/-! ===== what fits, for things laid under cards in thought ===== -/
def mt_tru (g T : Nat → Int32) (nc : Nat) (s : Nat → Nat) (c k t : Nat) : Bool :=
  if oN g c k < 2 then (tb (mN T t) (aN g c k) == decide (oN g c k = 0))
  else if aN g c k = c then decide (¬ mN T t = 0)
  else if nc ≤ aN g c k then false
  else if s (aN g c k) = 9 then false
  else decide (¬ mN T t &&& mN T (s (aN g c k)) = 0)
def mt_fit (g T : Nat → Int32) (nc : Nat) (s : Nat → Nat) (c t : Nat) : Bool := al (fun k => decide (iN g c k = 0) || mt_tru g T nc s c k t) (zN g c) 0
def mt_Vb (g T : Nat → Int32) (nc : Nat) (s : Nat → Nat) : Bool := al (fun k => decide (s k = 9) || mt_fit g T nc s k (s k)) nc 0
/-- a row that differs from another one in what lies under the cards alone -/
def TQ (nc : Nat) (g g' : Nat → Int32) : Prop := ∀ k, k < 304 → (∀ c, c < nc → ¬ k = 20 * c) → g' k = g k
theorem TQ_w {nc nt : Nat} {g g' : Nat → Int32} (hw : RW nc nt g) (hnc : nc ≤ 6) (h : TQ nc g g') (hu : ∀ c, c < nc → g' (20 * c) = -nI 1 ∨ ∃ t, t < nt ∧ g' (20 * c) = nI t) (hnt : nt ≤ 8) : RW nc nt g' := by
  obtain ⟨h1, h2, h3, h4, h5, h6, h7⟩ := hw
  have e120 : g' 120 = g 120 := h 120 (by omega) (fun c hc => by omega)
  have e121 : g' 121 = g 121 := h 121 (by omega) (fun c hc => by omega)
  have e122 : g' 122 = g 122 := h 122 (by omega) (fun c hc => by omega)
  refine ⟨fun c hc => ?_, ?_, ?_, ?_, ?_, ?_, ?_⟩
  · obtain ⟨hz, hz1, hz6, -, hk9⟩ := h1 c hc
    have ez : g' (20 * c + 1) = g (20 * c + 1) := h _ (by omega) (fun c' _ => by omega)
    have ez2 : zN g' c = zN g c := by unfold zN; rw [ez]
    rw [ez, ez2]
    refine ⟨hz, hz1, hz6, ?_, fun k hk => ?_⟩
    · rcases hu c hc with q | ⟨t, q1, q2⟩
      · exact Or.inl q
      · refine Or.inr ?_
        have : uT g' c = t := by unfold uT; rw [q2, nI_clamp (by omega)]
        rw [this]; exact ⟨q2, q1⟩
    · have eo : g' (20 * c + 2 + 3 * k) = g (20 * c + 2 + 3 * k) := h _ (by omega) (fun c' _ => by omega)
      have ea : g' (20 * c + 3 + 3 * k) = g (20 * c + 3 + 3 * k) := h _ (by omega) (fun c' _ => by omega)
      have ei : g' (20 * c + 4 + 3 * k) = g (20 * c + 4 + 3 * k) := h _ (by omega) (fun c' _ => by omega)
      have eo2 : oN g' c k = oN g c k := by unfold oN; rw [eo]
      have ea2 : aN g' c k = aN g c k := by unfold aN; rw [ea]
      have ei2 : iN g' c k = iN g c k := by unfold iN; rw [ei]
      rw [eo, ea, ei, eo2, ea2, ei2]
      exact hk9 k hk
  · rw [e120]; unfold liN; rw [e120]; exact h2
  · unfold liN; rw [e120]; exact h3
  · rw [e121]; unfold moN; rw [e121]; exact h4
  · unfold moN; rw [e121]; exact h5
  · rw [e122]; unfold dyN; rw [e122]; exact h6
  · unfold dyN; rw [e122]; exact h7
theorem vI_m {v : Nat} (h : v < 8 ∨ v = 9) : (vI v = -nI 1) = (v = 9) := by
  by_cases q : v = 9
  · subst q; rw [vI_9]; simp
  · rw [vI_n q, m_eq (by omega)]; simp [q]
theorem TQ_f {nc nt : Nat} {g g' T : Nat → Int32} {s : Nat → Nat} (hw : RW nc nt g) (hnc : nc ≤ 6) (hnt : nt ≤ 8) (h : TQ nc g g') (hs : ∀ i, i < nc → g' (20 * i) = vI (s i) ∧ (s i < nt ∨ s i = 9)) {c t : Nat} (hc : c < nc) : fit g' T nc c t = mt_fit g T nc s c t := by
  obtain ⟨hz, hz1, hz6, -, hk9⟩ := hw.1 c hc
  have ez : zN g' c = zN g c := by unfold zN; rw [h _ (by omega) (fun c' _ => by omega)]
  unfold fit mt_fit
  rw [ez]
  refine al_congr (fun k _ hk => ?_)
  obtain ⟨ho, ho3, ha, ha10, ha6, hi, hi9⟩ := hk9 k (by omega)
  have eo2 : oN g' c k = oN g c k := by unfold oN; rw [h _ (by omega) (fun c' _ => by omega)]
  have ea2 : aN g' c k = aN g c k := by unfold aN; rw [h _ (by omega) (fun c' _ => by omega)]
  have ei2 : iN g' c k = iN g c k := by unfold iN; rw [h _ (by omega) (fun c' _ => by omega)]
  unfold tru mt_tru
  rw [eo2, ea2, ei2]
  by_cases q : nc ≤ aN g c k
  · rw [if_pos q, if_pos q]
  · rw [if_neg q, if_neg q]
    obtain ⟨e1, e2⟩ := hs (aN g c k) (by omega)
    rw [e1]
    simp only [vI_m (show s (aN g c k) < 8 ∨ s (aN g c k) = 9 by omega)]
    by_cases q9 : s (aN g c k) = 9
    · rw [if_pos q9, if_pos q9]
    · have : uT g' (aN g c k) = s (aN g c k) := by unfold uT; rw [e1, vI_n q9, nI_clamp (by omega)]
      rw [if_neg q9, if_neg q9, this]
/-- the bits of named words -/
theorem nmd_bt {g : Nat → Int32} {c s i : Nat} (hi : i < 32) (ha : ∀ k, k < zN g c → aN g c k < 10) : bt (nmd g c s) i = true ↔ ∃ k, k < zN g c ∧ ¬ iN g c k = 0 ∧ oN g c k = s ∧ aN g c k = i := by
  have : ∀ n, n ≤ zN g c → (bt (fo (fun k x => if iN g c k = 0 then x else if oN g c k = s then x ||| (nI 1 <<< (nI (aN g c k) &&& nI 31)) else x) n 0 (nI 0)) i = true ↔ ∃ k, k < n ∧ ¬ iN g c k = 0 ∧ oN g c k = s ∧ aN g c k = i) := by
    intro n
    induction n with
    | zero =>
      intro _
      rw [fo, show nI 0 = (0 : Int32) from rfl, b_0]
      constructor
      · intro h; cases h
      · rintro ⟨k, h, _⟩; omega
    | succ n ih =>
      intro hn
      rw [fo_succ, Nat.zero_add]
      have h1 := ih (by omega)
      have h10 := ha n (by omega)
      by_cases q : iN g c n = 0
      · rw [if_pos q, h1]
        constructor
        · rintro ⟨k, k1, k2⟩; exact ⟨k, by omega, k2⟩
        · rintro ⟨k, k1, k2, k3⟩
          by_cases e : k = n
          · subst e; exact absurd q k2
          · exact ⟨k, by omega, k2, k3⟩
      · rw [if_neg q]
        by_cases q2 : oN g c n = s
        · rw [if_pos q2, b_put (by omega) hi, Bool.or_eq_true, h1, decide_eq_true_eq]
          constructor
          · rintro (⟨k, k1, k2⟩ | e)
            · exact ⟨k, by omega, k2⟩
            · exact ⟨n, by omega, q, q2, e⟩
          · rintro ⟨k, k1, k2, k3, k4⟩
            by_cases e : k = n
            · subst e; exact Or.inr k4
            · exact Or.inl ⟨k, by omega, k2, k3, k4⟩
        · rw [if_neg q2, h1]
          constructor
          · rintro ⟨k, k1, k2⟩; exact ⟨k, by omega, k2⟩
          · rintro ⟨k, k1, k2, k3, k4⟩
            by_cases e : k = n
            · subst e; exact absurd k3 q2
            · exact ⟨k, by omega, k2, k3, k4⟩
  exact this (zN g c) (Nat.le_refl _)
def mt_lost (g : Nat → Int32) (nc c : Nat) : Bool := decide (¬ nmd g c 2 >>> (nI nc &&& nI 31) = nI 0)
theorem lost_i {g : Nat → Int32} {nc c : Nat} (hnc : nc ≤ 6) (ha : ∀ k, k < zN g c → aN g c k < 10) : mt_lost g nc c = false ↔ ∀ i, nc ≤ i → i < 32 → bt (nmd g c 2) i = false := by
  unfold mt_lost
  rw [decide_eq_false_iff_not, Decidable.not_not]
  constructor
  · intro h i h1 h2
    have h3 := b_sshr nc (by omega) (nmd g c 2) (i := i - nc) (by omega)
    rw [show (31 : Int32) = nI 31 from rfl, h, show nI 0 = (0 : Int32) from rfl, b_0, if_pos (by omega), show nc + (i - nc) = i by omega] at h3
    exact h3.symm
  · intro h
    apply b_ext
    intro i hi
    rw [show (nI 31 : Int32) = 31 from rfl, b_sshr nc (by omega) (nmd g c 2) hi, show nI 0 = (0 : Int32) from rfl, b_0]
    split
    · exact h _ (by omega) (by omega)
    · exact h _ (by omega) (by omega)
def mt_BA (g T : Nat → Int32) (nc c t : Nat) : Bool := hasA (mN T t) (nmd g c 0) && hasN (mN T t) (nmd g c 1) && !(bt (nmd g c 2) c && decide (mN T t = 0)) && !mt_lost g nc c
def mt_LI (g : Nat → Int32) (nc c o : Nat) : Bool := !mt_lost g nc c && bt (nmd g c 2) o && !decide (o = c)
def mt_AL (T : Nat → Int32) (t o : Nat) : Bool := !decide (o = t) && decide (¬ mN T t &&& mN T o = 0)
theorem mt_ALs {T : Nat → Int32} (x y : Nat) : mt_AL T x y = mt_AL T y x := by
  unfold mt_AL
  rw [Nat.and_comm]
  congr 2
  exact decide_eq_decide.mpr ⟨fun h => h.symm, fun h => h.symm⟩
theorem mt_fitI {nc nt : Nat} {g T : Nat → Int32} {s : Nat → Nat} (hw : RW nc nt g) (hnc : nc ≤ 6) (hnt : nt ≤ 8) (hk : mt_ok nt s nc) {c : Nat} (hc : c < nc) (h9 : ¬ s c = 9) : mt_fit g T nc s c (s c) = true ↔ mt_BA g T nc c (s c) = true ∧ ∀ o, o < nc → mt_LI g nc c o = true → ¬ s o = 9 ∧ mt_AL T (s c) (s o) = true := by
  obtain ⟨hz, hz1, hz6, -, hk9⟩ := hw.1 c hc
  have ha : ∀ k, k < zN g c → aN g c k < 10 := fun k hk => (hk9 k hk).2.2.2.1
  unfold mt_fit mt_BA
  rw [fbW_e ha]
  unfold fbW
  rw [Bool.and_eq_true, Bool.and_eq_true, al_iff, al_iff, Bool.not_eq_true', Bool.not_eq_true', lost_i hnc ha]
  constructor
  · intro h
    have hX : ∀ k, k < zN g c → ¬ iN g c k = 0 → mt_tru g T nc s c k (s c) = true := fun k h1 h2 => by
      have := h k (by omega) (by omega)
      simpa [h2] using this
    have hlost : ∀ i, nc ≤ i → i < 32 → bt (nmd g c 2) i = false := fun i h1 h2 => by
      cases hb : bt (nmd g c 2) i
      · rfl
      · obtain ⟨k, k1, k2, k3, k4⟩ := (nmd_bt h2 ha).mp hb
        have := hX k k1 k2
        unfold mt_tru at this
        rw [if_neg (by omega), if_neg (by omega), if_pos (by omega)] at this
        cases this
    refine ⟨⟨⟨fun k _ h2 => ?_, ?_⟩, hlost⟩, fun o ho hl => ?_⟩
    · by_cases q : iN g c k = 0
      · simp [q]
      · by_cases q2 : oN g c k < 2
        · have := hX k (by omega) q
          unfold mt_tru at this
          rw [if_pos q2] at this
          rw [this, Bool.or_true]
        · rw [decide_eq_true (show 2 ≤ oN g c k by omega), Bool.or_true, Bool.true_or]
    · cases hb : bt (nmd g c 2) c
      · rfl
      · obtain ⟨k, k1, k2, k3, k4⟩ := (nmd_bt (by omega) ha).mp hb
        have := hX k k1 k2
        unfold mt_tru at this
        rw [if_neg (by omega), if_pos k4] at this
        simpa using this
    · unfold mt_LI at hl
      rw [Bool.and_eq_true, Bool.and_eq_true] at hl
      obtain ⟨⟨-, l1⟩, l2⟩ := hl
      have l2 : ¬ o = c := by simpa using l2
      obtain ⟨k, k1, k2, k3, k4⟩ := (nmd_bt (by omega) ha).mp l1
      have := hX k k1 k2
      unfold mt_tru at this
      rw [if_neg (by omega), if_neg (by omega), if_neg (by omega), k4] at this
      by_cases q : s o = 9
      · rw [if_pos q] at this; cases this
      · rw [if_neg q] at this
        refine ⟨q, ?_⟩
        unfold mt_AL
        have hne : ¬ s o = s c := fun e => l2 (hk.2 o c ho hc e q)
        rw [this, decide_eq_false hne]; rfl
  · rintro ⟨⟨⟨h1, h2⟩, h3⟩, h4⟩ k _ hk2
    by_cases q : iN g c k = 0
    · simp [q]
    · rw [decide_eq_false q, Bool.false_or]
      unfold mt_tru
      obtain ⟨ho, ho3, ha1, ha10, ha6, hi, hi9⟩ := hk9 k (by omega)
      by_cases q2 : oN g c k < 2
      · rw [if_pos q2]
        have := h1 k (by omega) (by omega)
        rw [decide_eq_false q, decide_eq_false (show ¬ 2 ≤ oN g c k by omega), Bool.false_or, Bool.false_or] at this
        exact this
      · rw [if_neg q2]
        have hb : bt (nmd g c 2) (aN g c k) = true := (nmd_bt (by omega) ha).mpr ⟨k, by omega, q, by omega, rfl⟩
        by_cases q3 : aN g c k = c
        · rw [if_pos q3]
          rw [q3] at hb
          rw [hb, Bool.true_and] at h2
          simpa using h2
        · rw [if_neg q3]
          by_cases q4 : nc ≤ aN g c k
          · rw [h3 _ q4 (by omega)] at hb; cases hb
          · rw [if_neg q4]
            have hl : mt_LI g nc c (aN g c k) = true := by
              unfold mt_LI
              rw [hb, (lost_i hnc ha).mpr h3, decide_eq_false q3]; rfl
            obtain ⟨l1, l2⟩ := h4 _ (by omega) hl
            rw [if_neg l1]
            unfold mt_AL at l2
            rw [Bool.and_eq_true] at l2
            exact l2.2
theorem mt_VbI {nc nt : Nat} {g T : Nat → Int32} (hw : RW nc nt g) (hnc : nc ≤ 6) (hnt : nt ≤ 8) (s : Nat → Nat) (hk : mt_ok nt s nc) : mt_Vb g T nc s = true ↔ mt_V nc (mt_BA g T nc) (mt_LI g nc) (mt_AL T) s := by
  unfold mt_Vb mt_V
  rw [al_iff]
  constructor
  · intro h k h1 h9
    have := h k (by omega) (by omega)
    rw [decide_eq_false h9, Bool.false_or] at this
    exact (mt_fitI hw hnc hnt hk h1 h9).mp this
  · intro h k _ h1
    by_cases h9 : s k = 9
    · rw [decide_eq_true h9, Bool.true_or]
    · rw [decide_eq_false h9, Bool.false_or]
      exact (mt_fitI hw hnc hnt hk (by omega) h9).mpr (h k (by omega) h9)
