/-! ===== things laid under cards in thought ===== -/
def mt_u (s : Nat → Nat) (c v : Nat) : Nat → Nat := fun i => if i = c then v else s i
theorem mt_uS {s : Nat → Nat} {c v : Nat} : mt_u s c v c = v := if_pos rfl
theorem mt_uO {s : Nat → Nat} {c v i : Nat} (h : ¬ i = c) : mt_u s c v i = s i := if_neg h
def mt_n (s : Nat → Nat) : Nat → Nat
  | 0 => 0
  | c + 1 => mt_n s c + (if s c = 9 then 0 else 1)
def mt_p (pr : Nat → Nat) (s : Nat → Nat) : Nat → Nat
  | 0 => 0
  | c + 1 => mt_p pr s c + (if s c = 9 then 0 else pr (s c))
def mt_d (s : Nat → Nat) : Nat → Nat
  | 0 => 0
  | c + 1 => 10 * mt_d s c + s c
def mt_us (s : Nat → Nat) (c t : Nat) : Bool := !al (fun i => decide (¬ s i = t)) c 0
def mt_ok (nt : Nat) (s : Nat → Nat) (c : Nat) : Prop := (∀ i, i < c → s i < nt ∨ s i = 9) ∧ ∀ i j, i < c → j < c → s i = s j → ¬ s i = 9 → i = j
theorem mt_nC {s s' : Nat → Nat} : ∀ {c : Nat}, (∀ i, i < c → s' i = s i) → mt_n s' c = mt_n s c := by
  intro c
  induction c with
  | zero => intro _; rfl
  | succ c ih => intro h; rw [mt_n, mt_n, ih (fun i hi => h i (by omega)), h c (by omega)]
theorem mt_pC {pr : Nat → Nat} {s s' : Nat → Nat} : ∀ {c : Nat}, (∀ i, i < c → s' i = s i) → mt_p pr s' c = mt_p pr s c := by
  intro c
  induction c with
  | zero => intro _; rfl
  | succ c ih => intro h; rw [mt_p, mt_p, ih (fun i hi => h i (by omega)), h c (by omega)]
theorem mt_dC {s s' : Nat → Nat} : ∀ {c : Nat}, (∀ i, i < c → s' i = s i) → mt_d s' c = mt_d s c := by
  intro c
  induction c with
  | zero => intro _; rfl
  | succ c ih => intro h; rw [mt_d, mt_d, ih (fun i hi => h i (by omega)), h c (by omega)]
theorem mt_usC {s s' : Nat → Nat} {c t : Nat} (h : ∀ i, i < c → s' i = s i) : mt_us s' c t = mt_us s c t := by
  unfold mt_us
  rw [al_congr (q := fun i => decide (¬ s i = t)) (fun j _ hj => by rw [h j (by omega)])]
theorem mt_usS {s : Nat → Nat} {c t : Nat} : mt_us s (c + 1) t = (mt_us s c t || decide (s c = t)) := by
  unfold mt_us
  rw [al_snoc, Nat.zero_add]
  cases al (fun i => decide (¬ s i = t)) c 0 <;> by_cases h : s c = t <;> simp [h]
theorem mt_usF {s : Nat → Nat} {c t : Nat} : mt_us s c t = false ↔ ∀ i, i < c → ¬ s i = t := by
  unfold mt_us
  rw [Bool.not_eq_false', al_iff]
  constructor
  · intro h i hi
    simpa using h i (by omega) (by omega)
  · intro h j _ hj
    simpa using h j (by omega)
theorem mt_usU {s : Nat → Nat} {c v t : Nat} : mt_us (mt_u s c v) (c + 1) t = (mt_us s c t || decide (v = t)) := by
  rw [mt_usS, mt_uS, mt_usC (s := s) (fun i hi => mt_uO (by omega))]
theorem mt_nU {s : Nat → Nat} {c v : Nat} : mt_n (mt_u s c v) (c + 1) = mt_n s c + (if v = 9 then 0 else 1) := by
  rw [mt_n, mt_uS, mt_nC (s := s) (fun i hi => mt_uO (by omega))]
theorem mt_pU {pr : Nat → Nat} {s : Nat → Nat} {c v : Nat} : mt_p pr (mt_u s c v) (c + 1) = mt_p pr s c + (if v = 9 then 0 else pr v) := by
  rw [mt_p, mt_uS, mt_pC (s := s) (fun i hi => mt_uO (by omega))]
theorem mt_dU {s : Nat → Nat} {c v : Nat} : mt_d (mt_u s c v) (c + 1) = 10 * mt_d s c + v := by
  rw [mt_d, mt_uS, mt_dC (s := s) (fun i hi => mt_uO (by omega))]
theorem mt_nL (s : Nat → Nat) : ∀ c, mt_n s c ≤ c := by
  intro c
  induction c with
  | zero => exact Nat.le_refl _
  | succ c ih => rw [mt_n]; split <;> omega
theorem mt_nM (s : Nat → Nat) (c : Nat) : ∀ r, mt_n s (c + r) ≤ mt_n s c + r := by
  intro r
  induction r with
  | zero => exact Nat.le_refl _
  | succ r ih => rw [← Nat.add_assoc, mt_n]; split <;> omega
theorem mt_nG (s : Nat → Nat) (c : Nat) : ∀ r, mt_n s c ≤ mt_n s (c + r) := by
  intro r
  induction r with
  | zero => exact Nat.le_refl _
  | succ r ih => rw [← Nat.add_assoc, mt_n]; omega
theorem mt_pL {pr s : Nat → Nat} (h : ∀ t, pr t ≤ 9) : ∀ c, mt_p pr s c ≤ 9 * c := by
  intro c
  induction c with
  | zero => exact Nat.le_refl _
  | succ c ih =>
    rw [mt_p]
    have := h (s c)
    split <;> omega
theorem mt_okU {nt : Nat} {s : Nat → Nat} {c v : Nat} (h : mt_ok nt s c) (hv : v = 9 ∨ (v < nt ∧ mt_us s c v = false)) : mt_ok nt (mt_u s c v) (c + 1) := by
  refine ⟨fun i hi => ?_, fun i j hi hj e h9 => ?_⟩
  · by_cases q : i = c
    · subst q; rw [mt_uS]; omega
    · rw [mt_uO q]; exact h.1 i (by omega)
  · by_cases q : i = c
    · by_cases q2 : j = c
      · omega
      · subst q
        rw [mt_uS] at e h9
        rw [mt_uO q2] at e
        have := mt_usF.mp (hv.resolve_left h9).2 j (by omega)
        exact absurd e.symm this
    · rw [mt_uO q] at e h9
      by_cases q2 : j = c
      · subst q2
        rw [mt_uS] at e
        subst e
        exact absurd rfl (mt_usF.mp (hv.resolve_left h9).2 i (by omega))
      · rw [mt_uO q2] at e
        exact h.2 i j (by omega) (by omega) e h9
def mt_up (B : Option (Nat × Nat × Nat)) (n p d : Nat) : Option (Nat × Nat × Nat) := match B with
  | none => some (n, p, d)
  | some (n', p', d') => if n' < n ∨ (n' = n ∧ p < p') then some (n, p, d) else some (n', p', d')
def mt_go (nt : Nat) (pr : Nat → Nat) (V : (Nat → Nat) → Bool) : Nat → Nat → (Nat → Nat) → Option (Nat × Nat × Nat) → Option (Nat × Nat × Nat)
  | 0, c, s, B => if V s = true then mt_up B (mt_n s c) (mt_p pr s c) (mt_d s c) else B
  | r + 1, c, s, B => mt_go nt pr V r (c + 1) (mt_u s c 9) (fo (fun t B => if mt_us s c t = true then B else mt_go nt pr V r (c + 1) (mt_u s c t) B) nt 0 B)
def mt_nb (B : Option (Nat × Nat × Nat)) (n p : Nat) : Prop := ∃ n' p' d', B = some (n', p', d') ∧ ¬ (n' < n ∨ (n' = n ∧ p < p'))
theorem fo_id {α : Type} {f : Nat → α → α} {a : α} : ∀ (m k : Nat), (∀ j, k ≤ j → j < k + m → f j a = a) → fo f m k a = a := by
  intro m
  induction m with
  | zero => intro k _; rfl
  | succ m ih => intro k h; rw [fo, h k (by omega) (by omega)]; exact ih (k + 1) (fun j h1 h2 => h j (by omega) (by omega))
theorem mt_none {nt nc : Nat} {pr : Nat → Nat} {V : (Nat → Nat) → Bool} {B : Option (Nat × Nat × Nat)} : ∀ (r c : Nat) (s : Nat → Nat), c + r = nc → mt_ok nt s c → (∀ s' : Nat → Nat, (∀ i, i < c → s' i = s i) → mt_ok nt s' nc → V s' = true → mt_nb B (mt_n s' nc) (mt_p pr s' nc)) → mt_go nt pr V r c s B = B := by
  intro r
  induction r with
  | zero =>
    intro c s hc hk h
    have : c = nc := by omega
    subst this
    rw [mt_go]
    by_cases hV : V s = true
    · rw [if_pos hV]
      obtain ⟨n', p', d', rfl, hb⟩ := h s (fun _ _ => rfl) hk hV
      show (if _ then _ else _) = _
      rw [if_neg hb]
    · rw [if_neg hV]
  | succ r ih =>
    intro c s hc hk h
    have hx : ∀ v, v = 9 ∨ (v < nt ∧ mt_us s c v = false) → mt_go nt pr V r (c + 1) (mt_u s c v) B = B := fun v hv =>
      ih (c + 1) (mt_u s c v) (by omega) (mt_okU hk hv) (fun s' e1 e2 e3 => h s' (fun i hi => by rw [e1 i (by omega), mt_uO (by omega)]) e2 e3)
    rw [mt_go, fo_id nt 0 (fun j _ hj => ?_)]
    · exact hx 9 (Or.inl rfl)
    · by_cases hu : mt_us s c j = true
      · rw [if_pos hu]
      · rw [if_neg hu]; exact hx j (Or.inr ⟨by omega, by simpa using hu⟩)
theorem mt_upS {B : Option (Nat × Nat × Nat)} {n p d : Nat} : mt_up B n p d ≠ none := by
  cases B with
  | none => intro h; cases h
  | some b =>
    obtain ⟨n', p', d'⟩ := b
    show (if _ then _ else _) ≠ none
    split <;> intro h <;> cases h
theorem mt_goS {nt : Nat} {pr : Nat → Nat} {V : (Nat → Nat) → Bool} : ∀ (r c : Nat) (s : Nat → Nat) (B : Option (Nat × Nat × Nat)), (∀ i, i < c → s i = 9) → (∀ s' : Nat → Nat, (∀ i, i < c + r → s' i = 9) → V s' = true) → mt_go nt pr V r c s B ≠ none := by
  intro r
  induction r with
  | zero =>
    intro c s B h1 h2
    rw [mt_go, if_pos (h2 s h1)]
    exact mt_upS
  | succ r ih =>
    intro c s B h1 h2
    rw [mt_go]
    refine ih (c + 1) _ _ (fun i hi => ?_) (fun s' h => h2 s' (fun i hi => h i (by omega)))
    by_cases q : i = c
    · subst q; exact mt_uS
    · rw [mt_uO q]; exact h1 i (by omega)
/-- what each card asks of things, and of the things of other cards -/
def mt_V (nc : Nat) (BA LI AL : Nat → Nat → Bool) (s : Nat → Nat) : Prop := ∀ k, k < nc → ¬ s k = 9 → BA k (s k) = true ∧ ∀ o, o < nc → LI k o = true → ¬ s o = 9 ∧ AL (s k) (s o) = true
def mt_ag (LI AL : Nat → Nat → Bool) (s : Nat → Nat) (c v : Nat) : Bool := al (fun a => !((!decide (v = 9) && LI c a) || (!decide (s a = 9) && LI a c)) || (!decide (v = 9) && !decide (s a = 9) && AL v (s a))) c 0
def mt_PA (BA LI AL : Nat → Nat → Bool) (s : Nat → Nat) (c : Nat) : Prop := (∀ i, i < c → ¬ s i = 9 → BA i (s i) = true) ∧ ∀ i j, i < c → j < c → LI i j = true → ¬ s i = 9 → ¬ s j = 9 ∧ AL (s i) (s j) = true
theorem mt_agI {LI AL : Nat → Nat → Bool} {s : Nat → Nat} {c v : Nat} : mt_ag LI AL s c v = true ↔ ∀ a, a < c → (¬ v = 9 ∧ LI c a = true) ∨ (¬ s a = 9 ∧ LI a c = true) → ¬ v = 9 ∧ ¬ s a = 9 ∧ AL v (s a) = true := by
  unfold mt_ag
  rw [al_iff]
  constructor
  · intro h a ha hq
    have h1 := h a (by omega) (by omega)
    rcases hq with ⟨q1, q2⟩ | ⟨q1, q2⟩
    · simp [q1, q2] at h1
      exact ⟨q1, h1.1, h1.2⟩
    · simp [q1, q2] at h1
      exact ⟨h1.1, q1, h1.2⟩
  · intro h j _ hj
    have h1 := h j (by omega)
    by_cases q : (¬ v = 9 ∧ LI c j = true) ∨ (¬ s j = 9 ∧ LI j c = true)
    · obtain ⟨a1, a2, a3⟩ := h1 q
      simp [a1, a2, a3]
    · rw [not_or] at q
      obtain ⟨q1, q2⟩ := q
      have e1 : (!decide (v = 9) && LI c j) = false := by
        cases hb : (!decide (v = 9) && LI c j)
        · rfl
        · rw [Bool.and_eq_true] at hb
          exact absurd ⟨by simpa using hb.1, hb.2⟩ q1
      have e2 : (!decide (s j = 9) && LI j c) = false := by
        cases hb : (!decide (s j = 9) && LI j c)
        · rfl
        · rw [Bool.and_eq_true] at hb
          exact absurd ⟨by simpa using hb.1, hb.2⟩ q2
      rw [e1, e2]
      rfl
theorem mt_agN {nc : Nat} {BA LI AL : Nat → Nat → Bool} {s s' : Nat → Nat} {c v : Nat} (hV : mt_V nc BA LI AL s') (hsy : ∀ a b, AL a b = AL b a) (hc : c < nc) (he : ∀ i, i < c → s' i = s i) (hv : s' c = v) : mt_ag LI AL s c v = true := by
  rw [mt_agI]
  rintro a ha (⟨h1, h2⟩ | ⟨h1, h2⟩)
  · have := (hV c hc (by rw [hv]; exact h1)).2 a (by omega) h2
    rw [he a ha, hv] at this
    exact ⟨h1, this.1, this.2⟩
  · have := (hV a (by omega) (by rw [he a ha]; exact h1)).2 c hc h2
    rw [he a ha, hv] at this
    exact ⟨this.1, h1, by rw [hsy]; exact this.2⟩
theorem mt_PAU {BA LI AL : Nat → Nat → Bool} {s : Nat → Nat} {c v : Nat} (h : mt_PA BA LI AL s c) (hsy : ∀ a b, AL a b = AL b a) (hLI : ∀ a, LI a a = false) (ha : mt_ag LI AL s c v = true) (hb : ¬ v = 9 → BA c v = true) : mt_PA BA LI AL (mt_u s c v) (c + 1) := by
  rw [mt_agI] at ha
  refine ⟨fun i hi h9 => ?_, fun i j hi hj hl h9 => ?_⟩
  · by_cases q : i = c
    · subst q; rw [mt_uS] at h9 ⊢; exact hb h9
    · rw [mt_uO q] at h9 ⊢; exact h.1 i (by omega) h9
  · by_cases q : i = c
    · subst q
      by_cases q2 : j = i
      · subst q2; rw [hLI] at hl; cases hl
      · rw [mt_uS] at h9 ⊢
        rw [mt_uO q2]
        have := ha j (by omega) (Or.inl ⟨h9, hl⟩)
        exact ⟨this.2.1, this.2.2⟩
    · rw [mt_uO q] at h9 ⊢
      by_cases q2 : j = c
      · subst q2
        rw [mt_uS]
        have := ha i (by omega) (Or.inr ⟨h9, hl⟩)
        exact ⟨this.1, by rw [hsy]; exact this.2.2⟩
      · rw [mt_uO q2]; exact h.2 i j (by omega) (by omega) hl h9
theorem mt_PAV {nc : Nat} {BA LI AL : Nat → Nat → Bool} {s : Nat → Nat} (h : mt_PA BA LI AL s nc) : mt_V nc BA LI AL s := fun k hk h9 => ⟨h.1 k hk h9, fun o ho hl => h.2 k o hk ho hl h9⟩
/-- the least that so many things cost -/
def mt_lp (pr b : Nat → Nat) : Nat → Nat → (Nat → Bool) → Nat → Nat
  | 0, _, _, _ => 0
  | q + 1, i, U, m => if m = 0 then 0 else if U (b i) = true then mt_lp pr b q (i + 1) U m else pr (b i) + mt_lp pr b q (i + 1) U (m - 1)
theorem mt_lpC {pr b : Nat → Nat} {U U' : Nat → Bool} : ∀ (q i m : Nat), (∀ j, i ≤ j → j < i + q → U' (b j) = U (b j)) → mt_lp pr b q i U' m = mt_lp pr b q i U m := by
  intro q
  induction q with
  | zero => intro i m _; rfl
  | succ q ih =>
    intro i m h
    rw [mt_lp, mt_lp, h i (by omega) (by omega), ih (i + 1) m (fun j h1 h2 => h j (by omega) (by omega)), ih (i + 1) (m - 1) (fun j h1 h2 => h j (by omega) (by omega))]
theorem mt_lp0 {pr b : Nat → Nat} {U : Nat → Bool} (q i : Nat) : mt_lp pr b q i U 0 = 0 := by
  cases q with
  | zero => rfl
  | succ q => rw [mt_lp, if_pos rfl]
theorem mt_lpT {pr b : Nat → Nat} {U : Nat → Bool} {nt t : Nat} (hs : ∀ i j, i < j → j < nt → pr (b i) ≤ pr (b j)) (hi : ∀ i j, i < j → j < nt → ¬ b i = b j) (hU : U t = false) : ∀ (q i m : Nat), i + q = nt → 1 ≤ m → (∃ j, i ≤ j ∧ j < nt ∧ b j = t) → mt_lp pr b q i U m ≤ pr t + mt_lp pr b q i (fun x => U x || decide (t = x)) (m - 1) := by
  intro q
  induction q with
  | zero => intro i m h1 _ ⟨j, h2, h3, _⟩; omega
  | succ q ih =>
    intro i m h1 h2 ⟨j, h3, h4, h5⟩
    rw [mt_lp, mt_lp, if_neg (show ¬ m = 0 by omega)]
    by_cases e : b i = t
    · rw [e, hU]
      simp only [Bool.false_eq_true, if_false, decide_true, Bool.or_true, if_true]
      rw [mt_lpC (U := U) (U' := fun x => U x || decide (t = x)) q (i + 1) (m - 1) (fun j' a1 a2 => by
        have : ¬ t = b j' := fun e2 => hi i j' (by omega) (by omega) (e.trans e2)
        simp [this])]
      split
      · rename_i h; rw [h, mt_lp0]; omega
      · omega
    · have hij : ¬ j = i := fun e2 => e (by rw [← e2]; exact h5)
      have hx : decide (t = b i) = false := decide_eq_false (fun e2 => e e2.symm)
      rw [hx, Bool.or_false]
      by_cases hu : U (b i) = true
      · rw [if_pos hu, if_pos hu]
        by_cases hm : m - 1 = 0
        · rw [if_pos hm]
          have := ih (i + 1) m (by omega) h2 ⟨j, by omega, h4, h5⟩
          rw [hm, mt_lp0] at this
          exact this
        · rw [if_neg hm]
          exact ih (i + 1) m (by omega) h2 ⟨j, by omega, h4, h5⟩
      · rw [if_neg hu, if_neg hu]
        have hle : pr (b i) ≤ pr t := by rw [← h5]; exact hs i j (by omega) h4
        by_cases hm : m - 1 = 0
        · rw [if_pos hm, hm, mt_lp0]; omega
        · rw [if_neg hm]
          have := ih (i + 1) (m - 1) (by omega) (by omega) ⟨j, by omega, h4, h5⟩
          omega
theorem mt_lpS {pr b : Nat → Nat} {nt nc : Nat} (hs : ∀ i j, i < j → j < nt → pr (b i) ≤ pr (b j)) (hi : ∀ i j, i < j → j < nt → ¬ b i = b j) (hb : ∀ t, t < nt → ∃ j, j < nt ∧ b j = t) (hbn : ∀ j, j < nt → b j < nt) (hnt : nt ≤ 8) {s : Nat → Nat} (hk : mt_ok nt s nc) : ∀ (r c : Nat), c + r = nc → mt_p pr s c + mt_lp pr b nt 0 (fun t => mt_us s c t) (mt_n s nc - mt_n s c) ≤ mt_p pr s nc := by
  intro r
  induction r with
  | zero =>
    intro c h
    have : c = nc := by omega
    subst this
    rw [Nat.sub_self, mt_lp0]; omega
  | succ r ih =>
    intro c h
    have h1 := ih (c + 1) (by omega)
    rw [mt_p, mt_n] at h1
    have hg := mt_nG s (c + 1) r
    rw [show c + 1 + r = nc by omega, mt_n] at hg
    by_cases h9 : s c = 9
    · rw [if_pos h9, if_pos h9, Nat.add_zero, Nat.add_zero] at h1
      rw [mt_lpC (U := fun t => mt_us s c t) nt 0 _ (fun j a1 a2 => ?_)] at h1
      · exact h1
      · show mt_us s (c + 1) (b j) = mt_us s c (b j)
        have := hbn j (by omega)
        rw [mt_usS, h9, decide_eq_false (by omega), Bool.or_false]
    · rw [if_neg h9] at h1 hg
      rw [if_neg h9] at h1
      have ht : s c < nt := (hk.1 c (by omega)).resolve_right h9
      obtain ⟨j, j1, j2⟩ := hb (s c) ht
      have h2 := mt_lpT (pr := pr) (b := b) (U := fun t => mt_us s c t) (t := s c) hs hi (by
        show mt_us s c (s c) = false
        rw [mt_usF]
        intro i hi e
        have := hk.2 i c (by omega) (by omega) e (by rw [e]; exact h9)
        omega) nt 0 (mt_n s nc - mt_n s c) (by omega) (by omega) ⟨j, by omega, j1, j2⟩
      rw [mt_lpC (U := fun x => mt_us s c x || decide (s c = x)) nt 0 _ (fun j a1 a2 => mt_usS), show mt_n s nc - (mt_n s c + 1) = mt_n s nc - mt_n s c - 1 by omega] at h1
      omega
