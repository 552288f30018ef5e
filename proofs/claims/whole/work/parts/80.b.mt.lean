/-! ===== the program's search: its rows, what agrees, least prices ===== -/
theorem lpE {α β : Type} (L : Nat → Nat → α → β) (n : Nat) (P : Nat → α → Prop) (Q : β → Prop) (he : ∀ fu a, P n a → Q (L (fu + 1) n a)) (hs : ∀ fu k a, k < n → P k a → (∃ a', L (fu + 1) k a = L fu (k + 1) a' ∧ P (k + 1) a') ∨ Q (L (fu + 1) k a)) : ∀ m k fu a, k + m = n → m < fu → P k a → Q (L fu k a) := by
  intro m
  induction m with
  | zero =>
    intro k fu a hk hf hp
    obtain ⟨fu, rfl⟩ : ∃ q, fu = q + 1 := ⟨fu - 1, by omega⟩
    have : k = n := by omega
    subst this
    exact he fu a hp
  | succ m ih =>
    intro k fu a hk hf hp
    obtain ⟨fu, rfl⟩ : ∃ q, fu = q + 1 := ⟨fu - 1, by omega⟩
    rcases hs fu k a (by omega) hp with ⟨a', e, h⟩ | h
    · rw [e]; exact ih (k + 1) fu a' (by omega) (by omega) h
    · exact h
theorem b_one : ∀ j, j < 32 → bt (nI 1) j = decide (j = 0) := by decide +kernel
theorem bq_e {x : Int32} {i : Nat} (hi : i < 32) : (x >>> (nI i &&& nI 31)) &&& nI 1 = bI (bt x i) := by
  apply b_ext
  intro j hj
  rw [b_and, show (nI 31 : Int32) = 31 from rfl, b_sshr i hi x hj, b_one j hj]
  by_cases h0 : j = 0
  · subst h0
    rw [if_pos (by omega), Nat.add_zero]
    cases bt x i
    · rw [bI_f, show nI 0 = (0 : Int32) from rfl, b_0]; rfl
    · rw [bI_t, b_one 0 (by omega)]; rfl
  · rw [decide_eq_false h0, Bool.and_false]
    cases bt x i
    · rw [bI_f, show nI 0 = (0 : Int32) from rfl, b_0]
    · rw [bI_t, b_one j hj, decide_eq_false h0]
theorem bq_1 {x : Int32} {i : Nat} (hi : i < 32) : ((x >>> (nI i &&& nI 31)) &&& nI 1 = nI 1) = (bt x i = true) := by rw [bq_e hi, bI_1]
theorem bq_0 {x : Int32} {i : Nat} (hi : i < 32) : ((x >>> (nI i &&& nI 31)) &&& nI 1 = nI 0) = (bt x i = false) := by rw [bq_e hi, bI_0]
def vI (v : Nat) : Int32 := if v = 9 then -nI 1 else nI v
theorem vI_9 : vI 9 = -nI 1 := if_pos rfl
theorem vI_n {v : Nat} (h : ¬ v = 9) : vI v = nI v := if_neg h
def MS (nc nt : Nat) (pr b h : Nat → Nat) (LI AL AB : Nat → Nat → Bool) (μ : MM) : Prop :=
  μ.1 23 1 = nI nc ∧ μ.1 23 0 = nI nt ∧ nc ≤ 6 ∧ nt ≤ 8 ∧ (∀ t, t < nt → μ.1 24 t = nI (pr t)) ∧ (∀ t, pr t ≤ 9) ∧
  (∀ t, t < nt → ∀ o, o < nt → bt (μ.1 334 t) o = AL t o) ∧ (∀ i, i < nt → μ.1 335 i = nI (b i) ∧ b i < nt) ∧
  (∀ c, c < nc → ∀ o, o < nc → bt (μ.1 336 c) o = LI c o) ∧ (∀ c, c < nc → μ.1 337 c = nI 0 → ∀ a, a < c → LI c a = false ∧ LI a c = false) ∧
  (∀ c, c < nc → ∀ t, t < nt → bt (μ.1 338 c) t = AB c t) ∧ ∀ c, c ≤ nc → μ.1 339 c = nI (h c) ∧ h c ≤ 6
def MF (nc nt : Nat) (pr b h : Nat → Nat) (BA LI AL AB : Nat → Nat → Bool) (V : (Nat → Nat) → Bool) : Prop :=
  (∀ i j, i < j → j < nt → pr (b i) ≤ pr (b j)) ∧ (∀ i j, i < j → j < nt → ¬ b i = b j) ∧ (∀ t, t < nt → ∃ j, j < nt ∧ b j = t) ∧ (∀ x y, AL x y = AL y x) ∧ (∀ x, LI x x = false) ∧
  (∀ c t, c < nc → t < nt → AB c t = true → BA c t = true) ∧ (∀ s, mt_ok nt s nc → (V s = true ↔ mt_V nc BA LI AL s)) ∧ (∀ s k, mt_ok nt s nc → V s = true → k < nc → ¬ s k = 9 → AB k (s k) = true) ∧
  h nc = 0 ∧ ∀ s c, mt_ok nt s nc → V s = true → c ≤ nc → mt_n s nc ≤ mt_n s c + h c
theorem MS_of {nc nt : Nat} {pr b h : Nat → Nat} {LI AL AB : Nat → Nat → Bool} {μ μ' : MM} (hS : MS nc nt pr b h LI AL AB μ) (he : ∀ a, a ≠ 333 → a ≠ 340 → μ'.1 a = μ.1 a) : MS nc nt pr b h LI AL AB μ' := by
  unfold MS at hS ⊢
  rw [he 23 (by decide) (by decide), he 24 (by decide) (by decide), he 334 (by decide) (by decide), he 335 (by decide) (by decide), he 336 (by decide) (by decide), he 337 (by decide) (by decide), he 338 (by decide) (by decide), he 339 (by decide) (by decide)]
  exact hS
theorem ag_89 {N nc nt : Nat} {pr b h : Nat → Nat} {LI AL AB : Nat → Nat → Bool} {μ : MM} (hS : MS nc nt pr b h LI AL AB μ) {v w : Nat} (hv : v < nt ∨ v = 9) (hw : w < nt ∨ w = 9) (k13 : Int32 → Int32 → Int32 → MM → Option (Int32 × MM)) (x1 x3 : Int32) : f_Ma_agrees_B89 N k13 x1 (vI v) x3 (vI w) μ = if (!decide (v = 9) && !decide (w = 9) && AL v w) = true then k13 x1 (vI v) (x3 + 1) μ else some (nI 0, μ) := by
  obtain ⟨h1, h0, hnc, hnt, hpr, hp9, hAL, hb, hLI, hlk, hAB, hh⟩ := hS
  unfold f_Ma_agrees_B89
  rcases hv with hv | hv
  · have q9 : ¬ v = 9 := by omega
    rw [vI_n q9, if_neg (show ¬ nI v = -1 from fun e => by rw [show (-1 : Int32) = -nI 1 from rfl, m_eq (by omega)] at e; exact e)]
    rcases hw with hw | hw
    · have q8 : ¬ w = 9 := by omega
      have e4 := hAL v hv w hw
      have c1 : (((μ.1 334 v >>> (nI w &&& 31)) &&& 1) = 0) = (AL v w = false) := (bq_0 (by omega)).trans (by rw [e4])
      rw [vI_n q8, if_neg (show ¬ nI w = -1 from fun e => by rw [show (-1 : Int32) = -nI 1 from rfl, m_eq (by omega)] at e; exact e), gd_in (by omega) (by omega), nI_clamp (by omega)]
      simp only [c1]
      cases AL v w
      · simp only [Bool.and_false, if_true, Bool.false_eq_true, if_false]; rfl
      · simp [q9, q8]
    · subst hw
      rw [vI_9, if_pos (show -nI 1 = (-1 : Int32) from rfl)]
      simp only [decide_true, Bool.not_true, Bool.and_false, Bool.false_and, Bool.false_eq_true, if_false]; rfl
  · subst hv
    rw [vI_9, if_pos (show -nI 1 = (-1 : Int32) from rfl)]
    simp only [decide_true, Bool.not_true, Bool.false_and, Bool.false_eq_true, if_false]; rfl
theorem ag_50 {N nc nt : Nat} {pr b h : Nat → Nat} {LI AL AB : Nat → Nat → Bool} {μ : MM} (hS : MS nc nt pr b h LI AL AB μ) {c a v w : Nat} (hc : c < nc) (ha : a < c) (hv : v < nt ∨ v = 9) (hw : w < nt ∨ w = 9) (k13 : Int32 → Int32 → Int32 → MM → Option (Int32 × MM)) (y : Bool) : f_Ma_agrees_B50 N k13 (nI c) (vI v) (nI a) (vI w) (bI y) μ = if (!(y || (!decide (w = 9) && LI a c)) || (!decide (v = 9) && !decide (w = 9) && AL v w)) = true then k13 (nI c) (vI v) (nI a + 1) μ else some (nI 0, μ) := by
  have h89 := ag_89 (N := N) hS hv hw k13 (nI c) (nI a)
  obtain ⟨h1, h0, hnc, hnt, hpr, hp9, hAL, hb, hLI, hlk, hAB, hh⟩ := hS
  unfold f_Ma_agrees_B50 f_Ma_agrees_B76 f_Ma_agrees_B77
  rw [h89]
  have z0 : (bI y = 0) = (y = false) := bI_0 y
  simp only [z0]
  rcases hw with hw | hw
  · have q8 : ¬ w = 9 := by omega
    have e3 := hLI a (by omega) c hc
    have c1 : (((μ.1 336 a >>> (nI c &&& 31)) &&& 1) = 1) = (LI a c = true) := (bq_1 (by omega)).trans (by rw [e3])
    rw [vI_n q8, if_neg (show ¬ nI w = -1 from fun e => by rw [show (-1 : Int32) = -nI 1 from rfl, m_eq (by omega)] at e; exact e), gd_in (by omega) (by omega), nI_clamp (by omega)]
    simp only [c1, if_neg (show ¬ (1 : Int32) = 0 by decide), if_true]
    cases y <;> cases LI a c <;> simp [q8]
  · subst hw
    rw [vI_9, if_pos (show -nI 1 = (-1 : Int32) from rfl)]
    simp only [if_true]
    cases y <;> simp
theorem ma_agrees {N nc nt : Nat} (hN : 15000 ≤ N) {pr b h : Nat → Nat} {LI AL AB : Nat → Nat → Bool} {μ : MM} (hS : MS nc nt pr b h LI AL AB μ) {s : Nat → Nat} {c v : Nat} (hc : c < nc) (hs : ∀ i, i < c → s i < nt ∨ s i = 9) (hch : ∀ i, i < c → μ.1 340 i = vI (s i)) (hv : v < nt ∨ v = 9) : f_Ma_agrees N (nI c) (vI v) μ = some (bI (mt_ag LI AL s c v), μ) := by
  have h50 := fun a ha (k13 : Int32 → Int32 → Int32 → MM → Option (Int32 × MM)) y => ag_50 (N := N) (a := a) hS hc ha hv (hs a ha) k13 y
  obtain ⟨h1, h0, hnc, hnt, hpr, hp9, hAL, hb, hLI, hlk, hAB, hh⟩ := hS
  have hl := lpa (fun fu a => f_Ma_agrees_L13 N fu (nI c) (vI v) (nI a) μ) c (fun a => !((!decide (v = 9) && LI c a) || (!decide (s a = 9) && LI a c)) || (!decide (v = 9) && !decide (s a = 9) && AL v (s a))) (some (nI 1, μ)) (some (nI 0, μ)) (fun fu => by
      simp (disch := omega) only [f_Ma_agrees_L13, nI_leI, Nat.le_refl, if_true, l_1]) (fun fu a ha => by
      have e1 := hch a ha
      have e2 := hLI c hc a (by omega)
      have c1 : (((μ.1 336 c >>> (nI a &&& 31)) &&& 1) = 1) = (LI c a = true) := (bq_1 (by omega)).trans (by rw [e2])
      have ht := h50 a ha (f_Ma_agrees_L13 N fu) true
      have hf := h50 a ha (f_Ma_agrees_L13 N fu) false
      rw [f_Ma_agrees_L13, if_neg (nI_ge ha (by omega)), gd_in (by omega) (by omega), nI_clamp (by omega), e1]
      unfold f_Ma_agrees_B49
      rw [show (0 : Int32) = bI false from rfl, show (nI a + 1 : Int32) = nI (a + 1) from nI_1 a] at *
      rcases hv with hv | hv
      · have q9 : ¬ v = 9 := by omega
        rw [if_neg (show ¬ vI v = -1 from fun e => by rw [vI_n q9, show (-1 : Int32) = -nI 1 from rfl, m_eq (by omega)] at e; exact e), gd_in (by omega) (by omega), nI_clamp (by omega)]
        simp only [c1]
        cases hq : LI c a
        · rw [if_neg (by simp), hf]
          simp
        · rw [if_pos rfl, show (1 : Int32) = bI true from rfl, ht]
          simp [q9]
      · subst hv
        rw [if_pos (show vI 9 = (-1 : Int32) from rfl), hf]
        simp) c 0 N (by omega) (by omega)
  unfold f_Ma_agrees
  rw [gd_in (by omega) (by omega), nI_clamp (by omega)]
  by_cases hz : μ.1 337 c = 0
  · rw [if_pos hz]
    have : mt_ag LI AL s c v = true := by
      rw [mt_agI]
      intro a ha hq
      obtain ⟨z1, z2⟩ := hlk c hc hz a ha
      rw [z1, z2] at hq
      rcases hq with ⟨_, q⟩ | ⟨_, q⟩ <;> cases q
    rw [this]; rfl
  · rw [if_neg hz]
    refine hl.trans ?_
    show (if mt_ag LI AL s c v = true then _ else _) = _
    cases mt_ag LI AL s c v <;> rfl
theorem mt_lpL {pr b : Nat → Nat} (hp : ∀ t, pr t ≤ 9) {U : Nat → Bool} : ∀ (q i m : Nat), mt_lp pr b q i U m ≤ 9 * q := by
  intro q
  induction q with
  | zero => intro i m; exact Nat.le_refl _
  | succ q ih =>
    intro i m
    rw [mt_lp]
    have h1 := ih (i + 1) m
    have h2 := ih (i + 1) (m - 1)
    have h3 := hp (b i)
    split
    · omega
    · split <;> omega
theorem ma_lp {N nc nt : Nat} {pr b h : Nat → Nat} {LI AL AB : Nat → Nat → Bool} {μ : MM} (hS : MS nc nt pr b h LI AL AB μ) {x : Int32} {U : Nat → Bool} (hU : ∀ t, t < nt → bt x t = U t) {mn : Nat} (hm : mn ≤ 6) : ∀ (q i fu sm tk : Nat), i + q = nt → q < fu → tk ≤ mn → f_Ma_leastPrices_L8 N fu x (nI mn) (nI sm) (nI tk) (nI i) μ = some (nI (sm + mt_lp pr b q i U (mn - tk)), μ) := by
  obtain ⟨h1, h0, hnc, hnt, hpr, hp9, hAL, hb, hLI, hlk, hAB, hh⟩ := hS
  intro q
  induction q with
  | zero =>
    intro i fu sm tk hi hf ht
    obtain ⟨fu, rfl⟩ : ∃ q, fu = q + 1 := ⟨fu - 1, by omega⟩
    have : i = nt := by omega
    subst this
    simp (disch := omega) only [f_Ma_leastPrices_L8, h0, nI_leI, Nat.le_refl, if_true, mt_lp, Nat.add_zero]
  | succ q ih =>
    intro i fu sm tk hi hf ht
    obtain ⟨fu, rfl⟩ : ∃ q, fu = q + 1 := ⟨fu - 1, by omega⟩
    obtain ⟨b1, b2⟩ := hb i (by omega)
    have e1 := hU (b i) b2
    have e2 := hpr (b i) b2
    simp (disch := omega) only [f_Ma_leastPrices_L8, h0, nI_leI, if_neg, gd_in, nI_clamp, b1, l_31, l_1, l_0, bq_0, e1, e2, nI_add]
    rw [mt_lp]
    by_cases hmt : mn ≤ tk
    · rw [if_pos hmt, if_pos (by omega), Nat.add_zero]
    · rw [if_neg hmt, if_neg (show ¬ mn - tk = 0 by omega)]
      cases hu : U (b i)
      · simp only [if_true, Bool.false_eq_true, if_false]
        rw [ih (i + 1) fu (sm + pr (b i)) (tk + 1) (by omega) (by omega) (by omega), Nat.add_assoc, show mn - (tk + 1) = mn - tk - 1 by omega]
      · simp only [Bool.true_eq_false, if_true, if_false]
        exact ih (i + 1) fu sm tk (by omega) (by omega) ht
