/-! ===== rows of a shelf as the model keeps them; what is asked of them ===== -/
def zN (g : Nat → Int32) (c : Nat) : Nat := (g (20 * c + 1)).toNatClampNeg
def oN (g : Nat → Int32) (c k : Nat) : Nat := (g (20 * c + 2 + 3 * k)).toNatClampNeg
def aN (g : Nat → Int32) (c k : Nat) : Nat := (g (20 * c + 3 + 3 * k)).toNatClampNeg
def iN (g : Nat → Int32) (c k : Nat) : Nat := (g (20 * c + 4 + 3 * k)).toNatClampNeg
def uT (g : Nat → Int32) (c : Nat) : Nat := (g (20 * c)).toNatClampNeg
def liN (g : Nat → Int32) : Nat := (g 120).toNatClampNeg
def moN (g : Nat → Int32) : Nat := (g 121).toNatClampNeg
def dyN (g : Nat → Int32) : Nat := (g 122).toNatClampNeg
def pN (T : Nat → Int32) (t : Nat) : Nat := (T (2 * t)).toNatClampNeg
def mN (T : Nat → Int32) (t : Nat) : Nat := (T (2 * t + 1)).toNatClampNeg
def fN (F : Nat → Int32) (c : Nat) : Nat := (F (16 * c + 1)).toNatClampNeg
def RW (nc nt : Nat) (g : Nat → Int32) : Prop :=
  (∀ c, c < nc → g (20 * c + 1) = nI (zN g c) ∧ 1 ≤ zN g c ∧ zN g c ≤ 6 ∧ (g (20 * c) = -nI 1 ∨ (g (20 * c) = nI (uT g c) ∧ uT g c < nt)) ∧
    ∀ k, k < zN g c → g (20 * c + 2 + 3 * k) = nI (oN g c k) ∧ oN g c k < 3 ∧ g (20 * c + 3 + 3 * k) = nI (aN g c k) ∧ aN g c k < 10 ∧ (oN g c k < 2 → aN g c k < 6) ∧ g (20 * c + 4 + 3 * k) = nI (iN g c k) ∧ iN g c k ≤ 9) ∧
  g 120 = nI (liN g) ∧ liN g ≤ 9 ∧ g 121 = nI (moN g) ∧ moN g ≤ 99 ∧ g 122 = nI (dyN g) ∧ dyN g < 1000000
def TW (nt : Nat) (T : Nat → Int32) : Prop := ∀ t, t < nt → T (2 * t) = nI (pN T t) ∧ pN T t ≤ 9 ∧ T (2 * t + 1) = nI (mN T t) ∧ mN T t < 64
def FW (nc : Nat) (F : Nat → Int32) : Prop := ∀ c, c < nc → F (16 * c + 1) = nI (fN F c) ∧ fN F c ≤ 9
/-- a shelf of the program is as a row says -/
def SR (nc : Nat) (ob sz so ab ik un g : Nat → Int32) : Prop :=
  (∀ c, c < nc → sz c = g (20 * c + 1) ∧ un c = g (20 * c) ∧ ∀ k, k < zN g c → so (6 * c + k) = g (20 * c + 2 + 3 * k) ∧ ab (6 * c + k) = g (20 * c + 3 + 3 * k) ∧ ik (6 * c + k) = g (20 * c + 4 + 3 * k)) ∧
  ob 2 = g 120 ∧ ob 3 = g 121 ∧ ob 4 = g 122
/-- the collection of the program is as a row, things and fades say -/
def CC (nc nt : Nat) (o p m f T F : Nat → Int32) : Prop := o 1 = nI nc ∧ o 0 = nI nt ∧ nc ≤ 6 ∧ nt ≤ 8 ∧ (∀ t, t < nt → p t = T (2 * t) ∧ m t = T (2 * t + 1)) ∧ ∀ c, c < nc → f c = F (16 * c + 1)
theorem gd_in {α : Type} {j n : Nat} {x : Option α} (h : j < n) (hn : n < 2147483648) : gd (inb (nI j) n) x = x := gd_t (in_nI h hn)
theorem gd_zB {α : Type} {b : Bool} {x : Option α} : gd (zb (bI b)) x = x := gd_t (bI_z b)
theorem nI_le0 {a : Nat} (h : a < 2 ^ 31) : (nI a ≤ nI 0) = (a = 0) := propext ((nI_leI h (by decide)).trans (by omega))
theorem and_0 {a b : Nat} (ha : a < 2 ^ 31) : (nI a &&& nI b = nI 0) = (a &&& b = 0) := by
  rw [fa_and]
  exact propext (nI_eq (Nat.lt_of_le_of_lt Nat.and_le_left ha) (by decide))
theorem bI_d {c : Prop} [Decidable c] : (if c then nI 1 else nI 0) = bI (decide c) := by
  by_cases h : c <;> simp [h, bI]
theorem bI_n {c : Prop} [Decidable c] : (if c then nI 0 else nI 1) = bI (decide (¬ c)) := by
  by_cases h : c <;> simp [h, bI]
/-! the model's looks -/
theorem mo_words {N q c : Nat} {μ : MM} (hq : sh_n q = 304) (hc : c < 15) : f_Mo_wordsOf N q (nI c) μ = some (μ.1 q (20 * c + 1), μ) := by
  simp (disch := omega) only [f_Mo_wordsOf, hq, l_20, l_1, pk_mul, nI_add, gd_in, nI_clamp]
theorem mo_sort {N q c k : Nat} {μ : MM} (hq : sh_n q = 304) (hc : c < 10) (hk : k < 20) : f_Mo_sortOf N q (nI c) (nI k) μ = some (μ.1 q (20 * c + 2 + 3 * k), μ) := by
  simp (disch := omega) only [f_Mo_sortOf, hq, l_20, l_2, l_3, pk_mul, nI_add, gd_in, nI_clamp]
theorem mo_what {N q c k : Nat} {μ : MM} (hq : sh_n q = 304) (hc : c < 10) (hk : k < 20) : f_Mo_whatOf N q (nI c) (nI k) μ = some (μ.1 q (20 * c + 3 + 3 * k), μ) := by
  simp (disch := omega) only [f_Mo_whatOf, hq, l_20, l_3, pk_mul, nI_add, gd_in, nI_clamp]
theorem mo_ink {N q c k : Nat} {μ : MM} (hq : sh_n q = 304) (hc : c < 10) (hk : k < 20) : f_Mo_inkOf N q (nI c) (nI k) μ = some (μ.1 q (20 * c + 4 + 3 * k), μ) := by
  simp (disch := omega) only [f_Mo_inkOf, hq, l_20, l_4, l_3, pk_mul, nI_add, gd_in, nI_clamp]
theorem mo_marks {N t : Nat} {μ : MM} (ht : t < 8) : f_Mo_marks N (nI t) μ = some (μ.1 362 (2 * t + 1), μ) := by
  simp (disch := omega) only [f_Mo_marks, l_2, l_1, pk_mul, nI_add, gd_in, nI_clamp]
theorem mo_has {N a b : Nat} {μ : MM} (ha : a < 2 ^ 31) (hb : b < 32) : f_Mo_has N (nI a) (nI b) μ = some (bI (tb a b), μ) := by
  simp (disch := omega) only [f_Mo_has, l_31, l_1, l_0, bit_1, gd_zB, bI_d]
  cases tb a b <;> rfl
def tru (g T : Nat → Int32) (nc c k t : Nat) : Bool :=
  if oN g c k < 2 then (tb (mN T t) (aN g c k) == decide (oN g c k = 0))
  else if aN g c k = c then decide (¬ mN T t = 0)
  else if nc ≤ aN g c k then false
  else if g (20 * aN g c k) = -nI 1 then false
  else decide (¬ mN T t &&& mN T (uT g (aN g c k)) = 0)
theorem mo_isTrue {N q nc nt c k t : Nat} {μ : MM} (hq : sh_n q = 304) (hw : RW nc nt (μ.1 q)) (hT : TW nt (μ.1 362)) (hm : μ.1 355 27 = nI nc) (hnc : nc ≤ 6) (hnt : nt ≤ 8) (hc : c < nc) (hk : k < zN (μ.1 q) c) (ht : t < nt) : f_Mo_isTrue N q (nI c) (nI k) (nI t) μ = some (bI (tru (μ.1 q) (μ.1 362) nc c k t), μ) := by
  obtain ⟨hz, hz1, hz6, hu, hk9⟩ := hw.1 c hc
  obtain ⟨ho, ho3, ha, ha10, ha6, hi, hi9⟩ := hk9 k hk
  obtain ⟨hp, hp9, hmk, hm64⟩ := hT t ht
  unfold f_Mo_isTrue tru
  rw [mo_what hq (by omega) (by omega), ob_e, mo_sort hq (by omega) (by omega), ob_e, ho, ha]
  by_cases h2 : oN (μ.1 q) c k < 2
  · have h6 := ha6 h2
    simp (disch := omega) only [l_2, nI_leI, if_neg, if_pos, mo_marks, ob_e, hmk, mo_has, mo_sort hq, ho, l_0, nI_eq, f_Mo_isTrue_B43, l_1, gd_zB, bI_d]
    have : (bI (tb (mN (μ.1 362) t) (aN (μ.1 q) c k)) = bI (decide (oN (μ.1 q) c k = 0))) = (tb (mN (μ.1 362) t) (aN (μ.1 q) c k) = decide (oN (μ.1 q) c k = 0)) := by
      cases tb (mN (μ.1 362) t) (aN (μ.1 q) c k) <;> cases decide (oN (μ.1 q) c k = 0) <;> decide
    simp only [this]
    rfl
  · simp (disch := omega) only [l_2, nI_leI, if_neg h2, if_pos, nI_eq, hm]
    by_cases h3 : aN (μ.1 q) c k = c
    · simp (disch := omega) only [if_pos h3, mo_marks, ob_e, hmk, l_0, l_1, nI_eq, gd_zB, bI_n]
    · simp only [if_neg h3]
      by_cases h4 : nc ≤ aN (μ.1 q) c k
      · simp only [if_pos h4, l_0]; rfl
      · obtain ⟨-, -, -, hu2, -⟩ := hw.1 (aN (μ.1 q) c k) (by omega)
        simp (disch := omega) only [if_neg h4, l_20, pk_mul, hq, gd_in, nI_clamp, l_1]
        by_cases h5 : μ.1 q (20 * aN (μ.1 q) c k) = -nI 1
        · simp only [if_pos h5, l_0]; rfl
        · obtain ⟨hu3, hu4⟩ := hu2.resolve_left h5
          obtain ⟨-, -, hmk2, hm642⟩ := hT _ hu4
          simp only [if_neg h5]
          rw [mo_marks (by omega), ob_e, hu3, mo_marks (by omega), ob_e, hmk, hmk2]
          simp (disch := omega) only [l_0, and_0, gd_zB, bI_n]
def fit (g T : Nat → Int32) (nc c t : Nat) : Bool := al (fun k => decide (iN g c k = 0) || tru g T nc c k t) (zN g c) 0
theorem mo_fitsIn {N q nc nt c t : Nat} (hN : 15000 ≤ N) {μ : MM} (hq : sh_n q = 304) (hw : RW nc nt (μ.1 q)) (hT : TW nt (μ.1 362)) (hm : μ.1 355 27 = nI nc) (hnc : nc ≤ 6) (hnt : nt ≤ 8) (hc : c < nc) (ht : t < nt) : f_Mo_fitsIn N q (nI c) (nI t) μ = some (bI (fit (μ.1 q) (μ.1 362) nc c t), μ) := by
  obtain ⟨hz, hz1, hz6, hu, hk9⟩ := hw.1 c hc
  have h := lpa (fun fu k => f_Mo_fitsIn_L3 N q fu (nI c) (nI t) (nI k) μ) (zN (μ.1 q) c) (fun k => decide (iN (μ.1 q) c k = 0) || tru (μ.1 q) (μ.1 362) nc c k t) (some (nI 1, μ)) (some (nI 0, μ)) (fun fu => by
      simp (disch := omega) only [f_Mo_fitsIn_L3, mo_words hq, ob_e, hz, nI_leI, Nat.le_refl, if_true, l_1]) (fun fu k hk => by
      obtain ⟨ho, ho3, ha, ha10, ha6, hi, hi9⟩ := hk9 k hk
      simp (disch := omega) only [f_Mo_fitsIn_L3, mo_words hq, mo_ink hq, ob_e, hz, hi, nI_leI, if_neg, l_0, l_1, nI_add, Nat.le_zero_eq]
      by_cases h0 : iN (μ.1 q) c k = 0
      · simp [h0]
      · rw [mo_isTrue hq hw hT hm hnc hnt hc hk ht]
        simp only [if_neg h0, ob_e, bI_0, h0, decide_false, Bool.false_or]
        cases tru (μ.1 q) (μ.1 362) nc c k t <;> rfl) (zN (μ.1 q) c) 0 N (by omega) (by omega)
  unfold f_Mo_fitsIn
  rw [l_0]
  refine h.trans ?_
  unfold fit
  cases al _ _ _ <;> rfl
def rgt (g T : Nat → Int32) (nc c : Nat) : Bool := if g (20 * c) = -nI 1 then false else fit g T nc c (uT g c)
theorem mo_isRight {N q nc nt c : Nat} (hN : 15000 ≤ N) {μ : MM} (hq : sh_n q = 304) (hw : RW nc nt (μ.1 q)) (hT : TW nt (μ.1 362)) (hm : μ.1 355 27 = nI nc) (hnc : nc ≤ 6) (hnt : nt ≤ 8) (hc : c < nc) : f_Mo_isRight N q (nI c) μ = some (bI (rgt (μ.1 q) (μ.1 362) nc c), μ) := by
  obtain ⟨hz, hz1, hz6, hu, hk9⟩ := hw.1 c hc
  unfold f_Mo_isRight rgt
  simp (disch := omega) only [l_20, pk_mul, hq, gd_in, nI_clamp, l_1, l_0]
  by_cases h5 : μ.1 q (20 * c) = -nI 1
  · simp only [if_pos h5]; rfl
  · obtain ⟨hu3, hu4⟩ := hu.resolve_left h5
    simp only [if_neg h5]
    rw [hu3, mo_fitsIn hN hq hw hT hm hnc hnt hc hu4, ob_e]
    simp only [bI_0]
    cases fit (μ.1 q) (μ.1 362) nc c (uT (μ.1 q) c) <;> rfl
def ovr (g : Nat → Int32) (nc : Nat) (x : Int32) : Option Nat := fi (fun c => decide (g (20 * c) = x)) nc 0
theorem mo_cardOver {N q nc : Nat} (hN : 15000 ≤ N) {μ : MM} {x : Int32} (hq : sh_n q = 304) (hm : μ.1 355 27 = nI nc) (hnc : nc ≤ 6) : f_Mo_cardOver N q x μ = some (oI (ovr (μ.1 q) nc x), μ) := by
  have h := lpi (fun fu k => f_Mo_cardOver_L2 N q fu x (nI k) μ) nc (fun c => decide (μ.1 q (20 * c) = x)) (some (-nI 1, μ)) (fun k => some (nI k, μ)) (fun fu => by
      simp (disch := omega) only [f_Mo_cardOver_L2, hm, nI_leI, Nat.le_refl, if_true, l_1]) (fun fu k hk => by
      simp (disch := omega) only [f_Mo_cardOver_L2, hm, hq, nI_leI, if_neg, l_20, l_1, pk_mul, gd_in, nI_clamp, nI_add, decide_eq_true_eq]) nc 0 N (by omega) (by omega)
  unfold f_Mo_cardOver
  rw [l_0]
  refine h.trans ?_
  unfold ovr
  cases fi _ nc 0 <;> rfl
def lef (g : Nat → Int32) (c : Nat) : Nat := fo (fun k n => if iN g c k = 0 then n else n + 1) (zN g c) 0 0
theorem mo_leftOf {N q nc nt c : Nat} (hN : 15000 ≤ N) {μ : MM} (hq : sh_n q = 304) (hw : RW nc nt (μ.1 q)) (hnc : nc ≤ 6) (hc : c < nc) : f_Mo_leftOf N q (nI c) μ = some (nI (lef (μ.1 q) c), μ) ∧ lef (μ.1 q) c ≤ zN (μ.1 q) c := by
  obtain ⟨hz, hz1, hz6, hu, hk9⟩ := hw.1 c hc
  have h := lpf (fun fu k (n : Nat) => f_Mo_leftOf_L4 N q fu (nI c) (nI n) (nI k) μ) (zN (μ.1 q) c) (fun k n => if iN (μ.1 q) c k = 0 then n else n + 1) (fun n => some (nI n, μ)) (fun k n => n ≤ k) (fun fu n hn => by
      simp (disch := omega) only [f_Mo_leftOf_L4, mo_words hq, ob_e, hz, nI_leI, Nat.le_refl, if_true]) (fun fu k n hk hn => by
      obtain ⟨ho, ho3, ha, ha10, ha6, hi, hi9⟩ := hk9 k hk
      simp (disch := omega) only [f_Mo_leftOf_L4, mo_words hq, mo_ink hq, ob_e, hz, hi, nI_leI, if_neg, l_0, l_1, nI_add, Nat.le_zero_eq]
      by_cases h0 : iN (μ.1 q) c k = 0
      · simp only [h0, if_true, nI_add, Nat.add_zero, true_and]; omega
      · simp only [h0, if_false, nI_add, true_and]; omega) (zN (μ.1 q) c) 0 N 0 (by omega) (by omega) (by omega)
  unfold f_Mo_leftOf
  rw [l_0]
  exact h
