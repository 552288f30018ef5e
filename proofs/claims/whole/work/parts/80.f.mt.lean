/-! ===== the program gets ready: prices in order ===== -/
def SO (pr b : Nat → Nat) (k : Nat) (row : Nat → Int32) : Prop := (∀ j, j < k → row j = nI (b j) ∧ b j < k) ∧ (∀ i j, i < j → j < k → pr (b i) ≤ pr (b j)) ∧ (∀ i j, i < j → j < k → ¬ b i = b j) ∧ ∀ t, t < k → ∃ j, j < k ∧ b j = t
theorem SO_put {pr b : Nat → Nat} {k q : Nat} {r0 row : Nat → Int32} (h : SO pr b k r0) (hq : q ≤ k) (h1 : ∀ j, j < q → row j = nI (b j)) (h2 : ∀ j, q < j → j ≤ k → row j = nI (b (j - 1))) (h3 : ∀ j, q ≤ j → j < k → pr k < pr (b j)) (h4 : q = 0 ∨ pr (b (q - 1)) ≤ pr k) (h5 : row q = nI k) : SO pr (fun j => if j < q then b j else if j = q then k else b (j - 1)) (k + 1) row := by
  obtain ⟨g1, g2, g3, g4⟩ := h
  have hlow : ∀ j, j < q → pr (b j) ≤ pr k := fun j hj => by
    rcases h4 with h4 | h4
    · omega
    · by_cases e : j = q - 1
      · subst e; exact h4
      · exact Nat.le_trans (g2 j (q - 1) (by omega) (by omega)) h4
  refine ⟨fun j hj => ?_, fun i j hij hj => ?_, fun i j hij hj => ?_, fun t ht => ?_⟩
  · by_cases q1 : j < q
    · simp only [if_pos q1]
      exact ⟨h1 j q1, by have := (g1 j (by omega)).2; omega⟩
    · by_cases q2 : j = q
      · subst q2
        simp only [Nat.lt_irrefl, if_false, if_true]
        exact ⟨h5, by omega⟩
      · simp only [if_neg q1, if_neg q2]
        exact ⟨h2 j (by omega) (by omega), by have := (g1 (j - 1) (by omega)).2; omega⟩
  · by_cases q1 : j < q
    · simp only [if_pos q1, if_pos (show i < q by omega)]
      exact g2 i j hij (by omega)
    · by_cases q2 : j = q
      · subst q2
        simp only [Nat.lt_irrefl, if_false, if_true, if_pos hij]
        exact hlow i hij
      · simp only [if_neg q1, if_neg q2]
        by_cases q3 : i < q
        · simp only [if_pos q3]
          exact Nat.le_trans (hlow i q3) (Nat.le_of_lt (h3 (j - 1) (by omega) (by omega)))
        · by_cases q4 : i = q
          · subst q4
            simp only [Nat.lt_irrefl, if_false, if_true]
            exact Nat.le_of_lt (h3 (j - 1) (by omega) (by omega))
          · simp only [if_neg q3, if_neg q4]
            exact g2 (i - 1) (j - 1) (by omega) (by omega)
  · by_cases q1 : j < q
    · simp only [if_pos q1, if_pos (show i < q by omega)]
      exact g3 i j hij (by omega)
    · by_cases q2 : j = q
      · subst q2
        simp only [Nat.lt_irrefl, if_false, if_true, if_pos hij]
        have := (g1 i (by omega)).2
        omega
      · simp only [if_neg q1, if_neg q2]
        by_cases q3 : i < q
        · simp only [if_pos q3]
          exact g3 i (j - 1) (by omega) (by omega)
        · by_cases q4 : i = q
          · subst q4
            simp only [Nat.lt_irrefl, if_false, if_true]
            have := (g1 (j - 1) (by omega)).2
            omega
          · simp only [if_neg q3, if_neg q4]
            exact g3 (i - 1) (j - 1) (by omega) (by omega)
  · by_cases e : t = k
    · refine ⟨q, by omega, ?_⟩
      simp only [Nat.lt_irrefl, if_false, if_true]
      exact e.symm
    · obtain ⟨j, j1, j2⟩ := g4 t (by omega)
      by_cases q1 : j < q
      · exact ⟨j, by omega, by simp only [if_pos q1]; exact j2⟩
      · refine ⟨j + 1, by omega, ?_⟩
        simp only [if_neg (show ¬ j + 1 < q by omega), if_neg (show ¬ j + 1 = q by omega), Nat.add_sub_cancel]
        exact j2
theorem ma_sortI {N nt k : Nat} (hnt : nt ≤ 8) {pr b : Nat → Nat} (hp9 : ∀ t, pr t ≤ 9) {r0 : Nat → Int32} {μs : MM} (hpr : ∀ t, t < nt → μs.1 24 t = nI (pr t)) (hk : k < nt) (hs : SO pr b k r0) (k2 : Int32 → MM → Option MM) : ∀ (q fu : Nat) (μ : MM), q ≤ k → q < fu → μ.2 = μs.2 → (∀ a, a ≠ 335 → μ.1 a = μs.1 a) → (∀ j, j < q → μ.1 335 j = nI (b j)) → (∀ j, q < j → j ≤ k → μ.1 335 j = nI (b (j - 1))) → (∀ j, q ≤ j → j < k → pr k < pr (b j)) →
    ∃ μ', f_Ma_sortByPrice_L15 N k2 fu (nI k) (nI q) μ = k2 (nI (k + 1)) μ' ∧ μ'.2 = μs.2 ∧ (∀ a, a ≠ 335 → μ'.1 a = μs.1 a) ∧ ∃ b', SO pr b' (k + 1) (μ'.1 335) := by
  intro q
  have hend : ∀ (q : Nat) (μ : MM), q ≤ k → μ.2 = μs.2 → (∀ a, a ≠ 335 → μ.1 a = μs.1 a) → (∀ j, j < q → μ.1 335 j = nI (b j)) → (∀ j, q < j → j ≤ k → μ.1 335 j = nI (b (j - 1))) → (∀ j, q ≤ j → j < k → pr k < pr (b j)) → (q = 0 ∨ pr (b (q - 1)) ≤ pr k) →
      ∃ μ', f_Ma_sortByPrice_B67 N k2 (nI k) (nI q) μ = k2 (nI (k + 1)) μ' ∧ μ'.2 = μs.2 ∧ (∀ a, a ≠ 335 → μ'.1 a = μs.1 a) ∧ ∃ b', SO pr b' (k + 1) (μ'.1 335) := by
    intro q μ hq e1 e2 e3 e4 e5 e6
    unfold f_Ma_sortByPrice_B67
    rw [gd_in (by omega) (by omega), nI_clamp (by omega), wr_e, l_1, nI_add]
    refine ⟨_, rfl, e1, fun a ha => by rw [gI_o ha]; exact e2 a ha, _, SO_put hs hq (fun j hj => ?_) (fun j h1 h2 => ?_) e5 e6 ?_⟩
    · rw [gI_s, if_neg (by omega)]; exact e3 j hj
    · rw [gI_s, if_neg (by omega)]; exact e4 j h1 h2
    · rw [gI_s, if_pos rfl]
  induction q with
  | zero =>
    intro fu μ hq hf e1 e2 e3 e4 e5
    obtain ⟨fu, rfl⟩ : ∃ q, fu = q + 1 := ⟨fu - 1, by omega⟩
    rw [f_Ma_sortByPrice_L15, l_0, if_pos (nI_le (Nat.le_refl 0) (by decide))]
    exact hend 0 μ hq e1 e2 e3 e4 e5 (Or.inl rfl)
  | succ q ih =>
    intro fu μ hq hf e1 e2 e3 e4 e5
    obtain ⟨fu, rfl⟩ : ∃ q, fu = q + 1 := ⟨fu - 1, by omega⟩
    have hbq := (hs.1 q (by omega)).2
    have h24 : ∀ t, t < nt → μ.1 24 t = nI (pr t) := fun t ht => by rw [e2 24 (by decide)]; exact hpr t ht
    have p1 := hp9 (b q)
    have p2 := hp9 k
    rw [f_Ma_sortByPrice_L15, if_neg (nI_nle (by omega) (by omega)), nI_pred, gd_in (by omega) (by omega), nI_clamp (by omega), e3 q (by omega), gd_in (by omega) (by omega), gd_in (by omega) (by omega), nI_clamp (by omega), nI_clamp (by omega), h24 _ (by omega), h24 _ hk]
    by_cases hc : nI (pr (b q)) ≤ nI (pr k)
    · rw [if_pos hc]
      rw [nI_leI (by omega) (by omega)] at hc
      exact hend (q + 1) μ hq e1 e2 e3 e4 e5 (Or.inr hc)
    · rw [if_neg hc]
      rw [nI_leI (by omega) (by omega)] at hc
      rw [gd_in (by omega) (by omega), gd_in (by omega) (by omega), nI_clamp (by omega), wr_e, pk_m1]
      refine ih fu _ (by omega) (by omega) e1 (fun a ha => by rw [gI_o ha]; exact e2 a ha) (fun j hj => ?_) (fun j h1 h2 => ?_) (fun j h1 h2 => ?_)
      · rw [gI_s, if_neg (by omega)]; exact e3 j (by omega)
      · rw [gI_s]
        by_cases q1 : j = q + 1
        · subst q1; rw [if_pos rfl]; rfl
        · rw [if_neg q1]; exact e4 j (by omega) h2
      · by_cases q1 : j = q
        · subst q1; omega
        · exact e5 j (by omega) h2
theorem ma_sort {N nt : Nat} (hN : 15000 ≤ N) (hnt : nt ≤ 8) {pr : Nat → Nat} (hp9 : ∀ t, pr t ≤ 9) {μ : MM} (h0 : μ.1 23 0 = nI nt) (hpr : ∀ t, t < nt → μ.1 24 t = nI (pr t)) : ∃ μ', f_Ma_sortByPrice N μ = some μ' ∧ μ'.2 = μ.2 ∧ (∀ a, a ≠ 335 → μ'.1 a = μ.1 a) ∧ ∃ b, SO pr b nt (μ'.1 335) := by
  refine lpE (fun fu k μ1 => f_Ma_sortByPrice_L2 N fu (nI k) μ1) nt (fun k μ1 => μ1.2 = μ.2 ∧ (∀ a, a ≠ 335 → μ1.1 a = μ.1 a) ∧ ∃ b, SO pr b k (μ1.1 335)) (fun y => ∃ μ', y = some μ' ∧ μ'.2 = μ.2 ∧ (∀ a, a ≠ 335 → μ'.1 a = μ.1 a) ∧ ∃ b, SO pr b nt (μ'.1 335)) (fun fu μ1 hp => ?_) (fun fu k μ1 hk hp => Or.inl ?_) nt 0 N μ (by omega) (by omega) ⟨rfl, fun _ _ => rfl, fun j => j, fun j hj => by omega, fun i j _ hj => by omega, fun i j _ hj => by omega, fun t ht => by omega⟩
  · obtain ⟨e1, e2, e3⟩ := hp
    rw [f_Ma_sortByPrice_L2, e2 23 (by decide), h0, if_pos (nI_le (Nat.le_refl _) (by omega))]
    exact ⟨μ1, rfl, e1, e2, e3⟩
  · obtain ⟨e1, e2, b, e3⟩ := hp
    rw [f_Ma_sortByPrice_L2, e2 23 (by decide), h0, if_neg (nI_ge hk (by omega))]
    exact ma_sortI (N := N) hnt hp9 (μs := μ) hpr hk e3 (f_Ma_sortByPrice_L2 N fu) k N μ1 (Nat.le_refl _) (by omega) e1 e2 (fun j hj => (e3.1 j hj).1) (fun j h1 h2 => by omega) (fun j h1 h2 => by omega)
