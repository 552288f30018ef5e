/-! ===== the model's search for the best ===== -/
theorem mo_hasB {N b : Nat} {x : Int32} {μ : MM} (hb : b < 32) : f_Mo_has N x (nI b) μ = some (bI (bt x b), μ) := by
  simp (disch := omega) only [f_Mo_has, l_31, l_1, l_0, bq_1, gd_zB, bI_d]
  cases bt x b <;> rfl
def NS (nc nt : Nat) (g T : Nat → Int32) (m : MM) : Prop := m.1 355 27 = nI nc ∧ m.1 355 26 = nI nt ∧ m.1 362 = T ∧ TQ nc g (m.1 369) ∧ ∀ c, c < nc → m.1 369 (20 * c) = -nI 1 ∨ ∃ t, t < nt ∧ m.1 369 (20 * c) = nI t
def NU (c : Nat) (m m' : MM) : Prop := m'.2 = m.2 ∧ (∀ a, a ≠ 355 → a ≠ 369 → m'.1 a = m.1 a) ∧ (∀ j, j ≠ 39 → j ≠ 40 → j ≠ 41 → m'.1 355 j = m.1 355 j) ∧ ∀ i, i < c → m'.1 369 (20 * i) = m.1 369 (20 * i)
theorem NU_r {c : Nat} {m : MM} : NU c m m := ⟨rfl, fun _ _ _ => rfl, fun _ _ _ _ => rfl, fun _ _ => rfl⟩
theorem NU_t {c : Nat} {m m1 m2 : MM} (h : NU c m m1) (h2 : NU c m1 m2) : NU c m m2 := ⟨h2.1.trans h.1, fun a a1 a2 => (h2.2.1 a a1 a2).trans (h.2.1 a a1 a2), fun j j1 j2 j3 => (h2.2.2.1 j j1 j2 j3).trans (h.2.2.1 j j1 j2 j3), fun i hi => (h2.2.2.2 i hi).trans (h.2.2.2 i hi)⟩
theorem NU_l {c c' : Nat} {m m1 : MM} (h : NU c' m m1) (hc : c ≤ c') : NU c m m1 := ⟨h.1, h.2.1, h.2.2.1, fun i hi => h.2.2.2 i (by omega)⟩
theorem NU_w {c k : Nat} {v : Int32} {m : MM} (hk : c ≤ k) : NU c m (mm_I m 369 (20 * k) v) := ⟨rfl, fun a _ a2 => gI_o a2, fun j _ _ _ => by rw [gI_o (by decide)], fun i hi => by rw [gI_s, if_neg (by omega)]⟩
theorem NS_w {nc nt : Nat} {g T : Nat → Int32} {m : MM} (h : NS nc nt g T m) {c v : Nat} (hc : c < nc) (hv : v = 9 ∨ v < nt) (hnt : nt ≤ 8) : NS nc nt g T (mm_I m 369 (20 * c) (vI v)) := by
  obtain ⟨h1, h2, h3, h4, h5⟩ := h
  refine ⟨by rw [gI_o (by decide)]; exact h1, by rw [gI_o (by decide)]; exact h2, by rw [gI_o (by decide)]; exact h3, fun k hk hq => ?_, fun i hi => ?_⟩
  · rw [gI_s, if_neg (hq c hc)]; exact h4 k hk hq
  · rw [gI_s]
    by_cases q : i = c
    · subst q
      rw [if_pos rfl]
      rcases hv with q9 | q9
      · subst q9; exact Or.inl vI_9
      · exact Or.inr ⟨v, q9, vI_n (by omega)⟩
    · rw [if_neg (by omega)]; exact h5 i hi
def NB2 (B : Option (Nat × Nat × Nat)) (m : MM) : Prop := match B with
  | none => m.1 355 40 = nI 0 ∧ m.1 355 41 = nI 1000000
  | some (n, p, d) => m.1 355 40 = nI n ∧ m.1 355 41 = nI p ∧ m.1 355 39 = nI d ∧ n ≤ 6 ∧ p ≤ 54
theorem NB2_of {B : Option (Nat × Nat × Nat)} {m m' : MM} (h : NB2 B m) (he : m'.1 355 = m.1 355) : NB2 B m' := by
  unfold NB2 at h ⊢
  rw [he]; exact h
theorem mo_leaf {N nc nt : Nat} (hN : 15000 ≤ N) {g T : Nat → Int32} (hw : RW nc nt g) (hT : TW nt T) (hnc : nc ≤ 6) (hnt : nt ≤ 8) {m : MM} (hS : NS nc nt g T m) {s : Nat → Nat} (hk : mt_ok nt s nc) (hch : ∀ i, i < nc → m.1 369 (20 * i) = vI (s i)) (rc : Int32 → Int32 → Int32 → Int32 → Int32 → MM → Option MM) (x3 x4 x5 : Int32) : f_Mo_goMatch_L45 N rc N x3 x4 x5 0 m = if mt_Vb g T nc s = true then some (mm_I (mm_I (mm_I m 355 39 x5) 355 40 x3) 355 41 x4) else some m := by
  obtain ⟨h1, h2, h3, h4, h5⟩ := hS
  have hw' := TQ_w hw hnc h4 h5 hnt
  have hT' : TW nt (m.1 362) := by rw [h3]; exact hT
  exact lpa (fun fu k => f_Mo_goMatch_L45 N rc fu x3 x4 x5 (nI k) m) nc (fun k => decide (s k = 9) || mt_fit g T nc s k (s k)) (some (mm_I (mm_I (mm_I m 355 39 x5) 355 40 x3) 355 41 x4)) (some m) (fun fu => by
      simp (disch := omega) only [f_Mo_goMatch_L45, h1, nI_leI, Nat.le_refl, if_true, wr_e]) (fun fu k hk2 => by
      have e1 := hch k hk2
      simp (disch := omega) only [f_Mo_goMatch_L45, h1, nI_leI, if_neg, l_20, l_1, l_0, pk_mul, gd_in, nI_clamp, e1, nI_add]
      rcases hk.1 k hk2 with q | q
      · have q9 : ¬ s k = 9 := by omega
        rw [vI_n q9]
        simp (disch := omega) only [m_eq, if_false]
        rw [mo_fitsIn hN n_369' hw' hT' h1 hnc hnt hk2 q, ob_e, h3, TQ_f hw hnc hnt h4 (fun i hi => ⟨hch i hi, hk.1 i hi⟩) hk2]
        simp only [bI_0, q9, decide_false, Bool.false_or]
        cases mt_fit g T nc s k (s k) <;> rfl
      · rw [q, vI_9]
        simp) nc 0 N (by omega) (by omega)
theorem mo_goMatch {N nc nt : Nat} (hN : 15000 ≤ N) {g T : Nat → Int32} {pr : Nat → Nat} (hw : RW nc nt g) (hT : TW nt T) (hnc : nc ≤ 6) (hnt : nt ≤ 8) (hpr : ∀ t, t < nt → T (2 * t) = nI (pr t)) (hp9 : ∀ t, pr t ≤ 9) : ∀ (r c T' : Nat) (s : Nat → Nat) (B : Option (Nat × Nat × Nat)) (x : Int32) (m : MM), c + r = nc → r < T' → NS nc nt g T m → mt_ok nt s c → (∀ t, t < nt → bt x t = mt_us s c t) → (∀ i, i < c → m.1 369 (20 * i) = vI (s i)) → NB2 B m →
    ∃ m', f_Mo_goMatch_t N T' (nI c) x (nI (mt_n s c)) (nI (mt_p pr s c)) (nI (mt_d s c)) m = some m' ∧ NU c m m' ∧ NS nc nt g T m' ∧ NB2 (mt_go nt pr (mt_Vb g T nc) r c s B) m' := by
  intro r
  induction r with
  | zero =>
    intro c T' s B x m hc hT' hS hk hx hch hB
    obtain ⟨T', rfl⟩ : ∃ q, T' = q + 1 := ⟨T' - 1, by omega⟩
    have hcn : c = nc := by omega
    subst hcn
    have hn6 := mt_nL s c
    have hpL := mt_pL (s := s) hp9 c
    rw [f_Mo_goMatch_t, f_Mo_goMatch_body, hS.1, nI_add, pk_sub (by omega), if_pos (show nI c = nI c from rfl)]
    rw [mo_leaf hN hw hT hnc hnt hS hk hch]
    have hwrite : ∃ m', some (mm_I (mm_I (mm_I m 355 39 (nI (mt_d s c))) 355 40 (nI (mt_n s c))) 355 41 (nI (mt_p pr s c))) = some m' ∧ NU c m m' ∧ NS c nt g T m' ∧ NB2 (some (mt_n s c, mt_p pr s c, mt_d s c)) m' := by
      refine ⟨_, rfl, ⟨rfl, fun a a1 a2 => by rw [gI_o a1, gI_o a1, gI_o a1], fun j j1 j2 j3 => by rw [gI_s, if_neg j3, gI_s, if_neg j2, gI_s, if_neg j1], fun i hi => by rw [gI_o (by decide), gI_o (by decide), gI_o (by decide)]⟩, ?_, ?_⟩
      · obtain ⟨h1, h2, h3, h4, h5⟩ := hS
        refine ⟨?_, ?_, ?_, ?_, ?_⟩
        · rw [gI_s, if_neg (by decide), gI_s, if_neg (by decide), gI_s, if_neg (by decide)]; exact h1
        · rw [gI_s, if_neg (by decide), gI_s, if_neg (by decide), gI_s, if_neg (by decide)]; exact h2
        · rw [gI_o (by decide), gI_o (by decide), gI_o (by decide)]; exact h3
        · rw [gI_o (by decide), gI_o (by decide), gI_o (by decide)]; exact h4
        · rw [gI_o (by decide), gI_o (by decide), gI_o (by decide)]; exact h5
      · refine ⟨?_, ?_, ?_, by omega, by omega⟩
        · rw [gI_s, if_neg (by decide), gI_s, if_pos rfl]
        · rw [gI_s, if_pos rfl]
        · rw [gI_s, if_neg (by decide), gI_s, if_neg (by decide), gI_s, if_pos rfl]
    have hsame : ∃ m', some m = some m' ∧ NU c m m' ∧ NS c nt g T m' ∧ NB2 B m' := ⟨m, rfl, NU_r, hS, hB⟩
    rw [mt_go]
    cases B with
    | none =>
      obtain ⟨g1, g2⟩ := hB
      rw [g1, g2, if_pos (nI_le (by omega) (by omega))]
      rw [if_pos (show nI (mt_p pr s c) < nI 1000000 from nI_lt (by omega) (by decide)), ite_self, show mt_up none (mt_n s c) (mt_p pr s c) (mt_d s c) = some (mt_n s c, mt_p pr s c, mt_d s c) from rfl]
      cases mt_Vb g T c s
      · simpa using hsame
      · simpa using hwrite
    | some bb =>
      obtain ⟨n', p', d'⟩ := bb
      obtain ⟨g1, g2, g3, g4, g5⟩ := id hB
      rw [g1, g2]
      simp (disch := omega) only [nI_leI, nI_eq, nI_ltI]
      have hup : mt_up (some (n', p', d')) (mt_n s c) (mt_p pr s c) (mt_d s c) = if n' < mt_n s c ∨ (n' = mt_n s c ∧ mt_p pr s c < p') then some (mt_n s c, mt_p pr s c, mt_d s c) else some (n', p', d') := rfl
      rw [hup]
      by_cases q1 : n' ≤ mt_n s c + c - c
      · rw [if_pos q1]
        by_cases q2 : mt_n s c = n'
        · rw [if_pos q2]
          by_cases q3 : mt_p pr s c < p'
          · rw [if_pos q3, if_pos (Or.inr ⟨q2.symm, q3⟩)]
            cases mt_Vb g T c s
            · simpa using hsame
            · simpa using hwrite
          · rw [if_neg q3, if_neg (show ¬ (n' < mt_n s c ∨ (n' = mt_n s c ∧ mt_p pr s c < p')) by omega)]
            cases mt_Vb g T c s
            · simpa using hsame
            · simpa using hsame
        · rw [if_neg q2, if_pos (show n' < mt_n s c ∨ (n' = mt_n s c ∧ mt_p pr s c < p') by omega)]
          cases mt_Vb g T c s
          · simpa using hsame
          · simpa using hwrite
      · rw [if_neg q1, if_neg (show ¬ (n' < mt_n s c ∨ (n' = mt_n s c ∧ mt_p pr s c < p')) by omega)]
        cases mt_Vb g T c s
        · simpa using hsame
        · simpa using hsame
  | succ r ih =>
    intro c T' s B x m hc hT' hS hk hx hch hB
    obtain ⟨T', rfl⟩ : ∃ q, T' = q + 1 := ⟨T' - 1, by omega⟩
    have hn6 := mt_nL s c
    rw [f_Mo_goMatch_t, f_Mo_goMatch_body, hS.1, nI_add, pk_sub (by omega), if_neg (show ¬ nI c = nI nc by rw [nI_eq (by omega) (by omega)]; omega)]
    have hrec : ∀ v m1 B1, (v = 9 ∨ (v < nt ∧ mt_us s c v = false)) → NU c m m1 → NS nc nt g T m1 → NB2 B1 m1 →
          ∃ m', f_Mo_goMatch_t N T' (nI (c + 1)) (if v = 9 then x else x ||| (nI 1 <<< (nI v &&& nI 31))) (nI (mt_n s c + (if v = 9 then 0 else 1))) (nI (mt_p pr s c + (if v = 9 then 0 else pr v))) (nI (10 * mt_d s c + v)) (mm_I m1 369 (20 * c) (vI v)) = some m' ∧ NU c m m' ∧ NS nc nt g T m' ∧ NB2 (mt_go nt pr (mt_Vb g T nc) r (c + 1) (mt_u s c v) B1) m' := by
      intro v m1 B1 hv hu hS1 hB1
      obtain ⟨m', e1, e2, e3, e4⟩ := ih (c + 1) T' (mt_u s c v) B1 (if v = 9 then x else x ||| (nI 1 <<< (nI v &&& nI 31))) (mm_I m1 369 (20 * c) (vI v)) (by omega) (by omega) (NS_w hS1 (by omega) (hv.imp id (fun q => q.1)) hnt) (mt_okU hk hv) (fun t ht => by
            rw [mt_usU]
            by_cases h9 : v = 9
            · rw [if_pos h9, hx t ht, decide_eq_false (by omega), Bool.or_false]
            · rw [if_neg h9, b_put (by have := (hv.resolve_left h9).1; omega) (by omega), hx t ht]) (fun i hi => by
            by_cases q : i = c
            · subst q; rw [gI_s, if_pos rfl, mt_uS]
            · rw [gI_s, if_neg (by omega), mt_uO q, hu.2.2.2 i (by omega)]; exact hch i (by omega)) (NB2_of hB1 (gI_o (by decide)))
      rw [mt_nU, mt_pU, mt_dU] at e1
      exact ⟨m', e1, NU_t (NU_t hu (NU_w (Nat.le_refl c))) (NU_l e2 (by omega)), e3, e4⟩
    have hloop : ∃ m', f_Mo_goMatch_L119 N (fun x1 x2 x3 x4 x5 μ => f_Mo_goMatch_t N T' x1 x2 x3 x4 x5 μ) N (nI c) x (nI (mt_n s c)) (nI (mt_p pr s c)) (nI (mt_d s c)) (nI 0) m = some m' ∧ NU c m m' ∧ NS nc nt g T m' ∧ NB2 (mt_go nt pr (mt_Vb g T nc) (r + 1) c s B) m' := by
      refine lpE (fun fu k m1 => f_Mo_goMatch_L119 N (fun x1 x2 x3 x4 x5 μ => f_Mo_goMatch_t N T' x1 x2 x3 x4 x5 μ) fu (nI c) x (nI (mt_n s c)) (nI (mt_p pr s c)) (nI (mt_d s c)) (nI k) m1) nt (fun k m1 => NU c m m1 ∧ NS nc nt g T m1 ∧ NB2 (fo (fun t B => if mt_us s c t = true then B else mt_go nt pr (mt_Vb g T nc) r (c + 1) (mt_u s c t) B) k 0 B) m1) (fun y => ∃ m', y = some m' ∧ NU c m m' ∧ NS nc nt g T m' ∧ NB2 (mt_go nt pr (mt_Vb g T nc) (r + 1) c s B) m') (fun fu m1 hp => ?_) (fun fu k m1 hk2 hp => Or.inl ?_) nt 0 N m (by omega) (by omega) ⟨NU_r, hS, hB⟩
      · obtain ⟨hu, hS1, hb1⟩ := hp
        rw [f_Mo_goMatch_L119, hS1.2.1, if_pos (nI_le (by omega) (by omega)), l_20, pk_mul, gd_in (by omega) (by omega), nI_clamp (by omega), wr_e, mt_go]
        obtain ⟨m', e1, e2, e3, e4⟩ := hrec 9 m1 _ (Or.inl rfl) hu hS1 hb1
        rw [if_pos rfl, if_pos rfl, if_pos rfl] at e1
        simp only [Nat.add_zero] at e1
        rw [show (-1 : Int32) = vI 9 from rfl, l_1, l_10, l_9, nI_add, pk_mul, nI_add, e1, obv_e]
        exact ⟨m', rfl, e2, e3, e4⟩
      · obtain ⟨hu, hS1, hb1⟩ := hp
        have hfo := fo_succ (fun t B => if mt_us s c t = true then B else mt_go nt pr (mt_Vb g T nc) r (c + 1) (mt_u s c t) B) k 0 B
        rw [Nat.zero_add] at hfo
        rw [f_Mo_goMatch_L119, hS1.2.1, if_neg (by rw [nI_leI (by omega) (by omega)]; omega), mo_hasB (by omega), ob_e, hx k hk2, l_1]
        simp only [nI_add]
        cases hus : mt_us s c k
        · rw [l_0, bI_f, if_pos rfl, l_20, l_2, pk_mul, pk_mul, gd_in (by omega) (by omega), nI_clamp (by omega), wr_e, gd_in (by omega) (by omega), nI_clamp (by omega)]
          obtain ⟨m', e1, e2, e3, e4⟩ := hrec k m1 _ (Or.inr ⟨hk2, hus⟩) hu hS1 hb1
          have h9 : ¬ k = 9 := by omega
          have e24 : (mm_I m1 369 (20 * c) (vI k)).1 362 (2 * k) = nI (pr k) := by rw [gI_o (by decide), hS1.2.2.1]; exact hpr k hk2
          rw [if_neg h9, if_neg h9, if_neg h9] at e1
          rw [vI_n h9] at e1 e24
          rw [e24, l_31, l_10, pk_mul]
          simp only [nI_add]
          rw [e1, obv_e]
          exact ⟨m', rfl, e2, e3, by rw [hfo, if_neg (by simp [hus])]; exact e4⟩
        · rw [l_0, bI_t, if_neg (by decide)]
          exact ⟨m1, rfl, hu, hS1, by rw [hfo, if_pos hus]; exact hb1⟩
    by_cases q : m.1 355 40 ≤ nI (mt_n s c + nc - c)
    · rw [if_pos q]; exact hloop
    · rw [if_neg q]
      refine ⟨m, rfl, NU_r, hS, ?_⟩
      rw [mt_none (nc := nc) (r + 1) c s hc hk (fun s' e1 e2 e3 => ?_)]
      · exact hB
      · cases B with
        | none =>
          obtain ⟨g1, g2⟩ := hB
          rw [g1] at q
          exact absurd (nI_le (by omega) (by omega)) q
        | some bb =>
          obtain ⟨n', p', d'⟩ := bb
          obtain ⟨g1, g2, g3, g4, g5⟩ := hB
          rw [g1, nI_leI (by omega) (by omega)] at q
          refine ⟨n', p', d', rfl, ?_⟩
          have h1 := mt_nM s' c (r + 1)
          rw [hc, mt_nC e1] at h1
          omega
