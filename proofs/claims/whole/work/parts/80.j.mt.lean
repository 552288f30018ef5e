/-! ===== clash ===== -/
def mt_ex (nt nc : Nat) (V : (Nat → Nat) → Bool) (mk : Int32) (c : Nat) (s : Nat → Nat) : Prop := ∃ s' : Nat → Nat, (∀ i, i < c → s' i = s i) ∧ mt_ok nt s' nc ∧ V s' = true ∧ ∀ k, c ≤ k → k < nc → (¬ s' k = 9 ↔ bt mk k = true)
theorem mt_exN {nt nc : Nat} {V : (Nat → Nat) → Bool} {mk : Int32} {c : Nat} {s : Nat → Nat} (hc : c < nc) (h : bt mk c = false) : mt_ex nt nc V mk c s ↔ mt_ex nt nc V mk (c + 1) (mt_u s c 9) := by
  constructor
  · rintro ⟨s', e1, e2, e3, e4⟩
    refine ⟨s', fun i hi => ?_, e2, e3, fun k k1 k2 => e4 k (by omega) k2⟩
    by_cases q : i = c
    · subst q
      rw [mt_uS]
      have := e4 i (Nat.le_refl _) hc
      rw [h] at this
      exact Decidable.byContradiction (fun q2 => by cases this.mp q2)
    · rw [mt_uO q]; exact e1 i (by omega)
  · rintro ⟨s', e1, e2, e3, e4⟩
    refine ⟨s', fun i hi => by rw [e1 i (by omega), mt_uO (by omega)], e2, e3, fun k k1 k2 => ?_⟩
    by_cases q : k = c
    · subst q
      rw [e1 k (by omega), mt_uS, h]
      simp
    · exact e4 k (by omega) k2
theorem mt_exY {nt nc : Nat} {V : (Nat → Nat) → Bool} {mk : Int32} {c : Nat} {s : Nat → Nat} (hc : c < nc) (hnt : nt ≤ 8) (h : bt mk c = true) : mt_ex nt nc V mk c s ↔ ∃ t, t < nt ∧ mt_us s c t = false ∧ mt_ex nt nc V mk (c + 1) (mt_u s c t) := by
  constructor
  · rintro ⟨s', e1, e2, e3, e4⟩
    have h9 := (e4 c (Nat.le_refl _) hc).mpr h
    refine ⟨s' c, (e2.1 c hc).resolve_right h9, ?_, s', fun i hi => ?_, e2, e3, fun k k1 k2 => e4 k (by omega) k2⟩
    · rw [mt_usF]
      intro i hi e
      rw [← e1 i hi] at e
      have := e2.2 i c (by omega) hc e (by rw [e]; exact h9)
      omega
    · by_cases q : i = c
      · subst q; rw [mt_uS]
      · rw [mt_uO q]; exact e1 i (by omega)
  · rintro ⟨t, t1, t2, s', e1, e2, e3, e4⟩
    refine ⟨s', fun i hi => by rw [e1 i (by omega), mt_uO (by omega)], e2, e3, fun k k1 k2 => ?_⟩
    by_cases q : k = c
    · subst q
      rw [e1 k (by omega), mt_uS, h]
      simp
      omega
    · exact e4 k (by omega) k2
theorem ma_canAll {N nc nt : Nat} (hN : 15000 ≤ N) {pr b h : Nat → Nat} {BA LI AL AB : Nat → Nat → Bool} {V : (Nat → Nat) → Bool} (hF : MF nc nt pr b h BA LI AL AB V) {mk : Int32} : ∀ (r c T : Nat) (s : Nat → Nat) (x : Int32) (μ : MM), c + r = nc → r < T → MS nc nt pr b h LI AL AB μ → mt_ok nt s c → mt_PA BA LI AL s c → (∀ t, t < nt → bt x t = mt_us s c t) → (∀ i, i < c → μ.1 340 i = vI (s i)) →
    ∃ y μ', f_Ma_canAll_t N T (nI c) mk x μ = some (bI y, μ') ∧ MU c μ μ' ∧ (y = true ↔ mt_ex nt nc V mk c s) := by
  intro r
  induction r with
  | zero =>
    intro c T s x μ hc hT hS hk hP hx hch
    obtain ⟨T, rfl⟩ : ∃ q, T = q + 1 := ⟨T - 1, by omega⟩
    have hcn : c = nc := by omega
    subst hcn
    have hnc := hS.2.2.1
    rw [f_Ma_canAll_t, f_Ma_canAll_body, hS.1, if_neg (nI_nlt (Nat.le_refl _) (by omega))]
    exact ⟨true, μ, rfl, MU_r, fun _ => ⟨s, fun _ _ => rfl, hk, (hF.2.2.2.2.2.2.1 s hk).mpr (mt_PAV hP), fun k k1 k2 => by omega⟩, fun _ => rfl⟩
  | succ r ih =>
    intro c T s x μ hc hT hS hk hP hx hch
    obtain ⟨T, rfl⟩ : ∃ q, T = q + 1 := ⟨T - 1, by omega⟩
    have hnc := hS.2.2.1
    have hnt := hS.2.2.2.1
    have hAB := hS.2.2.2.2.2.2.2.2.2.2.1
    obtain ⟨f1, f2, f3, f4, f5, f6, f7, f8, f9, f10⟩ := id hF
    have hrec : ∀ v μ1, (v = 9 ∨ (v < nt ∧ mt_us s c v = false ∧ AB c v = true)) → mt_ag LI AL s c v = true → MU c μ μ1 →
          ∃ y μ', f_Ma_canAll_t N T (nI (c + 1)) mk (if v = 9 then x else x ||| (nI 1 <<< (nI v &&& nI 31))) (mm_I μ1 340 c (vI v)) = some (bI y, μ') ∧ MU c μ μ' ∧ (y = true ↔ mt_ex nt nc V mk (c + 1) (mt_u s c v)) := by
      intro v μ1 hv hag hu
      obtain ⟨y, μ', e1, e2, e3⟩ := ih (c + 1) T (mt_u s c v) (if v = 9 then x else x ||| (nI 1 <<< (nI v &&& nI 31))) (mm_I μ1 340 c (vI v)) (by omega) (by omega) (MS_of hS (fun a a1 a2 => by rw [gI_o a2]; exact hu.2.1 a a1 a2)) (mt_okU hk (hv.imp id (fun q => ⟨q.1, q.2.1⟩))) (mt_PAU hP f4 f5 hag (fun h9 => f6 c v (by omega) (hv.resolve_left h9).1 (hv.resolve_left h9).2.2)) (fun t ht => by
            rw [mt_usU]
            by_cases h9 : v = 9
            · rw [if_pos h9, hx t ht, decide_eq_false (by omega), Bool.or_false]
            · rw [if_neg h9, b_put (by have := (hv.resolve_left h9).1; omega) (by omega), hx t ht]) (fun i hi => by
            by_cases q : i = c
            · subst q; rw [gI_s, if_pos rfl, mt_uS]
            · rw [gI_s, if_neg q, mt_uO q, hu.2.2 i (by omega)]; exact hch i (by omega))
      exact ⟨y, μ', e1, MU_t (MU_t hu (MU_w (Nat.le_refl c))) (MU_l e2 (by omega)), e3⟩
    have hskip : ∀ v, (mt_ag LI AL s c v = false ∨ (¬ v = 9 ∧ AB c v = false)) → ¬ mt_ex nt nc V mk (c + 1) (mt_u s c v) := by
      rintro v hno ⟨s', e1, e2, e3, -⟩
      have e4 : s' c = v := by rw [e1 c (by omega), mt_uS]
      rcases hno with hno | ⟨h9, hno⟩
      · rw [mt_agN ((f7 s' e2).mp e3) f4 (by omega) (fun i hi => by rw [e1 i (by omega), mt_uO (by omega)]) e4] at hno
        cases hno
      · have := f8 s' c e2 e3 (by omega) (by rw [e4]; exact h9)
        rw [e4, hno] at this
        cases this
    have c0 : (((mk >>> (nI c &&& 31)) &&& 1) = 0) = (bt mk c = false) := bq_0 (by omega)
    rw [f_Ma_canAll_t, f_Ma_canAll_body, hS.1, if_pos (nI_lt (by omega) (by omega))]
    cases hb : bt mk c
    · rw [if_pos (Eq.mpr c0 hb), gd_in (by omega) (by omega), nI_clamp (by omega), wr_e, show (-1 : Int32) = vI 9 from rfl]
      have hu : MU c μ (mm_I μ 340 c (vI 9)) := MU_w (Nat.le_refl c)
      rw [ma_agrees hN (MS_of hS hu.2.1) (s := s) (by omega) hk.1 (fun i hi => by rw [hu.2.2 i hi]; exact hch i hi) (Or.inr rfl), ob_e]
      cases hag : mt_ag LI AL s c 9
      · rw [if_pos (show bI false = (0 : Int32) from rfl)]
        exact ⟨false, _, rfl, hu, by rw [mt_exN (by omega) hb]; exact ⟨fun q => (by cases q), fun q => absurd q (hskip 9 (Or.inl hag))⟩⟩
      · obtain ⟨y, μ', e1, e2, e3⟩ := hrec 9 μ (Or.inl rfl) hag MU_r
        rw [if_pos rfl] at e1
        rw [if_neg (show ¬ bI true = (0 : Int32) by decide), nI_1, e1, ob_e]
        refine ⟨y, μ', ?_, e2, e3.trans (mt_exN (by omega) hb).symm⟩
        cases y
        · rw [if_pos (show bI false = (0 : Int32) from rfl)]; rfl
        · rw [if_neg (show ¬ bI true = (0 : Int32) by decide)]; rfl
    · rw [if_neg (fun e => by rw [Eq.mp c0 e] at hb; cases hb), gd_in (by omega) (by omega), nI_clamp (by omega)]
      have hopen : ∀ k, k < nt → bt (μ.1 338 c &&& (x ^^^ (-1))) k = (AB c k && !mt_us s c k) := fun k hk => by
        rw [b_and, show (-1 : Int32) = -nI 1 from rfl, b_not (by omega), hAB c (by omega) k hk, hx k hk]
      generalize μ.1 338 c &&& (x ^^^ (-1)) = op at hopen ⊢
      refine lpE (fun fu k μ1 => f_Ma_canAll_L70 N (fun x1 x2 x3 μ => f_Ma_canAll_t N T x1 x2 x3 μ) fu (nI c) mk x op (nI k) μ1) nt (fun k μ1 => MU c μ μ1 ∧ ∀ t, t < k → mt_us s c t = false → ¬ mt_ex nt nc V mk (c + 1) (mt_u s c t)) (fun y => ∃ z μ', y = some (bI z, μ') ∧ MU c μ μ' ∧ (z = true ↔ mt_ex nt nc V mk c s)) (fun fu μ1 hp => ?_) (fun fu k μ1 hk2 hp => ?_) nt 0 N μ (by omega) (by omega) ⟨MU_r, fun t ht => by omega⟩
      · obtain ⟨hu, hn⟩ := hp
        have hS1 := MS_of hS hu.2.1
        rw [f_Ma_canAll_L70, hS1.2.1, if_pos (nI_le (Nat.le_refl _) (by omega))]
        refine ⟨false, μ1, rfl, hu, ?_⟩
        rw [mt_exY (by omega) hnt hb]
        exact ⟨fun q => (by cases q), fun ⟨t, t1, t2, t3⟩ => absurd t3 (hn t t1 t2)⟩
      · obtain ⟨hu, hn⟩ := hp
        have hS1 := MS_of hS hu.2.1
        have hnx : (mt_us s c k = false → ¬ mt_ex nt nc V mk (c + 1) (mt_u s c k)) → ∀ t, t < k + 1 → mt_us s c t = false → ¬ mt_ex nt nc V mk (c + 1) (mt_u s c t) := fun hq t t1 t2 => by
          by_cases e : t = k
          · subst e; exact hq t2
          · exact hn t (by omega) t2
        have hcond : (((op >>> (nI k &&& 31)) &&& 1) = 1) = ((AB c k && !mt_us s c k) = true) := (bq_1 (by omega)).trans (by rw [hopen k hk2])
        rw [f_Ma_canAll_L70, hS1.2.1, if_neg (nI_ge hk2 (by omega))]
        simp only [hcond]
        rw [nI_1]
        cases hus : mt_us s c k
        · cases hab : AB c k
          · rw [if_neg (by simp)]
            exact Or.inl ⟨μ1, rfl, hu, hnx (fun _ => hskip k (Or.inr ⟨by omega, hab⟩))⟩
          · rw [if_pos (by simp), ← vI_n (show ¬ k = 9 by omega), ma_agrees hN hS1 (s := s) (by omega) hk.1 (fun i hi => by rw [hu.2.2 i hi]; exact hch i hi) (Or.inl hk2), ob_e]
            cases hag : mt_ag LI AL s c k
            · rw [if_pos (show bI false = (0 : Int32) from rfl)]
              exact Or.inl ⟨μ1, rfl, hu, hnx (fun _ => hskip k (Or.inl hag))⟩
            · rw [if_neg (show ¬ bI true = (0 : Int32) by decide), gd_in (by omega) (by omega), nI_clamp (by omega), wr_e]
              obtain ⟨y, μ', e1, e2, e3⟩ := hrec k μ1 (Or.inr ⟨hk2, hus, hab⟩) hag hu
              have h9 : ¬ k = 9 := by omega
              rw [if_neg h9] at e1
              rw [vI_n h9] at e1 ⊢
              rw [nI_1, show (31 : Int32) = nI 31 from rfl, show ((1 : Int32) <<< (nI k &&& nI 31)) = nI 1 <<< (nI k &&& nI 31) from rfl, e1, ob_e]
              cases y
              · rw [if_pos (show bI false = (0 : Int32) from rfl)]
                exact Or.inl ⟨μ', rfl, e2, hnx (fun _ q => by cases e3.mpr q)⟩
              · rw [if_neg (show ¬ bI true = (0 : Int32) by decide)]
                refine Or.inr ⟨true, μ', rfl, e2, fun _ => ?_, fun _ => rfl⟩
                rw [mt_exY (by omega) hnt hb]
                exact ⟨k, hk2, hus, e3.mp rfl⟩
        · rw [if_neg (by simp)]
          exact Or.inl ⟨μ1, rfl, hu, hnx (fun q => by rw [hus] at q; cases q)⟩
theorem mt_VbC {g T : Nat → Int32} {nc : Nat} {s s' : Nat → Nat} (h : ∀ i, i < nc → s' i = s i) : mt_Vb g T nc s' = mt_Vb g T nc s := by
  unfold mt_Vb
  refine al_congr (fun k _ hk => ?_)
  rw [h k (by omega)]
  congr 1
  unfold mt_fit
  refine al_congr (fun j _ _ => ?_)
  congr 1
  unfold mt_tru
  by_cases q : nc ≤ aN g k j
  · rw [if_pos q, if_pos q]
  · rw [if_neg q, if_neg q, h _ (by omega)]
theorem mo_canLeaf {N nc nt : Nat} (hN : 15000 ≤ N) {g T : Nat → Int32} (hw : RW nc nt g) (hT : TW nt T) (hnc : nc ≤ 6) (hnt : nt ≤ 8) {m : MM} (hS : NS nc nt g T m) {s : Nat → Nat} {mk : Int32} (hk : mt_ok nt s nc) (hd : ∀ i, i < nc → (¬ s i = 9 ↔ bt mk i = true)) (hch : ∀ i, i < nc → m.1 369 (20 * i) = vI (s i)) (rc : Int32 → Int32 → Int32 → MM → Option (Int32 × MM)) : f_Mo_canBeRight_L11 N rc N mk (nI 0) m = some (bI (mt_Vb g T nc s), m) := by
  obtain ⟨h1, h2, h3, h4, h5⟩ := hS
  have hw' := TQ_w hw hnc h4 h5 hnt
  have hT' : TW nt (m.1 362) := by rw [h3]; exact hT
  refine (lpa (fun fu k => f_Mo_canBeRight_L11 N rc fu mk (nI k) m) nc (fun k => decide (s k = 9) || mt_fit g T nc s k (s k)) (some (nI 1, m)) (some (nI 0, m)) (fun fu => by
      simp (disch := omega) only [f_Mo_canBeRight_L11, h1, nI_leI, Nat.le_refl, if_true, l_1]) (fun fu k hk2 => by
      have e1 := hch k hk2
      have e2 := hd k hk2
      simp (disch := omega) only [f_Mo_canBeRight_L11, h1, nI_leI, if_neg, mo_hasB, ob_e, l_20, l_1, l_0, pk_mul, gd_in, nI_clamp, e1, nI_add, bI_0]
      rcases hk.1 k hk2 with q | q
      · have q9 : ¬ s k = 9 := by omega
        rw [vI_n q9, e2.mp q9]
        rw [mo_fitsIn hN n_369' hw' hT' h1 hnc hnt hk2 q, ob_e, h3, TQ_f hw hnc hnt h4 (fun i hi => ⟨hch i hi, hk.1 i hi⟩) hk2]
        simp only [bI_0, q9, decide_false, Bool.false_or]
        cases mt_fit g T nc s k (s k) <;> rfl
      · have : bt mk k = false := by
          cases hb : bt mk k
          · rfl
          · exact absurd q (e2.mpr hb)
        rw [this]
        simp [q]) nc 0 N (by omega) (by omega)).trans ?_
  show (if mt_Vb g T nc s = true then _ else _) = _
  cases mt_Vb g T nc s <;> rfl
theorem NU_0 {c : Nat} {m m' : MM} (h : NU c m m') : NU 0 m m' := NU_l h (by omega)
theorem mo_can {N nc nt : Nat} (hN : 15000 ≤ N) {g T : Nat → Int32} (hw : RW nc nt g) (hT : TW nt T) (hnc : nc ≤ 6) (hnt : nt ≤ 8) {mk : Int32} : ∀ (r c T' : Nat) (s : Nat → Nat) (x : Int32) (m : MM), c + r = nc → r < T' → NS nc nt g T m → mt_ok nt s c → (∀ i, i < c → (¬ s i = 9 ↔ bt mk i = true)) → (∀ t, t < nt → bt x t = mt_us s c t) → (∀ i, i < c → m.1 369 (20 * i) = vI (s i)) →
    ∃ y m', f_Mo_canBeRight_t N T' mk (nI c) x m = some (bI y, m') ∧ NU c m m' ∧ NS nc nt g T m' ∧ (y = true ↔ mt_ex nt nc (mt_Vb g T nc) mk c s) := by
  intro r
  induction r with
  | zero =>
    intro c T' s x m hc hT' hS hk hd hx hch
    obtain ⟨T', rfl⟩ : ∃ q, T' = q + 1 := ⟨T' - 1, by omega⟩
    have hcn : c = nc := by omega
    subst hcn
    rw [f_Mo_canBeRight_t, f_Mo_canBeRight_body, hS.1, if_pos rfl, l_0, mo_canLeaf hN hw hT hnc hnt hS hk hd hch]
    refine ⟨_, m, rfl, NU_r, hS, fun q => ⟨s, fun _ _ => rfl, hk, q, fun k k1 k2 => by omega⟩, ?_⟩
    rintro ⟨s', e1, e2, e3, -⟩
    rw [← mt_VbC e1]; exact e3
  | succ r ih =>
    intro c T' s x m hc hT' hS hk hd hx hch
    obtain ⟨T', rfl⟩ : ∃ q, T' = q + 1 := ⟨T' - 1, by omega⟩
    have hrec : ∀ v m1, (v = 9 ∨ (v < nt ∧ mt_us s c v = false)) → (¬ v = 9 ↔ bt mk c = true) → NU c m m1 → NS nc nt g T m1 →
          ∃ y m', f_Mo_canBeRight_t N T' mk (nI (c + 1)) (if v = 9 then x else x ||| (nI 1 <<< (nI v &&& nI 31))) (mm_I m1 369 (20 * c) (vI v)) = some (bI y, m') ∧ NU c m m' ∧ NS nc nt g T m' ∧ (y = true ↔ mt_ex nt nc (mt_Vb g T nc) mk (c + 1) (mt_u s c v)) := by
      intro v m1 hv hvm hu hS1
      obtain ⟨y, m', e1, e2, e3, e4⟩ := ih (c + 1) T' (mt_u s c v) (if v = 9 then x else x ||| (nI 1 <<< (nI v &&& nI 31))) (mm_I m1 369 (20 * c) (vI v)) (by omega) (by omega) (NS_w hS1 (by omega) (hv.imp id (fun q => q.1)) hnt) (mt_okU hk hv) (fun i hi => by
            by_cases q : i = c
            · subst q; rw [mt_uS]; exact hvm
            · rw [mt_uO q]; exact hd i (by omega)) (fun t ht => by
            rw [mt_usU]
            by_cases h9 : v = 9
            · rw [if_pos h9, hx t ht, decide_eq_false (by omega), Bool.or_false]
            · rw [if_neg h9, b_put (by have := (hv.resolve_left h9).1; omega) (by omega), hx t ht]) (fun i hi => by
            by_cases q : i = c
            · subst q; rw [gI_s, if_pos rfl, mt_uS]
            · rw [gI_s, if_neg (by omega), mt_uO q, hu.2.2.2 i (by omega)]; exact hch i (by omega))
      exact ⟨y, m', e1, NU_t (NU_t hu (NU_w (Nat.le_refl c))) (NU_l e2 (by omega)), e3, e4⟩
    rw [f_Mo_canBeRight_t, f_Mo_canBeRight_body, hS.1, if_neg (show ¬ nI c = nI nc by rw [nI_eq (by omega) (by omega)]; omega), l_20, pk_mul, gd_in (by omega) (by omega), nI_clamp (by omega), wr_e, mo_hasB (by omega), ob_e]
    cases hb : bt mk c
    · rw [if_pos (show bI false = (0 : Int32) from rfl)]
      obtain ⟨y, m', e1, e2, e3, e4⟩ := hrec 9 m (Or.inl rfl) (by rw [hb]; simp) NU_r hS
      rw [if_pos rfl] at e1
      rw [show (-1 : Int32) = vI 9 from rfl, nI_1, e1, ob_e, gd_zB]
      exact ⟨y, m', rfl, e2, e3, e4.trans (mt_exN (by omega) hb).symm⟩
    · rw [if_neg (show ¬ bI true = (0 : Int32) by decide)]
      have hu0 : NU c m (mm_I m 369 (20 * c) (-1)) := NU_w (Nat.le_refl c)
      have hS0 : NS nc nt g T (mm_I m 369 (20 * c) (-1)) := NS_w (v := 9) hS (by omega) (Or.inl rfl) hnt
      refine lpE (fun fu k m1 => f_Mo_canBeRight_L93 N (fun x1 x2 x3 μ => f_Mo_canBeRight_t N T' x1 x2 x3 μ) fu mk (nI c) x (nI k) m1) nt (fun k m1 => NU c m m1 ∧ NS nc nt g T m1 ∧ ∀ t, t < k → mt_us s c t = false → ¬ mt_ex nt nc (mt_Vb g T nc) mk (c + 1) (mt_u s c t)) (fun y => ∃ z m', y = some (bI z, m') ∧ NU c m m' ∧ NS nc nt g T m' ∧ (z = true ↔ mt_ex nt nc (mt_Vb g T nc) mk c s)) (fun fu m1 hp => ?_) (fun fu k m1 hk2 hp => ?_) nt 0 N _ (by omega) (by omega) ⟨hu0, hS0, fun t ht => by omega⟩
      · obtain ⟨hu, hS1, hn⟩ := hp
        rw [f_Mo_canBeRight_L93, hS1.2.1, if_pos (nI_le (Nat.le_refl _) (by omega))]
        refine ⟨false, m1, rfl, hu, hS1, ?_⟩
        rw [mt_exY (by omega) hnt hb]
        exact ⟨fun q => (by cases q), fun ⟨t, t1, t2, t3⟩ => absurd t3 (hn t t1 t2)⟩
      · obtain ⟨hu, hS1, hn⟩ := hp
        have hnx : (mt_us s c k = false → ¬ mt_ex nt nc (mt_Vb g T nc) mk (c + 1) (mt_u s c k)) → ∀ t, t < k + 1 → mt_us s c t = false → ¬ mt_ex nt nc (mt_Vb g T nc) mk (c + 1) (mt_u s c t) := fun hq t t1 t2 => by
          by_cases e : t = k
          · subst e; exact hq t2
          · exact hn t (by omega) t2
        rw [f_Mo_canBeRight_L93, hS1.2.1, if_neg (nI_ge hk2 (by omega)), mo_hasB (by omega), ob_e, hx k hk2]
        cases hus : mt_us s c k
        · rw [if_pos (show bI false = (0 : Int32) from rfl), l_20, pk_mul, gd_in (by omega) (by omega), nI_clamp (by omega), wr_e, l_31, l_1]
          simp only [nI_add]
          have h9 : ¬ k = 9 := by omega
          obtain ⟨y, m', e1, e2, e3, e4⟩ := hrec k m1 (Or.inr ⟨hk2, hus⟩) (by rw [hb]; simp [h9]) hu hS1
          rw [if_neg h9, vI_n h9] at e1
          rw [e1, ob_e]
          cases y
          · rw [if_pos (show bI false = (0 : Int32) from rfl)]
            exact Or.inl ⟨m', rfl, e2, e3, hnx (fun _ q => by cases e4.mpr q)⟩
          · rw [if_neg (show ¬ bI true = (0 : Int32) by decide)]
            refine Or.inr ⟨true, m', rfl, e2, e3, fun _ => ?_, fun _ => rfl⟩
            rw [mt_exY (by omega) hnt hb]
            exact ⟨k, hk2, hus, e4.mp rfl⟩
        · rw [if_neg (show ¬ bI true = (0 : Int32) by decide), nI_1]
          exact Or.inl ⟨m1, rfl, hu, hS1, hnx (fun q => by rw [hus] at q; cases q)⟩
