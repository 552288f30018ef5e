/-! ===== the program's search for the best ===== -/
def MU (c : Nat) (μ μ' : MM) : Prop := μ'.2 = μ.2 ∧ (∀ a, a ≠ 333 → a ≠ 340 → μ'.1 a = μ.1 a) ∧ ∀ i, i < c → μ'.1 340 i = μ.1 340 i
theorem MU_r {c : Nat} {μ : MM} : MU c μ μ := ⟨rfl, fun _ _ _ => rfl, fun _ _ => rfl⟩
theorem MU_t {c : Nat} {μ μ1 μ2 : MM} (h : MU c μ μ1) (h2 : MU c μ1 μ2) : MU c μ μ2 := ⟨h2.1.trans h.1, fun a a1 a2 => (h2.2.1 a a1 a2).trans (h.2.1 a a1 a2), fun i hi => (h2.2.2 i hi).trans (h.2.2 i hi)⟩
theorem MU_l {c c' : Nat} {μ μ1 : MM} (h : MU c' μ μ1) (hc : c ≤ c') : MU c μ μ1 := ⟨h.1, h.2.1, fun i hi => h.2.2 i (by omega)⟩
theorem MU_w {c k : Nat} {v : Int32} {μ : MM} (hk : c ≤ k) : MU c μ (mm_I μ 340 k v) := ⟨rfl, fun a _ a2 => gI_o a2, fun i hi => by rw [gI_s, if_neg (by omega)]⟩
def MB (B : Option (Nat × Nat × Nat)) (μ : MM) : Prop := match B with
  | none => μ.1 333 0 = -nI 1
  | some (n, p, d) => μ.1 333 0 = nI n ∧ μ.1 333 1 = nI p ∧ μ.1 333 2 = nI d ∧ n ≤ 6 ∧ p ≤ 54
theorem MB_of {B : Option (Nat × Nat × Nat)} {μ μ' : MM} (h : MB B μ) (he : μ'.1 333 = μ.1 333) : MB B μ' := by
  unfold MB at h ⊢
  rw [he]; exact h
theorem ma_in {N nc nt : Nat} (hN : 15000 ≤ N) {pr b h : Nat → Nat} {BA LI AL AB : Nat → Nat → Bool} {V : (Nat → Nat) → Bool} {μ : MM} (hS : MS nc nt pr b h LI AL AB μ) (hF : MF nc nt pr b h BA LI AL AB V) {s : Nat → Nat} {c r d : Nat} {x : Int32} {B : Option (Nat × Nat × Nat)} (hc : c + r = nc) (hx : ∀ t, t < nt → bt x t = mt_us s c t) (hB : MB B μ) (rc : Int32 → Int32 → Int32 → Int32 → Int32 → MM → Option MM) :
    (f_Ma_search_body N rc (nI c) x (nI (mt_n s c)) (nI (mt_p pr s c)) (nI d) μ = some μ ∧ ∀ s' : Nat → Nat, (∀ i, i < c → s' i = s i) → mt_ok nt s' nc → V s' = true → mt_nb B (mt_n s' nc) (mt_p pr s' nc)) ∨
    (f_Ma_search_body N rc (nI c) x (nI (mt_n s c)) (nI (mt_p pr s c)) (nI d) μ = f_Ma_search_B63 N rc (nI c) x (nI (mt_n s c)) (nI (mt_p pr s c)) (nI d) μ ∧ (h c = 0 → mt_up B (mt_n s c) (mt_p pr s c) d = some (mt_n s c, mt_p pr s c, d))) := by
  have hlp := fun mn hm => ma_lp (N := N) hS (U := fun t => mt_us s c t) hx (mn := mn) hm nt 0 N 0 0 (by omega) (by have := hS.2.2.2.1; omega) (by omega)
  obtain ⟨h1, h0, hnc, hnt, hpr, hp9, hAL, hb, hLI, hlk, hAB, hh⟩ := hS
  obtain ⟨f1, f2, f3, f4, f5, f6, f7, f8, f9, f10⟩ := hF
  obtain ⟨hh1, hh2⟩ := hh c (by omega)
  have hn6 := mt_nL s c
  have hpL := mt_pL (s := s) hp9 c
  have hll := mt_lpL (b := b) hp9 (U := fun t => mt_us s c t) nt 0
  unfold f_Ma_search_body f_Ma_search_B23
  simp (disch := omega) only [h1, nI_leI, if_pos, gd_in, nI_clamp, hh1, nI_add]
  cases B with
  | none =>
    refine Or.inr ⟨?_, fun _ => rfl⟩
    rw [show μ.1 333 0 = -nI 1 from hB]
    simp (disch := omega) only [m_lt, m_eq, if_false]
  | some bb =>
    obtain ⟨n', p', d'⟩ := bb
    obtain ⟨g1, g2, g3, g4, g5⟩ := hB
    rw [g1]
    simp (disch := omega) only [nI_ltI, nI_eq]
    by_cases q1 : mt_n s c + h c < n'
    · rw [if_pos q1]
      refine Or.inl ⟨rfl, fun s' e1 e2 e3 => ⟨n', p', d', rfl, ?_⟩⟩
      have := f10 s' c e2 e3 (by omega)
      rw [mt_nC e1] at this
      omega
    · rw [if_neg q1]
      by_cases q2 : mt_n s c + h c = n'
      · rw [if_pos q2]
        have e0 : nI (mt_n s c + h c) - nI (mt_n s c) = nI (h c) := by rw [pk_sub (by omega)]; congr 1; omega
        rw [e0]
        unfold f_Ma_leastPrices
        rw [l_0, hlp (h c) hh2, ob_e, Nat.zero_add, Nat.sub_zero, nI_add, g2]
        have h3 := hll (h c)
        simp (disch := omega) only [nI_ltI]
        by_cases q3 : mt_p pr s c + mt_lp pr b nt 0 (fun t => mt_us s c t) (h c) < p'
        · rw [if_pos q3]
          refine Or.inr ⟨rfl, fun hz => ?_⟩
          show (if _ then _ else _) = _
          rw [if_pos (Or.inr ⟨by omega, by omega⟩)]
        · rw [if_neg q3]
          refine Or.inl ⟨rfl, fun s' e1 e2 e3 => ⟨n', p', d', rfl, ?_⟩⟩
          have h4 := f10 s' c e2 e3 (by omega)
          have h5 := mt_lpS (pr := pr) (b := b) f1 f2 f3 (fun j hj => (hb j hj).2) hnt e2 r c hc
          rw [mt_nC e1] at h4 h5
          rw [mt_pC e1, mt_lpC (U := fun t => mt_us s c t) nt 0 _ (fun j _ _ => mt_usC e1)] at h5
          rintro (h6 | ⟨h6, h7⟩)
          · omega
          · rw [show mt_n s' nc - mt_n s c = h c by omega] at h5
            omega
      · rw [if_neg q2]
        refine Or.inr ⟨rfl, fun hz => ?_⟩
        show (if _ then _ else _) = _
        rw [if_pos (Or.inl (by omega))]
theorem b_not {x : Int32} {i : Nat} (hi : i < 32) : bt (x ^^^ -nI 1) i = !bt x i := by
  rw [b_xor, show (-nI 1 : Int32) = -1 from rfl, b_m1 i hi]
  cases bt x i <;> rfl
theorem b_put {x : Int32} {k i : Nat} (hk : k < 32) (hi : i < 32) : bt (x ||| (nI 1 <<< (nI k &&& nI 31))) i = (bt x i || decide (k = i)) := by
  rw [b_or, bt_1 hk hi]
  by_cases q : k = i
  · subst q; simp
  · rw [decide_eq_false q, decide_eq_false (fun e => q e.symm)]
theorem ma_search {N nc nt : Nat} (hN : 15000 ≤ N) {pr b h : Nat → Nat} {BA LI AL AB : Nat → Nat → Bool} {V : (Nat → Nat) → Bool} (hF : MF nc nt pr b h BA LI AL AB V) : ∀ (r c T : Nat) (s : Nat → Nat) (B : Option (Nat × Nat × Nat)) (x : Int32) (μ : MM), c + r = nc → r < T → MS nc nt pr b h LI AL AB μ → mt_ok nt s c → mt_PA BA LI AL s c → (∀ t, t < nt → bt x t = mt_us s c t) → (∀ i, i < c → μ.1 340 i = vI (s i)) → MB B μ →
    ∃ μ', f_Ma_search_t N T (nI c) x (nI (mt_n s c)) (nI (mt_p pr s c)) (nI (mt_d s c)) μ = some μ' ∧ MU c μ μ' ∧ MB (mt_go nt pr V r c s B) μ' := by
  intro r
  induction r with
  | zero =>
    intro c T s B x μ hc hT hS hk hP hx hch hB
    obtain ⟨T, rfl⟩ : ∃ q, T = q + 1 := ⟨T - 1, by omega⟩
    rw [f_Ma_search_t]
    rcases ma_in (d := mt_d s c) hN hS hF hc hx hB (fun x1 x2 x3 x4 x5 μ => f_Ma_search_t N T x1 x2 x3 x4 x5 μ) with ⟨e, hq⟩ | ⟨e, hq⟩
    · exact ⟨μ, e, MU_r, by rw [mt_none 0 c s hc hk hq]; exact hB⟩
    · have hcn : c = nc := by omega
      subst hcn
      rw [e]
      unfold f_Ma_search_B63
      rw [hS.1, if_neg (by rw [nI_ltI (by have := hS.2.2.1; omega) (by have := hS.2.2.1; omega)]; omega)]
      simp only [wr_e]
      have hV : V s = true := (hF.2.2.2.2.2.2.1 s hk).mpr (mt_PAV hP)
      have hp9 := hS.2.2.2.2.2.1
      have hnc := hS.2.2.1
      have := mt_pL (s := s) hp9 c
      have := mt_nL s c
      refine ⟨_, rfl, ⟨rfl, fun a a1 a2 => by rw [gI_o a1, gI_o a1, gI_o a1], fun i hi => by rw [gI_o (by decide), gI_o (by decide), gI_o (by decide)]⟩, ?_⟩
      rw [mt_go, if_pos hV, hq hF.2.2.2.2.2.2.2.2.1]
      refine ⟨?_, ?_, ?_, by omega, by omega⟩
      · rw [gI_s, if_neg (by decide), gI_s, if_neg (by decide), gI_s, if_pos rfl]
      · rw [gI_s, if_neg (by decide), gI_s, if_pos rfl]
      · rw [gI_s, if_pos rfl]
  | succ r ih =>
    intro c T s B x μ hc hT hS hk hP hx hch hB
    obtain ⟨T, rfl⟩ : ∃ q, T = q + 1 := ⟨T - 1, by omega⟩
    rw [f_Ma_search_t]
    rcases ma_in (d := mt_d s c) hN hS hF hc hx hB (fun x1 x2 x3 x4 x5 μ => f_Ma_search_t N T x1 x2 x3 x4 x5 μ) with ⟨e, hq⟩ | ⟨e, -⟩
    · exact ⟨μ, e, MU_r, by rw [mt_none (r + 1) c s hc hk hq]; exact hB⟩
    · rw [e]
      have hnc := hS.2.2.1
      have hnt := hS.2.2.2.1
      have hpr := hS.2.2.2.2.1
      have hAB := hS.2.2.2.2.2.2.2.2.2.2.1
      obtain ⟨f1, f2, f3, f4, f5, f6, f7, f8, f9, f10⟩ := id hF
      unfold f_Ma_search_B63
      rw [hS.1, if_pos (by rw [nI_ltI (by omega) (by omega)]; omega), gd_in (by omega) (by omega), nI_clamp (by omega)]
      have hopen : ∀ k, k < nt → bt (μ.1 338 c &&& (x ^^^ (-1))) k = (AB c k && !mt_us s c k) := fun k hk => by
        rw [b_and, show (-1 : Int32) = -nI 1 from rfl, b_not (by omega), hAB c (by omega) k hk, hx k hk]
      generalize μ.1 338 c &&& (x ^^^ (-1)) = op at hopen ⊢
      have hrec : ∀ v μ1 B1, (v = 9 ∨ (v < nt ∧ mt_us s c v = false ∧ AB c v = true)) → mt_ag LI AL s c v = true → MU c μ μ1 → MB B1 μ1 →
          ∃ μ', f_Ma_search_t N T (nI (c + 1)) (if v = 9 then x else x ||| (nI 1 <<< (nI v &&& nI 31))) (nI (mt_n s c + (if v = 9 then 0 else 1))) (nI (mt_p pr s c + (if v = 9 then 0 else pr v))) (nI (10 * mt_d s c + v)) (mm_I μ1 340 c (vI v)) = some μ' ∧ MU c μ μ' ∧ MB (mt_go nt pr V r (c + 1) (mt_u s c v) B1) μ' := by
        intro v μ1 B1 hv hag hu hB1
        obtain ⟨μ', e1, e2, e3⟩ := ih (c + 1) T (mt_u s c v) B1 (if v = 9 then x else x ||| (nI 1 <<< (nI v &&& nI 31))) (mm_I μ1 340 c (vI v)) (by omega) (by omega) (MS_of hS (fun a a1 a2 => by rw [gI_o a2]; exact hu.2.1 a a1 a2)) (mt_okU hk (hv.imp id (fun q => ⟨q.1, q.2.1⟩))) (mt_PAU hP f4 f5 hag (fun h9 => f6 c v (by omega) (hv.resolve_left h9).1 (hv.resolve_left h9).2.2)) (fun t ht => by
            rw [mt_usU]
            by_cases h9 : v = 9
            · rw [if_pos h9, hx t ht, decide_eq_false (by omega), Bool.or_false]
            · rw [if_neg h9, b_put (by have := (hv.resolve_left h9).1; omega) (by omega), hx t ht]) (fun i hi => by
            by_cases q : i = c
            · subst q; rw [gI_s, if_pos rfl, mt_uS]
            · rw [gI_s, if_neg q, mt_uO q, hu.2.2 i (by omega)]; exact hch i (by omega)) (MB_of hB1 (gI_o (by decide)))
        rw [mt_nU, mt_pU, mt_dU] at e1
        exact ⟨μ', e1, MU_t (MU_t hu (MU_w (Nat.le_refl c))) (MU_l e2 (by omega)), e3⟩
      have hskip : ∀ v B1, (v = 9 ∨ (v < nt ∧ mt_us s c v = false)) → (mt_ag LI AL s c v = false ∨ (¬ v = 9 ∧ AB c v = false)) → mt_go nt pr V r (c + 1) (mt_u s c v) B1 = B1 := by
        intro v B1 hv hno
        refine mt_none (nc := nc) r (c + 1) (mt_u s c v) (by omega) (mt_okU hk hv) (fun s' e1 e2 e3 => ?_)
        exfalso
        have e4 : s' c = v := by rw [e1 c (by omega), mt_uS]
        rcases hno with hno | ⟨h9, hno⟩
        · rw [mt_agN ((f7 s' e2).mp e3) f4 (by omega) (fun i hi => by rw [e1 i (by omega), mt_uO (by omega)]) e4] at hno
          cases hno
        · have := f8 s' c e2 e3 (by omega) (by rw [e4]; exact h9)
          rw [e4, hno] at this
          cases this
      refine lpE (fun fu k μ1 => f_Ma_search_L107 N (fun x1 x2 x3 x4 x5 μ => f_Ma_search_t N T x1 x2 x3 x4 x5 μ) fu (nI c) x (nI (mt_n s c)) (nI (mt_p pr s c)) (nI (mt_d s c)) op (nI k) μ1) nt (fun k μ1 => MU c μ μ1 ∧ MB (fo (fun t B => if mt_us s c t = true then B else mt_go nt pr V r (c + 1) (mt_u s c t) B) k 0 B) μ1) (fun y => ∃ μ', y = some μ' ∧ MU c μ μ' ∧ MB (mt_go nt pr V (r + 1) c s B) μ') (fun fu μ1 hp => ?_) (fun fu k μ1 hk2 hp => Or.inl ?_) nt 0 N μ (by omega) (by omega) ⟨MU_r, hB⟩
      · obtain ⟨hu, hb1⟩ := hp
        have hS1 := MS_of hS hu.2.1
        rw [f_Ma_search_L107, hS1.2.1, if_pos (by rw [nI_leI (by omega) (by omega)]; omega), show (-1 : Int32) = vI 9 from rfl, ma_agrees hN hS1 (s := s) (by omega) hk.1 (fun i hi => by rw [hu.2.2 i hi]; exact hch i hi) (Or.inr rfl), ob_e]
        rw [mt_go]
        cases hag : mt_ag LI AL s c 9
        · rw [l_0, bI_f, if_pos rfl]
          exact ⟨μ1, rfl, hu, by rw [hskip 9 _ (Or.inl rfl) (Or.inl hag)]; exact hb1⟩
        · rw [l_0, bI_t, if_neg (by decide), gd_in (by omega) (by omega), nI_clamp (by omega), wr_e]
          obtain ⟨μ', e1, e2, e3⟩ := hrec 9 μ1 _ (Or.inl rfl) hag hu hb1
          rw [if_pos rfl, if_pos rfl, if_pos rfl] at e1
          simp only [Nat.add_zero] at e1
          rw [l_1, l_10, l_9, nI_add, pk_mul, nI_add, Nat.mul_comm (mt_d s c) 10, e1, obv_e]
          exact ⟨μ', rfl, e2, e3⟩
      · obtain ⟨hu, hb1⟩ := hp
        have hS1 := MS_of hS hu.2.1
        have hfo := fo_succ (fun t B => if mt_us s c t = true then B else mt_go nt pr V r (c + 1) (mt_u s c t) B) k 0 B
        rw [Nat.zero_add] at hfo
        have hcond : (((op >>> (nI k &&& 31)) &&& 1) = 1) = ((AB c k && !mt_us s c k) = true) := (bq_1 (by omega)).trans (by rw [hopen k hk2])
        rw [f_Ma_search_L107, hS1.2.1, if_neg (by rw [nI_leI (by omega) (by omega)]; omega)]
        simp only [hcond]
        rw [l_31, l_1, nI_add]
        cases hus : mt_us s c k
        · cases hab : AB c k
          · rw [if_neg (by simp)]
            exact ⟨μ1, rfl, hu, by rw [hfo, if_neg (by simp [hus]), hskip k _ (Or.inr ⟨hk2, hus⟩) (Or.inr ⟨by omega, hab⟩)]; exact hb1⟩
          · rw [if_pos (by simp), ← vI_n (show ¬ k = 9 by omega), ma_agrees hN hS1 (s := s) (by omega) hk.1 (fun i hi => by rw [hu.2.2 i hi]; exact hch i hi) (Or.inl hk2), ob_e]
            cases hag : mt_ag LI AL s c k
            · rw [l_0, bI_f, if_pos rfl]
              exact ⟨μ1, rfl, hu, by rw [hfo, if_neg (by simp [hus]), hskip k _ (Or.inr ⟨hk2, hus⟩) (Or.inl hag)]; exact hb1⟩
            · rw [l_0, bI_t, if_neg (by decide), gd_in (by omega) (by omega), nI_clamp (by omega), wr_e]
              obtain ⟨μ', e1, e2, e3⟩ := hrec k μ1 _ (Or.inr ⟨hk2, hus, hab⟩) hag hu hb1
              have h9 : ¬ k = 9 := by omega
              have e24 : (mm_I μ1 340 c (vI k)).1 24 k = nI (pr k) := by rw [gI_o (by decide), hu.2.1 24 (by decide) (by decide)]; exact hpr k hk2
              rw [if_neg h9, if_neg h9, if_neg h9] at e1
              rw [vI_n h9] at e1 e24 ⊢
              rw [gd_in (by omega) (by omega), nI_clamp (by omega), e24, l_10, nI_add, nI_add, nI_add, pk_mul, nI_add, Nat.mul_comm (mt_d s c) 10, e1, obv_e]
              exact ⟨μ', rfl, e2, by rw [hfo, if_neg (by simp [hus])]; exact e3⟩
        · rw [if_neg (by simp)]
          exact ⟨μ1, rfl, hu, by rw [hfo, if_pos hus]; exact hb1⟩
