/-! ===== odds, rescue ===== -/
def dn : Nat → Int32
  | 0 => -nI 1
  | k + 1 => nI k
theorem dn_s (k : Nat) : nI k + (-1) = dn k := by
  cases k with
  | zero => decide
  | succ k =>
    rw [← nI_add, dn, show nI 1 = (1 : Int32) from rfl]
    grind
theorem lpd {α β : Type} (L : Nat → Int32 → α → β) (n : Nat) (E : α → β) (P : Nat → α → Prop) (he : ∀ fu a, P 0 a → L (fu + 1) (-nI 1) a = E a) (hs : ∀ fu k a, k < n → P (k + 1) a → ∃ a', L (fu + 1) (nI k) a = L fu (dn k) a' ∧ P k a') : ∀ k fu a, k ≤ n → k < fu → P k a → ∃ a', L fu (dn k) a = E a' ∧ P 0 a' := by
  intro k
  induction k with
  | zero =>
    intro fu a hk hf hp
    obtain ⟨fu, rfl⟩ : ∃ q, fu = q + 1 := ⟨fu - 1, by omega⟩
    exact ⟨a, he fu a hp, hp⟩
  | succ k ih =>
    intro fu a hk hf hp
    obtain ⟨fu, rfl⟩ : ∃ q, fu = q + 1 := ⟨fu - 1, by omega⟩
    obtain ⟨a', h1, h2⟩ := hs fu k a (by omega) hp
    show ∃ a', L (fu + 1) (nI k) a = E a' ∧ P 0 a'
    rw [h1]
    exact ih fu a' (by omega) (by omega) h2
def pm (ch b : Nat) (P : Nat → Nat) : Nat → Nat := fun j => if j = b then P b - P b * ch / 100 else if j = b + 1 then P (b + 1) + P b * ch / 100 else P j
def pdn (ch : Nat) : Nat → (Nat → Nat) → Nat → Nat
  | 0, P => P
  | k + 1, P => pdn ch k (pm ch k P)
def pall (ch : Nat) : Nat → Nat → Nat
  | 0 => fun j => if j = 0 then 1000000000 else 0
  | d + 1 => pdn ch (d + 1) (pall ch d)
def sm (P : Nat → Nat) : Nat → Nat
  | 0 => 0
  | k + 1 => sm P k + P k
theorem sm_le (P : Nat → Nat) : ∀ {k n : Nat}, k ≤ n → sm P k ≤ sm P n := by
  intro k n
  induction n with
  | zero => intro h; have : k = 0 := by omega
            subst this; exact Nat.le_refl _
  | succ n ih =>
    intro h
    by_cases e : k = n + 1
    · subst e; exact Nat.le_refl _
    · exact Nat.le_trans (ih (by omega)) (Nat.le_add_right _ _)
theorem sm_1 (P : Nat → Nat) {k n : Nat} (h : k < n) : P k ≤ sm P n := Nat.le_trans (Nat.le_add_left _ _) (sm_le P (show k + 1 ≤ n by omega))
theorem mv_le {a ch : Nat} (h : ch ≤ 100) : a * ch / 100 ≤ a := by
  have : a * ch ≤ a * 100 := Nat.mul_le_mul_left a h
  omega
theorem sm_pm {ch b : Nat} {P : Nat → Nat} (h : ch ≤ 100) : ∀ k, sm (pm ch b P) k = if k = b + 1 then sm P k - P b * ch / 100 else sm P k := by
  intro k
  have hm := mv_le (a := P b) h
  induction k with
  | zero => rw [if_neg (by omega)]; rfl
  | succ k ih =>
    rw [sm, ih, sm]
    unfold pm
    by_cases e1 : k = b
    · subst e1
      rw [if_neg (by omega), if_pos rfl, if_pos rfl]; omega
    · by_cases e2 : k = b + 1
      · subst e2
        have : sm P (b + 1) = sm P b + P b := rfl
        rw [if_pos rfl, if_neg (by omega), if_pos rfl, if_neg (by omega)]; omega
      · rw [if_neg e2, if_neg e1, if_neg e2, if_neg (by omega)]
theorem sm_pdn {ch n : Nat} (h : ch ≤ 100) : ∀ k P, k < n → sm (pdn ch k P) n = sm P n := by
  intro k
  induction k with
  | zero => intro P _; rfl
  | succ k ih =>
    intro P hk
    rw [pdn, ih _ (by omega), sm_pm h, if_neg (by omega)]
theorem sm_p0 : ∀ n, sm (fun j => if j = 0 then 1000000000 else 0) (n + 1) = 1000000000 := by
  intro n
  induction n with
  | zero => rfl
  | succ n ih => rw [sm, ih, if_neg (by omega)]
theorem sm_pall {ch : Nat} (h : ch ≤ 100) : ∀ d, d ≤ 30 → sm (pall ch d) 32 = 1000000000 := by
  intro d
  induction d with
  | zero => intro _; exact sm_p0 31
  | succ d ih => intro hd; rw [pall, sm_pdn h _ _ (by omega), ih (by omega)]
def PJ (q : Nat) (P : Nat → Nat) (μ : MM) : Prop := ∀ j, j < 32 → μ.2 q j = lN (P j)
theorem L_mv {a ch : Nat} (ha : a ≤ 1000000000) (h : ch ≤ 100) : lN a * (nI ch).toInt64 / 100 = lN (a * ch / 100) := by
  have : a * ch ≤ 1000000000 * 100 := Nat.mul_le_mul ha h
  rw [nI_l (by omega), lN_mul, show (100 : Int64) = lN 100 from rfl, pk_lDiv (by omega) (by omega) (by omega)]
theorem PJ_pm {q b ch : Nat} {P : Nat → Nat} {μ : MM} (h : PJ q P μ) (hs : sm P 32 = 1000000000) (hc : ch ≤ 100) (hb : b < 31) : PJ q (pm ch b P) (mm_J (mm_J μ q b (lN (P b - P b * ch / 100))) q (b + 1) (lN (P (b + 1) + P b * ch / 100))) := by
  intro j hj
  rw [gJ, gJ, if_pos rfl, if_pos rfl]
  unfold pm
  by_cases e1 : j = b
  · rw [if_neg (by omega), if_pos e1, if_pos e1]
  · by_cases e2 : j = b + 1
    · rw [if_pos e2, if_neg e1, if_pos e2]
    · rw [if_neg e2, if_neg e1, if_neg e1, if_neg e2]; exact h j hj
theorem PJ_pm2 {q b ch : Nat} {P : Nat → Nat} {μ : MM} (h : PJ q P μ) (hs : sm P 32 = 1000000000) (hc : ch ≤ 100) (hb : b < 31) : PJ q (pm ch b P) (mm_J (mm_J μ q (b + 1) (lN (P (b + 1) + P b * ch / 100))) q b (lN (P b - P b * ch / 100))) := by
  intro j hj
  rw [gJ, gJ, if_pos rfl, if_pos rfl]
  unfold pm
  by_cases e1 : j = b
  · rw [if_pos e1, if_pos e1]
  · by_cases e2 : j = b + 1
    · rw [if_neg e1, if_pos e2, if_neg e1, if_pos e2]
    · rw [if_neg e1, if_neg e2, if_neg e1, if_neg e2]; exact h j hj
theorem ro_spread {N n ch : Nat} {μ : MM} (hN : 15000 ≤ N) (hn : n ≤ 30) (hc : ch ≤ 100) : ∃ μ', f_Ro_spread N (nI n) (nI ch) μ = some (nI 1, μ') ∧ μ'.1 = μ.1 ∧ PJ 346 (pall ch n) μ' := by
  obtain ⟨m1, a1, a2, a3⟩ := lpe (fun fu j (a : MM) => f_Ro_spread_L24 N fu (nI n) (nI ch) (nI j) a) 32 (fun a => f_Ro_spread_L57 N N (nI n) (nI ch) (nI 0) (mm_J a 346 0 1000000000)) (fun j a => a.1 = μ.1 ∧ ∀ i, i < j → a.2 346 i = lN 0) (fun fu a ha => by
      simp (disch := omega) only [f_Ro_spread_L24, l_32, nI_leI, Nat.le_refl, if_true, wr_e]; rfl) (fun fu j a hj ha => by
      refine ⟨mm_J a 346 j (lN 0), ?_, ha.1, fun i hi => ?_⟩
      · simp (disch := omega) only [f_Ro_spread_L24, l_32, nI_leI, if_neg, gd_in, nI_clamp, wr_e, l_1, nI_add]; rfl
      · rw [gJ, if_pos rfl]
        by_cases e : i = j
        · rw [if_pos e]
        · rw [if_neg e]; exact ha.2 i (by omega)) 32 0 N μ (by omega) (by omega) ⟨rfl, fun i hi => absurd hi (by omega)⟩
  obtain ⟨m2, b1, b2, b3⟩ := lpe (fun fu d (a : MM) => f_Ro_spread_L57 N fu (nI n) (nI ch) (nI d) a) n (fun a => some (nI 1, a)) (fun d a => a.1 = μ.1 ∧ PJ 346 (pall ch d) a) (fun fu a ha => by
      simp (disch := omega) only [f_Ro_spread_L57, nI_leI, Nat.le_refl, if_true, l_1]) (fun fu d a hd ha => by
      have hS := sm_pall hc d (by omega)
      obtain ⟨z, w1, w2, w3⟩ := lpd (fun f x (p : MM × (Nat → Nat)) => f_Ro_spread_L65 N (f_Ro_spread_L57 N fu) f (nI n) (nI ch) (nI d) x p.1) (d + 1) (fun p => f_Ro_spread_L57 N fu (nI n) (nI ch) (nI (d + 1)) p.1) (fun k p => p.1.1 = μ.1 ∧ PJ 346 p.2 p.1 ∧ sm p.2 32 = 1000000000 ∧ pdn ch k p.2 = pall ch (d + 1)) (fun f p hp => by
          show f_Ro_spread_L65 N _ (f + 1) _ _ _ (-nI 1) p.1 = _
          rw [f_Ro_spread_L65, if_pos (by decide), l_1, nI_add]) (fun f k p hk hp => by
          obtain ⟨p1, p2, p3, p4⟩ := hp
          have hb := sm_1 p.2 (show k < 32 by omega)
          have hb2 := mv_le (a := p.2 k) hc
          refine ⟨(mm_J (mm_J p.1 346 k (lN (p.2 k - p.2 k * ch / 100))) 346 (k + 1) (lN (p.2 (k + 1) + p.2 k * ch / 100)), pm ch k p.2), ?_, p1, PJ_pm p2 p3 hc (by omega), ?_, p4⟩
          · simp (disch := omega) only [f_Ro_spread_L65, l_0, l_1, nI_ltI, if_neg, gd_in, nI_clamp, nI_add, wr_e, p2 k (show k < 32 by omega), L_mv (show p.2 k ≤ 1000000000 by omega) hc, lN_sub hb2, gJ, if_true]
            rw [p2 (k + 1) (by omega), lN_add, ← dn_s]
            rfl
          · rw [sm_pm hc, if_neg (by omega)]; exact p3) (d + 1) N (a, pall ch d) (by omega) (by omega) ⟨ha.1, ha.2, hS, rfl⟩
      refine ⟨z.1, ?_, w2, ?_⟩
      · simp (disch := omega) only [f_Ro_spread_L57, nI_leI, if_neg]
        exact w1
      · have := w3.2.2
        rw [pdn] at this
        rw [← this]; exact w3.1) n 0 N (mm_J m1 346 0 1000000000) (by omega) (by omega) ⟨a2, fun j hj => by
        rw [gJ, if_pos rfl]
        unfold pall
        by_cases e : j = 0
        · rw [if_pos e, if_pos e]; rfl
        · rw [if_neg e, if_neg e]; exact a3 j hj⟩
  refine ⟨m2, ?_, b2, b3⟩
  unfold f_Ro_spread
  rw [if_neg (nI_pos (by omega)), if_neg (fun q => by have := (nI_ltI (a := 30) (b := n) (by omega) (by omega)).mp q; omega), if_neg (nI_pos (by omega)), if_pos (show nI ch ≤ 100 from (nI_leI (a := ch) (b := 100) (by omega) (by omega)).mpr hc)]
  exact a1.trans b1
/-- the weakest ink -/
def wkS (g : Nat → Int32) (c k w : Nat) : Nat := if iN g c k = 0 then w else if w = 0 then iN g c k else if w ≤ iN g c k then w else iN g c k
def wk (g : Nat → Int32) (c : Nat) : Nat := fo (wkS g c) (zN g c) 0 0
def lim (w : Nat) : Nat := if w = 0 then 32 else w
theorem co_weak {N nc nt c : Nat} (hN : 15000 ≤ N) {g T F : Nat → Int32} {μ : MM} (h : LK nc nt g T F μ) (hc : c < nc) : f_Wo_weakestInk N 28 (nI c) μ = some (nI (wk g c), μ) ∧ wk g c ≤ 9 := by
  obtain ⟨⟨h1, h0, hnc, hnt, hpm, hf⟩, ⟨hs, -⟩, ⟨hw, -⟩, hT, -⟩ := h
  obtain ⟨hz, hz1, hz6, hu, hk9⟩ := hw c hc
  obtain ⟨e1, e2, e3⟩ := hs c hc
  have h := lpf (fun fu k (n : Nat) => f_Wo_weakestInk_L19 N 28 fu (nI c) (nI n) (nI k) μ) (zN g c) (wkS g c) (fun n => some (nI n, μ)) (fun k n => n ≤ 9) (fun fu n hn => by
      simp (disch := omega) only [f_Wo_weakestInk_L19, Nat.reduceAdd, n_29, gd_in, nI_clamp, e1, hz, nI_leI, Nat.le_refl, if_true]) (fun fu k n hk hn => by
      obtain ⟨ho, ho3, ha, ha10, ha6, hi, hi9⟩ := hk9 k hk
      obtain ⟨f1, f2, f3⟩ := e3 k hk
      simp (disch := omega) only [f_Wo_weakestInk_L19, Nat.reduceAdd, n_29, n_32, gd_in, nI_clamp, e1, hz, nI_leI, if_neg, l_0, l_1, l_6, pk_mul, nI_add, Nat.mul_comm c 6, f3, hi, nI_eq, Nat.le_zero_eq]
      unfold wkS
      by_cases h0 : iN g c k = 0
      · simp only [h0, if_true, true_and]; omega
      · by_cases h1 : n = 0
        · simp only [h0, h1, if_true, if_false, true_and]; omega
        · by_cases h2 : n ≤ iN g c k
          · simp only [h0, h1, h2, if_true, if_false, true_and]; omega
          · simp only [h0, h1, h2, if_false, true_and]; omega) (zN g c) 0 N 0 (by omega) (by omega) (by omega)
  unfold f_Wo_weakestInk
  simp (disch := omega) only [l_0, nI_ltI, if_neg, if_pos, Nat.reduceAdd, n_29, show Int32.ofNat 6 = nI 6 from rfl]
  exact h
theorem ro_unhurt {N nc nt c : Nat} (hN : 15000 ≤ N) {g T F : Nat → Int32} {μ : MM} {P : Nat → Nat} (h : LK nc nt g T F μ) (hc : c < nc) (hP : PJ 346 P μ) : f_Ro_partsUnhurt N (nI c) μ = some (lN (sm P (lim (wk g c))), μ) := by
  obtain ⟨q1, q2⟩ := co_weak hN h hc
  unfold f_Ro_partsUnhurt
  rw [q1, ob_e]
  generalize wk g c = w at *
  obtain ⟨y, w1, w2⟩ := lpx (fun fu k (y : Nat) => f_Ro_partsUnhurt_L20 N fu (nI w) (lN y) (nI k) μ) (lim w) (fun k y => y + P k) (fun y => some (lN y, μ)) (fun k y => y = sm P k) (fun fu y hy => by
      unfold lim
      by_cases hw : w = 0
      · simp (disch := omega) only [hw, if_true, f_Ro_partsUnhurt_L20, l_32, nI_leI, Nat.le_refl]
      · simp (disch := omega) only [hw, if_false, f_Ro_partsUnhurt_L20, l_32, l_0, nI_leI, nI_eq, Nat.le_refl, if_true, if_neg]) (fun fu k y hk hy => by
      refine ⟨?_, by rw [hy]; rfl⟩
      unfold lim at hk
      by_cases hw : w = 0
      · rw [if_pos hw] at hk
        simp (disch := omega) only [hw, if_true, f_Ro_partsUnhurt_L20, f_Ro_partsUnhurt_B40, l_32, l_0, l_1, nI_leI, if_neg, gd_in, nI_clamp, hP k (show k < 32 by omega), lN_add, nI_add]
      · rw [if_neg hw] at hk
        simp (disch := omega) only [hw, if_false, f_Ro_partsUnhurt_L20, f_Ro_partsUnhurt_B40, l_32, l_0, l_1, nI_leI, nI_eq, if_neg, gd_in, nI_clamp, hP k (show k < 32 by omega), lN_add, nI_add]) (lim w) 0 N 0 (by omega) (by unfold lim; split <;> omega) rfl
  rw [w2] at w1
  exact w1
theorem MK_of {nc nt : Nat} {m m' : MM} (h : MK nc nt m) (he : m'.1 = m.1) : MK nc nt m' := by
  unfold MK at h ⊢
  rw [he]; exact h
theorem mo_oddsOf {N nc nt c n ch : Nat} (hN : 15000 ≤ N) {m : MM} (h : MK nc nt m) (hc : c < nc) (hn : n ≤ 30) (hch : ch ≤ 100) : ∃ m', f_Mo_oddsOf N (nI c) (nI n) (nI ch) m = some (nI (sm (pall ch n) (lim (wk (m.1 368) c))), m') ∧ m'.1 = m.1 := by
  obtain ⟨hm27, hm26, hW, hT, hF, hnc, hnt⟩ := h
  obtain ⟨hz, hz1, hz6, hu, hk9⟩ := hW.1 c hc
  have hl := lpf (fun fu k (w : Nat) => f_Mo_oddsOf_L7 N fu (nI c) (nI n) (nI ch) (nI (if w = 0 then 99 else w)) (nI k) m) (zN (m.1 368) c) (wkS (m.1 368) c) (fun w => f_Mo_oddsOf_L59 N N (nI n) (nI ch) (nI (if w = 0 then 99 else w)) (nI 0) m) (fun k w => w ≤ 9) (fun fu w hw => by
      rw [f_Mo_oddsOf_L7, mo_words n_368 (by omega), ob_e, hz, if_pos ((nI_leI (by omega) (by omega)).mpr (Nat.le_refl _))]; rfl) (fun fu k w hk hw => by
      obtain ⟨ho, ho3, ha, ha10, ha6, hi, hi9⟩ := hk9 k hk
      rw [f_Mo_oddsOf_L7, mo_words n_368 (by omega), ob_e, hz, if_neg (fun q => by have := (nI_leI (by omega) (by omega)).mp q; omega), mo_ink n_368 (by omega) (by omega), ob_e, mo_ink n_368 (by omega) (by omega), ob_e, hi, l_1, nI_add]
      unfold wkS
      by_cases h0 : iN (m.1 368) c k = 0
      · rw [if_pos (by rw [h0]; decide), if_pos h0]
        exact ⟨rfl, hw⟩
      · rw [if_neg (fun q => by rw [l_0, nI_leI (by omega) (by omega)] at q; omega), if_neg h0]
        by_cases h1 : w = 0
        · rw [if_pos h1, if_pos h1, if_pos ((nI_ltI (by omega) (by omega)).mpr (by omega)), if_neg h0]
          exact ⟨rfl, hi9⟩
        · rw [if_neg h1, if_neg h1]
          by_cases h2 : w ≤ iN (m.1 368) c k
          · rw [if_neg (fun q => by have := (nI_ltI (by omega) (by omega)).mp q; omega), if_pos h2, if_neg h1]
            exact ⟨rfl, hw⟩
          · rw [if_pos ((nI_ltI (by omega) (by omega)).mpr (by omega)), if_neg h2, if_neg h0]
            exact ⟨rfl, hi9⟩) (zN (m.1 368) c) 0 N 0 (by omega) (by omega) (by omega)
  obtain ⟨hl1, hl2⟩ := hl
  have hwk : fo (wkS (m.1 368) c) (zN (m.1 368) c) 0 0 = wk (m.1 368) c := rfl
  rw [hwk] at hl1 hl2
  have hstart : f_Mo_oddsOf N (nI c) (nI n) (nI ch) m = f_Mo_oddsOf_L59 N N (nI n) (nI ch) (nI (if wk (m.1 368) c = 0 then 99 else wk (m.1 368) c)) (nI 0) m := hl1
  clear hl1
  generalize wk (m.1 368) c = w at *
  generalize hlz : (if w = 0 then 99 else w) = lz at hstart
  have hlz2 : lz ≤ 99 := by rw [← hlz]; split <;> omega
  obtain ⟨m1, a1, a2, a3⟩ := lpe (fun fu j (a : MM) => f_Mo_oddsOf_L59 N fu (nI n) (nI ch) (nI lz) (nI j) a) 32 (fun a => f_Mo_oddsOf_L94 N N (nI n) (nI ch) (nI lz) (nI 0) a) (fun j a => a.1 = m.1 ∧ ∀ i, i < j → a.2 374 i = lN (if i = 0 then 1000000000 else 0)) (fun fu a ha => by
      simp (disch := omega) only [f_Mo_oddsOf_L59, l_32, nI_leI, Nat.le_refl, if_true]; rfl) (fun fu j a hj ha => by
      refine ⟨mm_J a 374 j (lN (if j = 0 then 1000000000 else 0)), ?_, ha.1, fun i hi => ?_⟩
      · rw [f_Mo_oddsOf_L59, if_neg (fun q => by rw [l_32, nI_leI (by omega) (by omega)] at q; omega), f_Mo_oddsOf_B84, gd_in (by omega) (by omega), nI_clamp (by omega), wr_e, l_1, nI_add]
        by_cases e : j = 0
        · rw [if_pos e, if_pos (show nI j = 0 by rw [e]; rfl)]; rfl
        · rw [if_neg e, if_neg (fun q => by rw [l_0, nI_eq (by omega) (by omega)] at q; exact e q)]; rfl
      · rw [gJ, if_pos rfl]
        by_cases e : i = j
        · rw [if_pos e, e]
        · rw [if_neg e]; exact ha.2 i (by omega)) 32 0 N m (by omega) (by omega) ⟨rfl, fun i hi => absurd hi (by omega)⟩
  obtain ⟨m2, b1, b2, b3⟩ := lpe (fun fu d (a : MM) => f_Mo_oddsOf_L94 N fu (nI n) (nI ch) (nI lz) (nI d) a) n (fun a => f_Mo_oddsOf_L169 N N (nI lz) (lN 0) (nI 0) a) (fun d a => a.1 = m.1 ∧ PJ 374 (pall ch d) a) (fun fu a ha => by
      simp (disch := omega) only [f_Mo_oddsOf_L94, nI_leI, Nat.le_refl, if_true]; rfl) (fun fu d a hd ha => by
      have hS := sm_pall hch d (by omega)
      obtain ⟨z, w1, w2, w3⟩ := lpd (fun f x (p : MM × (Nat → Nat)) => f_Mo_oddsOf_L104 N (f_Mo_oddsOf_L94 N fu) f (nI n) (nI ch) (nI lz) (nI d) x p.1) (d + 1) (fun p => f_Mo_oddsOf_L94 N fu (nI n) (nI ch) (nI lz) (nI (d + 1)) p.1) (fun k p => p.1.1 = m.1 ∧ PJ 374 p.2 p.1 ∧ sm p.2 32 = 1000000000 ∧ pdn ch k p.2 = pall ch (d + 1)) (fun f p hp => by
          show f_Mo_oddsOf_L104 N _ (f + 1) _ _ _ _ (-nI 1) p.1 = _
          rw [f_Mo_oddsOf_L104, if_pos (by decide), l_1, nI_add]) (fun f k p hk hp => by
          obtain ⟨p1, p2, p3, p4⟩ := hp
          have hb := sm_1 p.2 (show k < 32 by omega)
          have hb2 := mv_le (a := p.2 k) hch
          refine ⟨(mm_J (mm_J p.1 374 (k + 1) (lN (p.2 (k + 1) + p.2 k * ch / 100))) 374 k (lN (p.2 k - p.2 k * ch / 100)), pm ch k p.2), ?_, p1, PJ_pm2 p2 p3 hch (by omega), ?_, p4⟩
          · simp (disch := omega) only [f_Mo_oddsOf_L104, l_0, l_1, nI_ltI, if_neg, gd_in, nI_clamp, nI_add, wr_e, p2 k (show k < 32 by omega), p2 (k + 1) (show k + 1 < 32 by omega), L_mv (show p.2 k ≤ 1000000000 by omega) hch, lN_add, gJ, if_true]
            rw [lN_sub hb2, ← dn_s]
            rfl
          · rw [sm_pm hch, if_neg (by omega)]; exact p3) (d + 1) N (a, pall ch d) (by omega) (by omega) ⟨ha.1, ha.2, hS, rfl⟩
      refine ⟨z.1, ?_, w2, ?_⟩
      · simp (disch := omega) only [f_Mo_oddsOf_L94, nI_leI, if_neg]
        exact w1
      · have := w3.2.2
        rw [pdn] at this
        rw [← this]; exact w3.1) n 0 N m1 (by omega) (by omega) ⟨a2, fun j hj => a3 j hj⟩
  obtain ⟨y, c1, c2⟩ := lpx (fun fu k (y : Nat) => f_Mo_oddsOf_L169 N fu (nI lz) (lN y) (nI k) m2) (lim w) (fun k y => y + pall ch n k) (fun y => some (nI y, m2)) (fun k y => y = sm (pall ch n) k) (fun fu y hy => by
      unfold lim
      by_cases hw : w = 0
      · simp (disch := omega) only [hw, if_true, f_Mo_oddsOf_L169, l_32, nI_leI, Nat.le_refl, lN_i]
      · have : lz = w := by rw [← hlz, if_neg hw]
        simp (disch := omega) only [hw, if_false, f_Mo_oddsOf_L169, l_32, this, nI_leI, Nat.le_refl, if_true, if_neg, lN_i]) (fun fu k y hk hy => by
      refine ⟨?_, by rw [hy]; rfl⟩
      have hk2 : k < 32 ∧ k < lz := by
        unfold lim at hk
        by_cases hw : w = 0
        · rw [if_pos hw] at hk hlz; omega
        · rw [if_neg hw] at hk hlz; omega
      simp (disch := omega) only [f_Mo_oddsOf_L169, l_32, l_1, nI_leI, if_neg, gd_in, nI_clamp, b3 k (show k < 32 by omega), lN_add, nI_add]) (lim w) 0 N 0 (by omega) (by unfold lim; split <;> omega) rfl
  rw [c2] at c1
  exact ⟨m2, hstart.trans (a1.trans (b1.trans c1)), b2⟩
theorem Rel_cm {k : Nat} {c c' m m' : MM} (h : Rel k c m) (hc : c'.1 = c.1) (hm : m'.1 = m.1) : Rel (k + 6) c' m' := Rel_k (Rel_c (Rel_m h (fun a _ => by rw [hm])) (fun a _ => by rw [hc])) (by omega)
/-- what refuses a count of days or a chance -/
theorem ro_spread_f {N : Nat} {x2 x3 : Int32} {μ : MM} (h : x2 < nI 0 ∨ nI 30 < x2 ∨ x3 < nI 0 ∨ nI 100 < x3) : f_Ro_spread N x2 x3 μ = some (nI 0, μ) := by
  unfold f_Ro_spread
  by_cases h1 : x2 < 0
  · rw [if_pos h1]; rfl
  · rw [if_neg h1]
    by_cases h2 : 30 < x2
    · rw [if_pos h2]; rfl
    · rw [if_neg h2]
      by_cases h3 : x3 < 0
      · rw [if_pos h3]; rfl
      · rw [if_neg h3]
        rcases h with h | h | h | h
        · exact absurd h h1
        · exact absurd h h2
        · exact absurd h h3
        · rw [if_neg (show ¬ x3 ≤ 100 from (fa_of_lt h).2.1)]; rfl
theorem op_odds {k N : Nat} (hN : 15000 ≤ N) (x1 x2 x3 : Int32) : Sp k (f_Ro_odds N x1 x2 x3) (f_Mo_odds N x1 x2 x3) := by
  intro c m h
  replace h : Rel k c (mm_I m 355 0 0) := h
  unfold f_Mo_odds
  rw [wr_e]
  generalize mm_I m 355 0 0 = m0 at h ⊢
  have hr := h
  obtain ⟨nc, nt, hL, hM⟩ := Rel_L h
  have hm27 := hM.1
  have hnc := hM.2.2.2.2.2.1
  unfold f_Ro_odds
  rcases pk_ix x1 (n := nc) (by omega) with hx | hx | ⟨j, hj, rfl⟩
  · exact no_op (-1) hr (by rw [co_isCard_f hL.1 (Or.inl hx), ob_e]; rfl) (by rw [mo_isCard_f hm27 (Or.inl hx), ob_e]; rfl)
  · exact no_op (-1) hr (by rw [co_isCard_f hL.1 (Or.inr hx), ob_e]; rfl) (by rw [mo_isCard_f hm27 (Or.inr hx), ob_e]; rfl)
  · rw [co_isCard_t hL.1 hj, ob_e, mo_isCard_t hm27 hnc hj, ob_e, if_neg (show ¬ nI 1 = 0 by decide), if_neg (show ¬ nI 1 = 0 by decide), L_0, L_30, mo_isIn (by decide) (by decide), ob_e]
    rcases arg_in x2 (n := 30) (by decide) with hy | hy | ⟨n, hn, rfl⟩
    · exact no_op (-1) hr (by rw [ro_spread_f (Or.inl hy), ob_e]; rfl) (by rw [mo_in_f (Or.inl hy)]; rfl)
    · exact no_op (-1) hr (by rw [ro_spread_f (Or.inr (Or.inl hy)), ob_e]; rfl) (by rw [mo_in_f (Or.inr hy)]; rfl)
    · rw [mo_in_t (by omega) hn (by decide), if_neg (show ¬ bI true = 0 by decide), L_100, mo_isIn (by decide) (by decide), ob_e]
      rcases arg_in x3 (n := 100) (by decide) with hz | hz | ⟨ch, hch, rfl⟩
      · exact no_op (-1) hr (by rw [ro_spread_f (Or.inr (Or.inr (Or.inl hz))), ob_e]; rfl) (by rw [mo_in_f (Or.inl hz)]; rfl)
      · exact no_op (-1) hr (by rw [ro_spread_f (Or.inr (Or.inr (Or.inr hz))), ob_e]; rfl) (by rw [mo_in_f (Or.inr hz)]; rfl)
      · rw [mo_in_t (by omega) hch (by decide), if_neg (show ¬ bI true = 0 by decide)]
        obtain ⟨c1, a1, a2, a3⟩ := ro_spread (N := N) (μ := c) hN hn hch
        have hL1 : LK nc nt (m0.1 368) (m0.1 362) (m0.1 365) c1 := LK_of hL (fun a _ => by rw [a2])
        obtain ⟨m1, b1, b2⟩ := mo_oddsOf hN hM hj hn hch
        rw [a1, ob_e, if_neg (show ¬ nI 1 = 0 by decide), ro_unhurt hN hL1 hj a3, ob_e, b1, ob_e, lN_i]
        exact ⟨_, _, _, rfl, rfl, Rel_cm hr a2 b2⟩
theorem op_rescue {k N : Nat} (hN : 15000 ≤ N) (x1 x2 : Int32) : Sp k (f_Ro_rescue N x1 x2) (f_Mo_rescue N x1 x2) := by
  intro c m h
  replace h : Rel k c (mm_I m 355 0 0) := h
  unfold f_Mo_rescue
  rw [wr_e]
  generalize mm_I m 355 0 0 = m0 at h ⊢
  have hr := h
  obtain ⟨nc, nt, hL, hM⟩ := Rel_L h
  have hm27 := hM.1
  have hnc := hM.2.2.2.2.2.1
  unfold f_Ro_rescue
  rw [co_isNone hL.1, ob_e, hm27]
  by_cases h0 : nc = 0
  · rw [decide_eq_true h0, if_neg (show ¬ bI true = 0 by decide), if_pos (show nI nc = 0 by rw [h0]; rfl)]
    exact no_op (-1) hr rfl rfl
  · rw [decide_eq_false h0, if_pos (show bI false = 0 from rfl), if_neg (fun q => by rw [l_0, nI_eq (by omega) (by omega)] at q; exact h0 q), L_0, L_30, mo_isIn (by decide) (by decide), ob_e]
    rcases arg_in x1 (n := 30) (by decide) with hy | hy | ⟨n, hn, rfl⟩
    · exact no_op (-1) hr (by rw [ro_spread_f (Or.inl hy), ob_e]; rfl) (by rw [mo_in_f (Or.inl hy)]; rfl)
    · exact no_op (-1) hr (by rw [ro_spread_f (Or.inr (Or.inl hy)), ob_e]; rfl) (by rw [mo_in_f (Or.inr hy)]; rfl)
    · rw [mo_in_t (by omega) hn (by decide), if_neg (show ¬ bI true = 0 by decide), L_100, mo_isIn (by decide) (by decide), ob_e]
      rcases arg_in x2 (n := 100) (by decide) with hz | hz | ⟨ch, hch, rfl⟩
      · exact no_op (-1) hr (by rw [ro_spread_f (Or.inr (Or.inr (Or.inl hz))), ob_e]; rfl) (by rw [mo_in_f (Or.inl hz)]; rfl)
      · exact no_op (-1) hr (by rw [ro_spread_f (Or.inr (Or.inr (Or.inr hz))), ob_e]; rfl) (by rw [mo_in_f (Or.inr hz)]; rfl)
      · rw [mo_in_t (by omega) hch (by decide), if_neg (show ¬ bI true = 0 by decide)]
        obtain ⟨c1, a1, a2, a3⟩ := ro_spread (N := N) (μ := c) hN hn hch
        have hL1 : LK nc nt (m0.1 368) (m0.1 362) (m0.1 365) c1 := LK_of hL (fun a _ => by rw [a2])
        rw [a1, ob_e, if_neg (show ¬ nI 1 = 0 by decide)]
        have hS : ∀ w, lim w ≤ 32 → sm (pall ch n) (lim w) ≤ 1000000000 := fun w hw => by
          rw [← sm_pall hch n hn]; exact sm_le _ hw
        have hO : ∀ i, i < nc → sm (pall ch n) (lim (wk (m0.1 368) i)) ≤ 1000000000 := fun i hi => hS _ (by
          have := (co_weak hN hL1 hi).2
          unfold lim; split <;> omega)
        have h23 : c1.1 23 1 = nI nc := hL1.1.1
        refine lp_2 (fun fu i (p : Int32 × Int64) => f_Ro_rescue_L29 N fu p.1 p.2 (nI i) c1) (fun fu i (y : Int32 × MM) => f_Mo_rescue_L43 N fu (nI n) (nI ch) y.1 (nI i) y.2) nc (fun _ p y => p.1 = y.1 ∧ y.2.1 = m0.1 ∧ (y.1 = -1 ∨ ∃ b, b < nc ∧ y.1 = nI b ∧ p.2 = lN (sm (pall ch n) (lim (wk (m0.1 368) b))))) (fun X Y => ∃ r c' m', X = some (r, c') ∧ Y = some (r, m') ∧ Rel (k + 6) c' m') (fun fa fb p y hR => ?_) (fun fa fb i p y hi hR => ?_) nc 0 N N (-1, 0) (-1, m0) (by omega) (by omega) (by omega) ⟨rfl, rfl, Or.inl rfl⟩
        · obtain ⟨e1, e2, e3⟩ := hR
          have h27 : y.2.1 355 27 = nI nc := by rw [e2]; exact hm27
          simp (disch := omega) only [f_Ro_rescue_L29, f_Mo_rescue_L43, h23, h27, nI_leI, Nat.le_refl, if_true]
          exact ⟨_, _, _, rfl, by rw [e1], Rel_cm hr a2 e2⟩
        · obtain ⟨e1, e2, e3⟩ := hR
          have hM2 : MK nc nt y.2 := MK_of hM e2
          have h27 := hM2.1
          obtain ⟨w1, w2⟩ := mo_leftOf hN n_368 hM2.2.2.1 hnc hi
          have hz6 := (hM.2.2.1.1 i hi).2.2.1
          rw [e2] at w1 w2
          left
          rw [f_Ro_rescue_L29, f_Mo_rescue_L43, h23, h27, if_neg (fun q => by have := (nI_leI (by omega) (by omega)).mp q; omega), if_neg (fun q => by have := (nI_leI (by omega) (by omega)).mp q; omega), co_left_t hN hL1 hi, ob_e, w1, ob_e, l_1, nI_add]
          by_cases hl : lef (m0.1 368) i = 0
          · rw [if_pos (show bI (decide (¬ lef (m0.1 368) i = 0)) = 0 by rw [decide_eq_false (by omega)]; rfl), if_pos (show nI (lef (m0.1 368) i) ≤ 0 by rw [hl]; decide)]
            exact ⟨p, y, rfl, rfl, e1, e2, e3⟩
          · rw [if_neg (show ¬ bI (decide (¬ lef (m0.1 368) i = 0)) = 0 by rw [decide_eq_true hl]; decide), if_neg (fun q => by rw [l_0, nI_leI (by omega) (by omega)] at q; omega), ro_unhurt hN hL1 hi a3, ob_e, e1]
            rcases e3 with e3 | ⟨b, f1, f2, f3⟩
            · rw [e3, if_pos (show (-1 : Int32) = -nI 1 from rfl), if_pos (show (-1 : Int32) = -nI 1 from rfl)]
              exact ⟨(nI i, lN (sm (pall ch n) (lim (wk (m0.1 368) i)))), (nI i, y.2), rfl, rfl, rfl, e2, Or.inr ⟨i, hi, rfl, rfl⟩⟩
            · obtain ⟨m1, b1, b2⟩ := mo_oddsOf hN hM2 hi hn hch
              have hM3 : MK nc nt m1 := MK_of hM2 b2
              obtain ⟨m2, b3, b4⟩ := mo_oddsOf hN hM3 f1 hn hch
              rw [b2, e2] at b3
              rw [e2] at b1
              have o1 := hO i hi
              have o2 := hO b f1
              have hn1 : ¬ nI b = -nI 1 := fun e => by rw [m_eq (by omega)] at e; exact e
              rw [f2, if_neg hn1, if_neg hn1, b1, ob_e, b3, ob_e, f3]
              by_cases hv : sm (pall ch n) (lim (wk (m0.1 368) b)) ≤ sm (pall ch n) (lim (wk (m0.1 368) i))
              · rw [if_pos ((lg_cmp_ge _ _).mpr ((lN_le (by omega) (by omega)).mpr hv)), if_pos ((nI_leI (by omega) (by omega)).mpr hv)]
                exact ⟨(nI b, p.2), (nI b, m2), by rw [f3], rfl, rfl, by rw [b4, b2, e2], Or.inr ⟨b, f1, rfl, f3⟩⟩
              · rw [if_neg (fun q => hv ((lN_le (by omega) (by omega)).mp ((lg_cmp_ge _ _).mp q))), if_neg (fun q => hv ((nI_leI (by omega) (by omega)).mp q))]
                exact ⟨(nI i, lN (sm (pall ch n) (lim (wk (m0.1 368) i)))), (nI i, m2), rfl, rfl, rfl, by rw [b4, b2, e2], Or.inr ⟨i, hi, rfl, rfl⟩⟩
