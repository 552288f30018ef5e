/-! ===== more looks: words named, bits ===== -/
theorem bitsL {μ : MM} (L : Nat → Int32 → Int32 → MM → Option (Int32 × MM)) (p : Nat → Bool) {n N : Nat} (hn : n < N) (he : ∀ fu x, L (fu + 1) x (nI n) μ = some (x, μ)) (hs : ∀ fu k x, k < n → L (fu + 1) x (nI k) μ = L fu (if p k = true then x ||| (nI 1 <<< (nI k &&& nI 31)) else x) (nI (k + 1)) μ) : L N (nI 0) (nI 0) μ = some (bits p n, μ) :=
  (lpf (fun fu k (x : Int32) => L fu x (nI k) μ) n (fun k x => if p k = true then x ||| (nI 1 <<< (nI k &&& nI 31)) else x) (fun x => some (x, μ)) (fun _ _ => True) (fun fu x _ => he fu x) (fun fu k x hk _ => ⟨hs fu k x hk, trivial⟩) n 0 N (nI 0) (by omega) (by omega) trivial).1
def nmd (g : Nat → Int32) (c s : Nat) : Int32 := fo (fun k x => if iN g c k = 0 then x else if oN g c k = s then x ||| (nI 1 <<< (nI (aN g c k) &&& nI 31)) else x) (zN g c) 0 (nI 0)
theorem co_named {N nc nt c s : Nat} (hN : 15000 ≤ N) (hs3 : s < 3) {g T F : Nat → Int32} {μ : MM} (h : LK nc nt g T F μ) (hc : c < nc) : f_Wo_named N 28 (nI c) (nI s) μ = some (nmd g c s, μ) := by
  obtain ⟨⟨h1, h0, hnc, hnt, hpm, hf⟩, ⟨hs, -⟩, ⟨hw, -⟩, hT, -⟩ := h
  obtain ⟨hz, hz1, hz6, hu, hk9⟩ := hw c hc
  obtain ⟨e1, e2, e3⟩ := hs c hc
  have h := lpf (fun fu k (x : Int32) => f_Wo_named_L20 N 28 fu (nI c) (nI s) x (nI k) μ) (zN g c) (fun k x => if iN g c k = 0 then x else if oN g c k = s then x ||| (nI 1 <<< (nI (aN g c k) &&& nI 31)) else x) (fun x => some (x, μ)) (fun _ _ => True) (fun fu x _ => by
      simp (disch := omega) only [f_Wo_named_L20, Nat.reduceAdd, n_29, gd_in, nI_clamp, e1, hz, nI_leI, Nat.le_refl, if_true]) (fun fu k x hk _ => by
      refine ⟨?_, trivial⟩
      obtain ⟨ho, ho3, ha, ha10, ha6, hi, hi9⟩ := hk9 k hk
      obtain ⟨f1, f2, f3⟩ := e3 k hk
      simp (disch := omega) only [f_Wo_named_L20, Nat.reduceAdd, n_29, n_30, n_31, n_32, gd_in, nI_clamp, e1, hz, nI_leI, if_neg, l_0, l_1, l_6, l_31, pk_mul, nI_add, Nat.mul_comm c 6, f1, f2, f3, hi, ho, ha, nI_eq, Nat.le_zero_eq]
      by_cases h0 : iN g c k = 0
      · simp only [if_pos h0]
      · simp only [if_neg h0]
        by_cases h1 : oN g c k = s
        · simp only [if_pos h1]
        · simp only [if_neg h1]) (zN g c) 0 N (nI 0) (by omega) (by omega) trivial
  unfold f_Wo_named
  simp (disch := omega) only [l_0, nI_ltI, if_neg, if_pos, Nat.reduceAdd, n_29, show Int32.ofNat 6 = nI 6 from rfl]
  exact h.1
theorem mo_leads {N nc nt c : Nat} (hN : 15000 ≤ N) {m : MM} (h : MK nc nt m) (hc : c < nc) : f_Mo_leads N (nI c) m = some (nmd (m.1 368) c 2, m) := by
  obtain ⟨hm27, hm26, hW, hT, hF, hnc, hnt⟩ := h
  obtain ⟨hz, hz1, hz6, hu, hk9⟩ := hW.1 c hc
  exact (lpf (fun fu k (x : Int32) => f_Mo_leads_L4 N fu (nI c) x (nI k) m) (zN (m.1 368) c) (fun k x => if iN (m.1 368) c k = 0 then x else if oN (m.1 368) c k = 2 then x ||| (nI 1 <<< (nI (aN (m.1 368) c k) &&& nI 31)) else x) (fun x => some (x, m)) (fun _ _ => True) (fun fu x _ => by
      simp (disch := omega) only [f_Mo_leads_L4, mo_words n_368, ob_e, hz, nI_leI, Nat.le_refl, if_true]) (fun fu k x hk _ => by
      refine ⟨?_, trivial⟩
      obtain ⟨ho, ho3, ha, ha10, ha6, hi, hi9⟩ := hk9 k hk
      simp (disch := omega) only [f_Mo_leads_L4, mo_words n_368, mo_ink n_368, mo_sort n_368, mo_what n_368, ob_e, hz, hi, ho, ha, nI_leI, if_neg, l_0, l_1, l_2, l_31, nI_add, nI_eq, Nat.le_zero_eq, or_0]
      by_cases h0 : iN (m.1 368) c k = 0
      · simp only [if_pos h0]
      · simp only [if_neg h0]
        by_cases h1 : oN (m.1 368) c k = 2
        · simp only [if_pos h1]
        · simp only [if_neg h1]) (zN (m.1 368) c) 0 N (nI 0) (by omega) (by omega) trivial).1
theorem or_ite {p : Prop} [Decidable p] {x y : Int32} : x ||| (if p then nI 0 else y) = if p then x else x ||| y := by
  by_cases h : p
  · rw [if_pos h, if_pos h, or_0]
  · rw [if_neg h, if_neg h]
theorem ite_d {α : Type} {p : Prop} [Decidable p] {x y : α} : (if decide (¬ p) = true then x else y) = if p then y else x := by
  by_cases h : p
  · rw [if_pos h, if_neg (by simp [h])]
  · rw [if_neg h, if_pos (by simp [h])]
theorem op_nowhere {k N : Nat} (hN : 15000 ≤ N) : Sp k (f_Ro_nowhere N) (f_Mo_nowhere N) := Sp_ro fun c m h => by
  unfold f_Mo_nowhere
  rw [wr_e]
  generalize mm_I m 355 0 0 = m0 at h ⊢
  obtain ⟨nc, nt, hL, hM⟩ := Rel_L h
  have h1 := hL.1.1
  obtain ⟨hm27, hm26, hW, hT, hF, hnc, hnt⟩ := id hM
  unfold f_Ro_nowhere
  rw [co_isNone hL.1, ob_e, hm27]
  simp (disch := omega) only [l_0, none_R, nI_eq]
  by_cases h0 : nc = 0
  · simp only [h0, not_true_eq_false, if_false, if_true]
    exact ⟨_, rfl, rfl⟩
  · simp only [h0, not_false_eq_true, if_false, if_true]
    refine ⟨_, bitsL (f_Ro_nowhere_L16 N) (fun c => decide (¬ (nmd (m0.1 368) c 2 >>> (nI nc &&& nI 31)) = nI 0)) (n := nc) (by omega) (fun fu x => ?_) (fun fu k x hk => ?_), bitsL (f_Mo_nowhere_L18 N) _ (n := nc) (by omega) (fun fu x => ?_) (fun fu k x hk => ?_)⟩
    · simp (disch := omega) only [f_Ro_nowhere_L16, h1, nI_leI, Nat.le_refl, if_true]
    · simp (disch := omega) only [f_Ro_nowhere_L16, h1, nI_leI, if_neg, l_2, co_named hN _ hL hk, ob_e, l_0, l_1, l_31, nI_add, ite_d]
    · simp (disch := omega) only [f_Mo_nowhere_L18, hm27, nI_leI, Nat.le_refl, if_true]
    · simp (disch := omega) only [f_Mo_nowhere_L18, hm27, nI_leI, if_neg, mo_leads hN hM hk, ob_e, l_0, l_1, l_31, nI_add, or_ite, ite_d]
theorem fo_pair {α β : Type} (f : Nat → α → α) (g : Nat → β → β) : ∀ (m k : Nat) (a : α) (b : β), fo (fun k (p : α × β) => (f k p.1, g k p.2)) m k (a, b) = (fo f m k a, fo g m k b) := by
  intro m
  induction m with
  | zero => intro k a b; rfl
  | succ m ih => intro k a b; exact ih (k + 1) (f k a) (g k b)
theorem op_forged {k N : Nat} (hN : 15000 ≤ N) : Sp k (f_Ro_forged N) (f_Mo_forged N) := Sp_ro fun c m h => by
  unfold f_Mo_forged
  rw [wr_e]
  generalize mm_I m 355 0 0 = m0 at h ⊢
  obtain ⟨nc, nt, hL, hM⟩ := Rel_L h
  have h1 := hL.1.1
  obtain ⟨hm27, hm26, hW, hT, hF, hnc, hnt⟩ := id hM
  unfold f_Ro_forged
  rw [co_isNone hL.1, ob_e, hm27]
  simp (disch := omega) only [l_0, none_R, nI_eq]
  by_cases h0 : nc = 0
  · simp only [h0, not_true_eq_false, if_false, if_true]
    exact ⟨_, rfl, rfl⟩
  · simp only [h0, not_false_eq_true, if_false, if_true]
    refine ⟨_, bitsL (f_Ro_forged_L27 N) (fun c => decide (¬ (nmd (m0.1 368) c 0 &&& nmd (m0.1 368) c 1) = nI 0)) (n := nc) (by omega) (fun fu x => ?_) (fun fu k x hk => ?_), bitsL (f_Mo_forged_L18 N) _ (n := nc) (by omega) (fun fu x => ?_) (fun fu k x hk => ?_)⟩
    · simp (disch := omega) only [f_Ro_forged_L27, h1, nI_leI, Nat.le_refl, if_true]
    · simp (disch := omega) only [f_Ro_forged_L27, h1, nI_leI, if_neg]
      rw [l_0, l_1, co_named hN (by decide) hL hk, ob_e, co_named hN (by decide) hL hk, ob_e]
      simp only [l_31, nI_add, ite_d]
    · simp (disch := omega) only [f_Mo_forged_L18, hm27, nI_leI, Nat.le_refl, if_true]
    · simp (disch := omega) only [f_Mo_forged_L18, hm27, nI_leI, if_neg]
      obtain ⟨hz, hz1, hz6, hu, hk9⟩ := hW.1 k hk
      have hl := (lpf (fun f p (y : Int32 × Int32) => f_Mo_forged_L34 N (f_Mo_forged_L18 N fu) f x (nI k) y.1 y.2 (nI p) m0) (zN (m0.1 368) k) (fun p y => ((if iN (m0.1 368) k p = 0 then y.1 else if oN (m0.1 368) k p = 0 then y.1 ||| (nI 1 <<< (nI (aN (m0.1 368) k p) &&& nI 31)) else y.1), (if iN (m0.1 368) k p = 0 then y.2 else if oN (m0.1 368) k p = 1 then y.2 ||| (nI 1 <<< (nI (aN (m0.1 368) k p) &&& nI 31)) else y.2))) (fun y => f_Mo_forged_L18 N fu (x ||| (if (y.1 &&& y.2) = nI 0 then nI 0 else (nI 1 <<< (nI k &&& nI 31)))) (nI (k + 1)) m0) (fun _ _ => True) (fun f y _ => by
          simp (disch := omega) only [f_Mo_forged_L34, mo_words n_368, ob_e, hz, nI_leI, Nat.le_refl, if_true, l_0, l_1, l_31, nI_add]
          rfl) (fun f p y hp _ => by
          refine ⟨?_, trivial⟩
          obtain ⟨ho, ho3, ha, ha10, ha6, hi, hi9⟩ := hk9 p hp
          simp (disch := omega) only [f_Mo_forged_L34, f_Mo_forged_B93, mo_words n_368, mo_ink n_368, mo_sort n_368, mo_what n_368, ob_e, hz, hi, ho, ha, nI_leI, if_neg, l_0, l_1, l_31, nI_add, nI_eq, or_0]
          by_cases q0 : iN (m0.1 368) k p = 0
          · simp only [if_pos q0]
          · simp only [if_neg q0]
            by_cases q1 : oN (m0.1 368) k p = 0
            · simp (disch := omega) only [if_pos q1, if_neg]
            · simp only [if_neg q1]
              by_cases q2 : oN (m0.1 368) k p = 1
              · simp only [if_pos q2]
              · simp only [if_neg q2]) (zN (m0.1 368) k) 0 N (nI 0, nI 0) (by omega) (by omega) trivial).1
      rw [fo_pair (fun p (y : Int32) => if iN (m0.1 368) k p = 0 then y else if oN (m0.1 368) k p = 0 then y ||| (nI 1 <<< (nI (aN (m0.1 368) k p) &&& nI 31)) else y) (fun p (y : Int32) => if iN (m0.1 368) k p = 0 then y else if oN (m0.1 368) k p = 1 then y ||| (nI 1 <<< (nI (aN (m0.1 368) k p) &&& nI 31)) else y)] at hl
      refine hl.trans ?_
      simp only [or_ite, ite_d]
      rfl
theorem op_perhaps {k N : Nat} (hN : 15000 ≤ N) : Sp k (f_Ro_perhaps N) (f_Mo_perhaps N) := Sp_ro fun c m h => by
  unfold f_Mo_perhaps
  rw [wr_e]
  generalize mm_I m 355 0 0 = m0 at h ⊢
  obtain ⟨nc, nt, hL, hM⟩ := Rel_L h
  have h1 := hL.1.1
  obtain ⟨hm27, hm26, hW, hT, hF, hnc, hnt⟩ := id hM
  unfold f_Ro_perhaps
  rw [co_isNone hL.1, ob_e, hm27]
  simp (disch := omega) only [l_0, none_R, nI_eq]
  by_cases h0 : nc = 0
  · simp only [h0, not_true_eq_false, if_false, if_true]
    exact ⟨_, rfl, rfl⟩
  · simp only [h0, not_false_eq_true, if_false, if_true]
    refine ⟨_, bitsL (f_Ro_perhaps_L27 N) (fun c => decide (¬ zN (m0.1 368) c < lef (m0.1 368) c * 2)) (n := nc) (by omega) (fun fu x => ?_) (fun fu k x hk => ?_), bitsL (f_Mo_perhaps_L18 N) _ (n := nc) (by omega) (fun fu x => ?_) (fun fu k x hk => ?_)⟩
    · simp (disch := omega) only [f_Ro_perhaps_L27, h1, nI_leI, Nat.le_refl, if_true]
    · obtain ⟨hz, hz1, hz6, hu, hk9⟩ := hW.1 k hk
      obtain ⟨e1, e2, e3⟩ := hL.2.1.1 k hk
      obtain ⟨q1, q2⟩ := co_leftIn hN hL hk
      simp (disch := omega) only [f_Ro_perhaps_L27, h1, nI_leI, if_neg]
      rw [q1, ob_e]
      simp (disch := omega) only [gd_in, nI_clamp, e1, hz, l_1, l_2, l_31, nI_add, pk_mul, nI_ltI, ite_d]
    · simp (disch := omega) only [f_Mo_perhaps_L18, hm27, nI_leI, Nat.le_refl, if_true]
    · obtain ⟨hz, hz1, hz6, hu, hk9⟩ := hW.1 k hk
      obtain ⟨q1, q2⟩ := mo_gone hN hM hk
      simp (disch := omega) only [f_Mo_perhaps_L18, hm27, nI_leI, if_neg]
      rw [q1, ob_e, mo_words n_368 (by omega), ob_e, hz]
      simp (disch := omega) only [l_0, l_1, l_2, l_31, nI_add, pk_mul, nI_ltI, or_ite, ite_d]
      by_cases q : zN (m0.1 368) k < lef (m0.1 368) k * 2
      · rw [if_pos q, if_pos (by omega)]
      · rw [if_neg q, if_neg (by omega)]
theorem mo_hasI {N b : Nat} {x : Int32} {μ : MM} : f_Mo_has N x (nI b) μ = some (bI (decide ((x >>> (nI b &&& nI 31)) &&& nI 1 = nI 1)), μ) := by
  unfold f_Mo_has
  by_cases h : (x >>> (nI b &&& 31)) &&& 1 = 1
  · rw [if_pos h, decide_eq_true (show (x >>> (nI b &&& nI 31)) &&& nI 1 = nI 1 from h)]; rfl
  · rw [if_neg h, decide_eq_false (show ¬ (x >>> (nI b &&& nI 31)) &&& nI 1 = nI 1 from h)]; rfl
def rcs (g : Nat → Int32) (nc : Nat) (x : Int32) : Int32 := fo (fun b x => if (x >>> (nI b &&& nI 31)) &&& nI 1 = nI 1 then x ||| nmd g b 2 else x) nc 0 x
def rch (g : Nat → Int32) (nc c : Nat) : Int32 := fo (fun _ x => rcs g nc x) nc 0 (nmd g c 2)
theorem co_reached {N nc nt c : Nat} (hN : 15000 ≤ N) {g T F : Nat → Int32} {μ : MM} (h : LK nc nt g T F μ) (hc : c < nc) : f_Co_reachedFrom N 23 (nI c) μ = some (rch g nc c, μ) := by
  have h1 := h.1.1
  have hnc := h.1.2.2.1
  unfold f_Co_reachedFrom
  rw [show 23 + 4 + 1 = 28 from rfl, l_2, co_named hN (by decide) h hc, ob_e]
  exact (lpf (fun fu p (x : Int32) => f_Co_reachedFrom_L15 N 23 fu x (nI p) μ) nc (fun _ x => rcs g nc x) (fun x => some (x, μ)) (fun _ _ => True) (fun fu x _ => by
      simp (disch := omega) only [f_Co_reachedFrom_L15, h1, nI_leI, Nat.le_refl, if_true]) (fun fu p x hp _ => by
      refine ⟨?_, trivial⟩
      simp (disch := omega) only [f_Co_reachedFrom_L15, h1, nI_leI, if_neg]
      refine (lpf (fun f b (y : Int32) => f_Co_reachedFrom_L26 N 23 (f_Co_reachedFrom_L15 N 23 fu) f y (nI p) (nI b) μ) nc (fun b x => if (x >>> (nI b &&& nI 31)) &&& nI 1 = nI 1 then x ||| nmd g b 2 else x) (fun y => f_Co_reachedFrom_L15 N 23 fu y (nI (p + 1)) μ) (fun _ _ => True) (fun f y _ => by
        simp (disch := omega) only [f_Co_reachedFrom_L26, h1, nI_leI, Nat.le_refl, if_true, l_1, nI_add]) (fun f b y hb _ => by
        refine ⟨?_, trivial⟩
        simp (disch := omega) only [f_Co_reachedFrom_L26, h1, nI_leI, if_neg, l_1, l_31, nI_add]
        rw [show 23 + 4 + 1 = 28 from rfl, l_2, co_named hN (by decide) h hb, ob_e]
        split <;> rfl) nc 0 N x (by omega) (by omega) trivial).1) nc 0 N (nmd g c 2) (by omega) (by omega) trivial).1
theorem op_round {k N : Nat} (hN : 15000 ≤ N) : Sp k (f_Ro_round N) (f_Mo_round N) := Sp_ro fun c m h => by
  unfold f_Mo_round
  rw [wr_e]
  generalize mm_I m 355 0 0 = m0 at h ⊢
  obtain ⟨nc, nt, hL, hM⟩ := Rel_L h
  have h1 := hL.1.1
  obtain ⟨hm27, hm26, hW, hT, hF, hnc, hnt⟩ := id hM
  unfold f_Ro_round
  rw [co_isNone hL.1, ob_e, hm27]
  simp (disch := omega) only [l_0, none_R, nI_eq]
  by_cases h0 : nc = 0
  · simp only [h0, not_true_eq_false, if_false, if_true]
    exact ⟨_, rfl, rfl⟩
  · simp only [h0, not_false_eq_true, if_false, if_true]
    refine ⟨_, bitsL (f_Ro_round_L16 N) (fun c => decide (rch (m0.1 368) nc c >>> (nI c &&& nI 31) &&& nI 1 = nI 1)) (n := nc) (by omega) (fun fu x => ?_) (fun fu k x hk => ?_), bitsL (f_Mo_round_L18 N) _ (n := nc) (by omega) (fun fu x => ?_) (fun fu k x hk => ?_)⟩
    · simp (disch := omega) only [f_Ro_round_L16, h1, nI_leI, Nat.le_refl, if_true]
    · simp (disch := omega) only [f_Ro_round_L16, h1, nI_leI, if_neg]
      rw [co_reached hN hL hk, ob_e]
      simp only [l_1, l_31, nI_add, decide_eq_true_eq]
      rfl
    · simp (disch := omega) only [f_Mo_round_L18, hm27, nI_leI, Nat.le_refl, if_true]
    · simp (disch := omega) only [f_Mo_round_L18, hm27, nI_leI, if_neg]
      rw [mo_leads hN hM hk, ob_e]
      refine (lpf (fun f p (y : Int32) => f_Mo_round_L35 N (f_Mo_round_L18 N fu) f x (nI k) y (nI p) m0) nc (fun _ y => rcs (m0.1 368) nc y) (fun y => f_Mo_round_L18 N fu (x ||| (if (bI (decide ((y >>> (nI k &&& nI 31)) &&& nI 1 = nI 1))) = nI 0 then nI 0 else nI 1 <<< (nI k &&& nI 31))) (nI (k + 1)) m0) (fun _ _ => True) (fun f y _ => by
        simp (disch := omega) only [f_Mo_round_L35, hm27, nI_leI, Nat.le_refl, if_true, mo_hasI, ob_e, l_0, l_1, l_31, nI_add]
        rfl) (fun f p y hp _ => by
        refine ⟨?_, trivial⟩
        simp (disch := omega) only [f_Mo_round_L35, hm27, nI_leI, if_neg]
        refine (lpf (fun f2 b (z : Int32) => f_Mo_round_L47 N (f_Mo_round_L18 N fu) (f_Mo_round_L35 N (f_Mo_round_L18 N fu) f) f2 x (nI k) z (nI p) (nI b) m0) nc (fun b z => if (z >>> (nI b &&& nI 31)) &&& nI 1 = nI 1 then z ||| nmd (m0.1 368) b 2 else z) (fun z => f_Mo_round_L35 N (f_Mo_round_L18 N fu) f x (nI k) z (nI (p + 1)) m0) (fun _ _ => True) (fun f2 z _ => by
          simp (disch := omega) only [f_Mo_round_L47, hm27, nI_leI, Nat.le_refl, if_true, l_1, nI_add]) (fun f2 b z hb _ => by
          refine ⟨?_, trivial⟩
          simp (disch := omega) only [f_Mo_round_L47, hm27, nI_leI, if_neg, mo_hasI, ob_e, mo_leads hN hM hb, l_0, l_1, nI_add, or_0, bI_0, decide_eq_false_iff_not]
          by_cases q : z >>> (nI b &&& nI 31) &&& nI 1 = nI 1
          · simp only [q, not_true_eq_false, if_false, if_true]
          · simp only [q, not_false_eq_true, if_false, if_true]) nc 0 N y (by omega) (by omega) trivial).1) nc 0 N (nmd (m0.1 368) k 2) (by omega) (by omega) trivial).1.trans ?_
      simp only [bI_0, decide_eq_false_iff_not, decide_eq_true_eq]
      show f_Mo_round_L18 N fu (x ||| (if ¬ (rch (m0.1 368) nc k >>> (nI k &&& nI 31) &&& nI 1 = nI 1) then nI 0 else nI 1 <<< (nI k &&& nI 31))) (nI (k + 1)) m0 = _
      rw [or_ite]
      by_cases q : rch (m0.1 368) nc k >>> (nI k &&& nI 31) &&& nI 1 = nI 1
      · rw [if_neg (fun e => e q), if_pos q]
      · rw [if_pos q, if_neg q]
/-! the number of bits -/
def bcI (x : Int32) : Int32 := match f_In_bitCount_0f7a4 0 x ((fun _ _ => 0), (fun _ _ => 0)) with
  | some (r, _) => r
  | none => 0
theorem bc_e {N : Nat} {x : Int32} {μ : MM} : f_In_bitCount_0f7a4 N x μ = some (bcI x, μ) := rfl
theorem bc_8 : ∀ v, v < 256 → bcI (nI v) < nI 9 := by decide +kernel
theorem sh1 : ∀ k, k < 31 → (nI 1 <<< (nI k &&& nI 31)) = nI (2 ^ k) := by decide +kernel
theorem bits_nI {p : Nat → Bool} : ∀ n, n ≤ 30 → ∃ v, v < 2 ^ n ∧ bits p n = nI v := by
  intro n
  induction n with
  | zero => intro _; exact ⟨0, by decide, rfl⟩
  | succ n ih =>
    intro hn
    obtain ⟨v, hv, e⟩ := ih (by omega)
    have : bits p (n + 1) = if p (0 + n) = true then bits p n ||| (nI 1 <<< (nI (0 + n) &&& nI 31)) else bits p n := fo_succ _ n 0 _
    rw [this, Nat.zero_add, e, sh1 n (by omega), fa_or]
    have h2 : (2 : Nat) ^ n < 2 ^ (n + 1) := Nat.pow_lt_pow_right (by decide) (by omega)
    by_cases q : p n = true
    · rw [if_pos q]; exact ⟨_, Nat.or_lt_two_pow (by omega) h2, rfl⟩
    · rw [if_neg q]; exact ⟨v, by omega, rfl⟩
theorem co_told {N nc nt t : Nat} (hN : 15000 ≤ N) {x : Int32} {g T F : Nat → Int32} {μ : MM} (h : LK nc nt g T F μ) (ht : t < nt) : f_Co_isToldAlone N 23 (nI t) x μ = some (bI (al (fun o => decide (o = t) || decide (¬ ((T (2 * o + 1) ^^^ T (2 * t + 1)) &&& x) = nI 0)) nt 0), μ) := by
  have h0 := h.1.2.1
  have hnt := h.1.2.2.2.1
  have hpm := h.1.2.2.2.2.1
  unfold f_Co_isToldAlone
  refine (lpa (fun fu o => f_Co_isToldAlone_L2 N 23 fu (nI t) x (nI o) μ) nt (fun o => decide (o = t) || decide (¬ ((T (2 * o + 1) ^^^ T (2 * t + 1)) &&& x) = nI 0)) (some (nI 1, μ)) (some (nI 0, μ)) (fun fu => by
      simp (disch := omega) only [f_Co_isToldAlone_L2, h0, nI_leI, Nat.le_refl, if_true, l_1]) (fun fu o ho => by
      simp (disch := omega) only [f_Co_isToldAlone_L2, h0, nI_leI, if_neg, nI_eq, gd_in, nI_clamp, Nat.reduceAdd, (hpm t ht).2, (hpm o ho).2, l_0, l_1, nI_add]
      by_cases e : o = t
      · simp [e]
      · rw [Int32.xor_comm (T (2 * t + 1))]
        simp only [if_neg e, e, decide_false, Bool.false_or]
        by_cases q : ((T (2 * o + 1) ^^^ T (2 * t + 1)) &&& x) = nI 0
        · simp [q]
        · simp [q]) nt 0 N (by omega) (by omega)).trans ?_
  cases al _ nt 0 <;> rfl
def alS (T : Nat → Int32) (nt t : Nat) (s : Nat) (x : Int32) : Int32 := if x = -nI 1 ∨ bcI (nI s) < bcI x then (if al (fun o => decide (o = t) || decide (¬ ((T (2 * o + 1) ^^^ T (2 * t + 1)) &&& nI s) = nI 0)) nt 0 = true then nI s else x) else x
theorem op_alone {k N : Nat} (hN : 15000 ≤ N) (x1 : Int32) : Sp k (f_Ro_alone N x1) (f_Mo_alone N x1) := Sp_ro fun c m h => by
  unfold f_Mo_alone
  rw [wr_e]
  generalize mm_I m 355 0 0 = m0 at h ⊢
  obtain ⟨nc, nt, hL, hM⟩ := Rel_L h
  obtain ⟨hm27, hm26, hW, hT, hF, hnc, hnt⟩ := id hM
  unfold f_Ro_alone
  rcases pk_ix x1 (n := nt) (by omega) with hx | hx | ⟨t, ht, rfl⟩
  · exact ⟨-1, by rw [co_isThing_f hL.1 (Or.inl hx), ob_e]; rfl, by rw [mo_isThing_f hm26 (Or.inl hx), ob_e]; rfl⟩
  · exact ⟨-1, by rw [co_isThing_f hL.1 (Or.inr hx), ob_e]; rfl, by rw [mo_isThing_f hm26 (Or.inr hx), ob_e]; rfl⟩
  · rw [co_isThing_t hL.1 ht, ob_e, mo_isThing_t hm26 hnt ht, ob_e]
    simp (disch := omega) only [l_0, l_1, nI_eq, if_neg]
    refine ⟨fo (alS (m0.1 362) nt t) 64 0 (-nI 1), ?_, ?_⟩
    · refine (lpf (fun fu s (x : Int32) => f_Ro_alone_L17 N fu (nI t) x (nI s) c) 64 (alS (m0.1 362) nt t) (fun x => some (x, c)) (fun _ _ => True) (fun fu x _ => by
        simp (disch := omega) only [f_Ro_alone_L17, l_64, nI_leI, Nat.le_refl, if_true]) (fun fu s x hs _ => by
        refine ⟨?_, trivial⟩
        simp (disch := omega) only [f_Ro_alone_L17, f_Ro_alone_B39, l_64, nI_leI, if_neg, bc_e, ob_e, co_told hN hL ht, l_0, l_1, nI_add, bI_0]
        unfold alS
        by_cases q : x = -nI 1
        · rw [if_pos q, if_pos (Or.inl q)]
          cases al _ nt 0 <;> rfl
        · rw [if_neg q]
          by_cases q2 : bcI (nI s) < bcI x
          · rw [if_neg ((fa_of_lt q2).2.1), if_pos (Or.inr q2)]
            cases al _ nt 0 <;> rfl
          · rw [if_pos (fa_of_nlt q2), if_neg (fun e => e.elim q q2)]) 64 0 N (-nI 1) (by omega) (by omega) trivial).1
    · refine (lpf (fun fu s (x : Int32) => f_Mo_alone_L19 N fu (nI t) x (nI s) m0) 64 (alS (m0.1 362) nt t) (fun x => some (x, m0)) (fun _ _ => True) (fun fu x _ => by
        simp (disch := omega) only [f_Mo_alone_L19, l_64, nI_leI, Nat.le_refl, if_true]) (fun fu s x hs _ => by
        refine ⟨?_, trivial⟩
        have hin : f_Mo_alone_L50 N (f_Mo_alone_L19 N fu) N (nI t) x (nI s) (nI 1) (nI 0) m0 = f_Mo_alone_L19 N fu (nI t) (if al (fun o => decide (o = t) || decide (¬ ((m0.1 362 (2 * o + 1) ^^^ m0.1 362 (2 * t + 1)) &&& nI s) = nI 0)) nt 0 = true then nI s else x) (nI (s + 1)) m0 := by
          have hl := lpf (fun f o (b : Bool) => f_Mo_alone_L50 N (f_Mo_alone_L19 N fu) f (nI t) x (nI s) (bI b) (nI o) m0) nt (fun o b => b && (decide (o = t) || decide (¬ ((m0.1 362 (2 * o + 1) ^^^ m0.1 362 (2 * t + 1)) &&& nI s) = nI 0))) (fun b => f_Mo_alone_L19 N fu (nI t) (if b = true then nI s else x) (nI (s + 1)) m0) (fun _ _ => True) (fun f b _ => by
            simp (disch := omega) only [f_Mo_alone_L50, hm26, nI_leI, Nat.le_refl, if_true, l_0, l_1, nI_add, bI_0]
            cases b <;> rfl) (fun f o b ho _ => by
            refine ⟨?_, trivial⟩
            simp (disch := omega) only [f_Mo_alone_L50, hm26, nI_leI, if_neg, l_0, l_1, nI_add, bI_0, nI_eq, mo_marks, ob_e]
            cases b
            · simp only [if_true, Bool.false_and]; rfl
            · simp only [Bool.true_eq_false, if_false, Bool.true_and]
              by_cases e : o = t
              · simp only [if_pos e, e, decide_true, Bool.true_or]; rfl
              · simp only [if_neg e, e, decide_false, Bool.false_or]
                by_cases q : ((m0.1 362 (2 * o + 1) ^^^ m0.1 362 (2 * t + 1)) &&& nI s) = nI 0
                · rw [if_pos q, decide_eq_false (by simp [q])]; rfl
                · rw [if_neg q, decide_eq_true q]; rfl) nt 0 N true (by omega) (by omega) trivial
          refine hl.1.trans ?_
          have : ∀ (p : Nat → Bool) (n k : Nat) (b : Bool), fo (fun o b => b && p o) n k b = (b && al p n k) := by
            intro p n
            induction n with
            | zero => intro k b; simp [fo, al]
            | succ n ih => intro k b; rw [fo, ih, al, Bool.and_assoc]
          rw [this, Bool.true_and]
        simp (disch := omega) only [f_Mo_alone_L19, l_64, nI_leI, if_neg, bc_e, ob_e, l_0, l_1, nI_add, hin]
        unfold alS
        by_cases q : x = -nI 1
        · rw [if_pos q, if_pos (Or.inl q)]
        · rw [if_neg q]
          by_cases q2 : bcI (nI s) < bcI x
          · rw [if_pos q2, if_pos (Or.inr q2)]
          · rw [if_neg q2, if_neg (fun e => e.elim q q2)]) 64 0 N (-nI 1) (by omega) (by omega) trivial).1
