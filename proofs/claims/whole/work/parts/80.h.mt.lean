/-! ===== the program gets ready ===== -/
def mt_h (A : Nat → Int32) : Nat → Nat → Nat
  | 0, _ => 0
  | r + 1, c => mt_h A r (c + 1) + (if A c = nI 0 then 0 else 1)
theorem mt_hL (A : Nat → Int32) : ∀ r c, mt_h A r c ≤ r := by
  intro r
  induction r with
  | zero => intro c; exact Nat.le_refl _
  | succ r ih =>
    intro c
    rw [mt_h]
    have := ih (c + 1)
    split <;> omega
theorem mt_hB {nc nt : Nat} {g T : Nat → Int32} {A : Nat → Int32} (hnt : nt ≤ 8) (hA : ∀ c, c < nc → P4 nc nt g T c (A c)) {s : Nat → Nat} (hs : mt_ok nt s nc) (hv : mt_V nc (mt_BA g T nc) (mt_LI g nc) (mt_AL T) s) : ∀ r c, c + r = nc → mt_n s nc ≤ mt_n s c + mt_h A r c := by
  intro r
  induction r with
  | zero => intro c h; rw [show c = nc by omega]; exact Nat.le_add_right _ _
  | succ r ih =>
    intro c h
    have h1 := ih (c + 1) (by omega)
    rw [mt_n] at h1
    rw [mt_h]
    by_cases h9 : s c = 9
    · rw [if_pos h9] at h1; omega
    · have hb := (hA c (by omega)).2 s hs hv h9
      have : ¬ A c = nI 0 := fun e => by
        rw [e, show nI 0 = (0 : Int32) from rfl, b_0] at hb
        cases hb
      rw [if_neg this]
      rw [if_neg h9] at h1
      omega
def PF (nc nt : Nat) (g T : Nat → Int32) (μ0 μ : MM) : Prop := PX μ0 μ ∧ ∃ b h AB, MS nc nt (mt_pr T) b h (mt_LI g nc) (mt_AL T) AB μ ∧ MF nc nt (mt_pr T) b h (mt_BA g T nc) (mt_LI g nc) (mt_AL T) AB (mt_Vb g T nc)
theorem ma_hopes {N nc nt : Nat} (hN : 15000 ≤ N) {g T F : Nat → Int32} {b : Nat → Nat} {μ0 : MM} (hL : LK nc nt g T F μ0) {A : Nat → Int32} : ∀ (k fu : Nat) (μ : MM), k ≤ nc → k < fu → PI nc nt g T b nc μ0 μ → μ.1 338 = A → (∀ c, k ≤ c → c ≤ nc → μ.1 339 c = nI (mt_h A (nc - c) c)) → (∀ c, k ≤ c → c < nc → μ.1 337 c = bits (fun a => mt_LI g nc c a || mt_LI g nc a c) c) →
    ∃ μ', f_Ma_prepare_L212 N fu (nI k - nI 1) μ = some μ' ∧ PF nc nt g T μ0 μ' := by
  obtain ⟨⟨h1, h0, hnc, hnt, hpm, hf⟩, -, hw, hT, -⟩ := hL
  intro k
  induction k with
  | zero =>
    intro fu μ hk hf2 hp hA h9 h7
    obtain ⟨fu, rfl⟩ : ∃ q, fu = q + 1 := ⟨fu - 1, by omega⟩
    rw [f_Ma_prepare_L212, if_pos (by decide)]
    refine ⟨μ, rfl, hp.1, b, fun c => mt_h A (nc - c) c, fun c t => bt (A c) t, ?_, ?_⟩
    · refine ⟨by rw [hp.1.2 23 (by omega)]; exact h1, by rw [hp.1.2 23 (by omega)]; exact h0, hnc, hnt, fun t ht => ?_, mt_pr9 T, hp.2.1, hp.2.2.1.1, hp.2.2.2.1, fun c hc hz a ha => ?_, fun c hc t ht => by rw [hA], fun c hc => ⟨h9 c (by omega) hc, by have := mt_hL A (nc - c) c; show mt_h A (nc - c) c ≤ 6; omega⟩⟩
      · obtain ⟨et, et2, -, -⟩ := hT t ht
        rw [hp.1.2 24 (by omega), (hpm t ht).1, et]
        unfold mt_pr
        rw [Nat.min_eq_left et2]
      · have h8 := h7 c (by omega) hc
        rw [hz] at h8
        have h10 := bits_bt (p := fun a => mt_LI g nc c a || mt_LI g nc a c) (i := a) (by omega) c (by omega)
        rw [← h8, show nI 0 = (0 : Int32) from rfl, b_0, decide_eq_true ha, Bool.true_and] at h10
        simpa using h10.symm
    · obtain ⟨s1, s2, s3, s4⟩ := hp.2.2.1
      have hA4 : ∀ c, c < nc → P4 nc nt g T c (A c) := by rw [← hA]; exact hp.2.2.2.2
      refine ⟨s2, s3, s4, mt_ALs, fun x => ?_, fun c t hc ht hb => ((hA4 c hc).1 t (by omega) hb).2, mt_VbI hw hnc hnt, fun s k hs hv hk h9 => (hA4 k hk).2 s hs ((mt_VbI hw hnc hnt s hs).mp hv) h9, ?_, fun s c hs hv hc => mt_hB hnt hA4 hs ((mt_VbI hw hnc hnt s hs).mp hv) (nc - c) c (by omega)⟩
      · unfold mt_LI; simp
      · show mt_h A (nc - nc) nc = 0
        rw [Nat.sub_self]; rfl
  | succ k ih =>
    intro fu μ hk hf2 hp hA h9 h7
    obtain ⟨fu, rfl⟩ : ∃ q, fu = q + 1 := ⟨fu - 1, by omega⟩
    rw [pk_sub (by omega), Nat.add_sub_cancel, f_Ma_prepare_L212, if_neg (nI_pos (by omega)), ma_linked hN hnc hp.2.2.2.1 (by omega), ob_e, gd_in (by omega) (by omega), nI_clamp (by omega), wr_e, l_1, nI_add, gd_in (by omega) (by omega), gd_in (by omega) (by omega), nI_clamp (by omega), f_Ma_prepare_B254, gd_in (by omega) (by omega), nI_clamp (by omega), wr_e]
    rw [gI_o (show (339 : Nat) ≠ 337 by decide), gI_o (show (338 : Nat) ≠ 337 by decide), h9 (k + 1) (by omega) (by omega), hA]
    have ez : (if A k = 0 then (0 : Int32) else nI 1) = nI (if A k = nI 0 then 0 else 1) := by
      rw [l_0]
      by_cases q : A k = nI 0
      · rw [if_pos q, if_pos q]
      · rw [if_neg q, if_neg q]
    rw [ez, nI_add, show nI k + -1 = nI k - nI 1 from (Int32.sub_eq_add_neg _ _).symm]
    refine ih fu _ (by omega) (by omega) ?_ ?_ (fun c c1 c2 => ?_) (fun c c1 c2 => ?_)
    · obtain ⟨⟨e1, e2⟩, e3, e4, e5, e6⟩ := hp
      exact ⟨⟨e1, fun a ha => by rw [gI_o (by omega), gI_o (by omega)]; exact e2 a ha⟩, by rw [gI_o (by decide), gI_o (by decide)]; exact e3, by rw [gI_o (by decide), gI_o (by decide)]; exact e4, by rw [gI_o (by decide), gI_o (by decide)]; exact e5, by rw [gI_o (by decide), gI_o (by decide)]; exact e6⟩
    · rw [gI_o (by decide), gI_o (by decide)]; exact hA
    · rw [gI_s]
      by_cases q : c = k
      · subst q
        rw [if_pos rfl, show nc - c = (nc - (c + 1)) + 1 by omega, mt_h]
      · rw [if_neg q, gI_o (by decide)]; exact h9 c (by omega) c2
    · rw [gI_o (by decide), gI_s]
      by_cases q : c = k
      · subst q; rw [if_pos rfl]
      · rw [if_neg q]; exact h7 c (by omega) c2
theorem ma_turns {N nc nt : Nat} (hN : 15000 ≤ N) {g T F : Nat → Int32} {b : Nat → Nat} {μ0 μ : MM} (hL : LK nc nt g T F μ0) (hp : PI nc nt g T b nc μ0 μ) : ∃ μ', f_Ma_prepare_L148 N N (nI 0) μ = some μ' ∧ PF nc nt g T μ0 μ' := by
  obtain ⟨⟨h1, h0, hnc, hnt, -, -⟩, -⟩ := id hL
  refine lpE (fun fu k μ1 => f_Ma_prepare_L148 N fu (nI k) μ1) nc (fun _ μ1 => PI nc nt g T b nc μ0 μ1) (fun y => ∃ μ', y = some μ' ∧ PF nc nt g T μ0 μ') (fun fu μ1 hp1 => ?_) (fun fu k μ1 hk hp1 => Or.inl ?_) nc 0 N μ (by omega) (by omega) hp
  · rw [f_Ma_prepare_L148, hp1.1.2 23 (by omega), h1, if_pos (nI_le (Nat.le_refl _) (by omega)), gd_in (by omega) (by omega), nI_clamp (by omega), wr_e, gI_o (by decide), hp1.1.2 23 (by omega), h1, l_1]
    refine ma_hopes hN hL (b := b) (A := μ1.1 338) nc N _ (Nat.le_refl _) (by omega) ?_ (gI_o (by decide)) (fun c c1 c2 => ?_) (fun c c1 c2 => by omega)
    · obtain ⟨⟨e1, e2⟩, e3, e4, e5, e6⟩ := hp1
      exact ⟨⟨e1, fun a ha => by rw [gI_o (by omega)]; exact e2 a ha⟩, by rw [gI_o (by decide)]; exact e3, by rw [gI_o (by decide)]; exact e4, by rw [gI_o (by decide)]; exact e5, by rw [gI_o (by decide)]; exact e6⟩
    · have : c = nc := by omega
      subst this
      rw [gI_s, if_pos rfl, Nat.sub_self]; rfl
  · rw [f_Ma_prepare_L148, hp1.1.2 23 (by omega), h1, if_neg (nI_ge hk (by omega)), l_0]
    refine lpE (fun fu2 c μ2 => f_Ma_prepare_L161 N (f_Ma_prepare_L148 N fu) fu2 (nI k) (nI c) μ2) nc (fun _ μ2 => PI nc nt g T b nc μ0 μ2) (fun y => ∃ a', y = f_Ma_prepare_L148 N fu (nI (k + 1)) a' ∧ PI nc nt g T b nc μ0 a') (fun fu2 μ2 hp2 => ?_) (fun fu2 c μ2 hc hp2 => Or.inl ?_) nc 0 N μ1 (by omega) (by omega) hp1
    · rw [f_Ma_prepare_L161, hp2.1.2 23 (by omega), h1, if_pos (nI_le (Nat.le_refl _) (by omega)), l_1, nI_add]
      exact ⟨μ2, rfl, hp2⟩
    · obtain ⟨μ3, e1, e2⟩ := ma_narrow hN hnc hnt h1 h0 hp2 hc
      rw [f_Ma_prepare_L161, hp2.1.2 23 (by omega), h1, if_neg (nI_ge hc (by omega)), e1, obv_e, l_1, nI_add]
      exact ⟨μ3, rfl, e2⟩
theorem PI_able {nc nt : Nat} {g T : Nat → Int32} (hw : RW nc nt g) (hnc : nc ≤ 6) (hnt : nt ≤ 8) {c : Nat} (hc : c < nc) (hl : mt_lost g nc c = false) : P4 nc nt g T c (bits (fun t => hasA (mN T t) (nmd g c 0) && hasN (mN T t) (nmd g c 1) && !(bt (nmd g c 2) c && decide (mN T t = 0))) nt) := by
  refine ⟨fun t ht hb => ?_, fun s hs hv h9 => ?_⟩
  · rw [bits_bt ht nt (by omega), Bool.and_eq_true, decide_eq_true_eq] at hb
    refine ⟨hb.1, ?_⟩
    unfold mt_BA
    rw [hl, hb.2]; rfl
  · have hsc := (hs.1 c hc).resolve_right h9
    have h1 := (hv c hc h9).1
    unfold mt_BA at h1
    rw [Bool.and_eq_true] at h1
    rw [bits_bt (by omega) nt (by omega), decide_eq_true hsc, Bool.true_and]
    exact h1.1
theorem ma_prepare {N nc nt : Nat} (hN : 15000 ≤ N) {g T F : Nat → Int32} {μ0 : MM} (hL : LK nc nt g T F μ0) : ∃ μ', f_Ma_prepare N μ0 = some μ' ∧ PF nc nt g T μ0 μ' := by
  obtain ⟨⟨h1, h0, hnc, hnt, hpm, hf⟩, -, hw, hT, -⟩ := id hL
  have hLX : ∀ μ, PX μ0 μ → LK nc nt g T F μ := fun μ hx => LK_of hL (fun a ha => hx.2 a (by omega))
  refine lpE (fun fu t μ1 => f_Ma_prepare_L2 N fu (nI t) μ1) nt (fun k μ1 => PX μ0 μ1 ∧ ∀ t, t < k → ∀ o, o < nt → bt (μ1.1 334 t) o = mt_AL T t o) (fun y => ∃ μ', y = some μ' ∧ PF nc nt g T μ0 μ') (fun fu μ1 hp => ?_) (fun fu t μ1 ht hp => Or.inl ?_) nt 0 N μ0 (by omega) (by omega) ⟨⟨rfl, fun _ _ => rfl⟩, fun t ht => by omega⟩
  · obtain ⟨hx, ha⟩ := hp
    have e24 : ∀ t, t < nt → μ1.1 24 t = nI (mt_pr T t) := fun t ht => by
      obtain ⟨et, et2, -, -⟩ := hT t ht
      rw [hx.2 24 (by omega), (hpm t ht).1, et]
      unfold mt_pr
      rw [Nat.min_eq_left et2]
    obtain ⟨μ2, s1, s2, s3, b, s4⟩ := ma_sort hN hnt (mt_pr9 T) (μ := μ1) (by rw [hx.2 23 (by omega)]; exact h0) e24
    rw [f_Ma_prepare_L2, hx.2 23 (by omega), h0, if_pos (nI_le (Nat.le_refl _) (by omega)), s1, obv_e, l_0]
    refine lpE (fun fu c μ3 => f_Ma_prepare_L47 N fu (nI c) μ3) nc (fun k μ3 => PI nc nt g T b k μ0 μ3) (fun y => ∃ μ', y = some μ' ∧ PF nc nt g T μ0 μ') (fun fu μ3 hp3 => ?_) (fun fu c μ3 hc hp3 => Or.inl ?_) nc 0 N μ2 (by omega) (by omega) ⟨⟨s2.trans hx.1, fun a ha => by rw [s3 a (by omega)]; exact hx.2 a ha⟩, by rw [s3 334 (by decide)]; exact ha, s4, fun c hc => by omega, fun c hc => by omega⟩
    · rw [f_Ma_prepare_L47, hp3.1.2 23 (by omega), h1, if_pos (nI_le (Nat.le_refl _) (by omega)), l_0]
      exact ma_turns hN hL hp3
    · have hL3 := hLX μ3 hp3.1
      have hk9 := (hw.1 c hc).2.2.2.2
      have ha10 : ∀ k, k < zN g c → aN g c k < 10 := fun k hk => (hk9 k hk).2.2.2.1
      rw [f_Ma_prepare_L47, hp3.1.2 23 (by omega), h1, if_neg (nI_ge hc (by omega)), l_2, co_named hN (by decide) hL3 hc, ob_e, hp3.1.2 23 (by omega), h1, f_Ma_prepare_B82, f_Ma_prepare_B105, gd_in (by omega) (by omega), nI_clamp (by omega), wr_e, l_31, l_0, l_1]
      have hstep : ∀ x y : Int32, (∀ o, o < nc → bt x o = mt_LI g nc c o) → P4 nc nt g T c y → PI nc nt g T b (c + 1) μ0 (mm_I (mm_I μ3 336 c x) 338 c y) := by
        intro x y hx1 hy1
        obtain ⟨⟨e1, e2⟩, e3, e4, e5, e6⟩ := hp3
        refine ⟨⟨e1, fun a ha => by rw [gI_o (by omega), gI_o (by omega)]; exact e2 a ha⟩, by rw [gI_o (by decide), gI_o (by decide)]; exact e3, by rw [gI_o (by decide), gI_o (by decide)]; exact e4, fun i hi => ?_, fun i hi => ?_⟩
        · rw [gI_o (by decide), gI_s]
          by_cases q : i = c
          · subst q; rw [if_pos rfl]; exact hx1
          · rw [if_neg q]; exact e5 i (by omega)
        · rw [gI_s]
          by_cases q : i = c
          · subst q; rw [if_pos rfl]; exact hy1
          · rw [if_neg q, gI_o (by decide)]; exact e6 i (by omega)
      have hLm : ∀ x, LK nc nt g T F (mm_I μ3 336 c x) := fun x => LK_of hL3 (fun a ha => gI_o (by omega))
      by_cases hz : nmd g c 2 >>> (nI nc &&& nI 31) = nI 0
      · have hl : mt_lost g nc c = false := by unfold mt_lost; simp [hz]
        rw [if_pos hz, if_pos rfl, if_pos rfl, f_Ma_prepare_B136, bq_e (by omega)]
        simp only [bI_1]
        have eb : (if bt (nmd g c 2) c = true then nI 1 else nI 0) = bI (bt (nmd g c 2) c) := rfl
        rw [eb, ma_able hN (hLm _) hc, ob_e, f_Ma_prepare_B139, gd_in (by omega) (by omega), nI_clamp (by omega), wr_e, l_1, nI_add]
        refine ⟨_, rfl, hstep _ _ (fun o ho => ?_) (PI_able hw hnc hnt hc hl)⟩
        rw [bt_off (by omega) (by omega)]
        unfold mt_LI
        rw [hl]; rfl
      · have hl : mt_lost g nc c = true := by unfold mt_lost; simp [hz]
        rw [if_neg hz, if_neg (by decide), if_neg (by decide), f_Ma_prepare_B139, gd_in (by omega) (by omega), nI_clamp (by omega), wr_e, l_1, nI_add]
        refine ⟨_, rfl, hstep _ _ (fun o ho => ?_) ⟨fun t ht hb => ?_, fun s hs hv h9 => ?_⟩⟩
        · rw [show nI 0 = (0 : Int32) from rfl, b_0]
          unfold mt_LI
          rw [hl]; rfl
        · rw [show nI 0 = (0 : Int32) from rfl, b_0] at hb
          cases hb
        · have := (hv c hc h9).1
          unfold mt_BA at this
          rw [hl, Bool.not_true, Bool.and_false] at this
          cases this
  · obtain ⟨hx, ha⟩ := hp
    rw [f_Ma_prepare_L2, hx.2 23 (by omega), h0, if_neg (nI_ge ht (by omega)), ma_alike hN (hLX μ1 hx) ht, ob_e, gd_in (by omega) (by omega), nI_clamp (by omega), wr_e, l_1, nI_add]
    refine ⟨_, rfl, ⟨hx.1, fun a ha2 => by rw [gI_o (by omega)]; exact hx.2 a ha2⟩, fun i hi o ho => ?_⟩
    rw [gI_s]
    by_cases q : i = t
    · subst q
      rw [if_pos rfl, bits_bt (by omega) nt (by omega), decide_eq_true ho, Bool.true_and]
    · rw [if_neg q]; exact ha i (by omega) o ho
