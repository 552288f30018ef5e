/-! ===== the program's fading; what is gone ===== -/
def pdT (N : Nat) (x2 : Int32) (μ : MM) : Option MM := ob (f_Co_goneWords N 23 μ) fun t44 μ2z => (wr (mm_I μ2z 27 4 ((μ2z.1 27 4) + 1)) fun μ3z => (ob (f_Ag_changeThings N μ3z) fun t67 μ4z => (ob (f_Co_wrongCards N 23 μ4z) fun t89 μ5z => (gd (inb ((μ2z.1 27 4) &&& 127) 128) (wr (mm_I μ5z 49 (Int32.toNatClampNeg ((μ2z.1 27 4) &&& 127)) ((t67 + (16 * t89)) + (256 * (t44 - x2)))) fun μ6z => (some μ6z))))))
theorem co_fade {N nc nt : Nat} {lo : Nat → Nat → Nat → Nat → Nat → Nat → Nat} {c0 c : MM} {g T F : Nat → Int32} {x2 : Int32} (hN : 15000 ≤ N) (hK : KC lo c0) (h34 : ∀ a, a = 34 ∨ (37 ≤ a ∧ a ≤ 41) → c.1 a = c0.1 a) (h : LK nc nt g T F c) : ∃ c1, f_Ag_passDay_L18 N N x2 (nI 0) c = pdT N x2 c1 ∧ (∀ a, a ≠ 32 → a ≠ 35 → a ≠ 42 → c1.1 a = c.1 a) ∧ c1.2 = c.2 ∧ ∀ i k, i < nc → k < zN g i → c1.1 32 (6 * i + k) = nI (fdI lo F g i k) := by
  obtain ⟨⟨h1, h0, hnc, hnt, hpm, hf⟩, ⟨hs, hs2, hs3, hs4⟩, ⟨hw, qL, qL9, -, -, qd, qd6⟩, hT, hF⟩ := h
  have hz6 : ∀ i, i < nc → zN g i ≤ 6 := fun i hi => (hw i hi).2.2.1
  obtain ⟨c1, a1, a2, a3, a4⟩ := lpe (fun fu j (a : MM) => f_Ag_passDay_L18 N fu x2 (nI j) a) nc (fun a => pdT N x2 a) (fun j a => (∀ x, x ≠ 32 → x ≠ 35 → x ≠ 42 → a.1 x = c.1 x) ∧ a.2 = c.2 ∧ ∀ i k, i < nc → k < zN g i → a.1 32 (6 * i + k) = nI (fdP lo F g j 0 i k)) (fun fu a ha => by
      have e1 : a.1 23 1 = nI nc := by rw [ha.1 23 (by decide) (by decide) (by decide)]; exact h1
      show f_Ag_passDay_L18 N (fu + 1) x2 (nI nc) a = _
      rw [f_Ag_passDay_L18, e1, if_pos ((nI_leI (by omega) (by omega)).mpr (Nat.le_refl _))]
      rfl) (fun fu j a hj ha => by
      have e1 : a.1 23 1 = nI nc := by rw [ha.1 23 (by decide) (by decide) (by decide)]; exact h1
      obtain ⟨hz, hz1, hz6', hu, hk9⟩ := hw j hj
      obtain ⟨s1, s2, s3⟩ := hs j hj
      obtain ⟨z, w1, w2, w3, w4⟩ := lpe (fun f p (b : MM) => f_Ag_fadeCard_L13 N f (nI j) (nI p) b) (zN g j) (fun b => some b) (fun p b => (∀ x, x ≠ 32 → x ≠ 35 → x ≠ 42 → b.1 x = c.1 x) ∧ b.2 = c.2 ∧ ∀ i k, i < nc → k < zN g i → b.1 32 (6 * i + k) = nI (fdP lo F g j p i k)) (fun f b hb => by
          have hz' : b.1 29 j = nI (zN g j) := by rw [hb.1 29 (by decide) (by decide) (by decide), s1]; exact hz
          simp (disch := omega) only [f_Ag_fadeCard_L13, gd_in, nI_clamp, hz', nI_leI, Nat.le_refl, if_true]) (fun f p b hp hb => by
          obtain ⟨b1, b2, b3⟩ := hb
          have hz' : b.1 29 j = nI (zN g j) := by rw [b1 29 (by decide) (by decide) (by decide), s1]; exact hz
          obtain ⟨ho, ho3, ha, ha10, ha6, hi, hi9⟩ := hk9 p hp
          obtain ⟨t1, t2, t3⟩ := s3 p hp
          have hcur : b.1 32 (6 * j + p) = nI (iN g j p) := by
            rw [b3 j p hj hp]; unfold fdP; rw [if_neg (by omega)]
          obtain ⟨mm, r1, r2, r3⟩ := hK N b j p (iN g j p) (dyN g) (fN F j) (liN g) (oN g j p) hN (fun x hx => by rw [b1 x (by omega) (by omega) (by omega)]; exact h34 x hx) (by omega) (by omega) hi9 (by omega) (by rw [b1 26 (by decide) (by decide) (by decide), hf j hj]; exact (hF j hj).1) (hF j hj).2 (by rw [b1 27 (by decide) (by decide) (by decide), hs2]; exact qL) qL9 (by rw [b1 30 (by decide) (by decide) (by decide), t1]; exact ho) ho3
          refine ⟨mm_I mm 32 (6 * j + p) (nI (fdI lo F g j p)), ?_, fun x x1 x2 x3 => by rw [gI_o x1, r2 x x2 x3]; exact b1 x x1 x2 x3, r3.trans b2, fun i k hi hk => ?_⟩
          · have e4 : b.1 27 4 = nI (dyN g) := by rw [b1 27 (by decide) (by decide) (by decide), hs4]; exact qd
            simp (disch := omega) only [f_Ag_fadeCard_L13, gd_in, nI_clamp, hz', nI_leI, if_neg, l_6, l_1, pk_mul, nI_add, Nat.mul_comm j 6, hcur, e4]
            rw [r1, ob_e]
            rfl
          · have := hz6 i hi
            rw [gI_s]
            by_cases e : i = j ∧ k = p
            · rw [if_pos (by omega), e.1, e.2]; unfold fdP; rw [if_pos (by omega)]
            · rw [if_neg (by omega), r2 32 (by decide) (by decide), b3 i k hi hk]; unfold fdP
              by_cases e' : i < j ∨ (i = j ∧ k < p)
              · rw [if_pos e', if_pos (by omega)]
              · rw [if_neg e', if_neg (by omega)]) (zN g j) 0 N a (by omega) (by omega) ha
      refine ⟨z, ?_, w2, w3, fun i k hi hk => ?_⟩
      · show f_Ag_passDay_L18 N (fu + 1) x2 (nI j) a = _
        have w1' : f_Ag_fadeCard N (nI j) a = some z := w1
        rw [f_Ag_passDay_L18, e1, if_neg (fun q => by have := (nI_leI (by omega) (by omega)).mp q; omega), w1', obv_e, l_1, nI_add]
      · rw [w4 i k hi hk]
        unfold fdP
        by_cases e : i < j ∨ (i = j ∧ k < zN g j)
        · rw [if_pos e, if_pos (by omega)]
        · rw [if_neg e, if_neg (fun z => e (by rcases z with z | z
                                               · by_cases e2 : i = j
                                                 · subst e2; exact Or.inr ⟨rfl, hk⟩
                                                 · exact Or.inl (by omega)
                                               · omega))]) nc 0 N c (by omega) (by omega) ⟨fun _ _ _ _ => rfl, rfl, fun i k hi hk => by
        unfold fdP
        rw [if_neg (by omega), ((hs i hi).2.2 k hk).2.2]
        exact ((hw i hi).2.2.2.2 k hk).2.2.2.2.2.1⟩
  refine ⟨c1, a1, a2, a3, fun i k hi hk => ?_⟩
  rw [a4 i k hi hk]
  unfold fdP
  rw [if_pos (Or.inl hi)]
theorem cn_congr {p q : Nat → Bool} : ∀ {n : Nat}, (∀ k, k < n → p k = q k) → cn p n = cn q n := by
  intro n
  induction n with
  | zero => intro _; rfl
  | succ n ih => intro h; rw [cn, cn, ih (fun k hk => h k (by omega)), h n (by omega)]
theorem cn_add {p q r : Nat → Bool} : ∀ {n : Nat}, (∀ k, k < n → (if p k = true then 1 else 0) = (if q k = true then 1 else 0) + (if r k = true then 1 else 0)) → cn p n = cn q n + cn r n := by
  intro n
  induction n with
  | zero => intro _; rfl
  | succ n ih =>
    intro h
    have h1 := ih (fun k hk => h k (by omega))
    have h2 := h n (by omega)
    rw [cn, cn, cn]; omega
theorem sm_congr {P Q : Nat → Nat} : ∀ {n : Nat}, (∀ k, k < n → P k = Q k) → sm P n = sm Q n := by
  intro n
  induction n with
  | zero => intro _; rfl
  | succ n ih => intro h; rw [sm, sm, ih (fun k hk => h k (by omega)), h n (by omega)]
theorem sm_add {P Q R : Nat → Nat} : ∀ {n : Nat}, (∀ k, k < n → P k = Q k + R k) → sm P n = sm Q n + sm R n := by
  intro n
  induction n with
  | zero => intro _; rfl
  | succ n ih =>
    intro h
    have h1 := ih (fun k hk => h k (by omega))
    have h2 := h n (by omega)
    rw [sm, sm, sm]; omega
theorem fo_sm (P : Nat → Nat) : ∀ n, fo (fun c n => n + P c) n 0 0 = sm P n := by
  intro n
  induction n with
  | zero => rfl
  | succ n ih => rw [fo_succ, ih, Nat.zero_add]; rfl
theorem lef_cn (g : Nat → Int32) (c : Nat) : ∀ m, fo (fun k n => if iN g c k = 0 then n else n + 1) m 0 0 + cn (fun k => decide (iN g c k = 0)) m = m := by
  intro m
  induction m with
  | zero => rfl
  | succ m ih =>
    rw [fo_succ, cn, Nat.zero_add]
    by_cases h : iN g c m = 0
    · rw [if_pos h, if_pos (by simpa using h)]; omega
    · rw [if_neg h, if_neg (by simpa using h)]; omega
theorem gon_cn (g : Nat → Int32) (c : Nat) : zN g c - lef g c = cn (fun k => decide (iN g c k = 0)) (zN g c) := by
  have := lef_cn g c (zN g c)
  unfold lef
  omega
/-- all words that are gone -/
def gal (g : Nat → Int32) (nc : Nat) : Nat := fo (fun c n => n + (zN g c - lef g c)) nc 0 0
theorem FD_z {lo : Nat → Nat → Nat → Nat → Nat → Nat → Nat} {F g g' : Nat → Int32} {nc nt : Nat} (hW : RW nc nt g) (h : FD lo F g g' nc) : (∀ i r, i < 6 → r < 20 → ¬ (4 ≤ r ∧ (r - 4) % 3 = 0) → g' (20 * i + r) = g (20 * i + r)) ∧ ∀ x, 120 ≤ x → nc ≤ 6 → g' x = g x := by
  have hz6 : ∀ i, i < nc → zN g i ≤ 6 := fun i hi => (hW.1 i hi).2.2.1
  refine ⟨fun i r hi hr hr2 => h.1 _ (fun ⟨c, k, h1, h2, h3⟩ => ?_), fun x hx hn => h.1 _ (fun ⟨c, k, h1, h2, h3⟩ => ?_)⟩
  · have := hz6 c h1
    rcases Nat.lt_trichotomy c i with e | e | e
    · omega
    · subst e; exact hr2 (by omega)
    · omega
  · have := hz6 c h1
    omega
theorem FD_RW {lo : Nat → Nat → Nat → Nat → Nat → Nat → Nat} {F g g' : Nat → Int32} {nc nt : Nat} (hW : RW nc nt g) (hnc : nc ≤ 6) (hnt : nt ≤ 8) (h : FD lo F g g' nc) : RW nc nt g' := by
  obtain ⟨z1, z2⟩ := FD_z hW h
  obtain ⟨-, q1, q2, q3, q4, q5, q6⟩ := id hW
  refine RW_mk hW hnt (fun i hi => z1 i 1 (by omega) (by omega) (by omega)) (fun i hi => ?_) (fun i k hi hk => ?_) (fun i k hi hk => ⟨_, fdI_9 hW hi hk, h.2 i k hi hk⟩) ⟨_, q2, by rw [z2 120 (by omega) hnc]; exact q1⟩ ⟨_, q4, by rw [z2 121 (by omega) hnc]; exact q3⟩ ⟨_, q6, by rw [z2 122 (by omega) hnc]; exact q5⟩
  · have := z1 i 0 (by omega) (by omega) (by omega)
    rw [Nat.add_zero] at this
    rw [this]; exact RW_un0 hW hi
  · have h6 := (hW.1 i hi).2.2.1
    have e1 := z1 i (2 + 3 * k) (by omega) (by omega) (by omega)
    have e2 := z1 i (3 + 3 * k) (by omega) (by omega) (by omega)
    rw [← Nat.add_assoc] at e1 e2
    exact ⟨e1, e2⟩
theorem FD_i {lo : Nat → Nat → Nat → Nat → Nat → Nat → Nat} {F g g' : Nat → Int32} {nc nt i k : Nat} (hW : RW nc nt g) (h : FD lo F g g' nc) (hi : i < nc) (hk : k < zN g i) : iN g' i k = fdI lo F g i k := by
  unfold iN
  rw [h.2 i k hi hk, nI_clamp (by have := fdI_9 (lo := lo) (F := F) hW hi hk; omega)]
theorem FD_zN {lo : Nat → Nat → Nat → Nat → Nat → Nat → Nat} {F g g' : Nat → Int32} {nc nt i : Nat} (hW : RW nc nt g) (hnc : nc ≤ 6) (h : FD lo F g g' nc) (hi : i < nc) : zN g' i = zN g i := by
  unfold zN
  rw [(FD_z hW h).1 i 1 (by omega) (by omega) (by omega)]
theorem FD_gal {lo : Nat → Nat → Nat → Nat → Nat → Nat → Nat} {F g g' : Nat → Int32} {nc nt : Nat} (hW : RW nc nt g) (hnc : nc ≤ 6) (h : FD lo F g g' nc) : gal g' nc = gal g nc + sm (fun c => cn (gnk lo F g c) (zN g c)) nc := by
  unfold gal
  rw [fo_sm (fun c => zN g' c - lef g' c), fo_sm (fun c => zN g c - lef g c)]
  refine sm_add (fun i hi => ?_)
  rw [gon_cn, gon_cn, FD_zN hW hnc h hi]
  refine cn_add (fun k hk => ?_)
  rw [FD_i hW h hi hk]
  unfold gnk
  by_cases e : iN g i k = 0
  · have : fdI lo F g i k = 0 := by unfold fdI; rw [e, Nat.zero_sub]
    simp [e, this]
  · by_cases e2 : fdI lo F g i k = 0
    · simp [e, e2]
    · simp [e, e2]
theorem FD_LK {lo : Nat → Nat → Nat → Nat → Nat → Nat → Nat} {g g' T F : Nat → Int32} {nc nt : Nat} {c c1 : MM} (h : LK nc nt g T F c) (hd : FD lo F g g' nc) (hc : ∀ a, a ≠ 32 → a ≠ 35 → a ≠ 42 → c1.1 a = c.1 a) (hi : ∀ i k, i < nc → k < zN g i → c1.1 32 (6 * i + k) = nI (fdI lo F g i k)) : LK nc nt g' T F c1 := by
  obtain ⟨h1, ⟨s1, s2, s3, s4⟩, h3, h4, h5⟩ := h
  have hnc := h1.2.2.1
  have hnt := h1.2.2.2.1
  obtain ⟨z1, z2⟩ := FD_z h3 hd
  unfold LK
  rw [hc 23 (by decide) (by decide) (by decide), hc 24 (by decide) (by decide) (by decide), hc 25 (by decide) (by decide) (by decide), hc 26 (by decide) (by decide) (by decide), hc 27 (by decide) (by decide) (by decide), hc 29 (by decide) (by decide) (by decide), hc 30 (by decide) (by decide) (by decide), hc 31 (by decide) (by decide) (by decide), hc 33 (by decide) (by decide) (by decide)]
  refine ⟨h1, ⟨fun i hi2 => ?_, by rw [z2 120 (by omega) hnc]; exact s2, by rw [z2 121 (by omega) hnc]; exact s3, by rw [z2 122 (by omega) hnc]; exact s4⟩, FD_RW h3 hnc hnt hd, h4, h5⟩
  obtain ⟨e1, e2, e3⟩ := s1 i hi2
  have h6 := (h3.1 i hi2).2.2.1
  rw [FD_zN h3 hnc hd hi2]
  have y0 := z1 i 0 (by omega) (by omega) (by omega)
  rw [Nat.add_zero] at y0
  refine ⟨by rw [z1 i 1 (by omega) (by omega) (by omega)]; exact e1, by rw [y0]; exact e2, fun k hk => ?_⟩
  obtain ⟨f1, f2, f3⟩ := e3 k hk
  have y1 := z1 i (2 + 3 * k) (by omega) (by omega) (by omega)
  have y2 := z1 i (3 + 3 * k) (by omega) (by omega) (by omega)
  rw [← Nat.add_assoc] at y1 y2
  rw [y1, y2, hi i k hi2 hk, hd.2 i k hi2 hk]
  exact ⟨f1, f2, rfl⟩
