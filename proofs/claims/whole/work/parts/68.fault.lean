/-! ===== fault ===== -/
theorem DB_R {rc : Nat} {a b : Int32} {sz so ab R R' : Nat → Int32} (h : DB rc a b sz so ab R) (he : ∀ j, j < 52 → R' j = R j) : DB rc a b sz so ab R' := by
  obtain ⟨h1, h2, h3, h4⟩ := h
  refine ⟨h1, h2, h3, fun j hj => ?_⟩
  obtain ⟨g1, g2, g3, g4, g5⟩ := h4 j hj
  have e0 : R' (13 * j) = R (13 * j) := he _ (by omega)
  have ez : rzN R' j = rzN R j := by unfold rzN; rw [e0]
  rw [ez, e0]
  refine ⟨g1, g2, g3, g4, fun k hk => ?_⟩
  have e1 : R' (13 * j + 1 + 2 * k) = R (13 * j + 1 + 2 * k) := he _ (by omega)
  have e2 : R' (13 * j + 2 + 2 * k) = R (13 * j + 2 + 2 * k) := he _ (by omega)
  have eo : roN R' j k = roN R j k := by unfold roN; rw [e1]
  have ea : raN R' j k = raN R j k := by unfold raN; rw [e2]
  rw [eo, ea, e1, e2]
  exact g5 k hk
def fld (j : Nat) : Prop := j = 6 ∨ j = 7 ∨ j = 26 ∨ j = 27 ∨ j = 30 ∨ j = 34 ∨ j = 35 ∨ j = 37 ∨ j = 45 ∨ j = 48
/-- the state, read over -/
theorem Rel_rd {k : Nat} {c c' m m' : MM} (h : Rel k c m) (hc : ∀ a, a = 0 ∨ a = 2 ∨ 23 ≤ a → c'.1 a = c.1 a) (hc1 : c'.1 1 1 = c.1 1 1) (hm : ∀ a, a ≠ 355 → a ≠ 361 → a ≠ 363 → a ≠ 366 → a ≠ 367 → m'.1 a = m.1 a) (hm5 : ∀ j, fld j → m'.1 355 j = m.1 355 j) (hm7 : ∀ j, j < 52 → m'.1 367 j = m.1 367 j) : Rel k c' m' := by
  obtain ⟨nc, nt, lg, lgI, a, nx, tl, lc, rc, st, cl, h1, h2, h3, h4, h5, h6, h7, h8, h9, h10, h11, h12, h13, h14, h15, h16, h17⟩ := h
  have h11' := HB_c h11 (c' := c'.1) (fun i hi _ => hc i (by omega))
  have h15' := DB_R h15 (R' := m'.1 367) hm7
  refine ⟨nc, nt, lg, lgI, a, nx, tl, lc, rc, st, cl, ?_⟩
  unfold RB
  have hx : ∀ a, 368 ≤ a → m'.1 a = m.1 a := fun a ha => hm a (by omega) (by omega) (by omega) (by omega) (by omega)
  simp only [hc 23 (by decide), hc 24 (by decide), hc 25 (by decide), hc 26 (by decide), hc 27 (by decide), hc 29 (by decide), hc 30 (by decide), hc 31 (by decide), hc 32 (by decide), hc 33 (by decide), hc 49 (by decide), hc 51 (by decide), hc 0 (by decide), hc 347 (by decide), hc 349 (by decide), hc 350 (by decide), hc 351 (by decide), hc 352 (by decide), hc 353 (by decide), hc 354 (by decide), hc1, hc 2 (by decide), hc 34 (by decide), hc 37 (by decide), hc 38 (by decide), hc 39 (by decide), hc 40 (by decide), hc 41 (by decide), hc 44 (by decide), hc 45 (by decide), hc 46 (by decide), hc 341 (by decide), hc 342 (by decide), hc 343 (by decide), hc 344 (by decide)]
  simp only [hm 356 (by decide) (by decide) (by decide) (by decide) (by decide), hm 357 (by decide) (by decide) (by decide) (by decide) (by decide), hm 358 (by decide) (by decide) (by decide) (by decide) (by decide), hm 362 (by decide) (by decide) (by decide) (by decide) (by decide), hm 365 (by decide) (by decide) (by decide) (by decide) (by decide), hx 368 (by decide), hx 370 (by decide), hx 371 (by decide), hx 372 (by decide), hx 373 (by decide), hx 375 (by decide)]
  rw [hm5 27 (by unfold fld; omega), hm5 26 (by unfold fld; omega), hm5 37 (by unfold fld; omega), hm5 48 (by unfold fld; omega), hm5 6 (by unfold fld; omega), hm5 7 (by unfold fld; omega), hm5 34 (by unfold fld; omega), hm5 30 (by unfold fld; omega), hm5 45 (by unfold fld; omega), hm5 35 (by unfold fld; omega)]
  exact ⟨h1, h2, h3, h4, h5, h6, h7, h8, h9, h10, h11', h12, h13, h14, h15', h16, h17⟩
/-- a tape, as both sides have it -/
theorem Rel_T {k : Nat} {c m : MM} (h : Rel k c m) : ∃ tl Y, TX tl Y ∧ CT tl Y c ∧ m.1 355 6 = nI tl ∧ ∀ j, j < tl → m.1 356 (0 + j) = (nI (Y j)).toInt8.toInt32 := by
  obtain ⟨nc, nt, lg, lgI, a, nx, tl, lc, rc, st, cl, h1, h2, h3, h4, h5, h6, h7, h8, h9, h10, h11, h12, h13, h14, h15, h16, h17⟩ := h
  obtain ⟨t1, t2, t3, t4⟩ := h13
  exact ⟨tl, yN (c.1 2), ⟨t1, fun j hj => ⟨(t4 j hj).2.1, (t4 j hj).2.2.1⟩⟩, ⟨t2, fun j hj => (t4 j hj).1⟩, t3, fun j hj => by rw [Nat.zero_add]; exact (t4 j hj).2.2.2⟩
theorem sh_356 : sh_k 356 = 21 ∧ (356 : Nat) ≠ 355 ∧ (356 : Nat) < 1000 := by decide +kernel
theorem sn_356 : sh_n 356 = 240 := by decide +kernel
/-- the model's reader, started -/
def m1R (n : Nat) (μ : MM) : MM := mm_I (mm_I (mm_I μ 355 5 (nI 356)) 355 8 (nI 0)) 355 9 (nI n)
theorem m1R_5 {n : Nat} {μ : MM} (j : Nat) : (m1R n μ).1 355 j = if j = 9 then nI n else if j = 8 then nI 0 else if j = 5 then nI 356 else μ.1 355 j := by
  unfold m1R
  simp only [gI_s]
theorem m1R_1 {n : Nat} {μ : MM} {a : Nat} (ha : a ≠ 355) : (m1R n μ).1 a = μ.1 a := by
  unfold m1R
  simp only [gI_o ha]
theorem starts_e {N n : Nat} {μ : MM} : f_Mo_starts N 356 0 (nI n) μ = some (mQ (m1R n μ) 0 (-nI 1) (μ.1 355 12)) := by
  unfold f_Mo_starts
  rw [wr_e, wr_e, wr_e, wr_e, wr_e]
  refine congrArg some ?_
  apply mQ_ext
  · rfl
  · intro a ha
    rw [m1R_1 ha]
    simp only [gI_o ha]
  · intro j
    rw [m1R_5]
    simp only [gI_s]
    by_cases e12 : j = 12
    · subst e12; rfl
    · (repeat' split) <;> first | rfl | omega
theorem MT_R {n : Nat} {Y : Nat → Nat} {μ : MM} (hX : TX n Y) (ht : ∀ j, j < n → μ.1 356 (0 + j) = (nI (Y j)).toInt8.toInt32) : MT n Y 356 0 (m1R n μ) :=
  ⟨by rw [m1R_5]; rfl, by rw [m1R_5]; rfl, by rw [m1R_5]; rfl, sh_356, by rw [sn_356]; have := hX.1; omega, by rw [sn_356]; omega, fun j hj => by rw [m1R_1 (by decide)]; exact ht j hj⟩
theorem rewind_e {N : Nat} {c : MM} : f_Ta_rewind N c = some (cP c 0) := by
  unfold f_Ta_rewind cP
  rw [wr_e]; rfl
/-- a law, read over -/
theorem fa_law {k N : Nat} {c m : MM} (hN : 15000 ≤ N) (h : Rel k c m) : ∃ r c' m', (ob (f_Lr_readLaw N c) fun t21 μ3z => (f_Ro_fault_B49 N t21 μ3z)) = some (r, c') ∧ (obv (f_Mo_goThrough N 356 0 (m.1 355 6) m) fun μ7z => (f_Mo_fault_B46 N 1 μ7z)) = some (r, m') ∧ Rel k c' m' ∧ (∀ a, a = 0 ∨ 23 ≤ a → c'.1 a = c.1 a) ∧
    (r = -1 → ∃ (n : Nat) (cs : List Int32), n ≤ 240 ∧ cs.length ≤ n ∧ c'.1 21 2 = nI cs.length ∧ (∀ k, k < cs.length → c'.1 22 k = cs.getD k 0) ∧ m'.1 355 6 = nI n ∧ ∀ cd tx, (∀ k, k < cs.length → cd k = cs.getD k 0) → (∀ j, j < n → tx j = m'.1 356 j) → LA cd (nI cs.length) tx (nI n)) := by
  obtain ⟨n, Y, hX, hC, h6, ht⟩ := Rel_T h
  have n9 := hX.1
  obtain ⟨ok, p', cs, H1, H2, H3, H4⟩ := law_la (Y := Y) hX
  obtain ⟨μ', a1, a2, a3, a4, a5⟩ := H2 N 356 0 m hN sh_356 (by rw [sn_356]; omega) (by rw [sn_356]; omega) ht
  have h6' : μ'.1 355 6 = nI n := by rw [a3 6 (by unfold scr; omega)]; exact h6
  rw [h6, show (0 : Int32) = nI 0 from rfl, a1, obv_e]
  unfold f_Mo_fault_B46
  rw [if_neg (by decide), a5]
  have hR : ∀ p s g, Rel k (cQ c p s g) μ' := fun p s g => Rel_rd h (fun a ha => cQ_1 (by omega) (by omega) (by omega)) (by rw [cQ_p]; rfl) (fun a a1 _ _ _ _ => a2 a a1) (fun j hj => a3 j (by unfold fld at hj; unfold scr; omega)) (fun j _ => by rw [a2 367 (by decide)])
  cases ok with
  | true =>
    rw [(H1 N c hN hC).1 rfl, ob_e]
    refine ⟨-1, cQ c p' cs.length (app (c.1 22) 0 cs), μ', ?_, ?_, hR _ _ _, fun a ha => cQ_1 (by omega) (by omega) (by omega), fun _ => ⟨n, cs, n9, (H3 rfl).1, ?_, fun k hk => ?_, h6', fun cd tx hcd htx => (H3 rfl).2 cd tx hcd (fun j hj => ?_)⟩⟩
    · unfold f_Ro_fault_B49
      rw [if_neg (by decide)]
    · rw [if_pos rfl]; rfl
    · rw [cQ_s, if_pos rfl]
    · rw [cQ_g]
      have := app_get (g := c.1 22) (s := 0) hk
      rw [Nat.zero_add] at this; exact this
    · rw [htx j hj, a2 356 (by decide)]
      have := ht j hj
      rw [Nat.zero_add] at this; exact this
  | false =>
    obtain ⟨s', g', e⟩ := (H1 N c hN hC).2 rfl
    rw [e, ob_e]
    refine ⟨nI p', cQ c p' s' g', μ', ?_, ?_, hR _ _ _, fun a ha => cQ_1 (by omega) (by omega) (by omega), fun h => absurd h (nf (by omega))⟩
    · unfold f_Ro_fault_B49
      rw [if_pos (by decide), cQ_p, if_pos rfl]
    · rw [if_neg (by decide)]
