/-! ===== text: a law is kept ===== -/
theorem WB_mk {lc : Nat} {c m : MM} (h0 : lc ≤ 4) (h1 : c.1 34 0 = nI lc) (h2 : m.1 355 7 = nI lc) (h3 : c.1 34 1 = m.1 355 34) (h4 : m.1 355 34 = -nI 1 ∨ ∃ j, j < lc ∧ m.1 355 34 = nI j) (h : ∀ j, j < lc → LA (c.1 (37 + j)) (c.1 41 j) (fun k => m.1 357 (240 * j + k)) (m.1 358 j)) : WB lc (c.1 34 0) (c.1 34 1) (m.1 355 7) (m.1 355 34) (c.1 37) (c.1 38) (c.1 39) (c.1 40) (c.1 41) (m.1 357) (m.1 358) := by
  refine ⟨h0, h1, h2, h3, h4, fun hl => ?_, fun hl => h 1 hl, fun hl => h 2 hl, fun hl => h 3 hl⟩
  have := h 0 hl
  simpa using this
theorem Rel_law {k : Nat} {c c' m m' : MM} (h : Rel k c m) (hc : ∀ a, a = 0 ∨ 23 ≤ a → a ≠ 34 → a < 37 ∨ 41 < a → c'.1 a = c.1 a) (hm : ∀ a, a ≠ 355 → a ≠ 357 → a ≠ 358 → m'.1 a = m.1 a) (hm5 : ∀ j, fld j → j ≠ 6 → j ≠ 7 → m'.1 355 j = m.1 355 j) (ht : c'.1 1 1 = nI 0) (ht' : m'.1 355 6 = nI 0) (hd : ∀ lc, WB lc (c.1 34 0) (c.1 34 1) (m.1 355 7) (m.1 355 34) (c.1 37) (c.1 38) (c.1 39) (c.1 40) (c.1 41) (m.1 357) (m.1 358) → ∃ lc', WB lc' (c'.1 34 0) (c'.1 34 1) (m'.1 355 7) (m'.1 355 34) (c'.1 37) (c'.1 38) (c'.1 39) (c'.1 40) (c'.1 41) (m'.1 357) (m'.1 358)) : Rel k c' m' := by
  obtain ⟨nc, nt, lg, lgI, a, nx, tl, lc, rc, st, cl, h1, h2, h3, h4, h5, h6, h7, h8, h9, h10, h11, h12, h13, h14, h15, h16, h17⟩ := h
  have h11' := HB_c h11 (c' := c'.1) (fun i hi _ => hc i (by omega) (by omega) (by omega))
  obtain ⟨lc', hD⟩ := hd lc h14
  refine ⟨nc, nt, lg, lgI, a, nx, 0, lc', rc, st, cl, ?_⟩
  unfold RB
  refine ⟨?_, ?_, ?_, ?_, ?_, ?_, ?_, h8, ?_, ?_, ?_, ?_, ⟨by decide, ht, ht', fun j hj => absurd hj (by omega)⟩, hD, ?_, ?_, ?_⟩
  · rw [hc 23 (by decide) (by decide) (by decide), hc 24 (by decide) (by decide) (by decide), hc 25 (by decide) (by decide) (by decide), hc 26 (by decide) (by decide) (by decide), hm 362 (by decide) (by decide) (by decide), hm 365 (by decide) (by decide) (by decide)]; exact h1
  · rw [hm5 27 (by unfold fld; omega) (by decide) (by decide), hm5 26 (by unfold fld; omega) (by decide) (by decide)]; exact h2
  · rw [hm 362 (by decide) (by decide) (by decide)]; exact h3
  · rw [hm 365 (by decide) (by decide) (by decide)]; exact h4
  · rw [hc 27 (by decide) (by decide) (by decide), hc 29 (by decide) (by decide) (by decide), hc 30 (by decide) (by decide) (by decide), hc 31 (by decide) (by decide) (by decide), hc 32 (by decide) (by decide) (by decide), hc 33 (by decide) (by decide) (by decide), hm 368 (by decide) (by decide) (by decide)]; exact h5
  · rw [hm 368 (by decide) (by decide) (by decide)]; exact h6
  · rw [hm 368 (by decide) (by decide) (by decide)]; exact h7
  · rw [hc 49 (by decide) (by decide) (by decide), hm 368 (by decide) (by decide) (by decide), hm 370 (by decide) (by decide) (by decide)]; exact h9
  · rw [hm 368 (by decide) (by decide) (by decide)]; exact h10
  · rw [hc 51 (by decide) (by decide) (by decide), hm5 37 (by unfold fld; omega) (by decide) (by decide), hm 368 (by decide) (by decide) (by decide), hm 370 (by decide) (by decide) (by decide)]; exact h11'
  · rw [hc 0 (by decide) (by decide) (by decide), hm5 48 (by unfold fld; omega) (by decide) (by decide), hc 347 (by decide) (by decide) (by decide), hc 349 (by decide) (by decide) (by decide), hc 350 (by decide) (by decide) (by decide), hc 351 (by decide) (by decide) (by decide), hc 352 (by decide) (by decide) (by decide), hc 353 (by decide) (by decide) (by decide), hc 354 (by decide) (by decide) (by decide), hm 375 (by decide) (by decide) (by decide)]; exact h12
  · rw [hc 0 (by decide) (by decide) (by decide), hm5 30 (by unfold fld; omega) (by decide) (by decide), hc 44 (by decide) (by decide) (by decide), hc 45 (by decide) (by decide) (by decide), hc 46 (by decide) (by decide) (by decide), hm 367 (by decide) (by decide) (by decide)]; exact h15
  · rw [hc 341 (by decide) (by decide) (by decide), hc 342 (by decide) (by decide) (by decide), hc 343 (by decide) (by decide) (by decide), hc 344 (by decide) (by decide) (by decide), hm5 45 (by unfold fld; omega) (by decide) (by decide), hm 371 (by decide) (by decide) (by decide), hm 372 (by decide) (by decide) (by decide), hm 373 (by decide) (by decide) (by decide)]; exact h16
  · rw [hc 0 (by decide) (by decide) (by decide), hm5 35 (by unfold fld; omega) (by decide) (by decide)]; exact h17
/-- the model lays a law's text down -/
theorem lay_1 {N lc n : Nat} (hlc : lc < 4) (hn : n ≤ 240) : ∀ e x fu m, x + e = n → e < fu → m.1 355 7 = nI lc → (∀ j, j < n → vp_nar .byte (m.1 356 j) = m.1 356 j) → ∃ m', f_Mo_text_L71 N fu (nI n) (nI x) m = some (nI lc, m') ∧ (∀ a, a ≠ 355 → a ≠ 357 → a ≠ 358 → m'.1 a = m.1 a) ∧ (∀ j, j ≠ 7 → m'.1 355 j = m.1 355 j) ∧ m'.1 355 7 = nI (lc + 1) ∧ (∀ j, j ≠ lc → m'.1 358 j = m.1 358 j) ∧ m'.1 358 lc = nI n ∧ (∀ j, j < 240 * lc + x → m'.1 357 j = m.1 357 j) ∧ (∀ i, x ≤ i → i < n → m'.1 357 (240 * lc + i) = m.1 356 i) := by
  intro e
  induction e with
  | zero =>
    intro x fu m hx hfu h7 hb
    obtain ⟨fu, rfl⟩ : ∃ z, fu = z + 1 := ⟨fu - 1, by omega⟩
    have hx' : x = n := by omega
    subst hx'
    refine ⟨mm_I (mm_I m 358 lc (nI x)) 355 7 (nI (lc + 1)), ?_, fun a a1 a2 a3 => by rw [gI_o a1, gI_o a3], fun j hj => by rw [gI_s, if_neg hj, gI_o (by decide)], by rw [gI_s, if_pos rfl], fun j hj => by rw [gI_o (by decide), gI_s, if_neg hj], by rw [gI_o (by decide), gI_s, if_pos rfl], fun j _ => by rw [gI_o (by decide), gI_o (by decide)], fun i h1 h2 => absurd h2 (by omega)⟩
    rw [f_Mo_text_L71, if_pos ((nI_leI (by omega) (by omega)).mpr (Nat.le_refl _)), h7, gd_in hlc (by decide), nI_clamp (by omega), wr_e, gI_o (by decide), h7, show nI lc + 1 = nI (lc + 1) from nI_add lc 1, wr_e, gI_s, if_pos rfl, show nI (lc + 1) - 1 = nI lc from pk_sub (a := lc + 1) (b := 1) (by omega)]
  | succ e ih =>
    intro x fu m hx hfu h7 hb
    obtain ⟨fu, rfl⟩ : ∃ z, fu = z + 1 := ⟨fu - 1, by omega⟩
    obtain ⟨m', a1, a2, a3, a4, a5, a6, a7, a8⟩ := ih (x + 1) fu (mm_I m 357 (240 * lc + x) (m.1 356 x)) (by omega) (by omega) (by rw [gI_o (by decide)]; exact h7) (fun j hj => by rw [gI_o (by decide)]; exact hb j hj)
    refine ⟨m', ?_, fun a b1 b2 b3 => by rw [a2 a b1 b2 b3, gI_o b2], fun j hj => by rw [a3 j hj, gI_o (by decide)], a4, fun j hj => by rw [a5 j hj, gI_o (by decide)], a6, fun j hj => by rw [a7 j (by omega), gI_s, if_neg (by omega)], fun i h1 h2 => ?_⟩
    · rw [f_Mo_text_L71, if_neg (fun z => by have := (nI_leI (by omega) (by omega)).mp z; omega), gd_in (by omega) (by decide), h7, show 240 * nI lc = nI (240 * lc) from (Int32.ofNat_mul 240 lc).symm, nI_add, gd_in (by omega) (by decide), nI_clamp (by omega), nI_clamp (by omega), hb x (by omega), wr_e, show nI x + 1 = nI (x + 1) from nI_add x 1, a1]
    · by_cases e1 : i = x
      · subst e1
        rw [a7 _ (by omega), gI_s, if_pos rfl]
      · rw [a8 i (by omega) h2, gI_o (by decide)]
