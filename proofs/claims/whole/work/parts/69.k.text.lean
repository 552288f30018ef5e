/-! ===== text: a reading is kept ===== -/
theorem Rel_row {k : Nat} {c c' m m' : MM} (h : Rel k c m) (hc : ∀ a, 23 ≤ a → a < 44 ∨ 47 < a → c'.1 a = c.1 a) (h14 : c'.1 0 14 = c.1 0 14) (h15 : c'.1 0 15 = c.1 0 15) (hm : ∀ a, a ≠ 355 → a ≠ 367 → m'.1 a = m.1 a) (hm5 : ∀ j, fld j → j ≠ 6 → j ≠ 30 → m'.1 355 j = m.1 355 j) (ht : c'.1 1 1 = nI 0) (ht' : m'.1 355 6 = nI 0) (hd : ∀ rc, DB rc (c.1 0 6) (m.1 355 30) (c.1 44) (c.1 45) (c.1 46) (m.1 367) → ∃ rc', DB rc' (c'.1 0 6) (m'.1 355 30) (c'.1 44) (c'.1 45) (c'.1 46) (m'.1 367)) : Rel k c' m' := by
  obtain ⟨nc, nt, lg, lgI, a, nx, tl, lc, rc, st, cl, h1, h2, h3, h4, h5, h6, h7, h8, h9, h10, h11, h12, h13, h14', h15', h16, h17⟩ := h
  have h11' := HB_c h11 (c' := c'.1) (fun i hi _ => hc i (by omega) (by omega))
  obtain ⟨rc', hD⟩ := hd rc h15'
  refine ⟨nc, nt, lg, lgI, a, nx, 0, lc, rc', st, cl, ?_⟩
  unfold RB
  have hx : ∀ a, a ≠ 355 → a ≠ 367 → m'.1 a = m.1 a := hm
  refine ⟨?_, ?_, ?_, ?_, ?_, ?_, ?_, h8, ?_, ?_, ?_, ?_, ⟨by decide, ht, ht', fun j hj => absurd hj (by omega)⟩, ?_, hD, ?_, ?_⟩
  · rw [hc 23 (by decide) (by decide), hc 24 (by decide) (by decide), hc 25 (by decide) (by decide), hc 26 (by decide) (by decide), hx 362 (by decide) (by decide), hx 365 (by decide) (by decide)]; exact h1
  · rw [hm5 27 (by unfold fld; omega) (by decide) (by decide), hm5 26 (by unfold fld; omega) (by decide) (by decide)]; exact h2
  · rw [hx 362 (by decide) (by decide)]; exact h3
  · rw [hx 365 (by decide) (by decide)]; exact h4
  · rw [hc 27 (by decide) (by decide), hc 29 (by decide) (by decide), hc 30 (by decide) (by decide), hc 31 (by decide) (by decide), hc 32 (by decide) (by decide), hc 33 (by decide) (by decide), hx 368 (by decide) (by decide)]; exact h5
  · rw [hx 368 (by decide) (by decide)]; exact h6
  · rw [hx 368 (by decide) (by decide)]; exact h7
  · rw [hc 49 (by decide) (by decide), hx 368 (by decide) (by decide), hx 370 (by decide) (by decide)]; exact h9
  · rw [hx 368 (by decide) (by decide)]; exact h10
  · rw [hc 51 (by decide) (by decide), hm5 37 (by unfold fld; omega) (by decide) (by decide), hx 368 (by decide) (by decide), hx 370 (by decide) (by decide)]; exact h11'
  · rw [h14, hm5 48 (by unfold fld; omega) (by decide) (by decide), hc 347 (by decide) (by decide), hc 349 (by decide) (by decide), hc 350 (by decide) (by decide), hc 351 (by decide) (by decide), hc 352 (by decide) (by decide), hc 353 (by decide) (by decide), hc 354 (by decide) (by decide), hx 375 (by decide) (by decide)]; exact h12
  · rw [hc 34 (by decide) (by decide), hm5 7 (by unfold fld; omega) (by decide) (by decide), hm5 34 (by unfold fld; omega) (by decide) (by decide), hc 37 (by decide) (by decide), hc 38 (by decide) (by decide), hc 39 (by decide) (by decide), hc 40 (by decide) (by decide), hc 41 (by decide) (by decide), hx 357 (by decide) (by decide), hx 358 (by decide) (by decide)]; exact h14'
  · rw [hc 341 (by decide) (by decide), hc 342 (by decide) (by decide), hc 343 (by decide) (by decide), hc 344 (by decide) (by decide), hm5 45 (by unfold fld; omega) (by decide) (by decide), hx 371 (by decide) (by decide), hx 372 (by decide) (by decide), hx 373 (by decide) (by decide)]; exact h16
  · rw [h15, hm5 35 (by unfold fld; omega) (by decide) (by decide)]; exact h17
theorem cP_self (c : MM) : ∃ p, cP c p = c := by
  obtain ⟨p, hp⟩ := nI_sur (c.1 1 2)
  refine ⟨p, ?_⟩
  unfold cP
  apply Prod.ext
  · funext a j
    rw [gI]
    by_cases e1 : a = 1
    · rw [if_pos e1]
      by_cases e2 : j = 2
      · rw [if_pos e2, hp, e1, e2]
      · rw [if_neg e2]
    · rw [if_neg e1]
  · rfl
theorem cSh_43 {rc : Nat} (h : rc < 4) : cSh 43 rc := by
  have h1 : sh_n (43 + 1) = 4 := by decide +kernel
  have h2 : sh_n (43 + 2) = 24 := by decide +kernel
  have h3 : sh_n (43 + 3) = 24 := by decide +kernel
  have h4 : sh_n (43 + 4) = 24 := by decide +kernel
  unfold cSh
  rw [h1, h2, h3, h4]
  omega
theorem take_l {N rc p : Nat} (hrc : rc < 4) : ∀ (us : List (Nat × Nat)) (k fu : Nat) (c : MM), k + us.length ≤ 6 → us.length < fu → c.1 44 rc = nI k → c.1 16 0 = nI (k + us.length) → (∀ i, i < us.length → c.1 17 (k + i) = nI (us.getD i (0, 0)).1 ∧ c.1 18 (k + i) = nI (us.getD i (0, 0)).2) → f_Wo_takeRow_L37 N 43 15 fu (nI rc) (nI 0) (nI k) (cP c p) = some (cP (cWs 43 rc 9 c k us) p) := by
  have n16 : sh_n (15 + 1) = 1 := by decide +kernel
  have n17 : sh_n (15 + 2) = 6 := by decide +kernel
  have n18 : sh_n (15 + 3) = 6 := by decide +kernel
  intro us
  induction us with
  | nil =>
    intro k fu c hk hfu h44 h16 hv
    obtain ⟨fu, rfl⟩ : ∃ z, fu = z + 1 := ⟨fu - 1, by omega⟩
    have h16' : c.1 (15 + 1) 0 = nI k := h16
    rw [f_Wo_takeRow_L37, n16, gd_in (by decide) (by decide), nI_clamp (by decide), cP_1 (by decide), h16', if_pos ((nI_leI (by omega) (by omega)).mpr (Nat.le_refl _))]; rfl
  | cons w us ih =>
    intro k fu c hk hfu h44 h16 hv
    have hlen : (w :: us).length = us.length + 1 := rfl
    rw [hlen] at hk hfu h16
    obtain ⟨fu, rfl⟩ : ∃ z, fu = z + 1 := ⟨fu - 1, by omega⟩
    have h16' : c.1 (15 + 1) 0 = nI (k + (us.length + 1)) := h16
    have hv0 := hv 0 (by rw [hlen]; omega)
    have h17' : c.1 (15 + 2) k = nI w.1 := hv0.1
    have h18' : c.1 (15 + 3) k = nI w.2 := hv0.2
    have hix : nI 0 * 6 + nI k = nI k := by rw [show nI 0 * 6 = nI 0 from rfl, nI_add, Nat.zero_add]
    rw [f_Wo_takeRow_L37, n16, gd_in (by decide) (by decide), nI_clamp (show (0 : Nat) < 2 ^ 31 by decide), cP_1 (show (15 + 1 : Nat) ≠ 1 by decide), h16', if_neg (fun z => by have := (nI_leI (by omega) (by omega)).mp z; omega), hix, n17, n18, gd_in (by omega) (by decide), gd_in (by omega) (by decide), nI_clamp (by omega), cP_1 (show (15 + 2 : Nat) ≠ 1 by decide), cP_1 (show (15 + 3 : Nat) ≠ 1 by decide), h17', h18', wo_add (w := w) (cSh_43 hrc) (by omega) h44, ob_e, show nI k + 1 = nI (k + 1) from nI_add k 1]
    rw [ih (k + 1) fu (cAdd 43 rc 9 c k w) (by omega) (by omega) cAdd_k (by rw [cAdd_o (by decide) (by decide) (by decide) (by decide), h16]; congr 1; omega) (fun i hi => by
      have := hv (i + 1) (by rw [hlen]; omega)
      rw [cAdd_o (by decide) (by decide) (by decide) (by decide), cAdd_o (by decide) (by decide) (by decide) (by decide), show k + 1 + i = k + (i + 1) by omega]
      exact this)]
    rfl
/-- the model lays its last row down -/
theorem lay_2 {N rc : Nat} (hrc : rc < 4) : ∀ e x fu m, x + e = 13 → e < fu → m.1 355 30 = nI rc → ∃ m', f_Mo_text_L137 N fu (nI x) m = some (nI rc, m') ∧ (∀ a, a ≠ 355 → a ≠ 367 → m'.1 a = m.1 a) ∧ (∀ j, j ≠ 30 → m'.1 355 j = m.1 355 j) ∧ m'.1 355 30 = nI (rc + 1) ∧ m'.2 = m.2 ∧ (∀ j, j < 13 * rc + x ∨ 13 * rc + 13 ≤ j → m'.1 367 j = m.1 367 j) ∧ (∀ i, x ≤ i → i < 13 → m'.1 367 (13 * rc + i) = m.1 367 (52 + i)) := by
  intro e
  induction e with
  | zero =>
    intro x fu m hx hfu h30
    obtain ⟨fu, rfl⟩ : ∃ z, fu = z + 1 := ⟨fu - 1, by omega⟩
    have hx' : x = 13 := by omega
    subst hx'
    refine ⟨mm_I m 355 30 (nI (rc + 1)), ?_, fun a a1 a2 => by rw [gI_o a1], fun j hj => by rw [gI_s, if_neg hj], by rw [gI_s, if_pos rfl], rfl, fun j _ => by rw [gI_o (by decide)], fun i h1 h2 => absurd h2 (by omega)⟩
    rw [f_Mo_text_L137, if_pos (by decide), h30, show nI rc + 1 = nI (rc + 1) from nI_add rc 1, wr_e, gI_s, if_pos rfl, show nI (rc + 1) - 1 = nI rc from pk_sub (a := rc + 1) (b := 1) (by omega)]
  | succ e ih =>
    intro x fu m hx hfu h30
    obtain ⟨fu, rfl⟩ : ∃ z, fu = z + 1 := ⟨fu - 1, by omega⟩
    obtain ⟨m', a1, a2, a3, a4, a5, a6, a7⟩ := ih (x + 1) fu (mm_I m 367 (13 * rc + x) (m.1 367 (52 + x))) (by omega) (by omega) (by rw [gI_o (by decide)]; exact h30)
    refine ⟨m', ?_, fun a b1 b2 => by rw [a2 a b1 b2, gI_o b2], fun j hj => by rw [a3 j hj, gI_o (by decide)], a4, by rw [a5]; rfl, fun j hj => by rw [a6 j (by omega), gI_s, if_neg (by omega)], fun i h1 h2 => ?_⟩
    · rw [f_Mo_text_L137, if_neg (show ¬ (12 : Int32) < nI x from fun z => by have := (nI_ltI (a := 12) (by decide) (by omega)).mp z; omega), show 52 + nI x = nI (52 + x) from nI_add 52 x, gd_in (by omega) (by decide), h30, show 13 * nI rc = nI (13 * rc) from (Int32.ofNat_mul 13 rc).symm, nI_add, gd_in (by omega) (by decide), nI_clamp (by omega), nI_clamp (by omega), wr_e, show nI x + 1 = nI (x + 1) from nI_add x 1, a1]
    · by_cases e1 : i = x
      · subst e1
        rw [a6 _ (by omega), gI_s, if_pos rfl]
      · rw [a7 i (by omega) h2, gI_s, if_neg (by omega)]
