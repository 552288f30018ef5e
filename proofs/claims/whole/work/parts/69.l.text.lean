/-! ===== text: a reading ===== -/
theorem wOK_n {w : Nat × Nat} (h : wOK w) : w.1 < 3 ∧ w.2 < 10 ∧ (w.1 < 2 → w.2 < 6) := by
  obtain ⟨h1, h2, h3⟩ := h
  refine ⟨by omega, ?_, h3⟩
  by_cases e : w.1 = 2
  · have := h2 e; omega
  · have := h3 (by omega); omega
theorem getD_mem {ws : List (Nat × Nat)} {i : Nat} (h : i < ws.length) : ws.getD i (0, 0) ∈ ws := by
  rw [List.getD_eq_getElem?_getD, List.getElem?_eq_getElem h]
  exact List.getElem_mem h
theorem te_read {k N : Nat} {c m : MM} (hN : 15000 ≤ N) (h : Rel k c m) (hf : fOK 2 c m) (hl : c.1 0 6 < 4) : ∃ r c' m', (wr (mm_I c 1 1 0) fun μ3z => (obv (f_Wo_takeRow N 43 15 (μ3z.1 0 6) 0 μ3z) fun μ8z => (wr (mm_I μ8z 0 6 ((μ8z.1 0 6) + 1)) fun μ9z => (some (((μ9z.1 0 6) - 1), μ9z))))) = some (r, c') ∧ f_Mo_text_L137 N N 0 (mm_I m 355 6 0) = some (r, m') ∧ Rel k c' m' := by
  obtain ⟨rc, hD⟩ := Rel_D h
  obtain ⟨d1, d2, d3, d4⟩ := hD
  obtain ⟨ws, f1, f2, f3, f4, f5, f6⟩ := hf.2.2 rfl
  have hrc : rc < 4 := by
    rw [d2] at hl
    exact (nI_ltI (b := 4) (by omega) (by decide)).mp hl
  -- the program
  generalize hc1 : mm_I (mm_I c 1 1 0) 44 rc (nI 0) = c1
  obtain ⟨p, hp⟩ := cP_self c1
  have k44 : c1.1 44 rc = nI 0 := by rw [← hc1, gI_s, if_pos rfl]
  have k44' : ∀ j, j ≠ rc → c1.1 44 j = c.1 44 j := fun j hj => by rw [← hc1, gI_s, if_neg hj, gI_o (by decide)]
  have ko : ∀ a, a ≠ 1 → a ≠ 44 → c1.1 a = c.1 a := fun a a1 a2 => by rw [← hc1, gI_o a2, gI_o a1]
  have k11 : c1.1 1 1 = nI 0 := by rw [← hc1, gI_o (by decide), gI_s, if_pos rfl]; rfl
  have e1 := take_l (N := N) (p := p) hrc ws 0 N c1 (by omega) (by omega) k44 (by rw [ko 16 (by decide) (by decide), Nat.zero_add]; exact f4) (fun i hi => by
    rw [ko 17 (by decide) (by decide), ko 18 (by decide) (by decide), Nat.zero_add]; exact ⟨(f6 i hi).1, (f6 i hi).2.1⟩)
  rw [hp] at e1
  obtain ⟨w1, w2, w3, w4, w5, w6⟩ := cWs_g (q := 43) (row := rc) (ink := 9) ws c1 0 k44
  generalize hc2 : cP (cWs 43 rc 9 c1 0 ws) p = c2 at e1
  have ho : ∀ a, a ≠ 1 → a ≠ 44 → a ≠ 45 → a ≠ 46 → a ≠ 47 → c2.1 a = c.1 a := fun a a1 a2 a3 a4 a5 => by rw [← hc2, cP_1 a1, w1 a a2 a3 a4 a5, ko a a1 a2]
  have e06 : c2.1 0 6 = nI rc := by rw [ho 0 (by decide) (by decide) (by decide) (by decide) (by decide)]; exact d2
  have h44r : c2.1 44 rc = nI ws.length := by rw [← hc2, cP_1 (by decide)]; rw [Nat.zero_add] at w3; exact w3
  have h44 : ∀ j, j ≠ rc → c2.1 44 j = c.1 44 j := fun j hj => by rw [← hc2, cP_1 (by decide), ← k44' j hj]; exact w4 j hj
  have h45 : ∀ j, j < 6 * rc → c2.1 45 j = c.1 45 j ∧ c2.1 46 j = c.1 46 j := fun j hj => by
    obtain ⟨y1, y2, y3⟩ := w6 j (by omega)
    refine ⟨?_, ?_⟩
    · rw [← hc2, cP_1 (by decide)]; exact y1.trans (by rw [ko (43 + 2) (by decide) (by decide)])
    · rw [← hc2, cP_1 (by decide)]; exact y2.trans (by rw [ko (43 + 3) (by decide) (by decide)])
  have h45r : ∀ i, i < ws.length → c2.1 45 (6 * rc + i) = nI (ws.getD i (0, 0)).1 ∧ c2.1 46 (6 * rc + i) = nI (ws.getD i (0, 0)).2 := fun i hi => by
    obtain ⟨y1, y2, y3⟩ := w5 i hi
    rw [Nat.add_zero] at y1 y2
    refine ⟨?_, ?_⟩
    · rw [← hc2, cP_1 (by decide)]; exact y1
    · rw [← hc2, cP_1 (by decide)]; exact y2
  have h11 : c2.1 1 1 = nI 0 := by
    rw [← hc2]
    unfold cP
    rw [gI_s, if_neg (by decide), w1 1 (by decide) (by decide) (by decide) (by decide)]; exact k11
  have hcl : (wr (mm_I c 1 1 0) fun μ3z => (obv (f_Wo_takeRow N 43 15 (μ3z.1 0 6) 0 μ3z) fun μ8z => (wr (mm_I μ8z 0 6 ((μ8z.1 0 6) + 1)) fun μ9z => (some (((μ9z.1 0 6) - 1), μ9z))))) = some (nI rc, mm_I c2 0 6 (nI (rc + 1))) := by
    have n44 : sh_n (43 + 1) = 4 := by decide +kernel
    have n16 : sh_n (15 + 1) = 1 := by decide +kernel
    rw [wr_e, gI_o (by decide), d2]
    unfold f_Wo_takeRow
    rw [n44, n16, if_neg (nI_pos (by omega)), if_neg (show ¬ Int32.ofNat 4 ≤ nI rc from fun z => by have := (nI_leI (a := 4) (by decide) (by omega)).mp z; omega), if_neg (by decide), if_pos (by decide), gd_in hrc (by decide), nI_clamp (by omega), wr_e, show mm_I (mm_I c 1 1 0) (43 + 1) rc 0 = c1 from hc1, show (0 : Int32) = nI 0 from rfl, e1, obv_e, wr_e, e06, show nI rc + 1 = nI (rc + 1) from nI_add rc 1, gI_s, if_pos rfl, show nI (rc + 1) - 1 = nI rc from pk_sub (a := rc + 1) (b := 1) (by omega)]
  -- the model
  obtain ⟨m', b1, b2, b3, b4, b5, b6, b7⟩ := lay_2 (N := N) hrc 13 0 N (mm_I m 355 6 0) (by omega) (by omega) (by rw [gI_s, if_neg (by decide)]; exact d3)
  have g6 : ∀ j, j < 13 * rc → m'.1 367 j = m.1 367 j := fun j hj => by rw [b6 j (by omega), gI_o (by decide)]
  have g7 : ∀ i, i < 13 → m'.1 367 (13 * rc + i) = m.1 367 (52 + i) := fun i hi => by rw [b7 i (by omega) hi, gI_o (by decide)]
  refine ⟨nI rc, mm_I c2 0 6 (nI (rc + 1)), m', hcl, b1, ?_⟩
  refine Rel_row h (fun a ha h2 => by rw [gI_o (by omega), ho a (by omega) (by omega) (by omega) (by omega) (by omega)]) (by rw [gI_s, if_neg (by decide), ho 0 (by decide) (by decide) (by decide) (by decide) (by decide)]) (by rw [gI_s, if_neg (by decide), ho 0 (by decide) (by decide) (by decide) (by decide) (by decide)]) (fun a a1 a2 => by rw [b2 a a1 a2, gI_o a1]) (fun j hj j6 j30 => by rw [b3 j j30, gI_s, if_neg j6]) (by rw [gI_o (by decide)]; exact h11) (by rw [b3 6 (by decide), gI_s, if_pos rfl]; rfl) (fun rc2 _ => ⟨rc + 1, by omega, by rw [gI_s, if_pos rfl], b4, fun j hj => ?_⟩)
  simp only [gI_o (show (44 : Nat) ≠ 0 by decide), gI_o (show (45 : Nat) ≠ 0 by decide), gI_o (show (46 : Nat) ≠ 0 by decide)]
  by_cases ej : j = rc
  · subst ej
    have e0 : m'.1 367 (13 * j) = nI ws.length := by
      have := g7 0 (by omega)
      rw [Nat.add_zero, Nat.add_zero] at this
      rw [this]; exact f5
    have ez : rzN (m'.1 367) j = ws.length := by unfold rzN; rw [e0, nI_clamp (by omega)]
    rw [ez]
    refine ⟨e0, f1, f2, by rw [h44r, e0], fun i hi => ?_⟩
    obtain ⟨x1, x2, x3, x4⟩ := f6 i hi
    obtain ⟨o1, o2, o3⟩ := wOK_n (f3 _ (getD_mem hi))
    have eo : m'.1 367 (13 * j + 1 + 2 * i) = nI (ws.getD i (0, 0)).1 := by
      have := g7 (1 + 2 * i) (by omega)
      rw [show 13 * j + 1 + 2 * i = 13 * j + (1 + 2 * i) by omega, this, show 52 + (1 + 2 * i) = 53 + 2 * i by omega]; exact x3
    have ea : m'.1 367 (13 * j + 2 + 2 * i) = nI (ws.getD i (0, 0)).2 := by
      have := g7 (2 + 2 * i) (by omega)
      rw [show 13 * j + 2 + 2 * i = 13 * j + (2 + 2 * i) by omega, this, show 52 + (2 + 2 * i) = 54 + 2 * i by omega]; exact x4
    have zo : roN (m'.1 367) j i = (ws.getD i (0, 0)).1 := by unfold roN; rw [eo, nI_clamp (by omega)]
    have za : raN (m'.1 367) j i = (ws.getD i (0, 0)).2 := by unfold raN; rw [ea, nI_clamp (by omega)]
    rw [zo, za]
    exact ⟨eo, o1, ea, o2, o3, by rw [(h45r i hi).1, eo], by rw [(h45r i hi).2, ea]⟩
  · obtain ⟨x1, x2, x3, x4, x5⟩ := d4 j (by omega)
    have e0 : m'.1 367 (13 * j) = m.1 367 (13 * j) := g6 _ (by omega)
    have ez : rzN (m'.1 367) j = rzN (m.1 367) j := by unfold rzN; rw [e0]
    rw [ez, e0]
    refine ⟨x1, x2, x3, by rw [h44 j ej]; exact x4, fun i hi => ?_⟩
    have eo : m'.1 367 (13 * j + 1 + 2 * i) = m.1 367 (13 * j + 1 + 2 * i) := g6 _ (by omega)
    have ea : m'.1 367 (13 * j + 2 + 2 * i) = m.1 367 (13 * j + 2 + 2 * i) := g6 _ (by omega)
    have zo : roN (m'.1 367) j i = roN (m.1 367) j i := by unfold roN; rw [eo]
    have za : raN (m'.1 367) j i = raN (m.1 367) j i := by unfold raN; rw [ea]
    obtain ⟨q1, q2, q3, q4, q5, q6, q7⟩ := x5 i hi
    rw [zo, za, eo, ea, (h45 (6 * j + i) (by omega)).1, (h45 (6 * j + i) (by omega)).2]
    exact ⟨q1, q2, q3, q4, q5, q6, q7⟩
