/-! ===== text: a law ===== -/
theorem te_law {k N : Nat} {c m : MM} (hN : 15000 ≤ N) (h : Rel k c m) (hf : fOK 1 c m) (hl : c.1 34 0 < 4) : ∃ r c' m', (wr (mm_I c 1 1 0) fun μ3z => (ob (f_La_keepNext N 22 (μ3z.1 21 2) μ3z) fun t50 μ10z => (some (t50, μ10z)))) = some (r, c') ∧ f_Mo_text_L71 N N (m.1 355 6) 0 (mm_I m 355 6 0) = some (r, m') ∧ Rel k c' m' := by
  obtain ⟨n, Y, hX, hC, h6, ht⟩ := Rel_T h
  obtain ⟨n1, cs, f1, f2, f3, f4, f5, f6⟩ := hf.2.1 rfl
  have n9 := hX.1
  have hn1 : n1 = n := by
    rw [h6] at f5
    exact ((nI_eq (by omega) (by omega)).mp f5).symm
  subst hn1
  obtain ⟨lc, hW0⟩ : ∃ lc, WB lc (c.1 34 0) (c.1 34 1) (m.1 355 7) (m.1 355 34) (c.1 37) (c.1 38) (c.1 39) (c.1 40) (c.1 41) (m.1 357) (m.1 358) := by
    obtain ⟨nc, nt, lg, lgI, a, nx, tl, lc, rc, st, cl, g1, g2, g3, g4, g5, g6, g7, g8, g9, g10, g11, g12, g13, g14, g15, g16, g17⟩ := h
    exact ⟨lc, g14⟩
  obtain ⟨d1, d2, d3, d4, d5, -⟩ := id hW0
  have hlc : lc < 4 := by
    rw [d2] at hl
    exact (nI_ltI (b := 4) (by omega) (by decide)).mp hl
  have hcp : ∀ v, v ≤ 240 → cpb 0 0 (nI v) 240 240 = true := by decide +kernel
  have n22 : sh_n 22 = 240 := by decide +kernel
  generalize hR : va_cpy (c.1 22) (c.1 (37 + lc)) (Int32.toNatClampNeg 0) (Int32.toNatClampNeg 0) cs.length = R
  have hRv : ∀ i, i < cs.length → R i = cs.getD i 0 := fun i hi => by
    rw [← hR]
    unfold va_cpy
    rw [if_pos (show Int32.toNatClampNeg 0 ≤ i ∧ i < Int32.toNatClampNeg 0 + cs.length from ⟨Nat.zero_le _, by show i < 0 + cs.length; omega⟩), show Int32.toNatClampNeg 0 + (i - Int32.toNatClampNeg 0) = i from by show 0 + (i - 0) = i; omega]
    exact f4 i hi
  generalize hc1 : mm_I (mm_I (mm_F (mm_I c 1 1 0) (37 + lc) R) 41 lc (nI cs.length)) 34 0 (nI (lc + 1)) = c1
  have hcl : (wr (mm_I c 1 1 0) fun μ3z => (ob (f_La_keepNext N 22 (μ3z.1 21 2) μ3z) fun t50 μ10z => (some (t50, μ10z)))) = some (nI lc, c1) := by
    rw [wr_e, gI_o (by decide), f3]
    unfold f_La_keepNext
    rw [gI_o (by decide), d2, if_neg (show ¬ (4 : Int32) ≤ nI lc from fun z => by have := (nI_leI (a := 4) (by decide) (by omega)).mp z; omega), if_neg (nI_pos (by omega)), if_neg (show ¬ (240 : Int32) < nI cs.length from fun z => by have := (nI_ltI (a := 240) (by decide) (by omega)).mp z; omega), n22, if_pos (show nI cs.length ≤ Int32.ofNat 240 from (nI_leI (b := 240) (by omega) (by decide)).mpr (by omega)), gd_in hlc (by decide), gd_t (hcp _ (by omega)), nI_clamp (by omega), nI_clamp (by omega), gI_o (by decide), gI_o (by omega), hR, wr_e, gF_o (by omega), gI_o (by decide), d2, gd_in hlc (by decide), nI_clamp (by omega), wr_e, gI_o (by decide), gF_o (by omega), gI_o (by decide), d2, show nI lc + 1 = nI (lc + 1) from nI_add lc 1, wr_e, gI_s, if_pos rfl, ob_e, hc1, show nI (lc + 1) - 1 = nI lc from pk_sub (a := lc + 1) (b := 1) (by omega)]
  have ko : ∀ a, a ≠ 1 → a ≠ 37 + lc → a ≠ 41 → a ≠ 34 → c1.1 a = c.1 a := fun a a1 a2 a3 a4 => by rw [← hc1, gI_o a4, gI_o a3, gF_o a2, gI_o a1]
  obtain ⟨m', b1, b2, b3, b4, b5, b6, b7, b8⟩ := lay_1 (N := N) hlc n9 n1 0 N (mm_I m 355 6 0) (by omega) (by omega) (by rw [gI_s, if_neg (by decide)]; exact d3) (fun j hj => by
    have := ht j hj
    rw [Nat.zero_add] at this
    rw [gI_o (by decide), this]; exact pk_vb _)
  refine ⟨nI lc, c1, m', hcl, by rw [h6]; exact b1, ?_⟩
  refine Rel_law h (fun a ha h34 h2 => ko a (by omega) (by omega) (by omega) h34) (fun a a1 a2 a3 => by rw [b2 a a1 a2 a3, gI_o a1]) (fun j hj j6 j7 => by rw [b3 j j7, gI_s, if_neg j6]) (by rw [← hc1, gI_o (by decide), gI_o (by decide), gF_o (by omega), gI_s, if_pos rfl]; rfl) (by rw [b3 6 (by decide), gI_s, if_pos rfl]; rfl) (fun lc2 _ => ⟨lc + 1, WB_mk (by omega) (by rw [← hc1, gI_s, if_pos rfl]) b4 ?_ ?_ (fun j hj => ?_)⟩)
  · rw [← hc1, gI_s, if_neg (by decide), gI_o (by decide), gF_o (by omega), gI_o (by decide), b3 34 (by decide), gI_s, if_neg (by decide)]; exact d4
  · rw [b3 34 (by decide), gI_s, if_neg (by decide)]
    rcases d5 with e | ⟨j, hj, e⟩
    · exact Or.inl e
    · exact Or.inr ⟨j, by omega, e⟩
  · by_cases ej : j = lc
    · subst ej
      have e1 : c1.1 (37 + j) = R := by rw [← hc1, gI_o (by omega), gI_o (by omega), gF_s]
      have e2 : c1.1 41 j = nI cs.length := by rw [← hc1, gI_o (by decide), gI_s, if_pos rfl]
      rw [e1, e2, b6]
      exact f6 R _ hRv (fun i hi => by
        show m'.1 357 (240 * j + i) = m.1 356 i
        rw [b8 i (by omega) hi, gI_o (by decide)])
    · have hjl : j < lc := by omega
      obtain ⟨w, w1, w2⟩ := WB_w hW0 hjl
      have e1 : c1.1 (37 + j) = c.1 (37 + j) := ko _ (by omega) (by omega) (by omega) (by omega)
      have e2 : c1.1 41 j = c.1 41 j := by rw [← hc1, gI_o (by decide), gI_s, if_neg ej, gF_o (by omega), gI_o (by decide)]
      rw [e1, e2, b5 j ej, gI_o (by decide)]
      exact LA_congr ⟨w, w1, w2⟩ (fun _ _ => rfl) (fun i hi => by
        show m'.1 357 (240 * j + i) = m.1 357 (240 * j + i)
        rw [b7 _ (by omega), gI_o (by decide)])
