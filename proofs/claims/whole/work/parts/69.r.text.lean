/-! ===== text: a collection ===== -/
theorem te_coll {k N : Nat} {c m : MM} (hN : 15000 ≤ N) (h : Rel k c m) (hf : fOK 0 c m) : ∃ r c' m', (wr (mm_I c 1 1 0) fun μ3z => (obv (f_Co_takeAll N 23 4 μ3z) fun μ4z => (obv (f_Hi_forget N μ4z) fun μ5z => (obv (f_Gu_forget N μ5z) fun μ6z => (wr (mm_I μ6z 0 14 0) fun μ7z => (some ((μ7z.1 23 1), μ7z))))))) = some (r, c') ∧ (wr (mm_I (mm_I m 355 6 0) 355 26 ((mm_I m 355 6 0).1 355 28)) fun μ5z => (wr (mm_I μ5z 355 27 (μ5z.1 355 29)) fun μ6z => (f_Mo_text_L207 N N 0 μ6z))) = some (r, m') ∧ Rel k c' m' := by
  obtain ⟨nt, nc, ru, hD, hnt, hnc, hth⟩ := hf.1 rfl
  obtain ⟨⟨d1, d2, d3⟩, ⟨d4, d5⟩, ⟨d6, d7⟩, ⟨d8, d9⟩, ⟨l, y, l9, y9, e82, e0, e83, e1⟩, d11, d12, d13⟩ := hD
  obtain ⟨c1, t0, t1, t2, t3, t4, t5, t6, t7, t8, t9⟩ := co_take (N := N) (c := mm_I c 1 1 0)
  have s0 : ∀ a, a ≠ 1 → (mm_I c 1 1 0).1 a = c.1 a := fun a ha => gI_o ha
  rw [s0 4 (by decide)] at t2 t3
  rw [s0 5 (by decide), s0 6 (by decide)] at t4
  rw [s0 7 (by decide), s0 10 (by decide), s0 14 (by decide)] at t5
  rw [s0 11 (by decide), s0 12 (by decide), s0 13 (by decide)] at t6
  rw [s0 8 (by decide)] at t7 t8 t9
  generalize hc2 : mm_I (mm_I (mm_I c1 51 0 0) 341 0 0) 0 14 0 = c2
  have u : ∀ a, a ≠ 0 → a ≠ 51 → a ≠ 341 → c2.1 a = c1.1 a := fun a a1 a2 a3 => by rw [← hc2, gI_o a1, gI_o a3, gI_o a2]
  have hcl : (wr (mm_I c 1 1 0) fun μ3z => (obv (f_Co_takeAll N 23 4 μ3z) fun μ4z => (obv (f_Hi_forget N μ4z) fun μ5z => (obv (f_Gu_forget N μ5z) fun μ6z => (wr (mm_I μ6z 0 14 0) fun μ7z => (some ((μ7z.1 23 1), μ7z))))))) = some (nI nc, c2) := by
    rw [wr_e, t0, obv_e]
    unfold f_Hi_forget f_Gu_forget
    rw [wr_e, obv_e, wr_e, obv_e, wr_e, hc2, u 23 (by decide) (by decide) (by decide), t3, d8]
  generalize hm0 : mm_I (mm_I (mm_I m 355 6 0) 355 26 (nI nt)) 355 27 (nI nc) = m0
  obtain ⟨mA, a1, a2, a3, a4, a5, a6, a7⟩ := cpy_all (N := N) (m := m0) hN
  have o0 : ∀ a, a ≠ 355 → m0.1 a = m.1 a := fun a ha => by rw [← hm0, gI_o ha, gI_o ha, gI_o ha]
  rw [o0 361 (by decide)] at a4
  rw [o0 363 (by decide)] at a5
  rw [o0 366 (by decide)] at a6
  have hz : ∀ y, y < nc → ∃ z, z ≤ 6 ∧ mA.1 365 (16 * y + 3) = nI z := fun y hy => by
    obtain ⟨i, f, t, ws, q1, ⟨q2, q3, q4, q5, q6⟩, -⟩ := d13 y hy
    exact ⟨ws.length, q1.2.2.2.2.2.1, by rw [a6 _ (by omega)]; exact q5⟩
  have h27 : mA.1 355 27 = nI nc := by rw [a2 355 (by decide) (by decide) (by decide) (by decide), ← hm0, gI_s, if_pos rfl]
  obtain ⟨m1, m', b1, b2, b3, b4, b5, b6⟩ := lay_0 (N := N) hN d2 nc 0 N mA (by omega) (by omega) h27 hz
  have hmo : (wr (mm_I (mm_I m 355 6 0) 355 26 ((mm_I m 355 6 0).1 355 28)) fun μ5z => (wr (mm_I μ5z 355 27 (μ5z.1 355 29)) fun μ6z => (f_Mo_text_L207 N N 0 μ6z))) = some (nI nc, m') := by
    rw [wr_e, gI_s, if_neg (by decide), d7, gI_s, if_neg (by decide), gI_s, if_neg (by decide), d9, wr_e, hm0, a1]
    exact b1
  -- what the model holds in the end
  have om : ∀ a, a ≠ 355 → a ≠ 368 → m'.1 a = mA.1 a := fun a h1 h2 => by rw [b6, gI_o h1, gI_o h1, gI_o h1, gI_o h2, gI_o h2, b2 a h2]
  have om2 : ∀ a, a ≠ 355 → a ≠ 368 → a ≠ 360 → a ≠ 362 → a ≠ 365 → m'.1 a = m.1 a := fun a h1 h2 h3 h4 h5 => by rw [om a h1 h2, a2 a h3 h4 h5 h2, o0 a h1]
  have o5 : ∀ j, j ≠ 45 → j ≠ 37 → j ≠ 48 → j ≠ 6 → j ≠ 26 → j ≠ 27 → m'.1 355 j = m.1 355 j := fun j j1 j2 j3 j4 j5 j6 => by
    rw [b6, gI_s, if_neg j3, gI_s, if_neg j2, gI_s, if_neg j1, gI_o (by decide), gI_o (by decide), b2 355 (by decide), a2 355 (by decide) (by decide) (by decide) (by decide), ← hm0, gI_s, if_neg j6, gI_s, if_neg j5, gI_s, if_neg j4]
  have o5' : ∀ j, j ≠ 45 → j ≠ 37 → j ≠ 48 → m'.1 355 j = m0.1 355 j := fun j j1 j2 j3 => by
    rw [b6, gI_s, if_neg j3, gI_s, if_neg j2, gI_s, if_neg j1, gI_o (by decide), gI_o (by decide), b2 355 (by decide), a2 355 (by decide) (by decide) (by decide) (by decide)]
  have g8 : ∀ j, j < 120 → m'.1 368 j = m1.1 368 j := fun j hj => by rw [b6, gI_o (by decide), gI_o (by decide), gI_o (by decide), gI_s, if_neg (by omega), gI_s, if_neg (by omega)]
  have g0 : ∀ j, 122 ≤ j → j < 304 → m'.1 368 j = nI 0 := fun j h1 h2 => by rw [b6, gI_o (by decide), gI_o (by decide), gI_o (by decide), gI_s, if_neg (by omega), gI_s, if_neg (by omega), b4 j (by omega), a7 j h2]
  have g120 : m'.1 368 120 = nI l := by rw [b6, gI_o (by decide), gI_o (by decide), gI_o (by decide), gI_s, if_neg (by decide), gI_s, if_pos rfl, a4 0 (by decide)]; exact e0
  have g121 : m'.1 368 121 = nI y := by rw [b6, gI_o (by decide), gI_o (by decide), gI_o (by decide), gI_s, if_pos rfl, a4 1 (by decide)]; exact e1
  have f5 : ∀ j, j < 96 → m'.1 365 j = m.1 366 j := fun j hj => by rw [om 365 (by decide) (by decide)]; exact a6 j hj
  have f2 : ∀ j, j < 16 → m'.1 362 j = m.1 363 j := fun j hj => by rw [om 362 (by decide) (by decide)]; exact a5 j hj
  -- each card
  have hcard : ∀ x, x < nc → ∃ (i f t : Nat) (ws : List (Nat × Nat)), (1 ≤ i ∧ i ≤ 9 ∧ f ≤ 9 ∧ 1 ≤ ws.length ∧ ws.length ≤ 6 ∧ ∀ w, w ∈ ws → wOK w) ∧ (t = 8 ∨ t < nt) ∧ m.1 366 (16 * x + 1) = nI f ∧ c2.1 26 x = nI f ∧ (m'.1 368 (20 * x) = (if t = 8 then -nI 1 else nI t) ∧ c2.1 33 x = (if t = 8 then -nI 1 else nI t)) ∧ (m'.1 368 (20 * x + 1) = nI ws.length ∧ c2.1 29 x = nI ws.length) ∧ ∀ k, k < ws.length → (m'.1 368 (20 * x + 2 + 3 * k) = nI (ws.getD k (0, 0)).1 ∧ c2.1 30 (6 * x + k) = nI (ws.getD k (0, 0)).1) ∧ (m'.1 368 (20 * x + 3 + 3 * k) = nI (ws.getD k (0, 0)).2 ∧ c2.1 31 (6 * x + k) = nI (ws.getD k (0, 0)).2) ∧ (m'.1 368 (20 * x + 4 + 3 * k) = nI i ∧ c2.1 32 (6 * x + k) = nI i) := fun x hx => by
    obtain ⟨i, f, t, ws, ⟨w1, w2, w3, w4, w5, w6, w7⟩, ⟨q2, q3, q4, q5, q6⟩, ⟨q7, q8, q9, q10⟩⟩ := d13 x hx
    obtain ⟨k1, k2, k3⟩ := b5 x (by omega) hx
    rw [a6 _ (by omega), q4] at k1
    rw [a6 _ (by omega), q5] at k2
    rw [a6 _ (by omega), q5, nI_clamp (by omega)] at k3
    refine ⟨i, f, t, ws, ⟨w1, w2, w3, w5, w6, w7⟩, hth x (by omega) hx t w4 q4, q3, ?_, ⟨?_, ?_⟩, ⟨?_, ?_⟩, fun k hk => ?_⟩
    · rw [u 26 (by decide) (by decide) (by decide), (t5 x (by omega)).1]; exact q7
    · rw [g8 _ (by omega), k1]
      by_cases h8 : t = 8
      · rw [if_pos h8, if_pos (show nI t = 8 by rw [h8]; rfl)]; rfl
      · rw [if_neg h8, if_neg (show ¬ nI t = 8 from fun z => h8 ((nI_eq (a := t) (b := 8) (by omega) (by decide)).mp z))]
    · rw [u 33 (by decide) (by decide) (by decide), (t5 x (by omega)).2.2]; exact q8
    · rw [g8 _ (by omega), k2]
    · rw [u 29 (by decide) (by decide) (by decide), (t5 x (by omega)).2.1]; exact q9
    · obtain ⟨r1, r2, r3⟩ := k3 k hk
      obtain ⟨v1, v2, v3⟩ := q10 k hk
      obtain ⟨x1, x2, x3⟩ := t6 (6 * x + k) (by omega)
      refine ⟨⟨?_, ?_⟩, ⟨?_, ?_⟩, ⟨?_, ?_⟩⟩
      · rw [g8 _ (by omega), r1, a6 _ (by omega)]; exact (q6 k hk).1
      · rw [u 30 (by decide) (by decide) (by decide), x1]; exact v1
      · rw [g8 _ (by omega), r2, a6 _ (by omega)]; exact (q6 k hk).2
      · rw [u 31 (by decide) (by decide) (by decide), x2]; exact v2
      · rw [g8 _ (by omega), r3, a6 _ (by omega)]; exact q2
      · rw [u 32 (by decide) (by decide) (by decide), x3]; exact v3
  refine ⟨nI nc, c2, m', hcl, hmo, ?_⟩
  have hdy : dyN (m'.1 368) = 0 := by unfold dyN; rw [g0 122 (by decide) (by decide)]; rfl
  have hthg : ∀ t, t < nt → ∃ a b, a ≤ 9 ∧ b < 64 ∧ c2.1 24 t = nI a ∧ m'.1 362 (2 * t) = nI a ∧ c2.1 25 t = nI b ∧ m'.1 362 (2 * t + 1) = nI b := fun t ht => by
    obtain ⟨a, b, x1, x2, x3, x4, x5, x6⟩ := d12 t ht
    refine ⟨a, b, x1, x2, ?_, ?_, ?_, ?_⟩
    · rw [u 24 (by decide) (by decide) (by decide), (t4 t (by omega)).1]; exact x3
    · rw [f2 _ (by omega)]; exact x4
    · rw [u 25 (by decide) (by decide) (by decide), (t4 t (by omega)).2]; exact x5
    · rw [f2 _ (by omega)]; exact x6
  obtain ⟨nc0, nt0, lg0, lgI0, a0, nx0, tl0, lc0, rc0, st0, cl0, h1, h2, h3, h4, h5, h6, h7, h8, h9, h10, h11, h12, h13, h14, h15, h16, h17⟩ := h
  have cz : ∀ a, 34 ≤ a → a ≠ 51 → a ≠ 341 → c2.1 a = c.1 a := fun a x1 x2 x3 => by rw [u a (by omega) x2 x3, t1 a (by omega), s0 a (by omega)]
  have c06 : ∀ j, j ≠ 14 → c2.1 0 j = c.1 0 j := fun j hj => by rw [← hc2, gI_s, if_neg hj, gI_o (by decide), gI_o (by decide), t1 0 (by decide), s0 0 (by decide)]
  refine ⟨nc, nt, fun _ _ => 0, lgI0, 0, nx0, 0, lc0, rc0, 0, cl0, ?_⟩
  unfold RB
  refine ⟨⟨?_, ?_, d2, d1, fun t ht => ?_, fun x hx => ?_⟩, ⟨?_, ?_⟩, fun t ht => ?_, fun x hx => ?_, ⟨fun x hx => ?_, ?_, ?_, ?_⟩, ⟨fun x hx => ?_, ?_, ?_, ?_, ?_, ?_, ?_⟩, ⟨?_, fun j hj => ?_⟩, fun e => ⟨(by decide : (0 : Nat) < 16), (by decide : (0 : Nat) < 16), (by decide : (0 : Nat) < 64)⟩, fun e he => ?_, ?_, ⟨by decide, h11.2.1, ?_, ?_, ?_, fun j hj => absurd hj (by omega)⟩, Or.inl ⟨?_, ?_⟩, ⟨by decide, ?_, ?_, fun j hj => absurd hj (by omega)⟩, ?_, ?_, ⟨by decide, ?_, ?_, fun i hi => absurd hi (by omega)⟩, ?_⟩
  · rw [u 23 (by decide) (by decide) (by decide), t3]; exact d8
  · rw [u 23 (by decide) (by decide) (by decide), t2]; exact d6
  · obtain ⟨a, b, x1, x2, x3, x4, x5, x6⟩ := hthg t ht
    rw [x3, x4, x5, x6]; exact ⟨rfl, rfl⟩
  · obtain ⟨i, f, t, ws, q1, q2, q3, q4, -⟩ := hcard x hx
    rw [q4, f5 _ (by omega), q3]
  · rw [o5' 27 (by decide) (by decide) (by decide), ← hm0, gI_s, if_pos rfl]
  · rw [o5' 26 (by decide) (by decide) (by decide), ← hm0, gI_s, if_neg (by decide), gI_s, if_pos rfl]
  · obtain ⟨a, b, x1, x2, x3, x4, x5, x6⟩ := hthg t ht
    have za : pN (m'.1 362) t = a := by unfold pN; rw [x4, nI_clamp (by omega)]
    have zb : mN (m'.1 362) t = b := by unfold mN; rw [x6, nI_clamp (by omega)]
    rw [za, zb]; exact ⟨x4, x1, x6, x2⟩
  · obtain ⟨i, f, t, ws, q1, q2, q3, q4, -⟩ := hcard x hx
    have e9 : m'.1 365 (16 * x + 1) = nI f := by rw [f5 _ (by omega)]; exact q3
    have zf : fN (m'.1 365) x = f := by unfold fN; rw [e9, nI_clamp (by omega)]
    rw [zf]; exact ⟨e9, q1.2.2.1⟩
  · obtain ⟨i, f, t, ws, q1, q2, q3, q4, ⟨q5, q6⟩, ⟨q7, q8⟩, q9⟩ := hcard x hx
    have ez : zN (m'.1 368) x = ws.length := by unfold zN; rw [q7, nI_clamp (by omega)]
    refine ⟨by rw [q7, q8], by rw [q5, q6], fun k hk => ?_⟩
    rw [ez] at hk
    obtain ⟨⟨x1, x2⟩, ⟨x3, x4⟩, ⟨x5, x6⟩⟩ := q9 k hk
    rw [x1, x2, x3, x4, x5, x6]; exact ⟨rfl, rfl, rfl⟩
  · rw [u 27 (by decide) (by decide) (by decide), t7, e82, g120]
  · rw [u 27 (by decide) (by decide) (by decide), t8, e83, g121]
  · rw [u 27 (by decide) (by decide) (by decide), t9, d11, g0 122 (by decide) (by decide)]
  · obtain ⟨i, f, t, ws, q1, q2, q3, q4, ⟨q5, q6⟩, ⟨q7, q8⟩, q9⟩ := hcard x hx
    have ez : zN (m'.1 368) x = ws.length := by unfold zN; rw [q7, nI_clamp (by omega)]
    rw [ez]
    refine ⟨q7, q1.2.2.2.1, q1.2.2.2.2.1, ?_, fun k hk => ?_⟩
    · rw [q5]
      by_cases h8' : t = 8
      · rw [if_pos h8']; exact Or.inl rfl
      · have ht : t < nt := q2.resolve_left h8'
        have eu : uT (m'.1 368) x = t := by unfold uT; rw [q5, if_neg h8', nI_clamp (by omega)]
        rw [if_neg h8', eu]; exact Or.inr ⟨rfl, ht⟩
    · obtain ⟨⟨x1, x2⟩, ⟨x3, x4⟩, ⟨x5, x6⟩⟩ := q9 k hk
      obtain ⟨o1, o2, o3⟩ := wOK_n (q1.2.2.2.2.2 _ (getD_mem hk))
      have zo : oN (m'.1 368) x k = (ws.getD k (0, 0)).1 := by unfold oN; rw [x1, nI_clamp (by omega)]
      have za : aN (m'.1 368) x k = (ws.getD k (0, 0)).2 := by unfold aN; rw [x3, nI_clamp (by omega)]
      have zi : iN (m'.1 368) x k = i := by unfold iN; rw [x5, nI_clamp (by omega)]
      rw [zo, za, zi]; exact ⟨x1, o1, x3, o2, o3, x5, q1.2.1⟩
  · have : liN (m'.1 368) = l := by unfold liN; rw [g120, nI_clamp (by omega)]
    rw [this]; exact g120
  · have : liN (m'.1 368) = l := by unfold liN; rw [g120, nI_clamp (by omega)]
    rw [this]; exact l9
  · have : moN (m'.1 368) = y := by unfold moN; rw [g121, nI_clamp (by omega)]
    rw [this]; exact g121
  · have : moN (m'.1 368) = y := by unfold moN; rw [g121, nI_clamp (by omega)]
    rw [this]; exact y9
  · rw [hdy]; exact g0 122 (by decide) (by decide)
  · rw [hdy]; decide
  · rw [hdy]; exact g0 123 (by decide) (by decide)
  · rw [hdy] at hj; exact absurd hj (by simp)
  · rw [hdy] at he; exact absurd he (by omega)
  · rw [hdy]; omega
  · rw [← hc2, gI_o (by decide), gI_o (by decide), gI_s, if_pos rfl]; rfl
  · rw [← hc2, gI_o (by decide), gI_o (by decide), gI_s, if_neg (by decide), t1 51 (by decide), s0 51 (by decide)]; exact h11.2.2.2.1
  · rw [b6, gI_s, if_neg (by decide), gI_s, if_pos rfl]; rfl
  · rw [← hc2, gI_s, if_pos rfl]; rfl
  · rw [b6, gI_s, if_pos rfl]; rfl
  · rw [u 1 (by decide) (by decide) (by decide), t1 1 (by decide), gI_s, if_pos rfl]; rfl
  · rw [o5' 6 (by decide) (by decide) (by decide), ← hm0, gI_s, if_neg (by decide), gI_s, if_neg (by decide), gI_s, if_pos rfl]; rfl
  · rw [cz 34 (by decide) (by decide) (by decide), cz 37 (by decide) (by decide) (by decide), cz 38 (by decide) (by decide) (by decide), cz 39 (by decide) (by decide) (by decide), cz 40 (by decide) (by decide) (by decide), cz 41 (by decide) (by decide) (by decide), o5 7 (by decide) (by decide) (by decide) (by decide) (by decide) (by decide), o5 34 (by decide) (by decide) (by decide) (by decide) (by decide) (by decide), om2 357 (by decide) (by decide) (by decide) (by decide) (by decide), om2 358 (by decide) (by decide) (by decide) (by decide) (by decide)]; exact h14
  · rw [c06 6 (by decide), cz 44 (by decide) (by decide) (by decide), cz 45 (by decide) (by decide) (by decide), cz 46 (by decide) (by decide) (by decide), o5 30 (by decide) (by decide) (by decide) (by decide) (by decide) (by decide), om2 367 (by decide) (by decide) (by decide) (by decide) (by decide)]; exact h15
  · rw [← hc2, gI_o (by decide), gI_s, if_pos rfl]; rfl
  · rw [b6, gI_s, if_neg (by decide), gI_s, if_neg (by decide), gI_s, if_pos rfl]; rfl
  · rw [c06 15 (by decide), o5 35 (by decide) (by decide) (by decide) (by decide) (by decide) (by decide)]; exact h17
