/-! ===== fault of a collection ===== -/
theorem DR_Q {nt nc ru p p2 : Nat} {c m : MM} {f d : Int32} (h : DR nt nc ru c m) : DR nt nc ru (cP c p) (mQ m p2 f d) := by
  unfold DR at h ⊢
  simp only [cP_1 (show (3 : Nat) ≠ 1 by decide), cP_1 (show (4 : Nat) ≠ 1 by decide), cP_1 (show (5 : Nat) ≠ 1 by decide), cP_1 (show (6 : Nat) ≠ 1 by decide), cP_1 (show (7 : Nat) ≠ 1 by decide), cP_1 (show (8 : Nat) ≠ 1 by decide), cP_1 (show (10 : Nat) ≠ 1 by decide), cP_1 (show (11 : Nat) ≠ 1 by decide), cP_1 (show (12 : Nat) ≠ 1 by decide), cP_1 (show (13 : Nat) ≠ 1 by decide), cP_1 (show (14 : Nat) ≠ 1 by decide), mQ_1 (show (361 : Nat) ≠ 355 by decide), mQ_1 (show (363 : Nat) ≠ 355 by decide), mQ_1 (show (366 : Nat) ≠ 355 by decide), mQ_s (show (31 : Nat) ≠ 10 by decide) (show (31 : Nat) ≠ 11 by decide) (show (31 : Nat) ≠ 12 by decide), mQ_s (show (28 : Nat) ≠ 10 by decide) (show (28 : Nat) ≠ 11 by decide) (show (28 : Nat) ≠ 12 by decide), mQ_s (show (29 : Nat) ≠ 10 by decide) (show (29 : Nat) ≠ 11 by decide) (show (29 : Nat) ≠ 12 by decide)]
  exact h
def c0R (c : MM) : MM := mm_I (mm_I (mm_I (mm_I (mm_I (mm_I c 3 4 (nI 0)) 4 0 (nI 0)) 4 1 (nI 0)) 8 2 (nI 1)) 8 3 (nI 20)) 8 4 (nI 0)
def m0R (m : MM) : MM := mm_I (mm_I (mm_I (mm_I (mm_I m 355 28 (nI 0)) 355 29 (nI 0)) 355 31 (nI 0)) 361 0 (nI 1)) 361 1 (nI 20)
theorem c0R_o {c : MM} {a : Nat} (h1 : a ≠ 3) (h2 : a ≠ 4) (h3 : a ≠ 8) : (c0R c).1 a = c.1 a := by
  unfold c0R
  rw [gI_o h3, gI_o h3, gI_o h3, gI_o h2, gI_o h2, gI_o h1]
theorem m0R_o {m : MM} {a : Nat} (h1 : a ≠ 355) (h2 : a ≠ 361) : (m0R m).1 a = m.1 a := by
  unfold m0R
  rw [gI_o h2, gI_o h2, gI_o h1, gI_o h1, gI_o h1]
theorem m0R_5 {m : MM} {j : Nat} (h1 : j ≠ 28) (h2 : j ≠ 29) (h3 : j ≠ 31) : (m0R m).1 355 j = m.1 355 j := by
  unfold m0R
  rw [gI_o (by decide), gI_o (by decide), gI_s, if_neg h3, gI_s, if_neg h2, gI_s, if_neg h1]
theorem DR_0 {c m : MM} : DR 0 0 0 (c0R c) (m0R m) := by
  refine ⟨by decide, ⟨?_, ?_⟩, ⟨?_, ?_⟩, ⟨?_, ?_⟩, ⟨1, 20, by decide, by decide, ?_, ?_, ?_, ?_⟩, ?_, fun t ht => absurd ht (by omega), fun t ht => absurd ht (by omega)⟩
  · unfold c0R; rw [gI_o (by decide), gI_o (by decide), gI_o (by decide), gI_o (by decide), gI_o (by decide), gI_s, if_pos rfl]
  · unfold m0R; rw [gI_o (by decide), gI_o (by decide), gI_s, if_pos rfl]
  · unfold c0R; rw [gI_o (by decide), gI_o (by decide), gI_o (by decide), gI_s, if_neg (by decide), gI_s, if_pos rfl]
  · unfold m0R; rw [gI_o (by decide), gI_o (by decide), gI_s, if_neg (by decide), gI_s, if_neg (by decide), gI_s, if_pos rfl]
  · unfold c0R; rw [gI_o (by decide), gI_o (by decide), gI_o (by decide), gI_s, if_pos rfl]
  · unfold m0R; rw [gI_o (by decide), gI_o (by decide), gI_s, if_neg (by decide), gI_s, if_pos rfl]
  · unfold c0R; rw [gI_s, if_neg (by decide), gI_s, if_neg (by decide), gI_s, if_pos rfl]
  · unfold m0R; rw [gI_s, if_neg (by decide), gI_s, if_pos rfl]
  · unfold c0R; rw [gI_s, if_neg (by decide), gI_s, if_pos rfl]
  · unfold m0R; rw [gI_s, if_pos rfl]
  · unfold c0R; rw [gI_s, if_pos rfl]
theorem fa_coll {k N : Nat} {c m : MM} (hN : 15000 ≤ N) (h : Rel k c m) : ∃ r c' m', (ob (f_Tr_readCollection N c) fun t46 μ1z => (f_Ro_fault_B49 N t46 μ1z)) = some (r, c') ∧ (obv (f_Mo_readCollection N m) fun μ8z => (f_Mo_fault_B28 N 0 μ8z)) = some (r, m') ∧ Rel k c' m' ∧ (∀ a, a = 0 ∨ 23 ≤ a → c'.1 a = c.1 a) ∧
    (r = -1 → ∃ nt nc ru, DR nt nc ru c' m' ∧ 1 ≤ nt ∧ 1 ≤ nc ∧ thO nt nc (m'.1 366) 0) := by
  obtain ⟨n, Y, hX, hC, h6, ht⟩ := Rel_T h
  have n9 := hX.1
  have hM := MT_R hX ht
  have hC0 : CT n Y (c0R c) := CT_fr hC (by rw [c0R_o (by decide) (by decide) (by decide)]) (c0R_o (by decide) (by decide) (by decide))
  have hM0 : MT n Y 356 0 (m0R (m1R n m)) := MT_fr hM (m0R_5 (by decide) (by decide) (by decide)) (m0R_5 (by decide) (by decide) (by decide)) (m0R_5 (by decide) (by decide) (by decide)) (m0R_o (by decide) (by decide))
  obtain ⟨ok, p', nt, nc, ru, c1, m1, p'', e1, e2, e3, e4, e5, e6⟩ := coll_from hX n 0 0 0 0 N (c0R c) (m0R (m1R n m)) (m.1 355 12) N N 0 (by omega) (by omega) hN hC0 hM0 DR_0 (by omega) (by omega) (by omega)
  have hcl : f_Tr_readCollection N c = some (bI ok, cP c1 p') := by
    unfold f_Tr_readCollection
    rw [rewind_e, obv_e, wr_e, mm_cP (by decide), wr_e, mm_cP (by decide), wr_e, mm_cP (by decide), wr_e, mm_cP (by decide), wr_e, mm_cP (by decide), wr_e, mm_cP (by decide)]
    exact e1
  have hmo : f_Mo_readCollection N m = some (mQ m1 p'' (if ok = true then -nI 1 else nI p') (m.1 355 12)) := by
    obtain ⟨fu, hfu⟩ : ∃ z, N = z + 3 := ⟨N - 3, by omega⟩
    have h30 : ∀ μ : MM, f_Mo_readCollection_L30 N N 0 μ = f_Mo_readCollection_L55 N N 1 (mm_I (mm_I μ 361 0 (nI 1)) 361 1 (nI 20)) := fun μ => by
      have : f_Mo_readCollection_L30 N (fu + 1 + 1 + 1) 0 μ = f_Mo_readCollection_L55 N N 1 (mm_I (mm_I μ 361 0 (nI 1)) 361 1 (nI 20)) := by
        rw [f_Mo_readCollection_L30, if_neg (by decide)]
        unfold f_Mo_usual
        rw [if_pos rfl, ob_e, gd_t (by decide), wr_e, f_Mo_readCollection_L30, if_neg (by decide)]
        unfold f_Mo_usual
        rw [if_pos rfl, ob_e, gd_t (by decide), wr_e, f_Mo_readCollection_L30, if_pos (by decide)]
        rfl
      rw [show fu + 1 + 1 + 1 = N by omega] at this
      exact this
    unfold f_Mo_readCollection
    rw [h6, starts_e, obv_e, wr_e, mm_mQ5 (by decide) (by decide) (by decide), wr_e, mm_mQ5 (by decide) (by decide) (by decide), wr_e, mm_mQ5 (by decide) (by decide) (by decide), h30, mm_mQ (by decide), mm_mQ (by decide)]
    exact e2
  have hRel : Rel k (cP c1 p') (mQ m1 p'' (if ok = true then -nI 1 else nI p') (m.1 355 12)) := by
    refine Rel_rd h (fun a ha => ?_) ?_ (fun a a1 a2 a3 a4 a5 => ?_) (fun j hj => ?_) (fun j hj => ?_)
    · rw [cP_1 (by omega), e3.1 a (by omega) (by omega), c0R_o (by omega) (by omega) (by omega)]
    · unfold cP
      rw [gI_s, if_neg (by decide), e3.1 1 (Or.inl (by decide)) (by decide), c0R_o (by decide) (by decide) (by decide)]
    · rw [mQ_1 a1, e4.1 a a1 a2 a3 a4, m0R_o a1 a2, m1R_1 a1]
    · have hj' : j ≠ 10 ∧ j ≠ 11 ∧ j ≠ 12 ∧ ¬ j = 9 ∧ ¬ j = 8 ∧ ¬ j = 5 ∧ j ≠ 28 ∧ j ≠ 29 ∧ j ≠ 31 := by unfold fld at hj; omega
      obtain ⟨x1, x2, x3, x4, x5, x6, x7, x8, x9⟩ := hj'
      rw [mQ_s x1 x2 x3, e4.2.1 j x7 x8 x9, m0R_5 x7 x8 x9, m1R_5, if_neg x4, if_neg x5, if_neg x6]
    · rw [mQ_1 (by decide), e4.1 367 (by decide) (by decide) (by decide) (by decide), m0R_o (by decide) (by decide), m1R_1 (by decide)]
  have hkp : ∀ a, a = 0 ∨ 23 ≤ a → (cP c1 p').1 a = c.1 a := fun a ha => by rw [cP_1 (by omega), e3.1 a (by omega) (by omega), c0R_o (by omega) (by omega) (by omega)]
  rw [hcl, hmo, ob_e, obv_e]
  unfold f_Mo_fault_B28 f_Mo_fault_B46
  rw [if_neg (by decide), if_neg (by decide), mQ_11]
  cases ok with
  | true =>
    obtain ⟨q1, q2, q3, q4⟩ := e6 rfl
    refine ⟨-1, cP c1 p', mQ m1 p'' (-nI 1) (m.1 355 12), ?_, ?_, hRel, hkp, fun _ => ⟨nt, nc, ru, DR_Q q1, q2, q3, ?_⟩⟩
    · unfold f_Ro_fault_B49
      rw [if_neg (by decide)]
    · rw [if_pos rfl]; rfl
    · rw [mQ_1 (by decide)]; exact q4
  | false =>
    refine ⟨nI p', cP c1 p', mQ m1 p'' (nI p') (m.1 355 12), ?_, ?_, hRel, hkp, fun h => absurd h (nf (by omega))⟩
    · unfold f_Ro_fault_B49
      rw [if_pos (show bI false = 0 from rfl), cP_p]
    · rw [if_neg (by decide)]
/-- what fault leaves where it finds none -/
def fOK (j : Nat) (c m : MM) : Prop :=
  (j = 0 → ∃ nt nc ru, DR nt nc ru c m ∧ 1 ≤ nt ∧ 1 ≤ nc ∧ thO nt nc (m.1 366) 0) ∧
  (j = 1 → ∃ (n : Nat) (cs : List Int32), n ≤ 240 ∧ cs.length ≤ n ∧ c.1 21 2 = nI cs.length ∧ (∀ k, k < cs.length → c.1 22 k = cs.getD k 0) ∧ m.1 355 6 = nI n ∧ ∀ cd tx, (∀ k, k < cs.length → cd k = cs.getD k 0) → (∀ j, j < n → tx j = m.1 356 j) → LA cd (nI cs.length) tx (nI n)) ∧
  (j = 2 → ∃ ws : List (Nat × Nat), 1 ≤ ws.length ∧ ws.length ≤ 6 ∧ (∀ w, w ∈ ws → wOK w) ∧ c.1 16 0 = nI ws.length ∧ m.1 367 52 = nI ws.length ∧ ∀ i, i < ws.length → c.1 17 i = nI (ws.getD i (0, 0)).1 ∧ c.1 18 i = nI (ws.getD i (0, 0)).2 ∧ m.1 367 (53 + 2 * i) = nI (ws.getD i (0, 0)).1 ∧ m.1 367 (54 + 2 * i) = nI (ws.getD i (0, 0)).2)
theorem fa_in {k N j : Nat} {c m : MM} (hN : 15000 ≤ N) (hj : j ≤ 2) (h : Rel k c m) : ∃ r c' m', f_Ro_fault N (nI j) c = some (r, c') ∧ f_Mo_fault N (nI j) m = some (r, m') ∧ Rel k c' m' ∧ (∀ a, a = 0 ∨ 23 ≤ a → c'.1 a = c.1 a) ∧ (r = -1 → fOK j c' m') := by
  have h0 : Rel k c (mm_I m 355 0 0) := h
  have hin : ∀ μ : MM, f_Mo_isIn N (Int32.toInt64 (nI j)) 0 2 μ = some (1, μ) := fun μ => by
    have : j = 0 ∨ j = 1 ∨ j = 2 := by omega
    rcases this with rfl | rfl | rfl <;> rfl
  unfold f_Ro_fault f_Mo_fault
  rw [wr_e, hin, ob_e, if_neg (show ¬ (1 : Int32) = 0 by decide), if_neg (nI_pos (by omega)), if_pos (show nI j ≤ 2 from (nI_leI (b := 2) (by omega) (by decide)).mpr hj)]
  generalize mm_I m 355 0 0 = m0 at h0 ⊢
  have : j = 0 ∨ j = 1 ∨ j = 2 := by omega
  rcases this with rfl | rfl | rfl
  · obtain ⟨r, c', m', e1, e2, e3, ek, e4⟩ := fa_coll hN h0
    refine ⟨r, c', m', ?_, ?_, e3, ek, fun h => ⟨fun _ => e4 h, fun h => absurd h (by decide), fun h => absurd h (by decide)⟩⟩
    · rw [if_neg (by decide), if_neg (by decide)]; exact e1
    · rw [if_pos (show nI 0 = 0 from rfl)]; exact e2
  · obtain ⟨r, c', m', e1, e2, e3, ek, e4⟩ := fa_law hN h0
    refine ⟨r, c', m', ?_, ?_, e3, ek, fun h => ⟨fun h => absurd h (by decide), fun _ => e4 h, fun h => absurd h (by decide)⟩⟩
    · rw [if_pos (show nI 1 = 1 from rfl)]; exact e1
    · rw [if_neg (by decide)]
      unfold f_Mo_fault_B28
      rw [if_pos (show nI 1 = 1 from rfl)]; exact e2
  · obtain ⟨r, c', m', e1, e2, e3, ek, e4⟩ := fa_read hN h0
    refine ⟨r, c', m', ?_, ?_, e3, ek, fun h => ⟨fun h => absurd h (by decide), fun h => absurd h (by decide), fun _ => e4 h⟩⟩
    · rw [if_neg (by decide), if_pos (show nI 2 = 2 from rfl)]; exact e1
    · rw [if_neg (by decide)]
      unfold f_Mo_fault_B28
      rw [if_neg (by decide)]; exact e2
theorem op_fault {k N : Nat} (hN : 15000 ≤ N) (x1 : Int32) : Sp k (f_Ro_fault N x1) (f_Mo_fault N x1) := by
  intro c m h
  rcases arg_in x1 (n := 2) (by omega) with hx | hx | ⟨j, hj, rfl⟩
  · have h0 : Rel (k + 6) c (mm_I m 355 0 0) := Rel_k h (by omega)
    refine ⟨-2, c, mm_I m 355 0 0, ?_, ?_, h0⟩
    · unfold f_Ro_fault
      rw [if_pos (show x1 < 0 from hx)]
    · unfold f_Mo_fault
      rw [wr_e, show (0 : Int64) = Int32.toInt64 (nI 0) from rfl, show (2 : Int64) = Int32.toInt64 (nI 2) from rfl, mo_isInI, ob_e, decide_eq_false (fa_of_lt hx).2.1, if_pos (show bI (false && _) = 0 from rfl)]
  · have h0 : Rel (k + 6) c (mm_I m 355 0 0) := Rel_k h (by omega)
    refine ⟨-2, c, mm_I m 355 0 0, ?_, ?_, h0⟩
    · unfold f_Ro_fault
      rw [if_neg (show ¬ x1 ≤ 2 from (fa_of_lt hx).2.1)]
      split <;> rfl
    · unfold f_Mo_fault
      rw [wr_e, show (0 : Int64) = Int32.toInt64 (nI 0) from rfl, show (2 : Int64) = Int32.toInt64 (nI 2) from rfl, mo_isInI, ob_e, decide_eq_false (fa_of_lt hx).2.1, Bool.and_false, if_pos (show bI false = 0 from rfl)]
  · obtain ⟨r, c', m', e1, e2, e3, -, -⟩ := fa_in hN hj h
    exact ⟨r, c', m', e1, e2, Rel_k e3 (by omega)⟩
