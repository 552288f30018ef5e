/-! ===== matched ===== -/
theorem Rel_mt {k : Nat} {c c' m m' : MM} (h : Rel k c m) (hc : ∀ a, a < 333 ∨ 340 < a → c'.1 a = c.1 a) (hm : ∀ a, a ≠ 355 → a ≠ 369 → m'.1 a = m.1 a) (hm5 : ∀ j, j ≠ 39 → j ≠ 40 → j ≠ 41 → m'.1 355 j = m.1 355 j) : Rel (k + 6) c' m' := by
  obtain ⟨nc, nt, lg, lgI, a, nx, tl, lc, rc, st, cl, h⟩ := h
  obtain ⟨-, -, -, -, h5, h6, h7, h8, h9, h10, h11, -⟩ := id h
  have e368 := hm 368 (by decide) (by decide)
  have e370 := hm 370 (by decide) (by decide)
  refine ⟨nc, nt, lg, lgI, a, nx, tl, lc, rc, st, cl, RB_of h (by omega) (fun i hi hi2 => hc i (by omega)) (fun i hi => hm i (by omega) (by omega)) (fun j hj => hm5 j (by omega) (by omega) (by omega)) ?_ (by rw [e368]; exact h6) (by rw [e368]; exact h7) h8 ?_ (by rw [e368]; omega) ?_⟩
  · rw [e368, hc 27 (by omega), hc 29 (by omega), hc 30 (by omega), hc 31 (by omega), hc 32 (by omega), hc 33 (by omega)]
    exact h5
  · rw [e368, e370, hc 49 (by omega)]; exact h9
  · rw [e368, e370, hc 51 (by omega), hm5 37 (by decide) (by decide) (by decide)]
    exact HB_c h11 (fun i i1 i2 => hc i (by omega))
theorem mt_Vb9 {g T : Nat → Int32} {nc : Nat} (s : Nat → Nat) (h : ∀ i, i < 0 + nc → s i = 9) : mt_Vb g T nc s = true := by
  unfold mt_Vb
  rw [al_iff]
  intro j _ hj
  rw [decide_eq_true (h j hj), Bool.true_or]
theorem mt_ok0 {nt : Nat} {s : Nat → Nat} : mt_ok nt s 0 := ⟨fun i hi => by omega, fun i j hi => by omega⟩
theorem mt_PA0 {BA LI AL : Nat → Nat → Bool} {s : Nat → Nat} : mt_PA BA LI AL s 0 := ⟨fun i hi => by omega, fun i j hi => by omega⟩
theorem mo_trial {N nc nt : Nat} (hN : 15000 ≤ N) {m : MM} (hM : MK nc nt m) : ∃ m1, f_Mo_copies N 368 369 m = some m1 ∧ m1.2 = m.2 ∧ (∀ i, i ≠ 369 → m1.1 i = m.1 i) ∧ NS nc nt (m.1 368) (m.1 362) m1 := by
  obtain ⟨hm27, hm26, hW, hT, hF, hnc, hnt⟩ := hM
  obtain ⟨m1, l1, l2, l3, l4⟩ := mo_copies (N := N) (q0 := 368) (q1 := 369) (m := m) hN n_368 n_369' (by decide)
  refine ⟨m1, l1, l2, l3, by rw [l3 355 (by decide)]; exact hm27, by rw [l3 355 (by decide)]; exact hm26, l3 362 (by decide), fun k hk _ => l4 k hk, fun c hc => ?_⟩
  rw [l4 _ (by omega)]
  rcases (hW.1 c hc).2.2.2.1 with q | ⟨q1, q2⟩
  · exact Or.inl q
  · exact Or.inr ⟨_, q2, q1⟩
theorem op_matched {k N : Nat} (hN : 15000 ≤ N) (x1 : Int32) : Sp k (f_Ro_matched N x1) (f_Mo_matched N x1) := by
  intro c m h
  have h : Rel k c (mm_I m 355 0 0) := Rel_t h
  unfold f_Mo_matched
  rw [wr_e]
  generalize mm_I m 355 0 0 = m0 at h ⊢
  obtain ⟨nc, nt, hL, hM⟩ := Rel_L h
  obtain ⟨hm27, hm26, hW, hT, hF, hnc, hnt⟩ := id hM
  unfold f_Ro_matched
  rw [co_isNone hL.1, ob_e, hm27]
  by_cases hz : nc = 0
  · have e1 : ¬ bI (decide (nc = 0)) = (0 : Int32) := by rw [decide_eq_true hz]; decide
    rw [if_neg e1, if_pos (show nI nc = (0 : Int32) by rw [hz]; rfl)]
    exact ⟨_, c, m0, rfl, rfl, Rel_k h (by omega)⟩
  · have e1 : bI (decide (nc = 0)) = (0 : Int32) := by rw [decide_eq_false hz]; rfl
    rw [if_pos e1, if_neg (nI_ne0 (by omega) (by omega)), L_0, L_2, mo_isIn (by decide) (by decide), ob_e]
    rcases arg_in x1 (n := 2) (by decide) with hx | hx | ⟨j, hj, rfl⟩
    · rw [if_pos (show x1 < 0 from hx), mo_in_f (Or.inl hx)]
      exact ⟨_, c, m0, rfl, rfl, Rel_k h (by omega)⟩
    · have q1 : ¬ x1 < (0 : Int32) := fun e => by
        have e : x1 < nI 0 := e
        rw [fa_lt, nI_toInt (by decide)] at e hx
        omega
      have q2 : ¬ x1 ≤ (2 : Int32) := fun e => by
        have e : x1 ≤ nI 2 := e
        rw [fa_le] at e
        rw [fa_lt] at hx
        omega
      rw [if_neg q1, if_neg q2, mo_in_f (Or.inr hx)]
      exact ⟨_, c, m0, rfl, rfl, Rel_k h (by omega)⟩
    · rw [if_neg (nI_pos (by omega)), if_pos (show nI j ≤ (2 : Int32) from nI_le hj (by decide)), mo_in_t (by omega) hj (by decide), bI_t, if_neg (show ¬ nI 1 = (0 : Int32) by decide)]
      obtain ⟨c1, p1, p2, b, hh, AB, hS, hF⟩ := ma_prepare hN hL
      obtain ⟨m1, l1, l2, l3, l4⟩ := mo_trial hN hM
      have hpr : ∀ t, t < nt → (m0.1 362) (2 * t) = nI (mt_pr (m0.1 362) t) := fun t ht => by
        obtain ⟨et, et2, -, -⟩ := hT t ht
        unfold mt_pr
        rw [Nat.min_eq_left et2]; exact et
      obtain ⟨c2, g1, g2, g3⟩ := ma_search hN hF nc 0 12 (fun _ => 9) none 0 (mm_I (mm_I (mm_I c1 333 0 (-1)) 333 1 0) 333 2 0) (by omega) (by omega) (MS_of hS (fun a a1 _ => by rw [gI_o a1, gI_o a1, gI_o a1])) mt_ok0 mt_PA0 (fun t _ => by rw [b_0]; rfl) (fun i hi => by omega) (by
        show (mm_I (mm_I (mm_I c1 333 0 (-1)) 333 1 0) 333 2 0).1 333 0 = -nI 1
        rw [gI_s, if_neg (by decide), gI_s, if_neg (by decide), gI_s, if_pos rfl]; rfl)
      obtain ⟨m2, q1, q2, q3, q4⟩ := mo_goMatch hN hW hT hnc hnt hpr (mt_pr9 _) nc 0 12 (fun _ => 9) none 0 (mm_I (mm_I m1 355 40 0) 355 41 1000000) (by omega) (by omega) (by
        obtain ⟨a1, a2, a3, a4, a5⟩ := l4
        refine ⟨?_, ?_, ?_, ?_, ?_⟩
        · rw [gI_s, if_neg (by decide), gI_s, if_neg (by decide)]; exact a1
        · rw [gI_s, if_neg (by decide), gI_s, if_neg (by decide)]; exact a2
        · rw [gI_o (by decide), gI_o (by decide)]; exact a3
        · rw [gI_o (by decide), gI_o (by decide)]; exact a4
        · rw [gI_o (by decide), gI_o (by decide)]; exact a5) mt_ok0 (fun t _ => by rw [b_0]; rfl) (fun i hi => by omega) (by
        refine ⟨?_, ?_⟩
        · rw [gI_s, if_neg (by decide), gI_s, if_pos rfl]; rfl
        · rw [gI_s, if_pos rfl]; rfl)
      have hB := mt_goS (nt := nt) (pr := mt_pr (m0.1 362)) (V := mt_Vb (m0.1 368) (m0.1 362) nc) nc 0 (fun _ => 9) none (fun _ _ => rfl) mt_Vb9
      revert g3 q4 hB
      generalize mt_go nt (mt_pr (m0.1 362)) (mt_Vb (m0.1 368) (m0.1 362) nc) nc 0 (fun _ => 9) none = B
      intro g3 q4 hB
      cases B with
      | none => exact absurd rfl hB
      | some bb =>
        obtain ⟨n, p, d⟩ := bb
        obtain ⟨a1, a2, a3, -, -⟩ := g3
        obtain ⟨b1, b2, b3, -, -⟩ := q4
        have hc1 : f_Ma_findBest N c = some c2 := by
          unfold f_Ma_findBest
          rw [p1, obv_e, wr_e, wr_e, wr_e]
          have : f_Ma_search N 0 0 0 0 0 (mm_I (mm_I (mm_I c1 333 0 (-1)) 333 1 0) 333 2 0) = some c2 := g1
          rw [this, obv_e]
        have hm1 : f_Mo_goMatch N 0 0 0 0 0 (mm_I (mm_I m1 355 40 0) 355 41 1000000) = some m2 := q1
        rw [hc1, obv_e, l1, obv_e, wr_e, wr_e, hm1, obv_e, a1, a2, a3, b1, b2, b3]
        have hR : Rel (k + 6) c2 m2 := Rel_mt h (fun a ha => by
            rw [g2.2.1 a (by omega) (by omega), gI_o (by omega), gI_o (by omega), gI_o (by omega)]
            exact p2.2 a (by omega)) (fun a a1 a2 => by
            rw [q2.2.1 a a1 a2, gI_o a1, gI_o a1]
            exact l3 a a2) (fun j j1 j2 j3 => by
            rw [q2.2.2.1 j j1 j2 j3, gI_s, if_neg j3, gI_s, if_neg j2, l3 355 (by decide)])
        rcases (show j = 0 ∨ j = 1 ∨ j = 2 by omega) with rfl | rfl | rfl
        · exact ⟨nI d, c2, m2, rfl, rfl, hR⟩
        · exact ⟨nI n, c2, m2, rfl, rfl, hR⟩
        · exact ⟨nI p, c2, m2, rfl, rfl, hR⟩
