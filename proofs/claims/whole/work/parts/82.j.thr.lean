/-! ===== thing, on both sides, and in the law ===== -/
def TH (x1 x2 : Int32) (μ : MM) (P : MM → Prop) : Prop :=
  (∃ (v : Int32) (μ2 : MM), f_Ro_thing NN x1 x2 μ = some (v, μ) ∧ f_Mo_thing NN x1 x2 (mm_J μ 376 0 v.toInt64) = some (v, μ2) ∧ f_Mo_thrown NN μ2 = some (0, μ2) ∧ μ2.2 376 0 = v.toInt64 ∧ P μ2) ∨
  (∃ (r v : Int32) (μ2 : MM), f_Co_isThing 0 23 x1 μ = some (r, μ) ∧ (r = 0 ∨ x2 < 0 ∨ ¬ x2 ≤ 2) ∧ f_Mo_thing NN x1 x2 μ = some (v, μ2) ∧ f_Mo_thrown NN μ2 = some (1, μ2) ∧ P μ2)
theorem Rel_both {k : Nat} {μ : MM} {v : Int32} (h : Rel k μ μ) : Rel (k + 6) (mm_I μ 355 0 v) (mm_I μ 355 0 v) := Rel_k (Rel_c (Rel_t h) (fun a ha => gI_o (by omega))) (by omega)
theorem op_thing {k : Nat} (x1 x2 : Int32) (μ : MM) (h : Rel k μ μ) : TH x1 x2 μ (fun μ2 => Rel (k + 6) μ2 μ2) := by
  obtain ⟨nc, nt, hL, hM⟩ := Rel_L h
  obtain ⟨hm27, hm26, hW, hT, hF, hnc, hnt⟩ := id hM
  have hpm := hL.1.2.2.2.2.1
  have hbad : ∀ μ0 : MM, f_Mo_thing_B25 NN x1 x2 μ0 = some (0, mm_I μ0 355 0 1) := fun μ0 => by
    unfold f_Mo_thing_B25 f_Mo_thing_B26
    rw [wr_e, gI_s, if_pos rfl, if_neg (by decide)]
  have hthr : f_Mo_thrown NN (mm_I μ 355 0 1) = some (1, mm_I μ 355 0 1) := by
    unfold f_Mo_thrown
    rw [gI_s, if_pos rfl]
  have hout : ∀ hx : x1 < 0 ∨ nI nt ≤ x1, TH x1 x2 μ (fun μ2 => Rel (k + 6) μ2 μ2) := fun hx => by
    refine Or.inr ⟨0, 0, mm_I μ 355 0 1, co_isThing_f (N := 0) hL.1 hx, Or.inl rfl, ?_, hthr, Rel_both h⟩
    unfold f_Mo_thing
    rw [mo_isThing_f hm26 hx, ob_e, if_pos (show nI 0 = (0 : Int32) from rfl), hbad]
  rcases pk_ix x1 (n := nt) (by omega) with hx | hx | ⟨j, hj, rfl⟩
  · exact hout (Or.inl hx)
  · exact hout (Or.inr hx)
  · have hin := mo_isIn (N := NN) (a := 0) (b := 2) (x := x2) (μ := μ) (by decide) (by decide)
    rcases arg_in x2 (n := 2) (by decide) with hx | hx | ⟨w, hw, rfl⟩
    · refine Or.inr ⟨1, 0, mm_I μ 355 0 1, co_isThing_t (N := 0) hL.1 hj, Or.inr (Or.inl hx), ?_, hthr, Rel_both h⟩
      unfold f_Mo_thing
      rw [mo_isThing_t hm26 hnt hj, ob_e, if_neg (show ¬ nI 1 = (0 : Int32) by decide), L_0, L_2, hin, mo_in_f (Or.inl hx), ob_e, if_pos (show bI false = (0 : Int32) from rfl), hbad]
    · refine Or.inr ⟨1, 0, mm_I μ 355 0 1, co_isThing_t (N := 0) hL.1 hj, Or.inr (Or.inr ?_), ?_, hthr, Rel_both h⟩
      · intro q
        have q : x2 ≤ nI 2 := q
        rw [fa_le] at q
        rw [fa_lt] at hx
        omega
      · unfold f_Mo_thing
        rw [mo_isThing_t hm26 hnt hj, ob_e, if_neg (show ¬ nI 1 = (0 : Int32) by decide), L_0, L_2, hin, mo_in_f (Or.inr hx), ob_e, if_pos (show bI false = (0 : Int32) from rfl), hbad]
    · obtain ⟨et, et2, em, em2⟩ := hT j hj
      have hco := co_cardOver (N := NN) (x := nI j) (by decide) hL
      have key : ∀ v : Int32, f_Ro_thing NN (nI j) (nI w) μ = some (v, μ) → (∀ μ0 : MM, μ0.1 = μ.1 → f_Mo_thing_B26 NN (nI j) (nI w) 0 μ0 = some (v, mm_I μ0 355 0 0)) → TH (nI j) (nI w) μ (fun μ2 => Rel (k + 6) μ2 μ2) := fun v h1 h2 => by
        refine Or.inl ⟨v, mm_I (mm_J μ 376 0 v.toInt64) 355 0 0, h1, ?_, ?_, ?_, ?_⟩
        · have hin2 := mo_isIn (N := NN) (a := 0) (b := 2) (x := nI w) (μ := mm_J μ 376 0 v.toInt64) (by decide) (by decide)
          unfold f_Mo_thing
          rw [mo_isThing_t (μ := mm_J μ 376 0 v.toInt64) hm26 hnt hj, ob_e, if_neg (show ¬ nI 1 = (0 : Int32) by decide), L_0, L_2, hin2, mo_in_t (by omega) hw (by decide), ob_e, if_neg (show ¬ bI true = (0 : Int32) by decide)]
          exact h2 _ rfl
        · unfold f_Mo_thrown
          rw [gI_s, if_pos rfl]
        · rw [gI2, gJ, if_pos rfl, if_pos rfl]
        · exact Rel_both (μ := mm_J μ 376 0 v.toInt64) h
      have hro : ∀ v, (if nI w = (0 : Int32) then gd (inb (nI j) 8) (some (μ.1 24 (Int32.toNatClampNeg (nI j)), μ)) else (if nI w = (1 : Int32) then gd (inb (nI j) 8) (some (μ.1 25 (Int32.toNatClampNeg (nI j)), μ)) else f_Co_cardOver NN 23 (nI j) μ)) = some (v, μ) → f_Ro_thing NN (nI j) (nI w) μ = some (v, μ) := fun v hv => by
        unfold f_Ro_thing
        rw [co_isThing_t hL.1 hj, ob_e, if_neg (show ¬ nI 1 = (0 : Int32) by decide), if_neg (nI_pos (by omega)), if_pos (show nI w ≤ (2 : Int32) from nI_le hw (by decide))]
        exact hv
      rcases (show w = 0 ∨ w = 1 ∨ w = 2 by omega) with rfl | rfl | rfl
      · refine key (nI (pN (μ.1 362) j)) (hro _ ?_) (fun μ0 e0 => ?_)
        · rw [if_pos (show nI 0 = (0 : Int32) from rfl), gd_in (by omega) (by omega), nI_clamp (by omega), (hpm j hj).1, et]
        · unfold f_Mo_thing_B26
          rw [wr_e, gI_s, if_pos rfl, if_pos (by decide), if_neg (by decide), l_2, pk_mul, nI_add, gd_in (by omega) (by omega), nI_clamp (by omega), gI_o (by decide), e0, Nat.add_zero, et]
      · refine key (nI (mN (μ.1 362) j)) (hro _ ?_) (fun μ0 e0 => ?_)
        · rw [if_neg (show ¬ nI 1 = (0 : Int32) by decide), if_pos (show nI 1 = (1 : Int32) from rfl), gd_in (by omega) (by omega), nI_clamp (by omega), (hpm j hj).2, em]
        · unfold f_Mo_thing_B26
          rw [wr_e, gI_s, if_pos rfl, if_pos (by decide), if_neg (by decide), l_2, pk_mul, nI_add, gd_in (by omega) (by omega), nI_clamp (by omega), gI_o (by decide), e0, em]
      · refine key (oI (ovr (μ.1 368) nc (nI j))) (hro _ ?_) (fun μ0 e0 => ?_)
        · rw [if_neg (show ¬ nI 2 = (0 : Int32) by decide), if_neg (show ¬ nI 2 = (1 : Int32) by decide)]
          exact hco
        · unfold f_Mo_thing_B26
          rw [wr_e, gI_s, if_pos rfl, if_pos (by decide), if_pos (show nI 2 = (2 : Int32) from rfl), mo_cardOver (N := NN) (by decide) n_368 (μ := mm_I μ0 355 0 0) (nc := nc) (by rw [gI_s, if_neg (by decide), e0]; exact hm27) hnc, ob_e, gI_o (by decide), e0]
theorem nt_a : Cond.isRef (.static Bundle.tN "UNASSIGNED_STACK" Bundle.steD) ∈ NF_l := by decide +kernel
theorem nt_b : Cond.isRef (.static Bundle.tN "SUPPRESSED_SENTINEL" Bundle.listD) ∈ NF_l := by decide +kernel
theorem nt_c : Cond.laysStatic Bundle.tN "UNASSIGNED_STACK" Bundle.steD ∈ lw_tbl := by decide +kernel
theorem nt_d : Cond.laysStatic Bundle.tN "SUPPRESSED_SENTINEL" Bundle.listD ∈ lw_tbl := by decide +kernel
theorem TZ_start {s : State} {args : Array Value} (hts : ∀ w ∈ lw_tbl, w.before args s = true) (hgv : (Jvm.Cond.and given_1 narrow_1).before args s = true) : TZ (fun q => s.heap.size ≤ q) s s.heap := by
  have hs : ∀ c ∈ NF_l, c.before args s = true := flat_of_before _ hgv
  exact ⟨tz_of (hts _ nt_c) (hs _ nt_a) (fun a h => Nat.not_le.mpr h), tz_of (hts _ nt_d) (hs _ nt_b) (fun a h => Nat.not_le.mpr h)⟩
set_option maxHeartbeats 4000000 in
theorem lc_thing {p : Program} {l : Launch} {e : Env} {s : State} {m : MethodId} {below : List Frame} {meth : Method} {c : Code} {b L : Nat} {xs : Nat → Int32} {ad : Nat → Nat} {tc : Nat → ClassId} {D : va_G} {i cells slots : Nat} {μ : MM} {P : MM → Prop} (hfl : l.flags = pinnedFlags ++ [noTraceFlag]) (hLx : Lx p s m meth c b L xs ad tc D) (hc9 : cells + 8 ≤ 601024 ∧ slots + 64 ≤ 7293034) (hi : i + 6 ≤ L) (hst : TH (xs (i + 1)) (xs (i + 2)) μ P) (hk : ∀ (c2 s2 : Nat) (μ2 : MM), c2 ≤ cells + 1 → s2 ≤ slots + 8 → P μ2 → Lh p l e s m below meth c b ad tc D i c2 s2 1550 [] μ2) : Lh p l e s m below meth c b ad tc D i cells slots 376 [] μ := by
  refine lh_al1 hLx dL_law_376 ?_
  refine lh_al0 hLx dL_law_377 ?_
  refine lh_il hLx dL_law_378 ?_
  refine lh_ic (v := nI 1) hLx dL_law_380 (by decide) ?_
  refine lh_iadd hLx dL_law_381 ?_
  refine lh_sld hLx dL_law_382 (li_in hi hLx.2.2.2 (by decide)) (li_at hi hLx.2.2.2 (by decide)) ?_
  refine lh_al0 hLx dL_law_383 ?_
  refine lh_il hLx dL_law_384 ?_
  refine lh_ic (v := nI 2) hLx dL_law_386 (by decide) ?_
  refine lh_iadd hLx dL_law_387 ?_
  refine lh_sld hLx dL_law_388 (li_in hi hLx.2.2.2 (by decide)) (li_at hi hLx.2.2.2 (by decide)) ?_
  refine lh_al3 hLx dL_law_389 ?_
  intro H locs la hP hD hS hl
  have hZ0 : TZ (fun q => s.heap.size ≤ q) s s.heap := TZ_start hLx.1.2.2.2.2.2.1 hLx.1.2.2.2.2.2.2.2.2.2
  rcases hst with ⟨v, μ2, h1, h2, h3, h4, h5⟩ | ⟨r, v, μ2, h1, h2, h3, h4, h5⟩
  · refine wl_thing (as := [av_r 0, av_i (xs (i + 1)), av_i (xs (i + 2)), av_r 376]) (Po := po_i 0 (mm_J μ 376 0 v.toInt64)) hLx ⟨by omega, by omega⟩ hZ0 (fun sz => tL_good h1) rfl hP hD hS hl.1 (fun r9 μ9 H1 locs1 hp hP1 hS1 => ?_)
    rw [hp.1, hp.2] at *
    exact wl_tail (k := 0) hLx ⟨by omega, by omega⟩ hi h2 h3 (fun _ => h4) hP1 (fun μ0 => wo_D hD) hS1 hl (hk (cells + 1) (slots + 6) μ2 (Nat.le_refl _) (by omega) h5)
  · refine wl_thing (as := [av_r 0, av_i (xs (i + 1)), av_i (xs (i + 2)), av_r 376]) (Po := po_i 1 μ) hLx ⟨by omega, by omega⟩ hZ0 (fun sz => tL_bad hfl h1 h2) rfl hP hD hS hl.1 (fun r9 μ9 H1 locs1 hp hP1 hS1 => ?_)
    rw [hp.1, hp.2] at *
    exact wl_tail (k := 1) hLx ⟨by omega, by omega⟩ hi h3 h4 (fun q => absurd q (by decide)) hP1 (fun μ0 => wo_D hD) hS1 hl (hk (cells + 1) (slots + 6) μ2 (Nat.le_refl _) (by omega) h5)
