/-! ===== the law's case of thing ===== -/
theorem tm_43 : Cond.methodLink R_law 43 yX12_thing ∈ lw_tbl := by decide +kernel
theorem tm_44 : Cond.methodLink R_law 44 yX12_thrown ∈ lw_tbl := by decide +kernel
theorem tv_thing : CV mX12_thing 2 := ⟨by decide +kernel, by decide +kernel, by decide +kernel, by decide +kernel, by decide +kernel, by decide⟩
theorem tv_thrown : CV mX12_thrown 0 := ⟨by decide +kernel, by decide +kernel, by decide +kernel, by decide +kernel, by decide +kernel, by decide⟩
theorem lg_same (x : Int64) : lg_cmp x x = 0 := by
  unfold lg_cmp
  rw [if_neg (show ¬ x > x from fun h => by rw [gt_iff_lt, Int64.lt_iff_toInt_lt] at h; omega), if_pos rfl]
theorem wl_call {p : Program} {l : Launch} {e : Env} {s : State} {m : MethodId} {below : List Frame} {meth : Method} {c : Code} {b L : Nat} {xs : Nat → Int32} {ad : Nat → Nat} {tc : Nat → ClassId} {D : va_G} {cells slots pc : Nat} {Q : State → Prop} {rest stk : List Value} {μ : MM} {Po1 : Option AV → MM → Prop} {me' : ME} {as : List AV} {a n ix ci : Nat} {q : vw_C} {la : Array Slot} {H : Heap} {locs : List Loc} (hLx : Lx p s m meth c b L xs ad tc D) (hc9 : cells ≤ 601024 ∧ slots ≤ 7293034) (hd : decode code pc = .ok (.invokevirtual ix, 3)) (hcv : CV me' n) (hlk : Cond.methodLink R_law ix me'.1 ∈ lw_tbl) (ha : sh_k a = ci) (hq : vwCl[ci]? = some q) (hqn : q.1 = me'.1.cls) (hci : ci < 20) (hn : as.length = n) (hst : (rest.map fun v => v.category).sum ≤ 8) (hs : (as.map (av_V ad)).reverse ++ .ref (ad a) :: rest = stk) (hcl : Cl 200 me' (av_r a :: as) μ Po1)
    (hP : va_P D vwCl (wo_w ad tc μ) H) (hD : va_D (fun q => s.heap.size ≤ q) (wo_w ad tc μ)) (hS : va_S (fun q => s.heap.size ≤ q) s.heap H locs) (hsize : la.size = 7)
    (kk : ∀ (r : Option AV) (μ1 : MM) (H1 : Heap) (locs1 : List Loc), Po1 r μ1 → va_P D vwCl (wo_w ad tc μ1) H1 → va_S (fun q => s.heap.size ≤ q) s.heap H1 locs1 → W p l e room_1 s m #[Value.ref b] below meth c H1 locs1 cells slots Q (F0 m (pc + 3) la ((r.map (av_V ad)).toList ++ rest))) : W p l e room_1 s m #[Value.ref b] below meth c H locs cells slots Q (F0 m pc la stk) := by
  subst hs
  obtain ⟨⟨hx, hb, hr, hml, hown, hts, hX, hbl, hlocks, hgv⟩, hK, hro, hL⟩ := hLx
  have hA : ∀ q : Nat, s.heap.size ≤ q → (fun q : Nat => s.heap.size ≤ q) q := fun _ h => h
  have hts2 : ∀ w ∈ GW_w, w.before #[Value.ref b] s = true := fun w hw => hts w (List.mem_filter.mp hw).1
  obtain ⟨v1, v2, v3, v4, v5, v6⟩ := hcv
  have hpre : ∀ U : State, U.heap = H → s.WarmedH U.vm → Pc_c ad tc D H.size (av_r a :: as) μ ((av_r a :: as).map (av_V ad)).toArray U := by
    intro U hU hW
    refine ⟨rfl, by rw [hU], by rw [hU]; exact hP, va_K.moved hW.alike hK, hD.weaken (fun _ _ _ _ => trivial), ?_⟩
    rw [hU]
    exact ro_mv hW (ro_narrow (ro_kept hro hS.2.1) (wo_A hD hS hA))
  have hrun := va_runV (cc := code) (nL := 7) (Ts := GW_w) (own := R_law) (index := ix) (g := F0 m pc la ((as.map (av_V ad)).reverse ++ .ref (ad a) :: rest)) (locs := locs) (cells := cells) (slots := slots) (H := H) (R := room_1) (below := below) (meth := meth) (args := #[Value.ref b]) (p := p) (e := e) (c := c) (m := m) (s := s) (b := ad a) (As := as.map (av_V ad)) (rest := rest) (C := me'.1.cls)
    ⟨hx, hb, hml, hown, hts2⟩ (hcl l ad tc D H.size)
    ⟨callB_of n hts2 (GW_good v1) rfl rfl rfl (hts _ v4) (hts _ hlk) v5 ⟨(by show 200 + 1 ≤ 2048; decide), by show 8 + (me'.2.2.1 + 11) + 64 * 200 ≤ 84000; omega⟩, hts _ v2, hts _ v3⟩
    ⟨Pc_blind, by rw [← hqn]; exact va_recv hK hP (ci := ci) (q0 := a) hq (ce_ob ha hci), hpre⟩ rfl (by rw [List.length_map]; exact hn) hsize rfl (lv_room hst) hd ⟨hc9.1, hc9.2⟩
  intro T hT X
  obtain ⟨v, st₀, t, T', L2, h0, X', hL2, e1, e2, ⟨⟨r, μ1, hv, hp, hb9⟩, hz, hk⟩, stp⟩ := hrun T hT X
  cases hv
  rw [h0] at hz hk
  obtain ⟨t2, a1, b1⟩ := kk r μ1 T'.heap (locs ++ L2) hp (by rw [e1]; exact hb9)
    ⟨Nat.le_trans hS.1 (by rw [e1]; exact hz), fun q h1 h2 => by rw [e1, hk q (Nat.lt_of_lt_of_le h1 hS.1) (fun z => h2 (wo_A hD hS hA q z))]; exact hS.2.1 q h1 h2, fun q hq => by
      rcases List.mem_append.mp hq with h | h
      · exact hS.2.2 q h
      · exact wo_A hD hS hA _ (hL2 q h)⟩ T' rfl X'
  exact ⟨t2, stp t2 a1, b1⟩
set_option maxHeartbeats 4000000 in
theorem wl_tail {p : Program} {l : Launch} {e : Env} {s : State} {m : MethodId} {below : List Frame} {meth : Method} {c : Code} {b L : Nat} {xs : Nat → Int32} {ad : Nat → Nat} {tc : Nat → ClassId} {D : va_G} {i cells slots : Nat} {k v : Int32} {μ1 μ2 : MM} {la : Array Slot} {H : Heap} {locs : List Loc} (hLx : Lx p s m meth c b L xs ad tc D) (hc9 : cells ≤ 601024 ∧ slots ≤ 7293034) (hi : i + 6 ≤ L) (h1 : f_Mo_thing NN (xs (i + 1)) (xs (i + 2)) μ1 = some (v, μ2)) (h2 : f_Mo_thrown NN μ2 = some (k, μ2)) (h3 : k = 0 → μ2.2 376 0 = v.toInt64)
    (hP : va_P D vwCl (wo_w ad tc μ1) H) (hD : ∀ μ, va_D (fun q => s.heap.size ≤ q) (wo_w ad tc μ)) (hS : va_S (fun q => s.heap.size ≤ q) s.heap H locs) (hl : lv_has la 7 [(0, .ref b), (1, .ref (ad 0)), (2, .ref (ad 355)), (3, .ref (ad 376)), (4, .int (nI i))]) (kk : Lh p l e s m below meth c b ad tc D i cells slots 1550 [] μ2) :
    W p l e room_1 s m #[Value.ref b] below meth c H locs cells slots (lw_Z below #[Value.ref b] s) (F0 m 393 la [.int k]) := by
  obtain ⟨⟨hx, hb, hr, hml, hown, hts, hX, hbl, hlocks, hgv⟩, hK, hro, hL⟩ := id hLx
  refine lv_istore (lv' := [(5, .int k), (0, .ref b), (1, .ref (ad 0)), (2, .ref (ad 355)), (3, .ref (ad 376)), (4, .int (nI i))]) hx hb dL_law_393 hl (by decide) rfl (fun la2 hl2 => ?_)
  refine lv_aload_n hx hb dL_law_395 rfl (lv_at hl2 3 rfl) ?_
  refine lv_aload_n hx hb dL_law_396 rfl (lv_at hl2 1 rfl) ?_
  refine lv_iload hx hb dL_law_397 (lv_at hl2 5 rfl) ?_
  refine lv_iconst (v := nI 1) hx hb dL_law_399 (by decide) ?_
  refine lv_iadd hx hb dL_law_400 ?_
  refine va_sld hx hb hX hbl (Nat.not_le.mpr hbl) hS (li_in hi hL (by decide)) dL_law_401 ?_
  rw [li_at hi hL (by decide)]
  refine lv_aload_n hx hb dL_law_402 rfl (lv_at hl2 1 rfl) ?_
  refine lv_iload hx hb dL_law_403 (lv_at hl2 5 rfl) ?_
  refine lv_iconst (v := nI 2) hx hb dL_law_405 (by decide) ?_
  refine lv_iadd hx hb dL_law_406 ?_
  refine va_sld hx hb hX hbl (Nat.not_le.mpr hbl) hS (li_in hi hL (by decide)) dL_law_407 ?_
  rw [li_at hi hL (by decide)]
  refine wl_call (as := [av_i (xs (i + 1)), av_i (xs (i + 2))]) (rest := []) hLx hc9 dL_law_408 tv_thing tm_43 k_355 rfl rfl (by decide) rfl (by decide) rfl (s_Mo_thing (D := 200) (by decide) NN h1) hP (hD _) hS hl2.1 (fun r9 μ9 H2 locs2 hp hP2 hS2 => ?_)
  rw [hp.1, hp.2] at *
  refine lv_istore (lv' := [(6, .int v), (5, .int k), (0, .ref b), (1, .ref (ad 0)), (2, .ref (ad 355)), (3, .ref (ad 376)), (4, .int (nI i))]) hx hb dL_law_411 hl2 (by decide) rfl (fun la3 hl3 => ?_)
  refine lv_aload_n hx hb dL_law_413 rfl (lv_at hl3 4 rfl) ?_
  refine wl_call (as := []) (rest := []) hLx hc9 dL_law_414 tv_thrown tm_44 k_355 rfl rfl (by decide) rfl (by decide) rfl (s_Mo_thrown (D := 200) (by decide) NN h2) hP2 (hD _) hS2 hl3.1 (fun r9 μ9 H3 locs3 hp3 hP3 hS3 => ?_)
  rw [hp3.1, hp3.2] at *
  refine lv_iload hx hb dL_law_417 (lv_at hl3 1 rfl) ?_
  refine lv_icmp_eq (tgt := 424) hx hb dL_law_419 (by decide) (fun _ => ?_) (fun q => absurd rfl q)
  refine lv_iload hx hb dL_law_424 (lv_at hl3 1 rfl) ?_
  have hend : W p l e room_1 s m #[Value.ref b] below meth c H3 locs3 cells slots (lw_Z below #[Value.ref b] s) (F0 m 441 la3 []) := by
    refine lv_goto (tgt := 1550) hx hb dL_law_441 (by decide) ?_
    exact kk H3 locs3 la3 hP3 (hD _) hS3 (lv_sub hl3 [2, 3, 4, 5, 6] rfl)
  refine lv_if_ne (tgt := 441) hx hb dL_law_426 (by decide) (fun _ => hend) (fun q => ?_)
  have q0 : k = 0 := by first | exact q | exact Decidable.byContradiction q
  refine lv_aload_n hx hb dL_law_429 rfl (lv_at hl3 5 rfl) ?_
  refine lv_iconst (v := nI 0) hx hb dL_law_430 (by decide) ?_
  refine va_lald hx hb hK hP3 376 3 (ce_j k_376) rfl (by rw [n_376]; exact vp_in_nI (by decide) (by decide)) dL_law_431 ?_
  refine lv_iload hx hb dL_law_432 (lv_at hl3 0 rfl) ?_
  refine lv_i2l hx hb dL_law_434 rfl ?_
  refine W.lcmp hx hb dL_law_435 ?_
  rw [show μ2.2 376 (nI 0).toNatClampNeg = v.toInt64 from h3 q0, lg_same]
  exact lv_if_eq (tgt := 441) hx hb dL_law_436 (by decide) (fun _ => hend) (fun q => absurd rfl q)
