/-! ===== the call thing where it answers ===== -/
def f_Ro_thing (N : Nat) (x1 : Int32) (x2 : Int32) (μ : MM) : Option (Int32 × MM) :=
  ob (f_Co_isThing N 23 x1 μ) fun t μ1 => (if t = 0 then none else (if x2 < 0 then none else (if x2 ≤ 2 then (if x2 = 0 then gd (inb x1 8) (some (μ1.1 24 (Int32.toNatClampNeg x1), μ1)) else (if x2 = 1 then gd (inb x1 8) (some (μ1.1 25 (Int32.toNatClampNeg x1), μ1)) else f_Co_cardOver N 23 x1 μ1)) else none)))
theorem fg_RX11_190 : FG RX11 190 1 2 2 := ⟨⟨_, rfl, by decide, by decide +kernel⟩, by decide, rfl⟩
theorem s_Ro_thing {D : Nat} (hD : 4 ≤ D) (N : Nat) {x1 x2 : Int32} {μ : MM} {r : Int32} {μr : MM} (h : f_Ro_thing N x1 x2 μ = some (r, μr)) : Cl D mX11_thing [av_r 0, av_i x1, av_i x2] μ (po_i r μr) := by
  obtain ⟨d, rfl⟩ : ∃ d, D = d + 1 := ⟨D - 1, by omega⟩
  refine Cl_of pn_X11 (Nat.le_of_ble_eq_true rfl) ?_
  show Sm (d + 1) mX11_thing 0 [some (av_r 0), some (av_i x1), some (av_i x2)] [] μ (po_i r μr)
  unfold f_Ro_thing at h
  refine sm_aload_n dX11_thing_0 rfl rfl ?_
  refine sm_getR dX11_thing_1 fg_RX11_35 k_0 (rf_11_3 k_0) ?_
  refine sm_iload_n dX11_thing_4 rfl rfl ?_
  obtain ⟨t1, μ1, g1, h⟩ := ob_some h
  refine sm_callV dX11_thing_5 cv_X1_isThing ml_RX11_180 k_23 rfl rfl (by decide) (as := [av_i x1]) rfl (Nat.le_of_ble_eq_true rfl) rfl (s_Co_isThing (D := d) (by omega) N k_23 g1) (fun r9 μ9 hp => ?_)
  rw [hp.1, hp.2]
  clear hp r9 μ9
  refine sm_if_eq (tgt := 20) dX11_thing_8 (by decide) (fun g2 => ?_) (fun g2 => ?_)
  · rw [if_pos g2] at h; cases h
  · rw [if_neg g2] at h
    refine sm_iload_n dX11_thing_11 rfl rfl ?_
    refine sm_if_lt (tgt := 20) dX11_thing_12 (by decide) (fun g3 => ?_) (fun g3 => ?_)
    · rw [if_pos g3] at h; cases h
    · rw [if_neg g3] at h
      refine sm_iload_n dX11_thing_15 rfl rfl ?_
      refine sm_iconst (v := 2) dX11_thing_16 (by decide) ?_
      refine sm_icmp_le (tgt := 30) dX11_thing_17 (by decide) (fun g4 => ?_) (fun g4 => ?_)
      · rw [if_pos g4] at h
        refine sm_iload_n dX11_thing_30 rfl rfl ?_
        refine sm_if_ne (tgt := 44) dX11_thing_31 (by decide) (fun g5 => ?_) (fun g5 => ?_)
        · rw [if_neg g5] at h
          refine sm_iload_n dX11_thing_44 rfl rfl ?_
          refine sm_iconst (v := 1) dX11_thing_45 (by decide) ?_
          refine sm_icmp_ne (tgt := 61) dX11_thing_46 (by decide) (fun g6 => ?_) (fun g6 => ?_)
          · rw [if_neg g6] at h
            refine sm_aload_n dX11_thing_61 rfl rfl ?_
            refine sm_getR dX11_thing_62 fg_RX11_35 k_0 (rf_11_3 k_0) ?_
            refine sm_iload_n dX11_thing_65 rfl rfl ?_
            refine sm_callV dX11_thing_66 cv_X1_cardOver ml_RX11_196 k_23 rfl rfl (by decide) (as := [av_i x1]) rfl (Nat.le_of_ble_eq_true rfl) rfl (s_Co_cardOver (D := d) (by omega) N k_23 h) (fun r9 μ9 hp => ?_)
            rw [hp.1, hp.2]
            clear hp r9 μ9
            exact sm_ret_i (st := []) dX11_thing_69 rfl ⟨rfl, rfl⟩
          · have g6' : x2 = 1 := g6
            rw [if_pos g6'] at h
            obtain ⟨g7, h⟩ := gd_some h
            cases h
            refine sm_aload_n dX11_thing_49 rfl rfl ?_
            refine sm_getR dX11_thing_50 fg_RX11_35 k_0 (rf_11_3 k_0) ?_
            refine sm_getR dX11_thing_53 fg_RX11_193 k_23 (rf_1_3 k_23) ?_
            refine sm_iload_n dX11_thing_56 rfl rfl ?_
            refine sm_iald (j := (Int32.toNatClampNeg x1)) dX11_thing_57 k_25 (in_sz n_25 g7) rfl ?_
            refine sm_goto (tgt := 69) dX11_thing_58 (by decide) ?_
            exact sm_ret_i (st := []) dX11_thing_69 rfl ⟨rfl, rfl⟩
        · have g5' : x2 = 0 := g5
          rw [if_pos g5'] at h
          obtain ⟨g7, h⟩ := gd_some h
          cases h
          refine sm_aload_n dX11_thing_34 rfl rfl ?_
          refine sm_getR dX11_thing_35 fg_RX11_35 k_0 (rf_11_3 k_0) ?_
          refine sm_getR dX11_thing_38 fg_RX11_190 k_23 (rf_1_2 k_23) ?_
          refine sm_iload_n dX11_thing_41 rfl rfl ?_
          refine sm_iald (j := (Int32.toNatClampNeg x1)) dX11_thing_42 k_24 (in_sz n_24 g7) rfl ?_
          exact sm_ret_i (st := []) dX11_thing_43 rfl ⟨rfl, rfl⟩
      · rw [if_neg g4] at h; cases h
theorem cv_X11_thing : CV mX11_thing 2 := ⟨(List.mem_filter.mp tl_2).1, (List.mem_filter.mp tl_1).1, (List.mem_filter.mp tl_3).1, (List.mem_filter.mp tl_5).1, by decide +kernel, by decide⟩
abbrev mL_thing : ME := (yL_thing, cL_thing, 5, some .int)
theorem sL_thing {D : Nat} (hD : 5 ≤ D) (N : Nat) {x1 x2 : Int32} {μ : MM} {r : Int32} {μr : MM} (h : f_Ro_thing N x1 x2 μ = some (r, μr)) : Sm D mL_thing 0 [some (av_r 0), some (av_i x1), some (av_i x2), some (av_r 376), none] [] μ (po_i 0 (mm_J μr 376 0 r.toInt64)) := by
  obtain ⟨d, rfl⟩ : ∃ d, D = d + 1 := ⟨D - 1, by omega⟩
  refine sm_aload_n dL_thing_0 rfl rfl ?_
  refine sm_iconst (v := 0) dL_thing_1 (by decide) ?_
  refine sm_aload_n dL_thing_2 rfl rfl ?_
  refine sm_iload_n dL_thing_3 rfl rfl ?_
  refine sm_iload_n dL_thing_4 rfl rfl ?_
  refine sm_callV dL_thing_5 cv_X11_thing (List.mem_filter.mp tl_4).1 k_0 rfl rfl (by decide) (as := [av_i x1, av_i x2]) rfl (by decide) rfl (s_Ro_thing (D := d) (by omega) N h) (fun r9 μ9 hp => ?_)
  rw [hp.1, hp.2]
  clear hp r9 μ9
  refine sm_i2l dL_thing_8 ?_
  refine sm_last (j := 0) dL_thing_9 k_376 (by rw [n_376]; exact vp_in_nI (n := 0) (by decide) (by decide)) (by decide) ?_
  refine sm_goto (tgt := 17) dL_thing_10 (by decide) ?_
  refine sm_iconst (v := 0) dL_thing_17 (by decide) ?_
  exact sm_ret_i (st := []) dL_thing_18 rfl ⟨rfl, rfl⟩
/-- a method with handlers, by its walk -/
theorem Met_ofWith {l : Launch} {y : MethodName} {ws ws' : List Cond} {rm : Room} {Pc : Array Value → State → Prop} {Qc : Array Value → State → Outcome → State → Prop} {mc ms : Nat} {free : Addr → Prop} {cc : ByteArray} {maxL : Nat} {ret : Option FieldType} {hs : List (Nat × Nat × Nat × Nat)}
    (hy : plainName y.cls = true) (hw : ws = Cond.codeWith y cc maxL ret hs :: ws')
    (body : ∀ p e s m args below meth c s₁, BodyLoose p l y (headSpec ws rm) cc maxL ret e s m args below meth c s₁ → c.maxLocals = maxL → c.exceptionTable.toList = tableOf hs → Pc args s →
      W p l e (headSpec ws rm).room s m args below meth c s.heap [] 0 0 (MQ below Qc args s mc ms free) (entryFrame m args maxL)) : Met l y ws rm Pc Qc mc ms free := by
  refine MetFree.of_bodyS (code := cc) (maxLocals := maxL) (ret := ret) hy ?_ ?_
  · intro args s m h hn
    obtain ⟨m', meth, c, hn', h1, h2, h3, h4, h5, h6, h7, -⟩ := Cond.codeWith_spec (atoms_spec (ws := ws) h _ (by rw [hw]; exact List.mem_cons_self))
    cases hn.symm.trans hn'
    exact ⟨meth, c, h1, h2, h3, h4, h6, h7⟩
  · intro p e s m args below meth c s₁ B hml hP _
    have hh0 : s₁.heap = s.heap := by rw [B.state]; rfl
    obtain ⟨m', meth', c', hn', h1, h2, h3, h4, h5, h6, h7, -⟩ := Cond.codeWith_spec (atoms_spec (ws := ws) B.pre _ (by rw [hw]; exact List.mem_cons_self))
    cases B.named.symm.trans hn'
    cases B.method.symm.trans h1
    cases (Stand.of_body B).code.symm.trans h2
    obtain ⟨t, a1, o, b1, b2, b3⟩ := body p e s m args below meth c s₁ B hml (by rw [← h5, table_eq]) hP s₁ hh0 (Stand.of_body B)
    exact ⟨t, o, a1, b1, b2, ⟨b3.1, b3.2⟩⟩
def tL_ws : List Cond := Cond.codeWith yL_thing cL_thing 5 (some .int) [(0, 10, 13, 13)] :: (GW_w ++ th_B)
abbrev tL_rm : Room := { frames := 50, cells := 1, slots := 6, locals := 3200 }
theorem pn_L : plainName yL_thing.cls = true := by decide +kernel
theorem tL_good {l : Launch} {N : Nat} {ad : Nat → Nat} {tc : Nat → ClassId} {D : va_G} {sz : Nat} {x1 x2 r : Int32} {μ μr : MM} (h : f_Ro_thing N x1 x2 μ = some (r, μr)) : Met l yL_thing tL_ws tL_rm (Pc_t ad tc D sz [av_r 0, av_i x1, av_i x2, av_r 376] μ) (Qc_r ad tc D (va_A (wo_w ad tc μ) sz) (po_i 0 (mm_J μr 376 0 r.toInt64))) 1 6 (va_A (wo_w ad tc μ) sz) := by
  refine Met_ofWith (cc := cL_thing) (maxL := 5) (ret := some .int) (hs := [(0, 10, 13, 13)]) pn_L rfl ?_
  intro p e s m args below meth c s₁ B hml htab hPc
  obtain ⟨⟨rfl, hsz, hP, hK, hD0, hro⟩, hZ⟩ := hPc
  have hts0 := atoms_spec (ws := tL_ws) B.pre
  have hown : s.vm.findClass RL = some m.cls := findClass_of_methodNamed B.named
  subst hsz
  rw [lg_entry_eq]
  have hw := sL_thing (D := 50) (by decide) N h p l e (headSpec tL_ws tL_rm).room s m _ below meth c ad tc D (va_A (wo_w ad tc μ) s.heap.size) ⟨B.exec, B.bytes, hml, B.returns, B.notSynchronized, hown, fun w hw => hts0 w (List.mem_cons_of_mem _ (List.mem_append_left _ hw)), hK, hro, fun q hq => Or.inr hq, Nat.le_refl _, Nat.le_refl _⟩ s.heap [] _ hP hD0.self va_S.rf (en_ok ad [av_r 0, av_i x1, av_i x2, av_r 376] 5 (Nat.le_of_ble_eq_true rfl))
  intro T hT X
  obtain ⟨t, h1, o, h2, h3, h4, L, hF, hLf⟩ := hw T hT X
  obtain ⟨hv, hW₂, e2, q2, q3, q4, q5, q6⟩ := hF
  exact ⟨t, h1, o, h2, h3, h4, L, ⟨hv, hW₂, e2, q2, by omega, q4, by omega, q6⟩, hLf⟩
theorem tL_bad {l : Launch} (hfl : l.flags = pinnedFlags ++ [noTraceFlag]) {ad : Nat → Nat} {tc : Nat → ClassId} {D : va_G} {sz : Nat} {x1 x2 r : Int32} {μ : MM} (hr : f_Co_isThing 0 23 x1 μ = some (r, μ)) (hbad : r = 0 ∨ x2 < 0 ∨ ¬ x2 ≤ 2) : Met l yL_thing tL_ws tL_rm (Pc_t ad tc D sz [av_r 0, av_i x1, av_i x2, av_r 376] μ) (Qc_r ad tc D (va_A (wo_w ad tc μ) sz) (po_i 1 μ)) 1 6 (va_A (wo_w ad tc μ) sz) := by
  refine Met_ofWith (cc := cL_thing) (maxL := 5) (ret := some .int) (hs := [(0, 10, 13, 13)]) pn_L rfl ?_
  intro p e s m args below meth c s₁ B hml htab hPc
  obtain ⟨⟨rfl, hsz, hP, hK, hD0, hro⟩, hZ⟩ := hPc
  have hts0 := atoms_spec (ws := tL_ws) B.pre
  have hts : ∀ w ∈ GW_w, w.before (([av_r 0, av_i x1, av_i x2, av_r 376] : List AV).map (av_V ad)).toArray s = true := fun w hw => hts0 w (List.mem_cons_of_mem _ (List.mem_append_left _ hw))
  have hB : ∀ w ∈ th_B, w.before (([av_r 0, av_i x1, av_i x2, av_r 376] : List AV).map (av_V ad)).toArray s = true := fun w hw => hts0 w (List.mem_cons_of_mem _ (List.mem_append_right _ hw))
  have hown : s.vm.findClass RL = some m.cls := findClass_of_methodNamed B.named
  have hx := B.exec
  have hb := B.bytes
  have hlk := B.notSynchronized
  subst hsz
  rw [lg_entry_eq]
  have hl := en_ok ad [av_r 0, av_i x1, av_i x2, av_r 376] 5 (Nat.le_of_ble_eq_true rfl)
  generalize (lg_sl (([av_r 0, av_i x1, av_i x2, av_r 376] : List AV).map (av_V ad)) ++ List.replicate (5 - (lg_sl (([av_r 0, av_i x1, av_i x2, av_r 376] : List AV).map (av_V ad))).length) Slot.unset).toArray = la at hl ⊢
  refine lv_aload_n hx hb dL_thing_0 rfl (hl.2.2 3 (av_r 376) rfl) ?_
  refine lv_iconst (v := 0) hx hb dL_thing_1 (by decide) ?_
  refine lv_aload_n hx hb dL_thing_2 rfl (hl.2.2 0 (av_r 0) rfl) ?_
  refine lv_iload_n hx hb dL_thing_3 rfl (hl.2.2 1 (av_i x1) rfl) ?_
  refine lv_iload_n hx hb dL_thing_4 rfl (hl.2.2 2 (av_i x2) rfl) ?_
  refine th_call (rest := [.int 0, .ref (ad 376)]) hx hb hml htab hown hts hB hK hP hD0 hro hZ hfl hr hbad ⟨by decide, by decide, by decide, by decide⟩ hl.1 (by show 1 + (1 + 0) ≤ 8; decide) (fun H1 a hold hgr => ?_)
  refine lv_astore hx hb dL_thing_13 (lo_has hl) (by decide) rfl (fun la2 h2 => ?_)
  refine lv_iconst (v := 1) hx hb dL_thing_15 (by decide) ?_
  refine W.iret hx hb B.returns (fun t ht hW => ⟨⟨some (av_i 1), μ, rfl, ⟨rfl, rfl⟩, ?_⟩, ?_, fun q hq _ => ?_⟩) (fun q hq => by cases hq) dL_thing_16 hlk
  · rw [ht]; exact hP.kept (fun k x hx => hold x.1 ((hP k x hx).lt))
  · rw [ht]; exact hgr
  · rw [ht]; exact hold q hq
