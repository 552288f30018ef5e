/-! ===== the call thing where it throws, whole ===== -/
abbrev th_rm : Room := { frames := 10, cells := 1, slots := 6, locals := 640 }
def th_ws : List Cond := Cond.code yX11_thing cX11_thing 3 (some .int) :: (GW_w ++ th_B)
def Pc_t (ad : Nat → Nat) (tc : Nat → ClassId) (D : va_G) (sz : Nat) (as : List AV) (μ : MM) : Array Value → State → Prop := fun a U => Pc_c ad tc D sz as μ a U ∧ TZ (va_A (wo_w ad tc μ) sz) U U.heap
theorem th_met (l : Launch) (hfl : l.flags = pinnedFlags ++ [noTraceFlag]) {ad : Nat → Nat} {tc : Nat → ClassId} {D : va_G} {sz : Nat} {x1 x2 r : Int32} {μ : MM} (hr : f_Co_isThing 0 23 x1 μ = some (r, μ)) (hbad : r = 0 ∨ x2 < 0 ∨ ¬ x2 ≤ 2) : MetFree l yX11_thing (headSpec th_ws th_rm) (Pc_t ad tc D sz [av_r 0, av_i x1, av_i x2] μ) (fun _ _ _ _ _ => True) th_O := by
  refine MetFree.of_bodyS (code := cX11_thing) (maxLocals := 3) (ret := some .int) pn_X11 ?_ ?_
  · intro args s m h hn
    obtain ⟨meth, c, h1, h2, h3, h4, h5, h6, -, -⟩ := Cond.code_spec hn (atoms_spec (ws := th_ws) h _ List.mem_cons_self)
    exact ⟨meth, c, h1, h2, h3, h4, h5, h6⟩
  · intro p e s m args below meth c s₁ B hml hPc _
    obtain ⟨⟨rfl, hsz, hP, hK, hD0, hro⟩, hZ⟩ := hPc
    have hts0 := atoms_spec (ws := th_ws) B.pre
    have hts : ∀ w ∈ GW_w, w.before (([av_r 0, av_i x1, av_i x2] : List AV).map (av_V ad)).toArray s = true := fun w hw => hts0 w (List.mem_cons_of_mem _ (List.mem_append_left _ hw))
    have hB : ∀ w ∈ th_B, w.before (([av_r 0, av_i x1, av_i x2] : List AV).map (av_V ad)).toArray s = true := fun w hw => hts0 w (List.mem_cons_of_mem _ (List.mem_append_right _ hw))
    have hown : s.vm.findClass RX11 = some m.cls := findClass_of_methodNamed B.named
    have hh0 : s₁.heap = s.heap := by rw [B.state]; rfl
    have htab := B.noHandlers (hts0 _ List.mem_cons_self)
    have htr := ShelfD.Launch.traces_off hfl B.admits
    have hx := B.exec
    have hb := B.bytes
    have hlk := B.notSynchronized
    have hstr : vk_R RX11 185 "no such thing, or nothing of that sort is told of it" (ad 2004) s := hro.2.2.2 4 (by decide)
    subst hsz
    have K : W p l e (headSpec th_ws th_rm).room s m (([av_r 0, av_i x1, av_i x2] : List AV).map (av_V ad)).toArray below meth c s.heap [] 0 0 (th_Q below (([av_r 0, av_i x1, av_i x2] : List AV).map (av_V ad)).toArray s) (entryFrame m (([av_r 0, av_i x1, av_i x2] : List AV).map (av_V ad)).toArray 3) := by
      rw [lg_entry_eq]
      have hl := en_ok ad [av_r 0, av_i x1, av_i x2] 3 (Nat.le_of_ble_eq_true rfl)
      generalize (lg_sl (([av_r 0, av_i x1, av_i x2] : List AV).map (av_V ad)) ++ List.replicate (3 - (lg_sl (([av_r 0, av_i x1, av_i x2] : List AV).map (av_V ad))).length) Slot.unset).toArray = la at hl ⊢
      have hthrow : W p l e (headSpec th_ws th_rm).room s m (([av_r 0, av_i x1, av_i x2] : List AV).map (av_V ad)).toArray below meth c s.heap [] 0 0 (th_Q below (([av_r 0, av_i x1, av_i x2] : List AV).map (av_V ad)).toArray s) (F0 m 20 la []) :=
        th_new hx hb hml htab hlk hown hts hB hZ hstr htr ⟨by decide, by decide, by decide, by decide⟩ hl.1
      refine lv_aload_n hx hb dX11_thing_0 rfl (hl.2.2 0 (av_r 0) rfl) ?_
      obtain ⟨⟨⟨cn, ct, n⟩, f1, f2, f3⟩, hc, hk⟩ := fg_RX11_35
      have hn : sh_n 0 = n := by
        have := sh_cl (a := 0) (by rw [k_0]; decide)
        rw [k_0, f1] at this
        exact (Option.some.inj this).symm
      refine va_get (C := cn) (T := ct) (N := n) (v := .ref (ad 23)) hx hb hts (cl_in 11 _ f1) hown hK hP 0 (ce_ob k_0 (by decide)) f1 3 f2 (hts _ (GW_in f3 rfl)) (fun _ h => h) (by rw [fk_at (by rw [hn]; exact f2), fk_v, k_0, hk]; show some (Value.ref (ad (rf_s 0 3))) = _; rw [rf_11_3 k_0]) dX11_thing_1 ?_
      refine lv_iload_n hx hb dX11_thing_4 rfl (hl.2.2 1 (av_i x1) rfl) ?_
      obtain ⟨v1, v2, v3, v4, v5, v6⟩ := cv_X1_isThing
      have hpre : ∀ U : State, U.heap = s.heap → s.WarmedH U.vm → Pc_c ad tc D s.heap.size [av_r 23, av_i x1] μ (Value.ref (ad 23) :: [Value.int x1]).toArray U := by
        intro U hU hW
        refine ⟨rfl, by rw [hU], by rw [hU]; exact hP, va_K.moved hW.alike hK, hD0, ?_⟩
        rw [hU]
        exact ro_mv hW hro
      have hrun := W.runV (cc := cX11_thing) (nL := 3) (Ts := GW_w) (own := RX11) (index := 180) (g := F0 m 5 la [.int x1, .ref (ad 23)]) (locs := []) (cells := 0) (slots := 0) (H := s.heap) (R := (headSpec th_ws th_rm).room) (below := below) (meth := meth) (args := (([av_r 0, av_i x1, av_i x2] : List AV).map (av_V ad)).toArray) (p := p) (e := e) (c := c) (m := m) (s := s) (b := ad 23) (As := [.int x1]) (rest := []) (C := RX1)
        ⟨hx, hb, hml, hown, hts⟩ (th_isThing (l := l) (sz := s.heap.size) hr)
        ⟨callB_of 1 hts (GW_good v1) rfl rfl rfl (hts _ (GW_in v4 rfl)) (hts _ (GW_in ml_RX11_180 rfl)) v5 ⟨by decide, by decide⟩, hts _ (GW_in v2 rfl), hts _ (GW_in v3 rfl)⟩
        ⟨Pc_blind, va_recv hK hP (ci := 1) (q0 := 23) rfl (ce_ob k_23 (by decide)), hpre⟩ rfl rfl hl.1 rfl (lv_room (by decide)) dX11_thing_5 ⟨by decide, by decide⟩
      refine W.callR hrun ?_
      show W p l e (headSpec th_ws th_rm).room s m (([av_r 0, av_i x1, av_i x2] : List AV).map (av_V ad)).toArray below meth c s.heap [] 0 0 (th_Q below (([av_r 0, av_i x1, av_i x2] : List AV).map (av_V ad)).toArray s) (F0 m 8 la [.int r])
      refine lv_if_eq (tgt := 20) hx hb dX11_thing_8 (by decide) (fun q => hthrow) (fun q => ?_)
      refine lv_iload_n hx hb dX11_thing_11 rfl (hl.2.2 2 (av_i x2) rfl) ?_
      refine lv_if_lt (tgt := 20) hx hb dX11_thing_12 (by decide) (fun q2 => hthrow) (fun q2 => ?_)
      refine lv_iload_n hx hb dX11_thing_15 rfl (hl.2.2 2 (av_i x2) rfl) ?_
      refine lv_iconst (v := 2) hx hb dX11_thing_16 (by decide) ?_
      refine lv_icmp_le (tgt := 30) hx hb dX11_thing_17 (by decide) (fun q3 => ?_) (fun q3 => hthrow)
      rcases hbad with h | h | h
      · exact absurd h q
      · exact absurd h q2
      · exact absurd q3 h
    obtain ⟨t, a1, o, b1, b2, b3⟩ := K s₁ hh0 (Stand.of_body B)
    exact ⟨t, o, a1, b1, b2, b3⟩
