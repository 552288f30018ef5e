/-! ===== the call thing where it throws ===== -/
abbrev mX11_thing : ME := (yX11_thing, cX11_thing, 3, some .int)
def th_O : Array Value → State → Outcome → State → Prop := fun args st o t => ∃ (a : Addr) (ce : Cell), o = .threw a ∧ st.heap.size ≤ a ∧ t.heap[a]? = some ce ∧ ce.vm = .none ∧ st.vm.findClass th_X = some ce.cls ∧ st.WarmedH t.vm ∧ st.sameButNew ({ t with vm := st.vm } : State) [] 1 6
def th_Q (below : List Frame) (args : Array Value) (s : State) : State → Prop := fun t => ∃ o, t.status = .running ∧ Ended t below o ∧ th_O args s o t
theorem th_new {p : Program} {l : Launch} {e : Env} {R : Room} {s : State} {m : MethodId} {args : Array Value} {below : List Frame} {meth : Method} {c : Code} (hx : p.tables.exec = Jvm.exec) (hb : c.code = cX11_thing) (hml : c.maxLocals = 3) (htab : c.exceptionTable.isEmpty = true) (hlk : meth.locks = false) (hown : s.vm.findClass RX11 = some m.cls) (hts : ∀ w ∈ GW_w, w.before args s = true) (hB : ∀ w ∈ th_B, w.before args s = true)
    {A : Nat → Prop} (hZ : TZ A s s.heap) {tx : String} {q : Nat} (hstr : vk_R RX11 185 tx q s) (htr : e.platform.stackTraces = false) (hR : 7 ≤ R.frames ∧ 200 ≤ R.locals ∧ 1 ≤ R.cells ∧ 6 ≤ R.slots) {la : Array Slot} (hsize : la.size = 3) :
    W p l e R s m args below meth c s.heap [] 0 0 (th_Q below args s) (F0 m 20 la []) := by
  obtain ⟨cC, kC0, hfc, -⟩ := Cond.instantiable_spec (hts _ th_w3)
  refine W.newcK (C := th_X) (n := 6) hx hb hown (hts _ th_w1) (hts _ th_w3) (hts _ th_w2) rfl dX11_thing_20 (by omega) (by omega) hfc rfl (fun H1 kC hkC e1 z1 o1 => ?_)
  refine lv_dup hx hb dX11_thing_23 rfl ?_
  refine va_ldcS hx hb hown hstr dX11_thing_24 ?_
  intro T hT X
  have hout : ∀ x ∈ c.exceptionTable.toList, covers x (26 + 3) = false := fun x hx => by
    have h0 : c.exceptionTable.size = 0 := by simpa [Array.isEmpty] using htab
    have h1 : c.exceptionTable.toList = [] := List.eq_nil_of_length_eq_zero (by simpa using h0)
    rw [h1] at hx
    cases hx
  obtain ⟨U, a1, a2, a3, a4, a5, ce, a6, a7, a8⟩ := th_ctor X hx htr hlk hown hts hB hZ hfc hkC (a := s.heap.size) (by rw [hT]; exact e1) (Nat.le_refl _) (q := q) (g := F0 m 26 la [.ref q, .ref s.heap.size, .ref s.heap.size]) rfl (hsize.trans hml.symm) rfl rfl rfl (by rw [hb]; exact dX11_thing_26) (by rw [hb]; exact dX11_thing_29) hout hR.1 (by show 2 * 0 + 1 + 150 ≤ R.locals; omega)
  exact ⟨U, a1, _, a2, a3, s.heap.size, ce, rfl, Nat.le_refl _, a6, a8, by rw [a7]; exact hfc, a4, a5⟩
/-- whether a thing is there: nothing changes -/
theorem th_isThing {l : Launch} {ad : Nat → Nat} {tc : Nat → ClassId} {D : va_G} {sz : Nat} {x1 r : Int32} {μ : MM} (hr : f_Co_isThing 0 23 x1 μ = some (r, μ)) : Met l yX1_isThing (Cond.code yX1_isThing cX1_isThing 2 (some .boolean) :: GW_w) (Rm_d 0) (Pc_c ad tc D sz [av_r 23, av_i x1] μ) (QcRead r) 0 0 (fun _ => False) := by
  refine Met.ofW (cc := cX1_isThing) (maxL := 2) (ret := some .boolean) pn_X1 rfl ?_
  intro p e s m args below meth c s₁ B hml hv
  obtain ⟨rfl, hsz, hP, hK, hD0, hro⟩ := hv
  have hts0 := atoms_spec (ws := Cond.code yX1_isThing cX1_isThing 2 (some .boolean) :: GW_w) B.pre
  have hts : ∀ w ∈ GW_w, w.before (([av_r 23, av_i x1] : List AV).map (av_V ad)).toArray s = true := fun w hw => hts0 w (List.mem_cons_of_mem _ hw)
  have hown : s.vm.findClass RX1 = some m.cls := findClass_of_methodNamed B.named
  rw [lg_entry_eq]
  have hl := en_ok ad [av_r 23, av_i x1] 2 (Nat.le_of_ble_eq_true rfl)
  generalize (lg_sl (([av_r 23, av_i x1] : List AV).map (av_V ad)) ++ List.replicate (2 - (lg_sl (([av_r 23, av_i x1] : List AV).map (av_V ad))).length) Slot.unset).toArray = la at hl ⊢
  have hx := B.exec
  have hb := B.bytes
  have hlk := B.notSynchronized
  unfold f_Co_isThing at hr
  have r0 : ∀ {v : Int32}, narrow .boolean (.int v) = .int v → v = r → W p l e (headSpec (Cond.code yX1_isThing cX1_isThing 2 (some .boolean) :: GW_w) (Rm_d 0)).room s m (([av_r 23, av_i x1] : List AV).map (av_V ad)).toArray below meth c s.heap [] 0 0 (MQ below (QcRead r) (([av_r 23, av_i x1] : List AV).map (av_V ad)).toArray s 0 0 (fun _ => False)) (F0 m 23 la [.int v]) := by
    intro v hn hv
    subst hv
    exact W.zret hx hb B.returns hn (fun t ht hW => ⟨rfl, ht⟩) (fun q hq => by cases hq) dX1_isThing_23 hlk
  have rf : (0 : Int32) = r → W p l e (headSpec (Cond.code yX1_isThing cX1_isThing 2 (some .boolean) :: GW_w) (Rm_d 0)).room s m (([av_r 23, av_i x1] : List AV).map (av_V ad)).toArray below meth c s.heap [] 0 0 (MQ below (QcRead r) (([av_r 23, av_i x1] : List AV).map (av_V ad)).toArray s 0 0 (fun _ => False)) (F0 m 22 la []) := fun h => by
    refine lv_iconst (v := 0) hx hb dX1_isThing_22 (by decide) ?_
    exact r0 (by decide +kernel) h
  refine lv_iload_n hx hb dX1_isThing_0 rfl (hl.2.2 1 (av_i x1) rfl) ?_
  refine lv_if_lt (tgt := 22) hx hb dX1_isThing_1 (by decide) (fun q => ?_) (fun q => ?_)
  · rw [if_pos q] at hr
    exact rf (congrArg Prod.fst (Option.some.inj hr))
  · rw [if_neg q] at hr
    refine lv_iload_n hx hb dX1_isThing_4 rfl (hl.2.2 1 (av_i x1) rfl) ?_
    refine lv_aload_n hx hb dX1_isThing_5 rfl (hl.2.2 0 (av_r 23) rfl) ?_
    obtain ⟨⟨⟨cn, ct, n⟩, f1, f2, f3⟩, hc, hk⟩ := fg_RX1_9
    have hn : sh_n 23 = n := by
      have := sh_cl (a := 23) (by rw [k_23]; decide)
      rw [k_23, f1] at this
      exact (Option.some.inj this).symm
    refine va_get (C := cn) (T := ct) (N := n) (v := .int (μ.1 23 0)) hx hb hts (cl_in 1 _ f1) hown hK hP 23 (ce_ob k_23 (by decide)) f1 0 f2 (hts _ (GW_in f3 rfl)) (fun _ h => h) (by rw [fk_at (by rw [hn]; exact f2), fk_v, k_23, hk]; rfl) dX1_isThing_6 ?_
    refine lv_icmp_ge (tgt := 22) hx hb dX1_isThing_9 (by decide) (fun q2 => ?_) (fun q2 => ?_)
    · rw [if_pos q2] at hr
      exact rf (congrArg Prod.fst (Option.some.inj hr))
    · rw [if_neg q2] at hr
      refine lv_iload_n hx hb dX1_isThing_12 rfl (hl.2.2 1 (av_i x1) rfl) ?_
      refine lv_bipush (v := 8) hx hb dX1_isThing_13 (by decide) ?_
      refine lv_icmp_ge (tgt := 22) hx hb dX1_isThing_15 (by decide) (fun q3 => ?_) (fun q3 => ?_)
      · rw [if_pos q3] at hr
        exact rf (congrArg Prod.fst (Option.some.inj hr))
      · rw [if_neg q3] at hr
        refine lv_iconst (v := 1) hx hb dX1_isThing_18 (by decide) ?_
        refine lv_goto (tgt := 23) hx hb dX1_isThing_19 (by decide) ?_
        exact r0 (by decide +kernel) (congrArg Prod.fst (Option.some.inj hr))
