/-! ===== the call that may throw, and its handler ===== -/
theorem tl_1 : Cond.instanceMethod yX11_thing ∈ GW_w := by decide +kernel
theorem tl_2 : Cond.code yX11_thing cX11_thing 3 (some .int) ∈ GW_w := by decide +kernel
theorem tl_3 : Cond.selects RX11 yX11_thing yX11_thing ∈ GW_w := by decide +kernel
theorem tl_4 : Cond.methodLink RL 7 yX11_thing ∈ GW_w := by decide +kernel
theorem tl_5 : Cond.initialized RX11 ∈ GW_w := by decide +kernel
theorem tl_6 : Cond.classLink RL 13 th_X ∈ GW_w := by decide +kernel
theorem th_pay {s U : State} {args a' : Array Value} (hW : s.WarmedH U.vm) (hts : ∀ w ∈ GW_w, w.before args s = true) (hB : ∀ w ∈ th_B, w.before args s = true) : ∀ w ∈ th_ws, w.before a' U = true := by
  intro w hw
  rcases List.mem_cons.mp hw with rfl | hw
  · exact word_at hW (Or.inl rfl) (hts _ tl_2)
  · rcases List.mem_append.mp hw with hw | hw
    · exact word_at hW (good_of_word (List.mem_filter.mp hw).2) (hts w hw)
    · exact th_mv hW w hw (hB w hw)
set_option maxHeartbeats 2000000 in
theorem th_call {p : Program} {l : Launch} {e : Env} {R : Room} {s : State} {m : MethodId} {args : Array Value} {below : List Frame} {meth : Method} {c : Code} {Q : State → Prop} {ad : Nat → Nat} {tc : Nat → ClassId} {D : va_G} {x1 x2 r : Int32} {μ : MM} (hx : p.tables.exec = Jvm.exec) (hb : c.code = cL_thing) (hml : c.maxLocals = 5) (htab : c.exceptionTable.toList = [⟨0, 10, 13, 13⟩]) (hown : s.vm.findClass RL = some m.cls) (hts : ∀ w ∈ GW_w, w.before args s = true) (hB : ∀ w ∈ th_B, w.before args s = true) (hK : va_K D vwCl (ty_L tc) s) (hP : va_P D vwCl (wo_w ad tc μ) s.heap) (hD0 : va_D (fun _ => True) (wo_w ad tc μ)) (hro : ro_ok ad (va_A (wo_w ad tc μ) s.heap.size) s s.heap) (hZ : TZ (va_A (wo_w ad tc μ) s.heap.size) s s.heap)
    (hfl : l.flags = pinnedFlags ++ [noTraceFlag]) (hr : f_Co_isThing 0 23 x1 μ = some (r, μ)) (hbad : r = 0 ∨ x2 < 0 ∨ ¬ x2 ≤ 2) (hR : 11 ≤ R.frames ∧ 1000 ≤ R.locals ∧ 1 ≤ R.cells ∧ 6 ≤ R.slots) {la : Array Slot} {rest : List Value} (hsize : la.size = 5) (hcat : (rest.map fun v => v.category).sum ≤ 8)
    (kk : ∀ (H1 : Heap) (a : Addr), (∀ q, q < s.heap.size → H1[q]? = s.heap[q]?) → s.heap.size ≤ H1.size → W p l e R s m args below meth c H1 [] 1 6 Q (F0 m 13 la [.ref a])) : W p l e R s m args below meth c s.heap [] 0 0 Q (F0 m 5 la (.int x2 :: .int x1 :: .ref (ad 0) :: rest)) := by
  intro T hT X
  have hy : yX11_thing.cls ≠ "java/lang/invoke/MethodHandle" ∧ yX11_thing.cls ≠ "java/lang/invoke/VarHandle" := by decide +kernel
  have hpl : e.platform.magicAccessors = ({} : Platform).magicAccessors := by rw [X.admits.platform]
  obtain ⟨mk, methM, hnamed, hmethM, hstM, habM⟩ := Cond.instanceMethod_spec (hts _ tl_1)
  obtain ⟨methM', cM, hmethM', -, -, -, -, -, -, hsigM⟩ := Cond.code_spec hnamed (hts _ tl_2)
  cases hmethM.symm.trans hmethM'
  obtain ⟨c2, r2, m2, q1, q2, q3, q4, kP, hkP, hkPi⟩ := Cond.selects_spec (hts _ tl_3)
  obtain ⟨cellB, hcB, hoB, hclB⟩ := va_recv hK hP (ci := 11) (q0 := 0) rfl (ce_ob k_0 (by decide))
  have hclB : s.vm.findClass RX11 = some cellB.cls := hclB
  cases hclB.symm.trans q1
  cases (State.methodFound?_of_named hnamed hy).symm.trans q2
  cases hnamed.symm.trans q3
  have hselP : selectMethod e.platform s.vm cellB.cls mk = .method mk := by rw [Launch.admits_selectMethod X.admits]; exact q4
  have hlen : ([.int x1, .int x2] : List Value).length = methM.sig.parameters.length := by
    have h1 : (parseMethodDescriptor yX11_thing.desc).map (fun d => d.parameters.length) = some 2 := by decide +kernel
    rw [hsigM] at h1
    exact (Option.some.inj h1).symm
  obtain ⟨vm₁, X₁, hstep₁⟩ := X.invokevirtual hx hown (hts _ tl_4) hnamed hmethM hstM hkP hkPi hy (a := ad 0) (cell := cellB) (by rw [hT]; exact hcB) (fun z h => by rw [h] at hoB; cases hoB) hselP hmethM habM hkP hkPi (g := F0 m 5 la (.int x2 :: .int x1 :: .ref (ad 0) :: rest)) rfl (argsL := [.int x1, .int x2]) (rest := rest) hlen rfl (by rw [hb]; exact dL_thing_5)
  have hTh : (T.setVm vm₁).heap = s.heap := hT
  generalize T.setVm vm₁ = U at X₁ hstep₁ hTh
  have hn : U.methodNamed? yX11_thing = some mk := X₁.named hnamed
  have hpay := th_pay (a' := #[Value.ref (ad 0), .int x1, .int x2]) X₁.warmed hts hB
  obtain ⟨methY, cY, hmY, hcY, -, hlY, -, -, -, -⟩ := Cond.code_spec hn (hpay _ List.mem_cons_self)
  obtain ⟨kY, hkY, -⟩ := className_of_methodNamed hn
  have hinitY : kY.init = .initialized := Cond.initialized_spec (findClass_of_methodNamed hn) hkY (hpay _ (List.mem_cons_of_mem _ (List.mem_append_left _ tl_5)))
  have hAt : At U (F0 m 5 la rest).method c below := X₁.here
  have happ : (headSpec th_ws th_rm).appliesLoose yX11_thing e.platform (U.calling (F0 m 5 la rest) mk #[Value.ref (ad 0), .int x1, .int x2]) = true :=
    Spec.appliesLoose_calling (g := F0 m 5 la rest) hAt (by rw [hb]; exact dL_thing_5) hn hkY hinitY
      (X₁.room_calling (g := F0 m 5 la rest) (R' := th_rm) (hsize.trans hml.symm) hmY hcY (by show 10 + 1 ≤ R.frames; omega) (by rw [hlY]; show 2 * 0 + (rest.map fun v => v.category).sum + (3 + 11) + 640 ≤ R.locals; omega) (by show 0 + 1 ≤ R.cells; omega) (by show 0 + 6 ≤ R.slots; omega)) (atoms_intro hpay)
  obtain ⟨mid, hmid⟩ := hAt.above
  have hfr : (U.setTop (F0 m 5 la rest)).frames = (.java (F0 m 5 la rest) :: mid) ++ below := by rw [State.frames_setTop' _ hAt.top, hmid]; rfl
  have hPcal : Pc_t ad tc D s.heap.size [av_r 0, av_i x1, av_i x2] μ #[Value.ref (ad 0), .int x1, .int x2] (U.calling (F0 m 5 la rest) mk #[Value.ref (ad 0), .int x1, .int x2]) := by
    have hal : s.vm.Alike (U.calling (F0 m 5 la rest) mk #[Value.ref (ad 0), .int x1, .int x2]).vm := X₁.warmed.alike
    have hch : (U.calling (F0 m 5 la rest) mk #[Value.ref (ad 0), .int x1, .int x2]).heap = s.heap := hTh
    refine ⟨⟨rfl, by rw [hch], by rw [hch]; exact hP, va_K.moved hal hK, hD0, ?_⟩, ?_⟩
    · rw [hch]; exact ro_mv X₁.warmed hro
    · rw [hch]; exact ⟨tz_mv hal hZ.1, tz_mv hal hZ.2⟩
  obtain ⟨o, s₂, hsteps, hrun2, hend, hq⟩ := Steps.callFree (th_met l hfl (sz := s.heap.size) (ad := ad) (tc := tc) (D := D) hr hbad) p X₁.admits X₁.cas X₁.clock (acts := []) hfr happ hPcal trivial
  obtain ⟨a, ce, rfl, ha1, ha2, ha3, ha4, ha5, ha6⟩ := hq
  have hf2 : s₂.frames = .throwing a :: (U.setTop (F0 m 5 la rest)).frames := hend
  have hW' : U.WarmedH s₂.vm := ha5
  obtain ⟨w1, w2, w3, w4, w5, w6⟩ := ha6
  have e3 : s₂ = ({ (U.calling (F0 m 5 la rest) mk #[Value.ref (ad 0), .int x1, .int x2]).setFrames s₂.frames with heap := s₂.heap, slotsUsed := s₂.slotsUsed } : State).setVm s₂.vm := by
    have h9 : s₂ = ({ s₂ with vm := (U.calling (F0 m 5 la rest) mk #[Value.ref (ad 0), .int x1, .int x2]).vm } : State).setVm s₂.vm := rfl
    have w1' : ({ s₂ with vm := (U.calling (F0 m 5 la rest) mk #[Value.ref (ad 0), .int x1, .int x2]).vm } : State) = { (U.calling (F0 m 5 la rest) mk #[Value.ref (ad 0), .int x1, .int x2]).setFrames s₂.frames with heap := s₂.heap, slotsUsed := s₂.slotsUsed } := w1
    rw [w1'] at h9
    exact h9
  obtain ⟨g₀, hg0⟩ := Option.isSome_iff_exists.mp hAt.top
  obtain ⟨rr, hrr⟩ := State.topJava?_eq_some.mp hg0
  have hs₂ : s₂ = ((({ U with heap := s₂.heap, slotsUsed := s₂.slotsUsed } : State).setVm s₂.vm).setTop (F0 m 5 la rest)).pushFrame (.throwing a) := by
    have hr' : (({ U with heap := s₂.heap, slotsUsed := s₂.slotsUsed } : State).setVm s₂.vm).frames = .java g₀ :: rr := hrr
    refine e3.trans ?_
    rw [hf2, State.calling_eq hAt.top, State.setFrames_setFrames, State.pushFrame, State.frames_setTop _ hr', State.setTop_of_frames _ hr', State.setFrames_setFrames, State.frames_setTop _ hrr]
    rfl
  have hsame : U.sameButNew ({ U with heap := s₂.heap, slotsUsed := s₂.slotsUsed } : State) [] 1 6 := by
    refine ⟨?_, w2, w3, w4, w5, w6⟩
    obtain ⟨t, ht, -⟩ := State.frames_cons hrr
    show ({ U with heap := s₂.heap, slotsUsed := s₂.slotsUsed } : State) = { U.setFrames U.frames with heap := s₂.heap, slotsUsed := s₂.slotsUsed }
    rw [State.setFrames_self ht]
  have X₂ : Stand p l e R s m args below meth c (({ U with heap := s₂.heap, slotsUsed := s₂.slotsUsed } : State).setVm s₂.vm) [] 1 6 :=
    ⟨X₁.admits, X₁.cas, X₁.clock, X₁.frames, X₁.room, X₁.hears, X₁.method, X₁.code, (X₁.here.setHeapUsed s₂.heap s₂.slotsUsed).setVm hW'.alike, X₁.tail, State.WarmedH.trans X₁.warmed hW', X₁.limits, X₁.bytes, X₁.same.trans (hsame.setVm s.vm)⟩
  have hT2h : (({ U with heap := s₂.heap, slotsUsed := s₂.slotsUsed } : State).setVm s₂.vm).heap = s₂.heap := rfl
  generalize ({ U with heap := s₂.heap, slotsUsed := s₂.slotsUsed } : State).setVm s₂.vm = T2 at hs₂ X₂ hT2h
  obtain ⟨cc, hfcc, hcl⟩ := Cond.classLink_spec hown (hts _ tl_6) e.platform hpl
  obtain ⟨hg₁, hwarm₁, hready₁⟩ := State.classEntry (e := e) X₂.warmed hcl
  have hszn : (T2.vm.noted m.cls 13 (.cls cc)).classes.size ≤ T2.vm.classes.size := by rw [Vm.size_noted]; exact Nat.le_refl _
  generalize T2.vm.noted m.cls 13 (.cls cc) = vm₃ at hg₁ hwarm₁ hready₁ hszn
  have X₃ := X₂.noted hwarm₁
  have hce : s.vm.findClass th_X = some ce.cls := by
    have h1 : U.vm.findClass th_X = some ce.cls := ha4
    rw [X₁.warmed.alike.findClass] at h1
    exact h1
  cases Option.some.inj (hce.symm.trans hfcc)
  obtain ⟨c3, c4, hc3, hc4, hasg⟩ := Cond.castable_spec (hB _ tw_6)
  cases Option.some.inj (hc3.symm.trans hce)
  cases Option.some.inj (hc4.symm.trans hce)
  have hfc3 : vm₃.findClass th_X = some ce.cls := by rw [hwarm₁.alike.findClass]; exact hce
  have hold : ∀ q, q < s.heap.size → s₂.heap[q]? = s.heap[q]? := fun q hq => by
    have hUq : U.heap[q]? = some (s.heap[q]) := by rw [hTh]; exact Array.getElem?_eq_getElem hq
    obtain ⟨c', k1, k2, k3, k4⟩ := w6 q _ hUq
    have k1 : s₂.heap[q]? = some c' := k1
    have hsl : c'.slots = (s.heap[q]).slots := by
      apply Array.ext_getElem?
      intro i
      exact k4 i (by simp)
    rw [k1, k2, hsl, Array.getElem?_eq_getElem hq]
  have hgr : s.heap.size ≤ s₂.heap.size := by
    have : U.heap.size ≤ s₂.heap.size := w2
    rw [hTh] at this
    exact this
  obtain ⟨t, b1, b2⟩ := kk s₂.heap a hold hgr (T2.setVm vm₃) hT2h X₃
  refine ⟨t, hstep₁ t (fun acts => ?_), b2⟩
  rw [doInvoke_state]
  refine hsteps.trans ?_
  rw [hs₂]
  exact th_caught (s := T2) (g := F0 m 5 la rest) (cd := c) X₂.here (meth := meth) (code := c) (x := ⟨0, 10, 13, 13⟩) (t := []) (c := ce.cls) (cell := ce) (vm' := vm₃) (by rw [X₂.warmed.alike.method?]; exact X₂.method) X₂.code htab (by show covers ⟨0, 10, 13, 13⟩ 5 = true; decide) (by decide) hg₁ hszn (by rw [hT2h]; exact ha2) (fun k hk => by rw [ha3] at hk; cases hk) (Vm.classAt_of_findClass hfc3) (Vm.classAt_of_findClass hfc3) (by rw [hwarm₁.alike.assignable]; exact hasg) b1
