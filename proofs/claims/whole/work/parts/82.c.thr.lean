/-! ===== the making of what is thrown, and the throw ===== -/
set_option maxHeartbeats 2000000 in
theorem th_ctor {p : Program} {l : Launch} {e : Env} {R : Room} {s : State} {m : MethodId} {args : Array Value} {below : List Frame} {meth : Method} {c : Code} {V : State} {cells slots : Nat} (X : Stand p l e R s m args below meth c V [] cells slots) (hx : p.tables.exec = Jvm.exec) (htr : e.platform.stackTraces = false) (hlk : meth.locks = false) (hown : s.vm.findClass RX11 = some m.cls) (hts : ∀ w ∈ GW_w, w.before args s = true) (hB : ∀ w ∈ th_B, w.before args s = true)
    {A : Nat → Prop} (hZ : TZ A s s.heap) {a : Addr} {cX : ClassId} {kX : Class} (hfX : s.vm.findClass th_X = some cX) (hkX : s.vm.classes[cX]? = some kX) (hcell : V.heap[a]? = some (freshCell cX kX)) (hnew : s.heap.size ≤ a) {q : Nat}
    {g : JFrame} (hg : g.method = m) (hsize : g.locals.size = c.maxLocals) (hlocked : g.locked = none) (hentered : g.entered = []) (hstack : g.stack = [.ref q, .ref a, .ref a]) (hd6 : decode c.code g.pc = .ok (.invokespecial 187, 3)) (hd9 : decode c.code (g.pc + 3) = .ok (.athrow, 1)) (hout : ∀ x ∈ c.exceptionTable.toList, covers x (g.pc + 3) = false) (hRf : 7 ≤ R.frames) (hRl : 2 * g.monitorRoom + 1 + 150 ≤ R.locals) :
    ∃ U : State, Steps p.tables e below (V.setTop g) U ∧ U.status = .running ∧ Ended U below (.threw a) ∧ s.WarmedH U.vm ∧ s.sameButNew ({ U with vm := s.vm } : State) [] cells slots ∧ ∃ ce : Cell, U.heap[a]? = some ce ∧ ce.cls = cX ∧ ce.vm = .none := by
  have howns : e.platform.frameOwnsMonitors = true := by rw [X.admits.platform]
  have hfin : e.platform.finalization = false := by rw [X.admits.platform]
  have hpl : e.platform.magicAccessors = ({} : Platform).magicAccessors := by rw [X.admits.platform]
  have hz1 : (Cond.isRef (.static Bundle.tN "UNASSIGNED_STACK" Bundle.steD)).before args s = true := tz_rf hZ.1
  have hz2 : (Cond.isRef (.static Bundle.tN "SUPPRESSED_SENTINEL" Bundle.listD)).before args s = true := tz_rf hZ.2
  have hthS : ∀ w ∈ th_S, w.before args s = true := fun w hw => by
    simp only [th_S, List.mem_cons, List.not_mem_nil, or_false] at hw
    rcases hw with rfl | rfl
    · exact tz_ly hZ.1
    · exact tz_ly hZ.2
  have both : ∀ w : Cond, w ∈ GW_w ∨ w ∈ th_B → w.before args s = true := fun w hw => hw.elim (hts w) (hB w)
  obtain ⟨T, Z0, L, -, Y⟩ := ThrowableC.of_atoms (args := args) howns hfin hpl (fun x hx => (tw_1 x hx).elim (hts x) (fun z => z.elim (hB x) (hthS x)))
  obtain ⟨Z, M, LZ, LM, hnZ⟩ := Init0T.ofS_atoms (args := args) hpl L Y (fun x hx => both x (tw_2 x hx))
  obtain ⟨P0, L0, hP0m, hP0s⟩ := PassC.ofS_atoms (args := args) (s := s) hpl (X := th_X) (Y := "java/lang/RuntimeException") (by decide +kernel) (by decide +kernel) td_0 td_1 td_2 td_5 (fun x hx => both x (tw_3 x hx))
  obtain ⟨P1, Ps, hlen, L1, hL, hP1m, hlink1, hlink⟩ := Bundle.chainS (args := args) hpl hnZ ["java/lang/Exception"] "java/lang/RuntimeException" (by decide +kernel) (by decide +kernel) (fun x hx => both x (tw_4 x hx))
  have hfound : s.vm.findClass th_X = some P0.m.cls := findClass_of_methodNamed hP0m
  cases Option.some.inj (hfX.symm.trans hfound)
  obtain ⟨c1, kX', hc1, hk, hord, -, -, hn6⟩ := Cond.instantiable_spec (hts _ th_w3)
  cases Option.some.inj (hc1.symm.trans hfound)
  cases Option.some.inj (hkX.symm.trans hk)
  have hsel0 : selectMethod e.platform s.vm P0.m.cls T.fill0 = .method T.fill0 := by
    obtain ⟨c2, r2, m2, q1, q2, q3, q4, -⟩ := Cond.selects_spec (hts _ tw_7)
    cases Option.some.inj (q1.symm.trans hfound)
    cases Option.some.inj (q2.symm.trans (State.methodFound?_of_named Y.fill0 (by decide)))
    cases Option.some.inj (q3.symm.trans Y.fill0)
    rw [Launch.admits_selectMethod X.admits]; exact q4
  have hselF : selectMethod e.platform s.vm P0.m.cls T.fill = .method T.fill := by
    obtain ⟨c2, r2, m2, q1, q2, q3, q4, -⟩ := Cond.selects_spec (hts _ tw_8)
    cases Option.some.inj (q1.symm.trans hfound)
    cases Option.some.inj (q2.symm.trans (State.methodFound?_of_named Y.fill (by decide)))
    cases Option.some.inj (q3.symm.trans Y.fill)
    rw [Launch.admits_selectMethod X.admits]; exact q4
  obtain ⟨cS, hcS, hiS⟩ := Y.statics
  obtain ⟨u0, hu0⟩ := Cond.staticRefV Y.unassigned L.unassignedStatic L.statics hcS hiS hz1
  obtain ⟨sen, hsen⟩ := Cond.staticRefV Y.sentinel L.sentinelStatic L.statics hcS hiS hz2
  obtain ⟨ci198, i198, fB, hk198, hg198, ha198, hsB, -, hnB, htB, hffB⟩ := Cond.ownField (t := .object "java/lang/Object") Y.found L.cls (by decide +kernel) (hts _ tw_13) (hts _ tw_14) e.platform hpl
  obtain ⟨cV, hcV, heV, -, hkV⟩ := X.same.2.2.2.2.2 T.aS cS hcS
  have hcV : V.heap[T.aS]? = some cV := hcV
  have hknV : cV.vm ≠ .unknown := by
    rw [heV]
    intro hu
    rw [show cS.vm = .unknown from hu] at hiS
    cases hiS
  have hneS : T.aS ≠ a := Nat.ne_of_lt (Nat.lt_of_lt_of_le (Array.getElem?_eq_some_iff.mp hcS).1 hnew)
  obtain ⟨iM, hffM⟩ := Y.msg
  obtain ⟨tyC, dC, hdC, hdnC⟩ := Cond.laysAt hfound hk Y.cause (hts _ tw_9)
  obtain ⟨tyS, dS, hdS, hdnS⟩ := Cond.laysAt hfound hk Y.stack (hts _ tw_10)
  obtain ⟨tyP, dP, hdP, hdnP⟩ := Cond.laysAt hfound hk Y.supp (hts _ tw_11)
  obtain ⟨tyM, dM, hdM, hdnM⟩ := Cond.laysAt hfound hk hffM (hts _ tw_12)
  obtain ⟨tyB, dB, hdB, hdnB⟩ := Cond.laysAt hfound hk hffB (hts _ tw_15)
  have bC := Cond.laysApart hdB hdC hdnB hdnC (by rw [hnB, Y.causeName]; decide)
  have bS := Cond.laysApart hdB hdS hdnB hdnS (by rw [hnB, Y.stackName]; decide)
  have bP := Cond.laysApart hdB hdP hdnB hdnP (by rw [hnB, Y.suppName]; decide)
  have hskip : SkipFacts T e.platform s (fun u => u) u0 ((preparedCellV T.toThrowableT (freshCell P0.m.cls kX) a u0 sen).withEntry V.cur) := by
    refine ⟨{ ci198 := ci198, i198 := i198, fBack := fB }, ⟨hk198, hg198, ha198, hsB⟩, ?_, fun _ _ => rfl⟩
    have := fresh_default (c := P0.m.cls) tyB
    rw [htB] at this
    simpa [preparedCellV, Cell.setSlot, Cell.withEntry, Array.getElem?_setIfInBounds, bC, bS, bP, bC.symm, bS.symm, bP.symm, defaultValue] using this
  obtain ⟨tm, methC, cdC, kC, vm₁, hnC, -, -, -, -, -, -, -, hW₁, st1⟩ := Steps.initColdS (tb := p.tables) (e := e) (below := below) (s := s) (U := V) X.here hx X.warmed hpl hown (t := Bundle.initS th_X) rfl rfl (by decide +kernel) (hts _ tw_5)
    (both _ (tw_3 _ (by simp [Bundle.passSAtoms]))) (bytes := prog_30_method_4_code) (maxL := 2) (both _ (tw_3 _ (by simp [Bundle.passSAtoms]))) (f := g) hg (a := a) (msg := .ref q) (rest := [.ref a]) hstack hd6
  cases Option.some.inj (hnC.symm.trans hP0m)
  have X₁ := X.noted hW₁
  have hl0 : P0.sup = firstOf (Z.m T.toThrowableT) ((P1 :: Ps).map (·.toPassT)) := Option.some.inj (hP0s.symm.trans hP1m)
  have hl3 : (P0 :: P1 :: Ps).length = 3 := by simp [hlen]
  obtain ⟨vm₂, X₂, st2⟩ := X₁.ctorMessageOffV hx (g := { g with stack := [.ref a] }) hg hsize T L Z LZ M LM (P0 :: P1 :: Ps)
    (fun P hP => by
      rcases List.mem_cons.mp hP with rfl | hP
      · exact L0
      · rcases List.mem_cons.mp hP with rfl | hP
        · exact L1
        · exact hL P hP) ⟨hl0, hlink1, hlink⟩ (u0 := u0) (sen := sen) (self := a) (msg := .ref q) rfl (cell := freshCell P0.m.cls kX) (cellS := cV)
    hcell (fun _ => by simp) (by simp) rfl rfl hsel0 hselF hcV hneS hknV (by rw [hkV _ (by simp)]; exact hu0) (by rw [hkV _ (by simp)]; exact hsen)
    (Takes.of_laid hk hord tyC (by rw [Y.causeType]; rfl)) (Takes.of_laid hk hord tyS (by rw [Y.stackType]; exact fits_refV_array _ u0)) (Takes.of_laid hk hord tyP (by rw [Y.suppType]; exact fits_refV_object _ sen))
    (Takes.of_laid hk hord tyM (by rw [Y.msgType]; exact fits_refV_object _ ⟨.ref q, rfl⟩)) Y.objLocals hskip htr [] hd6 (by rw [hl3]; omega) (by rw [hl3]; show 2 * g.monitorRoom + 1 + (13 * 3 + 42) ≤ R.locals; omega)
  obtain ⟨hwalk, hrun, hended, hWU, hsame⟩ := X₂.athrowLeaves hx (g := { g with stack := [.ref a], pc := g.pc + 3 }) hg hlocked hentered hout (a := a) (rest := []) rfl hd9 hlk
  have hlt : a < ((V.setVm vm₁).setVm vm₂).heap.size := (Array.getElem?_eq_some_iff.mp hcell).1
  have hU := heapAt_setCell_self (s := (V.setVm vm₁).setVm vm₂) (plainBareV T.toThrowableT (freshCell P0.m.cls kX) a u0 sen (.ref q)) hlt
  refine ⟨_, st1 _ (fun acts => ?_), hrun, hended, hWU, hsame.weaken (fun y hy hlt2 => ?_) (Nat.le_refl _) (Nat.le_refl _), _, hU, rfl, rfl⟩
  · rw [doInvoke_state]
    exact st2 _ hwalk
  · exfalso
    have hb : y.base = a := by
      simp only [List.nil_append, List.mem_cons, List.not_mem_nil, or_false] at hy
      rcases hy with rfl | rfl | rfl | rfl | rfl <;> rfl
    rw [hb] at hlt2
    exact Nat.not_lt.mpr hnew hlt2
