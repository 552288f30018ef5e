/-! ===== a throw, and a handler whose type may not be resolved yet ===== -/
theorem th_go {E : CtlPost} {e : Env} {d : Bool} {acts : List Action} {s : State} {f : JFrame} {a : Addr} {Q : Handler → Pre} {x : ExceptionTableEntry} {t : List ExceptionTableEntry} {c : ClassId} {cell : Cell} {vm' : Vm} (hx : covers x f.pc = true) (h0 : x.catchType ≠ 0)
    (hg : (Jvm.resolveClass f.method.cls x.catchType).Gives e.toSetting s.vm (.ok c) vm') (hsz : vm'.classes.size ≤ s.vm.classes.size) (hcell : s.heap[a]? = some cell) (hobj : ∀ k, cell.vm ≠ .statics k)
    (hk : ∃ k, vm'.classes[cell.cls]? = some k) (hc : ∃ k, vm'.classes[c]? = some k) (hfit : vm'.assignable cell.cls c = true) :
    wp (findHandler.go f a (x :: t)) Q E e d acts s ↔ Q (.found x.handlerPc) d acts (s.setVm vm') := by
  simp only [covers] at hx
  obtain ⟨ha, ht⟩ := hg.op (op := VmOp.resolveClass f.method.cls x.catchType) rfl
  simp [findHandler.go, hx, h0, ha, ht, hsz, hcell, hobj, hk, hc, hfit, VmOp.dirties, VmOp.acts]
theorem th_step {e : Env} {s : State} {a : Addr} {f : JFrame} {r : List Frame} {meth : Method} {code : Code} {x : ExceptionTableEntry} {t : List ExceptionTableEntry} {c : ClassId} {cell : Cell} {vm' : Vm} (hm : s.vm.method? f.method = some meth) (hcd : meth.code = some code) (htab : code.exceptionTable.toList = x :: t) (hx : covers x f.pc = true) (h0 : x.catchType ≠ 0)
    (hg : (Jvm.resolveClass f.method.cls x.catchType).Gives e.toSetting s.vm (.ok c) vm') (hsz : vm'.classes.size ≤ s.vm.classes.size) (hcell : s.heap[a]? = some cell) (hobj : ∀ k, cell.vm ≠ .statics k)
    (hk : ∃ k, vm'.classes[cell.cls]? = some k) (hc : ∃ k, vm'.classes[c]? = some k) (hfit : vm'.assignable cell.cls c = true) :
    (stepThrowing e s a (.java f :: r)).Is ((s.setVm vm').setFrames (.java { f with pc := x.handlerPc, stack := [.ref a] } :: r)) [] := by
  have hF : ∀ (Q : Handler → Pre) (E : CtlPost) (d : Bool) (acts : List Action), wp (findHandler f a) Q E e d acts s ↔ Q (.found x.handlerPc) d acts (s.setVm vm') := fun Q E d acts => by
    rw [_root_.Jvm.W.findHandler_eq hm hcd, htab]
    exact th_go hx h0 hg hsz hcell hobj hk hc hfit
  simp only [stepThrowing, searchFrame, vmDo]
  generalize hr : Sem.go _ e false [] s = res
  obtain ⟨as, rfl, ha⟩ := Sem.eq_ok_of hr (a := Handler.found x.handlerPc) (s' := s.setVm vm') (acts' := []) (by simp [hF])
  exact ⟨rfl, ha⟩
theorem th_caught {tb : Tables} {e : Env} {s target : State} {g : JFrame} {cd : Code} {below : List Frame} {a : Addr} (h : At s g.method cd below) {meth : Method} {code : Code} {x : ExceptionTableEntry} {t : List ExceptionTableEntry} {c : ClassId} {cell : Cell} {vm' : Vm} (hm : s.vm.method? g.method = some meth) (hcd : meth.code = some code) (htab : code.exceptionTable.toList = x :: t) (hx : covers x g.pc = true) (h0 : x.catchType ≠ 0)
    (hg : (Jvm.resolveClass g.method.cls x.catchType).Gives e.toSetting s.vm (.ok c) vm') (hsz : vm'.classes.size ≤ s.vm.classes.size) (hcell : s.heap[a]? = some cell) (hobj : ∀ k, cell.vm ≠ .statics k)
    (hk : ∃ k, vm'.classes[cell.cls]? = some k) (hc : ∃ k, vm'.classes[c]? = some k) (hfit : vm'.assignable cell.cls c = true)
    (hrest : Steps tb e below ((s.setVm vm').setTop { g with pc := x.handlerPc, stack := [.ref a] }) target) : Steps tb e below ((s.setTop g).pushFrame (.throwing a)) target := by
  obtain ⟨hgo, hw⟩ := h.throwing a
  refine Steps.head hgo hw ?_
  have hv : ((s.setTop g).pushFrame (.throwing a)).vm = s.vm := Stand.throwing_vm s g a
  have hh : ((s.setTop g).pushFrame (.throwing a)).heap = s.heap := Stand.throwing_heap s g a
  rw [stepThread_throwing (frames_entered h.top _), (th_step (s := (s.setTop g).pushFrame (.throwing a)) (f := g) (meth := meth) (code := code) (x := x) (t := t) (c := c) (cell := cell) (vm' := vm') (by rw [hv]; exact hm) hcd htab hx h0 (by rw [hv]; exact hg) (by rw [hv]; exact hsz) (by rw [hh]; exact hcell) hobj hk hc hfit).1]
  obtain ⟨g₀, hg0⟩ := Option.isSome_iff_exists.mp h.top
  obtain ⟨r, hr⟩ := State.topJava?_eq_some.mp hg0
  have hr' : (s.setVm vm').frames = .java g₀ :: r := hr
  rw [State.setTop_of_frames _ hr'] at hrest
  rw [State.pushFrame, State.setTop_of_frames _ hr, State.setFrames_setFrames]
  rw [hr]
  show Steps tb e below (((s.setVm vm').setFrames _).setFrames _) target
  rw [State.setFrames_setFrames]
  exact hrest
