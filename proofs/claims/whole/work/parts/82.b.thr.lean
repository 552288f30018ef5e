/-! ===== the call thing: what is thrown ===== -/
def th_X : String := "java/util/NoSuchElementException"
def th_B : List Cond := [.superclass Bundle.tN "java/lang/Object", .declares (Bundle.initS "java/lang/RuntimeException"), .declares (Bundle.initS "java/lang/Exception"), .declares (Bundle.initS Bundle.tN), .castable th_X th_X]
def th_S : List Cond := [.laysStatic Bundle.tN "UNASSIGNED_STACK" Bundle.steD, .laysStatic Bundle.tN "SUPPRESSED_SENTINEL" Bundle.listD]
theorem th_in : ∀ w ∈ th_B, w ∈ lw_tbl := by decide +kernel
theorem th_mv {s U : State} {args a' : Array Value} (hW : s.WarmedH U.vm) : ∀ w ∈ th_B, w.before args s = true → w.before a' U = true := by
  intro w hw h
  have hk : w.keepsFace = true := (by decide +kernel : ∀ w ∈ th_B, w.keepsFace = true) w hw
  have h1 := Cond.before_shiftedFace (State.Shifted.of_warmed hW) w hk h
  simp only [th_B, List.mem_cons, List.not_mem_nil, or_false] at hw
  rcases hw with rfl | rfl | rfl | rfl | rfl <;> exact h1
theorem th_w1 : Cond.classLink RX11 183 th_X ∈ GW_w := by decide +kernel
theorem th_w2 : Cond.initialized th_X ∈ GW_w := by decide +kernel
theorem th_w3 : Cond.instantiable th_X 6 ∈ GW_w := by decide +kernel
theorem tw_1 : ∀ w ∈ Bundle.throwableAtoms, w ∈ GW_w ∨ w ∈ th_B ∨ w ∈ th_S := by decide +kernel
theorem tw_2 : ∀ w ∈ Bundle.throwableSAtoms, w ∈ GW_w ∨ w ∈ th_B := by decide +kernel
theorem tw_3 : ∀ w ∈ Bundle.passSAtoms th_X "java/lang/RuntimeException" 13 prog_30_method_4_code, w ∈ GW_w ∨ w ∈ th_B := by decide +kernel
theorem tw_4 : ∀ w ∈ Bundle.chainSAtoms "java/lang/RuntimeException" ["java/lang/Exception"], w ∈ GW_w ∨ w ∈ th_B := by decide +kernel
theorem tw_5 : Cond.methodLink RX11 187 (Bundle.initS th_X) ∈ GW_w := by decide +kernel
theorem tw_6 : Cond.castable th_X th_X ∈ th_B := by decide +kernel
theorem tw_7 : Cond.selects th_X Bundle.tFill0 Bundle.tFill0 ∈ GW_w := by decide +kernel
theorem tw_8 : Cond.selects th_X Bundle.tFill Bundle.tFill ∈ GW_w := by decide +kernel
theorem tw_9 : Cond.lays th_X Bundle.tN "cause" "Ljava/lang/Throwable;" ∈ GW_w := by decide +kernel
theorem tw_10 : Cond.lays th_X Bundle.tN "stackTrace" Bundle.steD ∈ GW_w := by decide +kernel
theorem tw_11 : Cond.lays th_X Bundle.tN "suppressedExceptions" Bundle.listD ∈ GW_w := by decide +kernel
theorem tw_12 : Cond.lays th_X Bundle.tN "detailMessage" "Ljava/lang/String;" ∈ GW_w := by decide +kernel
theorem tw_13 : Cond.fieldLink Bundle.tN 198 Bundle.tN "backtrace" "Ljava/lang/Object;" ∈ GW_w := by decide +kernel
theorem tw_14 : Cond.lays Bundle.tN Bundle.tN "backtrace" "Ljava/lang/Object;" ∈ GW_w := by decide +kernel
theorem tw_15 : Cond.lays th_X Bundle.tN "backtrace" "Ljava/lang/Object;" ∈ GW_w := by decide +kernel
theorem td_0 : decode prog_30_method_4_code 0 = .ok (.aload_n 0, 1) := by decide +kernel
theorem td_1 : decode prog_30_method_4_code 1 = .ok (.aload_n 1, 1) := by decide +kernel
theorem td_2 : decode prog_30_method_4_code 2 = .ok (.invokespecial 13, 3) := by decide +kernel
theorem td_5 : decode prog_30_method_4_code 5 = .ok (.return_, 1) := by decide +kernel
/-- a static of the thrown things' class that holds a reference or null -/
def tz (n d : String) (A : Nat → Prop) (U : State) (H : Heap) : Prop := ∃ (c : ClassId) (k : Class) (i : Nat) (f : Field) (a : Nat) (cell : Cell) (v : Value), U.vm.findClass Bundle.tN = some c ∧ U.fieldFound? Bundle.tN n d = some (c, k, i, f) ∧ f.isStatic = true ∧ k.statics = some a ∧ k.staticTypes[f.slot]? = some f.type ∧ H[a]? = some cell ∧ cell.vm.isStatics = true ∧ cell.cls = c ∧ f.slot < cell.slots.size ∧ cell.slots[f.slot]? = some v ∧ (v = .null ∨ ∃ t, v = .ref t) ∧ ¬ A a
theorem tz_mv {n d : String} {A : Nat → Prop} {u U : State} {H : Heap} (hvm : u.vm.Alike U.vm) (h : tz n d A u H) : tz n d A U H := by
  obtain ⟨c, k, i, f, a, cell, v, h1, h2, h3, h4, h5, h6⟩ := h
  obtain ⟨k', hi', he⟩ := State.fieldFound?_setVm hvm h2
  exact ⟨c, k', i, f, a, cell, v, by rw [hvm.findClass]; exact h1, hi', h3, by rw [he]; exact h4, by rw [he]; exact h5, h6⟩
theorem tz_kp {n d : String} {A : Nat → Prop} {U : State} {H H1 : Heap} (h : tz n d A U H) (hq : ∀ a : Nat, a < H.size → ¬ A a → H1[a]? = H[a]?) : tz n d A U H1 := by
  obtain ⟨c, k, i, f, a, cell, v, h1, h2, h3, h4, h5, h6, h7, h8, h9, h10, h11, h12⟩ := h
  exact ⟨c, k, i, f, a, cell, v, h1, h2, h3, h4, h5, by rw [hq a (Array.getElem?_eq_some_iff.mp h6).1 h12]; exact h6, h7, h8, h9, h10, h11, h12⟩
theorem tz_nw {n d : String} {A B : Nat → Prop} {U : State} {H : Heap} (h : tz n d A U H) (hAB : ∀ q, B q → A q) : tz n d B U H := by
  obtain ⟨c, k, i, f, a, cell, v, h1, h2, h3, h4, h5, h6, h7, h8, h9, h10, h11, h12⟩ := h
  exact ⟨c, k, i, f, a, cell, v, h1, h2, h3, h4, h5, h6, h7, h8, h9, h10, h11, fun z => h12 (hAB a z)⟩
theorem tz_ly {n d : String} {A : Nat → Prop} {U : State} {args : Array Value} (h : tz n d A U U.heap) : (Cond.laysStatic Bundle.tN n d).before args U = true := by
  obtain ⟨c, k, i, f, a, cell, v, h1, h2, h3, h4, h5, h6, h7, h8, h9, h10, h11, h12⟩ := h
  simp [Cond.before, Cond.holds, Cond.value, h1, h2, h3, h4, h5, h6, h7, h8, h9]
theorem tz_rf {n d : String} {A : Nat → Prop} {U : State} {args : Array Value} (h : tz n d A U U.heap) : (Cond.isRef (.static Bundle.tN n d)).before args U = true := by
  obtain ⟨c, k, i, f, a, cell, v, h1, h2, h3, h4, h5, h6, h7, h8, h9, h10, h11, h12⟩ := h
  rcases h11 with rfl | ⟨t, rfl⟩
  · simp [Cond.before, Cond.holds, Cond.value, Term.eval, State.fieldNamed?, h2, h3, h4, h6, h7, h10]
  · simp [Cond.before, Cond.holds, Cond.value, Term.eval, State.fieldNamed?, h2, h3, h4, h6, h7, h10]
theorem tz_of {n d : String} {A : Nat → Prop} {s : State} {args : Array Value} (hl : (Cond.laysStatic Bundle.tN n d).before args s = true) (hr : (Cond.isRef (.static Bundle.tN n d)).before args s = true) (hA : ∀ a : Nat, a < s.heap.size → ¬ A a) : tz n d A s s.heap := by
  obtain ⟨c, k, i, f, a, cell, h1, h2, h3, h4, h5, h6, h7, h8, h9⟩ := Cond.laysStatic_spec hl
  have hv : cell.slots[f.slot]? = some cell.slots[f.slot] := Array.getElem?_eq_getElem h8
  have he : (Term.static Bundle.tN n d).eval args s none [] s = some cell.slots[f.slot] := by
    simp [Term.eval, State.fieldNamed?, h2, h3, h4, h5, h6, hv]
  refine ⟨c, k, i, f, a, cell, _, h1, h2, h3, h4, h9, h5, h6, h7, h8, hv, ?_, hA a (Array.getElem?_eq_some_iff.mp h5).1⟩
  simp only [Cond.before, Cond.holds, Cond.value, he] at hr
  cases hc : cell.slots[f.slot] with
  | null => exact Or.inl rfl
  | ref t => exact Or.inr ⟨t, rfl⟩
  | _ => rw [hc] at hr; simp at hr
def TZ (A : Nat → Prop) (U : State) (H : Heap) : Prop := tz "UNASSIGNED_STACK" Bundle.steD A U H ∧ tz "SUPPRESSED_SENTINEL" Bundle.listD A U H
