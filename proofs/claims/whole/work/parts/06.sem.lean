/-! ===== what a method's body does, from a place on: Sm; what a call does: Cl ===== -/
def ro_ok (ad : Nat → Nat) (A : Nat → Prop) (U : State) (H : Heap) : Prop :=
  (∀ i, i < ro_c → va_T .int (ad (1000 + i)) (ro_L.getD i []).length (fun j => .int ((ro_L.getD i []).getD j 0)) A U H ∧ va_Z RX9 (ro_N.getD i "") "[I" (.ref (ad (1000 + i))) A U H) ∧
  (va_Z "java/lang/String" "COMPACT_STRINGS" "Z" (.int 1) A U H ∧ va_Z "jdk/internal/util/Preconditions" "SIOOBE_FORMATTER" "Ljava/util/function/BiFunction;" (fo_V (ad 5000)) A U H) ∧
  (∀ i, i < st_c → va_O "java/lang/String" (ad (2000 + i)) A U H ∧ va_OF "java/lang/String" "coder" "B" (.int 0) (ad (2000 + i)) A U H ∧ va_OF "java/lang/String" "value" "[B" (.ref (ad (3000 + i))) (ad (2000 + i)) A U H ∧ va_T .byte (ad (3000 + i)) (st_B.getD i []).length (fun j => .int ((st_B.getD i []).getD j 0)) A U H) ∧
  ∀ i, i < st_c → vk_R (st_L.getD i ("", 0, "")).1 (st_L.getD i ("", 0, "")).2.1 (st_L.getD i ("", 0, "")).2.2 (ad (2000 + i)) U
theorem ro_mv {ad : Nat → Nat} {A : Nat → Prop} {u U : State} {H : Heap} (hW : u.WarmedH U.vm) (h : ro_ok ad A u H) : ro_ok ad A U H :=
  ⟨fun i hi => ⟨va_T.moved hW.alike (h.1 i hi).1, va_Z.moved hW.alike (h.1 i hi).2⟩, ⟨va_Z.moved hW.alike h.2.1.1, va_Z.moved hW.alike h.2.1.2⟩, fun i hi => ⟨va_O.moved hW.alike (h.2.2.1 i hi).1, va_OF.moved hW.alike (h.2.2.1 i hi).2.1, va_OF.moved hW.alike (h.2.2.1 i hi).2.2.1, va_T.moved hW.alike (h.2.2.1 i hi).2.2.2⟩, fun i hi => vk_R.warm hW (h.2.2.2 i hi)⟩
theorem ro_same {ad : Nat → Nat} {A : Nat → Prop} {u U : State} {H : Heap} (hv : U.vm = u.vm) (h : ro_ok ad A u H) : ro_ok ad A U H := by
  have ha : u.vm.Alike U.vm := by rw [hv]; exact Vm.Alike.refl _
  exact ⟨fun i hi => ⟨va_T.moved ha (h.1 i hi).1, va_Z.moved ha (h.1 i hi).2⟩, ⟨va_Z.moved ha h.2.1.1, va_Z.moved ha h.2.1.2⟩, fun i hi => ⟨va_O.moved ha (h.2.2.1 i hi).1, va_OF.moved ha (h.2.2.1 i hi).2.1, va_OF.moved ha (h.2.2.1 i hi).2.2.1, va_T.moved ha (h.2.2.1 i hi).2.2.2⟩, fun i hi => vk_R.same hv (h.2.2.2 i hi)⟩
theorem ro_kept {ad : Nat → Nat} {A : Nat → Prop} {U : State} {H H1 : Heap} (h : ro_ok ad A U H) (hq : ∀ a : Nat, a < H.size → ¬ A a → H1[a]? = H[a]?) : ro_ok ad A U H1 :=
  ⟨fun i hi => ⟨(h.1 i hi).1.kept hq, (h.1 i hi).2.kept hq⟩, ⟨h.2.1.1.kept hq, h.2.1.2.kept hq⟩, fun i hi => ⟨(h.2.2.1 i hi).1.kept hq, (h.2.2.1 i hi).2.1.kept hq, (h.2.2.1 i hi).2.2.1.kept hq, (h.2.2.1 i hi).2.2.2.kept hq⟩, h.2.2.2⟩
theorem ro_narrow {ad : Nat → Nat} {A B : Nat → Prop} {U : State} {H : Heap} (h : ro_ok ad A U H) (hAB : ∀ q, B q → A q) : ro_ok ad B U H :=
  ⟨fun i hi => ⟨(h.1 i hi).1.narrow hAB, (h.1 i hi).2.narrow hAB⟩, ⟨h.2.1.1.narrow hAB, h.2.1.2.narrow hAB⟩, fun i hi => ⟨(h.2.2.1 i hi).1.narrow hAB, (h.2.2.1 i hi).2.1.narrow hAB, (h.2.2.1 i hi).2.2.1.narrow hAB, (h.2.2.1 i hi).2.2.2.narrow hAB⟩, h.2.2.2⟩
def ty_L (tc : Nat → ClassId) : List (ClassId × FieldType) := [(tc 20, .int), (tc 21, .byte), (tc 22, .boolean), (tc 23, .long), (tc 24, .object "LabelRoom$Shelf"), (tc 25, .array .int)]
/-- a method: its name, its code, how many locals, what it returns -/
abbrev ME : Type := MethodName × ByteArray × Nat × Option FieldType
/-- the locals: what is known of each -/
def lo_ok (ad : Nat → Nat) (nL : Nat) (ls : List (Option AV)) (la : Array Slot) : Prop := la.size = nL ∧ lv_wf la ∧ ∀ (i : Nat) (v : AV), ls[i]? = some (some v) → la[i]? = some (Slot.val (av_V ad v))
/-- what stands fast while a method's body runs -/
def Cx (d : Nat) (me : ME) (p : Program) (R : Room) (s : State) (m : MethodId) (args : Array Value) (meth : Method) (c : Code) (ad : Nat → Nat) (tc : Nat → ClassId) (D : va_G) (A : Nat → Prop) : Prop :=
  p.tables.exec = Jvm.exec ∧ c.code = me.2.1 ∧ c.maxLocals = me.2.2.1 ∧ meth.sig.returnType = me.2.2.2 ∧ meth.locks = false ∧ s.vm.findClass me.1.cls = some m.cls ∧ (∀ w ∈ GW_w, w.before args s = true) ∧ va_K D vwCl (ty_L tc) s ∧ ro_ok ad A s s.heap ∧ (∀ q, s.heap.size ≤ q → A q) ∧ d ≤ R.frames ∧ 64 * d ≤ R.locals
def Qc_r (ad : Nat → Nat) (tc : Nat → ClassId) (D : va_G) (A : Nat → Prop) (Po : Option AV → MM → Prop) : Array Value → State → Outcome → State → Prop := fun _ st oc t =>
  (∃ (r : Option AV) (μ : MM), oc = .returned (r.map (av_V ad)) ∧ Po r μ ∧ va_P D vwCl (wo_w ad tc μ) t.heap) ∧ va_F A st t
def Sm (d : Nat) (me : ME) (pc : Nat) (ls : List (Option AV)) (st : List AV) (μ : MM) (Po : Option AV → MM → Prop) : Prop :=
  ∀ (p : Program) (l : Launch) (e : Env) (R : Room) (s : State) (m : MethodId) (args : Array Value) (below : List Frame) (meth : Method) (c : Code) (ad : Nat → Nat) (tc : Nat → ClassId) (D : va_G) (A : Nat → Prop), Cx d me p R s m args meth c ad tc D A →
    ∀ (H : Heap) (locs : List Loc) (la : Array Slot), va_P D vwCl (wo_w ad tc μ) H → va_D A (wo_w ad tc μ) → va_S A s.heap H locs → lo_ok ad me.2.2.1 ls la →
      W p l e R s m args below meth c H locs 0 0 (MQ below (Qc_r ad tc D A Po) args s 0 0 A) (F0 m pc la (st.map (av_V ad)))
abbrev Rm_d (d : Nat) : Room := { frames := d, cells := 0, slots := 0, locals := 64 * d }
def Pc_c (ad : Nat → Nat) (tc : Nat → ClassId) (D : va_G) (sz : Nat) (as : List AV) (μ : MM) : Array Value → State → Prop :=
  va_Pc (as.map (av_V ad)) (fun U => U.heap.size = sz ∧ va_P D vwCl (wo_w ad tc μ) U.heap ∧ va_K D vwCl (ty_L tc) U ∧ va_D (fun _ => True) (wo_w ad tc μ) ∧ ro_ok ad (va_A (wo_w ad tc μ) sz) U U.heap)
/-- a call of the method: from the memory μ it returns, with Po of its answer and of the memory then -/
def Cl (d : Nat) (me : ME) (as : List AV) (μ : MM) (Po : Option AV → MM → Prop) : Prop :=
  ∀ (l : Launch) (ad : Nat → Nat) (tc : Nat → ClassId) (D : va_G) (sz : Nat),
    Met l me.1 (Cond.code me.1 me.2.1 me.2.2.1 me.2.2.2 :: GW_w) (Rm_d d) (Pc_c ad tc D sz as μ) (Qc_r ad tc D (va_A (wo_w ad tc μ) sz) Po) 0 0 (va_A (wo_w ad tc μ) sz)
/-! entry -/
def en_l : List AV → List (Option AV)
  | [] => []
  | .inr (.inl x) :: vs => some (av_l x) :: none :: en_l vs
  | v :: vs => some v :: en_l vs
theorem en_in (ad : Nat → Nat) : ∀ (as : List AV) (i0 i : Nat) (v : AV), (en_l as)[i]? = some (some v) → (i0 + i, av_V ad v) ∈ lv_args i0 (as.map (av_V ad)) := by
  intro as
  induction as with
  | nil => intro i0 i v h; simp [en_l] at h
  | cons w ws ih =>
    intro i0 i v h
    rcases w with x | x | x | x
    · match i, h with
      | 0, h => cases h; exact List.mem_cons_self
      | i + 1, h => exact List.mem_cons_of_mem _ (by rw [show i0 + (i + 1) = (i0 + 1) + i by omega]; exact ih (i0 + 1) i v h)
    · match i, h with
      | 0, h => cases h; exact List.mem_cons_self
      | 1, h => simp [en_l] at h
      | i + 2, h => exact List.mem_cons_of_mem _ (by rw [show i0 + (i + 2) = (i0 + 2) + i by omega]; exact ih (i0 + 2) i v h)
    · match i, h with
      | 0, h => cases h; exact List.mem_cons_self
      | i + 1, h => exact List.mem_cons_of_mem _ (by rw [show i0 + (i + 1) = (i0 + 1) + i by omega]; exact ih (i0 + 1) i v h)
    · match i, h with
      | 0, h => cases h; exact List.mem_cons_self
      | i + 1, h =>
        refine List.mem_cons_of_mem _ ?_
        show (i0 + (i + 1), av_V ad v) ∈ lv_args (if (av_V ad (Sum.inr (Sum.inr (Sum.inr x)))).category = 2 then i0 + 2 else i0 + 1) (List.map (av_V ad) ws)
        rw [av_cat, if_neg (show ¬ av_c (Sum.inr (Sum.inr (Sum.inr x))) = 2 from (by decide : ¬ (1 : Nat) = 2)), show i0 + (i + 1) = (i0 + 1) + i by omega]
        exact ih (i0 + 1) i v h
theorem en_len (ad : Nat → Nat) : ∀ as : List AV, (lg_sl (as.map (av_V ad))).length = (en_l as).length := by
  intro as
  induction as with
  | nil => rfl
  | cons w ws ih =>
    have ih' : (List.flatMap (fun v : Value => if v.category = 2 then [Slot.val v, .second] else [.val v]) (ws.map (av_V ad))).length = (en_l ws).length := ih
    have e : (lg_sl ((w :: ws).map (av_V ad))).length = (if (av_V ad w).category = 2 then 2 else 1) + (en_l ws).length := by
      simp only [lg_sl, List.map_cons, List.flatMap_cons, List.length_append, ih']
      split <;> rfl
    rw [e, av_cat]
    rcases w with x | x | x | x <;> simp [av_c, en_l] <;> omega
/-- the locals at the entry -/
def en_L (as : List AV) (n : Nat) : List (Option AV) := en_l as ++ List.replicate (n - (en_l as).length) none
theorem en_ok (ad : Nat → Nat) (as : List AV) (n : Nat) (h : (en_l as).length ≤ n) : lo_ok ad n (en_L as n) ((lg_sl (as.map (av_V ad)) ++ List.replicate (n - (lg_sl (as.map (av_V ad))).length) Slot.unset).toArray) := by
  have hl := lv_entry (as.map (av_V ad)) (n := n) (by rw [en_len]; exact h)
  refine ⟨hl.1, hl.2.1, fun i v hi => ?_⟩
  have h1 : (en_l as)[i]? = some (some v) := by
    unfold en_L at hi
    by_cases hlt : i < (en_l as).length
    · rwa [List.getElem?_append_left hlt] at hi
    · rw [List.getElem?_append_right (by omega), List.getElem?_replicate] at hi
      split at hi <;> simp at hi
  have h2 := hl.2.2 _ (en_in ad as 0 i v h1)
  rwa [Nat.zero_add] at h2
theorem Cl_of {d : Nat} {me : ME} {as : List AV} {μ : MM} {Po : Option AV → MM → Prop} (hy : plainName me.1.cls = true) (hn : (en_l as).length ≤ me.2.2.1) (h : Sm d me 0 (en_L as me.2.2.1) [] μ Po) : Cl d me as μ Po := by
  intro l ad tc D sz
  refine Met.ofW (cc := me.2.1) (maxL := me.2.2.1) (ret := me.2.2.2) hy rfl ?_
  intro p e s m args below meth c s₁ B hml hv
  obtain ⟨rfl, hsz, hP, hK, hD0, hro⟩ := hv
  have hts := atoms_spec (ws := Cond.code me.1 me.2.1 me.2.2.1 me.2.2.2 :: GW_w) B.pre
  have hown : s.vm.findClass me.1.cls = some m.cls := findClass_of_methodNamed B.named
  subst hsz
  rw [lg_entry_eq]
  exact h p l e (headSpec (Cond.code me.1 me.2.1 me.2.2.1 me.2.2.2 :: GW_w) (Rm_d d)).room s m _ below meth c ad tc D (va_A (wo_w ad tc μ) s.heap.size) ⟨B.exec, B.bytes, hml, B.returns, B.notSynchronized, hown, fun w hw => hts w (List.mem_cons_of_mem _ hw), hK, hro, fun q hq => Or.inr hq, Nat.le_refl _, Nat.le_refl _⟩ s.heap [] _ hP hD0.self va_S.rf (en_ok ad as _ hn)
theorem Sm_mono {d : Nat} {me : ME} {pc : Nat} {ls : List (Option AV)} {st : List AV} {μ : MM} {Po Po' : Option AV → MM → Prop} (h : Sm d me pc ls st μ Po) (hp : ∀ r μ', Po r μ' → Po' r μ') : Sm d me pc ls st μ Po' := by
  intro p l e R s m args below meth c ad tc D A C H locs la hP hD hS hl T hT X
  obtain ⟨t, h1, o, h2, h3, ⟨⟨r, μ', g1, g2, g3⟩, g4⟩, h5⟩ := h p l e R s m args below meth c ad tc D A C H locs la hP hD hS hl T hT X
  exact ⟨t, h1, o, h2, h3, ⟨⟨r, μ', g1, hp r μ' g2, g3⟩, g4⟩, h5⟩
theorem Cl_mono {d : Nat} {me : ME} {as : List AV} {μ : MM} {Po Po' : Option AV → MM → Prop} (h : Cl d me as μ Po) (hp : ∀ r μ', Po r μ' → Po' r μ') : Cl d me as μ Po' := by
  intro l ad tc D sz p e ha hc hk s m args below hf hx hP hK
  obtain ⟨k, o, h1, h2, h3, ⟨⟨r, μ', g1, g2, g3⟩, g4⟩, h5⟩ := h l ad tc D sz p e ha hc hk s m args below hf hx hP hK
  exact ⟨k, o, h1, h2, h3, ⟨⟨r, μ', g1, hp r μ' g2, g3⟩, g4⟩, h5⟩
/-! fewer known locals -/
def lo_le : List (Option AV) → List (Option AV) → Prop
  | [], _ => True
  | none :: a, b => lo_le a b.tail
  | some v :: a, b => b.head? = some (some v) ∧ lo_le a b.tail
theorem lo_at : ∀ (a b : List (Option AV)), lo_le a b → ∀ (i : Nat) (v : AV), a[i]? = some (some v) → b[i]? = some (some v) := by
  intro a
  induction a with
  | nil => intro b _ i v h; simp at h
  | cons w a ih =>
    intro b hb i v h
    match w, hb, i, h with
    | none, hb, 0, h => simp at h
    | none, hb, i + 1, h => have := ih _ hb i v h; rwa [List.getElem?_tail] at this
    | some x, hb, 0, h => cases h; have := hb.1; rwa [List.head?_eq_getElem?] at this
    | some x, hb, i + 1, h => have := ih _ hb.2 i v h; rwa [List.getElem?_tail] at this
theorem Sm_weak {d : Nat} {me : ME} {pc : Nat} {ls ls' : List (Option AV)} {st : List AV} {μ : MM} {Po : Option AV → MM → Prop} (hle : lo_le ls ls') (h : Sm d me pc ls st μ Po) : Sm d me pc ls' st μ Po := by
  intro p l e R s m args below meth c ad tc D A C H locs la hP hD hS hl
  exact h p l e R s m args below meth c ad tc D A C H locs la hP hD hS ⟨hl.1, hl.2.1, fun i v hi => hl.2.2 i v (lo_at _ _ hle i v hi)⟩
/-! locals stored -/
def lo_pr (ad : Nat → Nat) (ls : List (Option AV)) : List (Nat × Value) := ls.zipIdx.filterMap (fun q => q.1.map (fun v => (q.2, av_V ad v)))
theorem lo_pr_in {ad : Nat → Nat} {ls : List (Option AV)} {i : Nat} {v : AV} (h : ls[i]? = some (some v)) : (i, av_V ad v) ∈ lo_pr ad ls := by
  refine List.mem_filterMap.mpr ⟨(some v, i), ?_, rfl⟩
  exact List.mem_zipIdx_iff_getElem?.mpr h
theorem lo_pr_of {ad : Nat → Nat} {ls : List (Option AV)} {q : Nat × Value} (h : q ∈ lo_pr ad ls) : ∃ v, ls[q.1]? = some (some v) ∧ q.2 = av_V ad v := by
  obtain ⟨⟨w, i⟩, h1, h2⟩ := List.mem_filterMap.mp h
  have h3 := List.mem_zipIdx_iff_getElem?.mp h1
  cases w with
  | none => simp at h2
  | some v => cases h2; exact ⟨v, h3, rfl⟩
theorem lo_has {ad : Nat → Nat} {nL : Nat} {ls : List (Option AV)} {la : Array Slot} (h : lo_ok ad nL ls la) : lv_has la nL (lo_pr ad ls) :=
  ⟨h.1, h.2.1, fun q hq => by
    obtain ⟨v, h1, h2⟩ := lo_pr_of hq
    rw [h2]
    exact h.2.2 _ _ h1⟩
/-- the local before i is no long -/
def lo_pv (ls : List (Option AV)) (i : Nat) : Prop := ∀ j w, j + 1 = i → ls[j]? = some (some w) → av_c w = 1
theorem lo_st1 {ad : Nat → Nat} {nL : Nat} {ls : List (Option AV)} {i : Nat} {v : AV} (hv : lo_pv ls i) {la' : Array Slot} (h : lv_has la' nL ((i, av_V ad v) :: (lo_pr ad ls).filter (fun q => !(q.1 == i) && !(q.1 + 1 == i && q.2.category == 2)))) : lo_ok ad nL (ls.set i (some v)) la' := by
  refine ⟨h.1, h.2.1, fun j w hj => ?_⟩
  by_cases hji : j = i
  · subst hji
    have hlt : j < ls.length := by
      have := (List.getElem?_eq_some_iff.mp hj).1
      simpa using this
    rw [List.getElem?_set_self hlt] at hj
    cases hj
    exact h.2.2 _ List.mem_cons_self
  · rw [List.getElem?_set_ne (Ne.symm hji)] at hj
    refine h.2.2 (j, av_V ad w) (List.mem_cons_of_mem _ (List.mem_filter.mpr ⟨lo_pr_in hj, ?_⟩))
    simp only [av_cat, Bool.and_eq_true, Bool.not_eq_true', beq_eq_false_iff_ne, ne_eq, Bool.and_eq_false_iff]
    refine ⟨hji, ?_⟩
    by_cases h1 : j + 1 = i
    · exact Or.inr (by rw [hv j w h1 hj]; decide)
    · exact Or.inl h1
theorem lo_st2 {ad : Nat → Nat} {nL : Nat} {ls : List (Option AV)} {i : Nat} {v : AV} (hv : lo_pv ls i) {la' : Array Slot} (h : lv_has la' nL ((i, av_V ad v) :: (lo_pr ad ls).filter (fun q => !(q.1 == i) && (!(q.1 == i + 1) && !(q.1 + 1 == i && q.2.category == 2))))) : lo_ok ad nL ((ls.set i (some v)).set (i + 1) none) la' := by
  refine ⟨h.1, h.2.1, fun j w hj => ?_⟩
  by_cases hj1 : j = i + 1
  · subst hj1
    rw [List.getElem?_set] at hj
    simp at hj
  · rw [List.getElem?_set_ne (Ne.symm hj1)] at hj
    by_cases hji : j = i
    · subst hji
      have hlt : j < ls.length := by
        have := (List.getElem?_eq_some_iff.mp hj).1
        simpa using this
      rw [List.getElem?_set_self hlt] at hj
      cases hj
      exact h.2.2 _ List.mem_cons_self
    · rw [List.getElem?_set_ne (Ne.symm hji)] at hj
      refine h.2.2 (j, av_V ad w) (List.mem_cons_of_mem _ (List.mem_filter.mpr ⟨lo_pr_in hj, ?_⟩))
      simp only [av_cat, Bool.and_eq_true, Bool.not_eq_true', beq_eq_false_iff_ne, ne_eq, Bool.and_eq_false_iff]
      refine ⟨hji, hj1, ?_⟩
      by_cases h1 : j + 1 = i
      · exact Or.inr (by rw [hv j w h1 hj]; decide)
      · exact Or.inl h1
theorem pv_0 {ls : List (Option AV)} : lo_pv ls 0 := fun j w h => by omega
theorem pv_n {ls : List (Option AV)} {j : Nat} (h : ls[j]? = some none) : lo_pv ls (j + 1) := fun k w e hk => by
  have : k = j := by omega
  subst this
  rw [h] at hk
  cases hk
theorem pv_i {ls : List (Option AV)} {j : Nat} {x : Int32} (h : ls[j]? = some (some (av_i x))) : lo_pv ls (j + 1) := fun k w e hk => by
  have : k = j := by omega
  subst this
  rw [h] at hk
  cases hk
  rfl
theorem pv_r {ls : List (Option AV)} {j : Nat} {x : Nat} (h : ls[j]? = some (some (av_r x))) : lo_pv ls (j + 1) := fun k w e hk => by
  have : k = j := by omega
  subst this
  rw [h] at hk
  cases hk
  rfl
