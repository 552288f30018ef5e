/-! ===== making objects: the world as far as it is made ===== -/
abbrev RR : Type := Nat → Nat → Option Nat
def cq_v (ad : Nat → Nat) (μ : MM) (ρ : RR) (a k : Nat) : Value := match fk_c (sh_k a) k with
  | 0 => .int (μ.1 a k)
  | 1 => .long (μ.2 a k)
  | _ => va_rf ((ρ a k).map ad)
def cq_a (ad : Nat → Nat) (μ : MM) (ρ : RR) (a : Nat) : (Nat → Int32) ⊕ (Nat → Int64) ⊕ (Nat → UInt32) ⊕ (Nat → UInt64) ⊕ (Nat → Option Nat) :=
  if sh_k a = 23 then .inr (.inl (μ.2 a)) else if 24 ≤ sh_k a then .inr (.inr (.inr (.inr (fun j => (ρ a j).map ad)))) else .inl (μ.1 a)
def cq_o (ad : Nat → Nat) (μ : MM) (ρ : RR) (a : Nat) : List Value := (List.range (sh_n a)).map (fun k => cq_v ad μ ρ a k)
def cq_e (ad : Nat → Nat) (tc : Nat → ClassId) (μ : MM) (ρ : RR) (a : Nat) : va_E :=
  if sh_k a < 20 then .inr (sh_k a, cq_o ad μ ρ a) else .inl (tc (sh_k a), sh_n a, cq_a ad μ ρ a)
def wq_w (nx : Nat) (ad : Nat → Nat) (tc : Nat → ClassId) (μ : MM) (ρ : RR) : va_W := (List.range nx).map (fun a => (ad a, cq_e ad tc μ ρ a))
theorem wq_get {nx : Nat} {ad : Nat → Nat} {tc : Nat → ClassId} {μ : MM} {ρ : RR} {a : Nat} (h : a < nx) : (wq_w nx ad tc μ ρ)[a]? = some (ad a, cq_e ad tc μ ρ a) := by
  simp only [wq_w, List.getElem?_map, List.getElem?_range h, Option.map_some]
theorem wq_inv {nx : Nat} {ad : Nat → Nat} {tc : Nat → ClassId} {μ : MM} {ρ : RR} {a : Nat} {q : Nat × va_E} (h : (wq_w nx ad tc μ ρ)[a]? = some q) : a < nx ∧ q = (ad a, cq_e ad tc μ ρ a) := by
  have hl : a < nx := by
    have := (List.getElem?_eq_some_iff.mp h).1
    simpa [wq_w] using this
  refine ⟨hl, ?_⟩
  rw [wq_get hl] at h
  exact (Option.some.inj h).symm
theorem wq_eq {nx : Nat} {ad ad' : Nat → Nat} {tc : Nat → ClassId} {μ μ' : MM} {ρ ρ' : RR} (h : ∀ a, a < nx → ad' a = ad a ∧ cq_e ad' tc μ' ρ' a = cq_e ad tc μ ρ a) : wq_w nx ad' tc μ' ρ' = wq_w nx ad tc μ ρ := by
  unfold wq_w
  apply List.map_congr_left
  intro a ha
  obtain ⟨h1, h2⟩ := h a (List.mem_range.mp ha)
  rw [h1, h2]
theorem wq_set {nx : Nat} {ad : Nat → Nat} {tc : Nat → ClassId} {μ μ' : MM} {ρ ρ' : RR} {a : Nat} {e : va_E} (he : cq_e ad tc μ' ρ' a = e) (ho : ∀ b, b ≠ a → cq_e ad tc μ' ρ' b = cq_e ad tc μ ρ b) : (wq_w nx ad tc μ ρ).set a (ad a, e) = wq_w nx ad tc μ' ρ' := by
  apply List.ext_getElem?
  intro i
  by_cases hi : i < nx
  · rw [wq_get hi]
    by_cases h : i = a
    · subst h
      rw [List.getElem?_set_self (by simpa [wq_w] using hi), he]
    · rw [List.getElem?_set_ne (Ne.symm h), wq_get hi, ho i h]
  · have h1 : (wq_w nx ad tc μ' ρ').length ≤ i := by simpa [wq_w] using hi
    have h2 : ((wq_w nx ad tc μ ρ).set a (ad a, e)).length ≤ i := by simpa [wq_w] using hi
    rw [List.getElem?_eq_none h1, List.getElem?_eq_none h2]
theorem wq_succ {nx : Nat} {ad : Nat → Nat} {tc : Nat → ClassId} {μ : MM} {ρ : RR} : wq_w (nx + 1) ad tc μ ρ = wq_w nx ad tc μ ρ ++ [(ad nx, cq_e ad tc μ ρ nx)] := by
  unfold wq_w
  rw [List.range_succ, List.map_append]
  rfl
/-- the references that are there lead to what is made, or to a text -/
def rq_ok (nx : Nat) (ρ : RR) : Prop := ∀ a k b, ρ a k = some b → b < nx ∨ 1000 ≤ b
def rq_p (ρ : RR) (a k b : Nat) : RR := fun x j => if x = a then (if j = k then some b else ρ x j) else ρ x j
theorem rq_pok {nx : Nat} {ρ : RR} {a k b : Nat} (h : rq_ok nx ρ) (hb : b < nx ∨ 1000 ≤ b) : rq_ok nx (rq_p ρ a k b) := by
  intro x j c hc
  unfold rq_p at hc
  split at hc
  · split at hc
    · cases hc; exact hb
    · exact h _ _ _ hc
  · exact h _ _ _ hc
theorem rq_up {nx m : Nat} {ρ : RR} (h : rq_ok nx ρ) (hm : nx ≤ m) : rq_ok m ρ := fun a k b hb => (h a k b hb).elim (fun q => Or.inl (by omega)) Or.inr
theorem cq_ad {ad ad' : Nat → Nat} {tc : Nat → ClassId} {μ : MM} {ρ : RR} {nx a : Nat} (hr : rq_ok nx ρ) (h : ∀ b, b < nx ∨ 1000 ≤ b → ad' b = ad b) : cq_e ad' tc μ ρ a = cq_e ad tc μ ρ a := by
  have e : ∀ k, (ρ a k).map ad' = (ρ a k).map ad := by
    intro k
    cases hk : ρ a k with
    | none => rfl
    | some b => rw [Option.map_some, Option.map_some, h b (hr a k b hk)]
  unfold cq_e cq_o cq_a cq_v
  simp only [e]
def nx_ad (ad : Nat → Nat) (nx q : Nat) : Nat → Nat := fun b => if b = nx then q else ad b
theorem nx_o {ad : Nat → Nat} {nx q b : Nat} (h : b < nx ∨ 1000 ≤ b) (hn : nx < 1000) : nx_ad ad nx q b = ad b := if_neg (by omega)
/-- sizes of all up to n -/
def ss_n : Nat → Nat
  | 0 => 0
  | n + 1 => ss_n n + sh_n n
theorem ss_le {a b : Nat} (h : a ≤ b) : ss_n a ≤ ss_n b := by
  induction b with
  | zero => have : a = 0 := by omega
            subst this; exact Nat.le_refl _
  | succ n ih =>
    by_cases h1 : a ≤ n
    · exact Nat.le_trans (ih h1) (Nat.le_add_right _ _)
    · have : a = n + 1 := by omega
      subst this; exact Nat.le_refl _
/-- links to the private constructors -/
def ne_L : List Cond := lw_tbl.filter (fun w => match w with | .methodLinkNest _ _ _ _ => true | _ => false)
def ne_ok (U : State) : Prop := ∀ own ix y host, Cond.methodLinkNest own ix y host ∈ lw_tbl → va_Nw (.methodLinkNest own ix y host) U
theorem ne_warm {s U : State} (hW : s.WarmedH U.vm) (h : ne_ok s) : ne_ok U := fun own ix y host hm => (h own ix y host hm).warmM hW
theorem ne_same {u U : State} (hv : u.vm = U.vm) (h : ne_ok u) : ne_ok U := fun own ix y host hm => (h own ix y host hm).same rfl hv
def ao_ok (s : State) : Prop := va_AO "LabelRoom$Shelf" s ∧ va_AOA .int s
theorem ao_mv {s U : State} (hvm : s.vm.Alike U.vm) (h : ao_ok s) : ao_ok U := ⟨va_AO.moved hvm h.1, va_AOA.moved hvm h.2⟩
def Ck_x (d : Nat) (me : ME) (n0 n1 : Nat) (p : Program) (R : Room) (s : State) (m : MethodId) (args : Array Value) (meth : Method) (c : Code) (ad : Nat → Nat) (tc : Nat → ClassId) (D : va_G) (A : Nat → Prop) : Prop :=
  p.tables.exec = Jvm.exec ∧ c.code = me.2.1 ∧ c.maxLocals = me.2.2.1 ∧ meth.sig.returnType = me.2.2.2 ∧ meth.locks = false ∧ s.vm.findClass me.1.cls = some m.cls ∧ (∀ w ∈ GW_w, w.before args s = true) ∧ va_K D vwCl (ty_L tc) s ∧ ro_ok ad A s s.heap ∧ (∀ q, s.heap.size ≤ q → A q) ∧ d ≤ R.frames ∧ 64 * d ≤ R.locals ∧ n1 - n0 ≤ R.cells ∧ ss_n n1 - ss_n n0 ≤ R.slots ∧ ne_ok s ∧ ao_ok s ∧ meth.name = me.1.name ∧ n1 ≤ 1000
def Qk_r (n0 n1 : Nat) (ad : Nat → Nat) (tc : Nat → ClassId) (D : va_G) (A : Nat → Prop) (μ1 : MM) (ρ1 : RR) : Array Value → State → Outcome → State → Prop := fun _ st oc t =>
  (oc = .returned none ∧ ∃ ad1 : Nat → Nat, (∀ b, b < n0 ∨ 1000 ≤ b → ad1 b = ad b) ∧ va_P D vwCl (wq_w n1 ad1 tc μ1 ρ1) t.heap ∧ va_D A (wq_w n1 ad1 tc μ1 ρ1)) ∧ va_F A st t
/-- from here on the constructor comes to its end, with n1 cells made, the memory μ1, the references ρ1 -/
def Sk (d : Nat) (me : ME) (n0 n1 : Nat) (μ1 : MM) (ρ1 : RR) (pc : Nat) (ls : List (Option AV)) (st : List AV) (nx : Nat) (μ : MM) (ρ : RR) : Prop :=
  ∀ (p : Program) (l : Launch) (e : Env) (R : Room) (s : State) (m : MethodId) (args : Array Value) (below : List Frame) (meth : Method) (c : Code) (ad0 : Nat → Nat) (tc : Nat → ClassId) (D : va_G) (A : Nat → Prop), Ck_x d me n0 n1 p R s m args meth c ad0 tc D A →
    ∀ (ad : Nat → Nat) (H : Heap) (locs : List Loc) (la : Array Slot), (∀ b, b < n0 ∨ 1000 ≤ b → ad b = ad0 b) → n0 ≤ nx → nx ≤ n1 → rq_ok nx ρ → va_P D vwCl (wq_w nx ad tc μ ρ) H → va_D A (wq_w nx ad tc μ ρ) → va_S A s.heap H locs → lo_ok ad me.2.2.1 ls la →
      W p l e R s m args below meth c H locs (nx - n0) (ss_n nx - ss_n n0) (MQ below (Qk_r n0 n1 ad0 tc D A μ1 ρ1) args s (n1 - n0) (ss_n n1 - ss_n n0) A) (F0 m pc la (st.map (av_V ad)))
def Pk_c (ad : Nat → Nat) (tc : Nat → ClassId) (D : va_G) (sz : Nat) (as : List AV) (n0 : Nat) (μ : MM) (ρ : RR) : Array Value → State → Prop :=
  va_Pc (as.map (av_V ad)) (fun U => U.heap.size = sz ∧ va_P D vwCl (wq_w n0 ad tc μ ρ) U.heap ∧ va_K D vwCl (ty_L tc) U ∧ va_D (fun _ => True) (wq_w n0 ad tc μ ρ) ∧ ro_ok ad (va_A (wq_w n0 ad tc μ ρ) sz) U U.heap ∧ ne_ok U ∧ ao_ok U)
abbrev Rm_k (d n0 n1 : Nat) : Room := { frames := d, cells := n1 - n0, slots := ss_n n1 - ss_n n0, locals := 64 * d }
def Ck (d : Nat) (me : ME) (as : List AV) (n0 : Nat) (μ : MM) (ρ : RR) (n1 : Nat) (μ1 : MM) (ρ1 : RR) : Prop :=
  ∀ (l : Launch) (ad : Nat → Nat) (tc : Nat → ClassId) (D : va_G) (sz : Nat),
    Met l me.1 (Cond.code me.1 me.2.1 me.2.2.1 me.2.2.2 :: GW_w) (Rm_k d n0 n1) (Pk_c ad tc D sz as n0 μ ρ) (Qk_r n0 n1 ad tc D (va_A (wq_w n0 ad tc μ ρ) sz) μ1 ρ1) (n1 - n0) (ss_n n1 - ss_n n0) (va_A (wq_w n0 ad tc μ ρ) sz)
theorem Ck_of {d : Nat} {me : ME} {as : List AV} {n0 n1 : Nat} {μ μ1 : MM} {ρ ρ1 : RR} (hy : plainName me.1.cls = true) (hn : (en_l as).length ≤ me.2.2.1) (h1 : n0 ≤ n1) (h2 : n1 ≤ 1000) (hr : rq_ok n0 ρ) (h : Sk d me n0 n1 μ1 ρ1 0 (en_L as me.2.2.1) [] n0 μ ρ) : Ck d me as n0 μ ρ n1 μ1 ρ1 := by
  intro l ad tc D sz
  refine Met.ofW (cc := me.2.1) (maxL := me.2.2.1) (ret := me.2.2.2) hy rfl ?_
  intro p e s m args below meth c s₁ B hml hv
  obtain ⟨rfl, hsz, hP, hK, hD0, hro, hne, hao⟩ := hv
  have hts := atoms_spec (ws := Cond.code me.1 me.2.1 me.2.2.1 me.2.2.2 :: GW_w) B.pre
  have hown : s.vm.findClass me.1.cls = some m.cls := findClass_of_methodNamed B.named
  subst hsz
  rw [lg_entry_eq]
  have := h p l e (headSpec (Cond.code me.1 me.2.1 me.2.2.1 me.2.2.2 :: GW_w) (Rm_k d n0 n1)).room s m _ below meth c ad tc D (va_A (wq_w n0 ad tc μ ρ) s.heap.size) ⟨B.exec, B.bytes, hml, B.returns, B.notSynchronized, hown, fun w hw => hts w (List.mem_cons_of_mem _ hw), hK, hro, fun q hq => Or.inr hq, Nat.le_refl _, Nat.le_refl _, Nat.le_refl _, Nat.le_refl _, hne, hao, (name_of_methodNamed B.named B.method).1, h2⟩ ad s.heap [] _ (fun _ _ => rfl) (Nat.le_refl _) h1 hr hP hD0.self va_S.rf (en_ok ad as _ hn)
  rw [Nat.sub_self, Nat.sub_self] at this
  exact this
theorem Sk_weak {d : Nat} {me : ME} {n0 n1 : Nat} {μ1 : MM} {ρ1 : RR} {pc : Nat} {ls ls' : List (Option AV)} {st : List AV} {nx : Nat} {μ : MM} {ρ : RR} (hle : lo_le ls ls') (h : Sk d me n0 n1 μ1 ρ1 pc ls st nx μ ρ) : Sk d me n0 n1 μ1 ρ1 pc ls' st nx μ ρ := by
  intro p l e R s m args below meth c ad0 tc D A C ad H locs la hg h0 h1 hr hP hD hS hl
  exact h p l e R s m args below meth c ad0 tc D A C ad H locs la hg h0 h1 hr hP hD hS ⟨hl.1, hl.2.1, fun i v hi => hl.2.2 i v (lo_at _ _ hle i v hi)⟩
/-- the same world, told otherwise -/
theorem Sk_eqv {d : Nat} {me : ME} {n0 n1 : Nat} {μ1 : MM} {ρ1 : RR} {pc : Nat} {ls : List (Option AV)} {st : List AV} {nx : Nat} {μ μ' : MM} {ρ ρ' : RR} (he : ∀ a, a < nx → ∀ (ad : Nat → Nat) (tc : Nat → ClassId), cq_e ad tc μ' ρ' a = cq_e ad tc μ ρ a) (hr : rq_ok nx ρ → rq_ok nx ρ') (h : Sk d me n0 n1 μ1 ρ1 pc ls st nx μ' ρ') : Sk d me n0 n1 μ1 ρ1 pc ls st nx μ ρ := by
  intro p l e R s m args below meth c ad0 tc D A C ad H locs la hg h0 h1 hr0 hP hD hS hl
  have e1 : wq_w nx ad tc μ' ρ' = wq_w nx ad tc μ ρ := wq_eq (fun a ha => ⟨rfl, he a ha ad tc⟩)
  exact h p l e R s m args below meth c ad0 tc D A C ad H locs la hg h0 h1 (hr hr0) (e1 ▸ hP) (e1 ▸ hD) hS hl
theorem ob_1 : Cond.instanceMethod objectInit ∈ lw_tbl := by decide +kernel
theorem ob_2 : Cond.code objectInit ⟨#[0xb1]⟩ 1 none ∈ lw_tbl := by decide +kernel
theorem sk_iconst {d : Nat} {me : ME} {n0 n1 : Nat} {μ1 : MM} {ρ1 : RR} {pc : Nat} {ls : List (Option AV)} {st : List AV} {nx : Nat} {μ : MM} {ρ : RR} {n : Int} {v : Int32} (hd : decode me.2.1 pc = .ok (.iconst n, 1)) (hv : Int32.ofInt n = v) (k : Sk d me n0 n1 μ1 ρ1 (pc + 1) ls (av_i v :: st) nx μ ρ) : Sk d me n0 n1 μ1 ρ1 pc ls st nx μ ρ := by
  intro p l e R s m args below meth c ad0 tc D A C ad H locs la hg h0 h1 hrq hP hD hS hl
  obtain ⟨hx, hb, hml, hr, hlk2, hown, hts, hK, hro, hA, hf, hlc, hcl, hsl, hne, hao, hnm, h1k⟩ := id C
  exact lv_iconst hx hb hd hv (k p l e R s m args below meth c ad0 tc D A C ad H locs la hg h0 h1 hrq hP hD hS hl)
theorem sk_bipush {d : Nat} {me : ME} {n0 n1 : Nat} {μ1 : MM} {ρ1 : RR} {pc : Nat} {ls : List (Option AV)} {st : List AV} {nx : Nat} {μ : MM} {ρ : RR} {n : Int} {v : Int32} (hd : decode me.2.1 pc = .ok (.bipush n, 2)) (hv : (Int8.ofInt n).toInt32 = v) (k : Sk d me n0 n1 μ1 ρ1 (pc + 2) ls (av_i v :: st) nx μ ρ) : Sk d me n0 n1 μ1 ρ1 pc ls st nx μ ρ := by
  intro p l e R s m args below meth c ad0 tc D A C ad H locs la hg h0 h1 hrq hP hD hS hl
  obtain ⟨hx, hb, hml, hr, hlk2, hown, hts, hK, hro, hA, hf, hlc, hcl, hsl, hne, hao, hnm, h1k⟩ := id C
  exact lv_bipush hx hb hd hv (k p l e R s m args below meth c ad0 tc D A C ad H locs la hg h0 h1 hrq hP hD hS hl)
theorem sk_sipush {d : Nat} {me : ME} {n0 n1 : Nat} {μ1 : MM} {ρ1 : RR} {pc : Nat} {ls : List (Option AV)} {st : List AV} {nx : Nat} {μ : MM} {ρ : RR} {n : Int} {v : Int32} (hd : decode me.2.1 pc = .ok (.sipush n, 3)) (hv : (Int16.ofInt n).toInt32 = v) (k : Sk d me n0 n1 μ1 ρ1 (pc + 3) ls (av_i v :: st) nx μ ρ) : Sk d me n0 n1 μ1 ρ1 pc ls st nx μ ρ := by
  intro p l e R s m args below meth c ad0 tc D A C ad H locs la hg h0 h1 hrq hP hD hS hl
  obtain ⟨hx, hb, hml, hr, hlk2, hown, hts, hK, hro, hA, hf, hlc, hcl, hsl, hne, hao, hnm, h1k⟩ := id C
  exact lv_sipush hx hb hd hv (k p l e R s m args below meth c ad0 tc D A C ad H locs la hg h0 h1 hrq hP hD hS hl)
theorem sk_lconst {d : Nat} {me : ME} {n0 n1 : Nat} {μ1 : MM} {ρ1 : RR} {pc : Nat} {ls : List (Option AV)} {st : List AV} {nx : Nat} {μ : MM} {ρ : RR} {n : Fin 2} {v : Int64} (hd : decode me.2.1 pc = .ok (.lconst n, 1)) (hv : Int64.ofNat (n : Nat) = v) (k : Sk d me n0 n1 μ1 ρ1 (pc + 1) ls (av_l v :: st) nx μ ρ) : Sk d me n0 n1 μ1 ρ1 pc ls st nx μ ρ := by
  intro p l e R s m args below meth c ad0 tc D A C ad H locs la hg h0 h1 hrq hP hD hS hl
  obtain ⟨hx, hb, hml, hr, hlk2, hown, hts, hK, hro, hA, hf, hlc, hcl, hsl, hne, hao, hnm, h1k⟩ := id C
  exact lv_lconst hx hb hd hv (k p l e R s m args below meth c ad0 tc D A C ad H locs la hg h0 h1 hrq hP hD hS hl)
theorem sk_iload_n {d : Nat} {me : ME} {n0 n1 : Nat} {μ1 : MM} {ρ1 : RR} {pc : Nat} {ls : List (Option AV)} {st : List AV} {nx : Nat} {μ : MM} {ρ : RR} {j : Fin 4} {i : Nat} {x : Int32} (hd : decode me.2.1 pc = .ok (.iload_n j, 1)) (hi : (j : Nat) = i) (h : ls[i]? = some (some (av_i x))) (k : Sk d me n0 n1 μ1 ρ1 (pc + 1) ls (av_i x :: st) nx μ ρ) : Sk d me n0 n1 μ1 ρ1 pc ls st nx μ ρ := by
  intro p l e R s m args below meth c ad0 tc D A C ad H locs la hg h0 h1 hrq hP hD hS hl
  obtain ⟨hx, hb, hml, hr, hlk2, hown, hts, hK, hro, hA, hf, hlc, hcl, hsl, hne, hao, hnm, h1k⟩ := id C
  exact lv_iload_n hx hb hd hi (hl.2.2 _ _ h) (k p l e R s m args below meth c ad0 tc D A C ad H locs la hg h0 h1 hrq hP hD hS hl)
theorem sk_aload_n {d : Nat} {me : ME} {n0 n1 : Nat} {μ1 : MM} {ρ1 : RR} {pc : Nat} {ls : List (Option AV)} {st : List AV} {nx : Nat} {μ : MM} {ρ : RR} {j : Fin 4} {i : Nat} {x : Nat} (hd : decode me.2.1 pc = .ok (.aload_n j, 1)) (hi : (j : Nat) = i) (h : ls[i]? = some (some (av_r x))) (k : Sk d me n0 n1 μ1 ρ1 (pc + 1) ls (av_r x :: st) nx μ ρ) : Sk d me n0 n1 μ1 ρ1 pc ls st nx μ ρ := by
  intro p l e R s m args below meth c ad0 tc D A C ad H locs la hg h0 h1 hrq hP hD hS hl
  obtain ⟨hx, hb, hml, hr, hlk2, hown, hts, hK, hro, hA, hf, hlc, hcl, hsl, hne, hao, hnm, h1k⟩ := id C
  exact lv_aload_n hx hb hd hi (hl.2.2 _ _ h) (k p l e R s m args below meth c ad0 tc D A C ad H locs la hg h0 h1 hrq hP hD hS hl)
theorem sk_istore_n {d : Nat} {me : ME} {n0 n1 : Nat} {μ1 : MM} {ρ1 : RR} {pc : Nat} {ls : List (Option AV)} {st : List AV} {nx : Nat} {μ : MM} {ρ : RR} {j : Fin 4} {i : Nat} {x : Int32} (hd : decode me.2.1 pc = .ok (.istore_n j, 1)) (hi : (j : Nat) = i) (hn : i < me.2.2.1) (hv : lo_pv ls i) (k : Sk d me n0 n1 μ1 ρ1 (pc + 1) (ls.set i (some (av_i x))) st nx μ ρ) : Sk d me n0 n1 μ1 ρ1 pc ls (av_i x :: st) nx μ ρ := by
  intro p l e R s m args below meth c ad0 tc D A C ad H locs la hg h0 h1 hrq hP hD hS hl
  obtain ⟨hx, hb, hml, hr, hlk2, hown, hts, hK, hro, hA, hf, hlc, hcl, hsl, hne, hao, hnm, h1k⟩ := id C
  exact lv_istore_n hx hb hd hi (lo_has hl) hn rfl (fun la2 h2 => (k p l e R s m args below meth c ad0 tc D A C ad H locs la2 hg h0 h1 hrq hP hD hS (lo_st1 hv h2)))
theorem sk_iinc {d : Nat} {me : ME} {n0 n1 : Nat} {μ1 : MM} {ρ1 : RR} {pc : Nat} {ls : List (Option AV)} {st : List AV} {nx : Nat} {μ : MM} {ρ : RR} {i : Nat} {n : Int} {x v : Int32} (hd : decode me.2.1 pc = .ok (.iinc i n, 3)) (h : ls[i]? = some (some (av_i x))) (he : x + Int32.ofInt n = v) (hn : i < me.2.2.1) (hv : lo_pv ls i) (k : Sk d me n0 n1 μ1 ρ1 (pc + 3) (ls.set i (some (av_i v))) st nx μ ρ) : Sk d me n0 n1 μ1 ρ1 pc ls st nx μ ρ := by
  intro p l e R s m args below meth c ad0 tc D A C ad H locs la hg h0 h1 hrq hP hD hS hl
  obtain ⟨hx, hb, hml, hr, hlk2, hown, hts, hK, hro, hA, hf, hlc, hcl, hsl, hne, hao, hnm, h1k⟩ := id C
  obtain ⟨j, hj⟩ := List.getElem?_of_mem (lo_pr_in (ad := ad) h)
  exact lv_iinc hx hb hd (lo_has hl) hj he hn rfl (fun la2 h2 => (k p l e R s m args below meth c ad0 tc D A C ad H locs la2 hg h0 h1 hrq hP hD hS (lo_st1 hv h2)))
theorem sk_imul {d : Nat} {me : ME} {n0 n1 : Nat} {μ1 : MM} {ρ1 : RR} {pc : Nat} {ls : List (Option AV)} {st : List AV} {nx : Nat} {μ : MM} {ρ : RR} {x y : Int32} (hd : decode me.2.1 pc = .ok (.imul, 1))  (k : Sk d me n0 n1 μ1 ρ1 (pc + 1) ls (av_i (x * y) :: st) nx μ ρ) : Sk d me n0 n1 μ1 ρ1 pc ls (av_i y :: av_i x :: st) nx μ ρ := by
  intro p l e R s m args below meth c ad0 tc D A C ad H locs la hg h0 h1 hrq hP hD hS hl
  obtain ⟨hx, hb, hml, hr, hlk2, hown, hts, hK, hro, hA, hf, hlc, hcl, hsl, hne, hao, hnm, h1k⟩ := id C
  exact lv_imul hx hb hd (k p l e R s m args below meth c ad0 tc D A C ad H locs la hg h0 h1 hrq hP hD hS hl)
theorem sk_dup {d : Nat} {me : ME} {n0 n1 : Nat} {μ1 : MM} {ρ1 : RR} {pc : Nat} {ls : List (Option AV)} {st : List AV} {nx : Nat} {μ : MM} {ρ : RR} {v : AV} (hd : decode me.2.1 pc = .ok (.dup, 1)) (hv : av_c v = 1) (k : Sk d me n0 n1 μ1 ρ1 (pc + 1) ls (v :: v :: st) nx μ ρ) : Sk d me n0 n1 μ1 ρ1 pc ls (v :: st) nx μ ρ := by
  intro p l e R s m args below meth c ad0 tc D A C ad H locs la hg h0 h1 hrq hP hD hS hl
  obtain ⟨hx, hb, hml, hr, hlk2, hown, hts, hK, hro, hA, hf, hlc, hcl, hsl, hne, hao, hnm, h1k⟩ := id C
  exact lv_dup hx hb hd ((av_cat ad _).trans hv) (k p l e R s m args below meth c ad0 tc D A C ad H locs la hg h0 h1 hrq hP hD hS hl)
theorem sk_icmp_ge {d : Nat} {me : ME} {n0 n1 : Nat} {μ1 : MM} {ρ1 : RR} {pc : Nat} {ls : List (Option AV)} {st : List AV} {nx : Nat} {μ : MM} {ρ : RR} {x y : Int32} {off : Int} {tgt : Nat} (hd : decode me.2.1 pc = .ok (.if_icmp .ge off, 3)) (ht : (pc : Int) + off = (tgt : Int)) (kt : y ≤ x → Sk d me n0 n1 μ1 ρ1 tgt ls st nx μ ρ) (kf : ¬ y ≤ x → Sk d me n0 n1 μ1 ρ1 (pc + 3) ls st nx μ ρ) : Sk d me n0 n1 μ1 ρ1 pc ls (av_i y :: av_i x :: st) nx μ ρ := by
  intro p l e R s m args below meth c ad0 tc D A C ad H locs la hg h0 h1 hrq hP hD hS hl
  obtain ⟨hx, hb, hml, hr, hlk2, hown, hts, hK, hro, hA, hf, hlc, hcl, hsl, hne, hao, hnm, h1k⟩ := id C
  exact lv_icmp_ge hx hb hd ht (fun q => (kt q p l e R s m args below meth c ad0 tc D A C ad H locs la hg h0 h1 hrq hP hD hS hl)) (fun q => (kf q p l e R s m args below meth c ad0 tc D A C ad H locs la hg h0 h1 hrq hP hD hS hl))
theorem sk_goto {d : Nat} {me : ME} {n0 n1 : Nat} {μ1 : MM} {ρ1 : RR} {pc : Nat} {ls : List (Option AV)} {st : List AV} {nx : Nat} {μ : MM} {ρ : RR} {off : Int} {tgt : Nat} (hd : decode me.2.1 pc = .ok (.goto off, 3)) (ht : (pc : Int) + off = (tgt : Int)) (k : Sk d me n0 n1 μ1 ρ1 tgt ls st nx μ ρ) : Sk d me n0 n1 μ1 ρ1 pc ls st nx μ ρ := by
  intro p l e R s m args below meth c ad0 tc D A C ad H locs la hg h0 h1 hrq hP hD hS hl
  obtain ⟨hx, hb, hml, hr, hlk2, hown, hts, hK, hro, hA, hf, hlc, hcl, hsl, hne, hao, hnm, h1k⟩ := id C
  exact lv_goto hx hb hd ht (k p l e R s m args below meth c ad0 tc D A C ad H locs la hg h0 h1 hrq hP hD hS hl)
theorem sk_ldcS {d : Nat} {me : ME} {n0 n1 : Nat} {μ1 : MM} {ρ1 : RR} {pc : Nat} {ls : List (Option AV)} {st : List AV} {nx : Nat} {μ : MM} {ρ : RR} {i ix : Nat} {tx : String} (hd : decode me.2.1 pc = .ok (.ldc ix, 2)) (hi : i < st_c) (he : st_L.getD i ("", 0, "") = (me.1.cls, ix, tx)) (k : Sk d me n0 n1 μ1 ρ1 (pc + 2) ls (av_r (2000 + i) :: st) nx μ ρ) : Sk d me n0 n1 μ1 ρ1 pc ls st nx μ ρ := by
  intro p l e R s m args below meth c ad0 tc D A C ad H locs la hg h0 h1 hrq hP hD hS hl
  obtain ⟨hx, hb, hml, hr, hlk2, hown, hts, hK, hro, hA, hf, hlc, hcl, hsl, hne, hao, hnm, h1k⟩ := id C
  have h2 := hro.2.2.2 i hi
  rw [he, ← hg (2000 + i) (Or.inr (by omega))] at h2
  exact va_ldcS hx hb hown h2 hd (k p l e R s m args below meth c ad0 tc D A C ad H locs la hg h0 h1 hrq hP hD hS hl)
theorem sk_obj {d : Nat} {me : ME} {n0 n1 : Nat} {μ1 : MM} {ρ1 : RR} {pc : Nat} {ls : List (Option AV)} {st : List AV} {nx : Nat} {μ : MM} {ρ : RR} {a ix : Nat} (hd : decode me.2.1 pc = .ok (.invokespecial ix, 3)) (hlk : Cond.methodLink me.1.cls ix objectInit ∈ lw_tbl) (hst : (st.map av_c).sum ≤ 8) (hd1 : 1 ≤ d) (k : Sk d me n0 n1 μ1 ρ1 (pc + 3) ls st nx μ ρ) : Sk d me n0 n1 μ1 ρ1 pc ls (av_r a :: st) nx μ ρ := by
  intro p l e R s m args below meth c ad0 tc D A C ad H locs la hg h0 h1 hrq hP hD hS hl
  obtain ⟨hx, hb, hml, hr, hlk2, hown, hts, hK, hro, hA, hf, hlc, hcl, hsl, hne, hao, hnm, h1k⟩ := id C
  refine W.objInit hx hb hown (hts _ (GW_in hlk rfl)) (hts _ (GW_in ob_1 rfl)) (hts _ (GW_in ob_2 rfl)) rfl (by show la.size = _; rw [hml, hl.1]) rfl hd (by omega) (by
    have h9 : 2 * (F0 m pc la (av_V ad (av_r a) :: st.map (av_V ad))).monitorRoom + ((st.map (av_V ad)).map fun v => v.category).sum ≤ 8 := lv_room (by rw [cl_sum]; exact hst)
    exact Nat.le_trans (Nat.add_le_add_right h9 12) (by omega)) ?_
  exact (k p l e R s m args below meth c ad0 tc D A C ad H locs la hg h0 h1 hrq hP hD hS hl)
theorem sk_ret {d : Nat} {me : ME} {n0 n1 : Nat} {μ1 : MM} {ρ1 : RR} {pc : Nat} {ls : List (Option AV)} {st : List AV} {nx : Nat} {μ : MM} {ρ : RR} (hd : decode me.2.1 pc = .ok (.return_, 1)) (hq : me.2.2.2 = none) (hn : nx = n1) (he : ∀ a, a < n1 → ∀ (ad : Nat → Nat) (tc : Nat → ClassId), cq_e ad tc μ ρ a = cq_e ad tc μ1 ρ1 a) : Sk d me n0 n1 μ1 ρ1 pc ls [] nx μ ρ := by
  intro p l e R s m args below meth c ad0 tc D A C ad H locs la hg h0 h1 hrq hP hD hS hl
  obtain ⟨hx, hb, hml, hr, hlk2, hown, hts, hK, hro, hA, hf, hlc, hcl, hsl, hne, hao, hnm, h1k⟩ := id C
  subst hn
  have e1 : wq_w nx ad tc μ ρ = wq_w nx ad tc μ1 ρ1 := wq_eq (fun a ha => ⟨rfl, he a ha ad tc⟩)
  rw [e1] at hP hD
  exact W.vret hx hb (hr.trans hq) (fun t ht hW => ⟨⟨rfl, ad, hg, by rw [ht]; exact hP, hD⟩, hS.F ht⟩) hS.2.2 hd hlk2
theorem cq_ob {nx : Nat} {ad : Nat → Nat} {tc : Nat → ClassId} {μ : MM} {ρ : RR} {a ci : Nat} (h : sh_k a = ci) (hc : ci < 20) (ha : a < nx) : (wq_w nx ad tc μ ρ)[a]? = some (ad a, .inr (ci, cq_o ad μ ρ a)) := by
  subst h
  rw [wq_get ha, cq_e, if_pos hc]
theorem cq_at {ad : Nat → Nat} {μ : MM} {ρ : RR} {a k : Nat} (hk : k < sh_n a) : (cq_o ad μ ρ a)[k]? = some (cq_v ad μ ρ a k) := by
  simp only [cq_o, List.getElem?_map, List.getElem?_range hk, Option.map_some]
theorem cq_of {ad : Nat → Nat} {tc : Nat → ClassId} {μ μ' : MM} {ρ ρ' : RR} {b : Nat} (h1 : μ'.1 b = μ.1 b) (h2 : μ'.2 b = μ.2 b) (h3 : ρ' b = ρ b) : cq_e ad tc μ' ρ' b = cq_e ad tc μ ρ b := by
  unfold cq_e cq_o cq_a
  have e : ∀ k, cq_v ad μ' ρ' b k = cq_v ad μ ρ b k := fun k => by unfold cq_v; rw [h1, h2, h3]
  simp only [e, h1, h2, h3]
theorem cq_oset {ad : Nat → Nat} {μ μ' : MM} {ρ ρ' : RR} {a k : Nat} {v : Value} (hk : k < sh_n a) (he : cq_v ad μ' ρ' a k = v) (ho : ∀ j, j ≠ k → cq_v ad μ' ρ' a j = cq_v ad μ ρ a j) : cq_o ad μ' ρ' a = (cq_o ad μ ρ a).set k v := by
  apply List.ext_getElem?
  intro i
  by_cases hi : i < sh_n a
  · rw [cq_at hi]
    by_cases h : i = k
    · subst h
      rw [List.getElem?_set_self (by simpa [cq_o] using hi), he]
    · rw [List.getElem?_set_ne (Ne.symm h), cq_at hi, ho i h]
  · have h1 : (cq_o ad μ' ρ' a).length ≤ i := by simpa [cq_o] using hi
    have h2 : ((cq_o ad μ ρ a).set k v).length ≤ i := by simpa [cq_o] using hi
    rw [List.getElem?_eq_none h1, List.getElem?_eq_none h2]
theorem rq_ne {ρ : RR} {a k b c : Nat} (h : c ≠ a) : rq_p ρ a k b c = ρ c := by
  funext j
  simp [rq_p, h]
theorem sk_getR {d : Nat} {me : ME} {n0 n1 : Nat} {μ1 : MM} {ρ1 : RR} {pc : Nat} {ls : List (Option AV)} {st : List AV} {nx : Nat} {μ : MM} {ρ : RR} {a ci k ix b : Nat} (hd : decode me.2.1 pc = .ok (.getfield ix, 3)) (hfl : FL me.1.cls ix ci k) (hc : ci < 20) (hk : 2 ≤ fk_c ci k) (ha : sh_k a = ci) (hax : a < nx) (hrf : ρ a k = some b) (kk : Sk d me n0 n1 μ1 ρ1 (pc + 3) ls (av_r b :: st) nx μ ρ) : Sk d me n0 n1 μ1 ρ1 pc ls (av_r a :: st) nx μ ρ := by
  intro p l e R s m args below meth c ad0 tc D A C ad H locs la hg h0 h1 hrq hP hD hS hl
  obtain ⟨hx, hb, hml, hr, hlk2, hown, hts, hK, hro, hA, hf, hlc, hcl, hsl, hne, hao, hnm, h1k⟩ := id C
  obtain ⟨⟨cn, ct, n⟩, f1, f2, f3⟩ := hfl
  have hn : sh_n a = n := by
    have := sh_cl (a := a) (by omega)
    rw [ha, f1] at this
    exact (Option.some.inj this).symm
  have hv : cq_v ad μ ρ a k = .ref (ad b) := by
    have : cq_v ad μ ρ a k = va_rf ((ρ a k).map ad) := by
      unfold cq_v
      rw [ha]
      generalize fk_c ci k = t at hk
      match t, hk with
      | 0, hk => omega
      | 1, hk => omega
      | t + 2, _ => rfl
    rw [this, hrf]
    rfl
  exact va_get (C := cn) (T := ct) (N := n) hx hb hts (cl_in ci _ f1) hown hK hP a (cq_ob ha hc hax) f1 k f2 (hts _ (GW_in f3 rfl)) (fun _ h => h) (by rw [cq_at (by rw [hn]; exact f2), hv]; rfl) hd (kk p l e R s m args below meth c ad0 tc D A C ad H locs la hg h0 h1 hrq hP hD hS hl)
theorem sk_putI {d : Nat} {me : ME} {n0 n1 : Nat} {μ1 : MM} {ρ1 : RR} {pc : Nat} {ls : List (Option AV)} {st : List AV} {nx : Nat} {μ : MM} {ρ : RR} {a ci k ix : Nat} {x : Int32} (hd : decode me.2.1 pc = .ok (.putfield ix, 3)) (hfl : FL me.1.cls ix ci k) (hc : ci < 20) (hk : cl_ty ci k = .int) (hfin : ∀ q : vw_C, vwCl[ci]? = some q → (q.2.1 k).2.2.2 = false) (ha : sh_k a = ci) (hax : a < nx) (kk : Sk d me n0 n1 μ1 ρ1 (pc + 3) ls st nx (mm_I μ a k x) ρ) : Sk d me n0 n1 μ1 ρ1 pc ls (av_i x :: av_r a :: st) nx μ ρ := by
  intro p l e R s m args below meth c ad0 tc D A C ad H locs la hg h0 h1 hrq hP hD hS hl
  obtain ⟨hx, hb, hml, hr, hlk2, hown, hts, hK, hro, hA, hf, hlc, hcl, hsl, hne, hao, hnm, h1k⟩ := id C
  obtain ⟨⟨cn, ct, n⟩, f1, f2, f3⟩ := hfl
  have hn : sh_n a = n := by
    have := sh_cl (a := a) (by omega)
    rw [ha, f1] at this
    exact (Option.some.inj this).symm
  refine va_put (C := cn) (T := ct) (N := n) (ty := .int) hx hb hts (cl_in ci _ f1) (cl_ty ci) (cl_tyok ci _ f1) (cl_nm ci _ f1) hown hK hP hD hS a (cq_ob ha hc hax) f1 k f2 (hts _ (GW_in f3 rfl)) (fun _ h => h) (hfin _ f1) ((cl_tyok ci _ f1 k f2).trans (congrArg some hk)) rfl rfl (by rw [cq_o, List.length_map, List.length_range, hn]; exact f2) hd (fun H1 locs1 hP1 hD1 hS1 => ?_)
  have eW : (wq_w nx ad tc μ ρ).set a (ad a, .inr (ci, (cq_o ad μ ρ a).set k (.int x))) = wq_w nx ad tc (mm_I μ a k x) ρ := by
    refine wq_set ?_ (fun b hb2 => cq_of (up_2_ne hb2) rfl rfl)
    rw [cq_e, if_pos (by omega), ha]
    rw [cq_oset (μ := μ) (ρ := ρ) (μ' := mm_I μ a k x) (ρ' := ρ) (k := k) (v := .int x) (by rw [hn]; exact f2) (by unfold cq_v; rw [ha, fk_c, if_neg (by rintro ⟨rfl, rfl⟩; cases hk), hk]; simp [fk_k, mm_I, up_2]) (fun j hj => by unfold cq_v; simp [mm_I, up_2, hj])]
  exact (kk p l e R s m args below meth c ad0 tc D A C ad H1 locs1 la hg h0 h1 hrq (eW ▸ hP1) (eW ▸ hD1) hS1 hl)
theorem sk_putZ {d : Nat} {me : ME} {n0 n1 : Nat} {μ1 : MM} {ρ1 : RR} {pc : Nat} {ls : List (Option AV)} {st : List AV} {nx : Nat} {μ : MM} {ρ : RR} {a ci k ix : Nat}  (hd : decode me.2.1 pc = .ok (.putfield ix, 3)) (hfl : FL me.1.cls ix ci k) (hc : ci < 20) (hk : cl_ty ci k = .boolean) (hfin : ∀ q : vw_C, vwCl[ci]? = some q → (q.2.1 k).2.2.2 = false) (ha : sh_k a = ci) (hax : a < nx) (kk : Sk d me n0 n1 μ1 ρ1 (pc + 3) ls st nx (mm_I μ a k 0) ρ) : Sk d me n0 n1 μ1 ρ1 pc ls (av_i 0 :: av_r a :: st) nx μ ρ := by
  intro p l e R s m args below meth c ad0 tc D A C ad H locs la hg h0 h1 hrq hP hD hS hl
  obtain ⟨hx, hb, hml, hr, hlk2, hown, hts, hK, hro, hA, hf, hlc, hcl, hsl, hne, hao, hnm, h1k⟩ := id C
  obtain ⟨⟨cn, ct, n⟩, f1, f2, f3⟩ := hfl
  have hn : sh_n a = n := by
    have := sh_cl (a := a) (by omega)
    rw [ha, f1] at this
    exact (Option.some.inj this).symm
  refine va_put (C := cn) (T := ct) (N := n) (ty := .boolean) hx hb hts (cl_in ci _ f1) (cl_ty ci) (cl_tyok ci _ f1) (cl_nm ci _ f1) hown hK hP hD hS a (cq_ob ha hc hax) f1 k f2 (hts _ (GW_in f3 rfl)) (fun _ h => h) (hfin _ f1) ((cl_tyok ci _ f1 k f2).trans (congrArg some hk)) rfl rfl (by rw [cq_o, List.length_map, List.length_range, hn]; exact f2) hd (fun H1 locs1 hP1 hD1 hS1 => ?_)
  have eW : (wq_w nx ad tc μ ρ).set a (ad a, .inr (ci, (cq_o ad μ ρ a).set k (.int 0))) = wq_w nx ad tc (mm_I μ a k 0) ρ := by
    refine wq_set ?_ (fun b hb2 => cq_of (up_2_ne hb2) rfl rfl)
    rw [cq_e, if_pos (by omega), ha]
    rw [cq_oset (μ := μ) (ρ := ρ) (μ' := mm_I μ a k 0) (ρ' := ρ) (k := k) (v := .int 0) (by rw [hn]; exact f2) (by unfold cq_v; rw [ha, fk_c, if_neg (by rintro ⟨rfl, rfl⟩; cases hk), hk]; simp [fk_k, mm_I, up_2]) (fun j hj => by unfold cq_v; simp [mm_I, up_2, hj])]
  exact (kk p l e R s m args below meth c ad0 tc D A C ad H1 locs1 la hg h0 h1 hrq (eW ▸ hP1) (eW ▸ hD1) hS1 hl)
theorem sk_putJ {d : Nat} {me : ME} {n0 n1 : Nat} {μ1 : MM} {ρ1 : RR} {pc : Nat} {ls : List (Option AV)} {st : List AV} {nx : Nat} {μ : MM} {ρ : RR} {a ci k ix : Nat} {x : Int64} (hd : decode me.2.1 pc = .ok (.putfield ix, 3)) (hfl : FL me.1.cls ix ci k) (hc : ci < 20) (hk : cl_ty ci k = .long) (hfin : ∀ q : vw_C, vwCl[ci]? = some q → (q.2.1 k).2.2.2 = false) (ha : sh_k a = ci) (hax : a < nx) (kk : Sk d me n0 n1 μ1 ρ1 (pc + 3) ls st nx (mm_J μ a k x) ρ) : Sk d me n0 n1 μ1 ρ1 pc ls (av_l x :: av_r a :: st) nx μ ρ := by
  intro p l e R s m args below meth c ad0 tc D A C ad H locs la hg h0 h1 hrq hP hD hS hl
  obtain ⟨hx, hb, hml, hr, hlk2, hown, hts, hK, hro, hA, hf, hlc, hcl, hsl, hne, hao, hnm, h1k⟩ := id C
  obtain ⟨⟨cn, ct, n⟩, f1, f2, f3⟩ := hfl
  have hn : sh_n a = n := by
    have := sh_cl (a := a) (by omega)
    rw [ha, f1] at this
    exact (Option.some.inj this).symm
  refine va_put (C := cn) (T := ct) (N := n) (ty := .long) hx hb hts (cl_in ci _ f1) (cl_ty ci) (cl_tyok ci _ f1) (cl_nm ci _ f1) hown hK hP hD hS a (cq_ob ha hc hax) f1 k f2 (hts _ (GW_in f3 rfl)) (fun _ h => h) (hfin _ f1) ((cl_tyok ci _ f1 k f2).trans (congrArg some hk)) rfl rfl (by rw [cq_o, List.length_map, List.length_range, hn]; exact f2) hd (fun H1 locs1 hP1 hD1 hS1 => ?_)
  have eW : (wq_w nx ad tc μ ρ).set a (ad a, .inr (ci, (cq_o ad μ ρ a).set k (.long x))) = wq_w nx ad tc (mm_J μ a k x) ρ := by
    refine wq_set ?_ (fun b hb2 => cq_of rfl (up_2_ne hb2) rfl)
    rw [cq_e, if_pos (by omega), ha]
    rw [cq_oset (μ := μ) (ρ := ρ) (μ' := mm_J μ a k x) (ρ' := ρ) (k := k) (v := .long x) (by rw [hn]; exact f2) (by unfold cq_v; rw [ha, fk_c, if_neg (by rintro ⟨rfl, rfl⟩; cases hk), hk]; simp [fk_k, mm_J, up_2]) (fun j hj => by unfold cq_v; simp [mm_J, up_2, hj])]
  exact (kk p l e R s m args below meth c ad0 tc D A C ad H1 locs1 la hg h0 h1 hrq (eW ▸ hP1) (eW ▸ hD1) hS1 hl)
theorem sk_putF {d : Nat} {me : ME} {n0 n1 : Nat} {μ1 : MM} {ρ1 : RR} {pc : Nat} {ls : List (Option AV)} {st : List AV} {nx : Nat} {μ : MM} {ρ : RR} {a ci k ix b : Nat} {ty : FieldType} (hd : decode me.2.1 pc = .ok (.putfield ix, 3)) (hfl : FL me.1.cls ix ci k) (hc : ci < 20) (hk : cl_ty ci k = ty) (hk2 : 2 ≤ fk_c ci k) (hnr : ∀ q : Nat, narrow ty (.ref q) = .ref q ∧ fits ty (.ref q) = true) (hfin : ∀ q : vw_C, vwCl[ci]? = some q → (q.2.1 k).2.2.2 = true ∧ (q.2.1 k).1 = me.1.cls) (ha : sh_k a = ci) (hax : a < nx) (hbx : b < nx ∨ 1000 ≤ b) (hin : me.1.name = "<init>") (kk : Sk d me n0 n1 μ1 ρ1 (pc + 3) ls st nx μ (rq_p ρ a k b)) : Sk d me n0 n1 μ1 ρ1 pc ls (av_r b :: av_r a :: st) nx μ ρ := by
  intro p l e R s m args below meth c ad0 tc D A C ad H locs la hg h0 h1 hrq hP hD hS hl
  obtain ⟨hx, hb, hml, hr, hlk2, hown, hts, hK, hro, hA, hf, hlc, hcl, hsl, hne, hao, hnm, h1k⟩ := id C
  obtain ⟨⟨cn, ct, n⟩, f1, f2, f3⟩ := hfl
  have hn : sh_n a = n := by
    have := sh_cl (a := a) (by omega)
    rw [ha, f1] at this
    exact (Option.some.inj this).symm
  refine va_putF (C := cn) (T := ct) (N := n) (ty := ty) hx hb hts (cl_in ci _ f1) (cl_ty ci) (cl_tyok ci _ f1) (cl_nm ci _ f1) hown hK hP hD hS a (cq_ob ha hc hax) f1 k f2 (hts _ (GW_in f3 rfl)) (fun _ h => h) (hfin _ f1).1 (hnm.trans hin) (hfin _ f1).2 ((cl_tyok ci _ f1 k f2).trans (congrArg some hk)) (hnr _).1 (hnr _).2 (by rw [cq_o, List.length_map, List.length_range, hn]; exact f2) hd (fun H1 locs1 hP1 hD1 hS1 => ?_)
  have eW : (wq_w nx ad tc μ ρ).set a (ad a, .inr (ci, (cq_o ad μ ρ a).set k (.ref (ad b)))) = wq_w nx ad tc μ (rq_p ρ a k b) := by
    refine wq_set ?_ (fun c hc2 => cq_of rfl rfl (rq_ne hc2))
    rw [cq_e, if_pos (by omega), ha]
    rw [cq_oset (μ := μ) (ρ := ρ) (μ' := μ) (ρ' := rq_p ρ a k b) (k := k) (v := .ref (ad b)) (by rw [hn]; exact f2) (by
      unfold cq_v
      rw [ha]
      generalize fk_c ci k = t at hk2
      match t, hk2 with
      | 0, hk2 => omega
      | 1, hk2 => omega
      | t + 2, _ => simp [rq_p, va_rf]) (fun j hj => by unfold cq_v; simp [rq_p, hj])]
  exact (kk p l e R s m args below meth c ad0 tc D A C ad H1 locs1 la hg h0 h1 (rq_pok hrq hbx) (eW ▸ hP1) (eW ▸ hD1) hS1 hl)
theorem sk_putR {d : Nat} {me : ME} {n0 n1 : Nat} {μ1 : MM} {ρ1 : RR} {pc : Nat} {ls : List (Option AV)} {st : List AV} {nx : Nat} {μ : MM} {ρ : RR} {a ci k ix b : Nat} {ty : FieldType} (hd : decode me.2.1 pc = .ok (.putfield ix, 3)) (hfl : FL me.1.cls ix ci k) (hc : ci < 20) (hk : cl_ty ci k = ty) (hk2 : 2 ≤ fk_c ci k) (hnr : ∀ q : Nat, narrow ty (.ref q) = .ref q ∧ fits ty (.ref q) = true) (hfin : ∀ q : vw_C, vwCl[ci]? = some q → (q.2.1 k).2.2.2 = false ) (ha : sh_k a = ci) (hax : a < nx) (hbx : b < nx ∨ 1000 ≤ b) (kk : Sk d me n0 n1 μ1 ρ1 (pc + 3) ls st nx μ (rq_p ρ a k b)) : Sk d me n0 n1 μ1 ρ1 pc ls (av_r b :: av_r a :: st) nx μ ρ := by
  intro p l e R s m args below meth c ad0 tc D A C ad H locs la hg h0 h1 hrq hP hD hS hl
  obtain ⟨hx, hb, hml, hr, hlk2, hown, hts, hK, hro, hA, hf, hlc, hcl, hsl, hne, hao, hnm, h1k⟩ := id C
  obtain ⟨⟨cn, ct, n⟩, f1, f2, f3⟩ := hfl
  have hn : sh_n a = n := by
    have := sh_cl (a := a) (by omega)
    rw [ha, f1] at this
    exact (Option.some.inj this).symm
  refine va_put (C := cn) (T := ct) (N := n) (ty := ty) hx hb hts (cl_in ci _ f1) (cl_ty ci) (cl_tyok ci _ f1) (cl_nm ci _ f1) hown hK hP hD hS a (cq_ob ha hc hax) f1 k f2 (hts _ (GW_in f3 rfl)) (fun _ h => h) (hfin _ f1) ((cl_tyok ci _ f1 k f2).trans (congrArg some hk)) (hnr _).1 (hnr _).2 (by rw [cq_o, List.length_map, List.length_range, hn]; exact f2) hd (fun H1 locs1 hP1 hD1 hS1 => ?_)
  have eW : (wq_w nx ad tc μ ρ).set a (ad a, .inr (ci, (cq_o ad μ ρ a).set k (.ref (ad b)))) = wq_w nx ad tc μ (rq_p ρ a k b) := by
    refine wq_set ?_ (fun c hc2 => cq_of rfl rfl (rq_ne hc2))
    rw [cq_e, if_pos (by omega), ha]
    rw [cq_oset (μ := μ) (ρ := ρ) (μ' := μ) (ρ' := rq_p ρ a k b) (k := k) (v := .ref (ad b)) (by rw [hn]; exact f2) (by
      unfold cq_v
      rw [ha]
      generalize fk_c ci k = t at hk2
      match t, hk2 with
      | 0, hk2 => omega
      | 1, hk2 => omega
      | t + 2, _ => simp [rq_p, va_rf]) (fun j hj => by unfold cq_v; simp [rq_p, hj])]
  exact (kk p l e R s m args below meth c ad0 tc D A C ad H1 locs1 la hg h0 h1 (rq_pok hrq hbx) (eW ▸ hP1) (eW ▸ hD1) hS1 hl)
/-! new cells: zero until they are written -/
def zq_z (μ : MM) (ρ : RR) (a : Nat) : Prop := (∀ k, μ.1 a k = 0) ∧ (∀ k, μ.2 a k = 0) ∧ ∀ k, ρ a k = none
theorem zq_p {μ : MM} {ρ : RR} {a k b c : Nat} (h : zq_z μ ρ c) (hc : c ≠ a) : zq_z μ (rq_p ρ a k b) c := ⟨h.1, h.2.1, fun j => by rw [rq_ne hc]; exact h.2.2 j⟩
theorem zq_I {μ : MM} {ρ : RR} {a k c : Nat} {x : Int32} (h : zq_z μ ρ c) (hc : c ≠ a) : zq_z (mm_I μ a k x) ρ c := ⟨fun j => by show up_2 μ.1 a k x c j = 0; rw [up_2_ne hc]; exact h.1 j, h.2.1, h.2.2⟩
theorem zq_J {μ : MM} {ρ : RR} {a k c : Nat} {x : Int64} (h : zq_z μ ρ c) (hc : c ≠ a) : zq_z (mm_J μ a k x) ρ c := ⟨h.1, fun j => by show up_2 μ.2 a k x c j = 0; rw [up_2_ne hc]; exact h.2.1 j, h.2.2⟩
theorem lo_adx {ad ad' : Nat → Nat} {nL : Nat} {ls : List (Option AV)} {la : Array Slot} (h : lo_ok ad nL ls la) (he : ∀ v, some v ∈ ls → av_V ad' v = av_V ad v) : lo_ok ad' nL ls la := ⟨h.1, h.2.1, fun i v hi => by rw [he v (List.mem_of_getElem? hi)]; exact h.2.2 i v hi⟩
def vq_ok (nx : Nat) (v : AV) : Prop := match v with
  | .inr (.inr (.inl a)) => a < nx ∨ 1000 ≤ a
  | _ => True
theorem vq_ad {ad ad' : Nat → Nat} {nx : Nat} {v : AV} (h : vq_ok nx v) (he : ∀ b, b < nx ∨ 1000 ≤ b → ad' b = ad b) : av_V ad' v = av_V ad v := by
  rcases v with x | x | x | x
  · rfl
  · rfl
  · show Value.ref (ad' x) = Value.ref (ad x)
    rw [he x h]
  · show fo_V (ad' 5000) = fo_V (ad 5000)
    rw [he 5000 (Or.inr (by omega))]
def vq_L (nx : Nat) : List (Option AV) → Prop
  | [] => True
  | none :: l => vq_L nx l
  | some v :: l => vq_ok nx v ∧ vq_L nx l
def vq_S (nx : Nat) : List AV → Prop
  | [] => True
  | v :: l => vq_ok nx v ∧ vq_S nx l
theorem vq_Lin {nx : Nat} : ∀ {ls : List (Option AV)}, vq_L nx ls → ∀ v, some v ∈ ls → vq_ok nx v := by
  intro ls
  induction ls with
  | nil => intro _ v h; cases h
  | cons w l ih =>
    intro h v hv
    cases w with
    | none =>
      rcases List.mem_cons.mp hv with e | e
      · cases e
      · exact ih h v e
    | some x =>
      rcases List.mem_cons.mp hv with e | e
      · cases e; exact h.1
      · exact ih h.2 v e
theorem vq_map {ad ad' : Nat → Nat} {nx : Nat} (he : ∀ b, b < nx ∨ 1000 ≤ b → ad' b = ad b) : ∀ {st : List AV}, vq_S nx st → st.map (av_V ad') = st.map (av_V ad) := by
  intro st
  induction st with
  | nil => intro _; rfl
  | cons v l ih => intro h; rw [List.map_cons, List.map_cons, vq_ad h.1 he, ih h.2]
/-- what the tables say of a class that is made -/
def NW (own : String) (ix ci : Nat) : Prop := ∃ q : vw_C, vwCl[ci]? = some q ∧ Cond.classLink own ix q.1 ∈ lw_tbl ∧ Cond.instantiable q.1 q.2.2 ∈ lw_tbl ∧ Cond.initialized q.1 ∈ lw_tbl
theorem cq_zero {ad : Nat → Nat} {μ : MM} {ρ : RR} {a k : Nat} (h : zq_z μ ρ a) (hx : sh_k a < 20) : cq_v ad μ ρ a k = defaultValue (cl_ty (sh_k a) k) ∨ k ≥ sh_n a := by
  by_cases hk : k < sh_n a
  · left
    have hcl := sh_cl hx
    have hty : ∀ ci, ci < 13 → ∀ k, k < ((vwCl[ci]?).map (fun r => r.2.2)).getD 0 → (fk_c ci k = 0 → defaultValue (cl_ty ci k) = .int 0) ∧ (fk_c ci k = 1 → defaultValue (cl_ty ci k) = .long 0) ∧ (2 ≤ fk_c ci k → defaultValue (cl_ty ci k) = .null) := by decide +kernel
    have h13 : sh_k a < 13 := by
      by_cases q : sh_k a < 13
      · exact q
      · rw [List.getElem?_eq_none (by rw [cl_len]; omega)] at hcl
        cases hcl
    have h3 := hty (sh_k a) h13 k (by rw [hcl]; exact hk)
    unfold cq_v
    rw [h.1 k, h.2.1 k, h.2.2 k]
    generalize fk_c (sh_k a) k = t at h3 ⊢
    match t, h3 with
    | 0, h3 => exact (h3.1 rfl).symm
    | 1, h3 => exact (h3.2.1 rfl).symm
    | t + 2, h3 => exact (h3.2.2 (by omega)).symm
  · right; omega
theorem sk_new {d : Nat} {me : ME} {n0 n1 : Nat} {μ1 : MM} {ρ1 : RR} {pc : Nat} {ls : List (Option AV)} {st : List AV} {nx : Nat} {μ : MM} {ρ : RR} {ci ix : Nat} (hd : decode me.2.1 pc = .ok (.new ix, 3)) (hnw : NW me.1.cls ix ci) (hk : sh_k nx = ci) (hc : ci < 20) (hn1 : nx + 1 ≤ n1) (hz : zq_z μ ρ nx) (hvl : vq_L nx ls) (hvs : vq_S nx st) (k : Sk d me n0 n1 μ1 ρ1 (pc + 3) ls (av_r nx :: st) (nx + 1) μ ρ) : Sk d me n0 n1 μ1 ρ1 pc ls st nx μ ρ := by
  intro p l e R s m args below meth c ad0 tc D A C ad H locs la hg h0 h1 hrq hP hD hS hl
  obtain ⟨hx, hb, hml, hr, hlk2, hown, hts, hK, hro, hA, hf, hlc, hcl, hsl, hne, hao, hnm, h1k⟩ := id C
  obtain ⟨⟨cn, ct, n⟩, f1, f2, f3, f4⟩ := hnw
  have hn : sh_n nx = n := by
    have := sh_cl (a := nx) (by omega)
    rw [hk, f1] at this
    exact (Option.some.inj this).symm
  have hm := ss_le hn1
  have hm0 := ss_le h0
  have hss : ss_n (nx + 1) = ss_n nx + n := by rw [ss_n, hn]
  refine va_new (C := cn) (T := ct) (N := n) (ci := ci) (fs := cq_o ad μ ρ nx) hx hb hts (cl_in ci _ f1) (cl_ty ci) (cl_tyok ci _ f1) hown (hts _ (GW_in f2 rfl)) (hts _ (GW_in f3 rfl)) (hts _ (GW_in f4 rfl)) hK hP hD hS hA f1 (fun j hj => ?_) (by omega) (by omega) hd (fun q H1 hP1 hD1 hS1 => ?_)
  · unfold vp_V
    rw [List.getD_eq_getElem?_getD, cq_at (by rw [hn]; exact hj), Option.getD_some, ← hk]
    rcases cq_zero (ad := ad) hz (k := j) (by omega) with h9 | h9
    · exact h9.symm
    · omega
  · have hag : ∀ b, b < nx ∨ 1000 ≤ b → nx_ad ad nx q b = ad b := fun b hb2 => nx_o hb2 (by omega)
    have eW : wq_w nx ad tc μ ρ ++ [(q, .inr (ci, cq_o ad μ ρ nx))] = wq_w (nx + 1) (nx_ad ad nx q) tc μ ρ := by
      rw [wq_succ]
      congr 1
      · exact (wq_eq (fun a ha => ⟨hag a (Or.inl ha), cq_ad hrq hag⟩)).symm
      · rw [cq_ad hrq hag, cq_e, if_pos (by omega), hk]
        simp [nx_ad]
    rw [eW] at hP1 hD1
    have e1 : nx + 1 - n0 = nx - n0 + 1 := by omega
    have e2 : ss_n (nx + 1) - ss_n n0 = ss_n nx - ss_n n0 + n := by omega
    have := k p l e R s m args below meth c ad0 tc D A C (nx_ad ad nx q) H1 locs la (fun b hb2 => by rw [hag b (hb2.elim (fun z => Or.inl (by omega)) Or.inr)]; exact hg b hb2) (by omega) hn1 (rq_up hrq (by omega)) hP1 hD1 hS1 (lo_adx hl (fun v hv => vq_ad (vq_Lin hvl v hv) hag))
    rw [e1, e2] at this
    rw [show (av_r nx :: st).map (av_V (nx_ad ad nx q)) = .ref q :: st.map (av_V ad) by rw [List.map_cons, vq_map hag hvs]; simp [av_V, nx_ad]] at this
    exact this
theorem sk_newaI {d : Nat} {me : ME} {n0 n1 : Nat} {μ1 : MM} {ρ1 : RR} {pc : Nat} {ls : List (Option AV)} {st : List AV} {nx : Nat} {μ : MM} {ρ : RR} {i : Int32} (hd : decode me.2.1 pc = .ok (.newarray .int, 2)) (hw : Cond.arrayClass .int ∈ lw_tbl) (hk : sh_k nx = 20) (hi : ¬ i < 0) (hin : i.toNatClampNeg = sh_n nx) (hsz : sh_n nx ≤ 20000) (hn1 : nx + 1 ≤ n1) (hz : zq_z μ ρ nx) (hvl : vq_L nx ls) (hvs : vq_S nx st) (k : Sk d me n0 n1 μ1 ρ1 (pc + 2) ls (av_r nx :: st) (nx + 1) μ ρ) : Sk d me n0 n1 μ1 ρ1 pc ls (av_i i :: st) nx μ ρ := by
  intro p l e R s m args below meth c ad0 tc D A C ad H locs la hg h0 h1 hrq hP hD hS hl
  obtain ⟨hx, hb, hml, hr, hlk2, hown, hts, hK, hro, hA, hf, hlc, hcl, hsl, hne, hao, hnm, h1k⟩ := id C
  have hm := ss_le hn1
  have hm0 := ss_le h0
  have hss : ss_n (nx + 1) = ss_n nx + sh_n nx := rfl
  refine va_newa (atype := .int) (ty := .int) (N' := sh_n nx) (a0 := (sh_n nx, .inl (fun _ => 0))) hx hb (hts _ (GW_in hw rfl)) rfl hK hP hD hS hA (fun cA => rfl) hi hin (by simp only [componentBytes]; omega) (by omega) (by omega) hd (fun q cA H1 hK1 hP1 hD1 hS1 => ?_)
  have hcA : cA = tc 20 := by
    have h5 := (hK1.2 6 (cA, .int) rfl).2
    have h6 := (hK.2 0 _ rfl).2
    exact Option.some.inj (h5.symm.trans h6)
  subst hcA
  have hag : ∀ b, b < nx ∨ 1000 ≤ b → nx_ad ad nx q b = ad b := fun b hb2 => nx_o hb2 (by omega)
  have eW : wq_w nx ad tc μ ρ ++ [(q, .inl (tc 20, sh_n nx, .inl (fun _ => 0)))] = wq_w (nx + 1) (nx_ad ad nx q) tc μ ρ := by
    rw [wq_succ]
    congr 1
    · exact (wq_eq (fun a ha => ⟨hag a (Or.inl ha), cq_ad hrq hag⟩)).symm
    · rw [cq_ad hrq hag, cq_e, if_neg (by omega), cq_a, if_neg (by omega), if_neg (by omega), hk]
      have hz1 : μ.1 nx = fun _ => 0 := funext hz.1
      rw [hz1]
      simp [nx_ad]
  rw [eW] at hP1 hD1
  have e1 : nx + 1 - n0 = nx - n0 + 1 := by omega
  have e2 : ss_n (nx + 1) - ss_n n0 = ss_n nx - ss_n n0 + sh_n nx := by omega
  have := k p l e R s m args below meth c ad0 tc D A C (nx_ad ad nx q) H1 locs la (fun b hb2 => by rw [hag b (hb2.elim (fun z => Or.inl (by omega)) Or.inr)]; exact hg b hb2) (by omega) hn1 (rq_up hrq (by omega)) hP1 hD1 hS1 (lo_adx hl (fun v hv => vq_ad (vq_Lin hvl v hv) hag))
  rw [e1, e2] at this
  rw [show (av_r nx :: st).map (av_V (nx_ad ad nx q)) = .ref q :: st.map (av_V ad) by rw [List.map_cons, vq_map hag hvs]; simp [av_V, nx_ad]] at this
  exact this
theorem sk_newaB {d : Nat} {me : ME} {n0 n1 : Nat} {μ1 : MM} {ρ1 : RR} {pc : Nat} {ls : List (Option AV)} {st : List AV} {nx : Nat} {μ : MM} {ρ : RR} {i : Int32} (hd : decode me.2.1 pc = .ok (.newarray .byte, 2)) (hw : Cond.arrayClass .byte ∈ lw_tbl) (hk : sh_k nx = 21) (hi : ¬ i < 0) (hin : i.toNatClampNeg = sh_n nx) (hsz : sh_n nx ≤ 20000) (hn1 : nx + 1 ≤ n1) (hz : zq_z μ ρ nx) (hvl : vq_L nx ls) (hvs : vq_S nx st) (k : Sk d me n0 n1 μ1 ρ1 (pc + 2) ls (av_r nx :: st) (nx + 1) μ ρ) : Sk d me n0 n1 μ1 ρ1 pc ls (av_i i :: st) nx μ ρ := by
  intro p l e R s m args below meth c ad0 tc D A C ad H locs la hg h0 h1 hrq hP hD hS hl
  obtain ⟨hx, hb, hml, hr, hlk2, hown, hts, hK, hro, hA, hf, hlc, hcl, hsl, hne, hao, hnm, h1k⟩ := id C
  have hm := ss_le hn1
  have hm0 := ss_le h0
  have hss : ss_n (nx + 1) = ss_n nx + sh_n nx := rfl
  refine va_newa (atype := .byte) (ty := .byte) (N' := sh_n nx) (a0 := (sh_n nx, .inl (fun _ => 0))) hx hb (hts _ (GW_in hw rfl)) rfl hK hP hD hS hA (fun cA => rfl) hi hin (by simp only [componentBytes]; omega) (by omega) (by omega) hd (fun q cA H1 hK1 hP1 hD1 hS1 => ?_)
  have hcA : cA = tc 21 := by
    have h5 := (hK1.2 6 (cA, .byte) rfl).2
    have h6 := (hK.2 1 _ rfl).2
    exact Option.some.inj (h5.symm.trans h6)
  subst hcA
  have hag : ∀ b, b < nx ∨ 1000 ≤ b → nx_ad ad nx q b = ad b := fun b hb2 => nx_o hb2 (by omega)
  have eW : wq_w nx ad tc μ ρ ++ [(q, .inl (tc 21, sh_n nx, .inl (fun _ => 0)))] = wq_w (nx + 1) (nx_ad ad nx q) tc μ ρ := by
    rw [wq_succ]
    congr 1
    · exact (wq_eq (fun a ha => ⟨hag a (Or.inl ha), cq_ad hrq hag⟩)).symm
    · rw [cq_ad hrq hag, cq_e, if_neg (by omega), cq_a, if_neg (by omega), if_neg (by omega), hk]
      have hz1 : μ.1 nx = fun _ => 0 := funext hz.1
      rw [hz1]
      simp [nx_ad]
  rw [eW] at hP1 hD1
  have e1 : nx + 1 - n0 = nx - n0 + 1 := by omega
  have e2 : ss_n (nx + 1) - ss_n n0 = ss_n nx - ss_n n0 + sh_n nx := by omega
  have := k p l e R s m args below meth c ad0 tc D A C (nx_ad ad nx q) H1 locs la (fun b hb2 => by rw [hag b (hb2.elim (fun z => Or.inl (by omega)) Or.inr)]; exact hg b hb2) (by omega) hn1 (rq_up hrq (by omega)) hP1 hD1 hS1 (lo_adx hl (fun v hv => vq_ad (vq_Lin hvl v hv) hag))
  rw [e1, e2] at this
  rw [show (av_r nx :: st).map (av_V (nx_ad ad nx q)) = .ref q :: st.map (av_V ad) by rw [List.map_cons, vq_map hag hvs]; simp [av_V, nx_ad]] at this
  exact this
theorem sk_newaZ {d : Nat} {me : ME} {n0 n1 : Nat} {μ1 : MM} {ρ1 : RR} {pc : Nat} {ls : List (Option AV)} {st : List AV} {nx : Nat} {μ : MM} {ρ : RR} {i : Int32} (hd : decode me.2.1 pc = .ok (.newarray .boolean, 2)) (hw : Cond.arrayClass .boolean ∈ lw_tbl) (hk : sh_k nx = 22) (hi : ¬ i < 0) (hin : i.toNatClampNeg = sh_n nx) (hsz : sh_n nx ≤ 20000) (hn1 : nx + 1 ≤ n1) (hz : zq_z μ ρ nx) (hvl : vq_L nx ls) (hvs : vq_S nx st) (k : Sk d me n0 n1 μ1 ρ1 (pc + 2) ls (av_r nx :: st) (nx + 1) μ ρ) : Sk d me n0 n1 μ1 ρ1 pc ls (av_i i :: st) nx μ ρ := by
  intro p l e R s m args below meth c ad0 tc D A C ad H locs la hg h0 h1 hrq hP hD hS hl
  obtain ⟨hx, hb, hml, hr, hlk2, hown, hts, hK, hro, hA, hf, hlc, hcl, hsl, hne, hao, hnm, h1k⟩ := id C
  have hm := ss_le hn1
  have hm0 := ss_le h0
  have hss : ss_n (nx + 1) = ss_n nx + sh_n nx := rfl
  refine va_newa (atype := .boolean) (ty := .boolean) (N' := sh_n nx) (a0 := (sh_n nx, .inl (fun _ => 0))) hx hb (hts _ (GW_in hw rfl)) rfl hK hP hD hS hA (fun cA => rfl) hi hin (by simp only [componentBytes]; omega) (by omega) (by omega) hd (fun q cA H1 hK1 hP1 hD1 hS1 => ?_)
  have hcA : cA = tc 22 := by
    have h5 := (hK1.2 6 (cA, .boolean) rfl).2
    have h6 := (hK.2 2 _ rfl).2
    exact Option.some.inj (h5.symm.trans h6)
  subst hcA
  have hag : ∀ b, b < nx ∨ 1000 ≤ b → nx_ad ad nx q b = ad b := fun b hb2 => nx_o hb2 (by omega)
  have eW : wq_w nx ad tc μ ρ ++ [(q, .inl (tc 22, sh_n nx, .inl (fun _ => 0)))] = wq_w (nx + 1) (nx_ad ad nx q) tc μ ρ := by
    rw [wq_succ]
    congr 1
    · exact (wq_eq (fun a ha => ⟨hag a (Or.inl ha), cq_ad hrq hag⟩)).symm
    · rw [cq_ad hrq hag, cq_e, if_neg (by omega), cq_a, if_neg (by omega), if_neg (by omega), hk]
      have hz1 : μ.1 nx = fun _ => 0 := funext hz.1
      rw [hz1]
      simp [nx_ad]
  rw [eW] at hP1 hD1
  have e1 : nx + 1 - n0 = nx - n0 + 1 := by omega
  have e2 : ss_n (nx + 1) - ss_n n0 = ss_n nx - ss_n n0 + sh_n nx := by omega
  have := k p l e R s m args below meth c ad0 tc D A C (nx_ad ad nx q) H1 locs la (fun b hb2 => by rw [hag b (hb2.elim (fun z => Or.inl (by omega)) Or.inr)]; exact hg b hb2) (by omega) hn1 (rq_up hrq (by omega)) hP1 hD1 hS1 (lo_adx hl (fun v hv => vq_ad (vq_Lin hvl v hv) hag))
  rw [e1, e2] at this
  rw [show (av_r nx :: st).map (av_V (nx_ad ad nx q)) = .ref q :: st.map (av_V ad) by rw [List.map_cons, vq_map hag hvs]; simp [av_V, nx_ad]] at this
  exact this
theorem sk_newaJ {d : Nat} {me : ME} {n0 n1 : Nat} {μ1 : MM} {ρ1 : RR} {pc : Nat} {ls : List (Option AV)} {st : List AV} {nx : Nat} {μ : MM} {ρ : RR} {i : Int32} (hd : decode me.2.1 pc = .ok (.newarray .long, 2)) (hw : Cond.arrayClass .long ∈ lw_tbl) (hk : sh_k nx = 23) (hi : ¬ i < 0) (hin : i.toNatClampNeg = sh_n nx) (hsz : sh_n nx ≤ 20000) (hn1 : nx + 1 ≤ n1) (hz : zq_z μ ρ nx) (hvl : vq_L nx ls) (hvs : vq_S nx st) (k : Sk d me n0 n1 μ1 ρ1 (pc + 2) ls (av_r nx :: st) (nx + 1) μ ρ) : Sk d me n0 n1 μ1 ρ1 pc ls (av_i i :: st) nx μ ρ := by
  intro p l e R s m args below meth c ad0 tc D A C ad H locs la hg h0 h1 hrq hP hD hS hl
  obtain ⟨hx, hb, hml, hr, hlk2, hown, hts, hK, hro, hA, hf, hlc, hcl, hsl, hne, hao, hnm, h1k⟩ := id C
  have hm := ss_le hn1
  have hm0 := ss_le h0
  have hss : ss_n (nx + 1) = ss_n nx + sh_n nx := rfl
  refine va_newa (atype := .long) (ty := .long) (N' := sh_n nx) (a0 := (sh_n nx, .inr (.inl (fun _ => 0)))) hx hb (hts _ (GW_in hw rfl)) rfl hK hP hD hS hA (fun cA => rfl) hi hin (by simp only [componentBytes]; omega) (by omega) (by omega) hd (fun q cA H1 hK1 hP1 hD1 hS1 => ?_)
  have hcA : cA = tc 23 := by
    have h5 := (hK1.2 6 (cA, .long) rfl).2
    have h6 := (hK.2 3 _ rfl).2
    exact Option.some.inj (h5.symm.trans h6)
  subst hcA
  have hag : ∀ b, b < nx ∨ 1000 ≤ b → nx_ad ad nx q b = ad b := fun b hb2 => nx_o hb2 (by omega)
  have eW : wq_w nx ad tc μ ρ ++ [(q, .inl (tc 23, sh_n nx, .inr (.inl (fun _ => 0))))] = wq_w (nx + 1) (nx_ad ad nx q) tc μ ρ := by
    rw [wq_succ]
    congr 1
    · exact (wq_eq (fun a ha => ⟨hag a (Or.inl ha), cq_ad hrq hag⟩)).symm
    · rw [cq_ad hrq hag, cq_e, if_neg (by omega), cq_a, if_pos hk, hk]
      have hz1 : μ.2 nx = fun _ => 0 := funext hz.2.1
      rw [hz1]
      simp [nx_ad]
  rw [eW] at hP1 hD1
  have e1 : nx + 1 - n0 = nx - n0 + 1 := by omega
  have e2 : ss_n (nx + 1) - ss_n n0 = ss_n nx - ss_n n0 + sh_n nx := by omega
  have := k p l e R s m args below meth c ad0 tc D A C (nx_ad ad nx q) H1 locs la (fun b hb2 => by rw [hag b (hb2.elim (fun z => Or.inl (by omega)) Or.inr)]; exact hg b hb2) (by omega) hn1 (rq_up hrq (by omega)) hP1 hD1 hS1 (lo_adx hl (fun v hv => vq_ad (vq_Lin hvl v hv) hag))
  rw [e1, e2] at this
  rw [show (av_r nx :: st).map (av_V (nx_ad ad nx q)) = .ref q :: st.map (av_V ad) by rw [List.map_cons, vq_map hag hvs]; simp [av_V, nx_ad]] at this
  exact this
theorem sk_anew {d : Nat} {me : ME} {n0 n1 : Nat} {μ1 : MM} {ρ1 : RR} {pc : Nat} {ls : List (Option AV)} {st : List AV} {nx : Nat} {μ : MM} {ρ : RR} {i : Int32} {ix : Nat} (hd : decode me.2.1 pc = .ok (.anewarray ix, 3)) (hw : Cond.classLink me.1.cls ix "LabelRoom$Shelf" ∈ lw_tbl) (hk : sh_k nx = 24) (hi : ¬ i < 0) (hin : i.toNatClampNeg = sh_n nx) (hsz : sh_n nx ≤ 20000) (hn1 : nx + 1 ≤ n1) (hz : zq_z μ ρ nx) (hvl : vq_L nx ls) (hvs : vq_S nx st) (k : Sk d me n0 n1 μ1 ρ1 (pc + 3) ls (av_r nx :: st) (nx + 1) μ ρ) : Sk d me n0 n1 μ1 ρ1 pc ls (av_i i :: st) nx μ ρ := by
  intro p l e R s m args below meth c ad0 tc D A C ad H locs la hg h0 h1 hrq hP hD hS hl
  obtain ⟨hx, hb, hml, hr, hlk2, hown, hts, hK, hro, hA, hf, hlc, hcl, hsl, hne, hao, hnm, h1k⟩ := id C
  have hm := ss_le hn1
  have hm0 := ss_le h0
  have hss : ss_n (nx + 1) = ss_n nx + sh_n nx := rfl
  refine va_newq (C := "LabelRoom$Shelf") (N' := sh_n nx) hx hb hown (hts _ (GW_in hw rfl)) hao.1 hK hP hD hS hA hi hin (by omega) (by omega) (by omega) hd (fun q cA H1 hK1 hP1 hD1 hS1 => ?_)
  have hcA : cA = tc 24 := by
    obtain ⟨kA, comp, -, -, -, h5⟩ := (hK1.2 6 (cA, .object "LabelRoom$Shelf") rfl).2
    obtain ⟨kB, comp2, -, -, -, h6⟩ := (hK.2 4 _ rfl).2
    exact Option.some.inj (h5.symm.trans h6)
  subst hcA
  have hag : ∀ b, b < nx ∨ 1000 ≤ b → nx_ad ad nx q b = ad b := fun b hb2 => nx_o hb2 (by omega)
  have eW : wq_w nx ad tc μ ρ ++ [(q, .inl (tc 24, sh_n nx, .inr (.inr (.inr (.inr (fun _ => none))))))] = wq_w (nx + 1) (nx_ad ad nx q) tc μ ρ := by
    rw [wq_succ]
    congr 1
    · exact (wq_eq (fun a ha => ⟨hag a (Or.inl ha), cq_ad hrq hag⟩)).symm
    · rw [cq_ad hrq hag, cq_e, if_neg (by omega), cq_a, if_neg (by omega), if_pos (by omega), hk]
      have hz1 : (fun j => (ρ nx j).map ad) = fun _ => (none : Option Nat) := funext (fun j => by rw [hz.2.2 j]; rfl)
      rw [hz1]
      simp [nx_ad]
  rw [eW] at hP1 hD1
  have e1 : nx + 1 - n0 = nx - n0 + 1 := by omega
  have e2 : ss_n (nx + 1) - ss_n n0 = ss_n nx - ss_n n0 + sh_n nx := by omega
  have := k p l e R s m args below meth c ad0 tc D A C (nx_ad ad nx q) H1 locs la (fun b hb2 => by rw [hag b (hb2.elim (fun z => Or.inl (by omega)) Or.inr)]; exact hg b hb2) (by omega) hn1 (rq_up hrq (by omega)) hP1 hD1 hS1 (lo_adx hl (fun v hv => vq_ad (vq_Lin hvl v hv) hag))
  rw [e1, e2] at this
  rw [show (av_r nx :: st).map (av_V (nx_ad ad nx q)) = .ref q :: st.map (av_V ad) by rw [List.map_cons, vq_map hag hvs]; simp [av_V, nx_ad]] at this
  exact this
theorem sk_aast {d : Nat} {me : ME} {n0 n1 : Nat} {μ1 : MM} {ρ1 : RR} {pc : Nat} {ls : List (Option AV)} {st : List AV} {nx : Nat} {μ : MM} {ρ : RR} {a b : Nat} {i : Int32} (hd : decode me.2.1 pc = .ok (.aastore, 1)) (ha : sh_k a = 24) (hb1 : sh_k b = 7) (hi : vp_in i (sh_n a)) (hax : a < nx) (hbx : b < nx) (k : Sk d me n0 n1 μ1 ρ1 (pc + 1) ls st nx μ (rq_p ρ a i.toNatClampNeg b)) : Sk d me n0 n1 μ1 ρ1 pc ls (av_r b :: av_i i :: av_r a :: st) nx μ ρ := by
  intro p l e R s m args below meth c ad0 tc D A C ad H locs la hg h0 h1 hrq hP hD hS hl
  obtain ⟨hx, hb, hml, hr, hlk2, hown, hts, hK, hro, hA, hf, hlc, hcl, hsl, hne, hao, hnm, h1k⟩ := id C
  have hca : (wq_w nx ad tc μ ρ)[a]? = some (ad a, .inl (tc 24, sh_n a, .inr (.inr (.inr (.inr (fun j => (ρ a j).map ad)))))) := by
    rw [wq_get hax, cq_e, if_neg (by omega), cq_a, if_neg (by omega), if_pos (by omega), ha]
  refine va_astq (r := (RX7, TX7, 5)) hx hb hK hP hD hS a 4 b 7 hca rfl (cq_ob hb1 (by decide) hbx) rfl hi hd (fun H1 locs1 hP1 hD1 hS1 => ?_)
  have eW : (wq_w nx ad tc μ ρ).set a (ad a, .inl (tc 24, sh_n a, .inr (.inr (.inr (.inr (va_up (fun j => (ρ a j).map ad) i.toNatClampNeg (some (ad b)))))))) = wq_w nx ad tc μ (rq_p ρ a i.toNatClampNeg b) := by
    refine wq_set ?_ (fun c hc2 => cq_of rfl rfl (rq_ne hc2))
    rw [cq_e, if_neg (by omega), cq_a, if_neg (by omega), if_pos (by omega), ha]
    have e9 : (fun j => (rq_p ρ a i.toNatClampNeg b a j).map ad) = va_up (fun j => (ρ a j).map ad) i.toNatClampNeg (some (ad b)) := by
      funext j
      by_cases hj : j = i.toNatClampNeg <;> simp [rq_p, va_up, hj]
    rw [e9]
  exact (k p l e R s m args below meth c ad0 tc D A C ad H1 locs1 la hg h0 h1 (rq_pok hrq (Or.inl hbx)) (eW ▸ hP1) (eW ▸ hD1) hS1 hl)
theorem sk_max {d : Nat} {me : ME} {n0 n1 : Nat} {μ1 : MM} {ρ1 : RR} {pc : Nat} {ls : List (Option AV)} {st : List AV} {nx : Nat} {μ : MM} {ρ : RR} {x y : Int32} {ix : Nat} (hd : decode me.2.1 pc = .ok (.invokestatic ix, 3)) (hlk : Cond.methodLink me.1.cls ix Lib.Math.max.name ∈ lw_tbl) (hst : (st.map av_c).sum ≤ 8) (hd1 : 1 ≤ d) (k : Sk d me n0 n1 μ1 ρ1 (pc + 3) ls (av_i (if x < y then y else x) :: st) nx μ ρ) : Sk d me n0 n1 μ1 ρ1 pc ls (av_i y :: av_i x :: st) nx μ ρ := by
  intro p l e R s m args below meth c ad0 tc D A C ad H locs la hg h0 h1 hrq hP hD hS hl
  obtain ⟨hx, hb, hml, hr, hlk2, hown, hts, hK, hro, hA, hf, hlc, hcl, hsl, hne, hao, hnm, h1k⟩ := id C
  have hm := ss_le h1
  exact va_mmax hx hb (by rw [hml, hl.1]) hown (hts _ (GW_in hlk rfl)) (hts _ (GW_in mw_max_s rfl)) (hts _ (GW_in mw_ini rfl)) (hts _ (GW_in mw_max_c rfl)) (by omega) (by rw [cl_sum]; omega) (by omega) (by omega) hd (k p l e R s m args below meth c ad0 tc D A C ad H locs la hg h0 h1 hrq hP hD hS hl)
theorem sk_min {d : Nat} {me : ME} {n0 n1 : Nat} {μ1 : MM} {ρ1 : RR} {pc : Nat} {ls : List (Option AV)} {st : List AV} {nx : Nat} {μ : MM} {ρ : RR} {x y : Int32} {ix : Nat} (hd : decode me.2.1 pc = .ok (.invokestatic ix, 3)) (hlk : Cond.methodLink me.1.cls ix Lib.Math.min.name ∈ lw_tbl) (hst : (st.map av_c).sum ≤ 8) (hd1 : 1 ≤ d) (k : Sk d me n0 n1 μ1 ρ1 (pc + 3) ls (av_i (if y < x then y else x) :: st) nx μ ρ) : Sk d me n0 n1 μ1 ρ1 pc ls (av_i y :: av_i x :: st) nx μ ρ := by
  intro p l e R s m args below meth c ad0 tc D A C ad H locs la hg h0 h1 hrq hP hD hS hl
  obtain ⟨hx, hb, hml, hr, hlk2, hown, hts, hK, hro, hA, hf, hlc, hcl, hsl, hne, hao, hnm, h1k⟩ := id C
  have hm := ss_le h1
  exact va_mmin hx hb (by rw [hml, hl.1]) hown (hts _ (GW_in hlk rfl)) (hts _ (GW_in mw_min_s rfl)) (hts _ (GW_in mw_ini rfl)) (hts _ (GW_in mw_min_c rfl)) (by omega) (by rw [cl_sum]; omega) (by omega) (by omega) hd (k p l e R s m args below meth c ad0 tc D A C ad H locs la hg h0 h1 hrq hP hD hS hl)
/-- what the tables say of a constructor -/
def CI (me : ME) (n : Nat) : Prop := Cond.code me.1 me.2.1 me.2.2.1 me.2.2.2 ∈ lw_tbl ∧ Cond.instanceMethod me.1 ∈ lw_tbl ∧ Cond.initialized me.1.cls ∈ lw_tbl ∧ me.1.name = "<init>" ∧ (me.1.cls ≠ "java/lang/invoke/MethodHandle" ∧ me.1.cls ≠ "java/lang/invoke/VarHandle" ∧ (parseMethodDescriptor me.1.desc).map (fun d => d.parameters.length) = some n) ∧ me.2.2.1 ≤ 40 ∧ me.2.2.2 = none
theorem Pk_blind {ad : Nat → Nat} {tc : Nat → ClassId} {D : va_G} {sz : Nat} {as : List AV} {n0 : Nat} {μ : MM} {ρ : RR} : FrameBlind (Pk_c ad tc D sz as n0 μ ρ) := by
  intro a U g mk q
  obtain ⟨q0, q1, qP, qK, qD, qR, qN, qA⟩ := q
  exact ⟨q0, q1, qP, va_K.moved (u := U) (U := U.calling g mk a) (Vm.Alike.refl U.vm) qK, qD, ro_same (u := U) (U := U.calling g mk a) rfl qR, ne_same (u := U) (U := U.calling g mk a) rfl qN, ao_mv (s := U) (U := U.calling g mk a) (Vm.Alike.refl U.vm) qA⟩
theorem wq_A {nx : Nat} {ad : Nat → Nat} {tc : Nat → ClassId} {μ : MM} {ρ : RR} {A : Nat → Prop} {H0 H : Heap} {locs : List Loc} (hD : va_D A (wq_w nx ad tc μ ρ)) (hS : va_S A H0 H locs) (hA : ∀ q, H0.size ≤ q → A q) : ∀ q, va_A (wq_w nx ad tc μ ρ) H.size q → A q := by
  intro q h
  rcases h with ⟨k, e, h⟩ | h
  · exact hD.2 k _ h
  · exact hA q (Nat.le_trans hS.1 h)
theorem ro_ad {ad ad' : Nat → Nat} {A : Nat → Prop} {U : State} {H : Heap} (he : ∀ b, 1000 ≤ b → ad' b = ad b) (h : ro_ok ad A U H) : ro_ok ad' A U H := by
  unfold ro_ok at h ⊢
  refine ⟨fun i hi => ?_, ⟨h.2.1.1, by rw [he 5000 (by omega)]; exact h.2.1.2⟩, fun i hi => ?_, fun i hi => ?_⟩
  · rw [he (1000 + i) (by omega)]; exact h.1 i hi
  · rw [he (2000 + i) (by omega), he (3000 + i) (by omega)]; exact h.2.2.1 i hi
  · rw [he (2000 + i) (by omega)]; exact h.2.2.2 i hi
section CALLK
variable {p : Program} {l : Launch} {e : Env} {R : Room} {s : State} {m : MethodId} {args : Array Value} {below : List Frame} {meth : Method} {c : Code} {H : Heap} {locs : List Loc} {cells slots mc ms : Nat} {Q : State → Prop} {ad : Nat → Nat} {tc : Nat → ClassId} {D : va_G} {A A1 : Nat → Prop} {pc : Nat} {la : Array Slot} {st0 rest : List Value} {a : Array Value} {free : Addr → Prop}
theorem ck_aft {n0 n1 : Nat} {μ1 : MM} {ρ1 : RR} (hr : va_Run p l e R s m args below meth c H locs cells slots mc ms (F0 m pc la st0) rest (Qk_r n0 n1 ad tc D A1 μ1 ρ1 a) free) (hS : va_S A s.heap H locs) (hA : ∀ q, q < H.size → A1 q → A q) (hA2 : ∀ q, A1 q → A q) (hf : ∀ q, free q → A q)
    (kk : ∀ (ad1 : Nat → Nat) (H1 : Heap) (locs1 : List Loc), (∀ b, b < n0 ∨ 1000 ≤ b → ad1 b = ad b) → va_P D vwCl (wq_w n1 ad1 tc μ1 ρ1) H1 → va_D A (wq_w n1 ad1 tc μ1 ρ1) → va_S A s.heap H1 locs1 → W p l e R s m args below meth c H1 locs1 (cells + mc) (slots + ms) Q (F0 m (pc + 3) la rest)) : W p l e R s m args below meth c H locs cells slots Q (F0 m pc la st0) := by
  intro T hT X
  obtain ⟨v, st₀, t, T', L, h0, X', hL, e1, e2, ⟨⟨hv, ad1, had, hb, hd9⟩, hz, hk⟩, st⟩ := hr T hT X
  cases hv
  rw [h0] at hz hk
  obtain ⟨t2, a1, b1⟩ := kk ad1 T'.heap (locs ++ L) had (by rw [e1]; exact hb) (hd9.weaken (fun _ q _ h => hA2 q.1 h))
    ⟨Nat.le_trans hS.1 (by rw [e1]; exact hz), fun q h1 h2 => by rw [e1, hk q (Nat.lt_of_lt_of_le h1 hS.1) (fun z => h2 (hA q (Nat.lt_of_lt_of_le h1 hS.1) z))]; exact hS.2.1 q h1 h2, fun q hq => by
      rcases List.mem_append.mp hq with h | h
      · exact hS.2.2 q h
      · exact hf _ (hL q h)⟩ T' rfl X'
  exact ⟨t2, st t2 a1, b1⟩
end CALLK
theorem sk_callI {d : Nat} {me : ME} {n0 n1 : Nat} {μ1 : MM} {ρ1 : RR} {pc : Nat} {ls : List (Option AV)} {st stk : List AV} {nx : Nat} {μ : MM} {ρ : RR} {me' : ME} {as : List AV} {a n ix m1 : Nat} {μ' : MM} {ρ' : RR} (hd : decode me.2.1 pc = .ok (.invokespecial ix, 3)) (hci : CI me' n) (hlk : Cond.methodLink me.1.cls ix me'.1 ∈ lw_tbl) (hn : as.length = n) (hst : (st.map av_c).sum ≤ 8) (hs : as.reverse ++ av_r a :: st = stk) (hm1 : nx ≤ m1) (hm2 : m1 ≤ n1) (hvl : vq_L nx ls) (hvs : vq_S nx st) (hrq1 : rq_ok m1 ρ') (hc : Ck d me' (av_r a :: as) nx μ ρ m1 μ' ρ') (kk : Sk (d + 1) me n0 n1 μ1 ρ1 (pc + 3) ls st m1 μ' ρ') : Sk (d + 1) me n0 n1 μ1 ρ1 pc ls stk nx μ ρ := by
  subst hs
  intro p l e R s m args below meth c ad0 tc D A C ad H locs la hg h0 h1 hrq hP hD hS hl
  obtain ⟨hx, hb, hml, hr, hlk2, hown, hts, hK, hro, hA, hf, hlc, hcl, hsl, hne, hao, hnm, h1k⟩ := id C
  obtain ⟨v1, v2, v4, v7, v5, v6, v8⟩ := hci
  have s1 := ss_le hm1
  have s2 := ss_le hm2
  have s0 := ss_le h0
  have hro1 : ro_ok ad A s s.heap := ro_ad (fun b hb2 => hg b (Or.inr hb2)) hro
  have hpre : ∀ U : State, U.heap = H → s.WarmedH U.vm → Pk_c ad tc D H.size (av_r a :: as) nx μ ρ ((av_r a :: as).map (av_V ad)).toArray U := by
    intro U hU hW
    refine ⟨rfl, by rw [hU], by rw [hU]; exact hP, va_K.moved hW.alike hK, hD.weaken (fun _ _ _ _ => trivial), ?_, ne_warm hW hne, ao_mv hW.alike hao⟩
    rw [hU]
    exact ro_mv hW (ro_narrow (ro_kept hro1 hS.2.1) (wq_A hD hS hA))
  have hcode : Cond.code me'.1 me'.2.1 me'.2.2.1 none ∈ (Cond.code me'.1 me'.2.1 me'.2.2.1 me'.2.2.2 :: GW_w) := by rw [v8]; exact List.mem_cons_self
  have hrun := va_runI (cc := me.2.1) (nL := me.2.2.1) (Ts := GW_w) (own := me.1.cls) (index := ix) (g := F0 m pc la ((as.reverse ++ av_r a :: st).map (av_V ad))) (locs := locs) (cells := nx - n0) (slots := ss_n nx - ss_n n0) (H := H) (R := R) (below := below) (meth := meth) (args := args) (p := p) (e := e) (c := c) (m := m) (s := s) (b := ad a) (As := as.map (av_V ad)) (rest := st.map (av_V ad))
    ⟨hx, hb, hml, hown, hts⟩ (hc l ad tc D H.size)
    ⟨by rw [← v8]; exact callB_of n hts (GW_good v1) rfl rfl rfl (hts _ (GW_in v4 rfl)) (hts _ (GW_in hlk rfl)) v5 ⟨hf, by show 8 + (me'.2.2.1 + 11) + 64 * d ≤ R.locals; omega⟩, v7, hts _ (GW_in v2 rfl)⟩
    ⟨Pk_blind, hpre⟩ rfl (by rw [List.length_map]; exact hn) (hl.1.trans rfl) (by simp [List.map_append, List.map_reverse, av_V]) (lv_room (by rw [cl_sum]; exact hst)) hd ⟨by omega, by omega⟩
  refine ck_aft (A := A) hrun hS (fun q _ h => wq_A hD hS hA q h) (fun q h => wq_A hD hS hA q h) (fun q h => wq_A hD hS hA q h) (fun ad1 H1 locs1 had hP1 hD1 hS1 => ?_)
  have := kk p l e R s m args below meth c ad0 tc D A C ad1 H1 locs1 la (fun b hb2 => by rw [had b (hb2.elim (fun z => Or.inl (by omega)) Or.inr)]; exact hg b hb2) (by omega) hm2 hrq1 hP1 hD1 hS1 (lo_adx hl (fun v hv => vq_ad (vq_Lin hvl v hv) had))
  rw [vq_map had hvs] at this
  rw [show m1 - n0 = nx - n0 + (m1 - nx) by omega, show ss_n m1 - ss_n n0 = ss_n nx - ss_n n0 + (ss_n m1 - ss_n nx) by omega] at this
  exact this
theorem sk_callN {d : Nat} {me : ME} {n0 n1 : Nat} {μ1 : MM} {ρ1 : RR} {pc : Nat} {ls : List (Option AV)} {st stk : List AV} {nx : Nat} {μ : MM} {ρ : RR} {me' : ME} {as : List AV} {a n ix m1 : Nat} {μ' : MM} {ρ' : RR} (hd : decode me.2.1 pc = .ok (.invokespecial ix, 3)) (hci : CI me' n) {host : String} (hlk : Cond.methodLinkNest me.1.cls ix me'.1 host ∈ lw_tbl) (hn : as.length = n) (hst : (st.map av_c).sum ≤ 8) (hs : as.reverse ++ av_r a :: st = stk) (hm1 : nx ≤ m1) (hm2 : m1 ≤ n1) (hvl : vq_L nx ls) (hvs : vq_S nx st) (hrq1 : rq_ok m1 ρ') (hc : Ck d me' (av_r a :: as) nx μ ρ m1 μ' ρ') (kk : Sk (d + 1) me n0 n1 μ1 ρ1 (pc + 3) ls st m1 μ' ρ') : Sk (d + 1) me n0 n1 μ1 ρ1 pc ls stk nx μ ρ := by
  subst hs
  intro p l e R s m args below meth c ad0 tc D A C ad H locs la hg h0 h1 hrq hP hD hS hl
  obtain ⟨hx, hb, hml, hr, hlk2, hown, hts, hK, hro, hA, hf, hlc, hcl, hsl, hne, hao, hnm, h1k⟩ := id C
  obtain ⟨v1, v2, v4, v7, v5, v6, v8⟩ := hci
  have s1 := ss_le hm1
  have s2 := ss_le hm2
  have s0 := ss_le h0
  have hro1 : ro_ok ad A s s.heap := ro_ad (fun b hb2 => hg b (Or.inr hb2)) hro
  have hpre : ∀ U : State, U.heap = H → s.WarmedH U.vm → Pk_c ad tc D H.size (av_r a :: as) nx μ ρ ((av_r a :: as).map (av_V ad)).toArray U := by
    intro U hU hW
    refine ⟨rfl, by rw [hU], by rw [hU]; exact hP, va_K.moved hW.alike hK, hD.weaken (fun _ _ _ _ => trivial), ?_, ne_warm hW hne, ao_mv hW.alike hao⟩
    rw [hU]
    exact ro_mv hW (ro_narrow (ro_kept hro1 hS.2.1) (wq_A hD hS hA))
  have hcode : Cond.code me'.1 me'.2.1 me'.2.2.1 none ∈ (Cond.code me'.1 me'.2.1 me'.2.2.1 me'.2.2.2 :: GW_w) := by rw [v8]; exact List.mem_cons_self
  have hrun := va_runIN (host := host) (cc := me.2.1) (nL := me.2.2.1) (Ts := GW_w) (own := me.1.cls) (index := ix) (g := F0 m pc la ((as.reverse ++ av_r a :: st).map (av_V ad))) (locs := locs) (cells := nx - n0) (slots := ss_n nx - ss_n n0) (H := H) (R := R) (below := below) (meth := meth) (args := args) (p := p) (e := e) (c := c) (m := m) (s := s) (b := ad a) (As := as.map (av_V ad)) (rest := st.map (av_V ad))
    ⟨hx, hb, hml, hown, hts⟩ (hc l ad tc D H.size)
    ⟨by rw [← v8]; exact va_cnB n hts (GW_good v1) rfl rfl rfl (hne _ _ _ _ hlk) (hts _ (GW_in v4 rfl)) v5 ⟨hf, by show 8 + (me'.2.2.1 + 11) + 64 * d ≤ R.locals; omega⟩, v7, hts _ (GW_in v2 rfl)⟩
    ⟨Pk_blind, hpre⟩ rfl (by rw [List.length_map]; exact hn) (hl.1.trans rfl) (by simp [List.map_append, List.map_reverse, av_V]) (lv_room (by rw [cl_sum]; exact hst)) hd ⟨by omega, by omega⟩
  refine ck_aft (A := A) hrun hS (fun q _ h => wq_A hD hS hA q h) (fun q h => wq_A hD hS hA q h) (fun q h => wq_A hD hS hA q h) (fun ad1 H1 locs1 had hP1 hD1 hS1 => ?_)
  have := kk p l e R s m args below meth c ad0 tc D A C ad1 H1 locs1 la (fun b hb2 => by rw [had b (hb2.elim (fun z => Or.inl (by omega)) Or.inr)]; exact hg b hb2) (by omega) hm2 hrq1 hP1 hD1 hS1 (lo_adx hl (fun v hv => vq_ad (vq_Lin hvl v hv) had))
  rw [vq_map had hvs] at this
  rw [show m1 - n0 = nx - n0 + (m1 - nx) by omega, show ss_n m1 - ss_n n0 = ss_n nx - ss_n n0 + (ss_n m1 - ss_n nx) by omega] at this
  exact this
