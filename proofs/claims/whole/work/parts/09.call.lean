/-! ===== calls ===== -/
theorem GW_good {me : ME} (h : Cond.code me.1 me.2.1 me.2.2.1 me.2.2.2 ∈ lw_tbl) : GoodIn GW_w (Cond.code me.1 me.2.1 me.2.2.1 me.2.2.2 :: GW_w) := by
  intro w hw
  rcases List.mem_cons.mp hw with rfl | hw
  · exact ⟨GW_in h rfl, good_of_word rfl⟩
  · exact ⟨hw, good_of_word (List.mem_filter.mp hw).2⟩
/-- what the tables say of a method that is called on an object, and of one that is called without *one* -/
def CV (me : ME) (n : Nat) : Prop := Cond.code me.1 me.2.1 me.2.2.1 me.2.2.2 ∈ lw_tbl ∧ Cond.instanceMethod me.1 ∈ lw_tbl ∧ Cond.selects me.1.cls me.1 me.1 ∈ lw_tbl ∧ Cond.initialized me.1.cls ∈ lw_tbl ∧ (me.1.cls ≠ "java/lang/invoke/MethodHandle" ∧ me.1.cls ≠ "java/lang/invoke/VarHandle" ∧ (parseMethodDescriptor me.1.desc).map (fun d => d.parameters.length) = some n) ∧ me.2.2.1 ≤ 40
def CS (me : ME) (n : Nat) : Prop := Cond.code me.1 me.2.1 me.2.2.1 me.2.2.2 ∈ lw_tbl ∧ Cond.static me.1 ∈ lw_tbl ∧ Cond.initialized me.1.cls ∈ lw_tbl ∧ (me.1.cls ≠ "java/lang/invoke/MethodHandle" ∧ me.1.cls ≠ "java/lang/invoke/VarHandle" ∧ (parseMethodDescriptor me.1.desc).map (fun d => d.parameters.length) = some n) ∧ me.2.2.1 ≤ 40
theorem Pc_blind {ad : Nat → Nat} {tc : Nat → ClassId} {D : va_G} {sz : Nat} {as : List AV} {μ : MM} : FrameBlind (Pc_c ad tc D sz as μ) := by
  intro a U g mk q
  obtain ⟨q0, q1, qP, qK, qD, qR⟩ := q
  exact ⟨q0, q1, qP, va_K.moved (u := U) (U := U.calling g mk a) (Vm.Alike.refl U.vm) qK, qD, ro_same (u := U) (U := U.calling g mk a) rfl qR⟩
theorem Pc_now {d : Nat} {me : ME} {p : Program} {R : Room} {s : State} {m : MethodId} {args : Array Value} {meth : Method} {c : Code} {ad : Nat → Nat} {tc : Nat → ClassId} {D : va_G} {A : Nat → Prop} (C : Cx d me p R s m args meth c ad tc D A) {μ : MM} {H : Heap} {locs : List Loc} (hP : va_P D vwCl (wo_w ad tc μ) H) (hD : va_D A (wo_w ad tc μ)) (hS : va_S A s.heap H locs) (as : List AV) :
    ∀ U : State, U.heap = H → s.WarmedH U.vm → Pc_c ad tc D H.size as μ (as.map (av_V ad)).toArray U := by
  obtain ⟨hx, hb, hml, hr, hlk, hown, hts, hK, hro, hA, hf, hlc⟩ := C
  intro U hU hW
  refine ⟨rfl, by rw [hU], by rw [hU]; exact hP, va_K.moved hW.alike hK, hD.weaken (fun _ _ _ _ => trivial), ?_⟩
  rw [hU]
  exact ro_mv hW (ro_narrow (ro_kept hro hS.2.1) (wo_A hD hS hA))
section CALLS
variable {p : Program} {l : Launch} {e : Env} {R : Room} {s : State} {m : MethodId} {args : Array Value} {below : List Frame} {meth : Method} {c : Code} {H : Heap} {locs : List Loc} {Q : State → Prop} {ad : Nat → Nat} {tc : Nat → ClassId} {D : va_G} {A A1 : Nat → Prop} {pc : Nat} {la : Array Slot} {st0 rest : List Value} {a : Array Value} {free : Addr → Prop}
theorem cl_aft {Po1 : Option AV → MM → Prop} (hr : va_Run p l e R s m args below meth c H locs 0 0 0 0 (F0 m pc la st0) rest (Qc_r ad tc D A1 Po1 a) free) (hS : va_S A s.heap H locs) (hA : ∀ q, q < H.size → A1 q → A q) (hf : ∀ q, free q → A q)
    (kk : ∀ (r : Option AV) (μ1 : MM) (H1 : Heap) (locs1 : List Loc), Po1 r μ1 → va_P D vwCl (wo_w ad tc μ1) H1 → va_S A s.heap H1 locs1 → W p l e R s m args below meth c H1 locs1 0 0 Q (F0 m (pc + 3) la ((r.map (av_V ad)).toList ++ rest))) : W p l e R s m args below meth c H locs 0 0 Q (F0 m pc la st0) := by
  intro T hT X
  obtain ⟨v, st₀, t, T', L, h0, X', hL, e1, e2, ⟨⟨r, μ1, hv, hp, hb⟩, hz, hk⟩, st⟩ := hr T hT X
  cases hv
  rw [h0] at hz hk
  obtain ⟨t2, a1, b1⟩ := kk r μ1 T'.heap (locs ++ L) hp (by rw [e1]; exact hb)
    ⟨Nat.le_trans hS.1 (by rw [e1]; exact hz), fun q h1 h2 => by rw [e1, hk q (Nat.lt_of_lt_of_le h1 hS.1) (fun z => h2 (hA q (Nat.lt_of_lt_of_le h1 hS.1) z))]; exact hS.2.1 q h1 h2, fun q hq => by
      rcases List.mem_append.mp hq with h | h
      · exact hS.2.2 q h
      · exact hf _ (hL q h)⟩ T' rfl X'
  exact ⟨t2, st t2 a1, b1⟩
end CALLS
theorem cl_sum (ad : Nat → Nat) (st : List AV) : ((st.map (av_V ad)).map fun v => v.category).sum = (st.map av_c).sum := by
  rw [List.map_map]
  congr 1
  apply List.map_congr_left
  intro v _
  exact av_cat ad v
theorem cl_opt (ad : Nat → Nat) (r : Option AV) (st : List AV) : (r.map (av_V ad)).toList ++ st.map (av_V ad) = (r.toList ++ st).map (av_V ad) := by
  cases r <;> rfl
theorem sm_callV {d : Nat} {me : ME} {pc : Nat} {ls : List (Option AV)} {st stk : List AV} {μ : MM} {Po Po1 : Option AV → MM → Prop} {me' : ME} {as : List AV} {a n ix : Nat} (hd : decode me.2.1 pc = .ok (.invokevirtual ix, 3)) (hcv : CV me' n) (hlk : Cond.methodLink me.1.cls ix me'.1 ∈ lw_tbl) {ci : Nat} {q : vw_C} (ha : sh_k a = ci) (hq : vwCl[ci]? = some q) (hqn : q.1 = me'.1.cls) (hci : ci < 20) (hn : as.length = n) (hst : (st.map av_c).sum ≤ 8) (hs : as.reverse ++ av_r a :: st = stk) (hc : Cl d me' (av_r a :: as) μ Po1) (kk : ∀ (r : Option AV) (μ1 : MM), Po1 r μ1 → Sm (d + 1) me (pc + 3) ls (r.toList ++ st) μ1 Po) : Sm (d + 1) me pc ls stk μ Po := by
  subst hs
  intro p l e R s m args below meth c ad tc D A C H locs la hP hD hS hl
  obtain ⟨hx, hb, hml, hr, hlk2, hown, hts, hK, hro, hA, hf, hlc⟩ := id C
  obtain ⟨v1, v2, v3, v4, v5, v6⟩ := hcv
  have hrun := va_runV (cc := me.2.1) (nL := me.2.2.1) (Ts := GW_w) (own := me.1.cls) (index := ix) (g := F0 m pc la ((as.reverse ++ av_r a :: st).map (av_V ad))) (locs := locs) (cells := 0) (slots := 0) (H := H) (R := R) (below := below) (meth := meth) (args := args) (p := p) (e := e) (c := c) (m := m) (s := s) (b := ad a) (As := as.map (av_V ad)) (rest := st.map (av_V ad)) (C := me'.1.cls)
    ⟨hx, hb, hml, hown, hts⟩ (hc l ad tc D H.size)
    ⟨callB_of n hts (GW_good v1) rfl rfl rfl (hts _ (GW_in v4 rfl)) (hts _ (GW_in hlk rfl)) v5 ⟨hf, by show 8 + (me'.2.2.1 + 11) + 64 * d ≤ R.locals; omega⟩, hts _ (GW_in v2 rfl), hts _ (GW_in v3 rfl)⟩
    ⟨Pc_blind, by rw [← hqn]; exact va_recv hK hP (ci := ci) (q0 := a) hq (ce_ob ha hci), Pc_now C hP hD hS (av_r a :: as)⟩ rfl (by rw [List.length_map]; exact hn) (hl.1.trans rfl) (by simp [List.map_append, List.map_reverse, av_V]) (lv_room (by rw [cl_sum]; exact hst)) hd ⟨Nat.zero_le _, Nat.zero_le _⟩
  refine cl_aft (A := A) hrun hS (fun q _ h => wo_A hD hS hA q h) (fun q h => wo_A hD hS hA q h) (fun r μ1 H1 locs1 hp hP1 hS1 => ?_)
  rw [cl_opt]
  exact kk r μ1 hp p l e R s m args below meth c ad tc D A C H1 locs1 la hP1 (wo_D hD) hS1 hl
theorem sm_callT {d : Nat} {me : ME} {pc : Nat} {ls : List (Option AV)} {st stk : List AV} {μ : MM} {Po Po1 : Option AV → MM → Prop} {me' : ME} {as : List AV} {a n ix : Nat} (hd : decode me.2.1 pc = .ok (.invokevirtual ix, 3)) (hcv : CV me' n) (hlk : Cond.methodLink me.1.cls ix me'.1 ∈ lw_tbl) (ha : sh_k a = 42) (hqn : me'.1.cls = "java/lang/String") (hn : as.length = n) (hst : (st.map av_c).sum ≤ 8) (hs : as.reverse ++ av_r a :: st = stk) (hc : Cl d me' (av_r a :: as) μ Po1) (kk : ∀ (r : Option AV) (μ1 : MM), Po1 r μ1 → Sm (d + 1) me (pc + 3) ls (r.toList ++ st) μ1 Po) : Sm (d + 1) me pc ls stk μ Po := by
  subst hs
  intro p l e R s m args below meth c ad tc D A C H locs la hP hD hS hl
  obtain ⟨hx, hb, hml, hr, hlk2, hown, hts, hK, hro, hA, hf, hlc⟩ := id C
  obtain ⟨v1, v2, v3, v4, v5, v6⟩ := hcv
  have hrun := va_runV (cc := me.2.1) (nL := me.2.2.1) (Ts := GW_w) (own := me.1.cls) (index := ix) (g := F0 m pc la ((as.reverse ++ av_r a :: st).map (av_V ad))) (locs := locs) (cells := 0) (slots := 0) (H := H) (R := R) (below := below) (meth := meth) (args := args) (p := p) (e := e) (c := c) (m := m) (s := s) (b := ad a) (As := as.map (av_V ad)) (rest := st.map (av_V ad)) (C := me'.1.cls)
    ⟨hx, hb, hml, hown, hts⟩ (hc l ad tc D H.size)
    ⟨callB_of n hts (GW_good v1) rfl rfl rfl (hts _ (GW_in v4 rfl)) (hts _ (GW_in hlk rfl)) v5 ⟨hf, by show 8 + (me'.2.2.1 + 11) + 64 * d ≤ R.locals; omega⟩, hts _ (GW_in v2 rfl), hts _ (GW_in v3 rfl)⟩
    ⟨Pc_blind, by obtain ⟨j, hj, rfl⟩ := so_sh ha; rw [hqn]; exact va_Orecv (hro.2.2.1 j hj).1 hS, Pc_now C hP hD hS (av_r a :: as)⟩ rfl (by rw [List.length_map]; exact hn) (hl.1.trans rfl) (by simp [List.map_append, List.map_reverse, av_V]) (lv_room (by rw [cl_sum]; exact hst)) hd ⟨Nat.zero_le _, Nat.zero_le _⟩
  refine cl_aft (A := A) hrun hS (fun q _ h => wo_A hD hS hA q h) (fun q h => wo_A hD hS hA q h) (fun r μ1 H1 locs1 hp hP1 hS1 => ?_)
  rw [cl_opt]
  exact kk r μ1 hp p l e R s m args below meth c ad tc D A C H1 locs1 la hP1 (wo_D hD) hS1 hl
theorem sm_callS {d : Nat} {me : ME} {pc : Nat} {ls : List (Option AV)} {st stk : List AV} {μ : MM} {Po Po1 : Option AV → MM → Prop} {me' : ME} {as : List AV} {n ix : Nat} (hd : decode me.2.1 pc = .ok (.invokestatic ix, 3)) (hcv : CS me' n) (hlk : Cond.methodLink me.1.cls ix me'.1 ∈ lw_tbl) (hn : as.length = n) (hst : (st.map av_c).sum ≤ 8) (hs : as.reverse ++ st = stk) (hc : Cl d me' as μ Po1) (kk : ∀ (r : Option AV) (μ1 : MM), Po1 r μ1 → Sm (d + 1) me (pc + 3) ls (r.toList ++ st) μ1 Po) : Sm (d + 1) me pc ls stk μ Po := by
  subst hs
  intro p l e R s m args below meth c ad tc D A C H locs la hP hD hS hl
  obtain ⟨hx, hb, hml, hr, hlk2, hown, hts, hK, hro, hA, hf, hlc⟩ := id C
  obtain ⟨v1, v2, v4, v5, v6⟩ := hcv
  have hrun := va_runS (cc := me.2.1) (nL := me.2.2.1) (Ts := GW_w) (own := me.1.cls) (index := ix) (g := F0 m pc la ((as.reverse ++ st).map (av_V ad))) (locs := locs) (cells := 0) (slots := 0) (H := H) (R := R) (below := below) (meth := meth) (args := args) (p := p) (e := e) (c := c) (m := m) (s := s) (As := as.map (av_V ad)) (rest := st.map (av_V ad))
    ⟨hx, hb, hml, hown, hts⟩ (hc l ad tc D H.size)
    ⟨callB_of n hts (GW_good v1) rfl rfl rfl (hts _ (GW_in v4 rfl)) (hts _ (GW_in hlk rfl)) v5 ⟨hf, by show 8 + (me'.2.2.1 + 11) + 64 * d ≤ R.locals; omega⟩, hts _ (GW_in v2 rfl)⟩
    ⟨Pc_blind, Pc_now C hP hD hS as⟩ rfl (by rw [List.length_map]; exact hn) (hl.1.trans rfl) (by simp [List.map_append, List.map_reverse]) (lv_room (by rw [cl_sum]; exact hst)) hd ⟨Nat.zero_le _, Nat.zero_le _⟩
  refine cl_aft (A := A) hrun hS (fun q _ h => wo_A hD hS hA q h) (fun q h => wo_A hD hS hA q h) (fun r μ1 H1 locs1 hp hP1 hS1 => ?_)
  rw [cl_opt]
  exact kk r μ1 hp p l e R s m args below meth c ad tc D A C H1 locs1 la hP1 (wo_D hD) hS1 hl
theorem mw_ini : Cond.initialized "java/lang/Math" ∈ lw_tbl := by decide +kernel
theorem mw_max_s : Cond.static Lib.Math.max.name ∈ lw_tbl := by decide +kernel
theorem mw_max_c : Cond.code Lib.Math.max.name Lib.Math.max.code 2 (some .int) ∈ lw_tbl := by decide +kernel
theorem mw_min_s : Cond.static Lib.Math.min.name ∈ lw_tbl := by decide +kernel
theorem mw_min_c : Cond.code Lib.Math.min.name Lib.Math.min.code 2 (some .int) ∈ lw_tbl := by decide +kernel
theorem mw_abs_s : Cond.static Lib.Math.abs.name ∈ lw_tbl := by decide +kernel
theorem mw_abs_c : Cond.code Lib.Math.abs.name Lib.Math.abs.code 1 (some .int) ∈ lw_tbl := by decide +kernel
theorem mw_maxl_s : Cond.static Lib.MathLoose.max_long.x ∈ lw_tbl := by decide +kernel
theorem mw_maxl_c : Cond.code Lib.MathLoose.max_long.x Lib.MathLoose.max_long.code 4 (some .long) ∈ lw_tbl := by decide +kernel
theorem mw_minl_s : Cond.static Lib.MathLoose.min_long.x ∈ lw_tbl := by decide +kernel
theorem mw_minl_c : Cond.code Lib.MathLoose.min_long.x Lib.MathLoose.min_long.code 4 (some .long) ∈ lw_tbl := by decide +kernel
theorem sm_max {d : Nat} {me : ME} {pc : Nat} {ls : List (Option AV)} {st : List AV} {μ : MM} {Po : Option AV → MM → Prop} {ix : Nat} {x y : Int32} (hd : decode me.2.1 pc = .ok (.invokestatic ix, 3)) (hlk : Cond.methodLink me.1.cls ix Lib.Math.max.name ∈ lw_tbl) (hst : (st.map av_c).sum ≤ 8) (k : Sm (d + 1) me (pc + 3) ls (av_i (if x < y then y else x) :: st) μ Po) : Sm (d + 1) me pc ls (av_i y :: av_i x :: st) μ Po := by
  intro p l e R s m args below meth c ad tc D A C H locs la hP hD hS hl
  obtain ⟨hx, hb, hml, hr, hlk2, hown, hts, hK, hro, hA, hf, hlc⟩ := id C
  exact va_mmax hx hb (by rw [hml, hl.1]) hown (hts _ (GW_in hlk rfl)) (hts _ (GW_in mw_max_s rfl)) (hts _ (GW_in mw_ini rfl)) (hts _ (GW_in mw_max_c rfl)) (by omega) (by rw [cl_sum]; omega) (Nat.zero_le _) (Nat.zero_le _) hd (k p l e R s m args below meth c ad tc D A C H locs la hP hD hS hl)
theorem sm_min {d : Nat} {me : ME} {pc : Nat} {ls : List (Option AV)} {st : List AV} {μ : MM} {Po : Option AV → MM → Prop} {ix : Nat} {x y : Int32} (hd : decode me.2.1 pc = .ok (.invokestatic ix, 3)) (hlk : Cond.methodLink me.1.cls ix Lib.Math.min.name ∈ lw_tbl) (hst : (st.map av_c).sum ≤ 8) (k : Sm (d + 1) me (pc + 3) ls (av_i (if y < x then y else x) :: st) μ Po) : Sm (d + 1) me pc ls (av_i y :: av_i x :: st) μ Po := by
  intro p l e R s m args below meth c ad tc D A C H locs la hP hD hS hl
  obtain ⟨hx, hb, hml, hr, hlk2, hown, hts, hK, hro, hA, hf, hlc⟩ := id C
  exact va_mmin hx hb (by rw [hml, hl.1]) hown (hts _ (GW_in hlk rfl)) (hts _ (GW_in mw_min_s rfl)) (hts _ (GW_in mw_ini rfl)) (hts _ (GW_in mw_min_c rfl)) (by omega) (by rw [cl_sum]; omega) (Nat.zero_le _) (Nat.zero_le _) hd (k p l e R s m args below meth c ad tc D A C H locs la hP hD hS hl)
theorem sm_abs {d : Nat} {me : ME} {pc : Nat} {ls : List (Option AV)} {st : List AV} {μ : MM} {Po : Option AV → MM → Prop} {ix : Nat} {x : Int32} (hd : decode me.2.1 pc = .ok (.invokestatic ix, 3)) (hlk : Cond.methodLink me.1.cls ix Lib.Math.abs.name ∈ lw_tbl) (hst : (st.map av_c).sum ≤ 8) (k : Sm (d + 1) me (pc + 3) ls (av_i (if 0 ≤ x then x else 0 - x) :: st) μ Po) : Sm (d + 1) me pc ls (av_i x :: st) μ Po := by
  intro p l e R s m args below meth c ad tc D A C H locs la hP hD hS hl
  obtain ⟨hx, hb, hml, hr, hlk2, hown, hts, hK, hro, hA, hf, hlc⟩ := id C
  exact va_mabs hx hb (by rw [hml, hl.1]) hown (hts _ (GW_in hlk rfl)) (hts _ (GW_in mw_abs_s rfl)) (hts _ (GW_in mw_ini rfl)) (hts _ (GW_in mw_abs_c rfl)) (by omega) (by rw [cl_sum]; omega) (Nat.zero_le _) (Nat.zero_le _) hd (k p l e R s m args below meth c ad tc D A C H locs la hP hD hS hl)
theorem sm_maxl {d : Nat} {me : ME} {pc : Nat} {ls : List (Option AV)} {st : List AV} {μ : MM} {Po : Option AV → MM → Prop} {ix : Nat} {x y : Int64} (hd : decode me.2.1 pc = .ok (.invokestatic ix, 3)) (hlk : Cond.methodLink me.1.cls ix Lib.MathLoose.max_long.x ∈ lw_tbl) (hst : (st.map av_c).sum ≤ 8) (k : Sm (d + 1) me (pc + 3) ls (av_l (if y < x then x else y) :: st) μ Po) : Sm (d + 1) me pc ls (av_l y :: av_l x :: st) μ Po := by
  intro p l e R s m args below meth c ad tc D A C H locs la hP hD hS hl
  obtain ⟨hx, hb, hml, hr, hlk2, hown, hts, hK, hro, hA, hf, hlc⟩ := id C
  exact va_mmax_long hx hb (by rw [hml, hl.1]) hown (hts _ (GW_in hlk rfl)) (hts _ (GW_in mw_maxl_s rfl)) (hts _ (GW_in mw_ini rfl)) (hts _ (GW_in mw_maxl_c rfl)) (by omega) (by rw [cl_sum]; omega) (Nat.zero_le _) (Nat.zero_le _) hd (k p l e R s m args below meth c ad tc D A C H locs la hP hD hS hl)
theorem sm_minl {d : Nat} {me : ME} {pc : Nat} {ls : List (Option AV)} {st : List AV} {μ : MM} {Po : Option AV → MM → Prop} {ix : Nat} {x y : Int64} (hd : decode me.2.1 pc = .ok (.invokestatic ix, 3)) (hlk : Cond.methodLink me.1.cls ix Lib.MathLoose.min_long.x ∈ lw_tbl) (hst : (st.map av_c).sum ≤ 8) (k : Sm (d + 1) me (pc + 3) ls (av_l (if y < x then y else x) :: st) μ Po) : Sm (d + 1) me pc ls (av_l y :: av_l x :: st) μ Po := by
  intro p l e R s m args below meth c ad tc D A C H locs la hP hD hS hl
  obtain ⟨hx, hb, hml, hr, hlk2, hown, hts, hK, hro, hA, hf, hlc⟩ := id C
  exact va_mmin_long hx hb (by rw [hml, hl.1]) hown (hts _ (GW_in hlk rfl)) (hts _ (GW_in mw_minl_s rfl)) (hts _ (GW_in mw_ini rfl)) (hts _ (GW_in mw_minl_c rfl)) (by omega) (by rw [cl_sum]; omega) (Nat.zero_le _) (Nat.zero_le _) hd (k p l e R s m args below meth c ad tc D A C H locs la hP hD hS hl)
theorem mw_ac1 : Cond.native arraycopyName ∈ lw_tbl := by decide +kernel
theorem mw_ac2 : Cond.static arraycopyName ∈ lw_tbl := by decide +kernel
theorem mw_ac3 : Cond.initialized "java/lang/System" ∈ lw_tbl := by decide +kernel
theorem mw_ac4 : nativeFrameWords "java/lang/System" "arraycopy" 5 + 11 ≤ 40 := by decide +kernel
theorem sm_copyI {d : Nat} {me : ME} {pc : Nat} {ls : List (Option AV)} {st : List AV} {μ : MM} {Po : Option AV → MM → Prop} {ix : Nat} {a b : Nat} {sp dp n : Int32} (hd : decode me.2.1 pc = .ok (.invokestatic ix, 3)) (hlk : Cond.methodLink me.1.cls ix arraycopyName ∈ lw_tbl) (ha : sh_k a = 20) (hb1 : sh_k b = 20) (h1 : ¬ sp < 0) (h2 : ¬ dp < 0) (h3 : ¬ n < 0) (h4 : sp.toNatClampNeg + n.toNatClampNeg ≤ sh_n a) (h5 : dp.toNatClampNeg + n.toNatClampNeg ≤ sh_n b) (hst : (st.map av_c).sum ≤ 8) (k : Sm (d + 1) me (pc + 3) ls st (mm_F μ b (va_cpy (μ.1 a) (μ.1 b) sp.toNatClampNeg dp.toNatClampNeg n.toNatClampNeg)) Po) : Sm (d + 1) me pc ls (av_i n :: av_i dp :: av_r b :: av_i sp :: av_r a :: st) μ Po := by
  intro p l e R s m args below meth c ad tc D A C H locs la hP hD hS hl
  obtain ⟨hx, hb, hml, hr, hlk2, hown, hts, hK, hro, hA, hf, hlc⟩ := id C
  have h40 := mw_ac4
  refine va_copyi (ty := .int) hx hb (by rw [hml, hl.1]) hown (hts _ (GW_in hlk rfl)) (hts _ (GW_in mw_ac1 rfl)) (hts _ (GW_in mw_ac2 rfl)) (hts _ (GW_in mw_ac3 rfl)) hK hP hD hS a b 0 0 (ce_i ha (by decide) (by decide)) (ce_i hb1 (by decide) (by decide)) rfl rfl rfl h1 h2 h3 h4 h5 (fun _ _ => rfl) (by omega) (by rw [cl_sum]; omega) hd (fun H1 locs1 hP1 hD1 hS1 => ?_)
  have eW : (wo_w ad tc μ).set b (ad b, .inl (tc 20, sh_n b, .inl (va_cpy (μ.1 a) (μ.1 b) sp.toNatClampNeg dp.toNatClampNeg n.toNatClampNeg))) = wo_w ad tc (mm_F μ b (va_cpy (μ.1 a) (μ.1 b) sp.toNatClampNeg dp.toNatClampNeg n.toNatClampNeg)) := by
    refine wo_set ?_ (fun z hz => ce_of (up_1_ne hz) rfl)
    rw [ce_e, if_neg (by omega), ce_a, if_neg (by omega), if_neg (by omega), hb1]
    show Sum.inl (tc 20, sh_n b, Sum.inl (up_1 μ.1 b _ b)) = _
    rw [up_1_eq]
  exact k p l e R s m args below meth c ad tc D A C H1 locs1 la (eW ▸ hP1) (eW ▸ hD1) hS1 hl
theorem ld_sw {p : Program} {l : Launch} {e : Env} {R : Room} {s : State} {m : MethodId} {args : Array Value} {below : List Frame} {meth : Method} {c : Code} {T : State} {locs : List Loc} {cells slots : Nat}
    (X : Stand p l e R s m args below meth c T locs cells slots) (hexec : p.tables.exec = Jvm.exec) {own text : String} {index : Nat} {a : Addr} (hown : s.vm.findClass own = some m.cls)
    (hconst : (Cond.stringRef own index text).before #[] s = true) (hev : (Term.string own index).eval #[] s none [] s = some (.ref a)) {g : JFrame} (hg : g.method = m) (hdg : decode c.code g.pc = .ok (.ldc_w index, 3)) :
    ∀ target, Steps p.tables e below (T.setTop { g with pc := g.pc + 3, stack := .ref a :: g.stack }) target → Steps p.tables e below (T.setTop g) target := by
  obtain ⟨k, cf, i, a', hk, hcf, hcp, -, hr, hev'⟩ := Cond.stringRef_spec hown hconst
  cases hev.symm.trans hev'
  obtain ⟨k', hk', he⟩ := X.warmed.alike.2.2 _ _ hk
  have hr' : k'.resolved[index]? = some (some (.string a)) := by
    rcases X.warmed.entry hk hk' index with h | ⟨h, -⟩
    · rw [h]; exact hr
    · rw [hr] at h; cases h
  intro target hrest
  subst hg
  jvm_step X.here [hexec, hdg, ldc_w.wp_string (e := e) (s := T) (f := g) X.here.top hk' (by rw [he]; exact hcf) hcp hr']
  exact hrest
theorem sm_ldcSw {d : Nat} {me : ME} {pc : Nat} {ls : List (Option AV)} {st : List AV} {μ : MM} {Po : Option AV → MM → Prop} {i ix : Nat} {tx : String} (hd : decode me.2.1 pc = .ok (.ldc_w ix, 3)) (hi : i < st_c) (he : st_L.getD i ("", 0, "") = (me.1.cls, ix, tx)) (k : Sm d me (pc + 3) ls (av_r (2000 + i) :: st) μ Po) : Sm d me pc ls st μ Po := by
  intro p l e R s m args below meth c ad tc D A C H locs la hP hD hS hl
  obtain ⟨hx, hb, hml, hr, hlk2, hown, hts, hK, hro, hA, hf, hlc⟩ := id C
  have h1 := hro.2.2.2 i hi
  rw [he] at h1
  intro T hT X
  obtain ⟨t, a1, b1⟩ := (k p l e R s m args below meth c ad tc D A C H locs la hP hD hS hl) T hT X
  exact ⟨t, ld_sw X hx hown h1.1 h1.2 (g := F0 m pc la (st.map (av_V ad))) rfl (by rw [hb]; exact hd) t a1, b1⟩
theorem va_copyT {p : Program} {l : Launch} {e : Env} {R : Room} {s : State} {m : MethodId} {args : Array Value} {below : List Frame} {meth : Method} {c : Code} {H : Heap} {locs : List Loc} {cells slots : Nat} {Q : State → Prop} {cc : ByteArray} {pc : Nat} {ls : Array Slot} {rest : List Value} {D : va_G} {cl : List vw_C} {A : Nat → Prop} {a : Nat} {tys : List (ClassId × FieldType)} {ws : va_W} (hexec : p.tables.exec = Jvm.exec) (hb : c.code = cc) (hml : c.maxLocals = ls.size) {own : String} {index : Nat} (hown : s.vm.findClass own = some m.cls) (hlink : (Cond.methodLink own index arraycopyName).before args s = true) (hnat : (Cond.native arraycopyName).before args s = true) (hstat : (Cond.static arraycopyName).before args s = true) (hini : (Cond.initialized "java/lang/System").before args s = true)
    (hK : va_K D cl tys s) (hP : va_P D cl ws H) (hD : va_D A ws) (hS : va_S A s.heap H locs) {b0 n0 : Nat} {f : Nat → Int32} (hX : va_T .int b0 n0 (fun j => .int (f j)) A s s.heap) (q1 t1 : Nat) {c1 : ClassId} {n1 : Nat} {g : Nat → Int32} (ha1 : ws[q1]? = some (a, .inl (c1, n1, .inl g))) (ht1 : tys[t1]? = some (c1, .int))
    {sp dp n : Int32} (h1 : ¬ sp < 0) (h2 : ¬ dp < 0) (h3 : ¬ n < 0) (h4 : sp.toNatClampNeg + n.toNatClampNeg ≤ n0) (h5 : dp.toNatClampNeg + n.toNatClampNeg ≤ n1)
    (hframes : 1 ≤ R.frames) (hlocals : (rest.map fun v => v.category).sum + (nativeFrameWords "java/lang/System" "arraycopy" 5 + 11) ≤ R.locals) (hdg : decode cc pc = .ok (.invokestatic index, 3))
    (kk : ∀ (H1 : Heap) (locs1 : List Loc), va_P D cl (ws.set q1 (a, .inl (c1, n1, .inl (va_cpy f g sp.toNatClampNeg dp.toNatClampNeg n.toNatClampNeg)))) H1 → va_D A (ws.set q1 (a, .inl (c1, n1, .inl (va_cpy f g sp.toNatClampNeg dp.toNatClampNeg n.toNatClampNeg)))) → va_S A s.heap H1 locs1 → W p l e R s m args below meth c H1 locs1 cells slots Q (F0 m (pc + 3) ls rest)) : W p l e R s m args below meth c H locs cells slots Q (F0 m pc ls (.int n :: .int dp :: .ref a :: .int sp :: .ref b0 :: rest)) := by
  have nn : ∀ z : Int32, ¬ z < 0 → z.toInt = (z.toNatClampNeg : Int) := by
    intro z hz
    have hz0 : (0 : Int) ≤ z.toInt := by
      have := Int32.not_lt.mp hz
      simpa using Int32.le_iff_toInt_le.mp this
    show z.toInt = ((z.toInt.toNat : Nat) : Int)
    omega
  intro T hT X
  obtain ⟨scr, hs1, hs2, hs3, hs4, -, hs5, hs7⟩ := hX
  have hc0 : H[b0]? = some scr := by rw [hS.2.1 b0 (Array.getElem?_eq_some_iff.mp hs1).1 hs7]; exact hs1
  have hc1 : H[a]? = some (vp_cell c1 (n1, .inl g)) := hP q1 _ ha1
  obtain ⟨hs6, k0, hk0, cm0, hkk0⟩ := hs2
  obtain ⟨-, k1, hk1, cm1, hkk1⟩ := (hK.2 t1 _ ht1).1 n1 (fun j => .int (g j))
  obtain ⟨vm', X', step⟩ := X.arraycopy hexec hown hlink hnat hstat hini (src := b0) (dst := a) (cs := scr) (cd := vp_cell c1 (n1, .inl g)) (srcPos := sp) (destPos := dp) (n := n) (by rw [hT]; exact hc0) (by rw [hT]; exact hc1)
    hs6 (fun _ h => by cases h) hs3 (fun h => by cases h) hk0 hk1 hkk0 hkk1 (by simp [refKind]) h1 h2 h3
    (by rw [nn sp h1, nn n h3]; omega)
    (by rw [nn dp h2, nn n h3]; show ¬ _ > ((arrV c1 n1 (fun j => .int (g j))).slots.size : Int); rw [arrV_size]; omega)
    (fun vm₁ _ i hi => by
      have e : scr.slots.getD (sp.toNatClampNeg + i) .null = .int (f (sp.toNatClampNeg + i)) := by
        rw [Array.getD_eq_getD_getElem?, hs5 _ (by omega)]
        rfl
      refine ⟨?_, ?_⟩
      · rw [e]
        rfl
      · rw [e]
        exact trivial)
    (g := F0 m pc ls (.int n :: .int dp :: .ref a :: .int sp :: .ref b0 :: rest)) rfl (by rw [hml]) (rest := rest) rfl (by rw [hb]; exact hdg) hframes (by show 2 * 0 + _ + _ ≤ _; omega)
  have e1 : copied scr (vp_cell c1 (n1, .inl g)) sp dp n = vp_cell c1 (n1, .inl (va_cpy f g sp.toNatClampNeg dp.toNatClampNeg n.toNatClampNeg)) := va_copiedX (fun z => .int z) scr c1 f g hs5 h4
  rw [e1] at X' step
  have hl : a < H.size := (Array.getElem?_eq_some_iff.mp hc1).1
  have hheap : ((T.setVm vm').setCell a (vp_cell c1 (n1, .inl (va_cpy f g sp.toNatClampNeg dp.toNatClampNeg n.toNatClampNeg)))).heap = H.setIfInBounds a (vp_cell c1 (n1, .inl (va_cpy f g sp.toNatClampNeg dp.toNatClampNeg n.toNatClampNeg))) := by rw [← hT]; rfl
  have oq : ∀ q : Nat, q ≠ a → (H.setIfInBounds a (vp_cell c1 (n1, .inl (va_cpy f g sp.toNatClampNeg dp.toNatClampNeg n.toNatClampNeg))))[q]? = H[q]? := fun q hq => by simp [Array.getElem?_setIfInBounds, Ne.symm hq]
  obtain ⟨t, a1, b1⟩ := kk _ _ (hP.set hD ha1 (show (H.setIfInBounds a _)[a]? = some _ by simp [Array.getElem?_setIfInBounds, hl]) oq) (hD.set ha1) ⟨by simp; exact hS.1, fun q g1 g2 => by
      rw [oq q (fun e => g2 (by rw [e]; exact hD.2 q1 _ ha1))]
      exact hS.2.1 q g1 g2, fun q hq => by
      rcases List.mem_append.mp hq with h | h
      · exact hS.2.2 q h
      · obtain ⟨z, -, hz⟩ := List.mem_map.mp h
        rw [← hz]
        exact hD.2 q1 _ ha1⟩ _ hheap X'
  exact ⟨t, step t a1, b1⟩
theorem sm_copyR {d : Nat} {me : ME} {pc : Nat} {ls : List (Option AV)} {st : List AV} {μ : MM} {Po : Option AV → MM → Prop} {ix : Nat} {a b : Nat} {sp dp n : Int32} (hd : decode me.2.1 pc = .ok (.invokestatic ix, 3)) (hlk : Cond.methodLink me.1.cls ix arraycopyName ∈ lw_tbl) (ha : sh_k a = 40) (hb1 : sh_k b = 20) (h1 : ¬ sp < 0) (h2 : ¬ dp < 0) (h3 : ¬ n < 0) (h4 : sp.toNatClampNeg + n.toNatClampNeg ≤ sh_n a) (h5 : dp.toNatClampNeg + n.toNatClampNeg ≤ sh_n b) (hst : (st.map av_c).sum ≤ 8) (k : Sm (d + 1) me (pc + 3) ls st (mm_F μ b (va_cpy (ro_I a) (μ.1 b) sp.toNatClampNeg dp.toNatClampNeg n.toNatClampNeg)) Po) : Sm (d + 1) me pc ls (av_i n :: av_i dp :: av_r b :: av_i sp :: av_r a :: st) μ Po := by
  intro p l e R s m args below meth c ad tc D A C H locs la hP hD hS hl
  obtain ⟨hx, hb, hml, hr, hlk2, hown, hts, hK, hro, hA, hf, hlc⟩ := id C
  have h40 := mw_ac4
  obtain ⟨i, hi, rfl, hn⟩ := ro_sh ha
  rw [hn] at h4
  have hT : va_T .int (ad (1000 + i)) (ro_L.getD i []).length (fun j => .int (ro_I (1000 + i) j)) A s s.heap := by
    have := (hro.1 i hi).1
    simpa only [ro_I, Nat.add_sub_cancel_left] using this
  refine va_copyT hx hb (by rw [hml, hl.1]) hown (hts _ (GW_in hlk rfl)) (hts _ (GW_in mw_ac1 rfl)) (hts _ (GW_in mw_ac2 rfl)) (hts _ (GW_in mw_ac3 rfl)) hK hP hD hS hT b 0 (ce_i hb1 (by decide) (by decide)) rfl h1 h2 h3 h4 h5 (by omega) (by rw [cl_sum]; omega) hd (fun H1 locs1 hP1 hD1 hS1 => ?_)
  have eW : (wo_w ad tc μ).set b (ad b, .inl (tc 20, sh_n b, .inl (va_cpy (ro_I (1000 + i)) (μ.1 b) sp.toNatClampNeg dp.toNatClampNeg n.toNatClampNeg))) = wo_w ad tc (mm_F μ b (va_cpy (ro_I (1000 + i)) (μ.1 b) sp.toNatClampNeg dp.toNatClampNeg n.toNatClampNeg)) := by
    refine wo_set ?_ (fun z hz => ce_of (up_1_ne hz) rfl)
    rw [ce_e, if_neg (by omega), ce_a, if_neg (by omega), if_neg (by omega), hb1]
    show Sum.inl (tc 20, sh_n b, Sum.inl (up_1 μ.1 b _ b)) = _
    rw [up_1_eq]
  exact k p l e R s m args below meth c ad tc D A C H1 locs1 la (eW ▸ hP1) (eW ▸ hD1) hS1 hl
