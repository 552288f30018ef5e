/-! ===== calls ===== -/
theorem GW_good {me : ME} (h : Cond.code me.1 me.2.1 me.2.2.1 me.2.2.2 ∈ lw_tbl) : GoodIn GW_w (Cond.code me.1 me.2.1 me.2.2.1 me.2.2.2 :: GW_w) := by
  intro w hw
  rcases List.mem_cons.mp hw with rfl | hw
  · exact ⟨GW_in h rfl, good_of_word rfl⟩
  · exact ⟨hw, good_of_word (List.mem_filter.mp hw).2⟩
/-- what the tables say of a method that is called on an object, and of one that is called without *one* -/
def CV (me : ME) (n : Nat) : Prop := Cond.code me.1 me.2.1 me.2.2.1 me.2.2.2 ∈ lw_tbl ∧ Cond.instanceMethod me.1 ∈ lw_tbl ∧ Cond.selects me.1.cls me.1 me.1 ∈ lw_tbl ∧ Cond.initialized me.1.cls ∈ lw_tbl ∧ (me.1.cls ≠ "java/lang/invoke/MethodHandle" ∧ me.1.cls ≠ "java/lang/invoke/VarHandle" ∧ (parseMethodDescriptor me.1.desc).map (fun d => d.parameters.length) = some n) ∧ me.2.2.1 ≤ 40
def CS (me : ME) (n : Nat) : Prop := Cond.code me.1 me.2.1 me.2.2.1 me.2.2.2 ∈ lw_tbl ∧ Cond.static me.1 ∈ lw_tbl ∧ Cond.initialized me.1.cls ∈ lw_tbl ∧ (me.1.cls ≠ "java/lang/invoke/MethodHandle" ∧ me.1.cls ≠ "java/lang/invoke/VarHandle" ∧ (parseMethodDescriptor me.1.desc).map (fun d => d.parameters.length) = some n) ∧ me.2.2.1 ≤ 40
theorem Pc_blind {ad : Nat → Nat} {tc : Nat → ClassId} {D : va_G} {sz : Nat} {as : List AV} {μ : MM} : FrameBlind (Pc_c ad tc D sz as μ) := by
  intro a U g mk q
  obtain ⟨q0, q1, qP, qK, qD, qR⟩ := q
  exact ⟨q0, q1, qP, va_K.moved (u := U) (U := U.calling g mk a) (Vm.Alike.refl U.vm) qK, qD, ro_same (u := U) (U := U.calling g mk a) rfl qR⟩
theorem Pc_now {d : Nat} {me : ME} {p : Program} {R : Room} {s : State} {m : MethodId} {args : Array Value} {meth : Method} {c : Code} {ad : Nat → Nat} {tc : Nat → ClassId} {D : va_G} {A : Nat → Prop} (C : Cx d me p R s m args meth c ad tc D A) {μ : MM} {H : Heap} {locs : List Loc} (hP : va_P D vwCl (wo_w ad tc μ) H) (hD : va_D A (wo_w ad tc μ)) (hS : va_S A s.heap H locs) (as : List AV) :
    ∀ U : State, U.heap = H → s.WarmedH U.vm → Pc_c ad tc D H.size as μ (as.map (av_V ad)).toArray U := by
  obtain ⟨hx, hb, hml, hr, hlk, hown, hts, hK, hro, hA, hf, hlc⟩ := C
  intro U hU hW
  refine ⟨rfl, by rw [hU], by rw [hU]; exact hP, va_K.moved hW.alike hK, hD.weaken (fun _ _ _ _ => trivial), ?_⟩
  rw [hU]
  exact ro_mv hW (ro_narrow (ro_kept hro hS.2.1) (wo_A hD hS hA))
section CALLS
variable {p : Program} {l : Launch} {e : Env} {R : Room} {s : State} {m : MethodId} {args : Array Value} {below : List Frame} {meth : Method} {c : Code} {H : Heap} {locs : List Loc} {Q : State → Prop} {ad : Nat → Nat} {tc : Nat → ClassId} {D : va_G} {A A1 : Nat → Prop} {pc : Nat} {la : Array Slot} {st0 rest : List Value} {a : Array Value} {free : Addr → Prop}
theorem cl_aft {Po1 : Option AV → MM → Prop} (hr : va_Run p l e R s m args below meth c H locs 0 0 0 0 (F0 m pc la st0) rest (Qc_r ad tc D A1 Po1 a) free) (hS : va_S A s.heap H locs) (hA : ∀ q, q < H.size → A1 q → A q) (hf : ∀ q, free q → A q)
    (kk : ∀ (r : Option AV) (μ1 : MM) (H1 : Heap) (locs1 : List Loc), Po1 r μ1 → va_P D vwCl (wo_w ad tc μ1) H1 → va_S A s.heap H1 locs1 → W p l e R s m args below meth c H1 locs1 0 0 Q (F0 m (pc + 3) la ((r.map (av_V ad)).toList ++ rest))) : W p l e R s m args below meth c H locs 0 0 Q (F0 m pc la st0) := by
  intro T hT X
  obtain ⟨v, st₀, t, T', L, h0, X', hL, e1, e2, ⟨⟨r, μ1, hv, hp, hb⟩, hz, hk⟩, st⟩ := hr T hT X
  cases hv
  rw [h0] at hz hk
  obtain ⟨t2, a1, b1⟩ := kk r μ1 T'.heap (locs ++ L) hp (by rw [e1]; exact hb)
    ⟨Nat.le_trans hS.1 (by rw [e1]; exact hz), fun q h1 h2 => by rw [e1, hk q (Nat.lt_of_lt_of_le h1 hS.1) (fun z => h2 (hA q (Nat.lt_of_lt_of_le h1 hS.1) z))]; exact hS.2.1 q h1 h2, fun q hq => by
      rcases List.mem_append.mp hq with h | h
      · exact hS.2.2 q h
      · exact hf _ (hL q h)⟩ T' rfl X'
  exact ⟨t2, st t2 a1, b1⟩
end CALLS
theorem cl_sum (ad : Nat → Nat) (st : List AV) : ((st.map (av_V ad)).map fun v => v.category).sum = (st.map av_c).sum := by
  rw [List.map_map]
  congr 1
  apply List.map_congr_left
  intro v _
  exact av_cat ad v
theorem cl_opt (ad : Nat → Nat) (r : Option AV) (st : List AV) : (r.map (av_V ad)).toList ++ st.map (av_V ad) = (r.toList ++ st).map (av_V ad) := by
  cases r <;> rfl
theorem sm_callV {d : Nat} {me : ME} {pc : Nat} {ls : List (Option AV)} {st stk : List AV} {μ : MM} {Po Po1 : Option AV → MM → Prop} {me' : ME} {as : List AV} {a n ix : Nat} (hcv : CV me' n) (hlk : Cond.methodLink me.1.cls ix me'.1 ∈ lw_tbl) {ci : Nat} {q : vw_C} (hq : vwCl[ci]? = some q) (hqn : q.1 = me'.1.cls) (hci : ci < 20) (ha : sh_k a = ci) (hd : decode me.2.1 pc = .ok (.invokevirtual ix, 3)) (hn : as.length = n) (hst : (st.map av_c).sum ≤ 8) (hs : as.reverse ++ av_r a :: st = stk) (hc : Cl d me' (av_r a :: as) μ Po1) (kk : ∀ (r : Option AV) (μ1 : MM), Po1 r μ1 → Sm (d + 1) me (pc + 3) ls (r.toList ++ st) μ1 Po) : Sm (d + 1) me pc ls stk μ Po := by
  subst hs
  intro p l e R s m args below meth c ad tc D A C H locs la hP hD hS hl
  obtain ⟨hx, hb, hml, hr, hlk2, hown, hts, hK, hro, hA, hf, hlc⟩ := id C
  obtain ⟨v1, v2, v3, v4, v5, v6⟩ := hcv
  have hrun := va_runV (cc := me.2.1) (nL := me.2.2.1) (Ts := GW_w) (own := me.1.cls) (index := ix) (g := F0 m pc la ((as.reverse ++ av_r a :: st).map (av_V ad))) (locs := locs) (cells := 0) (slots := 0) (H := H) (R := R) (below := below) (meth := meth) (args := args) (p := p) (e := e) (c := c) (m := m) (s := s) (b := ad a) (As := as.map (av_V ad)) (rest := st.map (av_V ad)) (C := me'.1.cls)
    ⟨hx, hb, hml, hown, hts⟩ (hc l ad tc D H.size)
    ⟨callB_of n hts (GW_good v1) rfl rfl rfl (hts _ (GW_in v4 rfl)) (hts _ (GW_in hlk rfl)) v5 ⟨hf, by show 8 + (me'.2.2.1 + 11) + 64 * d ≤ R.locals; omega⟩, hts _ (GW_in v2 rfl), hts _ (GW_in v3 rfl)⟩
    ⟨Pc_blind, by rw [← hqn]; exact va_recv hK hP (ci := ci) (q0 := a) hq (ce_ob ha hci), Pc_now C hP hD hS (av_r a :: as)⟩ rfl (by rw [List.length_map]; exact hn) (hl.1.trans rfl) (by simp [List.map_append, List.map_reverse, av_V]) (lv_room (by rw [cl_sum]; exact hst)) hd ⟨Nat.zero_le _, Nat.zero_le _⟩
  refine cl_aft (A := A) hrun hS (fun q _ h => wo_A hD hS hA q h) (fun q h => wo_A hD hS hA q h) (fun r μ1 H1 locs1 hp hP1 hS1 => ?_)
  rw [cl_opt]
  exact kk r μ1 hp p l e R s m args below meth c ad tc D A C H1 locs1 la hP1 (wo_D hD) hS1 hl
theorem sm_callT {d : Nat} {me : ME} {pc : Nat} {ls : List (Option AV)} {st stk : List AV} {μ : MM} {Po Po1 : Option AV → MM → Prop} {me' : ME} {as : List AV} {a n ix : Nat} (hcv : CV me' n) (hlk : Cond.methodLink me.1.cls ix me'.1 ∈ lw_tbl) (ha : sh_k a = 42) (hqn : me'.1.cls = "java/lang/String") (hd : decode me.2.1 pc = .ok (.invokevirtual ix, 3)) (hn : as.length = n) (hst : (st.map av_c).sum ≤ 8) (hs : as.reverse ++ av_r a :: st = stk) (hc : Cl d me' (av_r a :: as) μ Po1) (kk : ∀ (r : Option AV) (μ1 : MM), Po1 r μ1 → Sm (d + 1) me (pc + 3) ls (r.toList ++ st) μ1 Po) : Sm (d + 1) me pc ls stk μ Po := by
  subst hs
  intro p l e R s m args below meth c ad tc D A C H locs la hP hD hS hl
  obtain ⟨hx, hb, hml, hr, hlk2, hown, hts, hK, hro, hA, hf, hlc⟩ := id C
  obtain ⟨v1, v2, v3, v4, v5, v6⟩ := hcv
  have hrun := va_runV (cc := me.2.1) (nL := me.2.2.1) (Ts := GW_w) (own := me.1.cls) (index := ix) (g := F0 m pc la ((as.reverse ++ av_r a :: st).map (av_V ad))) (locs := locs) (cells := 0) (slots := 0) (H := H) (R := R) (below := below) (meth := meth) (args := args) (p := p) (e := e) (c := c) (m := m) (s := s) (b := ad a) (As := as.map (av_V ad)) (rest := st.map (av_V ad)) (C := me'.1.cls)
    ⟨hx, hb, hml, hown, hts⟩ (hc l ad tc D H.size)
    ⟨callB_of n hts (GW_good v1) rfl rfl rfl (hts _ (GW_in v4 rfl)) (hts _ (GW_in hlk rfl)) v5 ⟨hf, by show 8 + (me'.2.2.1 + 11) + 64 * d ≤ R.locals; omega⟩, hts _ (GW_in v2 rfl), hts _ (GW_in v3 rfl)⟩
    ⟨Pc_blind, by obtain ⟨j, hj, rfl⟩ := so_sh ha; rw [hqn]; exact va_Orecv (hro.2.2.1 j hj).1 hS, Pc_now C hP hD hS (av_r a :: as)⟩ rfl (by rw [List.length_map]; exact hn) (hl.1.trans rfl) (by simp [List.map_append, List.map_reverse, av_V]) (lv_room (by rw [cl_sum]; exact hst)) hd ⟨Nat.zero_le _, Nat.zero_le _⟩
  refine cl_aft (A := A) hrun hS (fun q _ h => wo_A hD hS hA q h) (fun q h => wo_A hD hS hA q h) (fun r μ1 H1 locs1 hp hP1 hS1 => ?_)
  rw [cl_opt]
  exact kk r μ1 hp p l e R s m args below meth c ad tc D A C H1 locs1 la hP1 (wo_D hD) hS1 hl
theorem sm_callS {d : Nat} {me : ME} {pc : Nat} {ls : List (Option AV)} {st stk : List AV} {μ : MM} {Po Po1 : Option AV → MM → Prop} {me' : ME} {as : List AV} {n ix : Nat} (hcv : CS me' n) (hlk : Cond.methodLink me.1.cls ix me'.1 ∈ lw_tbl) (hd : decode me.2.1 pc = .ok (.invokestatic ix, 3)) (hn : as.length = n) (hst : (st.map av_c).sum ≤ 8) (hs : as.reverse ++ st = stk) (hc : Cl d me' as μ Po1) (kk : ∀ (r : Option AV) (μ1 : MM), Po1 r μ1 → Sm (d + 1) me (pc + 3) ls (r.toList ++ st) μ1 Po) : Sm (d + 1) me pc ls stk μ Po := by
  subst hs
  intro p l e R s m args below meth c ad tc D A C H locs la hP hD hS hl
  obtain ⟨hx, hb, hml, hr, hlk2, hown, hts, hK, hro, hA, hf, hlc⟩ := id C
  obtain ⟨v1, v2, v4, v5, v6⟩ := hcv
  have hrun := va_runS (cc := me.2.1) (nL := me.2.2.1) (Ts := GW_w) (own := me.1.cls) (index := ix) (g := F0 m pc la ((as.reverse ++ st).map (av_V ad))) (locs := locs) (cells := 0) (slots := 0) (H := H) (R := R) (below := below) (meth := meth) (args := args) (p := p) (e := e) (c := c) (m := m) (s := s) (As := as.map (av_V ad)) (rest := st.map (av_V ad))
    ⟨hx, hb, hml, hown, hts⟩ (hc l ad tc D H.size)
    ⟨callB_of n hts (GW_good v1) rfl rfl rfl (hts _ (GW_in v4 rfl)) (hts _ (GW_in hlk rfl)) v5 ⟨hf, by show 8 + (me'.2.2.1 + 11) + 64 * d ≤ R.locals; omega⟩, hts _ (GW_in v2 rfl)⟩
    ⟨Pc_blind, Pc_now C hP hD hS as⟩ rfl (by rw [List.length_map]; exact hn) (hl.1.trans rfl) (by simp [List.map_append, List.map_reverse]) (lv_room (by rw [cl_sum]; exact hst)) hd ⟨Nat.zero_le _, Nat.zero_le _⟩
  refine cl_aft (A := A) hrun hS (fun q _ h => wo_A hD hS hA q h) (fun q h => wo_A hD hS hA q h) (fun r μ1 H1 locs1 hp hP1 hS1 => ?_)
  rw [cl_opt]
  exact kk r μ1 hp p l e R s m args below meth c ad tc D A C H1 locs1 la hP1 (wo_D hD) hS1 hl
theorem mw_ini : Cond.initialized "java/lang/Math" ∈ lw_tbl := by decide +kernel
theorem mw_max_s : Cond.static Lib.Math.max.name ∈ lw_tbl := by decide +kernel
theorem mw_max_c : Cond.code Lib.Math.max.name Lib.Math.max.code 2 (some .int) ∈ lw_tbl := by decide +kernel
theorem mw_min_s : Cond.static Lib.Math.min.name ∈ lw_tbl := by decide +kernel
theorem mw_min_c : Cond.code Lib.Math.min.name Lib.Math.min.code 2 (some .int) ∈ lw_tbl := by decide +kernel
theorem mw_abs_s : Cond.static Lib.Math.abs.name ∈ lw_tbl := by decide +kernel
theorem mw_abs_c : Cond.code Lib.Math.abs.name Lib.Math.abs.code 1 (some .int) ∈ lw_tbl := by decide +kernel
theorem mw_maxl_s : Cond.static Lib.MathLoose.max_long.x ∈ lw_tbl := by decide +kernel
theorem mw_maxl_c : Cond.code Lib.MathLoose.max_long.x Lib.MathLoose.max_long.code 4 (some .long) ∈ lw_tbl := by decide +kernel
theorem mw_minl_s : Cond.static Lib.MathLoose.min_long.x ∈ lw_tbl := by decide +kernel
theorem mw_minl_c : Cond.code Lib.MathLoose.min_long.x Lib.MathLoose.min_long.code 4 (some .long) ∈ lw_tbl := by decide +kernel
theorem sm_max {d : Nat} {me : ME} {pc : Nat} {ls : List (Option AV)} {st : List AV} {μ : MM} {Po : Option AV → MM → Prop} {ix : Nat} {x y : Int32} (hlk : Cond.methodLink me.1.cls ix Lib.Math.max.name ∈ lw_tbl) (hst : (st.map av_c).sum ≤ 8) (hd : decode me.2.1 pc = .ok (.invokestatic ix, 3)) (k : Sm (d + 1) me (pc + 3) ls (av_i (if x < y then y else x) :: st) μ Po) : Sm (d + 1) me pc ls (av_i y :: av_i x :: st) μ Po := by
  intro p l e R s m args below meth c ad tc D A C H locs la hP hD hS hl
  obtain ⟨hx, hb, hml, hr, hlk2, hown, hts, hK, hro, hA, hf, hlc⟩ := id C
  exact va_mmax hx hb (by rw [hml, hl.1]) hown (hts _ (GW_in hlk rfl)) (hts _ (GW_in mw_max_s rfl)) (hts _ (GW_in mw_ini rfl)) (hts _ (GW_in mw_max_c rfl)) (by omega) (by rw [cl_sum]; omega) (Nat.zero_le _) (Nat.zero_le _) hd (k p l e R s m args below meth c ad tc D A C H locs la hP hD hS hl)
theorem sm_min {d : Nat} {me : ME} {pc : Nat} {ls : List (Option AV)} {st : List AV} {μ : MM} {Po : Option AV → MM → Prop} {ix : Nat} {x y : Int32} (hlk : Cond.methodLink me.1.cls ix Lib.Math.min.name ∈ lw_tbl) (hst : (st.map av_c).sum ≤ 8) (hd : decode me.2.1 pc = .ok (.invokestatic ix, 3)) (k : Sm (d + 1) me (pc + 3) ls (av_i (if y < x then y else x) :: st) μ Po) : Sm (d + 1) me pc ls (av_i y :: av_i x :: st) μ Po := by
  intro p l e R s m args below meth c ad tc D A C H locs la hP hD hS hl
  obtain ⟨hx, hb, hml, hr, hlk2, hown, hts, hK, hro, hA, hf, hlc⟩ := id C
  exact va_mmin hx hb (by rw [hml, hl.1]) hown (hts _ (GW_in hlk rfl)) (hts _ (GW_in mw_min_s rfl)) (hts _ (GW_in mw_ini rfl)) (hts _ (GW_in mw_min_c rfl)) (by omega) (by rw [cl_sum]; omega) (Nat.zero_le _) (Nat.zero_le _) hd (k p l e R s m args below meth c ad tc D A C H locs la hP hD hS hl)
theorem sm_abs {d : Nat} {me : ME} {pc : Nat} {ls : List (Option AV)} {st : List AV} {μ : MM} {Po : Option AV → MM → Prop} {ix : Nat} {x : Int32} (hlk : Cond.methodLink me.1.cls ix Lib.Math.abs.name ∈ lw_tbl) (hst : (st.map av_c).sum ≤ 8) (hd : decode me.2.1 pc = .ok (.invokestatic ix, 3)) (k : Sm (d + 1) me (pc + 3) ls (av_i (if 0 ≤ x then x else 0 - x) :: st) μ Po) : Sm (d + 1) me pc ls (av_i x :: st) μ Po := by
  intro p l e R s m args below meth c ad tc D A C H locs la hP hD hS hl
  obtain ⟨hx, hb, hml, hr, hlk2, hown, hts, hK, hro, hA, hf, hlc⟩ := id C
  exact va_mabs hx hb (by rw [hml, hl.1]) hown (hts _ (GW_in hlk rfl)) (hts _ (GW_in mw_abs_s rfl)) (hts _ (GW_in mw_ini rfl)) (hts _ (GW_in mw_abs_c rfl)) (by omega) (by rw [cl_sum]; omega) (Nat.zero_le _) (Nat.zero_le _) hd (k p l e R s m args below meth c ad tc D A C H locs la hP hD hS hl)
theorem sm_maxl {d : Nat} {me : ME} {pc : Nat} {ls : List (Option AV)} {st : List AV} {μ : MM} {Po : Option AV → MM → Prop} {ix : Nat} {x y : Int64} (hlk : Cond.methodLink me.1.cls ix Lib.MathLoose.max_long.x ∈ lw_tbl) (hst : (st.map av_c).sum ≤ 8) (hd : decode me.2.1 pc = .ok (.invokestatic ix, 3)) (k : Sm (d + 1) me (pc + 3) ls (av_l (if y < x then x else y) :: st) μ Po) : Sm (d + 1) me pc ls (av_l y :: av_l x :: st) μ Po := by
  intro p l e R s m args below meth c ad tc D A C H locs la hP hD hS hl
  obtain ⟨hx, hb, hml, hr, hlk2, hown, hts, hK, hro, hA, hf, hlc⟩ := id C
  exact va_mmax_long hx hb (by rw [hml, hl.1]) hown (hts _ (GW_in hlk rfl)) (hts _ (GW_in mw_maxl_s rfl)) (hts _ (GW_in mw_ini rfl)) (hts _ (GW_in mw_maxl_c rfl)) (by omega) (by rw [cl_sum]; omega) (Nat.zero_le _) (Nat.zero_le _) hd (k p l e R s m args below meth c ad tc D A C H locs la hP hD hS hl)
theorem sm_minl {d : Nat} {me : ME} {pc : Nat} {ls : List (Option AV)} {st : List AV} {μ : MM} {Po : Option AV → MM → Prop} {ix : Nat} {x y : Int64} (hlk : Cond.methodLink me.1.cls ix Lib.MathLoose.min_long.x ∈ lw_tbl) (hst : (st.map av_c).sum ≤ 8) (hd : decode me.2.1 pc = .ok (.invokestatic ix, 3)) (k : Sm (d + 1) me (pc + 3) ls (av_l (if y < x then y else x) :: st) μ Po) : Sm (d + 1) me pc ls (av_l y :: av_l x :: st) μ Po := by
  intro p l e R s m args below meth c ad tc D A C H locs la hP hD hS hl
  obtain ⟨hx, hb, hml, hr, hlk2, hown, hts, hK, hro, hA, hf, hlc⟩ := id C
  exact va_mmin_long hx hb (by rw [hml, hl.1]) hown (hts _ (GW_in hlk rfl)) (hts _ (GW_in mw_minl_s rfl)) (hts _ (GW_in mw_ini rfl)) (hts _ (GW_in mw_minl_c rfl)) (by omega) (by rw [cl_sum]; omega) (Nat.zero_le _) (Nat.zero_le _) hd (k p l e R s m args below meth c ad tc D A C H locs la hP hD hS hl)
theorem mw_ac1 : Cond.native arraycopyName ∈ lw_tbl := by decide +kernel
theorem mw_ac2 : Cond.static arraycopyName ∈ lw_tbl := by decide +kernel
theorem mw_ac3 : Cond.initialized "java/lang/System" ∈ lw_tbl := by decide +kernel
theorem mw_ac4 : nativeFrameWords "java/lang/System" "arraycopy" 5 + 11 ≤ 40 := by decide +kernel
theorem sm_copyI {d : Nat} {me : ME} {pc : Nat} {ls : List (Option AV)} {st : List AV} {μ : MM} {Po : Option AV → MM → Prop} {ix : Nat} {a b : Nat} {sp dp n : Int32} (hlk : Cond.methodLink me.1.cls ix arraycopyName ∈ lw_tbl) (ha : sh_k a = 20) (hb1 : sh_k b = 20) (h1 : ¬ sp < 0) (h2 : ¬ dp < 0) (h3 : ¬ n < 0) (h4 : sp.toNatClampNeg + n.toNatClampNeg ≤ sh_n a) (h5 : dp.toNatClampNeg + n.toNatClampNeg ≤ sh_n b) (hst : (st.map av_c).sum ≤ 8) (hd : decode me.2.1 pc = .ok (.invokestatic ix, 3)) (k : Sm (d + 1) me (pc + 3) ls st (mm_F μ b (va_cpy (μ.1 a) (μ.1 b) sp.toNatClampNeg dp.toNatClampNeg n.toNatClampNeg)) Po) : Sm (d + 1) me pc ls (av_i n :: av_i dp :: av_r b :: av_i sp :: av_r a :: st) μ Po := by
  intro p l e R s m args below meth c ad tc D A C H locs la hP hD hS hl
  obtain ⟨hx, hb, hml, hr, hlk2, hown, hts, hK, hro, hA, hf, hlc⟩ := id C
  have h40 := mw_ac4
  refine va_copyi (ty := .int) hx hb (by rw [hml, hl.1]) hown (hts _ (GW_in hlk rfl)) (hts _ (GW_in mw_ac1 rfl)) (hts _ (GW_in mw_ac2 rfl)) (hts _ (GW_in mw_ac3 rfl)) hK hP hD hS a b 0 0 (ce_i ha (by decide) (by decide)) (ce_i hb1 (by decide) (by decide)) rfl rfl rfl h1 h2 h3 h4 h5 (fun _ _ => rfl) (by omega) (by rw [cl_sum]; omega) hd (fun H1 locs1 hP1 hD1 hS1 => ?_)
  have eW : (wo_w ad tc μ).set b (ad b, .inl (tc 20, sh_n b, .inl (va_cpy (μ.1 a) (μ.1 b) sp.toNatClampNeg dp.toNatClampNeg n.toNatClampNeg))) = wo_w ad tc (mm_F μ b (va_cpy (μ.1 a) (μ.1 b) sp.toNatClampNeg dp.toNatClampNeg n.toNatClampNeg)) := by
    refine wo_set ?_ (fun z hz => ce_of (up_1_ne hz) rfl)
    rw [ce_e, if_neg (by omega), ce_a, if_neg (by omega), if_neg (by omega), hb1]
    show Sum.inl (tc 20, sh_n b, Sum.inl (up_1 μ.1 b _ b)) = _
    rw [up_1_eq]
  exact k p l e R s m args below meth c ad tc D A C H1 locs1 la (eW ▸ hP1) (eW ▸ hD1) hS1 hl
