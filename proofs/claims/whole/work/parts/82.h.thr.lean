/-! ===== the law calls thing ===== -/
theorem tl_7 : Cond.codeWith yL_thing cL_thing 5 (some .int) [(0, 10, 13, 13)] ∈ lw_tbl := by decide +kernel
theorem tl_8 : Cond.static yL_thing ∈ lw_tbl := by decide +kernel
theorem tl_9 : Cond.methodLink R_law 38 yL_thing ∈ lw_tbl := by decide +kernel
theorem tl_10 : Cond.initialized R_law ∈ lw_tbl := by decide +kernel
theorem tL_pay {s U : State} {args a' : Array Value} (hW : s.WarmedH U.vm) (hts : ∀ w ∈ lw_tbl, w.before args s = true) : ∀ w ∈ tL_ws, w.before a' U = true := by
  intro w hw
  rcases List.mem_cons.mp hw with rfl | hw
  · exact word_at hW (Or.inl rfl) (hts _ tl_7)
  · rcases List.mem_append.mp hw with hw | hw
    · exact word_at hW (good_of_word (List.mem_filter.mp hw).2) (hts w (List.mem_filter.mp hw).1)
    · exact th_mv hW w hw (hts w (th_in w hw))
set_option maxHeartbeats 2000000 in
theorem wl_thing {p : Program} {l : Launch} {e : Env} {s : State} {m : MethodId} {below : List Frame} {meth : Method} {c : Code} {b L : Nat} {xs : Nat → Int32} {ad : Nat → Nat} {tc : Nat → ClassId} {D : va_G} {cells slots : Nat} {Q : State → Prop} {μ : MM} {Po : Option AV → MM → Prop} {as : List AV} {la : Array Slot} {H : Heap} {locs : List Loc} (hLx : Lx p s m meth c b L xs ad tc D) (hc9 : cells + 1 ≤ 601024 ∧ slots + 6 ≤ 7293034) (hZ0 : TZ (fun q => s.heap.size ≤ q) s s.heap)
    (hM : ∀ sz, Met l yL_thing tL_ws tL_rm (Pc_t ad tc D sz as μ) (Qc_r ad tc D (va_A (wo_w ad tc μ) sz) Po) 1 6 (va_A (wo_w ad tc μ) sz)) (has : as.length = 4) (hP : va_P D vwCl (wo_w ad tc μ) H) (hD : va_D (fun q => s.heap.size ≤ q) (wo_w ad tc μ)) (hS : va_S (fun q => s.heap.size ≤ q) s.heap H locs) (hsize : la.size = 7)
    (kk : ∀ (r : Option AV) (μ1 : MM) (H1 : Heap) (locs1 : List Loc), Po r μ1 → va_P D vwCl (wo_w ad tc μ1) H1 → va_S (fun q => s.heap.size ≤ q) s.heap H1 locs1 → W p l e room_1 s m #[Value.ref b] below meth c H1 locs1 (cells + 1) (slots + 6) Q (F0 m 393 la ((r.map (av_V ad)).toList))) : W p l e room_1 s m #[Value.ref b] below meth c H locs cells slots Q (F0 m 390 la ((as.map (av_V ad)).reverse)) := by
  intro T hT X
  obtain ⟨⟨hx, hb, hr, hml, hown, hts, hX, hbl, hlocks, hgv⟩, hK, hro, hL⟩ := hLx
  have hA : ∀ q : Nat, s.heap.size ≤ q → (fun q : Nat => s.heap.size ≤ q) q := fun _ h => h
  have hy : yL_thing.cls ≠ "java/lang/invoke/MethodHandle" ∧ yL_thing.cls ≠ "java/lang/invoke/VarHandle" := by decide +kernel
  have hPc : ∀ U : State, U.heap = H → s.WarmedH U.vm → Pc_t ad tc D H.size as μ (as.map (av_V ad)).toArray U := by
    intro U hU hW
    refine ⟨⟨rfl, by rw [hU], by rw [hU]; exact hP, va_K.moved hW.alike hK, hD.weaken (fun _ _ _ _ => trivial), ?_⟩, ?_⟩
    · rw [hU]
      exact ro_mv hW (ro_narrow (ro_kept hro hS.2.1) (wo_A hD hS hA))
    · rw [hU]
      exact ⟨tz_mv hW.alike (tz_nw (tz_kp hZ0.1 hS.2.1) (wo_A hD hS hA)), tz_mv hW.alike (tz_nw (tz_kp hZ0.2 hS.2.1) (wo_A hD hS hA))⟩
  have hblind : FrameBlind (Pc_t ad tc D H.size as μ) := fun a U g mk q => ⟨Pc_blind a U g mk q.1, tz_mv (u := U) (U := U.calling g mk a) (Vm.Alike.refl U.vm) q.2.1, tz_mv (u := U) (U := U.calling g mk a) (Vm.Alike.refl U.vm) q.2.2⟩
  have hK9 : Back l room_1 p e below s #[Value.ref b] yL_thing 3 8 (PreOf room_1 1 6 (Pc_t ad tc D H.size as μ)) (PostOf (Qc_r ad tc D (va_A (wo_w ad tc μ) H.size) Po) 1 6 (va_A (wo_w ad tc μ) H.size)) := by
    refine Back.of_freeWith (handlers := [(0, 10, 13, 13)]) (S := headSpec tL_ws tL_rm) (P := Pc_t ad tc D H.size as μ) (K := fun _ _ _ _ _ => True) (Q := fun a st o t => Qc_r ad tc D (va_A (wo_w ad tc μ) H.size) Po a st o t ∧ ∃ L, FrameEnd st o t L 1 6 ∧ ∀ q ∈ L, va_A (wo_w ad tc μ) H.size q.base) (bytes := cL_thing) (maxL := 5) (ret := some .int)
      (E := fun a st o t L k n => k = 1 ∧ n = 6 ∧ ∀ q ∈ L, va_A (wo_w ad tc μ) H.size q.base) (hM H.size) (by decide) (by decide) ?_ ?_ (fun _ _ _ _ _ _ _ _ _ => trivial) ?_ ?_
    · intro m meth c A a X hp
      have hpay := tL_pay (a' := a) X.warmed hts
      exact ⟨atoms_intro hpay, hpay _ List.mem_cons_self, word_at X.warmed (Or.inl rfl) (hts _ tl_10), hp.1, hp.2.1⟩
    · intro m meth c A a g mk X hp
      exact hblind _ _ _ _ hp.2.2
    · intro a st o t ⟨hq, L, hF, hL⟩
      exact ⟨L, 1, 6, hF, rfl, rfl, hL⟩
    · intro m meth c A a g mk v t L k n X hp hq hF ⟨e1, e2, hL⟩
      subst e1; subst e2
      exact ⟨g, mk, t, L, rfl, rfl, hq.1, rfl, hL, rfl, rfl⟩
  obtain ⟨mk, methM, cM, hnamed, hmethM, -, -, -, -, -, -, hsigM⟩ := Cond.codeWith_spec (hts _ tl_7)
  have hstatic : methM.isStatic = true := Cond.static_spec hnamed hmethM (hts _ tl_8)
  obtain ⟨kP, hkP, -⟩ := className_of_methodNamed hnamed
  have hinitP : kP.init = .initialized := Cond.initialized_spec (findClass_of_methodNamed hnamed) hkP (hts _ tl_10)
  have hlen : (as.map (av_V ad)).length = methM.sig.parameters.length := by
    have h1 : (parseMethodDescriptor yL_thing.desc).map (fun d => d.parameters.length) = some 4 := by decide +kernel
    rw [hsigM] at h1
    rw [List.length_map, has]
    exact (Option.some.inj h1).symm
  obtain ⟨vm₁, X₁, hstep₁⟩ := X.invokestatic hx hown (hts _ tl_9) hnamed hmethM hstatic hkP hinitP hy (g := F0 m 390 la ((as.map (av_V ad)).reverse)) rfl (argsL := as.map (av_V ad)) (rest := []) hlen (by rw [List.append_nil]) (by rw [hb]; exact dL_law_390)
  obtain ⟨v, Bt, X', hpost, hsteps⟩ := hK9 m meth c ⟨T.setVm vm₁, locs, cells, slots⟩ (F0 m 390 la []) (.invokestatic 38) mk (as.map (av_V ad)).toArray X₁ rfl (hsize.trans hml.symm) (by rw [hb]; exact dL_law_390) (by show 2 * 0 + 0 ≤ 8; decide) (X₁.named hnamed) ⟨hc9.1, hc9.2, hPc _ hT X₁.warmed⟩
  obtain ⟨U', ls', cc', sl'⟩ := Bt
  obtain ⟨g', mk', t, L2, e1, e2, ⟨⟨r, μ1, hv, hp, hb9⟩, hz, hk⟩, hl2, hLf, hcc, hsl⟩ := hpost
  dsimp only [Pt.U, Pt.locs, Pt.cells, Pt.slots] at X' e1 e2 hl2 hcc hsl hsteps
  subst hl2; subst hcc; subst hsl
  cases hv
  have hzz : H.size ≤ t.heap.size := by
    have : (T.setVm vm₁).heap.size ≤ t.heap.size := hz
    rw [show (T.setVm vm₁).heap = H from hT] at this
    exact this
  have hkk : ∀ q, q < H.size → ¬ va_A (wo_w ad tc μ) H.size q → t.heap[q]? = H[q]? := fun q q1 q2 => by
    have h9 : t.heap[q]? = (T.setVm vm₁).heap[q]? := hk q (by show q < (T.setVm vm₁).heap.size; rw [show (T.setVm vm₁).heap = H from hT]; exact q1) q2
    rw [show (T.setVm vm₁).heap = H from hT] at h9
    exact h9
  obtain ⟨t2, a1, b1⟩ := kk r μ1 U'.heap (locs ++ L2) hp (by rw [e1]; exact hb9)
    ⟨Nat.le_trans hS.1 (by rw [e1]; exact hzz), fun q h1 h2 => by rw [e1, hkk q (Nat.lt_of_lt_of_le h1 hS.1) (fun z => h2 (wo_A hD hS hA q z))]; exact hS.2.1 q h1 h2, fun q hq => by
      rcases List.mem_append.mp hq with h | h
      · exact hS.2.2 q h
      · exact wo_A hD hS hA _ (hLf q h)⟩ U' rfl X'
  refine ⟨t2, hstep₁ t2 (fun acts => ?_), b1⟩
  rw [doInvoke_state]
  refine hsteps.trans ?_
  have e9 : ({ F0 m 390 la [] with pc := 390 + 3, stack := (r.map (av_V ad)).toList ++ ([] : List Value) } : JFrame) = F0 m 393 la ((r.map (av_V ad)).toList) := by rw [List.append_nil]
  show Steps p.tables e below (U'.setTop { F0 m 390 la [] with pc := 390 + 3, stack := (r.map (av_V ad)).toList ++ ([] : List Value) }) t2
  rw [e9]
  exact a1
