/-! ===== what the statement gives at the start ===== -/
def ad_g (f : Nat → Nat) (g : Nat → Nat × Nat) (b4 b5 : Nat) : Nat → Nat := fun b => if b < 2000 then f (b - 1000) else if b < 3000 then (g (b - 2000)).1 else if b < 4000 then (g (b - 3000)).2 else if b < 5000 then b4 else b5
theorem ad_g1 {f : Nat → Nat} {g : Nat → Nat × Nat} {b4 b5 i : Nat} (h : i < 1000) : ad_g f g b4 b5 (1000 + i) = f i := by
  unfold ad_g
  rw [if_pos (by omega), Nat.add_sub_cancel_left]
theorem ad_g2 {f : Nat → Nat} {g : Nat → Nat × Nat} {b4 b5 i : Nat} (h : i < 1000) : ad_g f g b4 b5 (2000 + i) = (g i).1 := by
  unfold ad_g
  rw [if_neg (by omega), if_pos (by omega), Nat.add_sub_cancel_left]
theorem ad_g3 {f : Nat → Nat} {g : Nat → Nat × Nat} {b4 b5 i : Nat} (h : i < 1000) : ad_g f g b4 b5 (3000 + i) = (g i).2 := by
  unfold ad_g
  rw [if_neg (by omega), if_neg (by omega), if_pos (by omega), Nat.add_sub_cancel_left]
theorem ro_c1 : ro_c ≤ 1000 := by decide
theorem st_c1 : st_c ≤ 1000 := by decide
def NF_l : List Cond := flatC (Jvm.Cond.and given_1 narrow_1)
def st_t (i : Nat) : Term := .string (st_L.getD i ("", 0, "")).1 (st_L.getD i ("", 0, "")).2.1
theorem nf_a : ∀ i, i < ro_c → Cond.arrayOf (.static RX9 (ro_N.getD i "") "[I") .int ∈ NF_l := by decide +kernel
theorem nf_b : ∀ i, i < ro_c → Cond.eq (.length (.static RX9 (ro_N.getD i "") "[I")) (.int (Int32.ofNat (ro_L.getD i []).length)) ∈ NF_l := by decide +kernel
theorem nf_c : ∀ i, i < ro_c → ∀ j, j < (ro_L.getD i []).length → Cond.eq (.elem (.static RX9 (ro_N.getD i "") "[I") (.int (Int32.ofNat j))) (.int ((ro_L.getD i []).getD j 0)) ∈ NF_l := by decide +kernel
theorem nf_s : ∀ i, i < ro_c → Cond.laysStatic RX9 (ro_N.getD i "") "[I" ∈ lw_tbl := by decide +kernel
theorem nf_i : Cond.initialized RX9 ∈ lw_tbl := by decide +kernel
theorem nf_z : Cond.eq (.static "java/lang/String" "COMPACT_STRINGS" "Z") (.int 1) ∈ NF_l := by decide +kernel
theorem nf_y : Cond.laysStatic "java/lang/String" "COMPACT_STRINGS" "Z" ∈ lw_tbl := by decide +kernel
theorem nf_x : Cond.initialized "java/lang/String" ∈ lw_tbl := by decide +kernel
theorem nf_o : Cond.isRef (.static "jdk/internal/util/Preconditions" "SIOOBE_FORMATTER" "Ljava/util/function/BiFunction;") ∈ NF_l := by decide +kernel
theorem nf_p : Cond.laysStatic "jdk/internal/util/Preconditions" "SIOOBE_FORMATTER" "Ljava/util/function/BiFunction;" ∈ lw_tbl := by decide +kernel
theorem nf_q : Cond.initialized "jdk/internal/util/Preconditions" ∈ lw_tbl := by decide +kernel
theorem fo_of {v : Value} (h : v.isRef = true) : ∃ n, v = fo_V n := by
  cases v with
  | ref q => exact ⟨q + 1, rfl⟩
  | null => exact ⟨0, rfl⟩
  | _ => cases h
theorem nf_d : ∀ i, i < st_c → Cond.exactly (st_t i) "java/lang/String" ∈ NF_l := by decide +kernel
theorem nf_e : ∀ i, i < st_c → Cond.eq (.field (st_t i) "java/lang/String" "coder" "B") (.int 0) ∈ NF_l := by decide +kernel
theorem nf_f : ∀ i, i < st_c → Cond.arrayOf (.field (st_t i) "java/lang/String" "value" "[B") .byte ∈ NF_l := by decide +kernel
theorem nf_g : ∀ i, i < st_c → Cond.eq (.length (.field (st_t i) "java/lang/String" "value" "[B")) (.int (Int32.ofNat (st_B.getD i []).length)) ∈ NF_l := by decide +kernel
theorem nf_h : ∀ i, i < st_c → ∀ j, j < (st_B.getD i []).length → Cond.eq (.elem (.field (st_t i) "java/lang/String" "value" "[B") (.int (Int32.ofNat j))) (.int ((st_B.getD i []).getD j 0)) ∈ NF_l := by decide +kernel
theorem nf_r : ∀ i, i < st_c → Cond.stringRef (st_L.getD i ("", 0, "")).1 (st_L.getD i ("", 0, "")).2.1 (st_L.getD i ("", 0, "")).2.2 ∈ lw_tbl := by decide +kernel
theorem nf_l1 : ∀ i, i < ro_c → (ro_L.getD i []).length < 2 ^ 31 := by decide +kernel
theorem nf_l2 : ∀ i, i < st_c → (st_B.getD i []).length < 2 ^ 31 := by decide +kernel
theorem ro_start {s : State} {args : Array Value} (b4 : Nat) (hts : ∀ w ∈ lw_tbl, w.before args s = true) (hgv : (Jvm.Cond.and given_1 narrow_1).before args s = true) : ∃ ad : Nat → Nat, ro_ok ad (fun q => s.heap.size ≤ q) s s.heap ∧ ad 4000 = b4 := by
  have hs : ∀ c ∈ NF_l, c.before args s = true := flat_of_before _ hgv
  have hA : ∀ a : Nat, a < s.heap.size → ¬ (fun q : Nat => s.heap.size ≤ q) a := fun a h => Nat.not_le.mpr h
  have h0 : ∀ i : Nat, ∃ t : Nat, i < ro_c → va_T .int t (ro_L.getD i []).length (fun j => .int ((ro_L.getD i []).getD j 0)) (fun q => s.heap.size ≤ q) s s.heap ∧ va_Z RX9 (ro_N.getD i "") "[I" (.ref t) (fun q => s.heap.size ≤ q) s s.heap := by
    intro i
    by_cases hi : i < ro_c
    · obtain ⟨t, ht, hT⟩ := va_Tof (f := fun j => .int ((ro_L.getD i []).getD j 0)) (A := fun q => s.heap.size ≤ q) (nf_l1 i hi) (hs _ (nf_a i hi)) (va_eqt (hs _ (nf_b i hi))) (fun j hj => va_eqt (hs _ (nf_c i hi j hj))) hA
      exact ⟨t, fun _ => ⟨hT, va_Zof (hts _ (nf_s i hi)) (hts _ nf_i) ht hA⟩⟩
    · exact ⟨0, fun h => absurd h hi⟩
  have h1 : ∀ i : Nat, ∃ q : Nat × Nat, i < st_c → (st_t i).eval args s none [] s = some (.ref q.1) ∧ va_O "java/lang/String" q.1 (fun q => s.heap.size ≤ q) s s.heap ∧ va_OF "java/lang/String" "coder" "B" (.int 0) q.1 (fun q => s.heap.size ≤ q) s s.heap ∧ va_OF "java/lang/String" "value" "[B" (.ref q.2) q.1 (fun q => s.heap.size ≤ q) s s.heap ∧ va_T .byte q.2 (st_B.getD i []).length (fun j => .int ((st_B.getD i []).getD j 0)) (fun q => s.heap.size ≤ q) s s.heap := by
    intro i
    by_cases hi : i < st_c
    · obtain ⟨a, c, cA, kA, q1, q2, q3, q4, q5, q6, -⟩ := Cond.exactly_spec (args := args) (first := s) (o := none) (s := s) (idx := []) (t := st_t i) (cls := "java/lang/String") (hs _ (nf_d i hi))
      obtain ⟨t, ht, hT⟩ := va_Tof (f := fun j => .int ((st_B.getD i []).getD j 0)) (A := fun q => s.heap.size ≤ q) (nf_l2 i hi) (hs _ (nf_f i hi)) (va_eqt (hs _ (nf_g i hi))) (fun j hj => va_eqt (hs _ (nf_h i hi j hj))) hA
      exact ⟨(a, t), fun _ => ⟨q1, va_Oof (hs _ (nf_d i hi)) q1 hA, vk_OFof q1 (va_eqt (hs _ (nf_e i hi))) hA, vk_OFof q1 ht hA, hT⟩⟩
    · exact ⟨(0, 0), fun h => absurd h hi⟩
  obtain ⟨f, hf⟩ := Classical.axiomOfChoice h0
  obtain ⟨g, hg⟩ := Classical.axiomOfChoice h1
  obtain ⟨v5, hv5, hr5⟩ := Cond.isRef_spec (show (Cond.isRef (.static "jdk/internal/util/Preconditions" "SIOOBE_FORMATTER" "Ljava/util/function/BiFunction;")).before args s = true from hs _ nf_o)
  obtain ⟨b5, rfl⟩ := fo_of hr5
  refine ⟨ad_g f g b4 b5, ⟨fun i hi => ?_, ⟨va_Zof (hts _ nf_y) (hts _ nf_x) (va_eqt (hs _ nf_z)) hA, va_Zof (hts _ nf_p) (hts _ nf_q) hv5 hA⟩, fun i hi => ?_, fun i hi => ?_⟩, rfl⟩
  · rw [ad_g1 (Nat.lt_of_lt_of_le hi ro_c1)]
    exact hf i hi
  · rw [ad_g2 (Nat.lt_of_lt_of_le hi st_c1), ad_g3 (Nat.lt_of_lt_of_le hi st_c1)]
    exact (hg i hi).2
  · rw [ad_g2 (Nat.lt_of_lt_of_le hi st_c1)]
    exact vk_R.of (hts _ (nf_r i hi)) (hg i hi).1
theorem aT_of {args : Array Value} {s : State} {ty : FieldType} (h : (Cond.arrayClass ty).before args s = true) : ∃ c : ClassId, ArrOfT s c ty ∧ s.vm.findClass ("[" ++ ty.toString) = some c := by
  obtain ⟨c, k, comp, h1, h2, h3⟩ := Cond.arrayClass_spec h
  exact ⟨c, fun n z => ⟨fun k h => (by cases h), k, h2, comp, h3⟩, h1⟩
theorem aS_of {args : Array Value} {s : State} {C : String} (h : (Cond.arrayOver (.object C)).before args s = true) : ∃ c : ClassId, ArrOfT s c (.object C) ∧ va_RA s c (.object C) := by
  obtain ⟨comp, c, k, h1, -, h3, h4, h5⟩ := Cond.arrayOver_spec h
  exact ⟨c, fun n z => ⟨fun k h => (by cases h), k, h3, comp, h4⟩, k, comp, h3, h4, h1, h5⟩
theorem aA_of {args : Array Value} {s : State} {ty : FieldType} (h : (Cond.arrayOver (.array ty)).before args s = true) : ∃ c : ClassId, ArrOfT s c (.array ty) ∧ s.vm.findClass ("[" ++ (FieldType.array ty).toString) = some c := by
  obtain ⟨comp, c, k, h1, -, h3, h4, h5⟩ := Jvm.Stand.arrayOver_specB h
  exact ⟨c, fun n z => ⟨fun k h => (by cases h), k, h3, comp, h4⟩, h5⟩
theorem in_0 : Cond.instantiable RX0 4 ∈ lw_tbl := by decide +kernel
theorem in_1 : Cond.instantiable RX1 6 ∈ lw_tbl := by decide +kernel
theorem in_2 : Cond.instantiable RX2 13 ∈ lw_tbl := by decide +kernel
theorem in_3 : Cond.instantiable RX3 3 ∈ lw_tbl := by decide +kernel
theorem in_4 : Cond.instantiable RX4 3 ∈ lw_tbl := by decide +kernel
theorem in_5 : Cond.instantiable RX5 6 ∈ lw_tbl := by decide +kernel
theorem in_6 : Cond.instantiable RX6 11 ∈ lw_tbl := by decide +kernel
theorem in_7 : Cond.instantiable RX7 5 ∈ lw_tbl := by decide +kernel
theorem in_8 : Cond.instantiable RX8 3 ∈ lw_tbl := by decide +kernel
theorem in_9 : Cond.instantiable RX9 5 ∈ lw_tbl := by decide +kernel
theorem in_10 : Cond.instantiable RX10 4 ∈ lw_tbl := by decide +kernel
theorem in_11 : Cond.instantiable RX11 17 ∈ lw_tbl := by decide +kernel
theorem in_12 : Cond.instantiable RX12 49 ∈ lw_tbl := by decide +kernel
theorem ac_b : Cond.arrayClass .byte ∈ lw_tbl := by decide +kernel
theorem ac_z : Cond.arrayClass .boolean ∈ lw_tbl := by decide +kernel
theorem ac_j : Cond.arrayClass .long ∈ lw_tbl := by decide +kernel
theorem ac_i : Cond.arrayClass .int ∈ lw_tbl := by decide +kernel
theorem ao_S : Cond.arrayOver (.object "LabelRoom$Shelf") ∈ lw_tbl := by decide +kernel
theorem ao_A : Cond.arrayOver (.array .int) ∈ lw_tbl := by decide +kernel
theorem K_start {s : State} {args : Array Value} (hts : ∀ w ∈ lw_tbl, w.before args s = true) : ∃ (D : va_G) (tc : Nat → ClassId), va_K D vwCl (ty_L tc) s := by
  obtain ⟨c0, i0, h0⟩ := u_known (C := RX0) (T := TX0) (N := 4) (n := 4) hts cl_w0 (hts _ in_0)
  obtain ⟨c1, i1, h1⟩ := u_known (C := RX1) (T := TX1) (N := 6) (n := 6) hts cl_w1 (hts _ in_1)
  obtain ⟨c2, i2, h2⟩ := u_known (C := RX2) (T := TX2) (N := 13) (n := 13) hts cl_w2 (hts _ in_2)
  obtain ⟨c3, i3, h3⟩ := u_known (C := RX3) (T := TX3) (N := 3) (n := 3) hts cl_w3 (hts _ in_3)
  obtain ⟨c4, i4, h4⟩ := u_known (C := RX4) (T := TX4) (N := 3) (n := 3) hts cl_w4 (hts _ in_4)
  obtain ⟨c5, i5, h5⟩ := u_known (C := RX5) (T := TX5) (N := 6) (n := 6) hts cl_w5 (hts _ in_5)
  obtain ⟨c6, i6, h6⟩ := u_known (C := RX6) (T := TX6) (N := 11) (n := 11) hts cl_w6 (hts _ in_6)
  obtain ⟨c7, i7, h7⟩ := u_known (C := RX7) (T := TX7) (N := 5) (n := 5) hts cl_w7 (hts _ in_7)
  obtain ⟨c8, i8, h8⟩ := u_known (C := RX8) (T := TX8) (N := 3) (n := 3) hts cl_w8 (hts _ in_8)
  obtain ⟨c9, i9, h9⟩ := u_known (C := RX9) (T := TX9) (N := 5) (n := 5) hts cl_w9 (hts _ in_9)
  obtain ⟨c10, i10, h10⟩ := u_known (C := RX10) (T := TX10) (N := 4) (n := 4) hts cl_w10 (hts _ in_10)
  obtain ⟨c11, i11, h11⟩ := u_known (C := RX11) (T := TX11) (N := 17) (n := 17) hts cl_w11 (hts _ in_11)
  obtain ⟨c12, i12, h12⟩ := u_known (C := RX12) (T := TX12) (N := 49) (n := 49) hts cl_w12 (hts _ in_12)
  obtain ⟨t0, a0, b0⟩ := aT_of (hts _ ac_i)
  obtain ⟨t1, a1, b1⟩ := aT_of (hts _ ac_b)
  obtain ⟨t2, a2, b2⟩ := aT_of (hts _ ac_z)
  obtain ⟨t3, a3, b3⟩ := aT_of (hts _ ac_j)
  obtain ⟨t4, a4, b4⟩ := aS_of (hts _ ao_S)
  obtain ⟨t5, a5, b5⟩ := aA_of (hts _ ao_A)
  refine ⟨(fun k => match k with
    | 0 => c0
    | 1 => c1
    | 2 => c2
    | 3 => c3
    | 4 => c4
    | 5 => c5
    | 6 => c6
    | 7 => c7
    | 8 => c8
    | 9 => c9
    | 10 => c10
    | 11 => c11
    | _ => c12, fun k => match k with
    | 0 => i0
    | 1 => i1
    | 2 => i2
    | 3 => i3
    | 4 => i4
    | 5 => i5
    | 6 => i6
    | 7 => i7
    | 8 => i8
    | 9 => i9
    | 10 => i10
    | 11 => i11
    | _ => i12), fun k => match k with
    | 20 => t0
    | 21 => t1
    | 22 => t2
    | 23 => t3
    | 24 => t4
    | _ => t5, fun k q hq => ?_, fun k q hq => ?_⟩
  · match k, hq with
    | 0, hq => cases hq; exact h0
    | 1, hq => cases hq; exact h1
    | 2, hq => cases hq; exact h2
    | 3, hq => cases hq; exact h3
    | 4, hq => cases hq; exact h4
    | 5, hq => cases hq; exact h5
    | 6, hq => cases hq; exact h6
    | 7, hq => cases hq; exact h7
    | 8, hq => cases hq; exact h8
    | 9, hq => cases hq; exact h9
    | 10, hq => cases hq; exact h10
    | 11, hq => cases hq; exact h11
    | 12, hq => cases hq; exact h12
    | k + 13, hq => simp [vwCl] at hq
  · match k, hq with
    | 0, hq => cases hq; exact ⟨a0, b0⟩
    | 1, hq => cases hq; exact ⟨a1, b1⟩
    | 2, hq => cases hq; exact ⟨a2, b2⟩
    | 3, hq => cases hq; exact ⟨a3, b3⟩
    | 4, hq => cases hq; exact ⟨a4, b4⟩
    | 5, hq => cases hq; exact ⟨a5, b5⟩
    | k + 6, hq => simp [ty_L] at hq
/-! the law before its loop -/
def Lk (p : Program) (l : Launch) (e : Env) (s : State) (m : MethodId) (below : List Frame) (meth : Method) (c : Code) (b : Nat) (ad0 : Nat → Nat) (tc : Nat → ClassId) (D : va_G) (pc : Nat) (ls : List (Option AV)) (st : List AV) (nx : Nat) (μ : MM) (ρ : RR) : Prop :=
  ∀ (ad : Nat → Nat) (H : Heap) (locs : List Loc) (la : Array Slot), (∀ q, 1000 ≤ q → ad q = ad0 q) → rq_ok nx ρ → va_P D vwCl (wq_w nx ad tc μ ρ) H → va_D (fun q => s.heap.size ≤ q) (wq_w nx ad tc μ ρ) → va_S (fun q => s.heap.size ≤ q) s.heap H locs → lo_ok ad 7 ls la →
    W p l e room_1 s m #[Value.ref b] below meth c H locs nx (ss_n nx) (lw_Z below #[Value.ref b] s) (F0 m pc la (st.map (av_V ad)))
theorem lk_new {p : Program} {l : Launch} {e : Env} {s : State} {m : MethodId} {below : List Frame} {meth : Method} {c : Code} {b L : Nat} {xs : Nat → Int32} {ad0 : Nat → Nat} {tc : Nat → ClassId} {D : va_G} {pc ix ci nx : Nat} {ls : List (Option AV)} {st : List AV} {μ : MM} {ρ : RR} (hLx : Lx p s m meth c b L xs ad0 tc D) (hd : decode code pc = .ok (.new ix, 3)) (hnw : NW R_law ix ci) (hk : sh_k nx = ci) (hc : ci < 20) (hn1 : nx < 400) (hs1 : ss_n (nx + 1) ≤ 7293034) (hz : zq_z μ ρ nx) (hvl : vq_L nx ls) (hvs : vq_S nx st) (k : Lk p l e s m below meth c b ad0 tc D (pc + 3) ls (av_r nx :: st) (nx + 1) μ ρ) : Lk p l e s m below meth c b ad0 tc D pc ls st nx μ ρ := by
  intro ad H locs la hg hrq hP hD hS hl
  obtain ⟨⟨hx, hb, hr, hml, hown, hts, hX, hbl, hlocks, hgv⟩, hK, hro, hL⟩ := hLx
  have hA : ∀ q : Nat, s.heap.size ≤ q → (fun q : Nat => s.heap.size ≤ q) q := fun _ h => h
  have hts2 : ∀ w ∈ GW_w, w.before #[Value.ref b] s = true := fun w hw => hts w (List.mem_filter.mp hw).1
  obtain ⟨⟨cn, ct, n⟩, f1, f2, f3, f4⟩ := hnw
  have hn : sh_n nx = n := by
    have := sh_cl (a := nx) (by omega)
    rw [hk, f1] at this
    exact (Option.some.inj this).symm
  have hss : ss_n (nx + 1) = ss_n nx + n := by rw [ss_n, hn]
  refine va_new (C := cn) (T := ct) (N := n) (ci := ci) (fs := cq_o ad μ ρ nx) hx hb hts2 (cl_in ci _ f1) (cl_ty ci) (cl_tyok ci _ f1) hown (hts _ f2) (hts _ f3) (hts _ f4) hK hP hD hS hA f1 (fun j hj => ?_) (by show nx + 1 ≤ 601024; omega) (by show ss_n nx + n ≤ 7293034; omega) hd (fun q H1 hP1 hD1 hS1 => ?_)
  · unfold vp_V
    rw [List.getD_eq_getElem?_getD, cq_at (by rw [hn]; exact hj), Option.getD_some, ← hk]
    rcases cq_zero (ad := ad) hz (k := j) (by omega) with h9 | h9
    · exact h9.symm
    · omega
  · have hag : ∀ b, b < nx ∨ 1000 ≤ b → nx_ad ad nx q b = ad b := fun b hb2 => nx_o hb2 (by omega)
    have eW : wq_w nx ad tc μ ρ ++ [(q, .inr (ci, cq_o ad μ ρ nx))] = wq_w (nx + 1) (nx_ad ad nx q) tc μ ρ := by
      rw [wq_succ, wq_eq (fun a ha => ⟨hag a (Or.inl ha), cq_ad hrq hag⟩), cq_ad hrq hag, cq_e, if_pos (by omega), hk]
      simp [nx_ad]
    rw [eW] at hP1 hD1
    have := k (nx_ad ad nx q) H1 locs la (fun b hb2 => by rw [hag b (Or.inr hb2)]; exact hg b hb2) (rq_up hrq (by omega)) hP1 hD1 hS1 (lo_adx hl (fun v hv => vq_ad (vq_Lin hvl v hv) hag))
    rw [hss] at this
    rw [show (av_r nx :: st).map (av_V (nx_ad ad nx q)) = .ref q :: st.map (av_V ad) by rw [List.map_cons, vq_map hag hvs]; simp [av_V, nx_ad]] at this
    exact this
theorem lk_call {p : Program} {l : Launch} {e : Env} {s : State} {m : MethodId} {below : List Frame} {meth : Method} {c : Code} {b L : Nat} {xs : Nat → Int32} {ad0 : Nat → Nat} {tc : Nat → ClassId} {D : va_G} {pc ix nx n a m1 : Nat} {ls : List (Option AV)} {st stk : List AV} {as : List AV} {μ μ' : MM} {ρ ρ' : RR} {me' : ME} (hLx : Lx p s m meth c b L xs ad0 tc D) (hne : ne_ok s) (hao : ao_ok s) (hd : decode code pc = .ok (.invokespecial ix, 3)) (hci : CI me' n) (hlk : Cond.methodLink R_law ix me'.1 ∈ lw_tbl) (hn : as.length = n) (hst : (st.map av_c).sum ≤ 8) (hs : as.reverse ++ av_r a :: st = stk) (hm1 : nx ≤ m1) (hm2 : m1 ≤ 600000) (hs1 : ss_n m1 ≤ 7293034) (hvl : vq_L nx ls) (hvs : vq_S nx st) (hrq1 : rq_ok m1 ρ') (hc : Ck 200 me' (av_r a :: as) nx μ ρ m1 μ' ρ') (kk : Lk p l e s m below meth c b ad0 tc D (pc + 3) ls st m1 μ' ρ') : Lk p l e s m below meth c b ad0 tc D pc ls stk nx μ ρ := by
  subst hs
  intro ad H locs la hg hrq hP hD hS hl
  obtain ⟨⟨hx, hb, hr, hml, hown, hts, hX, hbl, hlocks, hgv⟩, hK, hro, hL⟩ := hLx
  have hA : ∀ q : Nat, s.heap.size ≤ q → (fun q : Nat => s.heap.size ≤ q) q := fun _ h => h
  have hts2 : ∀ w ∈ GW_w, w.before #[Value.ref b] s = true := fun w hw => hts w (List.mem_filter.mp hw).1
  obtain ⟨v1, v2, v4, v7, v5, v6, v8⟩ := hci
  have s1 := ss_le hm1
  have hro1 : ro_ok ad (fun q => s.heap.size ≤ q) s s.heap := ro_ad (fun b hb2 => hg b hb2) hro
  have hpre : ∀ U : State, U.heap = H → s.WarmedH U.vm → Pk_c ad tc D H.size (av_r a :: as) nx μ ρ ((av_r a :: as).map (av_V ad)).toArray U := by
    intro U hU hW
    refine ⟨rfl, by rw [hU], by rw [hU]; exact hP, va_K.moved hW.alike hK, hD.weaken (fun _ _ _ _ => trivial), ?_, ne_warm hW hne, ao_mv hW.alike hao⟩
    rw [hU]
    exact ro_mv hW (ro_narrow (ro_kept hro1 hS.2.1) (wq_A hD hS hA))
  have hrun := va_runI (cc := code) (nL := 7) (Ts := GW_w) (own := R_law) (index := ix) (g := F0 m pc la ((as.reverse ++ av_r a :: st).map (av_V ad))) (locs := locs) (cells := nx) (slots := ss_n nx) (H := H) (R := room_1) (below := below) (meth := meth) (args := #[Value.ref b]) (p := p) (e := e) (c := c) (m := m) (s := s) (b := ad a) (As := as.map (av_V ad)) (rest := st.map (av_V ad))
    ⟨hx, hb, hml, hown, hts2⟩ (hc l ad tc D H.size)
    ⟨by rw [← v8]; exact callB_of n hts2 (GW_good v1) rfl rfl rfl (hts _ v4) (hts _ hlk) v5 ⟨(by show 200 + 1 ≤ 2048; decide), by show 8 + (me'.2.2.1 + 11) + 64 * 200 ≤ 84000; omega⟩, v7, hts _ v2⟩
    ⟨Pk_blind, hpre⟩ rfl (by rw [List.length_map]; exact hn) hl.1 (by simp [List.map_append, List.map_reverse, av_V]) (lv_room (by rw [cl_sum]; exact hst)) hd ⟨by show nx + (m1 - nx) ≤ 601024; omega, by show ss_n nx + (ss_n m1 - ss_n nx) ≤ 7293034; omega⟩
  refine ck_aft (A := fun q => s.heap.size ≤ q) hrun hS (fun q _ h => wq_A hD hS hA q h) (fun q h => wq_A hD hS hA q h) (fun q h => wq_A hD hS hA q h) (fun ad1 H1 locs1 had hP1 hD1 hS1 => ?_)
  have := kk ad1 H1 locs1 la (fun b hb2 => by rw [had b (Or.inr hb2)]; exact hg b hb2) hrq1 hP1 hD1 hS1 (lo_adx hl (fun v hv => vq_ad (vq_Lin hvl v hv) had))
  rw [vq_map had hvs] at this
  rw [show nx + (m1 - nx) = m1 by omega, show ss_n nx + (ss_n m1 - ss_n nx) = ss_n m1 by omega]
  exact this
theorem lk_newJ {p : Program} {l : Launch} {e : Env} {s : State} {m : MethodId} {below : List Frame} {meth : Method} {c : Code} {b L : Nat} {xs : Nat → Int32} {ad0 : Nat → Nat} {tc : Nat → ClassId} {D : va_G} {pc nx : Nat} {i : Int32} {ls : List (Option AV)} {st : List AV} {μ : MM} {ρ : RR} (hLx : Lx p s m meth c b L xs ad0 tc D) (hd : decode code pc = .ok (.newarray .long, 2)) (hk : sh_k nx = 23) (hi : ¬ i < 0) (hin : i.toNatClampNeg = sh_n nx) (hsz : sh_n nx ≤ 20000) (hn1 : nx < 400) (hs1 : ss_n (nx + 1) ≤ 7293034) (hz : zq_z μ ρ nx) (hvl : vq_L nx ls) (hvs : vq_S nx st) (k : Lk p l e s m below meth c b ad0 tc D (pc + 2) ls (av_r nx :: st) (nx + 1) μ ρ) : Lk p l e s m below meth c b ad0 tc D pc ls (av_i i :: st) nx μ ρ := by
  intro ad H locs la hg hrq hP hD hS hl
  obtain ⟨⟨hx, hb, hr, hml, hown, hts, hX, hbl, hlocks, hgv⟩, hK, hro, hL⟩ := hLx
  have hA : ∀ q : Nat, s.heap.size ≤ q → (fun q : Nat => s.heap.size ≤ q) q := fun _ h => h
  have hss : ss_n (nx + 1) = ss_n nx + sh_n nx := rfl
  refine va_newa (atype := .long) (ty := .long) (N' := sh_n nx) (a0 := (sh_n nx, .inr (.inl (fun _ => 0)))) hx hb (hts _ ac_j) rfl hK hP hD hS hA (fun cA => rfl) hi hin (by simp only [componentBytes]; omega) (by show nx + 1 ≤ 601024; omega) (by show ss_n nx + sh_n nx ≤ 7293034; omega) hd (fun q cA H1 hK1 hP1 hD1 hS1 => ?_)
  have hcA : cA = tc 23 := by
    have h5 := (hK1.2 6 (cA, .long) rfl).2
    have h6 := (hK.2 3 _ rfl).2
    exact Option.some.inj (h5.symm.trans h6)
  subst hcA
  have hag : ∀ b, b < nx ∨ 1000 ≤ b → nx_ad ad nx q b = ad b := fun b hb2 => nx_o hb2 (by omega)
  have eW : wq_w nx ad tc μ ρ ++ [(q, .inl (tc 23, sh_n nx, .inr (.inl (fun _ => 0))))] = wq_w (nx + 1) (nx_ad ad nx q) tc μ ρ := by
    rw [wq_succ, wq_eq (fun a ha => ⟨hag a (Or.inl ha), cq_ad hrq hag⟩), cq_ad hrq hag, cq_e, if_neg (by omega), cq_a, if_pos hk, hk]
    have hz1 : μ.2 nx = fun _ => 0 := funext hz.2.1
    rw [hz1]
    simp [nx_ad]
  rw [eW] at hP1 hD1
  have := k (nx_ad ad nx q) H1 locs la (fun b hb2 => by rw [hag b (Or.inr hb2)]; exact hg b hb2) (rq_up hrq (by omega)) hP1 hD1 hS1 (lo_adx hl (fun v hv => vq_ad (vq_Lin hvl v hv) hag))
  rw [hss] at this
  rw [show (av_r nx :: st).map (av_V (nx_ad ad nx q)) = .ref q :: st.map (av_V ad) by rw [List.map_cons, vq_map hag hvs]; simp [av_V, nx_ad]] at this
  exact this
/-! from the world as it is made to the world of the methods -/
theorem wq_end {ad : Nat → Nat} {tc : Nat → ClassId} {μ : MM} {ρ : RR} {D : va_G} {H : Heap} (hρ : ∀ a k, a < 377 → is_R a k = true → ρ a k = some (rf_s a k)) (h5 : ρ 355 5 = some 356) (hP : va_P D vwCl (wq_w 377 ad tc μ ρ) H) : va_P D vwCl (wo_w ad tc (mm_I μ 355 5 356)) H := by
  intro k q hk
  obtain ⟨hl, rfl⟩ := wo_inv hk
  have h := hP k _ (wq_get hl)
  have hne : k ≠ 355 → (mm_I μ 355 5 356).1 k = μ.1 k := fun hk => up_2_ne hk
  by_cases h20 : sh_k k < 20
  · have eo : ce_e ad tc (mm_I μ 355 5 356) k = cq_e ad tc μ ρ k := by
      rw [ce_e, if_pos h20, cq_e, if_pos h20]
      have e : ce_o ad (mm_I μ 355 5 356) k = cq_o ad μ ρ k := by
        unfold ce_o cq_o
        apply List.map_congr_left
        intro j hj
        have hj2 := List.mem_range.mp hj
        unfold fk_v cq_v
        by_cases h12 : sh_k k = 12 ∧ j = 5
        · obtain ⟨e1, rfl⟩ := h12
          have ek := k12 e1
          subst ek
          rw [e1, fk_c, if_pos ⟨rfl, rfl⟩, h5]
          simp [mm_I, up_2, va_rf]
        · have hr : 2 ≤ fk_c (sh_k k) j → is_R k j = true := fun h2 => by
            unfold is_R
            rw [if_pos h20]
            simp only [Bool.and_eq_true, decide_eq_true_eq, Bool.not_eq_true', Bool.and_eq_false_iff, decide_eq_false_iff_not]
            refine ⟨hj2, h2, ?_⟩
            by_cases h6 : sh_k k = 12
            · exact Or.inr (fun h7 => h12 ⟨h6, h7⟩)
            · exact Or.inl h6
          have hi : (mm_I μ 355 5 356).1 k j = μ.1 k j := by
            by_cases hk5 : k = 355
            · subst hk5
              have : j ≠ 5 := fun h7 => h12 ⟨k_355, h7⟩
              simp [mm_I, up_2, this]
            · rw [hne hk5]
          have h3 : fk_c (sh_k k) j < 3 := by
            unfold fk_c
            rw [if_neg h12]
            unfold fk_k
            split <;> omega
          rw [hi]
          generalize hT : fk_c (sh_k k) j = t at hr h3
          match t, hr, h3 with
          | 0, _, _ => rfl
          | 1, _, _ => rfl
          | 2, hr, _ =>
            show Value.ref (ad (rf_s k j)) = va_rf ((ρ k j).map ad)
            rw [hρ k j hl (hr (by omega))]
            rfl
      rw [e]
    rw [eo]
    exact h
  · have hk5 : k ≠ 355 := fun e => by subst e; exact h20 (by rw [k_355]; decide)
    by_cases h24 : 24 ≤ sh_k k
    · rw [cq_e, if_neg h20, cq_a, if_neg (by omega), if_pos h24] at h
      rw [ce_e, if_neg h20, ce_a, if_neg (by omega), if_pos h24]
      show H[ad k]? = some (vp_cell (tc (sh_k k)) (sh_n k, .inr (.inr (.inr (.inr (fun j => some (ad (rf_s k j))))))))
      have h' : H[ad k]? = some (vp_cell (tc (sh_k k)) (sh_n k, .inr (.inr (.inr (.inr (fun j => (ρ k j).map ad)))))) := h
      rw [h']
      congr 1
      rw [vp_cell_q, vp_cell_q]
      unfold arrV
      congr 1
      apply Array.ext
      · simp
      · intro j h1 h2
        have hj : j < sh_n k := by simpa using h1
        have hr : is_R k j = true := by
          have h30 : sh_k k < 30 := by
            have : ∀ x, x < sh_nx → sh_k x < 30 := by decide +kernel
            exact this k hl
          unfold is_R
          rw [if_neg h20]
          simp [hj, h24, h30]
        simp only [Array.getElem_ofFn]
        rw [hρ k j hl hr]
        rfl
    · have eo : ce_e ad tc (mm_I μ 355 5 356) k = cq_e ad tc μ ρ k := by
        rw [ce_e, if_neg h20, cq_e, if_neg h20]
        unfold ce_a cq_a
        by_cases h23 : sh_k k = 23
        · rw [if_pos h23, if_pos h23]
          rfl
        · rw [if_neg h23, if_neg h23, if_neg h24, if_neg h24, hne hk5]
      rw [eo]
      exact h
theorem wq_endD {ad : Nat → Nat} {tc : Nat → ClassId} {μ μ' : MM} {ρ : RR} {A : Nat → Prop} (hD : va_D A (wq_w 377 ad tc μ ρ)) : va_D A (wo_w ad tc μ') := by
  refine ⟨fun i j p q hi hj e => ?_, fun k q hk => ?_⟩
  · obtain ⟨i1, rfl⟩ := wo_inv hi
    obtain ⟨j1, rfl⟩ := wo_inv hj
    exact hD.1 i j _ _ (wq_get i1) (wq_get j1) e
  · obtain ⟨k1, rfl⟩ := wo_inv hk
    exact hD.2 k (ad k, cq_e ad tc μ ρ k) (wq_get k1)
/-- the memory when the law's loop begins -/
def mu_0 : MM := mm_I (mm_I (mm_I ((fun _ _ => 0), (fun _ _ => 0)) 34 1 (-1)) 355 34 (-1)) 355 5 356
theorem lm_15 : Cond.methodLink R_law 15 yX11_init ∈ lw_tbl := by decide +kernel
theorem lm_18 : Cond.methodLink R_law 18 yX12_init ∈ lw_tbl := by decide +kernel
theorem nw_l8 : NW R_law 8 11 := ⟨_, rfl, by decide +kernel, by decide +kernel, by decide +kernel⟩
theorem nw_l16 : NW R_law 16 12 := ⟨_, rfl, by decide +kernel, by decide +kernel, by decide +kernel⟩
theorem ss_377 : ss_n 377 ≤ 7293034 := by decide +kernel
theorem iR_376 : ∀ k, k < 50 → is_R 376 k = false := by decide +kernel
theorem lk_dup {p : Program} {l : Launch} {e : Env} {s : State} {m : MethodId} {below : List Frame} {meth : Method} {c : Code} {b L : Nat} {xs : Nat → Int32} {ad0 : Nat → Nat} {tc : Nat → ClassId} {D : va_G} {pc nx : Nat} {ls : List (Option AV)} {st : List AV} {μ : MM} {ρ : RR} {v : AV} (hLx : Lx p s m meth c b L xs ad0 tc D) (hd : decode code pc = .ok (.dup, 1)) (hv : av_c v = 1) (k : Lk p l e s m below meth c b ad0 tc D (pc + 1) ls (v :: v :: st) nx μ ρ) : Lk p l e s m below meth c b ad0 tc D pc ls (v :: st) nx μ ρ := by
  intro ad H locs la hg hrq hP hD hS hl
  obtain ⟨⟨hx, hb, hr, hml, hown, hts, hX, hbl, hlocks, hgv⟩, hK, hro, hL⟩ := hLx
  exact lv_dup hx hb hd ((av_cat ad _).trans hv) (k ad H locs la hg hrq hP hD hS hl)
theorem lk_ast {p : Program} {l : Launch} {e : Env} {s : State} {m : MethodId} {below : List Frame} {meth : Method} {c : Code} {b L : Nat} {xs : Nat → Int32} {ad0 : Nat → Nat} {tc : Nat → ClassId} {D : va_G} {pc nx : Nat} {ls : List (Option AV)} {st : List AV} {μ : MM} {ρ : RR} {j : Fin 4} {i x : Nat} (hLx : Lx p s m meth c b L xs ad0 tc D) (hd : decode code pc = .ok (.astore_n j, 1)) (hi : (j : Nat) = i) (hn : i < 7) (hv : lo_pv ls i) (k : Lk p l e s m below meth c b ad0 tc D (pc + 1) (ls.set i (some (av_r x))) st nx μ ρ) : Lk p l e s m below meth c b ad0 tc D pc ls (av_r x :: st) nx μ ρ := by
  intro ad H locs la hg hrq hP hD hS hl
  obtain ⟨⟨hx, hb, hr, hml, hown, hts, hX, hbl, hlocks, hgv⟩, hK, hro, hL⟩ := hLx
  exact lv_astore_n hx hb hd hi (lo_has hl) hn rfl (fun la2 h2 => (k ad H locs la2 hg hrq hP hD hS (lo_st1 hv h2)))
theorem lk_ist {p : Program} {l : Launch} {e : Env} {s : State} {m : MethodId} {below : List Frame} {meth : Method} {c : Code} {b L : Nat} {xs : Nat → Int32} {ad0 : Nat → Nat} {tc : Nat → ClassId} {D : va_G} {pc nx : Nat} {ls : List (Option AV)} {st : List AV} {μ : MM} {ρ : RR} {i : Nat} {x : Int32} (hLx : Lx p s m meth c b L xs ad0 tc D) (hd : decode code pc = .ok (.istore i, 2)) (hn : i < 7) (hv : lo_pv ls i) (k : Lk p l e s m below meth c b ad0 tc D (pc + 2) (ls.set i (some (av_i x))) st nx μ ρ) : Lk p l e s m below meth c b ad0 tc D pc ls (av_i x :: st) nx μ ρ := by
  intro ad H locs la hg hrq hP hD hS hl
  obtain ⟨⟨hx, hb, hr, hml, hown, hts, hX, hbl, hlocks, hgv⟩, hK, hro, hL⟩ := hLx
  exact lv_istore hx hb hd (lo_has hl) hn rfl (fun la2 h2 => (k ad H locs la2 hg hrq hP hD hS (lo_st1 hv h2)))
theorem lk_ic {p : Program} {l : Launch} {e : Env} {s : State} {m : MethodId} {below : List Frame} {meth : Method} {c : Code} {b L : Nat} {xs : Nat → Int32} {ad0 : Nat → Nat} {tc : Nat → ClassId} {D : va_G} {pc nx : Nat} {ls : List (Option AV)} {st : List AV} {μ : MM} {ρ : RR} {n : Int} {v : Int32} (hLx : Lx p s m meth c b L xs ad0 tc D) (hd : decode code pc = .ok (.iconst n, 1)) (hv : Int32.ofInt n = v) (k : Lk p l e s m below meth c b ad0 tc D (pc + 1) ls (av_i v :: st) nx μ ρ) : Lk p l e s m below meth c b ad0 tc D pc ls st nx μ ρ := by
  intro ad H locs la hg hrq hP hD hS hl
  obtain ⟨⟨hx, hb, hr, hml, hown, hts, hX, hbl, hlocks, hgv⟩, hK, hro, hL⟩ := hLx
  exact lv_iconst hx hb hd hv (k ad H locs la hg hrq hP hD hS hl)
set_option maxRecDepth 100000 in
set_option maxHeartbeats 4000000 in
theorem start_open {p : Program} {e : Env} {s : State} {m : MethodId} {below : List Frame} {meth : Method} {c : Code} (l : Launch) {b L : Nat} {xs : Nat → Int32} (hL : L ≤ 3072) (C0 : lw_At p s m meth c b L xs) {Inv : Nat → MM → Prop} (hmono : ∀ (k : Nat) (μ : MM), Inv k μ → Inv (k + 6) μ) (hI0 : Inv 0 mu_0) (h_feed : ∀ k : Nat, k ≤ 3072 → ∀ (x1 : Int32) (x2 : Int32) (x3 : Int32) (x4 : Int32) (x5 : Int32) (μ : MM), Inv k μ → ∃ (r : Int32) (μ1 μ2 : MM), f_Ro_feed NN x1 x2 x3 x4 x5 μ = some (r, μ1) ∧ f_Mo_feed NN x1 x2 x3 x4 x5 μ1 = some (r, μ2) ∧ Inv (k + 6) μ2) (h_end : ∀ k : Nat, k ≤ 3072 → ∀ (x1 : Int32) (μ : MM), Inv k μ → ∃ (r : Int32) (μ1 μ2 : MM), f_Ro_end NN x1 μ = some (r, μ1) ∧ f_Mo_end NN x1 μ1 = some (r, μ2) ∧ Inv (k + 6) μ2) (h_fault : ∀ k : Nat, k ≤ 3072 → ∀ (x1 : Int32) (μ : MM), Inv k μ → ∃ (r : Int32) (μ1 μ2 : MM), f_Ro_fault NN x1 μ = some (r, μ1) ∧ f_Mo_fault NN x1 μ1 = some (r, μ2) ∧ Inv (k + 6) μ2) (h_text : ∀ k : Nat, k ≤ 3072 → ∀ (x1 : Int32) (μ : MM), Inv k μ → ∃ (r : Int32) (μ1 μ2 : MM), f_Ro_text NN x1 μ = some (r, μ1) ∧ f_Mo_text NN x1 μ1 = some (r, μ2) ∧ Inv (k + 6) μ2) (h_card : ∀ k : Nat, k ≤ 3072 → ∀ (x1 : Int32) (x2 : Int32) (μ : MM), Inv k μ → ∃ (r : Int32) (μ1 μ2 : MM), f_Ro_card NN x1 x2 μ = some (r, μ1) ∧ f_Mo_card NN x1 x2 μ1 = some (r, μ2) ∧ Inv (k + 6) μ2) (h_word : ∀ k : Nat, k ≤ 3072 → ∀ (x1 : Int32) (x2 : Int32) (x3 : Int32) (μ : MM), Inv k μ → ∃ (r : Int32) (μ1 μ2 : MM), f_Ro_word NN x1 x2 x3 μ = some (r, μ1) ∧ f_Mo_word NN x1 x2 x3 μ1 = some (r, μ2) ∧ Inv (k + 6) μ2) (h_law : ∀ k : Nat, k ≤ 3072 → ∀ (x1 : Int32) (μ : MM), Inv k μ → ∃ (r : Int32) (μ1 μ2 : MM), f_Ro_law NN x1 μ = some (r, μ1) ∧ f_Mo_law NN x1 μ1 = some (r, μ2) ∧ Inv (k + 6) μ2) (h_cleaner : ∀ k : Nat, k ≤ 3072 → ∀ (x1 : Int32) (μ : MM), Inv k μ → ∃ (r : Int32) (μ1 μ2 : MM), f_Ro_cleaner NN x1 μ = some (r, μ1) ∧ f_Mo_cleaner NN x1 μ1 = some (r, μ2) ∧ Inv (k + 6) μ2) (h_fits : ∀ k : Nat, k ≤ 3072 → ∀ (x1 : Int32) (x2 : Int32) (μ : MM), Inv k μ → ∃ (r : Int32) (μ1 μ2 : MM), f_Ro_fits NN x1 x2 μ = some (r, μ1) ∧ f_Mo_fits NN x1 x2 μ1 = some (r, μ2) ∧ Inv (k + 6) μ2) (h_put : ∀ k : Nat, k ≤ 3072 → ∀ (x1 : Int32) (x2 : Int32) (μ : MM), Inv k μ → ∃ (r : Int32) (μ1 μ2 : MM), f_Ro_put NN x1 x2 μ = some (r, μ1) ∧ f_Mo_put_ NN x1 x2 μ1 = some (r, μ2) ∧ Inv (k + 6) μ2) (h_take : ∀ k : Nat, k ≤ 3072 → ∀ (x1 : Int32) (μ : MM), Inv k μ → ∃ (r : Int32) (μ1 μ2 : MM), f_Ro_take NN x1 μ = some (r, μ1) ∧ f_Mo_take NN x1 μ1 = some (r, μ2) ∧ Inv (k + 6) μ2) (h_copy : ∀ k : Nat, k ≤ 3072 → ∀ (x1 : Int32) (μ : MM), Inv k μ → ∃ (r : Int32) (μ1 μ2 : MM), f_Ro_copy NN x1 μ = some (r, μ1) ∧ f_Mo_copy NN x1 μ1 = some (r, μ2) ∧ Inv (k + 6) μ2) (h_lamp : ∀ k : Nat, k ≤ 3072 → ∀ (x1 : Int32) (μ : MM), Inv k μ → ∃ (r : Int32) (μ1 μ2 : MM), f_Ro_lamp NN x1 μ = some (r, μ1) ∧ f_Mo_lamp NN x1 μ1 = some (r, μ2) ∧ Inv (k + 6) μ2) (h_light : ∀ k : Nat, k ≤ 3072 → ∀ (x1 : Int32) (μ : MM), Inv k μ → ∃ (r : Int32) (μ1 μ2 : MM), f_Ro_light NN x1 μ = some (r, μ1) ∧ f_Mo_light NN x1 μ1 = some (r, μ2) ∧ Inv (k + 6) μ2) (h_write : ∀ k : Nat, k ≤ 3072 → ∀ (x1 : Int32) (x2 : Int32) (μ : MM), Inv k μ → ∃ (r : Int32) (μ1 μ2 : MM), f_Ro_write NN x1 x2 μ = some (r, μ1) ∧ f_Mo_write NN x1 x2 μ1 = some (r, μ2) ∧ Inv (k + 6) μ2) (h_days : ∀ k : Nat, k ≤ 3072 → ∀ (x1 : Int32) (μ : MM), Inv k μ → ∃ (r : Int32) (μ1 μ2 : MM), f_Ro_days NN x1 μ = some (r, μ1) ∧ f_Mo_days NN x1 μ1 = some (r, μ2) ∧ Inv (k + 6) μ2) (h_decades : ∀ k : Nat, k ≤ 3072 → ∀ (x1 : Int32) (y2 : Int64) (μ : MM), Inv k μ → ∃ (r : Int32) (μ1 μ2 : MM), f_Ro_decades NN x1 y2 μ = some (r, μ1) ∧ f_Mo_decades NN x1 y2 μ1 = some (r, μ2) ∧ Inv (k + 6) μ2) (h_undo : ∀ k : Nat, k ≤ 3072 → ∀ (μ : MM), Inv k μ → ∃ (r : Int32) (μ1 μ2 : MM), f_Ro_undo NN μ = some (r, μ1) ∧ f_Mo_undo NN μ1 = some (r, μ2) ∧ Inv (k + 6) μ2) (h_log : ∀ k : Nat, k ≤ 3072 → ∀ (x1 : Int32) (x2 : Int32) (μ : MM), Inv k μ → ∃ (r : Int32) (μ1 μ2 : MM), f_Ro_log NN x1 x2 μ = some (r, μ1) ∧ f_Mo_log NN x1 x2 μ1 = some (r, μ2) ∧ Inv (k + 6) μ2) (h_reading : ∀ k : Nat, k ≤ 3072 → ∀ (x1 : Int32) (x2 : Int32) (x3 : Int32) (μ : MM), Inv k μ → ∃ (r : Int32) (μ1 μ2 : MM), f_Ro_reading NN x1 x2 x3 μ = some (r, μ1) ∧ f_Mo_reading NN x1 x2 x3 μ1 = some (r, μ2) ∧ Inv (k + 6) μ2) (h_right : ∀ k : Nat, k ≤ 3072 → ∀ (μ : MM), Inv k μ → ∃ (r : Int32) (μ1 μ2 : MM), f_Ro_right NN μ = some (r, μ1) ∧ f_Mo_right NN μ1 = some (r, μ2) ∧ Inv (k + 6) μ2) (h_matched : ∀ k : Nat, k ≤ 3072 → ∀ (x1 : Int32) (μ : MM), Inv k μ → ∃ (r : Int32) (μ1 μ2 : MM), f_Ro_matched NN x1 μ = some (r, μ1) ∧ f_Mo_matched NN x1 μ1 = some (r, μ2) ∧ Inv (k + 6) μ2) (h_clash : ∀ k : Nat, k ≤ 3072 → ∀ (μ : MM), Inv k μ → ∃ (r : Int32) (μ1 μ2 : MM), f_Ro_clash NN μ = some (r, μ1) ∧ f_Mo_clash NN μ1 = some (r, μ2) ∧ Inv (k + 6) μ2) (h_blank : ∀ k : Nat, k ≤ 3072 → ∀ (x1 : Int32) (μ : MM), Inv k μ → ∃ (r : Int32) (μ1 μ2 : MM), f_Ro_blank NN x1 μ = some (r, μ1) ∧ f_Mo_blank NN x1 μ1 = some (r, μ2) ∧ Inv (k + 6) μ2) (h_stood : ∀ k : Nat, k ≤ 3072 → ∀ (x1 : Int32) (x2 : Int32) (x3 : Int32) (μ : MM), Inv k μ → (x3 = 0 ∨ x3 = 1) → ∃ (r : Int32) (μ1 μ2 : MM), f_Ro_stood NN x1 x2 x3 μ = some (r, μ1) ∧ f_Mo_stood NN x1 x2 x3 μ1 = some (r, μ2) ∧ Inv (k + 6) μ2) (h_once : ∀ k : Nat, k ≤ 3072 → ∀ (x1 : Int32) (x2 : Int32) (μ : MM), Inv k μ → ∃ (r : Int32) (μ1 μ2 : MM), f_Ro_once NN x1 x2 μ = some (r, μ1) ∧ f_Mo_once NN x1 x2 μ1 = some (r, μ2) ∧ Inv (k + 6) μ2) (h_probe : ∀ k : Nat, k ≤ 3072 → ∀ (x1 : Int32) (μ : MM), Inv k μ → ∃ (r : Int32) (μ1 μ2 : MM), f_Ro_probe NN x1 μ = some (r, μ1) ∧ f_Mo_probe NN x1 μ1 = some (r, μ2) ∧ Inv (k + 6) μ2) (h_saves : ∀ k : Nat, k ≤ 3072 → ∀ (x1 : Int32) (x2 : Int32) (μ : MM), Inv k μ → ∃ (r : Int32) (μ1 μ2 : MM), f_Ro_saves NN x1 x2 μ = some (r, μ1) ∧ f_Mo_saves NN x1 x2 μ1 = some (r, μ2) ∧ Inv (k + 6) μ2) (h_round : ∀ k : Nat, k ≤ 3072 → ∀ (μ : MM), Inv k μ → ∃ (r : Int32) (μ1 μ2 : MM), f_Ro_round NN μ = some (r, μ1) ∧ f_Mo_round NN μ1 = some (r, μ2) ∧ Inv (k + 6) μ2) (h_nowhere : ∀ k : Nat, k ≤ 3072 → ∀ (μ : MM), Inv k μ → ∃ (r : Int32) (μ1 μ2 : MM), f_Ro_nowhere NN μ = some (r, μ1) ∧ f_Mo_nowhere NN μ1 = some (r, μ2) ∧ Inv (k + 6) μ2) (h_forged : ∀ k : Nat, k ≤ 3072 → ∀ (μ : MM), Inv k μ → ∃ (r : Int32) (μ1 μ2 : MM), f_Ro_forged NN μ = some (r, μ1) ∧ f_Mo_forged NN μ1 = some (r, μ2) ∧ Inv (k + 6) μ2) (h_alone : ∀ k : Nat, k ≤ 3072 → ∀ (x1 : Int32) (μ : MM), Inv k μ → ∃ (r : Int32) (μ1 μ2 : MM), f_Ro_alone NN x1 μ = some (r, μ1) ∧ f_Mo_alone NN x1 μ1 = some (r, μ2) ∧ Inv (k + 6) μ2) (h_suits : ∀ k : Nat, k ≤ 3072 → ∀ (x1 : Int32) (μ : MM), Inv k μ → ∃ (r : Int32) (μ1 μ2 : MM), f_Ro_suits NN x1 μ = some (r, μ1) ∧ f_Mo_suits NN x1 μ1 = some (r, μ2) ∧ Inv (k + 6) μ2) (h_wanted : ∀ k : Nat, k ≤ 3072 → ∀ (x1 : Int32) (μ : MM), Inv k μ → ∃ (r : Int32) (μ1 μ2 : MM), f_Ro_wanted NN x1 μ = some (r, μ1) ∧ f_Mo_wanted NN x1 μ1 = some (r, μ2) ∧ Inv (k + 6) μ2) (h_perhaps : ∀ k : Nat, k ≤ 3072 → ∀ (μ : MM), Inv k μ → ∃ (r : Int32) (μ1 μ2 : MM), f_Ro_perhaps NN μ = some (r, μ1) ∧ f_Mo_perhaps NN μ1 = some (r, μ2) ∧ Inv (k + 6) μ2) (h_shared : ∀ k : Nat, k ≤ 3072 → ∀ (x1 : Int32) (x2 : Int32) (μ : MM), Inv k μ → ∃ (r : Int32) (μ1 μ2 : MM), f_Ro_shared NN x1 x2 μ = some (r, μ1) ∧ f_Mo_shared NN x1 x2 μ1 = some (r, μ2) ∧ Inv (k + 6) μ2) (h_twins : ∀ k : Nat, k ≤ 3072 → ∀ (x1 : Int32) (μ : MM), Inv k μ → ∃ (r : Int32) (μ1 μ2 : MM), f_Ro_twins NN x1 μ = some (r, μ1) ∧ f_Mo_twins NN x1 μ1 = some (r, μ2) ∧ Inv (k + 6) μ2) (h_odds : ∀ k : Nat, k ≤ 3072 → ∀ (x1 : Int32) (x2 : Int32) (x3 : Int32) (μ : MM), Inv k μ → ∃ (r : Int32) (μ1 μ2 : MM), f_Ro_odds NN x1 x2 x3 μ = some (r, μ1) ∧ f_Mo_odds NN x1 x2 x3 μ1 = some (r, μ2) ∧ Inv (k + 6) μ2) (h_rescue : ∀ k : Nat, k ≤ 3072 → ∀ (x1 : Int32) (x2 : Int32) (μ : MM), Inv k μ → ∃ (r : Int32) (μ1 μ2 : MM), f_Ro_rescue NN x1 x2 μ = some (r, μ1) ∧ f_Mo_rescue NN x1 x2 μ1 = some (r, μ2) ∧ Inv (k + 6) μ2) (h_image : ∀ k : Nat, k ≤ 3072 → ∀ (μ : MM), Inv k μ → ∃ (r : Int32) (μ1 μ2 : MM), f_Ro_image NN μ = some (r, μ1) ∧ f_Mo_image NN μ1 = some (r, μ2) ∧ Inv (k + 6) μ2) (h_back : ∀ k : Nat, k ≤ 3072 → ∀ (μ : MM), Inv k μ → ∃ (r : Int32) (μ1 μ2 : MM), f_Ro_back NN μ = some (r, μ1) ∧ f_Mo_back NN μ1 = some (r, μ2) ∧ Inv (k + 6) μ2) (h_count : ∀ k : Nat, k ≤ 3072 → ∀ (x1 : Int32) (μ : MM), Inv k μ → ∃ (r : Int32) (μ1 μ2 : MM), f_Ro_count NN x1 μ = some (r, μ1) ∧ f_Mo_count NN x1 μ1 = some (r, μ2) ∧ Inv (k + 6) μ2) (h_thing : ∀ (ad : Nat → Nat) (tc : Nat → ClassId) (D : va_G), Lx p s m meth c b L xs ad tc D → ∀ (i cells slots : Nat) (μ : MM), cells + 8 ≤ 601024 ∧ slots + 64 ≤ 7293034 → i + 6 ≤ L → Inv i μ → (∀ (c2 s2 : Nat) (μ2 : MM), c2 ≤ cells + 1 → s2 ≤ slots + 8 → Inv (i + 6) μ2 → Lh p l e s m below meth c b ad tc D i c2 s2 1550 [] μ2) → Lh p l e s m below meth c b ad tc D i cells slots 376 [] μ) : W p l e room_1 s m #[Value.ref b] below meth c s.heap [] 0 0 (lw_Z below #[Value.ref b] s) (entryFrame m ([Value.ref b] : List Value).toArray 7) := by
  obtain ⟨hx, hb, hr, hml, hown, hts, hX, hbl, hlocks, hgv⟩ := id C0
  obtain ⟨ad0, hro, had4⟩ := ro_start b hts hgv
  obtain ⟨D, tc, hK⟩ := K_start hts
  have hLx : Lx p s m meth c b L xs ad0 tc D := ⟨C0, hK, hro, hL⟩
  have hne : ne_ok s := fun own ix y host hm => va_Nw.of rfl (hts _ hm)
  have hao : ao_ok s := ⟨va_AO.of (hts _ ao_S), hts _ ao_A⟩
  have key : Lk p l e s m below meth c b ad0 tc D 0 [some (av_r 4000), none, none, none, none, none, none] [] 0 ((fun _ _ => 0), (fun _ _ => 0)) (fun _ _ => none) := by
    have Z : ∀ q, zq_z ((fun _ _ => 0), (fun _ _ => 0)) (fun _ _ => none) q := fun q => ⟨fun _ => rfl, fun _ => rfl, fun _ => rfl⟩
    have hr0 : ∀ n, rq_ok n (fun _ _ => none) := fun n a k b h => by cases h
    have hr1 : rq_ok 355 (fl_r (fun _ _ => none) 0 355) := rq_fb k_0 (by decide) (hr0 1) (by decide) (bl_c_11 k_0)
    have hr2 : rq_ok 376 (rq_p (fl_r (fl_r (fun _ _ => none) 0 355) 355 376) 355 5 356) := rq_pok (rq_fb k_355 (by decide) (rq_up hr1 (show 355 ≤ 356 by decide)) (by decide) (by rw [bl_n, k_355]; rfl)) (Or.inl (by decide))
    refine lk_new hLx dL_law_0 nw_l8 k_0 (by decide) (by decide) (by decide +kernel) (Z 0) (vl_s vo_t (vl_n (vl_n (vl_n (vl_n (vl_n (vl_n vl_0))))))) vs_0 ?_
    refine lk_dup hLx dL_law_3 rfl ?_
    refine lk_call (as := []) (m1 := 355) hLx hne hao dL_law_4 ci_X11_init lm_15 rfl (Nat.le_of_ble_eq_true rfl) rfl (by decide) (by decide) (by decide +kernel) (vl_s vo_t (vl_n (vl_n (vl_n (vl_n (vl_n (vl_n vl_0))))))) (vs_s (vo_r (by decide)) vs_0) hr1 (kc_X11_init (by decide) (fun q _ => Z q) (hr0 1)) ?_
    refine lk_ast hLx dL_law_7 rfl (by decide) (pv_r rfl) ?_
    refine lk_new hLx dL_law_8 nw_l16 k_355 (by decide) (by decide) (by decide +kernel) (zq_f (zq_I (Z 355) (by decide)) (by decide)) (vl_s vo_t (vl_s (vo_r (by decide)) (vl_n (vl_n (vl_n (vl_n (vl_n vl_0))))))) vs_0 ?_
    refine lk_dup hLx dL_law_11 rfl ?_
    refine lk_call (as := []) (m1 := 376) hLx hne hao dL_law_12 ci_X12_init lm_18 rfl (Nat.le_of_ble_eq_true rfl) rfl (by decide) (by decide) (by decide +kernel) (vl_s vo_t (vl_s (vo_r (by decide)) (vl_n (vl_n (vl_n (vl_n (vl_n vl_0))))))) (vs_s (vo_r (by decide)) vs_0) hr2 (kc_X12_init (by decide) (fun q hq => zq_f (zq_I (Z q) (by omega)) (by omega)) (rq_up hr1 (by decide))) ?_
    refine lk_ast hLx dL_law_15 rfl (by decide) (pv_r rfl) ?_
    refine lk_ic (v := 1) hLx dL_law_16 (by decide) ?_
    refine lk_newJ hLx dL_law_17 k_376 (by decide) (by rw [n_376]; decide) (by rw [n_376]; decide) (by decide) (by decide +kernel) (zq_p (zq_f (zq_I (zq_f (zq_I (Z 376) (by decide)) (by decide)) (by decide)) (by decide)) (by decide)) (vl_s vo_t (vl_s (vo_r (by decide)) (vl_s (vo_r (by decide)) (vl_n (vl_n (vl_n (vl_n vl_0))))))) vs_0 ?_
    refine lk_ast hLx dL_law_19 rfl (by decide) (pv_r rfl) ?_
    refine lk_ic (v := 0) hLx dL_law_20 (by decide) ?_
    refine lk_ist hLx dL_law_21 (by decide) (pv_r rfl) ?_
    intro ad H locs la hg hrq hP hD hS hl
    have hLx2 : Lx p s m meth c b L xs ad tc D := ⟨C0, hK, ro_ad (fun q hq => hg q hq) hro, hL⟩
    have hss : ss_n 377 ≤ 100000 := by decide +kernel
    refine law_loop (Inv := Inv) hmono hLx2 h_feed h_end h_fault h_text h_card h_word h_law h_cleaner h_fits h_put h_take h_copy h_lamp h_light h_write h_days h_decades h_undo h_log h_reading h_right h_matched h_clash h_blank h_stood h_once h_probe h_saves h_round h_nowhere h_forged h_alone h_suits h_wanted h_perhaps h_shared h_twins h_odds h_rescue h_image h_back h_count (h_thing ad tc D hLx2) (L + 7) 0 377 (ss_n 377) mu_0 (by omega) (by omega) (by omega) (by omega) hI0 H locs la ?_ (wq_endD hD) hS ?_
    · refine wq_end (fun a k ha hk => ?_) rq_s hP
      by_cases h1 : a < 355
      · rw [rq_o (by omega), fl_o (by omega), fl_i (by omega) h1 hk]
      · by_cases h2 : a < 376
        · by_cases h3 : a = 355
          · subst h3
            have h5 : k ≠ 5 := fun e => by subst e; exact absurd hk (by decide +kernel)
            rw [rq_k h5, fl_i (by omega) (by omega) hk]
          · rw [rq_o h3, fl_i (by omega) h2 hk]
        · have : a = 376 := by omega
          subst this
          exact absurd hk (by rw [iR_376 k (iR_x hk).2]; decide)
    · refine ⟨hl.1, hl.2.1, fun q hq => ?_⟩
      have e4 : ad 4000 = b := (hg 4000 (by decide)).trans had4
      rcases List.mem_cons.mp hq with rfl | hq
      · have := hl.2.2 0 (av_r 4000) rfl
        rw [show av_V ad (av_r 4000) = .ref b from congrArg Value.ref e4] at this
        exact this
      · rcases List.mem_cons.mp hq with rfl | hq
        · exact hl.2.2 1 (av_r 0) rfl
        · rcases List.mem_cons.mp hq with rfl | hq
          · exact hl.2.2 2 (av_r 355) rfl
          · rcases List.mem_cons.mp hq with rfl | hq
            · exact hl.2.2 3 (av_r 376) rfl
            · rcases List.mem_cons.mp hq with rfl | hq
              · exact hl.2.2 4 (av_i 0) rfl
              · cases hq
  have hl := lv_entry ([.ref b]) (n := 7) (Nat.le_of_ble_eq_true rfl)
  rw [lg_entry_eq]
  refine key ad0 s.heap [] _ (fun _ _ => rfl) (fun a k b h => by cases h) (fun k q h => by simp [wq_w] at h) ⟨fun i j p q h => by simp [wq_w] at h, fun k q h => by simp [wq_w] at h⟩ va_S.rf ⟨hl.1, hl.2.1, fun i v hi => ?_⟩
  match i, hi with
  | 0, hi =>
    cases hi
    show _ = some (Slot.val (.ref (ad0 4000)))
    rw [had4]
    exact hl.2.2 (0, .ref b) List.mem_cons_self
  | 1, hi => simp at hi
  | 2, hi => simp at hi
  | 3, hi => simp at hi
  | 4, hi => simp at hi
  | 5, hi => simp at hi
  | 6, hi => simp at hi
  | i + 7, hi => simp at hi
