/-! ===== the law's loop, at its own place ===== -/
def Lx (p : Program) (s : State) (m : MethodId) (meth : Method) (c : Code) (b L : Nat) (xs : Nat → Int32) (ad : Nat → Nat) (tc : Nat → ClassId) (D : va_G) : Prop := lw_At p s m meth c b L xs ∧ va_K D vwCl (ty_L tc) s ∧ ro_ok ad (fun q => s.heap.size ≤ q) s s.heap ∧ L ≤ 3072
def Lh (p : Program) (l : Launch) (e : Env) (s : State) (m : MethodId) (below : List Frame) (meth : Method) (c : Code) (b : Nat) (ad : Nat → Nat) (tc : Nat → ClassId) (D : va_G) (i cells slots pc : Nat) (st : List Value) (μ : MM) : Prop :=
  ∀ (H : Heap) (locs : List Loc) (la : Array Slot), va_P D vwCl (wo_w ad tc μ) H → va_D (fun q => s.heap.size ≤ q) (wo_w ad tc μ) → va_S (fun q => s.heap.size ≤ q) s.heap H locs → lv_has la 7 [(0, .ref b), (1, .ref (ad 0)), (2, .ref (ad 355)), (3, .ref (ad 376)), (4, .int (nI i))] →
    W p l e room_1 s m #[Value.ref b] below meth c H locs cells slots (lw_Z below #[Value.ref b] s) (F0 m pc la st)
abbrev NN : Nat := 20000
theorem lh_al0 {p : Program} {l : Launch} {e : Env} {s : State} {m : MethodId} {below : List Frame} {meth : Method} {c : Code} {b L : Nat} {xs : Nat → Int32} {ad : Nat → Nat} {tc : Nat → ClassId} {D : va_G} {i cells slots pc : Nat} {st : List Value} {μ : MM}  (hLx : Lx p s m meth c b L xs ad tc D) (hd : decode code pc = .ok (.aload_n 0, 1)) (k : Lh p l e s m below meth c b ad tc D i cells slots (pc + 1) (.ref b :: st) μ) : Lh p l e s m below meth c b ad tc D i cells slots pc st μ := by
  intro H locs la hP hD hS hl
  obtain ⟨⟨hx, hb, hr, hml, hown, hts, hX, hbl, hlocks, hgv⟩, hK, hro, hL⟩ := hLx
  exact lv_aload_n hx hb hd rfl (lv_at hl 0 rfl) (k H locs la hP hD hS hl)
theorem lh_al1 {p : Program} {l : Launch} {e : Env} {s : State} {m : MethodId} {below : List Frame} {meth : Method} {c : Code} {b L : Nat} {xs : Nat → Int32} {ad : Nat → Nat} {tc : Nat → ClassId} {D : va_G} {i cells slots pc : Nat} {st : List Value} {μ : MM}  (hLx : Lx p s m meth c b L xs ad tc D) (hd : decode code pc = .ok (.aload_n 1, 1)) (k : Lh p l e s m below meth c b ad tc D i cells slots (pc + 1) (.ref (ad 0) :: st) μ) : Lh p l e s m below meth c b ad tc D i cells slots pc st μ := by
  intro H locs la hP hD hS hl
  obtain ⟨⟨hx, hb, hr, hml, hown, hts, hX, hbl, hlocks, hgv⟩, hK, hro, hL⟩ := hLx
  exact lv_aload_n hx hb hd rfl (lv_at hl 1 rfl) (k H locs la hP hD hS hl)
theorem lh_al2 {p : Program} {l : Launch} {e : Env} {s : State} {m : MethodId} {below : List Frame} {meth : Method} {c : Code} {b L : Nat} {xs : Nat → Int32} {ad : Nat → Nat} {tc : Nat → ClassId} {D : va_G} {i cells slots pc : Nat} {st : List Value} {μ : MM}  (hLx : Lx p s m meth c b L xs ad tc D) (hd : decode code pc = .ok (.aload_n 2, 1)) (k : Lh p l e s m below meth c b ad tc D i cells slots (pc + 1) (.ref (ad 355) :: st) μ) : Lh p l e s m below meth c b ad tc D i cells slots pc st μ := by
  intro H locs la hP hD hS hl
  obtain ⟨⟨hx, hb, hr, hml, hown, hts, hX, hbl, hlocks, hgv⟩, hK, hro, hL⟩ := hLx
  exact lv_aload_n hx hb hd rfl (lv_at hl 2 rfl) (k H locs la hP hD hS hl)
theorem lh_al3 {p : Program} {l : Launch} {e : Env} {s : State} {m : MethodId} {below : List Frame} {meth : Method} {c : Code} {b L : Nat} {xs : Nat → Int32} {ad : Nat → Nat} {tc : Nat → ClassId} {D : va_G} {i cells slots pc : Nat} {st : List Value} {μ : MM}  (hLx : Lx p s m meth c b L xs ad tc D) (hd : decode code pc = .ok (.aload_n 3, 1)) (k : Lh p l e s m below meth c b ad tc D i cells slots (pc + 1) (.ref (ad 376) :: st) μ) : Lh p l e s m below meth c b ad tc D i cells slots pc st μ := by
  intro H locs la hP hD hS hl
  obtain ⟨⟨hx, hb, hr, hml, hown, hts, hX, hbl, hlocks, hgv⟩, hK, hro, hL⟩ := hLx
  exact lv_aload_n hx hb hd rfl (lv_at hl 3 rfl) (k H locs la hP hD hS hl)
theorem lh_il {p : Program} {l : Launch} {e : Env} {s : State} {m : MethodId} {below : List Frame} {meth : Method} {c : Code} {b L : Nat} {xs : Nat → Int32} {ad : Nat → Nat} {tc : Nat → ClassId} {D : va_G} {i cells slots pc : Nat} {st : List Value} {μ : MM}  (hLx : Lx p s m meth c b L xs ad tc D) (hd : decode code pc = .ok (.iload 4, 2)) (k : Lh p l e s m below meth c b ad tc D i cells slots (pc + 2) (.int (nI i) :: st) μ) : Lh p l e s m below meth c b ad tc D i cells slots pc st μ := by
  intro H locs la hP hD hS hl
  obtain ⟨⟨hx, hb, hr, hml, hown, hts, hX, hbl, hlocks, hgv⟩, hK, hro, hL⟩ := hLx
  exact lv_iload hx hb hd (lv_at hl 4 rfl) (k H locs la hP hD hS hl)
theorem lh_ic {p : Program} {l : Launch} {e : Env} {s : State} {m : MethodId} {below : List Frame} {meth : Method} {c : Code} {b L : Nat} {xs : Nat → Int32} {ad : Nat → Nat} {tc : Nat → ClassId} {D : va_G} {i cells slots pc : Nat} {st : List Value} {μ : MM} {n : Int} {v : Int32} (hLx : Lx p s m meth c b L xs ad tc D) (hd : decode code pc = .ok (.iconst n, 1)) (hv : Int32.ofInt n = v) (k : Lh p l e s m below meth c b ad tc D i cells slots (pc + 1) (.int v :: st) μ) : Lh p l e s m below meth c b ad tc D i cells slots pc st μ := by
  intro H locs la hP hD hS hl
  obtain ⟨⟨hx, hb, hr, hml, hown, hts, hX, hbl, hlocks, hgv⟩, hK, hro, hL⟩ := hLx
  exact lv_iconst hx hb hd hv (k H locs la hP hD hS hl)
theorem lh_bp {p : Program} {l : Launch} {e : Env} {s : State} {m : MethodId} {below : List Frame} {meth : Method} {c : Code} {b L : Nat} {xs : Nat → Int32} {ad : Nat → Nat} {tc : Nat → ClassId} {D : va_G} {i cells slots pc : Nat} {st : List Value} {μ : MM} {n : Int} {v : Int32} (hLx : Lx p s m meth c b L xs ad tc D) (hd : decode code pc = .ok (.bipush n, 2)) (hv : (Int8.ofInt n).toInt32 = v) (k : Lh p l e s m below meth c b ad tc D i cells slots (pc + 2) (.int v :: st) μ) : Lh p l e s m below meth c b ad tc D i cells slots pc st μ := by
  intro H locs la hP hD hS hl
  obtain ⟨⟨hx, hb, hr, hml, hown, hts, hX, hbl, hlocks, hgv⟩, hK, hro, hL⟩ := hLx
  exact lv_bipush hx hb hd hv (k H locs la hP hD hS hl)
theorem lh_iadd {p : Program} {l : Launch} {e : Env} {s : State} {m : MethodId} {below : List Frame} {meth : Method} {c : Code} {b L : Nat} {xs : Nat → Int32} {ad : Nat → Nat} {tc : Nat → ClassId} {D : va_G} {i cells slots pc : Nat} {st : List Value} {μ : MM} {x y : Int32} (hLx : Lx p s m meth c b L xs ad tc D) (hd : decode code pc = .ok (.iadd, 1)) (k : Lh p l e s m below meth c b ad tc D i cells slots (pc + 1) (.int (x + y) :: st) μ) : Lh p l e s m below meth c b ad tc D i cells slots pc (.int y :: .int x :: st) μ := by
  intro H locs la hP hD hS hl
  obtain ⟨⟨hx, hb, hr, hml, hown, hts, hX, hbl, hlocks, hgv⟩, hK, hro, hL⟩ := hLx
  exact lv_iadd hx hb hd (k H locs la hP hD hS hl)
theorem lh_isub {p : Program} {l : Launch} {e : Env} {s : State} {m : MethodId} {below : List Frame} {meth : Method} {c : Code} {b L : Nat} {xs : Nat → Int32} {ad : Nat → Nat} {tc : Nat → ClassId} {D : va_G} {i cells slots pc : Nat} {st : List Value} {μ : MM} {x y : Int32} (hLx : Lx p s m meth c b L xs ad tc D) (hd : decode code pc = .ok (.isub, 1)) (k : Lh p l e s m below meth c b ad tc D i cells slots (pc + 1) (.int (x - y) :: st) μ) : Lh p l e s m below meth c b ad tc D i cells slots pc (.int y :: .int x :: st) μ := by
  intro H locs la hP hD hS hl
  obtain ⟨⟨hx, hb, hr, hml, hown, hts, hX, hbl, hlocks, hgv⟩, hK, hro, hL⟩ := hLx
  exact lv_isub hx hb hd (k H locs la hP hD hS hl)
theorem lh_iand {p : Program} {l : Launch} {e : Env} {s : State} {m : MethodId} {below : List Frame} {meth : Method} {c : Code} {b L : Nat} {xs : Nat → Int32} {ad : Nat → Nat} {tc : Nat → ClassId} {D : va_G} {i cells slots pc : Nat} {st : List Value} {μ : MM} {x y : Int32} (hLx : Lx p s m meth c b L xs ad tc D) (hd : decode code pc = .ok (.iand, 1)) (k : Lh p l e s m below meth c b ad tc D i cells slots (pc + 1) (.int (x &&& y) :: st) μ) : Lh p l e s m below meth c b ad tc D i cells slots pc (.int y :: .int x :: st) μ := by
  intro H locs la hP hD hS hl
  obtain ⟨⟨hx, hb, hr, hml, hown, hts, hX, hbl, hlocks, hgv⟩, hK, hro, hL⟩ := hLx
  exact lv_iand hx hb hd (k H locs la hP hD hS hl)
theorem lh_land {p : Program} {l : Launch} {e : Env} {s : State} {m : MethodId} {below : List Frame} {meth : Method} {c : Code} {b L : Nat} {xs : Nat → Int32} {ad : Nat → Nat} {tc : Nat → ClassId} {D : va_G} {i cells slots pc : Nat} {st : List Value} {μ : MM} {x y : Int64} (hLx : Lx p s m meth c b L xs ad tc D) (hd : decode code pc = .ok (.land, 1)) (k : Lh p l e s m below meth c b ad tc D i cells slots (pc + 1) (.long (x &&& y) :: st) μ) : Lh p l e s m below meth c b ad tc D i cells slots pc (.long y :: .long x :: st) μ := by
  intro H locs la hP hD hS hl
  obtain ⟨⟨hx, hb, hr, hml, hown, hts, hX, hbl, hlocks, hgv⟩, hK, hro, hL⟩ := hLx
  exact lv_land hx hb hd (k H locs la hP hD hS hl)
theorem lh_lor {p : Program} {l : Launch} {e : Env} {s : State} {m : MethodId} {below : List Frame} {meth : Method} {c : Code} {b L : Nat} {xs : Nat → Int32} {ad : Nat → Nat} {tc : Nat → ClassId} {D : va_G} {i cells slots pc : Nat} {st : List Value} {μ : MM} {x y : Int64} (hLx : Lx p s m meth c b L xs ad tc D) (hd : decode code pc = .ok (.lor, 1)) (k : Lh p l e s m below meth c b ad tc D i cells slots (pc + 1) (.long (x ||| y) :: st) μ) : Lh p l e s m below meth c b ad tc D i cells slots pc (.long y :: .long x :: st) μ := by
  intro H locs la hP hD hS hl
  obtain ⟨⟨hx, hb, hr, hml, hown, hts, hX, hbl, hlocks, hgv⟩, hK, hro, hL⟩ := hLx
  exact lv_lor hx hb hd (k H locs la hP hD hS hl)
theorem lh_i2l {p : Program} {l : Launch} {e : Env} {s : State} {m : MethodId} {below : List Frame} {meth : Method} {c : Code} {b L : Nat} {xs : Nat → Int32} {ad : Nat → Nat} {tc : Nat → ClassId} {D : va_G} {i cells slots pc : Nat} {st : List Value} {μ : MM} {x : Int32} (hLx : Lx p s m meth c b L xs ad tc D) (hd : decode code pc = .ok (.i2l, 1)) (k : Lh p l e s m below meth c b ad tc D i cells slots (pc + 1) (.long x.toInt64 :: st) μ) : Lh p l e s m below meth c b ad tc D i cells slots pc (.int x :: st) μ := by
  intro H locs la hP hD hS hl
  obtain ⟨⟨hx, hb, hr, hml, hown, hts, hX, hbl, hlocks, hgv⟩, hK, hro, hL⟩ := hLx
  exact lv_i2l hx hb hd rfl (k H locs la hP hD hS hl)
theorem lh_lshl {p : Program} {l : Launch} {e : Env} {s : State} {m : MethodId} {below : List Frame} {meth : Method} {c : Code} {b L : Nat} {xs : Nat → Int32} {ad : Nat → Nat} {tc : Nat → ClassId} {D : va_G} {i cells slots pc : Nat} {st : List Value} {μ : MM} {x : Int64} {y : Int32} (hLx : Lx p s m meth c b L xs ad tc D) (hd : decode code pc = .ok (.lshl, 1)) (k : Lh p l e s m below meth c b ad tc D i cells slots (pc + 1) (.long (x <<< (y.toInt64 &&& 63)) :: st) μ) : Lh p l e s m below meth c b ad tc D i cells slots pc (.int y :: .long x :: st) μ := by
  intro H locs la hP hD hS hl
  obtain ⟨⟨hx, hb, hr, hml, hown, hts, hX, hbl, hlocks, hgv⟩, hK, hro, hL⟩ := hLx
  exact lv_lshl hx hb hd rfl (k H locs la hP hD hS hl)
theorem lh_ldc2 {p : Program} {l : Launch} {e : Env} {s : State} {m : MethodId} {below : List Frame} {meth : Method} {c : Code} {b L : Nat} {xs : Nat → Int32} {ad : Nat → Nat} {tc : Nat → ClassId} {D : va_G} {i cells slots pc : Nat} {st : List Value} {μ : MM} {ix : Nat} {v : Int64} (hLx : Lx p s m meth c b L xs ad tc D) (hd : decode code pc = .ok (.ldc2_w ix, 3)) (hw : Cond.constantLong R_law ix v ∈ lw_tbl) (k : Lh p l e s m below meth c b ad tc D i cells slots (pc + 3) (.long v :: st) μ) : Lh p l e s m below meth c b ad tc D i cells slots pc st μ := by
  intro H locs la hP hD hS hl
  obtain ⟨⟨hx, hb, hr, hml, hown, hts, hX, hbl, hlocks, hgv⟩, hK, hro, hL⟩ := hLx
  exact lv_ldc2 hx hb hown (hts _ hw) hd (k H locs la hP hD hS hl)
theorem lh_sld {p : Program} {l : Launch} {e : Env} {s : State} {m : MethodId} {below : List Frame} {meth : Method} {c : Code} {b L : Nat} {xs : Nat → Int32} {ad : Nat → Nat} {tc : Nat → ClassId} {D : va_G} {i cells slots pc : Nat} {st : List Value} {μ : MM} {x : Int32} {j : Nat} (hLx : Lx p s m meth c b L xs ad tc D) (hd : decode code pc = .ok (.iaload, 1)) (hin : vp_in x L) (hj : x.toNatClampNeg = j) (k : Lh p l e s m below meth c b ad tc D i cells slots (pc + 1) (.int (xs j) :: st) μ) : Lh p l e s m below meth c b ad tc D i cells slots pc (.int x :: .ref b :: st) μ := by
  intro H locs la hP hD hS hl
  obtain ⟨⟨hx, hb, hr, hml, hown, hts, hX, hbl, hlocks, hgv⟩, hK, hro, hL⟩ := hLx
  subst hj
  exact va_sld hx hb hX hbl (Nat.not_le.mpr hbl) hS hin hd (k H locs la hP hD hS hl)
theorem lh_slen {p : Program} {l : Launch} {e : Env} {s : State} {m : MethodId} {below : List Frame} {meth : Method} {c : Code} {b L : Nat} {xs : Nat → Int32} {ad : Nat → Nat} {tc : Nat → ClassId} {D : va_G} {i cells slots pc : Nat} {st : List Value} {μ : MM}  (hLx : Lx p s m meth c b L xs ad tc D) (hd : decode code pc = .ok (.arraylength, 1)) (k : Lh p l e s m below meth c b ad tc D i cells slots (pc + 1) (.int (Int32.ofNat L) :: st) μ) : Lh p l e s m below meth c b ad tc D i cells slots pc (.ref b :: st) μ := by
  intro H locs la hP hD hS hl
  obtain ⟨⟨hx, hb, hr, hml, hown, hts, hX, hbl, hlocks, hgv⟩, hK, hro, hL⟩ := hLx
  exact va_slen hx hb hX hbl (Nat.not_le.mpr hbl) hS hd (k H locs la hP hD hS hl)
theorem lh_goto {p : Program} {l : Launch} {e : Env} {s : State} {m : MethodId} {below : List Frame} {meth : Method} {c : Code} {b L : Nat} {xs : Nat → Int32} {ad : Nat → Nat} {tc : Nat → ClassId} {D : va_G} {i cells slots pc : Nat} {st : List Value} {μ : MM} {off : Int} {tgt : Nat} (hLx : Lx p s m meth c b L xs ad tc D) (hd : decode code pc = .ok (.goto off, 3)) (ht : (pc : Int) + off = (tgt : Int)) (k : Lh p l e s m below meth c b ad tc D i cells slots tgt st μ) : Lh p l e s m below meth c b ad tc D i cells slots pc st μ := by
  intro H locs la hP hD hS hl
  obtain ⟨⟨hx, hb, hr, hml, hown, hts, hX, hbl, hlocks, hgv⟩, hK, hro, hL⟩ := hLx
  exact lv_goto hx hb hd ht (k H locs la hP hD hS hl)
theorem lh_if_eq {p : Program} {l : Launch} {e : Env} {s : State} {m : MethodId} {below : List Frame} {meth : Method} {c : Code} {b L : Nat} {xs : Nat → Int32} {ad : Nat → Nat} {tc : Nat → ClassId} {D : va_G} {i cells slots pc : Nat} {st : List Value} {μ : MM} {x : Int32} {off : Int} {tgt : Nat} (hLx : Lx p s m meth c b L xs ad tc D) (hd : decode code pc = .ok (.ifCond .eq off, 3)) (ht : (pc : Int) + off = (tgt : Int)) (kt : x = 0 → Lh p l e s m below meth c b ad tc D i cells slots tgt st μ) (kf : ¬ x = 0 → Lh p l e s m below meth c b ad tc D i cells slots (pc + 3) st μ) : Lh p l e s m below meth c b ad tc D i cells slots pc (.int x :: st) μ := by
  intro H locs la hP hD hS hl
  obtain ⟨⟨hx, hb, hr, hml, hown, hts, hX, hbl, hlocks, hgv⟩, hK, hro, hL⟩ := hLx
  exact lv_if_eq hx hb hd ht (fun q => (kt q H locs la hP hD hS hl)) (fun q => (kf q H locs la hP hD hS hl))
theorem lh_icmp_eq {p : Program} {l : Launch} {e : Env} {s : State} {m : MethodId} {below : List Frame} {meth : Method} {c : Code} {b L : Nat} {xs : Nat → Int32} {ad : Nat → Nat} {tc : Nat → ClassId} {D : va_G} {i cells slots pc : Nat} {st : List Value} {μ : MM} {x y : Int32} {off : Int} {tgt : Nat} (hLx : Lx p s m meth c b L xs ad tc D) (hd : decode code pc = .ok (.if_icmp .eq off, 3)) (ht : (pc : Int) + off = (tgt : Int)) (kt : x = y → Lh p l e s m below meth c b ad tc D i cells slots tgt st μ) (kf : ¬ x = y → Lh p l e s m below meth c b ad tc D i cells slots (pc + 3) st μ) : Lh p l e s m below meth c b ad tc D i cells slots pc (.int y :: .int x :: st) μ := by
  intro H locs la hP hD hS hl
  obtain ⟨⟨hx, hb, hr, hml, hown, hts, hX, hbl, hlocks, hgv⟩, hK, hro, hL⟩ := hLx
  exact lv_icmp_eq hx hb hd ht (fun q => (kt q H locs la hP hD hS hl)) (fun q => (kf q H locs la hP hD hS hl))
theorem lh_icmp_gt {p : Program} {l : Launch} {e : Env} {s : State} {m : MethodId} {below : List Frame} {meth : Method} {c : Code} {b L : Nat} {xs : Nat → Int32} {ad : Nat → Nat} {tc : Nat → ClassId} {D : va_G} {i cells slots pc : Nat} {st : List Value} {μ : MM} {x y : Int32} {off : Int} {tgt : Nat} (hLx : Lx p s m meth c b L xs ad tc D) (hd : decode code pc = .ok (.if_icmp .gt off, 3)) (ht : (pc : Int) + off = (tgt : Int)) (kt : y < x → Lh p l e s m below meth c b ad tc D i cells slots tgt st μ) (kf : ¬ y < x → Lh p l e s m below meth c b ad tc D i cells slots (pc + 3) st μ) : Lh p l e s m below meth c b ad tc D i cells slots pc (.int y :: .int x :: st) μ := by
  intro H locs la hP hD hS hl
  obtain ⟨⟨hx, hb, hr, hml, hown, hts, hX, hbl, hlocks, hgv⟩, hK, hro, hL⟩ := hLx
  exact lv_icmp_gt hx hb hd ht (fun q => (kt q H locs la hP hD hS hl)) (fun q => (kf q H locs la hP hD hS hl))
theorem lh_call {p : Program} {l : Launch} {e : Env} {s : State} {m : MethodId} {below : List Frame} {meth : Method} {c : Code} {b L : Nat} {xs : Nat → Int32} {ad : Nat → Nat} {tc : Nat → ClassId} {D : va_G} {i cells slots pc : Nat} {rest stk : List Value} {μ : MM} {Po1 : Option AV → MM → Prop} {me' : ME} {as : List AV} {a n ix ci : Nat} {q : vw_C} (hLx : Lx p s m meth c b L xs ad tc D) (hc9 : cells ≤ 601024 ∧ slots ≤ 7293034) (hd : decode code pc = .ok (.invokevirtual ix, 3)) (hcv : CV me' n) (hlk : Cond.methodLink R_law ix me'.1 ∈ lw_tbl) (ha : sh_k a = ci) (hq : vwCl[ci]? = some q) (hqn : q.1 = me'.1.cls) (hci : ci < 20) (hn : as.length = n) (hst : (rest.map fun v => v.category).sum ≤ 8) (hs : (as.map (av_V ad)).reverse ++ .ref (ad a) :: rest = stk) (hcl : Cl 200 me' (av_r a :: as) μ Po1) (kk : ∀ (r : Option AV) (μ1 : MM), Po1 r μ1 → Lh p l e s m below meth c b ad tc D i cells slots (pc + 3) ((r.map (av_V ad)).toList ++ rest) μ1) : Lh p l e s m below meth c b ad tc D i cells slots pc stk μ := by
  subst hs
  intro H locs la hP hD hS hl
  obtain ⟨⟨hx, hb, hr, hml, hown, hts, hX, hbl, hlocks, hgv⟩, hK, hro, hL⟩ := hLx
  have hA : ∀ q : Nat, s.heap.size ≤ q → (fun q : Nat => s.heap.size ≤ q) q := fun _ h => h
  have hts2 : ∀ w ∈ GW_w, w.before #[Value.ref b] s = true := fun w hw => hts w (List.mem_filter.mp hw).1
  obtain ⟨v1, v2, v3, v4, v5, v6⟩ := hcv
  have hpre : ∀ U : State, U.heap = H → s.WarmedH U.vm → Pc_c ad tc D H.size (av_r a :: as) μ ((av_r a :: as).map (av_V ad)).toArray U := by
    intro U hU hW
    refine ⟨rfl, by rw [hU], by rw [hU]; exact hP, va_K.moved hW.alike hK, hD.weaken (fun _ _ _ _ => trivial), ?_⟩
    rw [hU]
    exact ro_mv hW (ro_narrow (ro_kept hro hS.2.1) (wo_A hD hS hA))
  have hrun := va_runV (cc := code) (nL := 7) (Ts := GW_w) (own := R_law) (index := ix) (g := F0 m pc la ((as.map (av_V ad)).reverse ++ .ref (ad a) :: rest)) (locs := locs) (cells := cells) (slots := slots) (H := H) (R := room_1) (below := below) (meth := meth) (args := #[Value.ref b]) (p := p) (e := e) (c := c) (m := m) (s := s) (b := ad a) (As := as.map (av_V ad)) (rest := rest) (C := me'.1.cls)
    ⟨hx, hb, hml, hown, hts2⟩ (hcl l ad tc D H.size)
    ⟨callB_of n hts2 (GW_good v1) rfl rfl rfl (hts _ v4) (hts _ hlk) v5 ⟨(by show 200 + 1 ≤ 2048; decide), by show 8 + (me'.2.2.1 + 11) + 64 * 200 ≤ 84000; omega⟩, hts _ v2, hts _ v3⟩
    ⟨Pc_blind, by rw [← hqn]; exact va_recv hK hP (ci := ci) (q0 := a) hq (ce_ob ha hci), hpre⟩ rfl (by rw [List.length_map]; exact hn) hl.1 rfl (lv_room hst) hd ⟨hc9.1, hc9.2⟩
  intro T hT X
  obtain ⟨v, st₀, t, T', L2, h0, X', hL2, e1, e2, ⟨⟨r, μ1, hv, hp, hb9⟩, hz, hk⟩, stp⟩ := hrun T hT X
  cases hv
  rw [h0] at hz hk
  obtain ⟨t2, a1, b1⟩ := kk r μ1 hp T'.heap (locs ++ L2) la (by rw [e1]; exact hb9) (wo_D hD)
    ⟨Nat.le_trans hS.1 (by rw [e1]; exact hz), fun q h1 h2 => by rw [e1, hk q (Nat.lt_of_lt_of_le h1 hS.1) (fun z => h2 (wo_A hD hS hA q z))]; exact hS.2.1 q h1 h2, fun q hq => by
      rcases List.mem_append.mp hq with h | h
      · exact hS.2.2 q h
      · exact wo_A hD hS hA _ (hL2 q h)⟩ hl T' rfl X'
  exact ⟨t2, stp t2 a1, b1⟩
theorem li_in {i L k : Nat} (h : i + 6 ≤ L) (hL : L ≤ 3072) (hk : k < 6) : vp_in (nI i + nI k) L := by
  rw [nI_add]
  exact vp_in_nI (by omega) (by omega)
theorem li_at {i L k : Nat} (h : i + 6 ≤ L) (hL : L ≤ 3072) (hk : k < 6) : (nI i + nI k).toNatClampNeg = i + k := by
  rw [nI_add]
  exact nI_clamp (by omega)
theorem lm_19 : Cond.methodLink R_law 19 yX11_feed ∈ lw_tbl := (tb_2 (List.mem_of_getElem? (i := 204) (by decide +kernel)))
theorem lcv_X11_feed : CV mX11_feed 5 := ⟨(tb_2 (List.mem_of_getElem? (i := 207) (by decide +kernel))), (tb_2 (List.mem_of_getElem? (i := 205) (by decide +kernel))), (tb_2 (List.mem_of_getElem? (i := 206) (by decide +kernel))), (tb_1 (List.mem_of_getElem? (i := 1) (by decide +kernel))), by decide +kernel, by decide⟩
theorem lm_23 : Cond.methodLink R_law 23 yX12_feed ∈ lw_tbl := (tb_6 (List.mem_of_getElem? (i := 202) (by decide +kernel)))
theorem lcv_X12_feed : CV mX12_feed 5 := ⟨(tb_6 (List.mem_of_getElem? (i := 205) (by decide +kernel))), (tb_6 (List.mem_of_getElem? (i := 203) (by decide +kernel))), (tb_6 (List.mem_of_getElem? (i := 204) (by decide +kernel))), (tb_1 (List.mem_of_getElem? (i := 14) (by decide +kernel))), by decide +kernel, by decide⟩
theorem lm_24 : Cond.methodLink R_law 24 yX11_end ∈ lw_tbl := (tb_2 (List.mem_of_getElem? (i := 216) (by decide +kernel)))
theorem lcv_X11_end : CV mX11_end 1 := ⟨(tb_2 (List.mem_of_getElem? (i := 219) (by decide +kernel))), (tb_2 (List.mem_of_getElem? (i := 217) (by decide +kernel))), (tb_2 (List.mem_of_getElem? (i := 218) (by decide +kernel))), (tb_1 (List.mem_of_getElem? (i := 1) (by decide +kernel))), by decide +kernel, by decide⟩
theorem lm_28 : Cond.methodLink R_law 28 yX12_end ∈ lw_tbl := (tb_6 (List.mem_of_getElem? (i := 213) (by decide +kernel)))
theorem lcv_X12_end : CV mX12_end 1 := ⟨(tb_6 (List.mem_of_getElem? (i := 216) (by decide +kernel))), (tb_6 (List.mem_of_getElem? (i := 214) (by decide +kernel))), (tb_6 (List.mem_of_getElem? (i := 215) (by decide +kernel))), (tb_1 (List.mem_of_getElem? (i := 14) (by decide +kernel))), by decide +kernel, by decide⟩
theorem lm_29 : Cond.methodLink R_law 29 yX11_fault ∈ lw_tbl := (tb_2 (List.mem_of_getElem? (i := 220) (by decide +kernel)))
theorem lcv_X11_fault : CV mX11_fault 1 := ⟨(tb_2 (List.mem_of_getElem? (i := 223) (by decide +kernel))), (tb_2 (List.mem_of_getElem? (i := 221) (by decide +kernel))), (tb_2 (List.mem_of_getElem? (i := 222) (by decide +kernel))), (tb_1 (List.mem_of_getElem? (i := 1) (by decide +kernel))), by decide +kernel, by decide⟩
theorem lm_33 : Cond.methodLink R_law 33 yX12_fault ∈ lw_tbl := (tb_6 (List.mem_of_getElem? (i := 217) (by decide +kernel)))
theorem lcv_X12_fault : CV mX12_fault 1 := ⟨(tb_6 (List.mem_of_getElem? (i := 220) (by decide +kernel))), (tb_6 (List.mem_of_getElem? (i := 218) (by decide +kernel))), (tb_6 (List.mem_of_getElem? (i := 219) (by decide +kernel))), (tb_1 (List.mem_of_getElem? (i := 14) (by decide +kernel))), by decide +kernel, by decide⟩
theorem lm_34 : Cond.methodLink R_law 34 yX11_text ∈ lw_tbl := (tb_3 (List.mem_of_getElem? (i := 213) (by decide +kernel)))
theorem lcv_X11_text : CV mX11_text 1 := ⟨(tb_3 (List.mem_of_getElem? (i := 216) (by decide +kernel))), (tb_3 (List.mem_of_getElem? (i := 214) (by decide +kernel))), (tb_3 (List.mem_of_getElem? (i := 215) (by decide +kernel))), (tb_1 (List.mem_of_getElem? (i := 1) (by decide +kernel))), by decide +kernel, by decide⟩
theorem lm_37 : Cond.methodLink R_law 37 yX12_text ∈ lw_tbl := (tb_7 (List.mem_of_getElem? (i := 139) (by decide +kernel)))
theorem lcv_X12_text : CV mX12_text 1 := ⟨(tb_7 (List.mem_of_getElem? (i := 142) (by decide +kernel))), (tb_7 (List.mem_of_getElem? (i := 140) (by decide +kernel))), (tb_7 (List.mem_of_getElem? (i := 141) (by decide +kernel))), (tb_1 (List.mem_of_getElem? (i := 14) (by decide +kernel))), by decide +kernel, by decide⟩
theorem lm_48 : Cond.methodLink R_law 48 yX11_card ∈ lw_tbl := (tb_4 (List.mem_of_getElem? (i := 15) (by decide +kernel)))
theorem lcv_X11_card : CV mX11_card 2 := ⟨(tb_4 (List.mem_of_getElem? (i := 18) (by decide +kernel))), (tb_4 (List.mem_of_getElem? (i := 16) (by decide +kernel))), (tb_4 (List.mem_of_getElem? (i := 17) (by decide +kernel))), (tb_1 (List.mem_of_getElem? (i := 1) (by decide +kernel))), by decide +kernel, by decide⟩
theorem lm_51 : Cond.methodLink R_law 51 yX12_card ∈ lw_tbl := (tb_7 (List.mem_of_getElem? (i := 159) (by decide +kernel)))
theorem lcv_X12_card : CV mX12_card 2 := ⟨(tb_7 (List.mem_of_getElem? (i := 162) (by decide +kernel))), (tb_7 (List.mem_of_getElem? (i := 160) (by decide +kernel))), (tb_7 (List.mem_of_getElem? (i := 161) (by decide +kernel))), (tb_1 (List.mem_of_getElem? (i := 14) (by decide +kernel))), by decide +kernel, by decide⟩
theorem lm_52 : Cond.methodLink R_law 52 yX11_word ∈ lw_tbl := (tb_4 (List.mem_of_getElem? (i := 41) (by decide +kernel)))
theorem lcv_X11_word : CV mX11_word 3 := ⟨(tb_4 (List.mem_of_getElem? (i := 44) (by decide +kernel))), (tb_4 (List.mem_of_getElem? (i := 42) (by decide +kernel))), (tb_4 (List.mem_of_getElem? (i := 43) (by decide +kernel))), (tb_1 (List.mem_of_getElem? (i := 1) (by decide +kernel))), by decide +kernel, by decide⟩
theorem lm_56 : Cond.methodLink R_law 56 yX12_word ∈ lw_tbl := (tb_7 (List.mem_of_getElem? (i := 196) (by decide +kernel)))
theorem lcv_X12_word : CV mX12_word 3 := ⟨(tb_7 (List.mem_of_getElem? (i := 199) (by decide +kernel))), (tb_7 (List.mem_of_getElem? (i := 197) (by decide +kernel))), (tb_7 (List.mem_of_getElem? (i := 198) (by decide +kernel))), (tb_1 (List.mem_of_getElem? (i := 14) (by decide +kernel))), by decide +kernel, by decide⟩
theorem lm_57 : Cond.methodLink R_law 57 yX11_law ∈ lw_tbl := (tb_4 (List.mem_of_getElem? (i := 49) (by decide +kernel)))
theorem lcv_X11_law : CV mX11_law 1 := ⟨(tb_4 (List.mem_of_getElem? (i := 52) (by decide +kernel))), (tb_4 (List.mem_of_getElem? (i := 50) (by decide +kernel))), (tb_4 (List.mem_of_getElem? (i := 51) (by decide +kernel))), (tb_1 (List.mem_of_getElem? (i := 1) (by decide +kernel))), by decide +kernel, by decide⟩
theorem lm_60 : Cond.methodLink R_law 60 yX12_law ∈ lw_tbl := (tb_7 (List.mem_of_getElem? (i := 200) (by decide +kernel)))
theorem lcv_X12_law : CV mX12_law 1 := ⟨(tb_7 (List.mem_of_getElem? (i := 203) (by decide +kernel))), (tb_7 (List.mem_of_getElem? (i := 201) (by decide +kernel))), (tb_7 (List.mem_of_getElem? (i := 202) (by decide +kernel))), (tb_1 (List.mem_of_getElem? (i := 14) (by decide +kernel))), by decide +kernel, by decide⟩
theorem lm_61 : Cond.methodLink R_law 61 yX11_cleaner ∈ lw_tbl := (tb_4 (List.mem_of_getElem? (i := 53) (by decide +kernel)))
theorem lcv_X11_cleaner : CV mX11_cleaner 1 := ⟨(tb_4 (List.mem_of_getElem? (i := 56) (by decide +kernel))), (tb_4 (List.mem_of_getElem? (i := 54) (by decide +kernel))), (tb_4 (List.mem_of_getElem? (i := 55) (by decide +kernel))), (tb_1 (List.mem_of_getElem? (i := 1) (by decide +kernel))), by decide +kernel, by decide⟩
theorem lm_64 : Cond.methodLink R_law 64 yX12_cleaner ∈ lw_tbl := (tb_7 (List.mem_of_getElem? (i := 204) (by decide +kernel)))
theorem lcv_X12_cleaner : CV mX12_cleaner 1 := ⟨(tb_7 (List.mem_of_getElem? (i := 207) (by decide +kernel))), (tb_7 (List.mem_of_getElem? (i := 205) (by decide +kernel))), (tb_7 (List.mem_of_getElem? (i := 206) (by decide +kernel))), (tb_1 (List.mem_of_getElem? (i := 14) (by decide +kernel))), by decide +kernel, by decide⟩
theorem lm_65 : Cond.methodLink R_law 65 yX11_fits ∈ lw_tbl := (tb_4 (List.mem_of_getElem? (i := 57) (by decide +kernel)))
theorem lcv_X11_fits : CV mX11_fits 2 := ⟨(tb_4 (List.mem_of_getElem? (i := 60) (by decide +kernel))), (tb_4 (List.mem_of_getElem? (i := 58) (by decide +kernel))), (tb_4 (List.mem_of_getElem? (i := 59) (by decide +kernel))), (tb_1 (List.mem_of_getElem? (i := 1) (by decide +kernel))), by decide +kernel, by decide⟩
theorem lm_68 : Cond.methodLink R_law 68 yX12_fits ∈ lw_tbl := (tb_7 (List.mem_of_getElem? (i := 209) (by decide +kernel)))
theorem lcv_X12_fits : CV mX12_fits 2 := ⟨(tb_7 (List.mem_of_getElem? (i := 212) (by decide +kernel))), (tb_7 (List.mem_of_getElem? (i := 210) (by decide +kernel))), (tb_7 (List.mem_of_getElem? (i := 211) (by decide +kernel))), (tb_1 (List.mem_of_getElem? (i := 14) (by decide +kernel))), by decide +kernel, by decide⟩
theorem lm_69 : Cond.methodLink R_law 69 yX11_put ∈ lw_tbl := (tb_4 (List.mem_of_getElem? (i := 85) (by decide +kernel)))
theorem lcv_X11_put : CV mX11_put 2 := ⟨(tb_4 (List.mem_of_getElem? (i := 88) (by decide +kernel))), (tb_4 (List.mem_of_getElem? (i := 86) (by decide +kernel))), (tb_4 (List.mem_of_getElem? (i := 87) (by decide +kernel))), (tb_1 (List.mem_of_getElem? (i := 1) (by decide +kernel))), by decide +kernel, by decide⟩
theorem lm_72 : Cond.methodLink R_law 72 yX12_put_ ∈ lw_tbl := (tb_7 (List.mem_of_getElem? (i := 213) (by decide +kernel)))
theorem lcv_X12_put_ : CV mX12_put_ 2 := ⟨(tb_7 (List.mem_of_getElem? (i := 216) (by decide +kernel))), (tb_7 (List.mem_of_getElem? (i := 214) (by decide +kernel))), (tb_7 (List.mem_of_getElem? (i := 215) (by decide +kernel))), (tb_1 (List.mem_of_getElem? (i := 14) (by decide +kernel))), by decide +kernel, by decide⟩
theorem lm_73 : Cond.methodLink R_law 73 yX11_take ∈ lw_tbl := (tb_4 (List.mem_of_getElem? (i := 99) (by decide +kernel)))
theorem lcv_X11_take : CV mX11_take 1 := ⟨(tb_4 (List.mem_of_getElem? (i := 102) (by decide +kernel))), (tb_4 (List.mem_of_getElem? (i := 100) (by decide +kernel))), (tb_4 (List.mem_of_getElem? (i := 101) (by decide +kernel))), (tb_1 (List.mem_of_getElem? (i := 1) (by decide +kernel))), by decide +kernel, by decide⟩
theorem lm_76 : Cond.methodLink R_law 76 yX12_take ∈ lw_tbl := (tb_7 (List.mem_of_getElem? (i := 221) (by decide +kernel)))
theorem lcv_X12_take : CV mX12_take 1 := ⟨(tb_7 (List.mem_of_getElem? (i := 224) (by decide +kernel))), (tb_7 (List.mem_of_getElem? (i := 222) (by decide +kernel))), (tb_7 (List.mem_of_getElem? (i := 223) (by decide +kernel))), (tb_1 (List.mem_of_getElem? (i := 14) (by decide +kernel))), by decide +kernel, by decide⟩
theorem lm_77 : Cond.methodLink R_law 77 yX11_copy ∈ lw_tbl := (tb_4 (List.mem_of_getElem? (i := 103) (by decide +kernel)))
theorem lcv_X11_copy : CV mX11_copy 1 := ⟨(tb_4 (List.mem_of_getElem? (i := 106) (by decide +kernel))), (tb_4 (List.mem_of_getElem? (i := 104) (by decide +kernel))), (tb_4 (List.mem_of_getElem? (i := 105) (by decide +kernel))), (tb_1 (List.mem_of_getElem? (i := 1) (by decide +kernel))), by decide +kernel, by decide⟩
theorem lm_80 : Cond.methodLink R_law 80 yX12_copy ∈ lw_tbl := (tb_7 (List.mem_of_getElem? (i := 225) (by decide +kernel)))
theorem lcv_X12_copy : CV mX12_copy 1 := ⟨(tb_7 (List.mem_of_getElem? (i := 228) (by decide +kernel))), (tb_7 (List.mem_of_getElem? (i := 226) (by decide +kernel))), (tb_7 (List.mem_of_getElem? (i := 227) (by decide +kernel))), (tb_1 (List.mem_of_getElem? (i := 14) (by decide +kernel))), by decide +kernel, by decide⟩
theorem lm_81 : Cond.methodLink R_law 81 yX11_lamp ∈ lw_tbl := (tb_4 (List.mem_of_getElem? (i := 116) (by decide +kernel)))
theorem lcv_X11_lamp : CV mX11_lamp 1 := ⟨(tb_4 (List.mem_of_getElem? (i := 119) (by decide +kernel))), (tb_4 (List.mem_of_getElem? (i := 117) (by decide +kernel))), (tb_4 (List.mem_of_getElem? (i := 118) (by decide +kernel))), (tb_1 (List.mem_of_getElem? (i := 1) (by decide +kernel))), by decide +kernel, by decide⟩
theorem lm_84 : Cond.methodLink R_law 84 yX12_lamp ∈ lw_tbl := (tb_7 (List.mem_of_getElem? (i := 232) (by decide +kernel)))
theorem lcv_X12_lamp : CV mX12_lamp 1 := ⟨(tb_7 (List.mem_of_getElem? (i := 235) (by decide +kernel))), (tb_7 (List.mem_of_getElem? (i := 233) (by decide +kernel))), (tb_7 (List.mem_of_getElem? (i := 234) (by decide +kernel))), (tb_1 (List.mem_of_getElem? (i := 14) (by decide +kernel))), by decide +kernel, by decide⟩
theorem lm_85 : Cond.methodLink R_law 85 yX11_light ∈ lw_tbl := (tb_4 (List.mem_of_getElem? (i := 124) (by decide +kernel)))
theorem lcv_X11_light : CV mX11_light 1 := ⟨(tb_4 (List.mem_of_getElem? (i := 127) (by decide +kernel))), (tb_4 (List.mem_of_getElem? (i := 125) (by decide +kernel))), (tb_4 (List.mem_of_getElem? (i := 126) (by decide +kernel))), (tb_1 (List.mem_of_getElem? (i := 1) (by decide +kernel))), by decide +kernel, by decide⟩
theorem lm_88 : Cond.methodLink R_law 88 yX12_light ∈ lw_tbl := (tb_7 (List.mem_of_getElem? (i := 236) (by decide +kernel)))
theorem lcv_X12_light : CV mX12_light 1 := ⟨(tb_7 (List.mem_of_getElem? (i := 239) (by decide +kernel))), (tb_7 (List.mem_of_getElem? (i := 237) (by decide +kernel))), (tb_7 (List.mem_of_getElem? (i := 238) (by decide +kernel))), (tb_1 (List.mem_of_getElem? (i := 14) (by decide +kernel))), by decide +kernel, by decide⟩
theorem lm_89 : Cond.methodLink R_law 89 yX11_write ∈ lw_tbl := (tb_4 (List.mem_of_getElem? (i := 132) (by decide +kernel)))
theorem lcv_X11_write : CV mX11_write 2 := ⟨(tb_4 (List.mem_of_getElem? (i := 135) (by decide +kernel))), (tb_4 (List.mem_of_getElem? (i := 133) (by decide +kernel))), (tb_4 (List.mem_of_getElem? (i := 134) (by decide +kernel))), (tb_1 (List.mem_of_getElem? (i := 1) (by decide +kernel))), by decide +kernel, by decide⟩
theorem lm_92 : Cond.methodLink R_law 92 yX12_write ∈ lw_tbl := (tb_8 (List.mem_of_getElem? (i := 1) (by decide +kernel)))
theorem lcv_X12_write : CV mX12_write 2 := ⟨(tb_8 (List.mem_of_getElem? (i := 4) (by decide +kernel))), (tb_8 (List.mem_of_getElem? (i := 2) (by decide +kernel))), (tb_8 (List.mem_of_getElem? (i := 3) (by decide +kernel))), (tb_1 (List.mem_of_getElem? (i := 14) (by decide +kernel))), by decide +kernel, by decide⟩
theorem lm_93 : Cond.methodLink R_law 93 yX11_days ∈ lw_tbl := (tb_4 (List.mem_of_getElem? (i := 136) (by decide +kernel)))
theorem lcv_X11_days : CV mX11_days 1 := ⟨(tb_4 (List.mem_of_getElem? (i := 139) (by decide +kernel))), (tb_4 (List.mem_of_getElem? (i := 137) (by decide +kernel))), (tb_4 (List.mem_of_getElem? (i := 138) (by decide +kernel))), (tb_1 (List.mem_of_getElem? (i := 1) (by decide +kernel))), by decide +kernel, by decide⟩
theorem lm_96 : Cond.methodLink R_law 96 yX12_days ∈ lw_tbl := (tb_8 (List.mem_of_getElem? (i := 9) (by decide +kernel)))
theorem lcv_X12_days : CV mX12_days 1 := ⟨(tb_8 (List.mem_of_getElem? (i := 12) (by decide +kernel))), (tb_8 (List.mem_of_getElem? (i := 10) (by decide +kernel))), (tb_8 (List.mem_of_getElem? (i := 11) (by decide +kernel))), (tb_1 (List.mem_of_getElem? (i := 14) (by decide +kernel))), by decide +kernel, by decide⟩
theorem cL_97 : Cond.constantLong R_law 97 4294967295 ∈ lw_tbl := by decide +kernel
theorem lm_99 : Cond.methodLink R_law 99 yX11_decades ∈ lw_tbl := (tb_4 (List.mem_of_getElem? (i := 193) (by decide +kernel)))
theorem lcv_X11_decades : CV mX11_decades 2 := ⟨(tb_4 (List.mem_of_getElem? (i := 196) (by decide +kernel))), (tb_4 (List.mem_of_getElem? (i := 194) (by decide +kernel))), (tb_4 (List.mem_of_getElem? (i := 195) (by decide +kernel))), (tb_1 (List.mem_of_getElem? (i := 1) (by decide +kernel))), by decide +kernel, by decide⟩
theorem lm_103 : Cond.methodLink R_law 103 yX12_decades ∈ lw_tbl := (tb_8 (List.mem_of_getElem? (i := 32) (by decide +kernel)))
theorem lcv_X12_decades : CV mX12_decades 2 := ⟨(tb_8 (List.mem_of_getElem? (i := 35) (by decide +kernel))), (tb_8 (List.mem_of_getElem? (i := 33) (by decide +kernel))), (tb_8 (List.mem_of_getElem? (i := 34) (by decide +kernel))), (tb_1 (List.mem_of_getElem? (i := 14) (by decide +kernel))), by decide +kernel, by decide⟩
theorem lm_104 : Cond.methodLink R_law 104 yX11_undo ∈ lw_tbl := (tb_4 (List.mem_of_getElem? (i := 207) (by decide +kernel)))
theorem lcv_X11_undo : CV mX11_undo 0 := ⟨(tb_4 (List.mem_of_getElem? (i := 210) (by decide +kernel))), (tb_4 (List.mem_of_getElem? (i := 208) (by decide +kernel))), (tb_4 (List.mem_of_getElem? (i := 209) (by decide +kernel))), (tb_1 (List.mem_of_getElem? (i := 1) (by decide +kernel))), by decide +kernel, by decide⟩
theorem lm_107 : Cond.methodLink R_law 107 yX12_undo ∈ lw_tbl := (tb_8 (List.mem_of_getElem? (i := 42) (by decide +kernel)))
theorem lcv_X12_undo : CV mX12_undo 0 := ⟨(tb_8 (List.mem_of_getElem? (i := 45) (by decide +kernel))), (tb_8 (List.mem_of_getElem? (i := 43) (by decide +kernel))), (tb_8 (List.mem_of_getElem? (i := 44) (by decide +kernel))), (tb_1 (List.mem_of_getElem? (i := 14) (by decide +kernel))), by decide +kernel, by decide⟩
theorem lm_108 : Cond.methodLink R_law 108 yX11_log ∈ lw_tbl := (tb_4 (List.mem_of_getElem? (i := 215) (by decide +kernel)))
theorem lcv_X11_log : CV mX11_log 2 := ⟨(tb_4 (List.mem_of_getElem? (i := 218) (by decide +kernel))), (tb_4 (List.mem_of_getElem? (i := 216) (by decide +kernel))), (tb_4 (List.mem_of_getElem? (i := 217) (by decide +kernel))), (tb_1 (List.mem_of_getElem? (i := 1) (by decide +kernel))), by decide +kernel, by decide⟩
theorem lm_111 : Cond.methodLink R_law 111 yX12_log ∈ lw_tbl := (tb_8 (List.mem_of_getElem? (i := 46) (by decide +kernel)))
theorem lcv_X12_log : CV mX12_log 2 := ⟨(tb_8 (List.mem_of_getElem? (i := 49) (by decide +kernel))), (tb_8 (List.mem_of_getElem? (i := 47) (by decide +kernel))), (tb_8 (List.mem_of_getElem? (i := 48) (by decide +kernel))), (tb_1 (List.mem_of_getElem? (i := 14) (by decide +kernel))), by decide +kernel, by decide⟩
theorem lm_112 : Cond.methodLink R_law 112 yX11_reading ∈ lw_tbl := (tb_4 (List.mem_of_getElem? (i := 63) (by decide +kernel)))
theorem lcv_X11_reading : CV mX11_reading 3 := ⟨(tb_4 (List.mem_of_getElem? (i := 66) (by decide +kernel))), (tb_4 (List.mem_of_getElem? (i := 64) (by decide +kernel))), (tb_4 (List.mem_of_getElem? (i := 65) (by decide +kernel))), (tb_1 (List.mem_of_getElem? (i := 1) (by decide +kernel))), by decide +kernel, by decide⟩
theorem lm_115 : Cond.methodLink R_law 115 yX12_reading ∈ lw_tbl := (tb_8 (List.mem_of_getElem? (i := 50) (by decide +kernel)))
theorem lcv_X12_reading : CV mX12_reading 3 := ⟨(tb_8 (List.mem_of_getElem? (i := 53) (by decide +kernel))), (tb_8 (List.mem_of_getElem? (i := 51) (by decide +kernel))), (tb_8 (List.mem_of_getElem? (i := 52) (by decide +kernel))), (tb_1 (List.mem_of_getElem? (i := 14) (by decide +kernel))), by decide +kernel, by decide⟩
theorem lm_116 : Cond.methodLink R_law 116 yX11_right ∈ lw_tbl := (tb_4 (List.mem_of_getElem? (i := 234) (by decide +kernel)))
theorem lcv_X11_right : CV mX11_right 0 := ⟨(tb_4 (List.mem_of_getElem? (i := 237) (by decide +kernel))), (tb_4 (List.mem_of_getElem? (i := 235) (by decide +kernel))), (tb_4 (List.mem_of_getElem? (i := 236) (by decide +kernel))), (tb_1 (List.mem_of_getElem? (i := 1) (by decide +kernel))), by decide +kernel, by decide⟩
theorem lm_119 : Cond.methodLink R_law 119 yX12_right ∈ lw_tbl := (tb_8 (List.mem_of_getElem? (i := 54) (by decide +kernel)))
theorem lcv_X12_right : CV mX12_right 0 := ⟨(tb_8 (List.mem_of_getElem? (i := 57) (by decide +kernel))), (tb_8 (List.mem_of_getElem? (i := 55) (by decide +kernel))), (tb_8 (List.mem_of_getElem? (i := 56) (by decide +kernel))), (tb_1 (List.mem_of_getElem? (i := 14) (by decide +kernel))), by decide +kernel, by decide⟩
theorem lm_120 : Cond.methodLink R_law 120 yX11_matched ∈ lw_tbl := (tb_4 (List.mem_of_getElem? (i := 238) (by decide +kernel)))
theorem lcv_X11_matched : CV mX11_matched 1 := ⟨(tb_5 (List.mem_of_getElem? (i := 1) (by decide +kernel))), (tb_4 (List.mem_of_getElem? (i := 239) (by decide +kernel))), (tb_5 (List.mem_of_getElem? (i := 0) (by decide +kernel))), (tb_1 (List.mem_of_getElem? (i := 1) (by decide +kernel))), by decide +kernel, by decide⟩
theorem lm_123 : Cond.methodLink R_law 123 yX12_matched ∈ lw_tbl := (tb_8 (List.mem_of_getElem? (i := 58) (by decide +kernel)))
theorem lcv_X12_matched : CV mX12_matched 1 := ⟨(tb_8 (List.mem_of_getElem? (i := 61) (by decide +kernel))), (tb_8 (List.mem_of_getElem? (i := 59) (by decide +kernel))), (tb_8 (List.mem_of_getElem? (i := 60) (by decide +kernel))), (tb_1 (List.mem_of_getElem? (i := 14) (by decide +kernel))), by decide +kernel, by decide⟩
theorem lm_124 : Cond.methodLink R_law 124 yX11_clash ∈ lw_tbl := (tb_5 (List.mem_of_getElem? (i := 46) (by decide +kernel)))
theorem lcv_X11_clash : CV mX11_clash 0 := ⟨(tb_5 (List.mem_of_getElem? (i := 49) (by decide +kernel))), (tb_5 (List.mem_of_getElem? (i := 47) (by decide +kernel))), (tb_5 (List.mem_of_getElem? (i := 48) (by decide +kernel))), (tb_1 (List.mem_of_getElem? (i := 1) (by decide +kernel))), by decide +kernel, by decide⟩
theorem lm_127 : Cond.methodLink R_law 127 yX12_clash ∈ lw_tbl := (tb_8 (List.mem_of_getElem? (i := 70) (by decide +kernel)))
theorem lcv_X12_clash : CV mX12_clash 0 := ⟨(tb_8 (List.mem_of_getElem? (i := 73) (by decide +kernel))), (tb_8 (List.mem_of_getElem? (i := 71) (by decide +kernel))), (tb_8 (List.mem_of_getElem? (i := 72) (by decide +kernel))), (tb_1 (List.mem_of_getElem? (i := 14) (by decide +kernel))), by decide +kernel, by decide⟩
theorem lm_128 : Cond.methodLink R_law 128 yX11_blank ∈ lw_tbl := (tb_5 (List.mem_of_getElem? (i := 64) (by decide +kernel)))
theorem lcv_X11_blank : CV mX11_blank 1 := ⟨(tb_5 (List.mem_of_getElem? (i := 67) (by decide +kernel))), (tb_5 (List.mem_of_getElem? (i := 65) (by decide +kernel))), (tb_5 (List.mem_of_getElem? (i := 66) (by decide +kernel))), (tb_1 (List.mem_of_getElem? (i := 1) (by decide +kernel))), by decide +kernel, by decide⟩
theorem lm_131 : Cond.methodLink R_law 131 yX12_blank ∈ lw_tbl := (tb_8 (List.mem_of_getElem? (i := 79) (by decide +kernel)))
theorem lcv_X12_blank : CV mX12_blank 1 := ⟨(tb_8 (List.mem_of_getElem? (i := 82) (by decide +kernel))), (tb_8 (List.mem_of_getElem? (i := 80) (by decide +kernel))), (tb_8 (List.mem_of_getElem? (i := 81) (by decide +kernel))), (tb_1 (List.mem_of_getElem? (i := 14) (by decide +kernel))), by decide +kernel, by decide⟩
theorem lm_132 : Cond.methodLink R_law 132 yX11_stood ∈ lw_tbl := (tb_5 (List.mem_of_getElem? (i := 72) (by decide +kernel)))
theorem lcv_X11_stood : CV mX11_stood 3 := ⟨(tb_5 (List.mem_of_getElem? (i := 75) (by decide +kernel))), (tb_5 (List.mem_of_getElem? (i := 73) (by decide +kernel))), (tb_5 (List.mem_of_getElem? (i := 74) (by decide +kernel))), (tb_1 (List.mem_of_getElem? (i := 1) (by decide +kernel))), by decide +kernel, by decide⟩
theorem lm_136 : Cond.methodLink R_law 136 yX12_stood ∈ lw_tbl := (tb_8 (List.mem_of_getElem? (i := 83) (by decide +kernel)))
theorem lcv_X12_stood : CV mX12_stood 3 := ⟨(tb_8 (List.mem_of_getElem? (i := 86) (by decide +kernel))), (tb_8 (List.mem_of_getElem? (i := 84) (by decide +kernel))), (tb_8 (List.mem_of_getElem? (i := 85) (by decide +kernel))), (tb_1 (List.mem_of_getElem? (i := 14) (by decide +kernel))), by decide +kernel, by decide⟩
theorem lm_137 : Cond.methodLink R_law 137 yX11_once ∈ lw_tbl := (tb_5 (List.mem_of_getElem? (i := 80) (by decide +kernel)))
theorem lcv_X11_once : CV mX11_once 2 := ⟨(tb_5 (List.mem_of_getElem? (i := 83) (by decide +kernel))), (tb_5 (List.mem_of_getElem? (i := 81) (by decide +kernel))), (tb_5 (List.mem_of_getElem? (i := 82) (by decide +kernel))), (tb_1 (List.mem_of_getElem? (i := 1) (by decide +kernel))), by decide +kernel, by decide⟩
theorem lm_140 : Cond.methodLink R_law 140 yX12_once ∈ lw_tbl := (tb_8 (List.mem_of_getElem? (i := 87) (by decide +kernel)))
theorem lcv_X12_once : CV mX12_once 2 := ⟨(tb_8 (List.mem_of_getElem? (i := 90) (by decide +kernel))), (tb_8 (List.mem_of_getElem? (i := 88) (by decide +kernel))), (tb_8 (List.mem_of_getElem? (i := 89) (by decide +kernel))), (tb_1 (List.mem_of_getElem? (i := 14) (by decide +kernel))), by decide +kernel, by decide⟩
theorem lm_141 : Cond.methodLink R_law 141 yX11_probe ∈ lw_tbl := (tb_5 (List.mem_of_getElem? (i := 112) (by decide +kernel)))
theorem lcv_X11_probe : CV mX11_probe 1 := ⟨(tb_5 (List.mem_of_getElem? (i := 115) (by decide +kernel))), (tb_5 (List.mem_of_getElem? (i := 113) (by decide +kernel))), (tb_5 (List.mem_of_getElem? (i := 114) (by decide +kernel))), (tb_1 (List.mem_of_getElem? (i := 1) (by decide +kernel))), by decide +kernel, by decide⟩
theorem lm_144 : Cond.methodLink R_law 144 yX12_probe ∈ lw_tbl := (tb_8 (List.mem_of_getElem? (i := 110) (by decide +kernel)))
theorem lcv_X12_probe : CV mX12_probe 1 := ⟨(tb_8 (List.mem_of_getElem? (i := 113) (by decide +kernel))), (tb_8 (List.mem_of_getElem? (i := 111) (by decide +kernel))), (tb_8 (List.mem_of_getElem? (i := 112) (by decide +kernel))), (tb_1 (List.mem_of_getElem? (i := 14) (by decide +kernel))), by decide +kernel, by decide⟩
theorem lm_145 : Cond.methodLink R_law 145 yX11_saves ∈ lw_tbl := (tb_5 (List.mem_of_getElem? (i := 123) (by decide +kernel)))
theorem lcv_X11_saves : CV mX11_saves 2 := ⟨(tb_5 (List.mem_of_getElem? (i := 126) (by decide +kernel))), (tb_5 (List.mem_of_getElem? (i := 124) (by decide +kernel))), (tb_5 (List.mem_of_getElem? (i := 125) (by decide +kernel))), (tb_1 (List.mem_of_getElem? (i := 1) (by decide +kernel))), by decide +kernel, by decide⟩
theorem lm_148 : Cond.methodLink R_law 148 yX12_saves ∈ lw_tbl := (tb_8 (List.mem_of_getElem? (i := 116) (by decide +kernel)))
theorem lcv_X12_saves : CV mX12_saves 2 := ⟨(tb_8 (List.mem_of_getElem? (i := 119) (by decide +kernel))), (tb_8 (List.mem_of_getElem? (i := 117) (by decide +kernel))), (tb_8 (List.mem_of_getElem? (i := 118) (by decide +kernel))), (tb_1 (List.mem_of_getElem? (i := 14) (by decide +kernel))), by decide +kernel, by decide⟩
theorem lm_149 : Cond.methodLink R_law 149 yX11_round ∈ lw_tbl := (tb_5 (List.mem_of_getElem? (i := 136) (by decide +kernel)))
theorem lcv_X11_round : CV mX11_round 0 := ⟨(tb_5 (List.mem_of_getElem? (i := 139) (by decide +kernel))), (tb_5 (List.mem_of_getElem? (i := 137) (by decide +kernel))), (tb_5 (List.mem_of_getElem? (i := 138) (by decide +kernel))), (tb_1 (List.mem_of_getElem? (i := 1) (by decide +kernel))), by decide +kernel, by decide⟩
theorem lm_152 : Cond.methodLink R_law 152 yX12_round ∈ lw_tbl := (tb_8 (List.mem_of_getElem? (i := 120) (by decide +kernel)))
theorem lcv_X12_round : CV mX12_round 0 := ⟨(tb_8 (List.mem_of_getElem? (i := 123) (by decide +kernel))), (tb_8 (List.mem_of_getElem? (i := 121) (by decide +kernel))), (tb_8 (List.mem_of_getElem? (i := 122) (by decide +kernel))), (tb_1 (List.mem_of_getElem? (i := 14) (by decide +kernel))), by decide +kernel, by decide⟩
theorem lm_153 : Cond.methodLink R_law 153 yX11_nowhere ∈ lw_tbl := (tb_5 (List.mem_of_getElem? (i := 145) (by decide +kernel)))
theorem lcv_X11_nowhere : CV mX11_nowhere 0 := ⟨(tb_5 (List.mem_of_getElem? (i := 148) (by decide +kernel))), (tb_5 (List.mem_of_getElem? (i := 146) (by decide +kernel))), (tb_5 (List.mem_of_getElem? (i := 147) (by decide +kernel))), (tb_1 (List.mem_of_getElem? (i := 1) (by decide +kernel))), by decide +kernel, by decide⟩
theorem lm_156 : Cond.methodLink R_law 156 yX12_nowhere ∈ lw_tbl := (tb_8 (List.mem_of_getElem? (i := 128) (by decide +kernel)))
theorem lcv_X12_nowhere : CV mX12_nowhere 0 := ⟨(tb_8 (List.mem_of_getElem? (i := 131) (by decide +kernel))), (tb_8 (List.mem_of_getElem? (i := 129) (by decide +kernel))), (tb_8 (List.mem_of_getElem? (i := 130) (by decide +kernel))), (tb_1 (List.mem_of_getElem? (i := 14) (by decide +kernel))), by decide +kernel, by decide⟩
theorem lm_157 : Cond.methodLink R_law 157 yX11_forged ∈ lw_tbl := (tb_5 (List.mem_of_getElem? (i := 150) (by decide +kernel)))
theorem lcv_X11_forged : CV mX11_forged 0 := ⟨(tb_5 (List.mem_of_getElem? (i := 153) (by decide +kernel))), (tb_5 (List.mem_of_getElem? (i := 151) (by decide +kernel))), (tb_5 (List.mem_of_getElem? (i := 152) (by decide +kernel))), (tb_1 (List.mem_of_getElem? (i := 1) (by decide +kernel))), by decide +kernel, by decide⟩
theorem lm_160 : Cond.methodLink R_law 160 yX12_forged ∈ lw_tbl := (tb_8 (List.mem_of_getElem? (i := 132) (by decide +kernel)))
theorem lcv_X12_forged : CV mX12_forged 0 := ⟨(tb_8 (List.mem_of_getElem? (i := 135) (by decide +kernel))), (tb_8 (List.mem_of_getElem? (i := 133) (by decide +kernel))), (tb_8 (List.mem_of_getElem? (i := 134) (by decide +kernel))), (tb_1 (List.mem_of_getElem? (i := 14) (by decide +kernel))), by decide +kernel, by decide⟩
theorem lm_161 : Cond.methodLink R_law 161 yX11_alone ∈ lw_tbl := (tb_5 (List.mem_of_getElem? (i := 154) (by decide +kernel)))
theorem lcv_X11_alone : CV mX11_alone 1 := ⟨(tb_5 (List.mem_of_getElem? (i := 157) (by decide +kernel))), (tb_5 (List.mem_of_getElem? (i := 155) (by decide +kernel))), (tb_5 (List.mem_of_getElem? (i := 156) (by decide +kernel))), (tb_1 (List.mem_of_getElem? (i := 1) (by decide +kernel))), by decide +kernel, by decide⟩
theorem lm_164 : Cond.methodLink R_law 164 yX12_alone ∈ lw_tbl := (tb_8 (List.mem_of_getElem? (i := 136) (by decide +kernel)))
theorem lcv_X12_alone : CV mX12_alone 1 := ⟨(tb_8 (List.mem_of_getElem? (i := 139) (by decide +kernel))), (tb_8 (List.mem_of_getElem? (i := 137) (by decide +kernel))), (tb_8 (List.mem_of_getElem? (i := 138) (by decide +kernel))), (tb_1 (List.mem_of_getElem? (i := 14) (by decide +kernel))), by decide +kernel, by decide⟩
theorem lm_165 : Cond.methodLink R_law 165 yX11_suits ∈ lw_tbl := (tb_5 (List.mem_of_getElem? (i := 163) (by decide +kernel)))
theorem lcv_X11_suits : CV mX11_suits 1 := ⟨(tb_5 (List.mem_of_getElem? (i := 166) (by decide +kernel))), (tb_5 (List.mem_of_getElem? (i := 164) (by decide +kernel))), (tb_5 (List.mem_of_getElem? (i := 165) (by decide +kernel))), (tb_1 (List.mem_of_getElem? (i := 1) (by decide +kernel))), by decide +kernel, by decide⟩
theorem lm_168 : Cond.methodLink R_law 168 yX12_suits ∈ lw_tbl := (tb_8 (List.mem_of_getElem? (i := 140) (by decide +kernel)))
theorem lcv_X12_suits : CV mX12_suits 1 := ⟨(tb_8 (List.mem_of_getElem? (i := 143) (by decide +kernel))), (tb_8 (List.mem_of_getElem? (i := 141) (by decide +kernel))), (tb_8 (List.mem_of_getElem? (i := 142) (by decide +kernel))), (tb_1 (List.mem_of_getElem? (i := 14) (by decide +kernel))), by decide +kernel, by decide⟩
theorem lm_169 : Cond.methodLink R_law 169 yX11_wanted ∈ lw_tbl := (tb_5 (List.mem_of_getElem? (i := 171) (by decide +kernel)))
theorem lcv_X11_wanted : CV mX11_wanted 1 := ⟨(tb_5 (List.mem_of_getElem? (i := 174) (by decide +kernel))), (tb_5 (List.mem_of_getElem? (i := 172) (by decide +kernel))), (tb_5 (List.mem_of_getElem? (i := 173) (by decide +kernel))), (tb_1 (List.mem_of_getElem? (i := 1) (by decide +kernel))), by decide +kernel, by decide⟩
theorem lm_172 : Cond.methodLink R_law 172 yX12_wanted ∈ lw_tbl := (tb_8 (List.mem_of_getElem? (i := 148) (by decide +kernel)))
theorem lcv_X12_wanted : CV mX12_wanted 1 := ⟨(tb_8 (List.mem_of_getElem? (i := 151) (by decide +kernel))), (tb_8 (List.mem_of_getElem? (i := 149) (by decide +kernel))), (tb_8 (List.mem_of_getElem? (i := 150) (by decide +kernel))), (tb_1 (List.mem_of_getElem? (i := 14) (by decide +kernel))), by decide +kernel, by decide⟩
theorem lm_173 : Cond.methodLink R_law 173 yX11_perhaps ∈ lw_tbl := (tb_5 (List.mem_of_getElem? (i := 175) (by decide +kernel)))
theorem lcv_X11_perhaps : CV mX11_perhaps 0 := ⟨(tb_5 (List.mem_of_getElem? (i := 178) (by decide +kernel))), (tb_5 (List.mem_of_getElem? (i := 176) (by decide +kernel))), (tb_5 (List.mem_of_getElem? (i := 177) (by decide +kernel))), (tb_1 (List.mem_of_getElem? (i := 1) (by decide +kernel))), by decide +kernel, by decide⟩
theorem lm_176 : Cond.methodLink R_law 176 yX12_perhaps ∈ lw_tbl := (tb_8 (List.mem_of_getElem? (i := 152) (by decide +kernel)))
theorem lcv_X12_perhaps : CV mX12_perhaps 0 := ⟨(tb_8 (List.mem_of_getElem? (i := 155) (by decide +kernel))), (tb_8 (List.mem_of_getElem? (i := 153) (by decide +kernel))), (tb_8 (List.mem_of_getElem? (i := 154) (by decide +kernel))), (tb_1 (List.mem_of_getElem? (i := 14) (by decide +kernel))), by decide +kernel, by decide⟩
theorem lm_177 : Cond.methodLink R_law 177 yX11_shared ∈ lw_tbl := (tb_5 (List.mem_of_getElem? (i := 179) (by decide +kernel)))
theorem lcv_X11_shared : CV mX11_shared 2 := ⟨(tb_5 (List.mem_of_getElem? (i := 182) (by decide +kernel))), (tb_5 (List.mem_of_getElem? (i := 180) (by decide +kernel))), (tb_5 (List.mem_of_getElem? (i := 181) (by decide +kernel))), (tb_1 (List.mem_of_getElem? (i := 1) (by decide +kernel))), by decide +kernel, by decide⟩
theorem lm_180 : Cond.methodLink R_law 180 yX12_shared ∈ lw_tbl := (tb_8 (List.mem_of_getElem? (i := 156) (by decide +kernel)))
theorem lcv_X12_shared : CV mX12_shared 2 := ⟨(tb_8 (List.mem_of_getElem? (i := 159) (by decide +kernel))), (tb_8 (List.mem_of_getElem? (i := 157) (by decide +kernel))), (tb_8 (List.mem_of_getElem? (i := 158) (by decide +kernel))), (tb_1 (List.mem_of_getElem? (i := 14) (by decide +kernel))), by decide +kernel, by decide⟩
theorem lm_181 : Cond.methodLink R_law 181 yX11_twins ∈ lw_tbl := (tb_5 (List.mem_of_getElem? (i := 183) (by decide +kernel)))
theorem lcv_X11_twins : CV mX11_twins 1 := ⟨(tb_5 (List.mem_of_getElem? (i := 186) (by decide +kernel))), (tb_5 (List.mem_of_getElem? (i := 184) (by decide +kernel))), (tb_5 (List.mem_of_getElem? (i := 185) (by decide +kernel))), (tb_1 (List.mem_of_getElem? (i := 1) (by decide +kernel))), by decide +kernel, by decide⟩
theorem lm_184 : Cond.methodLink R_law 184 yX12_twins ∈ lw_tbl := (tb_8 (List.mem_of_getElem? (i := 160) (by decide +kernel)))
theorem lcv_X12_twins : CV mX12_twins 1 := ⟨(tb_8 (List.mem_of_getElem? (i := 163) (by decide +kernel))), (tb_8 (List.mem_of_getElem? (i := 161) (by decide +kernel))), (tb_8 (List.mem_of_getElem? (i := 162) (by decide +kernel))), (tb_1 (List.mem_of_getElem? (i := 14) (by decide +kernel))), by decide +kernel, by decide⟩
theorem lm_185 : Cond.methodLink R_law 185 yX11_odds ∈ lw_tbl := (tb_5 (List.mem_of_getElem? (i := 187) (by decide +kernel)))
theorem lcv_X11_odds : CV mX11_odds 3 := ⟨(tb_5 (List.mem_of_getElem? (i := 190) (by decide +kernel))), (tb_5 (List.mem_of_getElem? (i := 188) (by decide +kernel))), (tb_5 (List.mem_of_getElem? (i := 189) (by decide +kernel))), (tb_1 (List.mem_of_getElem? (i := 1) (by decide +kernel))), by decide +kernel, by decide⟩
theorem lm_188 : Cond.methodLink R_law 188 yX12_odds ∈ lw_tbl := (tb_8 (List.mem_of_getElem? (i := 164) (by decide +kernel)))
theorem lcv_X12_odds : CV mX12_odds 3 := ⟨(tb_8 (List.mem_of_getElem? (i := 167) (by decide +kernel))), (tb_8 (List.mem_of_getElem? (i := 165) (by decide +kernel))), (tb_8 (List.mem_of_getElem? (i := 166) (by decide +kernel))), (tb_1 (List.mem_of_getElem? (i := 14) (by decide +kernel))), by decide +kernel, by decide⟩
theorem lm_189 : Cond.methodLink R_law 189 yX11_rescue ∈ lw_tbl := (tb_5 (List.mem_of_getElem? (i := 205) (by decide +kernel)))
theorem lcv_X11_rescue : CV mX11_rescue 2 := ⟨(tb_5 (List.mem_of_getElem? (i := 208) (by decide +kernel))), (tb_5 (List.mem_of_getElem? (i := 206) (by decide +kernel))), (tb_5 (List.mem_of_getElem? (i := 207) (by decide +kernel))), (tb_1 (List.mem_of_getElem? (i := 1) (by decide +kernel))), by decide +kernel, by decide⟩
theorem lm_192 : Cond.methodLink R_law 192 yX12_rescue ∈ lw_tbl := (tb_8 (List.mem_of_getElem? (i := 175) (by decide +kernel)))
theorem lcv_X12_rescue : CV mX12_rescue 2 := ⟨(tb_8 (List.mem_of_getElem? (i := 178) (by decide +kernel))), (tb_8 (List.mem_of_getElem? (i := 176) (by decide +kernel))), (tb_8 (List.mem_of_getElem? (i := 177) (by decide +kernel))), (tb_1 (List.mem_of_getElem? (i := 14) (by decide +kernel))), by decide +kernel, by decide⟩
theorem lm_193 : Cond.methodLink R_law 193 yX11_image ∈ lw_tbl := (tb_4 (List.mem_of_getElem? (i := 224) (by decide +kernel)))
theorem lcv_X11_image : CV mX11_image 0 := ⟨(tb_4 (List.mem_of_getElem? (i := 227) (by decide +kernel))), (tb_4 (List.mem_of_getElem? (i := 225) (by decide +kernel))), (tb_4 (List.mem_of_getElem? (i := 226) (by decide +kernel))), (tb_1 (List.mem_of_getElem? (i := 1) (by decide +kernel))), by decide +kernel, by decide⟩
theorem lm_196 : Cond.methodLink R_law 196 yX12_image ∈ lw_tbl := (tb_8 (List.mem_of_getElem? (i := 179) (by decide +kernel)))
theorem lcv_X12_image : CV mX12_image 0 := ⟨(tb_8 (List.mem_of_getElem? (i := 182) (by decide +kernel))), (tb_8 (List.mem_of_getElem? (i := 180) (by decide +kernel))), (tb_8 (List.mem_of_getElem? (i := 181) (by decide +kernel))), (tb_1 (List.mem_of_getElem? (i := 14) (by decide +kernel))), by decide +kernel, by decide⟩
theorem lm_197 : Cond.methodLink R_law 197 yX11_back ∈ lw_tbl := (tb_4 (List.mem_of_getElem? (i := 230) (by decide +kernel)))
theorem lcv_X11_back : CV mX11_back 0 := ⟨(tb_4 (List.mem_of_getElem? (i := 233) (by decide +kernel))), (tb_4 (List.mem_of_getElem? (i := 231) (by decide +kernel))), (tb_4 (List.mem_of_getElem? (i := 232) (by decide +kernel))), (tb_1 (List.mem_of_getElem? (i := 1) (by decide +kernel))), by decide +kernel, by decide⟩
theorem lm_200 : Cond.methodLink R_law 200 yX12_back ∈ lw_tbl := (tb_8 (List.mem_of_getElem? (i := 183) (by decide +kernel)))
theorem lcv_X12_back : CV mX12_back 0 := ⟨(tb_8 (List.mem_of_getElem? (i := 186) (by decide +kernel))), (tb_8 (List.mem_of_getElem? (i := 184) (by decide +kernel))), (tb_8 (List.mem_of_getElem? (i := 185) (by decide +kernel))), (tb_1 (List.mem_of_getElem? (i := 14) (by decide +kernel))), by decide +kernel, by decide⟩
theorem lm_201 : Cond.methodLink R_law 201 yX11_count ∈ lw_tbl := (tb_4 (List.mem_of_getElem? (i := 67) (by decide +kernel)))
theorem lcv_X11_count : CV mX11_count 1 := ⟨(tb_4 (List.mem_of_getElem? (i := 70) (by decide +kernel))), (tb_4 (List.mem_of_getElem? (i := 68) (by decide +kernel))), (tb_4 (List.mem_of_getElem? (i := 69) (by decide +kernel))), (tb_1 (List.mem_of_getElem? (i := 1) (by decide +kernel))), by decide +kernel, by decide⟩
theorem lm_204 : Cond.methodLink R_law 204 yX12_count ∈ lw_tbl := (tb_8 (List.mem_of_getElem? (i := 187) (by decide +kernel)))
theorem lcv_X12_count : CV mX12_count 1 := ⟨(tb_8 (List.mem_of_getElem? (i := 190) (by decide +kernel))), (tb_8 (List.mem_of_getElem? (i := 188) (by decide +kernel))), (tb_8 (List.mem_of_getElem? (i := 189) (by decide +kernel))), (tb_1 (List.mem_of_getElem? (i := 14) (by decide +kernel))), by decide +kernel, by decide⟩
set_option maxRecDepth 100000 in
set_option maxHeartbeats 4000000 in
theorem lc_feed {p : Program} {l : Launch} {e : Env} {s : State} {m : MethodId} {below : List Frame} {meth : Method} {c : Code} {b L : Nat} {xs : Nat → Int32} {ad : Nat → Nat} {tc : Nat → ClassId} {D : va_G} {i cells slots : Nat} {μ : MM} {Inv Inv2 : MM → Prop} (hst : ∀ (x1 : Int32) (x2 : Int32) (x3 : Int32) (x4 : Int32) (x5 : Int32) (μ : MM), Inv μ → ∃ (r : Int32) (μ1 μ2 : MM), f_Ro_feed NN x1 x2 x3 x4 x5 μ = some (r, μ1) ∧ f_Mo_feed NN x1 x2 x3 x4 x5 μ1 = some (r, μ2) ∧ Inv2 μ2) (hLx : Lx p s m meth c b L xs ad tc D) (hc9 : cells ≤ 601024 ∧ slots ≤ 7293034) (hi : i + 6 ≤ L) (hI : Inv μ) (hk : ∀ μ2, Inv2 μ2 → Lh p l e s m below meth c b ad tc D i cells slots 1550 [] μ2) : Lh p l e s m below meth c b ad tc D i cells slots 228 [] μ := by
  refine lh_al1 hLx dL_law_228 ?_
  refine lh_al0 hLx dL_law_229 ?_
  refine lh_il hLx dL_law_230 ?_
  refine lh_ic (v := nI 1) hLx dL_law_232 (by decide) ?_
  refine lh_iadd hLx dL_law_233 ?_
  refine lh_sld hLx dL_law_234 (li_in hi hLx.2.2.2 (by decide)) (li_at hi hLx.2.2.2 (by decide)) ?_
  refine lh_al0 hLx dL_law_235 ?_
  refine lh_il hLx dL_law_236 ?_
  refine lh_ic (v := nI 2) hLx dL_law_238 (by decide) ?_
  refine lh_iadd hLx dL_law_239 ?_
  refine lh_sld hLx dL_law_240 (li_in hi hLx.2.2.2 (by decide)) (li_at hi hLx.2.2.2 (by decide)) ?_
  refine lh_al0 hLx dL_law_241 ?_
  refine lh_il hLx dL_law_242 ?_
  refine lh_ic (v := nI 3) hLx dL_law_244 (by decide) ?_
  refine lh_iadd hLx dL_law_245 ?_
  refine lh_sld hLx dL_law_246 (li_in hi hLx.2.2.2 (by decide)) (li_at hi hLx.2.2.2 (by decide)) ?_
  refine lh_al0 hLx dL_law_247 ?_
  refine lh_il hLx dL_law_248 ?_
  refine lh_ic (v := nI 4) hLx dL_law_250 (by decide) ?_
  refine lh_iadd hLx dL_law_251 ?_
  refine lh_sld hLx dL_law_252 (li_in hi hLx.2.2.2 (by decide)) (li_at hi hLx.2.2.2 (by decide)) ?_
  refine lh_al0 hLx dL_law_253 ?_
  refine lh_il hLx dL_law_254 ?_
  refine lh_ic (v := nI 5) hLx dL_law_256 (by decide) ?_
  refine lh_iadd hLx dL_law_257 ?_
  refine lh_sld hLx dL_law_258 (li_in hi hLx.2.2.2 (by decide)) (li_at hi hLx.2.2.2 (by decide)) ?_
  obtain ⟨r, μ1, μ2, h1, h2, hI2⟩ := hst (xs (i + 1)) (xs (i + 2)) (xs (i + 3)) (xs (i + 4)) (xs (i + 5)) μ hI
  refine lh_call (as := [av_i (xs (i + 1)), av_i (xs (i + 2)), av_i (xs (i + 3)), av_i (xs (i + 4)), av_i (xs (i + 5))]) hLx hc9 dL_law_259 lcv_X11_feed lm_19 k_0 rfl rfl (by decide) rfl (Nat.le_of_ble_eq_true rfl) rfl (s_Ro_feed (D := 200) (by decide) NN h1) (fun r9 μ9 hp => ?_)
  rw [hp.1, hp.2]
  clear hp r9 μ9
  refine lh_al2 hLx dL_law_262 ?_
  refine lh_al0 hLx dL_law_263 ?_
  refine lh_il hLx dL_law_264 ?_
  refine lh_ic (v := nI 1) hLx dL_law_266 (by decide) ?_
  refine lh_iadd hLx dL_law_267 ?_
  refine lh_sld hLx dL_law_268 (li_in hi hLx.2.2.2 (by decide)) (li_at hi hLx.2.2.2 (by decide)) ?_
  refine lh_al0 hLx dL_law_269 ?_
  refine lh_il hLx dL_law_270 ?_
  refine lh_ic (v := nI 2) hLx dL_law_272 (by decide) ?_
  refine lh_iadd hLx dL_law_273 ?_
  refine lh_sld hLx dL_law_274 (li_in hi hLx.2.2.2 (by decide)) (li_at hi hLx.2.2.2 (by decide)) ?_
  refine lh_al0 hLx dL_law_275 ?_
  refine lh_il hLx dL_law_276 ?_
  refine lh_ic (v := nI 3) hLx dL_law_278 (by decide) ?_
  refine lh_iadd hLx dL_law_279 ?_
  refine lh_sld hLx dL_law_280 (li_in hi hLx.2.2.2 (by decide)) (li_at hi hLx.2.2.2 (by decide)) ?_
  refine lh_al0 hLx dL_law_281 ?_
  refine lh_il hLx dL_law_282 ?_
  refine lh_ic (v := nI 4) hLx dL_law_284 (by decide) ?_
  refine lh_iadd hLx dL_law_285 ?_
  refine lh_sld hLx dL_law_286 (li_in hi hLx.2.2.2 (by decide)) (li_at hi hLx.2.2.2 (by decide)) ?_
  refine lh_al0 hLx dL_law_287 ?_
  refine lh_il hLx dL_law_288 ?_
  refine lh_ic (v := nI 5) hLx dL_law_290 (by decide) ?_
  refine lh_iadd hLx dL_law_291 ?_
  refine lh_sld hLx dL_law_292 (li_in hi hLx.2.2.2 (by decide)) (li_at hi hLx.2.2.2 (by decide)) ?_
  refine lh_call (as := [av_i (xs (i + 1)), av_i (xs (i + 2)), av_i (xs (i + 3)), av_i (xs (i + 4)), av_i (xs (i + 5))]) hLx hc9 dL_law_293 lcv_X12_feed lm_23 k_355 rfl rfl (by decide) rfl (Nat.le_of_ble_eq_true rfl) rfl (s_Mo_feed (D := 200) (by decide) NN h2) (fun r9 μ9 hp => ?_)
  rw [hp.1, hp.2]
  clear hp r9 μ9
  refine lh_icmp_eq (tgt := 1550) hLx dL_law_296 (by decide) (fun _ => ?_) (fun q => absurd rfl q)
  exact hk _ hI2
set_option maxRecDepth 100000 in
set_option maxHeartbeats 4000000 in
theorem lc_end {p : Program} {l : Launch} {e : Env} {s : State} {m : MethodId} {below : List Frame} {meth : Method} {c : Code} {b L : Nat} {xs : Nat → Int32} {ad : Nat → Nat} {tc : Nat → ClassId} {D : va_G} {i cells slots : Nat} {μ : MM} {Inv Inv2 : MM → Prop} (hst : ∀ (x1 : Int32) (μ : MM), Inv μ → ∃ (r : Int32) (μ1 μ2 : MM), f_Ro_end NN x1 μ = some (r, μ1) ∧ f_Mo_end NN x1 μ1 = some (r, μ2) ∧ Inv2 μ2) (hLx : Lx p s m meth c b L xs ad tc D) (hc9 : cells ≤ 601024 ∧ slots ≤ 7293034) (hi : i + 6 ≤ L) (hI : Inv μ) (hk : ∀ μ2, Inv2 μ2 → Lh p l e s m below meth c b ad tc D i cells slots 1550 [] μ2) : Lh p l e s m below meth c b ad tc D i cells slots 301 [] μ := by
  refine lh_al1 hLx dL_law_301 ?_
  refine lh_al0 hLx dL_law_302 ?_
  refine lh_il hLx dL_law_303 ?_
  refine lh_ic (v := nI 1) hLx dL_law_305 (by decide) ?_
  refine lh_iadd hLx dL_law_306 ?_
  refine lh_sld hLx dL_law_307 (li_in hi hLx.2.2.2 (by decide)) (li_at hi hLx.2.2.2 (by decide)) ?_
  obtain ⟨r, μ1, μ2, h1, h2, hI2⟩ := hst (xs (i + 1)) μ hI
  refine lh_call (as := [av_i (xs (i + 1))]) hLx hc9 dL_law_308 lcv_X11_end lm_24 k_0 rfl rfl (by decide) rfl (Nat.le_of_ble_eq_true rfl) rfl (s_Ro_end (D := 200) (by decide) NN h1) (fun r9 μ9 hp => ?_)
  rw [hp.1, hp.2]
  clear hp r9 μ9
  refine lh_al2 hLx dL_law_311 ?_
  refine lh_al0 hLx dL_law_312 ?_
  refine lh_il hLx dL_law_313 ?_
  refine lh_ic (v := nI 1) hLx dL_law_315 (by decide) ?_
  refine lh_iadd hLx dL_law_316 ?_
  refine lh_sld hLx dL_law_317 (li_in hi hLx.2.2.2 (by decide)) (li_at hi hLx.2.2.2 (by decide)) ?_
  refine lh_call (as := [av_i (xs (i + 1))]) hLx hc9 dL_law_318 lcv_X12_end lm_28 k_355 rfl rfl (by decide) rfl (Nat.le_of_ble_eq_true rfl) rfl (s_Mo_end (D := 200) (by decide) NN h2) (fun r9 μ9 hp => ?_)
  rw [hp.1, hp.2]
  clear hp r9 μ9
  refine lh_icmp_eq (tgt := 1550) hLx dL_law_321 (by decide) (fun _ => ?_) (fun q => absurd rfl q)
  exact hk _ hI2
set_option maxRecDepth 100000 in
set_option maxHeartbeats 4000000 in
theorem lc_fault {p : Program} {l : Launch} {e : Env} {s : State} {m : MethodId} {below : List Frame} {meth : Method} {c : Code} {b L : Nat} {xs : Nat → Int32} {ad : Nat → Nat} {tc : Nat → ClassId} {D : va_G} {i cells slots : Nat} {μ : MM} {Inv Inv2 : MM → Prop} (hst : ∀ (x1 : Int32) (μ : MM), Inv μ → ∃ (r : Int32) (μ1 μ2 : MM), f_Ro_fault NN x1 μ = some (r, μ1) ∧ f_Mo_fault NN x1 μ1 = some (r, μ2) ∧ Inv2 μ2) (hLx : Lx p s m meth c b L xs ad tc D) (hc9 : cells ≤ 601024 ∧ slots ≤ 7293034) (hi : i + 6 ≤ L) (hI : Inv μ) (hk : ∀ μ2, Inv2 μ2 → Lh p l e s m below meth c b ad tc D i cells slots 1550 [] μ2) : Lh p l e s m below meth c b ad tc D i cells slots 326 [] μ := by
  refine lh_al1 hLx dL_law_326 ?_
  refine lh_al0 hLx dL_law_327 ?_
  refine lh_il hLx dL_law_328 ?_
  refine lh_ic (v := nI 1) hLx dL_law_330 (by decide) ?_
  refine lh_iadd hLx dL_law_331 ?_
  refine lh_sld hLx dL_law_332 (li_in hi hLx.2.2.2 (by decide)) (li_at hi hLx.2.2.2 (by decide)) ?_
  obtain ⟨r, μ1, μ2, h1, h2, hI2⟩ := hst (xs (i + 1)) μ hI
  refine lh_call (as := [av_i (xs (i + 1))]) hLx hc9 dL_law_333 lcv_X11_fault lm_29 k_0 rfl rfl (by decide) rfl (Nat.le_of_ble_eq_true rfl) rfl (s_Ro_fault (D := 200) (by decide) NN h1) (fun r9 μ9 hp => ?_)
  rw [hp.1, hp.2]
  clear hp r9 μ9
  refine lh_al2 hLx dL_law_336 ?_
  refine lh_al0 hLx dL_law_337 ?_
  refine lh_il hLx dL_law_338 ?_
  refine lh_ic (v := nI 1) hLx dL_law_340 (by decide) ?_
  refine lh_iadd hLx dL_law_341 ?_
  refine lh_sld hLx dL_law_342 (li_in hi hLx.2.2.2 (by decide)) (li_at hi hLx.2.2.2 (by decide)) ?_
  refine lh_call (as := [av_i (xs (i + 1))]) hLx hc9 dL_law_343 lcv_X12_fault lm_33 k_355 rfl rfl (by decide) rfl (Nat.le_of_ble_eq_true rfl) rfl (s_Mo_fault (D := 200) (by decide) NN h2) (fun r9 μ9 hp => ?_)
  rw [hp.1, hp.2]
  clear hp r9 μ9
  refine lh_icmp_eq (tgt := 1550) hLx dL_law_346 (by decide) (fun _ => ?_) (fun q => absurd rfl q)
  exact hk _ hI2
set_option maxRecDepth 100000 in
set_option maxHeartbeats 4000000 in
theorem lc_text {p : Program} {l : Launch} {e : Env} {s : State} {m : MethodId} {below : List Frame} {meth : Method} {c : Code} {b L : Nat} {xs : Nat → Int32} {ad : Nat → Nat} {tc : Nat → ClassId} {D : va_G} {i cells slots : Nat} {μ : MM} {Inv Inv2 : MM → Prop} (hst : ∀ (x1 : Int32) (μ : MM), Inv μ → ∃ (r : Int32) (μ1 μ2 : MM), f_Ro_text NN x1 μ = some (r, μ1) ∧ f_Mo_text NN x1 μ1 = some (r, μ2) ∧ Inv2 μ2) (hLx : Lx p s m meth c b L xs ad tc D) (hc9 : cells ≤ 601024 ∧ slots ≤ 7293034) (hi : i + 6 ≤ L) (hI : Inv μ) (hk : ∀ μ2, Inv2 μ2 → Lh p l e s m below meth c b ad tc D i cells slots 1550 [] μ2) : Lh p l e s m below meth c b ad tc D i cells slots 351 [] μ := by
  refine lh_al1 hLx dL_law_351 ?_
  refine lh_al0 hLx dL_law_352 ?_
  refine lh_il hLx dL_law_353 ?_
  refine lh_ic (v := nI 1) hLx dL_law_355 (by decide) ?_
  refine lh_iadd hLx dL_law_356 ?_
  refine lh_sld hLx dL_law_357 (li_in hi hLx.2.2.2 (by decide)) (li_at hi hLx.2.2.2 (by decide)) ?_
  obtain ⟨r, μ1, μ2, h1, h2, hI2⟩ := hst (xs (i + 1)) μ hI
  refine lh_call (as := [av_i (xs (i + 1))]) hLx hc9 dL_law_358 lcv_X11_text lm_34 k_0 rfl rfl (by decide) rfl (Nat.le_of_ble_eq_true rfl) rfl (s_Ro_text (D := 200) (by decide) NN h1) (fun r9 μ9 hp => ?_)
  rw [hp.1, hp.2]
  clear hp r9 μ9
  refine lh_al2 hLx dL_law_361 ?_
  refine lh_al0 hLx dL_law_362 ?_
  refine lh_il hLx dL_law_363 ?_
  refine lh_ic (v := nI 1) hLx dL_law_365 (by decide) ?_
  refine lh_iadd hLx dL_law_366 ?_
  refine lh_sld hLx dL_law_367 (li_in hi hLx.2.2.2 (by decide)) (li_at hi hLx.2.2.2 (by decide)) ?_
  refine lh_call (as := [av_i (xs (i + 1))]) hLx hc9 dL_law_368 lcv_X12_text lm_37 k_355 rfl rfl (by decide) rfl (Nat.le_of_ble_eq_true rfl) rfl (s_Mo_text (D := 200) (by decide) NN h2) (fun r9 μ9 hp => ?_)
  rw [hp.1, hp.2]
  clear hp r9 μ9
  refine lh_icmp_eq (tgt := 1550) hLx dL_law_371 (by decide) (fun _ => ?_) (fun q => absurd rfl q)
  exact hk _ hI2
set_option maxRecDepth 100000 in
set_option maxHeartbeats 4000000 in
theorem lc_card {p : Program} {l : Launch} {e : Env} {s : State} {m : MethodId} {below : List Frame} {meth : Method} {c : Code} {b L : Nat} {xs : Nat → Int32} {ad : Nat → Nat} {tc : Nat → ClassId} {D : va_G} {i cells slots : Nat} {μ : MM} {Inv Inv2 : MM → Prop} (hst : ∀ (x1 : Int32) (x2 : Int32) (μ : MM), Inv μ → ∃ (r : Int32) (μ1 μ2 : MM), f_Ro_card NN x1 x2 μ = some (r, μ1) ∧ f_Mo_card NN x1 x2 μ1 = some (r, μ2) ∧ Inv2 μ2) (hLx : Lx p s m meth c b L xs ad tc D) (hc9 : cells ≤ 601024 ∧ slots ≤ 7293034) (hi : i + 6 ≤ L) (hI : Inv μ) (hk : ∀ μ2, Inv2 μ2 → Lh p l e s m below meth c b ad tc D i cells slots 1550 [] μ2) : Lh p l e s m below meth c b ad tc D i cells slots 444 [] μ := by
  refine lh_al1 hLx dL_law_444 ?_
  refine lh_al0 hLx dL_law_445 ?_
  refine lh_il hLx dL_law_446 ?_
  refine lh_ic (v := nI 1) hLx dL_law_448 (by decide) ?_
  refine lh_iadd hLx dL_law_449 ?_
  refine lh_sld hLx dL_law_450 (li_in hi hLx.2.2.2 (by decide)) (li_at hi hLx.2.2.2 (by decide)) ?_
  refine lh_al0 hLx dL_law_451 ?_
  refine lh_il hLx dL_law_452 ?_
  refine lh_ic (v := nI 2) hLx dL_law_454 (by decide) ?_
  refine lh_iadd hLx dL_law_455 ?_
  refine lh_sld hLx dL_law_456 (li_in hi hLx.2.2.2 (by decide)) (li_at hi hLx.2.2.2 (by decide)) ?_
  obtain ⟨r, μ1, μ2, h1, h2, hI2⟩ := hst (xs (i + 1)) (xs (i + 2)) μ hI
  refine lh_call (as := [av_i (xs (i + 1)), av_i (xs (i + 2))]) hLx hc9 dL_law_457 lcv_X11_card lm_48 k_0 rfl rfl (by decide) rfl (Nat.le_of_ble_eq_true rfl) rfl (s_Ro_card (D := 200) (by decide) NN h1) (fun r9 μ9 hp => ?_)
  rw [hp.1, hp.2]
  clear hp r9 μ9
  refine lh_al2 hLx dL_law_460 ?_
  refine lh_al0 hLx dL_law_461 ?_
  refine lh_il hLx dL_law_462 ?_
  refine lh_ic (v := nI 1) hLx dL_law_464 (by decide) ?_
  refine lh_iadd hLx dL_law_465 ?_
  refine lh_sld hLx dL_law_466 (li_in hi hLx.2.2.2 (by decide)) (li_at hi hLx.2.2.2 (by decide)) ?_
  refine lh_al0 hLx dL_law_467 ?_
  refine lh_il hLx dL_law_468 ?_
  refine lh_ic (v := nI 2) hLx dL_law_470 (by decide) ?_
  refine lh_iadd hLx dL_law_471 ?_
  refine lh_sld hLx dL_law_472 (li_in hi hLx.2.2.2 (by decide)) (li_at hi hLx.2.2.2 (by decide)) ?_
  refine lh_call (as := [av_i (xs (i + 1)), av_i (xs (i + 2))]) hLx hc9 dL_law_473 lcv_X12_card lm_51 k_355 rfl rfl (by decide) rfl (Nat.le_of_ble_eq_true rfl) rfl (s_Mo_card (D := 200) (by decide) NN h2) (fun r9 μ9 hp => ?_)
  rw [hp.1, hp.2]
  clear hp r9 μ9
  refine lh_icmp_eq (tgt := 1550) hLx dL_law_476 (by decide) (fun _ => ?_) (fun q => absurd rfl q)
  exact hk _ hI2
set_option maxRecDepth 100000 in
set_option maxHeartbeats 4000000 in
theorem lc_word {p : Program} {l : Launch} {e : Env} {s : State} {m : MethodId} {below : List Frame} {meth : Method} {c : Code} {b L : Nat} {xs : Nat → Int32} {ad : Nat → Nat} {tc : Nat → ClassId} {D : va_G} {i cells slots : Nat} {μ : MM} {Inv Inv2 : MM → Prop} (hst : ∀ (x1 : Int32) (x2 : Int32) (x3 : Int32) (μ : MM), Inv μ → ∃ (r : Int32) (μ1 μ2 : MM), f_Ro_word NN x1 x2 x3 μ = some (r, μ1) ∧ f_Mo_word NN x1 x2 x3 μ1 = some (r, μ2) ∧ Inv2 μ2) (hLx : Lx p s m meth c b L xs ad tc D) (hc9 : cells ≤ 601024 ∧ slots ≤ 7293034) (hi : i + 6 ≤ L) (hI : Inv μ) (hk : ∀ μ2, Inv2 μ2 → Lh p l e s m below meth c b ad tc D i cells slots 1550 [] μ2) : Lh p l e s m below meth c b ad tc D i cells slots 481 [] μ := by
  refine lh_al1 hLx dL_law_481 ?_
  refine lh_al0 hLx dL_law_482 ?_
  refine lh_il hLx dL_law_483 ?_
  refine lh_ic (v := nI 1) hLx dL_law_485 (by decide) ?_
  refine lh_iadd hLx dL_law_486 ?_
  refine lh_sld hLx dL_law_487 (li_in hi hLx.2.2.2 (by decide)) (li_at hi hLx.2.2.2 (by decide)) ?_
  refine lh_al0 hLx dL_law_488 ?_
  refine lh_il hLx dL_law_489 ?_
  refine lh_ic (v := nI 2) hLx dL_law_491 (by decide) ?_
  refine lh_iadd hLx dL_law_492 ?_
  refine lh_sld hLx dL_law_493 (li_in hi hLx.2.2.2 (by decide)) (li_at hi hLx.2.2.2 (by decide)) ?_
  refine lh_al0 hLx dL_law_494 ?_
  refine lh_il hLx dL_law_495 ?_
  refine lh_ic (v := nI 3) hLx dL_law_497 (by decide) ?_
  refine lh_iadd hLx dL_law_498 ?_
  refine lh_sld hLx dL_law_499 (li_in hi hLx.2.2.2 (by decide)) (li_at hi hLx.2.2.2 (by decide)) ?_
  obtain ⟨r, μ1, μ2, h1, h2, hI2⟩ := hst (xs (i + 1)) (xs (i + 2)) (xs (i + 3)) μ hI
  refine lh_call (as := [av_i (xs (i + 1)), av_i (xs (i + 2)), av_i (xs (i + 3))]) hLx hc9 dL_law_500 lcv_X11_word lm_52 k_0 rfl rfl (by decide) rfl (Nat.le_of_ble_eq_true rfl) rfl (s_Ro_word (D := 200) (by decide) NN h1) (fun r9 μ9 hp => ?_)
  rw [hp.1, hp.2]
  clear hp r9 μ9
  refine lh_al2 hLx dL_law_503 ?_
  refine lh_al0 hLx dL_law_504 ?_
  refine lh_il hLx dL_law_505 ?_
  refine lh_ic (v := nI 1) hLx dL_law_507 (by decide) ?_
  refine lh_iadd hLx dL_law_508 ?_
  refine lh_sld hLx dL_law_509 (li_in hi hLx.2.2.2 (by decide)) (li_at hi hLx.2.2.2 (by decide)) ?_
  refine lh_al0 hLx dL_law_510 ?_
  refine lh_il hLx dL_law_511 ?_
  refine lh_ic (v := nI 2) hLx dL_law_513 (by decide) ?_
  refine lh_iadd hLx dL_law_514 ?_
  refine lh_sld hLx dL_law_515 (li_in hi hLx.2.2.2 (by decide)) (li_at hi hLx.2.2.2 (by decide)) ?_
  refine lh_al0 hLx dL_law_516 ?_
  refine lh_il hLx dL_law_517 ?_
  refine lh_ic (v := nI 3) hLx dL_law_519 (by decide) ?_
  refine lh_iadd hLx dL_law_520 ?_
  refine lh_sld hLx dL_law_521 (li_in hi hLx.2.2.2 (by decide)) (li_at hi hLx.2.2.2 (by decide)) ?_
  refine lh_call (as := [av_i (xs (i + 1)), av_i (xs (i + 2)), av_i (xs (i + 3))]) hLx hc9 dL_law_522 lcv_X12_word lm_56 k_355 rfl rfl (by decide) rfl (Nat.le_of_ble_eq_true rfl) rfl (s_Mo_word (D := 200) (by decide) NN h2) (fun r9 μ9 hp => ?_)
  rw [hp.1, hp.2]
  clear hp r9 μ9
  refine lh_icmp_eq (tgt := 1550) hLx dL_law_525 (by decide) (fun _ => ?_) (fun q => absurd rfl q)
  exact hk _ hI2
set_option maxRecDepth 100000 in
set_option maxHeartbeats 4000000 in
theorem lc_law {p : Program} {l : Launch} {e : Env} {s : State} {m : MethodId} {below : List Frame} {meth : Method} {c : Code} {b L : Nat} {xs : Nat → Int32} {ad : Nat → Nat} {tc : Nat → ClassId} {D : va_G} {i cells slots : Nat} {μ : MM} {Inv Inv2 : MM → Prop} (hst : ∀ (x1 : Int32) (μ : MM), Inv μ → ∃ (r : Int32) (μ1 μ2 : MM), f_Ro_law NN x1 μ = some (r, μ1) ∧ f_Mo_law NN x1 μ1 = some (r, μ2) ∧ Inv2 μ2) (hLx : Lx p s m meth c b L xs ad tc D) (hc9 : cells ≤ 601024 ∧ slots ≤ 7293034) (hi : i + 6 ≤ L) (hI : Inv μ) (hk : ∀ μ2, Inv2 μ2 → Lh p l e s m below meth c b ad tc D i cells slots 1550 [] μ2) : Lh p l e s m below meth c b ad tc D i cells slots 530 [] μ := by
  refine lh_al1 hLx dL_law_530 ?_
  refine lh_al0 hLx dL_law_531 ?_
  refine lh_il hLx dL_law_532 ?_
  refine lh_ic (v := nI 1) hLx dL_law_534 (by decide) ?_
  refine lh_iadd hLx dL_law_535 ?_
  refine lh_sld hLx dL_law_536 (li_in hi hLx.2.2.2 (by decide)) (li_at hi hLx.2.2.2 (by decide)) ?_
  obtain ⟨r, μ1, μ2, h1, h2, hI2⟩ := hst (xs (i + 1)) μ hI
  refine lh_call (as := [av_i (xs (i + 1))]) hLx hc9 dL_law_537 lcv_X11_law lm_57 k_0 rfl rfl (by decide) rfl (Nat.le_of_ble_eq_true rfl) rfl (s_Ro_law (D := 200) (by decide) NN h1) (fun r9 μ9 hp => ?_)
  rw [hp.1, hp.2]
  clear hp r9 μ9
  refine lh_al2 hLx dL_law_540 ?_
  refine lh_al0 hLx dL_law_541 ?_
  refine lh_il hLx dL_law_542 ?_
  refine lh_ic (v := nI 1) hLx dL_law_544 (by decide) ?_
  refine lh_iadd hLx dL_law_545 ?_
  refine lh_sld hLx dL_law_546 (li_in hi hLx.2.2.2 (by decide)) (li_at hi hLx.2.2.2 (by decide)) ?_
  refine lh_call (as := [av_i (xs (i + 1))]) hLx hc9 dL_law_547 lcv_X12_law lm_60 k_355 rfl rfl (by decide) rfl (Nat.le_of_ble_eq_true rfl) rfl (s_Mo_law (D := 200) (by decide) NN h2) (fun r9 μ9 hp => ?_)
  rw [hp.1, hp.2]
  clear hp r9 μ9
  refine lh_icmp_eq (tgt := 1550) hLx dL_law_550 (by decide) (fun _ => ?_) (fun q => absurd rfl q)
  exact hk _ hI2
set_option maxRecDepth 100000 in
set_option maxHeartbeats 4000000 in
theorem lc_cleaner {p : Program} {l : Launch} {e : Env} {s : State} {m : MethodId} {below : List Frame} {meth : Method} {c : Code} {b L : Nat} {xs : Nat → Int32} {ad : Nat → Nat} {tc : Nat → ClassId} {D : va_G} {i cells slots : Nat} {μ : MM} {Inv Inv2 : MM → Prop} (hst : ∀ (x1 : Int32) (μ : MM), Inv μ → ∃ (r : Int32) (μ1 μ2 : MM), f_Ro_cleaner NN x1 μ = some (r, μ1) ∧ f_Mo_cleaner NN x1 μ1 = some (r, μ2) ∧ Inv2 μ2) (hLx : Lx p s m meth c b L xs ad tc D) (hc9 : cells ≤ 601024 ∧ slots ≤ 7293034) (hi : i + 6 ≤ L) (hI : Inv μ) (hk : ∀ μ2, Inv2 μ2 → Lh p l e s m below meth c b ad tc D i cells slots 1550 [] μ2) : Lh p l e s m below meth c b ad tc D i cells slots 555 [] μ := by
  refine lh_al1 hLx dL_law_555 ?_
  refine lh_al0 hLx dL_law_556 ?_
  refine lh_il hLx dL_law_557 ?_
  refine lh_ic (v := nI 1) hLx dL_law_559 (by decide) ?_
  refine lh_iadd hLx dL_law_560 ?_
  refine lh_sld hLx dL_law_561 (li_in hi hLx.2.2.2 (by decide)) (li_at hi hLx.2.2.2 (by decide)) ?_
  obtain ⟨r, μ1, μ2, h1, h2, hI2⟩ := hst (xs (i + 1)) μ hI
  refine lh_call (as := [av_i (xs (i + 1))]) hLx hc9 dL_law_562 lcv_X11_cleaner lm_61 k_0 rfl rfl (by decide) rfl (Nat.le_of_ble_eq_true rfl) rfl (s_Ro_cleaner (D := 200) (by decide) NN h1) (fun r9 μ9 hp => ?_)
  rw [hp.1, hp.2]
  clear hp r9 μ9
  refine lh_al2 hLx dL_law_565 ?_
  refine lh_al0 hLx dL_law_566 ?_
  refine lh_il hLx dL_law_567 ?_
  refine lh_ic (v := nI 1) hLx dL_law_569 (by decide) ?_
  refine lh_iadd hLx dL_law_570 ?_
  refine lh_sld hLx dL_law_571 (li_in hi hLx.2.2.2 (by decide)) (li_at hi hLx.2.2.2 (by decide)) ?_
  refine lh_call (as := [av_i (xs (i + 1))]) hLx hc9 dL_law_572 lcv_X12_cleaner lm_64 k_355 rfl rfl (by decide) rfl (Nat.le_of_ble_eq_true rfl) rfl (s_Mo_cleaner (D := 200) (by decide) NN h2) (fun r9 μ9 hp => ?_)
  rw [hp.1, hp.2]
  clear hp r9 μ9
  refine lh_icmp_eq (tgt := 1550) hLx dL_law_575 (by decide) (fun _ => ?_) (fun q => absurd rfl q)
  exact hk _ hI2
set_option maxRecDepth 100000 in
set_option maxHeartbeats 4000000 in
theorem lc_fits {p : Program} {l : Launch} {e : Env} {s : State} {m : MethodId} {below : List Frame} {meth : Method} {c : Code} {b L : Nat} {xs : Nat → Int32} {ad : Nat → Nat} {tc : Nat → ClassId} {D : va_G} {i cells slots : Nat} {μ : MM} {Inv Inv2 : MM → Prop} (hst : ∀ (x1 : Int32) (x2 : Int32) (μ : MM), Inv μ → ∃ (r : Int32) (μ1 μ2 : MM), f_Ro_fits NN x1 x2 μ = some (r, μ1) ∧ f_Mo_fits NN x1 x2 μ1 = some (r, μ2) ∧ Inv2 μ2) (hLx : Lx p s m meth c b L xs ad tc D) (hc9 : cells ≤ 601024 ∧ slots ≤ 7293034) (hi : i + 6 ≤ L) (hI : Inv μ) (hk : ∀ μ2, Inv2 μ2 → Lh p l e s m below meth c b ad tc D i cells slots 1550 [] μ2) : Lh p l e s m below meth c b ad tc D i cells slots 580 [] μ := by
  refine lh_al1 hLx dL_law_580 ?_
  refine lh_al0 hLx dL_law_581 ?_
  refine lh_il hLx dL_law_582 ?_
  refine lh_ic (v := nI 1) hLx dL_law_584 (by decide) ?_
  refine lh_iadd hLx dL_law_585 ?_
  refine lh_sld hLx dL_law_586 (li_in hi hLx.2.2.2 (by decide)) (li_at hi hLx.2.2.2 (by decide)) ?_
  refine lh_al0 hLx dL_law_587 ?_
  refine lh_il hLx dL_law_588 ?_
  refine lh_ic (v := nI 2) hLx dL_law_590 (by decide) ?_
  refine lh_iadd hLx dL_law_591 ?_
  refine lh_sld hLx dL_law_592 (li_in hi hLx.2.2.2 (by decide)) (li_at hi hLx.2.2.2 (by decide)) ?_
  obtain ⟨r, μ1, μ2, h1, h2, hI2⟩ := hst (xs (i + 1)) (xs (i + 2)) μ hI
  refine lh_call (as := [av_i (xs (i + 1)), av_i (xs (i + 2))]) hLx hc9 dL_law_593 lcv_X11_fits lm_65 k_0 rfl rfl (by decide) rfl (Nat.le_of_ble_eq_true rfl) rfl (s_Ro_fits (D := 200) (by decide) NN h1) (fun r9 μ9 hp => ?_)
  rw [hp.1, hp.2]
  clear hp r9 μ9
  refine lh_al2 hLx dL_law_596 ?_
  refine lh_al0 hLx dL_law_597 ?_
  refine lh_il hLx dL_law_598 ?_
  refine lh_ic (v := nI 1) hLx dL_law_600 (by decide) ?_
  refine lh_iadd hLx dL_law_601 ?_
  refine lh_sld hLx dL_law_602 (li_in hi hLx.2.2.2 (by decide)) (li_at hi hLx.2.2.2 (by decide)) ?_
  refine lh_al0 hLx dL_law_603 ?_
  refine lh_il hLx dL_law_604 ?_
  refine lh_ic (v := nI 2) hLx dL_law_606 (by decide) ?_
  refine lh_iadd hLx dL_law_607 ?_
  refine lh_sld hLx dL_law_608 (li_in hi hLx.2.2.2 (by decide)) (li_at hi hLx.2.2.2 (by decide)) ?_
  refine lh_call (as := [av_i (xs (i + 1)), av_i (xs (i + 2))]) hLx hc9 dL_law_609 lcv_X12_fits lm_68 k_355 rfl rfl (by decide) rfl (Nat.le_of_ble_eq_true rfl) rfl (s_Mo_fits (D := 200) (by decide) NN h2) (fun r9 μ9 hp => ?_)
  rw [hp.1, hp.2]
  clear hp r9 μ9
  refine lh_icmp_eq (tgt := 1550) hLx dL_law_612 (by decide) (fun _ => ?_) (fun q => absurd rfl q)
  exact hk _ hI2
set_option maxRecDepth 100000 in
set_option maxHeartbeats 4000000 in
theorem lc_put {p : Program} {l : Launch} {e : Env} {s : State} {m : MethodId} {below : List Frame} {meth : Method} {c : Code} {b L : Nat} {xs : Nat → Int32} {ad : Nat → Nat} {tc : Nat → ClassId} {D : va_G} {i cells slots : Nat} {μ : MM} {Inv Inv2 : MM → Prop} (hst : ∀ (x1 : Int32) (x2 : Int32) (μ : MM), Inv μ → ∃ (r : Int32) (μ1 μ2 : MM), f_Ro_put NN x1 x2 μ = some (r, μ1) ∧ f_Mo_put_ NN x1 x2 μ1 = some (r, μ2) ∧ Inv2 μ2) (hLx : Lx p s m meth c b L xs ad tc D) (hc9 : cells ≤ 601024 ∧ slots ≤ 7293034) (hi : i + 6 ≤ L) (hI : Inv μ) (hk : ∀ μ2, Inv2 μ2 → Lh p l e s m below meth c b ad tc D i cells slots 1550 [] μ2) : Lh p l e s m below meth c b ad tc D i cells slots 617 [] μ := by
  refine lh_al1 hLx dL_law_617 ?_
  refine lh_al0 hLx dL_law_618 ?_
  refine lh_il hLx dL_law_619 ?_
  refine lh_ic (v := nI 1) hLx dL_law_621 (by decide) ?_
  refine lh_iadd hLx dL_law_622 ?_
  refine lh_sld hLx dL_law_623 (li_in hi hLx.2.2.2 (by decide)) (li_at hi hLx.2.2.2 (by decide)) ?_
  refine lh_al0 hLx dL_law_624 ?_
  refine lh_il hLx dL_law_625 ?_
  refine lh_ic (v := nI 2) hLx dL_law_627 (by decide) ?_
  refine lh_iadd hLx dL_law_628 ?_
  refine lh_sld hLx dL_law_629 (li_in hi hLx.2.2.2 (by decide)) (li_at hi hLx.2.2.2 (by decide)) ?_
  obtain ⟨r, μ1, μ2, h1, h2, hI2⟩ := hst (xs (i + 1)) (xs (i + 2)) μ hI
  refine lh_call (as := [av_i (xs (i + 1)), av_i (xs (i + 2))]) hLx hc9 dL_law_630 lcv_X11_put lm_69 k_0 rfl rfl (by decide) rfl (Nat.le_of_ble_eq_true rfl) rfl (s_Ro_put (D := 200) (by decide) NN h1) (fun r9 μ9 hp => ?_)
  rw [hp.1, hp.2]
  clear hp r9 μ9
  refine lh_al2 hLx dL_law_633 ?_
  refine lh_al0 hLx dL_law_634 ?_
  refine lh_il hLx dL_law_635 ?_
  refine lh_ic (v := nI 1) hLx dL_law_637 (by decide) ?_
  refine lh_iadd hLx dL_law_638 ?_
  refine lh_sld hLx dL_law_639 (li_in hi hLx.2.2.2 (by decide)) (li_at hi hLx.2.2.2 (by decide)) ?_
  refine lh_al0 hLx dL_law_640 ?_
  refine lh_il hLx dL_law_641 ?_
  refine lh_ic (v := nI 2) hLx dL_law_643 (by decide) ?_
  refine lh_iadd hLx dL_law_644 ?_
  refine lh_sld hLx dL_law_645 (li_in hi hLx.2.2.2 (by decide)) (li_at hi hLx.2.2.2 (by decide)) ?_
  refine lh_call (as := [av_i (xs (i + 1)), av_i (xs (i + 2))]) hLx hc9 dL_law_646 lcv_X12_put_ lm_72 k_355 rfl rfl (by decide) rfl (Nat.le_of_ble_eq_true rfl) rfl (s_Mo_put_ (D := 200) (by decide) NN h2) (fun r9 μ9 hp => ?_)
  rw [hp.1, hp.2]
  clear hp r9 μ9
  refine lh_icmp_eq (tgt := 1550) hLx dL_law_649 (by decide) (fun _ => ?_) (fun q => absurd rfl q)
  exact hk _ hI2
set_option maxRecDepth 100000 in
set_option maxHeartbeats 4000000 in
theorem lc_take {p : Program} {l : Launch} {e : Env} {s : State} {m : MethodId} {below : List Frame} {meth : Method} {c : Code} {b L : Nat} {xs : Nat → Int32} {ad : Nat → Nat} {tc : Nat → ClassId} {D : va_G} {i cells slots : Nat} {μ : MM} {Inv Inv2 : MM → Prop} (hst : ∀ (x1 : Int32) (μ : MM), Inv μ → ∃ (r : Int32) (μ1 μ2 : MM), f_Ro_take NN x1 μ = some (r, μ1) ∧ f_Mo_take NN x1 μ1 = some (r, μ2) ∧ Inv2 μ2) (hLx : Lx p s m meth c b L xs ad tc D) (hc9 : cells ≤ 601024 ∧ slots ≤ 7293034) (hi : i + 6 ≤ L) (hI : Inv μ) (hk : ∀ μ2, Inv2 μ2 → Lh p l e s m below meth c b ad tc D i cells slots 1550 [] μ2) : Lh p l e s m below meth c b ad tc D i cells slots 654 [] μ := by
  refine lh_al1 hLx dL_law_654 ?_
  refine lh_al0 hLx dL_law_655 ?_
  refine lh_il hLx dL_law_656 ?_
  refine lh_ic (v := nI 1) hLx dL_law_658 (by decide) ?_
  refine lh_iadd hLx dL_law_659 ?_
  refine lh_sld hLx dL_law_660 (li_in hi hLx.2.2.2 (by decide)) (li_at hi hLx.2.2.2 (by decide)) ?_
  obtain ⟨r, μ1, μ2, h1, h2, hI2⟩ := hst (xs (i + 1)) μ hI
  refine lh_call (as := [av_i (xs (i + 1))]) hLx hc9 dL_law_661 lcv_X11_take lm_73 k_0 rfl rfl (by decide) rfl (Nat.le_of_ble_eq_true rfl) rfl (s_Ro_take (D := 200) (by decide) NN h1) (fun r9 μ9 hp => ?_)
  rw [hp.1, hp.2]
  clear hp r9 μ9
  refine lh_al2 hLx dL_law_664 ?_
  refine lh_al0 hLx dL_law_665 ?_
  refine lh_il hLx dL_law_666 ?_
  refine lh_ic (v := nI 1) hLx dL_law_668 (by decide) ?_
  refine lh_iadd hLx dL_law_669 ?_
  refine lh_sld hLx dL_law_670 (li_in hi hLx.2.2.2 (by decide)) (li_at hi hLx.2.2.2 (by decide)) ?_
  refine lh_call (as := [av_i (xs (i + 1))]) hLx hc9 dL_law_671 lcv_X12_take lm_76 k_355 rfl rfl (by decide) rfl (Nat.le_of_ble_eq_true rfl) rfl (s_Mo_take (D := 200) (by decide) NN h2) (fun r9 μ9 hp => ?_)
  rw [hp.1, hp.2]
  clear hp r9 μ9
  refine lh_icmp_eq (tgt := 1550) hLx dL_law_674 (by decide) (fun _ => ?_) (fun q => absurd rfl q)
  exact hk _ hI2
set_option maxRecDepth 100000 in
set_option maxHeartbeats 4000000 in
theorem lc_copy {p : Program} {l : Launch} {e : Env} {s : State} {m : MethodId} {below : List Frame} {meth : Method} {c : Code} {b L : Nat} {xs : Nat → Int32} {ad : Nat → Nat} {tc : Nat → ClassId} {D : va_G} {i cells slots : Nat} {μ : MM} {Inv Inv2 : MM → Prop} (hst : ∀ (x1 : Int32) (μ : MM), Inv μ → ∃ (r : Int32) (μ1 μ2 : MM), f_Ro_copy NN x1 μ = some (r, μ1) ∧ f_Mo_copy NN x1 μ1 = some (r, μ2) ∧ Inv2 μ2) (hLx : Lx p s m meth c b L xs ad tc D) (hc9 : cells ≤ 601024 ∧ slots ≤ 7293034) (hi : i + 6 ≤ L) (hI : Inv μ) (hk : ∀ μ2, Inv2 μ2 → Lh p l e s m below meth c b ad tc D i cells slots 1550 [] μ2) : Lh p l e s m below meth c b ad tc D i cells slots 679 [] μ := by
  refine lh_al1 hLx dL_law_679 ?_
  refine lh_al0 hLx dL_law_680 ?_
  refine lh_il hLx dL_law_681 ?_
  refine lh_ic (v := nI 1) hLx dL_law_683 (by decide) ?_
  refine lh_iadd hLx dL_law_684 ?_
  refine lh_sld hLx dL_law_685 (li_in hi hLx.2.2.2 (by decide)) (li_at hi hLx.2.2.2 (by decide)) ?_
  obtain ⟨r, μ1, μ2, h1, h2, hI2⟩ := hst (xs (i + 1)) μ hI
  refine lh_call (as := [av_i (xs (i + 1))]) hLx hc9 dL_law_686 lcv_X11_copy lm_77 k_0 rfl rfl (by decide) rfl (Nat.le_of_ble_eq_true rfl) rfl (s_Ro_copy (D := 200) (by decide) NN h1) (fun r9 μ9 hp => ?_)
  rw [hp.1, hp.2]
  clear hp r9 μ9
  refine lh_al2 hLx dL_law_689 ?_
  refine lh_al0 hLx dL_law_690 ?_
  refine lh_il hLx dL_law_691 ?_
  refine lh_ic (v := nI 1) hLx dL_law_693 (by decide) ?_
  refine lh_iadd hLx dL_law_694 ?_
  refine lh_sld hLx dL_law_695 (li_in hi hLx.2.2.2 (by decide)) (li_at hi hLx.2.2.2 (by decide)) ?_
  refine lh_call (as := [av_i (xs (i + 1))]) hLx hc9 dL_law_696 lcv_X12_copy lm_80 k_355 rfl rfl (by decide) rfl (Nat.le_of_ble_eq_true rfl) rfl (s_Mo_copy (D := 200) (by decide) NN h2) (fun r9 μ9 hp => ?_)
  rw [hp.1, hp.2]
  clear hp r9 μ9
  refine lh_icmp_eq (tgt := 1550) hLx dL_law_699 (by decide) (fun _ => ?_) (fun q => absurd rfl q)
  exact hk _ hI2
set_option maxRecDepth 100000 in
set_option maxHeartbeats 4000000 in
theorem lc_lamp {p : Program} {l : Launch} {e : Env} {s : State} {m : MethodId} {below : List Frame} {meth : Method} {c : Code} {b L : Nat} {xs : Nat → Int32} {ad : Nat → Nat} {tc : Nat → ClassId} {D : va_G} {i cells slots : Nat} {μ : MM} {Inv Inv2 : MM → Prop} (hst : ∀ (x1 : Int32) (μ : MM), Inv μ → ∃ (r : Int32) (μ1 μ2 : MM), f_Ro_lamp NN x1 μ = some (r, μ1) ∧ f_Mo_lamp NN x1 μ1 = some (r, μ2) ∧ Inv2 μ2) (hLx : Lx p s m meth c b L xs ad tc D) (hc9 : cells ≤ 601024 ∧ slots ≤ 7293034) (hi : i + 6 ≤ L) (hI : Inv μ) (hk : ∀ μ2, Inv2 μ2 → Lh p l e s m below meth c b ad tc D i cells slots 1550 [] μ2) : Lh p l e s m below meth c b ad tc D i cells slots 704 [] μ := by
  refine lh_al1 hLx dL_law_704 ?_
  refine lh_al0 hLx dL_law_705 ?_
  refine lh_il hLx dL_law_706 ?_
  refine lh_ic (v := nI 1) hLx dL_law_708 (by decide) ?_
  refine lh_iadd hLx dL_law_709 ?_
  refine lh_sld hLx dL_law_710 (li_in hi hLx.2.2.2 (by decide)) (li_at hi hLx.2.2.2 (by decide)) ?_
  obtain ⟨r, μ1, μ2, h1, h2, hI2⟩ := hst (xs (i + 1)) μ hI
  refine lh_call (as := [av_i (xs (i + 1))]) hLx hc9 dL_law_711 lcv_X11_lamp lm_81 k_0 rfl rfl (by decide) rfl (Nat.le_of_ble_eq_true rfl) rfl (s_Ro_lamp (D := 200) (by decide) NN h1) (fun r9 μ9 hp => ?_)
  rw [hp.1, hp.2]
  clear hp r9 μ9
  refine lh_al2 hLx dL_law_714 ?_
  refine lh_al0 hLx dL_law_715 ?_
  refine lh_il hLx dL_law_716 ?_
  refine lh_ic (v := nI 1) hLx dL_law_718 (by decide) ?_
  refine lh_iadd hLx dL_law_719 ?_
  refine lh_sld hLx dL_law_720 (li_in hi hLx.2.2.2 (by decide)) (li_at hi hLx.2.2.2 (by decide)) ?_
  refine lh_call (as := [av_i (xs (i + 1))]) hLx hc9 dL_law_721 lcv_X12_lamp lm_84 k_355 rfl rfl (by decide) rfl (Nat.le_of_ble_eq_true rfl) rfl (s_Mo_lamp (D := 200) (by decide) NN h2) (fun r9 μ9 hp => ?_)
  rw [hp.1, hp.2]
  clear hp r9 μ9
  refine lh_icmp_eq (tgt := 1550) hLx dL_law_724 (by decide) (fun _ => ?_) (fun q => absurd rfl q)
  exact hk _ hI2
set_option maxRecDepth 100000 in
set_option maxHeartbeats 4000000 in
theorem lc_light {p : Program} {l : Launch} {e : Env} {s : State} {m : MethodId} {below : List Frame} {meth : Method} {c : Code} {b L : Nat} {xs : Nat → Int32} {ad : Nat → Nat} {tc : Nat → ClassId} {D : va_G} {i cells slots : Nat} {μ : MM} {Inv Inv2 : MM → Prop} (hst : ∀ (x1 : Int32) (μ : MM), Inv μ → ∃ (r : Int32) (μ1 μ2 : MM), f_Ro_light NN x1 μ = some (r, μ1) ∧ f_Mo_light NN x1 μ1 = some (r, μ2) ∧ Inv2 μ2) (hLx : Lx p s m meth c b L xs ad tc D) (hc9 : cells ≤ 601024 ∧ slots ≤ 7293034) (hi : i + 6 ≤ L) (hI : Inv μ) (hk : ∀ μ2, Inv2 μ2 → Lh p l e s m below meth c b ad tc D i cells slots 1550 [] μ2) : Lh p l e s m below meth c b ad tc D i cells slots 729 [] μ := by
  refine lh_al1 hLx dL_law_729 ?_
  refine lh_al0 hLx dL_law_730 ?_
  refine lh_il hLx dL_law_731 ?_
  refine lh_ic (v := nI 1) hLx dL_law_733 (by decide) ?_
  refine lh_iadd hLx dL_law_734 ?_
  refine lh_sld hLx dL_law_735 (li_in hi hLx.2.2.2 (by decide)) (li_at hi hLx.2.2.2 (by decide)) ?_
  obtain ⟨r, μ1, μ2, h1, h2, hI2⟩ := hst (xs (i + 1)) μ hI
  refine lh_call (as := [av_i (xs (i + 1))]) hLx hc9 dL_law_736 lcv_X11_light lm_85 k_0 rfl rfl (by decide) rfl (Nat.le_of_ble_eq_true rfl) rfl (s_Ro_light (D := 200) (by decide) NN h1) (fun r9 μ9 hp => ?_)
  rw [hp.1, hp.2]
  clear hp r9 μ9
  refine lh_al2 hLx dL_law_739 ?_
  refine lh_al0 hLx dL_law_740 ?_
  refine lh_il hLx dL_law_741 ?_
  refine lh_ic (v := nI 1) hLx dL_law_743 (by decide) ?_
  refine lh_iadd hLx dL_law_744 ?_
  refine lh_sld hLx dL_law_745 (li_in hi hLx.2.2.2 (by decide)) (li_at hi hLx.2.2.2 (by decide)) ?_
  refine lh_call (as := [av_i (xs (i + 1))]) hLx hc9 dL_law_746 lcv_X12_light lm_88 k_355 rfl rfl (by decide) rfl (Nat.le_of_ble_eq_true rfl) rfl (s_Mo_light (D := 200) (by decide) NN h2) (fun r9 μ9 hp => ?_)
  rw [hp.1, hp.2]
  clear hp r9 μ9
  refine lh_icmp_eq (tgt := 1550) hLx dL_law_749 (by decide) (fun _ => ?_) (fun q => absurd rfl q)
  exact hk _ hI2
set_option maxRecDepth 100000 in
set_option maxHeartbeats 4000000 in
theorem lc_write {p : Program} {l : Launch} {e : Env} {s : State} {m : MethodId} {below : List Frame} {meth : Method} {c : Code} {b L : Nat} {xs : Nat → Int32} {ad : Nat → Nat} {tc : Nat → ClassId} {D : va_G} {i cells slots : Nat} {μ : MM} {Inv Inv2 : MM → Prop} (hst : ∀ (x1 : Int32) (x2 : Int32) (μ : MM), Inv μ → ∃ (r : Int32) (μ1 μ2 : MM), f_Ro_write NN x1 x2 μ = some (r, μ1) ∧ f_Mo_write NN x1 x2 μ1 = some (r, μ2) ∧ Inv2 μ2) (hLx : Lx p s m meth c b L xs ad tc D) (hc9 : cells ≤ 601024 ∧ slots ≤ 7293034) (hi : i + 6 ≤ L) (hI : Inv μ) (hk : ∀ μ2, Inv2 μ2 → Lh p l e s m below meth c b ad tc D i cells slots 1550 [] μ2) : Lh p l e s m below meth c b ad tc D i cells slots 754 [] μ := by
  refine lh_al1 hLx dL_law_754 ?_
  refine lh_al0 hLx dL_law_755 ?_
  refine lh_il hLx dL_law_756 ?_
  refine lh_ic (v := nI 1) hLx dL_law_758 (by decide) ?_
  refine lh_iadd hLx dL_law_759 ?_
  refine lh_sld hLx dL_law_760 (li_in hi hLx.2.2.2 (by decide)) (li_at hi hLx.2.2.2 (by decide)) ?_
  refine lh_al0 hLx dL_law_761 ?_
  refine lh_il hLx dL_law_762 ?_
  refine lh_ic (v := nI 2) hLx dL_law_764 (by decide) ?_
  refine lh_iadd hLx dL_law_765 ?_
  refine lh_sld hLx dL_law_766 (li_in hi hLx.2.2.2 (by decide)) (li_at hi hLx.2.2.2 (by decide)) ?_
  obtain ⟨r, μ1, μ2, h1, h2, hI2⟩ := hst (xs (i + 1)) (xs (i + 2)) μ hI
  refine lh_call (as := [av_i (xs (i + 1)), av_i (xs (i + 2))]) hLx hc9 dL_law_767 lcv_X11_write lm_89 k_0 rfl rfl (by decide) rfl (Nat.le_of_ble_eq_true rfl) rfl (s_Ro_write (D := 200) (by decide) NN h1) (fun r9 μ9 hp => ?_)
  rw [hp.1, hp.2]
  clear hp r9 μ9
  refine lh_al2 hLx dL_law_770 ?_
  refine lh_al0 hLx dL_law_771 ?_
  refine lh_il hLx dL_law_772 ?_
  refine lh_ic (v := nI 1) hLx dL_law_774 (by decide) ?_
  refine lh_iadd hLx dL_law_775 ?_
  refine lh_sld hLx dL_law_776 (li_in hi hLx.2.2.2 (by decide)) (li_at hi hLx.2.2.2 (by decide)) ?_
  refine lh_al0 hLx dL_law_777 ?_
  refine lh_il hLx dL_law_778 ?_
  refine lh_ic (v := nI 2) hLx dL_law_780 (by decide) ?_
  refine lh_iadd hLx dL_law_781 ?_
  refine lh_sld hLx dL_law_782 (li_in hi hLx.2.2.2 (by decide)) (li_at hi hLx.2.2.2 (by decide)) ?_
  refine lh_call (as := [av_i (xs (i + 1)), av_i (xs (i + 2))]) hLx hc9 dL_law_783 lcv_X12_write lm_92 k_355 rfl rfl (by decide) rfl (Nat.le_of_ble_eq_true rfl) rfl (s_Mo_write (D := 200) (by decide) NN h2) (fun r9 μ9 hp => ?_)
  rw [hp.1, hp.2]
  clear hp r9 μ9
  refine lh_icmp_eq (tgt := 1550) hLx dL_law_786 (by decide) (fun _ => ?_) (fun q => absurd rfl q)
  exact hk _ hI2
set_option maxRecDepth 100000 in
set_option maxHeartbeats 4000000 in
theorem lc_days {p : Program} {l : Launch} {e : Env} {s : State} {m : MethodId} {below : List Frame} {meth : Method} {c : Code} {b L : Nat} {xs : Nat → Int32} {ad : Nat → Nat} {tc : Nat → ClassId} {D : va_G} {i cells slots : Nat} {μ : MM} {Inv Inv2 : MM → Prop} (hst : ∀ (x1 : Int32) (μ : MM), Inv μ → ∃ (r : Int32) (μ1 μ2 : MM), f_Ro_days NN x1 μ = some (r, μ1) ∧ f_Mo_days NN x1 μ1 = some (r, μ2) ∧ Inv2 μ2) (hLx : Lx p s m meth c b L xs ad tc D) (hc9 : cells ≤ 601024 ∧ slots ≤ 7293034) (hi : i + 6 ≤ L) (hI : Inv μ) (hk : ∀ μ2, Inv2 μ2 → Lh p l e s m below meth c b ad tc D i cells slots 1550 [] μ2) : Lh p l e s m below meth c b ad tc D i cells slots 791 [] μ := by
  refine lh_al1 hLx dL_law_791 ?_
  refine lh_al0 hLx dL_law_792 ?_
  refine lh_il hLx dL_law_793 ?_
  refine lh_ic (v := nI 1) hLx dL_law_795 (by decide) ?_
  refine lh_iadd hLx dL_law_796 ?_
  refine lh_sld hLx dL_law_797 (li_in hi hLx.2.2.2 (by decide)) (li_at hi hLx.2.2.2 (by decide)) ?_
  obtain ⟨r, μ1, μ2, h1, h2, hI2⟩ := hst (xs (i + 1)) μ hI
  refine lh_call (as := [av_i (xs (i + 1))]) hLx hc9 dL_law_798 lcv_X11_days lm_93 k_0 rfl rfl (by decide) rfl (Nat.le_of_ble_eq_true rfl) rfl (s_Ro_days (D := 200) (by decide) NN h1) (fun r9 μ9 hp => ?_)
  rw [hp.1, hp.2]
  clear hp r9 μ9
  refine lh_al2 hLx dL_law_801 ?_
  refine lh_al0 hLx dL_law_802 ?_
  refine lh_il hLx dL_law_803 ?_
  refine lh_ic (v := nI 1) hLx dL_law_805 (by decide) ?_
  refine lh_iadd hLx dL_law_806 ?_
  refine lh_sld hLx dL_law_807 (li_in hi hLx.2.2.2 (by decide)) (li_at hi hLx.2.2.2 (by decide)) ?_
  refine lh_call (as := [av_i (xs (i + 1))]) hLx hc9 dL_law_808 lcv_X12_days lm_96 k_355 rfl rfl (by decide) rfl (Nat.le_of_ble_eq_true rfl) rfl (s_Mo_days (D := 200) (by decide) NN h2) (fun r9 μ9 hp => ?_)
  rw [hp.1, hp.2]
  clear hp r9 μ9
  refine lh_icmp_eq (tgt := 1550) hLx dL_law_811 (by decide) (fun _ => ?_) (fun q => absurd rfl q)
  exact hk _ hI2
set_option maxRecDepth 100000 in
set_option maxHeartbeats 4000000 in
theorem lc_decades {p : Program} {l : Launch} {e : Env} {s : State} {m : MethodId} {below : List Frame} {meth : Method} {c : Code} {b L : Nat} {xs : Nat → Int32} {ad : Nat → Nat} {tc : Nat → ClassId} {D : va_G} {i cells slots : Nat} {μ : MM} {Inv Inv2 : MM → Prop} (hst : ∀ (x1 : Int32) (y2 : Int64) (μ : MM), Inv μ → ∃ (r : Int32) (μ1 μ2 : MM), f_Ro_decades NN x1 y2 μ = some (r, μ1) ∧ f_Mo_decades NN x1 y2 μ1 = some (r, μ2) ∧ Inv2 μ2) (hLx : Lx p s m meth c b L xs ad tc D) (hc9 : cells ≤ 601024 ∧ slots ≤ 7293034) (hi : i + 6 ≤ L) (hI : Inv μ) (hk : ∀ μ2, Inv2 μ2 → Lh p l e s m below meth c b ad tc D i cells slots 1550 [] μ2) : Lh p l e s m below meth c b ad tc D i cells slots 816 [] μ := by
  refine lh_al1 hLx dL_law_816 ?_
  refine lh_al0 hLx dL_law_817 ?_
  refine lh_il hLx dL_law_818 ?_
  refine lh_ic (v := nI 1) hLx dL_law_820 (by decide) ?_
  refine lh_iadd hLx dL_law_821 ?_
  refine lh_sld hLx dL_law_822 (li_in hi hLx.2.2.2 (by decide)) (li_at hi hLx.2.2.2 (by decide)) ?_
  refine lh_al0 hLx dL_law_823 ?_
  refine lh_il hLx dL_law_824 ?_
  refine lh_ic (v := nI 2) hLx dL_law_826 (by decide) ?_
  refine lh_iadd hLx dL_law_827 ?_
  refine lh_sld hLx dL_law_828 (li_in hi hLx.2.2.2 (by decide)) (li_at hi hLx.2.2.2 (by decide)) ?_
  refine lh_i2l hLx dL_law_829 ?_
  refine lh_bp (v := 32) hLx dL_law_830 (by decide) ?_
  refine lh_lshl hLx dL_law_832 ?_
  refine lh_al0 hLx dL_law_833 ?_
  refine lh_il hLx dL_law_834 ?_
  refine lh_ic (v := nI 3) hLx dL_law_836 (by decide) ?_
  refine lh_iadd hLx dL_law_837 ?_
  refine lh_sld hLx dL_law_838 (li_in hi hLx.2.2.2 (by decide)) (li_at hi hLx.2.2.2 (by decide)) ?_
  refine lh_i2l hLx dL_law_839 ?_
  refine lh_ldc2 hLx dL_law_840 cL_97 ?_
  refine lh_land hLx dL_law_843 ?_
  refine lh_lor hLx dL_law_844 ?_
  obtain ⟨r, μ1, μ2, h1, h2, hI2⟩ := hst (xs (i + 1)) (((Int32.toInt64 (xs (i + 2))) <<< (Int32.toInt64 32 &&& 63)) ||| ((Int32.toInt64 (xs (i + 3))) &&& 4294967295)) μ hI
  refine lh_call (as := [av_i (xs (i + 1)), av_l (((Int32.toInt64 (xs (i + 2))) <<< (Int32.toInt64 32 &&& 63)) ||| ((Int32.toInt64 (xs (i + 3))) &&& 4294967295))]) hLx hc9 dL_law_845 lcv_X11_decades lm_99 k_0 rfl rfl (by decide) rfl (Nat.le_of_ble_eq_true rfl) rfl (s_Ro_decades (D := 200) (by decide) NN h1) (fun r9 μ9 hp => ?_)
  rw [hp.1, hp.2]
  clear hp r9 μ9
  refine lh_al2 hLx dL_law_848 ?_
  refine lh_al0 hLx dL_law_849 ?_
  refine lh_il hLx dL_law_850 ?_
  refine lh_ic (v := nI 1) hLx dL_law_852 (by decide) ?_
  refine lh_iadd hLx dL_law_853 ?_
  refine lh_sld hLx dL_law_854 (li_in hi hLx.2.2.2 (by decide)) (li_at hi hLx.2.2.2 (by decide)) ?_
  refine lh_al0 hLx dL_law_855 ?_
  refine lh_il hLx dL_law_856 ?_
  refine lh_ic (v := nI 2) hLx dL_law_858 (by decide) ?_
  refine lh_iadd hLx dL_law_859 ?_
  refine lh_sld hLx dL_law_860 (li_in hi hLx.2.2.2 (by decide)) (li_at hi hLx.2.2.2 (by decide)) ?_
  refine lh_i2l hLx dL_law_861 ?_
  refine lh_bp (v := 32) hLx dL_law_862 (by decide) ?_
  refine lh_lshl hLx dL_law_864 ?_
  refine lh_al0 hLx dL_law_865 ?_
  refine lh_il hLx dL_law_866 ?_
  refine lh_ic (v := nI 3) hLx dL_law_868 (by decide) ?_
  refine lh_iadd hLx dL_law_869 ?_
  refine lh_sld hLx dL_law_870 (li_in hi hLx.2.2.2 (by decide)) (li_at hi hLx.2.2.2 (by decide)) ?_
  refine lh_i2l hLx dL_law_871 ?_
  refine lh_ldc2 hLx dL_law_872 cL_97 ?_
  refine lh_land hLx dL_law_875 ?_
  refine lh_lor hLx dL_law_876 ?_
  refine lh_call (as := [av_i (xs (i + 1)), av_l (((Int32.toInt64 (xs (i + 2))) <<< (Int32.toInt64 32 &&& 63)) ||| ((Int32.toInt64 (xs (i + 3))) &&& 4294967295))]) hLx hc9 dL_law_877 lcv_X12_decades lm_103 k_355 rfl rfl (by decide) rfl (Nat.le_of_ble_eq_true rfl) rfl (s_Mo_decades (D := 200) (by decide) NN h2) (fun r9 μ9 hp => ?_)
  rw [hp.1, hp.2]
  clear hp r9 μ9
  refine lh_icmp_eq (tgt := 1550) hLx dL_law_880 (by decide) (fun _ => ?_) (fun q => absurd rfl q)
  exact hk _ hI2
set_option maxRecDepth 100000 in
set_option maxHeartbeats 4000000 in
theorem lc_undo {p : Program} {l : Launch} {e : Env} {s : State} {m : MethodId} {below : List Frame} {meth : Method} {c : Code} {b L : Nat} {xs : Nat → Int32} {ad : Nat → Nat} {tc : Nat → ClassId} {D : va_G} {i cells slots : Nat} {μ : MM} {Inv Inv2 : MM → Prop} (hst : ∀ (μ : MM), Inv μ → ∃ (r : Int32) (μ1 μ2 : MM), f_Ro_undo NN μ = some (r, μ1) ∧ f_Mo_undo NN μ1 = some (r, μ2) ∧ Inv2 μ2) (hLx : Lx p s m meth c b L xs ad tc D) (hc9 : cells ≤ 601024 ∧ slots ≤ 7293034) (hi : i + 6 ≤ L) (hI : Inv μ) (hk : ∀ μ2, Inv2 μ2 → Lh p l e s m below meth c b ad tc D i cells slots 1550 [] μ2) : Lh p l e s m below meth c b ad tc D i cells slots 885 [] μ := by
  refine lh_al1 hLx dL_law_885 ?_
  obtain ⟨r, μ1, μ2, h1, h2, hI2⟩ := hst  μ hI
  refine lh_call (as := []) hLx hc9 dL_law_886 lcv_X11_undo lm_104 k_0 rfl rfl (by decide) rfl (Nat.le_of_ble_eq_true rfl) rfl (s_Ro_undo (D := 200) (by decide) NN h1) (fun r9 μ9 hp => ?_)
  rw [hp.1, hp.2]
  clear hp r9 μ9
  refine lh_al2 hLx dL_law_889 ?_
  refine lh_call (as := []) hLx hc9 dL_law_890 lcv_X12_undo lm_107 k_355 rfl rfl (by decide) rfl (Nat.le_of_ble_eq_true rfl) rfl (s_Mo_undo (D := 200) (by decide) NN h2) (fun r9 μ9 hp => ?_)
  rw [hp.1, hp.2]
  clear hp r9 μ9
  refine lh_icmp_eq (tgt := 1550) hLx dL_law_893 (by decide) (fun _ => ?_) (fun q => absurd rfl q)
  exact hk _ hI2
set_option maxRecDepth 100000 in
set_option maxHeartbeats 4000000 in
theorem lc_log {p : Program} {l : Launch} {e : Env} {s : State} {m : MethodId} {below : List Frame} {meth : Method} {c : Code} {b L : Nat} {xs : Nat → Int32} {ad : Nat → Nat} {tc : Nat → ClassId} {D : va_G} {i cells slots : Nat} {μ : MM} {Inv Inv2 : MM → Prop} (hst : ∀ (x1 : Int32) (x2 : Int32) (μ : MM), Inv μ → ∃ (r : Int32) (μ1 μ2 : MM), f_Ro_log NN x1 x2 μ = some (r, μ1) ∧ f_Mo_log NN x1 x2 μ1 = some (r, μ2) ∧ Inv2 μ2) (hLx : Lx p s m meth c b L xs ad tc D) (hc9 : cells ≤ 601024 ∧ slots ≤ 7293034) (hi : i + 6 ≤ L) (hI : Inv μ) (hk : ∀ μ2, Inv2 μ2 → Lh p l e s m below meth c b ad tc D i cells slots 1550 [] μ2) : Lh p l e s m below meth c b ad tc D i cells slots 898 [] μ := by
  refine lh_al1 hLx dL_law_898 ?_
  refine lh_al0 hLx dL_law_899 ?_
  refine lh_il hLx dL_law_900 ?_
  refine lh_ic (v := nI 1) hLx dL_law_902 (by decide) ?_
  refine lh_iadd hLx dL_law_903 ?_
  refine lh_sld hLx dL_law_904 (li_in hi hLx.2.2.2 (by decide)) (li_at hi hLx.2.2.2 (by decide)) ?_
  refine lh_al0 hLx dL_law_905 ?_
  refine lh_il hLx dL_law_906 ?_
  refine lh_ic (v := nI 2) hLx dL_law_908 (by decide) ?_
  refine lh_iadd hLx dL_law_909 ?_
  refine lh_sld hLx dL_law_910 (li_in hi hLx.2.2.2 (by decide)) (li_at hi hLx.2.2.2 (by decide)) ?_
  obtain ⟨r, μ1, μ2, h1, h2, hI2⟩ := hst (xs (i + 1)) (xs (i + 2)) μ hI
  refine lh_call (as := [av_i (xs (i + 1)), av_i (xs (i + 2))]) hLx hc9 dL_law_911 lcv_X11_log lm_108 k_0 rfl rfl (by decide) rfl (Nat.le_of_ble_eq_true rfl) rfl (s_Ro_log (D := 200) (by decide) NN h1) (fun r9 μ9 hp => ?_)
  rw [hp.1, hp.2]
  clear hp r9 μ9
  refine lh_al2 hLx dL_law_914 ?_
  refine lh_al0 hLx dL_law_915 ?_
  refine lh_il hLx dL_law_916 ?_
  refine lh_ic (v := nI 1) hLx dL_law_918 (by decide) ?_
  refine lh_iadd hLx dL_law_919 ?_
  refine lh_sld hLx dL_law_920 (li_in hi hLx.2.2.2 (by decide)) (li_at hi hLx.2.2.2 (by decide)) ?_
  refine lh_al0 hLx dL_law_921 ?_
  refine lh_il hLx dL_law_922 ?_
  refine lh_ic (v := nI 2) hLx dL_law_924 (by decide) ?_
  refine lh_iadd hLx dL_law_925 ?_
  refine lh_sld hLx dL_law_926 (li_in hi hLx.2.2.2 (by decide)) (li_at hi hLx.2.2.2 (by decide)) ?_
  refine lh_call (as := [av_i (xs (i + 1)), av_i (xs (i + 2))]) hLx hc9 dL_law_927 lcv_X12_log lm_111 k_355 rfl rfl (by decide) rfl (Nat.le_of_ble_eq_true rfl) rfl (s_Mo_log (D := 200) (by decide) NN h2) (fun r9 μ9 hp => ?_)
  rw [hp.1, hp.2]
  clear hp r9 μ9
  refine lh_icmp_eq (tgt := 1550) hLx dL_law_930 (by decide) (fun _ => ?_) (fun q => absurd rfl q)
  exact hk _ hI2
set_option maxRecDepth 100000 in
set_option maxHeartbeats 4000000 in
theorem lc_reading {p : Program} {l : Launch} {e : Env} {s : State} {m : MethodId} {below : List Frame} {meth : Method} {c : Code} {b L : Nat} {xs : Nat → Int32} {ad : Nat → Nat} {tc : Nat → ClassId} {D : va_G} {i cells slots : Nat} {μ : MM} {Inv Inv2 : MM → Prop} (hst : ∀ (x1 : Int32) (x2 : Int32) (x3 : Int32) (μ : MM), Inv μ → ∃ (r : Int32) (μ1 μ2 : MM), f_Ro_reading NN x1 x2 x3 μ = some (r, μ1) ∧ f_Mo_reading NN x1 x2 x3 μ1 = some (r, μ2) ∧ Inv2 μ2) (hLx : Lx p s m meth c b L xs ad tc D) (hc9 : cells ≤ 601024 ∧ slots ≤ 7293034) (hi : i + 6 ≤ L) (hI : Inv μ) (hk : ∀ μ2, Inv2 μ2 → Lh p l e s m below meth c b ad tc D i cells slots 1550 [] μ2) : Lh p l e s m below meth c b ad tc D i cells slots 935 [] μ := by
  refine lh_al1 hLx dL_law_935 ?_
  refine lh_al0 hLx dL_law_936 ?_
  refine lh_il hLx dL_law_937 ?_
  refine lh_ic (v := nI 1) hLx dL_law_939 (by decide) ?_
  refine lh_iadd hLx dL_law_940 ?_
  refine lh_sld hLx dL_law_941 (li_in hi hLx.2.2.2 (by decide)) (li_at hi hLx.2.2.2 (by decide)) ?_
  refine lh_al0 hLx dL_law_942 ?_
  refine lh_il hLx dL_law_943 ?_
  refine lh_ic (v := nI 2) hLx dL_law_945 (by decide) ?_
  refine lh_iadd hLx dL_law_946 ?_
  refine lh_sld hLx dL_law_947 (li_in hi hLx.2.2.2 (by decide)) (li_at hi hLx.2.2.2 (by decide)) ?_
  refine lh_al0 hLx dL_law_948 ?_
  refine lh_il hLx dL_law_949 ?_
  refine lh_ic (v := nI 3) hLx dL_law_951 (by decide) ?_
  refine lh_iadd hLx dL_law_952 ?_
  refine lh_sld hLx dL_law_953 (li_in hi hLx.2.2.2 (by decide)) (li_at hi hLx.2.2.2 (by decide)) ?_
  obtain ⟨r, μ1, μ2, h1, h2, hI2⟩ := hst (xs (i + 1)) (xs (i + 2)) (xs (i + 3)) μ hI
  refine lh_call (as := [av_i (xs (i + 1)), av_i (xs (i + 2)), av_i (xs (i + 3))]) hLx hc9 dL_law_954 lcv_X11_reading lm_112 k_0 rfl rfl (by decide) rfl (Nat.le_of_ble_eq_true rfl) rfl (s_Ro_reading (D := 200) (by decide) NN h1) (fun r9 μ9 hp => ?_)
  rw [hp.1, hp.2]
  clear hp r9 μ9
  refine lh_al2 hLx dL_law_957 ?_
  refine lh_al0 hLx dL_law_958 ?_
  refine lh_il hLx dL_law_959 ?_
  refine lh_ic (v := nI 1) hLx dL_law_961 (by decide) ?_
  refine lh_iadd hLx dL_law_962 ?_
  refine lh_sld hLx dL_law_963 (li_in hi hLx.2.2.2 (by decide)) (li_at hi hLx.2.2.2 (by decide)) ?_
  refine lh_al0 hLx dL_law_964 ?_
  refine lh_il hLx dL_law_965 ?_
  refine lh_ic (v := nI 2) hLx dL_law_967 (by decide) ?_
  refine lh_iadd hLx dL_law_968 ?_
  refine lh_sld hLx dL_law_969 (li_in hi hLx.2.2.2 (by decide)) (li_at hi hLx.2.2.2 (by decide)) ?_
  refine lh_al0 hLx dL_law_970 ?_
  refine lh_il hLx dL_law_971 ?_
  refine lh_ic (v := nI 3) hLx dL_law_973 (by decide) ?_
  refine lh_iadd hLx dL_law_974 ?_
  refine lh_sld hLx dL_law_975 (li_in hi hLx.2.2.2 (by decide)) (li_at hi hLx.2.2.2 (by decide)) ?_
  refine lh_call (as := [av_i (xs (i + 1)), av_i (xs (i + 2)), av_i (xs (i + 3))]) hLx hc9 dL_law_976 lcv_X12_reading lm_115 k_355 rfl rfl (by decide) rfl (Nat.le_of_ble_eq_true rfl) rfl (s_Mo_reading (D := 200) (by decide) NN h2) (fun r9 μ9 hp => ?_)
  rw [hp.1, hp.2]
  clear hp r9 μ9
  refine lh_icmp_eq (tgt := 1550) hLx dL_law_979 (by decide) (fun _ => ?_) (fun q => absurd rfl q)
  exact hk _ hI2
set_option maxRecDepth 100000 in
set_option maxHeartbeats 4000000 in
theorem lc_right {p : Program} {l : Launch} {e : Env} {s : State} {m : MethodId} {below : List Frame} {meth : Method} {c : Code} {b L : Nat} {xs : Nat → Int32} {ad : Nat → Nat} {tc : Nat → ClassId} {D : va_G} {i cells slots : Nat} {μ : MM} {Inv Inv2 : MM → Prop} (hst : ∀ (μ : MM), Inv μ → ∃ (r : Int32) (μ1 μ2 : MM), f_Ro_right NN μ = some (r, μ1) ∧ f_Mo_right NN μ1 = some (r, μ2) ∧ Inv2 μ2) (hLx : Lx p s m meth c b L xs ad tc D) (hc9 : cells ≤ 601024 ∧ slots ≤ 7293034) (hi : i + 6 ≤ L) (hI : Inv μ) (hk : ∀ μ2, Inv2 μ2 → Lh p l e s m below meth c b ad tc D i cells slots 1550 [] μ2) : Lh p l e s m below meth c b ad tc D i cells slots 984 [] μ := by
  refine lh_al1 hLx dL_law_984 ?_
  obtain ⟨r, μ1, μ2, h1, h2, hI2⟩ := hst  μ hI
  refine lh_call (as := []) hLx hc9 dL_law_985 lcv_X11_right lm_116 k_0 rfl rfl (by decide) rfl (Nat.le_of_ble_eq_true rfl) rfl (s_Ro_right (D := 200) (by decide) NN h1) (fun r9 μ9 hp => ?_)
  rw [hp.1, hp.2]
  clear hp r9 μ9
  refine lh_al2 hLx dL_law_988 ?_
  refine lh_call (as := []) hLx hc9 dL_law_989 lcv_X12_right lm_119 k_355 rfl rfl (by decide) rfl (Nat.le_of_ble_eq_true rfl) rfl (s_Mo_right (D := 200) (by decide) NN h2) (fun r9 μ9 hp => ?_)
  rw [hp.1, hp.2]
  clear hp r9 μ9
  refine lh_icmp_eq (tgt := 1550) hLx dL_law_992 (by decide) (fun _ => ?_) (fun q => absurd rfl q)
  exact hk _ hI2
set_option maxRecDepth 100000 in
set_option maxHeartbeats 4000000 in
theorem lc_matched {p : Program} {l : Launch} {e : Env} {s : State} {m : MethodId} {below : List Frame} {meth : Method} {c : Code} {b L : Nat} {xs : Nat → Int32} {ad : Nat → Nat} {tc : Nat → ClassId} {D : va_G} {i cells slots : Nat} {μ : MM} {Inv Inv2 : MM → Prop} (hst : ∀ (x1 : Int32) (μ : MM), Inv μ → ∃ (r : Int32) (μ1 μ2 : MM), f_Ro_matched NN x1 μ = some (r, μ1) ∧ f_Mo_matched NN x1 μ1 = some (r, μ2) ∧ Inv2 μ2) (hLx : Lx p s m meth c b L xs ad tc D) (hc9 : cells ≤ 601024 ∧ slots ≤ 7293034) (hi : i + 6 ≤ L) (hI : Inv μ) (hk : ∀ μ2, Inv2 μ2 → Lh p l e s m below meth c b ad tc D i cells slots 1550 [] μ2) : Lh p l e s m below meth c b ad tc D i cells slots 997 [] μ := by
  refine lh_al1 hLx dL_law_997 ?_
  refine lh_al0 hLx dL_law_998 ?_
  refine lh_il hLx dL_law_999 ?_
  refine lh_ic (v := nI 1) hLx dL_law_1001 (by decide) ?_
  refine lh_iadd hLx dL_law_1002 ?_
  refine lh_sld hLx dL_law_1003 (li_in hi hLx.2.2.2 (by decide)) (li_at hi hLx.2.2.2 (by decide)) ?_
  obtain ⟨r, μ1, μ2, h1, h2, hI2⟩ := hst (xs (i + 1)) μ hI
  refine lh_call (as := [av_i (xs (i + 1))]) hLx hc9 dL_law_1004 lcv_X11_matched lm_120 k_0 rfl rfl (by decide) rfl (Nat.le_of_ble_eq_true rfl) rfl (s_Ro_matched (D := 200) (by decide) NN h1) (fun r9 μ9 hp => ?_)
  rw [hp.1, hp.2]
  clear hp r9 μ9
  refine lh_al2 hLx dL_law_1007 ?_
  refine lh_al0 hLx dL_law_1008 ?_
  refine lh_il hLx dL_law_1009 ?_
  refine lh_ic (v := nI 1) hLx dL_law_1011 (by decide) ?_
  refine lh_iadd hLx dL_law_1012 ?_
  refine lh_sld hLx dL_law_1013 (li_in hi hLx.2.2.2 (by decide)) (li_at hi hLx.2.2.2 (by decide)) ?_
  refine lh_call (as := [av_i (xs (i + 1))]) hLx hc9 dL_law_1014 lcv_X12_matched lm_123 k_355 rfl rfl (by decide) rfl (Nat.le_of_ble_eq_true rfl) rfl (s_Mo_matched (D := 200) (by decide) NN h2) (fun r9 μ9 hp => ?_)
  rw [hp.1, hp.2]
  clear hp r9 μ9
  refine lh_icmp_eq (tgt := 1550) hLx dL_law_1017 (by decide) (fun _ => ?_) (fun q => absurd rfl q)
  exact hk _ hI2
set_option maxRecDepth 100000 in
set_option maxHeartbeats 4000000 in
theorem lc_clash {p : Program} {l : Launch} {e : Env} {s : State} {m : MethodId} {below : List Frame} {meth : Method} {c : Code} {b L : Nat} {xs : Nat → Int32} {ad : Nat → Nat} {tc : Nat → ClassId} {D : va_G} {i cells slots : Nat} {μ : MM} {Inv Inv2 : MM → Prop} (hst : ∀ (μ : MM), Inv μ → ∃ (r : Int32) (μ1 μ2 : MM), f_Ro_clash NN μ = some (r, μ1) ∧ f_Mo_clash NN μ1 = some (r, μ2) ∧ Inv2 μ2) (hLx : Lx p s m meth c b L xs ad tc D) (hc9 : cells ≤ 601024 ∧ slots ≤ 7293034) (hi : i + 6 ≤ L) (hI : Inv μ) (hk : ∀ μ2, Inv2 μ2 → Lh p l e s m below meth c b ad tc D i cells slots 1550 [] μ2) : Lh p l e s m below meth c b ad tc D i cells slots 1022 [] μ := by
  refine lh_al1 hLx dL_law_1022 ?_
  obtain ⟨r, μ1, μ2, h1, h2, hI2⟩ := hst  μ hI
  refine lh_call (as := []) hLx hc9 dL_law_1023 lcv_X11_clash lm_124 k_0 rfl rfl (by decide) rfl (Nat.le_of_ble_eq_true rfl) rfl (s_Ro_clash (D := 200) (by decide) NN h1) (fun r9 μ9 hp => ?_)
  rw [hp.1, hp.2]
  clear hp r9 μ9
  refine lh_al2 hLx dL_law_1026 ?_
  refine lh_call (as := []) hLx hc9 dL_law_1027 lcv_X12_clash lm_127 k_355 rfl rfl (by decide) rfl (Nat.le_of_ble_eq_true rfl) rfl (s_Mo_clash (D := 200) (by decide) NN h2) (fun r9 μ9 hp => ?_)
  rw [hp.1, hp.2]
  clear hp r9 μ9
  refine lh_icmp_eq (tgt := 1550) hLx dL_law_1030 (by decide) (fun _ => ?_) (fun q => absurd rfl q)
  exact hk _ hI2
set_option maxRecDepth 100000 in
set_option maxHeartbeats 4000000 in
theorem lc_blank {p : Program} {l : Launch} {e : Env} {s : State} {m : MethodId} {below : List Frame} {meth : Method} {c : Code} {b L : Nat} {xs : Nat → Int32} {ad : Nat → Nat} {tc : Nat → ClassId} {D : va_G} {i cells slots : Nat} {μ : MM} {Inv Inv2 : MM → Prop} (hst : ∀ (x1 : Int32) (μ : MM), Inv μ → ∃ (r : Int32) (μ1 μ2 : MM), f_Ro_blank NN x1 μ = some (r, μ1) ∧ f_Mo_blank NN x1 μ1 = some (r, μ2) ∧ Inv2 μ2) (hLx : Lx p s m meth c b L xs ad tc D) (hc9 : cells ≤ 601024 ∧ slots ≤ 7293034) (hi : i + 6 ≤ L) (hI : Inv μ) (hk : ∀ μ2, Inv2 μ2 → Lh p l e s m below meth c b ad tc D i cells slots 1550 [] μ2) : Lh p l e s m below meth c b ad tc D i cells slots 1035 [] μ := by
  refine lh_al1 hLx dL_law_1035 ?_
  refine lh_al0 hLx dL_law_1036 ?_
  refine lh_il hLx dL_law_1037 ?_
  refine lh_ic (v := nI 1) hLx dL_law_1039 (by decide) ?_
  refine lh_iadd hLx dL_law_1040 ?_
  refine lh_sld hLx dL_law_1041 (li_in hi hLx.2.2.2 (by decide)) (li_at hi hLx.2.2.2 (by decide)) ?_
  obtain ⟨r, μ1, μ2, h1, h2, hI2⟩ := hst (xs (i + 1)) μ hI
  refine lh_call (as := [av_i (xs (i + 1))]) hLx hc9 dL_law_1042 lcv_X11_blank lm_128 k_0 rfl rfl (by decide) rfl (Nat.le_of_ble_eq_true rfl) rfl (s_Ro_blank (D := 200) (by decide) NN h1) (fun r9 μ9 hp => ?_)
  rw [hp.1, hp.2]
  clear hp r9 μ9
  refine lh_al2 hLx dL_law_1045 ?_
  refine lh_al0 hLx dL_law_1046 ?_
  refine lh_il hLx dL_law_1047 ?_
  refine lh_ic (v := nI 1) hLx dL_law_1049 (by decide) ?_
  refine lh_iadd hLx dL_law_1050 ?_
  refine lh_sld hLx dL_law_1051 (li_in hi hLx.2.2.2 (by decide)) (li_at hi hLx.2.2.2 (by decide)) ?_
  refine lh_call (as := [av_i (xs (i + 1))]) hLx hc9 dL_law_1052 lcv_X12_blank lm_131 k_355 rfl rfl (by decide) rfl (Nat.le_of_ble_eq_true rfl) rfl (s_Mo_blank (D := 200) (by decide) NN h2) (fun r9 μ9 hp => ?_)
  rw [hp.1, hp.2]
  clear hp r9 μ9
  refine lh_icmp_eq (tgt := 1550) hLx dL_law_1055 (by decide) (fun _ => ?_) (fun q => absurd rfl q)
  exact hk _ hI2
set_option maxRecDepth 100000 in
set_option maxHeartbeats 4000000 in
theorem lc_stood {p : Program} {l : Launch} {e : Env} {s : State} {m : MethodId} {below : List Frame} {meth : Method} {c : Code} {b L : Nat} {xs : Nat → Int32} {ad : Nat → Nat} {tc : Nat → ClassId} {D : va_G} {i cells slots : Nat} {μ : MM} {Inv Inv2 : MM → Prop} (hst : ∀ (x1 : Int32) (x2 : Int32) (x3 : Int32) (μ : MM), Inv μ → (x3 = 0 ∨ x3 = 1) → ∃ (r : Int32) (μ1 μ2 : MM), f_Ro_stood NN x1 x2 x3 μ = some (r, μ1) ∧ f_Mo_stood NN x1 x2 x3 μ1 = some (r, μ2) ∧ Inv2 μ2) (hLx : Lx p s m meth c b L xs ad tc D) (hc9 : cells ≤ 601024 ∧ slots ≤ 7293034) (hi : i + 6 ≤ L) (hI : Inv μ) (hk : ∀ μ2, Inv2 μ2 → Lh p l e s m below meth c b ad tc D i cells slots 1550 [] μ2) : Lh p l e s m below meth c b ad tc D i cells slots 1060 [] μ := by
  refine lh_al1 hLx dL_law_1060 ?_
  refine lh_al0 hLx dL_law_1061 ?_
  refine lh_il hLx dL_law_1062 ?_
  refine lh_ic (v := nI 1) hLx dL_law_1064 (by decide) ?_
  refine lh_iadd hLx dL_law_1065 ?_
  refine lh_sld hLx dL_law_1066 (li_in hi hLx.2.2.2 (by decide)) (li_at hi hLx.2.2.2 (by decide)) ?_
  refine lh_al0 hLx dL_law_1067 ?_
  refine lh_il hLx dL_law_1068 ?_
  refine lh_ic (v := nI 2) hLx dL_law_1070 (by decide) ?_
  refine lh_iadd hLx dL_law_1071 ?_
  refine lh_sld hLx dL_law_1072 (li_in hi hLx.2.2.2 (by decide)) (li_at hi hLx.2.2.2 (by decide)) ?_
  refine lh_al0 hLx dL_law_1073 ?_
  refine lh_il hLx dL_law_1074 ?_
  refine lh_ic (v := nI 3) hLx dL_law_1076 (by decide) ?_
  refine lh_iadd hLx dL_law_1077 ?_
  refine lh_sld hLx dL_law_1078 (li_in hi hLx.2.2.2 (by decide)) (li_at hi hLx.2.2.2 (by decide)) ?_
  refine lh_if_eq (tgt := 1086) hLx dL_law_1079 (by decide) (fun cb1079 => ?_) (fun cb1079 => ?_)
  · refine lh_ic (v := 0) hLx dL_law_1086 (by decide) ?_
    obtain ⟨r, μ1, μ2, h1, h2, hI2⟩ := hst (xs (i + 1)) (xs (i + 2)) 0 μ hI (Or.inl rfl)
    refine lh_call (as := [av_i (xs (i + 1)), av_i (xs (i + 2)), av_i 0]) hLx hc9 dL_law_1087 lcv_X11_stood lm_132 k_0 rfl rfl (by decide) rfl (Nat.le_of_ble_eq_true rfl) rfl (s_Ro_stood (D := 200) (by decide) NN h1) (fun r9 μ9 hp => ?_)
    rw [hp.1, hp.2]
    clear hp r9 μ9
    refine lh_al2 hLx dL_law_1090 ?_
    refine lh_al0 hLx dL_law_1091 ?_
    refine lh_il hLx dL_law_1092 ?_
    refine lh_ic (v := nI 1) hLx dL_law_1094 (by decide) ?_
    refine lh_iadd hLx dL_law_1095 ?_
    refine lh_sld hLx dL_law_1096 (li_in hi hLx.2.2.2 (by decide)) (li_at hi hLx.2.2.2 (by decide)) ?_
    refine lh_al0 hLx dL_law_1097 ?_
    refine lh_il hLx dL_law_1098 ?_
    refine lh_ic (v := nI 2) hLx dL_law_1100 (by decide) ?_
    refine lh_iadd hLx dL_law_1101 ?_
    refine lh_sld hLx dL_law_1102 (li_in hi hLx.2.2.2 (by decide)) (li_at hi hLx.2.2.2 (by decide)) ?_
    refine lh_al0 hLx dL_law_1103 ?_
    refine lh_il hLx dL_law_1104 ?_
    refine lh_ic (v := nI 3) hLx dL_law_1106 (by decide) ?_
    refine lh_iadd hLx dL_law_1107 ?_
    refine lh_sld hLx dL_law_1108 (li_in hi hLx.2.2.2 (by decide)) (li_at hi hLx.2.2.2 (by decide)) ?_
    refine lh_if_eq (tgt := 1116) hLx dL_law_1109 (by decide) (fun _ => ?_) (fun q => absurd cb1079 q)
    refine lh_ic (v := 0) hLx dL_law_1116 (by decide) ?_
    refine lh_call (as := [av_i (xs (i + 1)), av_i (xs (i + 2)), av_i 0]) hLx hc9 dL_law_1117 lcv_X12_stood lm_136 k_355 rfl rfl (by decide) rfl (Nat.le_of_ble_eq_true rfl) rfl (s_Mo_stood (D := 200) (by decide) NN h2) (fun r9 μ9 hp => ?_)
    rw [hp.1, hp.2]
    clear hp r9 μ9
    refine lh_icmp_eq (tgt := 1550) hLx dL_law_1120 (by decide) (fun _ => ?_) (fun q => absurd rfl q)
    exact hk _ hI2
  · refine lh_ic (v := 1) hLx dL_law_1082 (by decide) ?_
    refine lh_goto (tgt := 1087) hLx dL_law_1083 (by decide) ?_
    obtain ⟨r, μ1, μ2, h1, h2, hI2⟩ := hst (xs (i + 1)) (xs (i + 2)) 1 μ hI (Or.inr rfl)
    refine lh_call (as := [av_i (xs (i + 1)), av_i (xs (i + 2)), av_i 1]) hLx hc9 dL_law_1087 lcv_X11_stood lm_132 k_0 rfl rfl (by decide) rfl (Nat.le_of_ble_eq_true rfl) rfl (s_Ro_stood (D := 200) (by decide) NN h1) (fun r9 μ9 hp => ?_)
    rw [hp.1, hp.2]
    clear hp r9 μ9
    refine lh_al2 hLx dL_law_1090 ?_
    refine lh_al0 hLx dL_law_1091 ?_
    refine lh_il hLx dL_law_1092 ?_
    refine lh_ic (v := nI 1) hLx dL_law_1094 (by decide) ?_
    refine lh_iadd hLx dL_law_1095 ?_
    refine lh_sld hLx dL_law_1096 (li_in hi hLx.2.2.2 (by decide)) (li_at hi hLx.2.2.2 (by decide)) ?_
    refine lh_al0 hLx dL_law_1097 ?_
    refine lh_il hLx dL_law_1098 ?_
    refine lh_ic (v := nI 2) hLx dL_law_1100 (by decide) ?_
    refine lh_iadd hLx dL_law_1101 ?_
    refine lh_sld hLx dL_law_1102 (li_in hi hLx.2.2.2 (by decide)) (li_at hi hLx.2.2.2 (by decide)) ?_
    refine lh_al0 hLx dL_law_1103 ?_
    refine lh_il hLx dL_law_1104 ?_
    refine lh_ic (v := nI 3) hLx dL_law_1106 (by decide) ?_
    refine lh_iadd hLx dL_law_1107 ?_
    refine lh_sld hLx dL_law_1108 (li_in hi hLx.2.2.2 (by decide)) (li_at hi hLx.2.2.2 (by decide)) ?_
    refine lh_if_eq (tgt := 1116) hLx dL_law_1109 (by decide) (fun q => absurd q cb1079) (fun _ => ?_)
    refine lh_ic (v := 1) hLx dL_law_1112 (by decide) ?_
    refine lh_goto (tgt := 1117) hLx dL_law_1113 (by decide) ?_
    refine lh_call (as := [av_i (xs (i + 1)), av_i (xs (i + 2)), av_i 1]) hLx hc9 dL_law_1117 lcv_X12_stood lm_136 k_355 rfl rfl (by decide) rfl (Nat.le_of_ble_eq_true rfl) rfl (s_Mo_stood (D := 200) (by decide) NN h2) (fun r9 μ9 hp => ?_)
    rw [hp.1, hp.2]
    clear hp r9 μ9
    refine lh_icmp_eq (tgt := 1550) hLx dL_law_1120 (by decide) (fun _ => ?_) (fun q => absurd rfl q)
    exact hk _ hI2
set_option maxRecDepth 100000 in
set_option maxHeartbeats 4000000 in
theorem lc_once {p : Program} {l : Launch} {e : Env} {s : State} {m : MethodId} {below : List Frame} {meth : Method} {c : Code} {b L : Nat} {xs : Nat → Int32} {ad : Nat → Nat} {tc : Nat → ClassId} {D : va_G} {i cells slots : Nat} {μ : MM} {Inv Inv2 : MM → Prop} (hst : ∀ (x1 : Int32) (x2 : Int32) (μ : MM), Inv μ → ∃ (r : Int32) (μ1 μ2 : MM), f_Ro_once NN x1 x2 μ = some (r, μ1) ∧ f_Mo_once NN x1 x2 μ1 = some (r, μ2) ∧ Inv2 μ2) (hLx : Lx p s m meth c b L xs ad tc D) (hc9 : cells ≤ 601024 ∧ slots ≤ 7293034) (hi : i + 6 ≤ L) (hI : Inv μ) (hk : ∀ μ2, Inv2 μ2 → Lh p l e s m below meth c b ad tc D i cells slots 1550 [] μ2) : Lh p l e s m below meth c b ad tc D i cells slots 1125 [] μ := by
  refine lh_al1 hLx dL_law_1125 ?_
  refine lh_al0 hLx dL_law_1126 ?_
  refine lh_il hLx dL_law_1127 ?_
  refine lh_ic (v := nI 1) hLx dL_law_1129 (by decide) ?_
  refine lh_iadd hLx dL_law_1130 ?_
  refine lh_sld hLx dL_law_1131 (li_in hi hLx.2.2.2 (by decide)) (li_at hi hLx.2.2.2 (by decide)) ?_
  refine lh_al0 hLx dL_law_1132 ?_
  refine lh_il hLx dL_law_1133 ?_
  refine lh_ic (v := nI 2) hLx dL_law_1135 (by decide) ?_
  refine lh_iadd hLx dL_law_1136 ?_
  refine lh_sld hLx dL_law_1137 (li_in hi hLx.2.2.2 (by decide)) (li_at hi hLx.2.2.2 (by decide)) ?_
  obtain ⟨r, μ1, μ2, h1, h2, hI2⟩ := hst (xs (i + 1)) (xs (i + 2)) μ hI
  refine lh_call (as := [av_i (xs (i + 1)), av_i (xs (i + 2))]) hLx hc9 dL_law_1138 lcv_X11_once lm_137 k_0 rfl rfl (by decide) rfl (Nat.le_of_ble_eq_true rfl) rfl (s_Ro_once (D := 200) (by decide) NN h1) (fun r9 μ9 hp => ?_)
  rw [hp.1, hp.2]
  clear hp r9 μ9
  refine lh_al2 hLx dL_law_1141 ?_
  refine lh_al0 hLx dL_law_1142 ?_
  refine lh_il hLx dL_law_1143 ?_
  refine lh_ic (v := nI 1) hLx dL_law_1145 (by decide) ?_
  refine lh_iadd hLx dL_law_1146 ?_
  refine lh_sld hLx dL_law_1147 (li_in hi hLx.2.2.2 (by decide)) (li_at hi hLx.2.2.2 (by decide)) ?_
  refine lh_al0 hLx dL_law_1148 ?_
  refine lh_il hLx dL_law_1149 ?_
  refine lh_ic (v := nI 2) hLx dL_law_1151 (by decide) ?_
  refine lh_iadd hLx dL_law_1152 ?_
  refine lh_sld hLx dL_law_1153 (li_in hi hLx.2.2.2 (by decide)) (li_at hi hLx.2.2.2 (by decide)) ?_
  refine lh_call (as := [av_i (xs (i + 1)), av_i (xs (i + 2))]) hLx hc9 dL_law_1154 lcv_X12_once lm_140 k_355 rfl rfl (by decide) rfl (Nat.le_of_ble_eq_true rfl) rfl (s_Mo_once (D := 200) (by decide) NN h2) (fun r9 μ9 hp => ?_)
  rw [hp.1, hp.2]
  clear hp r9 μ9
  refine lh_icmp_eq (tgt := 1550) hLx dL_law_1157 (by decide) (fun _ => ?_) (fun q => absurd rfl q)
  exact hk _ hI2
set_option maxRecDepth 100000 in
set_option maxHeartbeats 4000000 in
theorem lc_probe {p : Program} {l : Launch} {e : Env} {s : State} {m : MethodId} {below : List Frame} {meth : Method} {c : Code} {b L : Nat} {xs : Nat → Int32} {ad : Nat → Nat} {tc : Nat → ClassId} {D : va_G} {i cells slots : Nat} {μ : MM} {Inv Inv2 : MM → Prop} (hst : ∀ (x1 : Int32) (μ : MM), Inv μ → ∃ (r : Int32) (μ1 μ2 : MM), f_Ro_probe NN x1 μ = some (r, μ1) ∧ f_Mo_probe NN x1 μ1 = some (r, μ2) ∧ Inv2 μ2) (hLx : Lx p s m meth c b L xs ad tc D) (hc9 : cells ≤ 601024 ∧ slots ≤ 7293034) (hi : i + 6 ≤ L) (hI : Inv μ) (hk : ∀ μ2, Inv2 μ2 → Lh p l e s m below meth c b ad tc D i cells slots 1550 [] μ2) : Lh p l e s m below meth c b ad tc D i cells slots 1162 [] μ := by
  refine lh_al1 hLx dL_law_1162 ?_
  refine lh_al0 hLx dL_law_1163 ?_
  refine lh_il hLx dL_law_1164 ?_
  refine lh_ic (v := nI 1) hLx dL_law_1166 (by decide) ?_
  refine lh_iadd hLx dL_law_1167 ?_
  refine lh_sld hLx dL_law_1168 (li_in hi hLx.2.2.2 (by decide)) (li_at hi hLx.2.2.2 (by decide)) ?_
  obtain ⟨r, μ1, μ2, h1, h2, hI2⟩ := hst (xs (i + 1)) μ hI
  refine lh_call (as := [av_i (xs (i + 1))]) hLx hc9 dL_law_1169 lcv_X11_probe lm_141 k_0 rfl rfl (by decide) rfl (Nat.le_of_ble_eq_true rfl) rfl (s_Ro_probe (D := 200) (by decide) NN h1) (fun r9 μ9 hp => ?_)
  rw [hp.1, hp.2]
  clear hp r9 μ9
  refine lh_al2 hLx dL_law_1172 ?_
  refine lh_al0 hLx dL_law_1173 ?_
  refine lh_il hLx dL_law_1174 ?_
  refine lh_ic (v := nI 1) hLx dL_law_1176 (by decide) ?_
  refine lh_iadd hLx dL_law_1177 ?_
  refine lh_sld hLx dL_law_1178 (li_in hi hLx.2.2.2 (by decide)) (li_at hi hLx.2.2.2 (by decide)) ?_
  refine lh_call (as := [av_i (xs (i + 1))]) hLx hc9 dL_law_1179 lcv_X12_probe lm_144 k_355 rfl rfl (by decide) rfl (Nat.le_of_ble_eq_true rfl) rfl (s_Mo_probe (D := 200) (by decide) NN h2) (fun r9 μ9 hp => ?_)
  rw [hp.1, hp.2]
  clear hp r9 μ9
  refine lh_icmp_eq (tgt := 1550) hLx dL_law_1182 (by decide) (fun _ => ?_) (fun q => absurd rfl q)
  exact hk _ hI2
set_option maxRecDepth 100000 in
set_option maxHeartbeats 4000000 in
theorem lc_saves {p : Program} {l : Launch} {e : Env} {s : State} {m : MethodId} {below : List Frame} {meth : Method} {c : Code} {b L : Nat} {xs : Nat → Int32} {ad : Nat → Nat} {tc : Nat → ClassId} {D : va_G} {i cells slots : Nat} {μ : MM} {Inv Inv2 : MM → Prop} (hst : ∀ (x1 : Int32) (x2 : Int32) (μ : MM), Inv μ → ∃ (r : Int32) (μ1 μ2 : MM), f_Ro_saves NN x1 x2 μ = some (r, μ1) ∧ f_Mo_saves NN x1 x2 μ1 = some (r, μ2) ∧ Inv2 μ2) (hLx : Lx p s m meth c b L xs ad tc D) (hc9 : cells ≤ 601024 ∧ slots ≤ 7293034) (hi : i + 6 ≤ L) (hI : Inv μ) (hk : ∀ μ2, Inv2 μ2 → Lh p l e s m below meth c b ad tc D i cells slots 1550 [] μ2) : Lh p l e s m below meth c b ad tc D i cells slots 1187 [] μ := by
  refine lh_al1 hLx dL_law_1187 ?_
  refine lh_al0 hLx dL_law_1188 ?_
  refine lh_il hLx dL_law_1189 ?_
  refine lh_ic (v := nI 1) hLx dL_law_1191 (by decide) ?_
  refine lh_iadd hLx dL_law_1192 ?_
  refine lh_sld hLx dL_law_1193 (li_in hi hLx.2.2.2 (by decide)) (li_at hi hLx.2.2.2 (by decide)) ?_
  refine lh_al0 hLx dL_law_1194 ?_
  refine lh_il hLx dL_law_1195 ?_
  refine lh_ic (v := nI 2) hLx dL_law_1197 (by decide) ?_
  refine lh_iadd hLx dL_law_1198 ?_
  refine lh_sld hLx dL_law_1199 (li_in hi hLx.2.2.2 (by decide)) (li_at hi hLx.2.2.2 (by decide)) ?_
  obtain ⟨r, μ1, μ2, h1, h2, hI2⟩ := hst (xs (i + 1)) (xs (i + 2)) μ hI
  refine lh_call (as := [av_i (xs (i + 1)), av_i (xs (i + 2))]) hLx hc9 dL_law_1200 lcv_X11_saves lm_145 k_0 rfl rfl (by decide) rfl (Nat.le_of_ble_eq_true rfl) rfl (s_Ro_saves (D := 200) (by decide) NN h1) (fun r9 μ9 hp => ?_)
  rw [hp.1, hp.2]
  clear hp r9 μ9
  refine lh_al2 hLx dL_law_1203 ?_
  refine lh_al0 hLx dL_law_1204 ?_
  refine lh_il hLx dL_law_1205 ?_
  refine lh_ic (v := nI 1) hLx dL_law_1207 (by decide) ?_
  refine lh_iadd hLx dL_law_1208 ?_
  refine lh_sld hLx dL_law_1209 (li_in hi hLx.2.2.2 (by decide)) (li_at hi hLx.2.2.2 (by decide)) ?_
  refine lh_al0 hLx dL_law_1210 ?_
  refine lh_il hLx dL_law_1211 ?_
  refine lh_ic (v := nI 2) hLx dL_law_1213 (by decide) ?_
  refine lh_iadd hLx dL_law_1214 ?_
  refine lh_sld hLx dL_law_1215 (li_in hi hLx.2.2.2 (by decide)) (li_at hi hLx.2.2.2 (by decide)) ?_
  refine lh_call (as := [av_i (xs (i + 1)), av_i (xs (i + 2))]) hLx hc9 dL_law_1216 lcv_X12_saves lm_148 k_355 rfl rfl (by decide) rfl (Nat.le_of_ble_eq_true rfl) rfl (s_Mo_saves (D := 200) (by decide) NN h2) (fun r9 μ9 hp => ?_)
  rw [hp.1, hp.2]
  clear hp r9 μ9
  refine lh_icmp_eq (tgt := 1550) hLx dL_law_1219 (by decide) (fun _ => ?_) (fun q => absurd rfl q)
  exact hk _ hI2
set_option maxRecDepth 100000 in
set_option maxHeartbeats 4000000 in
theorem lc_round {p : Program} {l : Launch} {e : Env} {s : State} {m : MethodId} {below : List Frame} {meth : Method} {c : Code} {b L : Nat} {xs : Nat → Int32} {ad : Nat → Nat} {tc : Nat → ClassId} {D : va_G} {i cells slots : Nat} {μ : MM} {Inv Inv2 : MM → Prop} (hst : ∀ (μ : MM), Inv μ → ∃ (r : Int32) (μ1 μ2 : MM), f_Ro_round NN μ = some (r, μ1) ∧ f_Mo_round NN μ1 = some (r, μ2) ∧ Inv2 μ2) (hLx : Lx p s m meth c b L xs ad tc D) (hc9 : cells ≤ 601024 ∧ slots ≤ 7293034) (hi : i + 6 ≤ L) (hI : Inv μ) (hk : ∀ μ2, Inv2 μ2 → Lh p l e s m below meth c b ad tc D i cells slots 1550 [] μ2) : Lh p l e s m below meth c b ad tc D i cells slots 1224 [] μ := by
  refine lh_al1 hLx dL_law_1224 ?_
  obtain ⟨r, μ1, μ2, h1, h2, hI2⟩ := hst  μ hI
  refine lh_call (as := []) hLx hc9 dL_law_1225 lcv_X11_round lm_149 k_0 rfl rfl (by decide) rfl (Nat.le_of_ble_eq_true rfl) rfl (s_Ro_round (D := 200) (by decide) NN h1) (fun r9 μ9 hp => ?_)
  rw [hp.1, hp.2]
  clear hp r9 μ9
  refine lh_al2 hLx dL_law_1228 ?_
  refine lh_call (as := []) hLx hc9 dL_law_1229 lcv_X12_round lm_152 k_355 rfl rfl (by decide) rfl (Nat.le_of_ble_eq_true rfl) rfl (s_Mo_round (D := 200) (by decide) NN h2) (fun r9 μ9 hp => ?_)
  rw [hp.1, hp.2]
  clear hp r9 μ9
  refine lh_icmp_eq (tgt := 1550) hLx dL_law_1232 (by decide) (fun _ => ?_) (fun q => absurd rfl q)
  exact hk _ hI2
set_option maxRecDepth 100000 in
set_option maxHeartbeats 4000000 in
theorem lc_nowhere {p : Program} {l : Launch} {e : Env} {s : State} {m : MethodId} {below : List Frame} {meth : Method} {c : Code} {b L : Nat} {xs : Nat → Int32} {ad : Nat → Nat} {tc : Nat → ClassId} {D : va_G} {i cells slots : Nat} {μ : MM} {Inv Inv2 : MM → Prop} (hst : ∀ (μ : MM), Inv μ → ∃ (r : Int32) (μ1 μ2 : MM), f_Ro_nowhere NN μ = some (r, μ1) ∧ f_Mo_nowhere NN μ1 = some (r, μ2) ∧ Inv2 μ2) (hLx : Lx p s m meth c b L xs ad tc D) (hc9 : cells ≤ 601024 ∧ slots ≤ 7293034) (hi : i + 6 ≤ L) (hI : Inv μ) (hk : ∀ μ2, Inv2 μ2 → Lh p l e s m below meth c b ad tc D i cells slots 1550 [] μ2) : Lh p l e s m below meth c b ad tc D i cells slots 1237 [] μ := by
  refine lh_al1 hLx dL_law_1237 ?_
  obtain ⟨r, μ1, μ2, h1, h2, hI2⟩ := hst  μ hI
  refine lh_call (as := []) hLx hc9 dL_law_1238 lcv_X11_nowhere lm_153 k_0 rfl rfl (by decide) rfl (Nat.le_of_ble_eq_true rfl) rfl (s_Ro_nowhere (D := 200) (by decide) NN h1) (fun r9 μ9 hp => ?_)
  rw [hp.1, hp.2]
  clear hp r9 μ9
  refine lh_al2 hLx dL_law_1241 ?_
  refine lh_call (as := []) hLx hc9 dL_law_1242 lcv_X12_nowhere lm_156 k_355 rfl rfl (by decide) rfl (Nat.le_of_ble_eq_true rfl) rfl (s_Mo_nowhere (D := 200) (by decide) NN h2) (fun r9 μ9 hp => ?_)
  rw [hp.1, hp.2]
  clear hp r9 μ9
  refine lh_icmp_eq (tgt := 1550) hLx dL_law_1245 (by decide) (fun _ => ?_) (fun q => absurd rfl q)
  exact hk _ hI2
set_option maxRecDepth 100000 in
set_option maxHeartbeats 4000000 in
theorem lc_forged {p : Program} {l : Launch} {e : Env} {s : State} {m : MethodId} {below : List Frame} {meth : Method} {c : Code} {b L : Nat} {xs : Nat → Int32} {ad : Nat → Nat} {tc : Nat → ClassId} {D : va_G} {i cells slots : Nat} {μ : MM} {Inv Inv2 : MM → Prop} (hst : ∀ (μ : MM), Inv μ → ∃ (r : Int32) (μ1 μ2 : MM), f_Ro_forged NN μ = some (r, μ1) ∧ f_Mo_forged NN μ1 = some (r, μ2) ∧ Inv2 μ2) (hLx : Lx p s m meth c b L xs ad tc D) (hc9 : cells ≤ 601024 ∧ slots ≤ 7293034) (hi : i + 6 ≤ L) (hI : Inv μ) (hk : ∀ μ2, Inv2 μ2 → Lh p l e s m below meth c b ad tc D i cells slots 1550 [] μ2) : Lh p l e s m below meth c b ad tc D i cells slots 1250 [] μ := by
  refine lh_al1 hLx dL_law_1250 ?_
  obtain ⟨r, μ1, μ2, h1, h2, hI2⟩ := hst  μ hI
  refine lh_call (as := []) hLx hc9 dL_law_1251 lcv_X11_forged lm_157 k_0 rfl rfl (by decide) rfl (Nat.le_of_ble_eq_true rfl) rfl (s_Ro_forged (D := 200) (by decide) NN h1) (fun r9 μ9 hp => ?_)
  rw [hp.1, hp.2]
  clear hp r9 μ9
  refine lh_al2 hLx dL_law_1254 ?_
  refine lh_call (as := []) hLx hc9 dL_law_1255 lcv_X12_forged lm_160 k_355 rfl rfl (by decide) rfl (Nat.le_of_ble_eq_true rfl) rfl (s_Mo_forged (D := 200) (by decide) NN h2) (fun r9 μ9 hp => ?_)
  rw [hp.1, hp.2]
  clear hp r9 μ9
  refine lh_icmp_eq (tgt := 1550) hLx dL_law_1258 (by decide) (fun _ => ?_) (fun q => absurd rfl q)
  exact hk _ hI2
set_option maxRecDepth 100000 in
set_option maxHeartbeats 4000000 in
theorem lc_alone {p : Program} {l : Launch} {e : Env} {s : State} {m : MethodId} {below : List Frame} {meth : Method} {c : Code} {b L : Nat} {xs : Nat → Int32} {ad : Nat → Nat} {tc : Nat → ClassId} {D : va_G} {i cells slots : Nat} {μ : MM} {Inv Inv2 : MM → Prop} (hst : ∀ (x1 : Int32) (μ : MM), Inv μ → ∃ (r : Int32) (μ1 μ2 : MM), f_Ro_alone NN x1 μ = some (r, μ1) ∧ f_Mo_alone NN x1 μ1 = some (r, μ2) ∧ Inv2 μ2) (hLx : Lx p s m meth c b L xs ad tc D) (hc9 : cells ≤ 601024 ∧ slots ≤ 7293034) (hi : i + 6 ≤ L) (hI : Inv μ) (hk : ∀ μ2, Inv2 μ2 → Lh p l e s m below meth c b ad tc D i cells slots 1550 [] μ2) : Lh p l e s m below meth c b ad tc D i cells slots 1263 [] μ := by
  refine lh_al1 hLx dL_law_1263 ?_
  refine lh_al0 hLx dL_law_1264 ?_
  refine lh_il hLx dL_law_1265 ?_
  refine lh_ic (v := nI 1) hLx dL_law_1267 (by decide) ?_
  refine lh_iadd hLx dL_law_1268 ?_
  refine lh_sld hLx dL_law_1269 (li_in hi hLx.2.2.2 (by decide)) (li_at hi hLx.2.2.2 (by decide)) ?_
  obtain ⟨r, μ1, μ2, h1, h2, hI2⟩ := hst (xs (i + 1)) μ hI
  refine lh_call (as := [av_i (xs (i + 1))]) hLx hc9 dL_law_1270 lcv_X11_alone lm_161 k_0 rfl rfl (by decide) rfl (Nat.le_of_ble_eq_true rfl) rfl (s_Ro_alone (D := 200) (by decide) NN h1) (fun r9 μ9 hp => ?_)
  rw [hp.1, hp.2]
  clear hp r9 μ9
  refine lh_al2 hLx dL_law_1273 ?_
  refine lh_al0 hLx dL_law_1274 ?_
  refine lh_il hLx dL_law_1275 ?_
  refine lh_ic (v := nI 1) hLx dL_law_1277 (by decide) ?_
  refine lh_iadd hLx dL_law_1278 ?_
  refine lh_sld hLx dL_law_1279 (li_in hi hLx.2.2.2 (by decide)) (li_at hi hLx.2.2.2 (by decide)) ?_
  refine lh_call (as := [av_i (xs (i + 1))]) hLx hc9 dL_law_1280 lcv_X12_alone lm_164 k_355 rfl rfl (by decide) rfl (Nat.le_of_ble_eq_true rfl) rfl (s_Mo_alone (D := 200) (by decide) NN h2) (fun r9 μ9 hp => ?_)
  rw [hp.1, hp.2]
  clear hp r9 μ9
  refine lh_icmp_eq (tgt := 1550) hLx dL_law_1283 (by decide) (fun _ => ?_) (fun q => absurd rfl q)
  exact hk _ hI2
set_option maxRecDepth 100000 in
set_option maxHeartbeats 4000000 in
theorem lc_suits {p : Program} {l : Launch} {e : Env} {s : State} {m : MethodId} {below : List Frame} {meth : Method} {c : Code} {b L : Nat} {xs : Nat → Int32} {ad : Nat → Nat} {tc : Nat → ClassId} {D : va_G} {i cells slots : Nat} {μ : MM} {Inv Inv2 : MM → Prop} (hst : ∀ (x1 : Int32) (μ : MM), Inv μ → ∃ (r : Int32) (μ1 μ2 : MM), f_Ro_suits NN x1 μ = some (r, μ1) ∧ f_Mo_suits NN x1 μ1 = some (r, μ2) ∧ Inv2 μ2) (hLx : Lx p s m meth c b L xs ad tc D) (hc9 : cells ≤ 601024 ∧ slots ≤ 7293034) (hi : i + 6 ≤ L) (hI : Inv μ) (hk : ∀ μ2, Inv2 μ2 → Lh p l e s m below meth c b ad tc D i cells slots 1550 [] μ2) : Lh p l e s m below meth c b ad tc D i cells slots 1288 [] μ := by
  refine lh_al1 hLx dL_law_1288 ?_
  refine lh_al0 hLx dL_law_1289 ?_
  refine lh_il hLx dL_law_1290 ?_
  refine lh_ic (v := nI 1) hLx dL_law_1292 (by decide) ?_
  refine lh_iadd hLx dL_law_1293 ?_
  refine lh_sld hLx dL_law_1294 (li_in hi hLx.2.2.2 (by decide)) (li_at hi hLx.2.2.2 (by decide)) ?_
  obtain ⟨r, μ1, μ2, h1, h2, hI2⟩ := hst (xs (i + 1)) μ hI
  refine lh_call (as := [av_i (xs (i + 1))]) hLx hc9 dL_law_1295 lcv_X11_suits lm_165 k_0 rfl rfl (by decide) rfl (Nat.le_of_ble_eq_true rfl) rfl (s_Ro_suits (D := 200) (by decide) NN h1) (fun r9 μ9 hp => ?_)
  rw [hp.1, hp.2]
  clear hp r9 μ9
  refine lh_al2 hLx dL_law_1298 ?_
  refine lh_al0 hLx dL_law_1299 ?_
  refine lh_il hLx dL_law_1300 ?_
  refine lh_ic (v := nI 1) hLx dL_law_1302 (by decide) ?_
  refine lh_iadd hLx dL_law_1303 ?_
  refine lh_sld hLx dL_law_1304 (li_in hi hLx.2.2.2 (by decide)) (li_at hi hLx.2.2.2 (by decide)) ?_
  refine lh_call (as := [av_i (xs (i + 1))]) hLx hc9 dL_law_1305 lcv_X12_suits lm_168 k_355 rfl rfl (by decide) rfl (Nat.le_of_ble_eq_true rfl) rfl (s_Mo_suits (D := 200) (by decide) NN h2) (fun r9 μ9 hp => ?_)
  rw [hp.1, hp.2]
  clear hp r9 μ9
  refine lh_icmp_eq (tgt := 1550) hLx dL_law_1308 (by decide) (fun _ => ?_) (fun q => absurd rfl q)
  exact hk _ hI2
set_option maxRecDepth 100000 in
set_option maxHeartbeats 4000000 in
theorem lc_wanted {p : Program} {l : Launch} {e : Env} {s : State} {m : MethodId} {below : List Frame} {meth : Method} {c : Code} {b L : Nat} {xs : Nat → Int32} {ad : Nat → Nat} {tc : Nat → ClassId} {D : va_G} {i cells slots : Nat} {μ : MM} {Inv Inv2 : MM → Prop} (hst : ∀ (x1 : Int32) (μ : MM), Inv μ → ∃ (r : Int32) (μ1 μ2 : MM), f_Ro_wanted NN x1 μ = some (r, μ1) ∧ f_Mo_wanted NN x1 μ1 = some (r, μ2) ∧ Inv2 μ2) (hLx : Lx p s m meth c b L xs ad tc D) (hc9 : cells ≤ 601024 ∧ slots ≤ 7293034) (hi : i + 6 ≤ L) (hI : Inv μ) (hk : ∀ μ2, Inv2 μ2 → Lh p l e s m below meth c b ad tc D i cells slots 1550 [] μ2) : Lh p l e s m below meth c b ad tc D i cells slots 1313 [] μ := by
  refine lh_al1 hLx dL_law_1313 ?_
  refine lh_al0 hLx dL_law_1314 ?_
  refine lh_il hLx dL_law_1315 ?_
  refine lh_ic (v := nI 1) hLx dL_law_1317 (by decide) ?_
  refine lh_iadd hLx dL_law_1318 ?_
  refine lh_sld hLx dL_law_1319 (li_in hi hLx.2.2.2 (by decide)) (li_at hi hLx.2.2.2 (by decide)) ?_
  obtain ⟨r, μ1, μ2, h1, h2, hI2⟩ := hst (xs (i + 1)) μ hI
  refine lh_call (as := [av_i (xs (i + 1))]) hLx hc9 dL_law_1320 lcv_X11_wanted lm_169 k_0 rfl rfl (by decide) rfl (Nat.le_of_ble_eq_true rfl) rfl (s_Ro_wanted (D := 200) (by decide) NN h1) (fun r9 μ9 hp => ?_)
  rw [hp.1, hp.2]
  clear hp r9 μ9
  refine lh_al2 hLx dL_law_1323 ?_
  refine lh_al0 hLx dL_law_1324 ?_
  refine lh_il hLx dL_law_1325 ?_
  refine lh_ic (v := nI 1) hLx dL_law_1327 (by decide) ?_
  refine lh_iadd hLx dL_law_1328 ?_
  refine lh_sld hLx dL_law_1329 (li_in hi hLx.2.2.2 (by decide)) (li_at hi hLx.2.2.2 (by decide)) ?_
  refine lh_call (as := [av_i (xs (i + 1))]) hLx hc9 dL_law_1330 lcv_X12_wanted lm_172 k_355 rfl rfl (by decide) rfl (Nat.le_of_ble_eq_true rfl) rfl (s_Mo_wanted (D := 200) (by decide) NN h2) (fun r9 μ9 hp => ?_)
  rw [hp.1, hp.2]
  clear hp r9 μ9
  refine lh_icmp_eq (tgt := 1550) hLx dL_law_1333 (by decide) (fun _ => ?_) (fun q => absurd rfl q)
  exact hk _ hI2
set_option maxRecDepth 100000 in
set_option maxHeartbeats 4000000 in
theorem lc_perhaps {p : Program} {l : Launch} {e : Env} {s : State} {m : MethodId} {below : List Frame} {meth : Method} {c : Code} {b L : Nat} {xs : Nat → Int32} {ad : Nat → Nat} {tc : Nat → ClassId} {D : va_G} {i cells slots : Nat} {μ : MM} {Inv Inv2 : MM → Prop} (hst : ∀ (μ : MM), Inv μ → ∃ (r : Int32) (μ1 μ2 : MM), f_Ro_perhaps NN μ = some (r, μ1) ∧ f_Mo_perhaps NN μ1 = some (r, μ2) ∧ Inv2 μ2) (hLx : Lx p s m meth c b L xs ad tc D) (hc9 : cells ≤ 601024 ∧ slots ≤ 7293034) (hi : i + 6 ≤ L) (hI : Inv μ) (hk : ∀ μ2, Inv2 μ2 → Lh p l e s m below meth c b ad tc D i cells slots 1550 [] μ2) : Lh p l e s m below meth c b ad tc D i cells slots 1338 [] μ := by
  refine lh_al1 hLx dL_law_1338 ?_
  obtain ⟨r, μ1, μ2, h1, h2, hI2⟩ := hst  μ hI
  refine lh_call (as := []) hLx hc9 dL_law_1339 lcv_X11_perhaps lm_173 k_0 rfl rfl (by decide) rfl (Nat.le_of_ble_eq_true rfl) rfl (s_Ro_perhaps (D := 200) (by decide) NN h1) (fun r9 μ9 hp => ?_)
  rw [hp.1, hp.2]
  clear hp r9 μ9
  refine lh_al2 hLx dL_law_1342 ?_
  refine lh_call (as := []) hLx hc9 dL_law_1343 lcv_X12_perhaps lm_176 k_355 rfl rfl (by decide) rfl (Nat.le_of_ble_eq_true rfl) rfl (s_Mo_perhaps (D := 200) (by decide) NN h2) (fun r9 μ9 hp => ?_)
  rw [hp.1, hp.2]
  clear hp r9 μ9
  refine lh_icmp_eq (tgt := 1550) hLx dL_law_1346 (by decide) (fun _ => ?_) (fun q => absurd rfl q)
  exact hk _ hI2
set_option maxRecDepth 100000 in
set_option maxHeartbeats 4000000 in
theorem lc_shared {p : Program} {l : Launch} {e : Env} {s : State} {m : MethodId} {below : List Frame} {meth : Method} {c : Code} {b L : Nat} {xs : Nat → Int32} {ad : Nat → Nat} {tc : Nat → ClassId} {D : va_G} {i cells slots : Nat} {μ : MM} {Inv Inv2 : MM → Prop} (hst : ∀ (x1 : Int32) (x2 : Int32) (μ : MM), Inv μ → ∃ (r : Int32) (μ1 μ2 : MM), f_Ro_shared NN x1 x2 μ = some (r, μ1) ∧ f_Mo_shared NN x1 x2 μ1 = some (r, μ2) ∧ Inv2 μ2) (hLx : Lx p s m meth c b L xs ad tc D) (hc9 : cells ≤ 601024 ∧ slots ≤ 7293034) (hi : i + 6 ≤ L) (hI : Inv μ) (hk : ∀ μ2, Inv2 μ2 → Lh p l e s m below meth c b ad tc D i cells slots 1550 [] μ2) : Lh p l e s m below meth c b ad tc D i cells slots 1351 [] μ := by
  refine lh_al1 hLx dL_law_1351 ?_
  refine lh_al0 hLx dL_law_1352 ?_
  refine lh_il hLx dL_law_1353 ?_
  refine lh_ic (v := nI 1) hLx dL_law_1355 (by decide) ?_
  refine lh_iadd hLx dL_law_1356 ?_
  refine lh_sld hLx dL_law_1357 (li_in hi hLx.2.2.2 (by decide)) (li_at hi hLx.2.2.2 (by decide)) ?_
  refine lh_al0 hLx dL_law_1358 ?_
  refine lh_il hLx dL_law_1359 ?_
  refine lh_ic (v := nI 2) hLx dL_law_1361 (by decide) ?_
  refine lh_iadd hLx dL_law_1362 ?_
  refine lh_sld hLx dL_law_1363 (li_in hi hLx.2.2.2 (by decide)) (li_at hi hLx.2.2.2 (by decide)) ?_
  obtain ⟨r, μ1, μ2, h1, h2, hI2⟩ := hst (xs (i + 1)) (xs (i + 2)) μ hI
  refine lh_call (as := [av_i (xs (i + 1)), av_i (xs (i + 2))]) hLx hc9 dL_law_1364 lcv_X11_shared lm_177 k_0 rfl rfl (by decide) rfl (Nat.le_of_ble_eq_true rfl) rfl (s_Ro_shared (D := 200) (by decide) NN h1) (fun r9 μ9 hp => ?_)
  rw [hp.1, hp.2]
  clear hp r9 μ9
  refine lh_al2 hLx dL_law_1367 ?_
  refine lh_al0 hLx dL_law_1368 ?_
  refine lh_il hLx dL_law_1369 ?_
  refine lh_ic (v := nI 1) hLx dL_law_1371 (by decide) ?_
  refine lh_iadd hLx dL_law_1372 ?_
  refine lh_sld hLx dL_law_1373 (li_in hi hLx.2.2.2 (by decide)) (li_at hi hLx.2.2.2 (by decide)) ?_
  refine lh_al0 hLx dL_law_1374 ?_
  refine lh_il hLx dL_law_1375 ?_
  refine lh_ic (v := nI 2) hLx dL_law_1377 (by decide) ?_
  refine lh_iadd hLx dL_law_1378 ?_
  refine lh_sld hLx dL_law_1379 (li_in hi hLx.2.2.2 (by decide)) (li_at hi hLx.2.2.2 (by decide)) ?_
  refine lh_call (as := [av_i (xs (i + 1)), av_i (xs (i + 2))]) hLx hc9 dL_law_1380 lcv_X12_shared lm_180 k_355 rfl rfl (by decide) rfl (Nat.le_of_ble_eq_true rfl) rfl (s_Mo_shared (D := 200) (by decide) NN h2) (fun r9 μ9 hp => ?_)
  rw [hp.1, hp.2]
  clear hp r9 μ9
  refine lh_icmp_eq (tgt := 1550) hLx dL_law_1383 (by decide) (fun _ => ?_) (fun q => absurd rfl q)
  exact hk _ hI2
set_option maxRecDepth 100000 in
set_option maxHeartbeats 4000000 in
theorem lc_twins {p : Program} {l : Launch} {e : Env} {s : State} {m : MethodId} {below : List Frame} {meth : Method} {c : Code} {b L : Nat} {xs : Nat → Int32} {ad : Nat → Nat} {tc : Nat → ClassId} {D : va_G} {i cells slots : Nat} {μ : MM} {Inv Inv2 : MM → Prop} (hst : ∀ (x1 : Int32) (μ : MM), Inv μ → ∃ (r : Int32) (μ1 μ2 : MM), f_Ro_twins NN x1 μ = some (r, μ1) ∧ f_Mo_twins NN x1 μ1 = some (r, μ2) ∧ Inv2 μ2) (hLx : Lx p s m meth c b L xs ad tc D) (hc9 : cells ≤ 601024 ∧ slots ≤ 7293034) (hi : i + 6 ≤ L) (hI : Inv μ) (hk : ∀ μ2, Inv2 μ2 → Lh p l e s m below meth c b ad tc D i cells slots 1550 [] μ2) : Lh p l e s m below meth c b ad tc D i cells slots 1388 [] μ := by
  refine lh_al1 hLx dL_law_1388 ?_
  refine lh_al0 hLx dL_law_1389 ?_
  refine lh_il hLx dL_law_1390 ?_
  refine lh_ic (v := nI 1) hLx dL_law_1392 (by decide) ?_
  refine lh_iadd hLx dL_law_1393 ?_
  refine lh_sld hLx dL_law_1394 (li_in hi hLx.2.2.2 (by decide)) (li_at hi hLx.2.2.2 (by decide)) ?_
  obtain ⟨r, μ1, μ2, h1, h2, hI2⟩ := hst (xs (i + 1)) μ hI
  refine lh_call (as := [av_i (xs (i + 1))]) hLx hc9 dL_law_1395 lcv_X11_twins lm_181 k_0 rfl rfl (by decide) rfl (Nat.le_of_ble_eq_true rfl) rfl (s_Ro_twins (D := 200) (by decide) NN h1) (fun r9 μ9 hp => ?_)
  rw [hp.1, hp.2]
  clear hp r9 μ9
  refine lh_al2 hLx dL_law_1398 ?_
  refine lh_al0 hLx dL_law_1399 ?_
  refine lh_il hLx dL_law_1400 ?_
  refine lh_ic (v := nI 1) hLx dL_law_1402 (by decide) ?_
  refine lh_iadd hLx dL_law_1403 ?_
  refine lh_sld hLx dL_law_1404 (li_in hi hLx.2.2.2 (by decide)) (li_at hi hLx.2.2.2 (by decide)) ?_
  refine lh_call (as := [av_i (xs (i + 1))]) hLx hc9 dL_law_1405 lcv_X12_twins lm_184 k_355 rfl rfl (by decide) rfl (Nat.le_of_ble_eq_true rfl) rfl (s_Mo_twins (D := 200) (by decide) NN h2) (fun r9 μ9 hp => ?_)
  rw [hp.1, hp.2]
  clear hp r9 μ9
  refine lh_icmp_eq (tgt := 1550) hLx dL_law_1408 (by decide) (fun _ => ?_) (fun q => absurd rfl q)
  exact hk _ hI2
set_option maxRecDepth 100000 in
set_option maxHeartbeats 4000000 in
theorem lc_odds {p : Program} {l : Launch} {e : Env} {s : State} {m : MethodId} {below : List Frame} {meth : Method} {c : Code} {b L : Nat} {xs : Nat → Int32} {ad : Nat → Nat} {tc : Nat → ClassId} {D : va_G} {i cells slots : Nat} {μ : MM} {Inv Inv2 : MM → Prop} (hst : ∀ (x1 : Int32) (x2 : Int32) (x3 : Int32) (μ : MM), Inv μ → ∃ (r : Int32) (μ1 μ2 : MM), f_Ro_odds NN x1 x2 x3 μ = some (r, μ1) ∧ f_Mo_odds NN x1 x2 x3 μ1 = some (r, μ2) ∧ Inv2 μ2) (hLx : Lx p s m meth c b L xs ad tc D) (hc9 : cells ≤ 601024 ∧ slots ≤ 7293034) (hi : i + 6 ≤ L) (hI : Inv μ) (hk : ∀ μ2, Inv2 μ2 → Lh p l e s m below meth c b ad tc D i cells slots 1550 [] μ2) : Lh p l e s m below meth c b ad tc D i cells slots 1413 [] μ := by
  refine lh_al1 hLx dL_law_1413 ?_
  refine lh_al0 hLx dL_law_1414 ?_
  refine lh_il hLx dL_law_1415 ?_
  refine lh_ic (v := nI 1) hLx dL_law_1417 (by decide) ?_
  refine lh_iadd hLx dL_law_1418 ?_
  refine lh_sld hLx dL_law_1419 (li_in hi hLx.2.2.2 (by decide)) (li_at hi hLx.2.2.2 (by decide)) ?_
  refine lh_al0 hLx dL_law_1420 ?_
  refine lh_il hLx dL_law_1421 ?_
  refine lh_ic (v := nI 2) hLx dL_law_1423 (by decide) ?_
  refine lh_iadd hLx dL_law_1424 ?_
  refine lh_sld hLx dL_law_1425 (li_in hi hLx.2.2.2 (by decide)) (li_at hi hLx.2.2.2 (by decide)) ?_
  refine lh_al0 hLx dL_law_1426 ?_
  refine lh_il hLx dL_law_1427 ?_
  refine lh_ic (v := nI 3) hLx dL_law_1429 (by decide) ?_
  refine lh_iadd hLx dL_law_1430 ?_
  refine lh_sld hLx dL_law_1431 (li_in hi hLx.2.2.2 (by decide)) (li_at hi hLx.2.2.2 (by decide)) ?_
  obtain ⟨r, μ1, μ2, h1, h2, hI2⟩ := hst (xs (i + 1)) (xs (i + 2)) (xs (i + 3)) μ hI
  refine lh_call (as := [av_i (xs (i + 1)), av_i (xs (i + 2)), av_i (xs (i + 3))]) hLx hc9 dL_law_1432 lcv_X11_odds lm_185 k_0 rfl rfl (by decide) rfl (Nat.le_of_ble_eq_true rfl) rfl (s_Ro_odds (D := 200) (by decide) NN h1) (fun r9 μ9 hp => ?_)
  rw [hp.1, hp.2]
  clear hp r9 μ9
  refine lh_al2 hLx dL_law_1435 ?_
  refine lh_al0 hLx dL_law_1436 ?_
  refine lh_il hLx dL_law_1437 ?_
  refine lh_ic (v := nI 1) hLx dL_law_1439 (by decide) ?_
  refine lh_iadd hLx dL_law_1440 ?_
  refine lh_sld hLx dL_law_1441 (li_in hi hLx.2.2.2 (by decide)) (li_at hi hLx.2.2.2 (by decide)) ?_
  refine lh_al0 hLx dL_law_1442 ?_
  refine lh_il hLx dL_law_1443 ?_
  refine lh_ic (v := nI 2) hLx dL_law_1445 (by decide) ?_
  refine lh_iadd hLx dL_law_1446 ?_
  refine lh_sld hLx dL_law_1447 (li_in hi hLx.2.2.2 (by decide)) (li_at hi hLx.2.2.2 (by decide)) ?_
  refine lh_al0 hLx dL_law_1448 ?_
  refine lh_il hLx dL_law_1449 ?_
  refine lh_ic (v := nI 3) hLx dL_law_1451 (by decide) ?_
  refine lh_iadd hLx dL_law_1452 ?_
  refine lh_sld hLx dL_law_1453 (li_in hi hLx.2.2.2 (by decide)) (li_at hi hLx.2.2.2 (by decide)) ?_
  refine lh_call (as := [av_i (xs (i + 1)), av_i (xs (i + 2)), av_i (xs (i + 3))]) hLx hc9 dL_law_1454 lcv_X12_odds lm_188 k_355 rfl rfl (by decide) rfl (Nat.le_of_ble_eq_true rfl) rfl (s_Mo_odds (D := 200) (by decide) NN h2) (fun r9 μ9 hp => ?_)
  rw [hp.1, hp.2]
  clear hp r9 μ9
  refine lh_icmp_eq (tgt := 1550) hLx dL_law_1457 (by decide) (fun _ => ?_) (fun q => absurd rfl q)
  exact hk _ hI2
set_option maxRecDepth 100000 in
set_option maxHeartbeats 4000000 in
theorem lc_rescue {p : Program} {l : Launch} {e : Env} {s : State} {m : MethodId} {below : List Frame} {meth : Method} {c : Code} {b L : Nat} {xs : Nat → Int32} {ad : Nat → Nat} {tc : Nat → ClassId} {D : va_G} {i cells slots : Nat} {μ : MM} {Inv Inv2 : MM → Prop} (hst : ∀ (x1 : Int32) (x2 : Int32) (μ : MM), Inv μ → ∃ (r : Int32) (μ1 μ2 : MM), f_Ro_rescue NN x1 x2 μ = some (r, μ1) ∧ f_Mo_rescue NN x1 x2 μ1 = some (r, μ2) ∧ Inv2 μ2) (hLx : Lx p s m meth c b L xs ad tc D) (hc9 : cells ≤ 601024 ∧ slots ≤ 7293034) (hi : i + 6 ≤ L) (hI : Inv μ) (hk : ∀ μ2, Inv2 μ2 → Lh p l e s m below meth c b ad tc D i cells slots 1550 [] μ2) : Lh p l e s m below meth c b ad tc D i cells slots 1462 [] μ := by
  refine lh_al1 hLx dL_law_1462 ?_
  refine lh_al0 hLx dL_law_1463 ?_
  refine lh_il hLx dL_law_1464 ?_
  refine lh_ic (v := nI 1) hLx dL_law_1466 (by decide) ?_
  refine lh_iadd hLx dL_law_1467 ?_
  refine lh_sld hLx dL_law_1468 (li_in hi hLx.2.2.2 (by decide)) (li_at hi hLx.2.2.2 (by decide)) ?_
  refine lh_al0 hLx dL_law_1469 ?_
  refine lh_il hLx dL_law_1470 ?_
  refine lh_ic (v := nI 2) hLx dL_law_1472 (by decide) ?_
  refine lh_iadd hLx dL_law_1473 ?_
  refine lh_sld hLx dL_law_1474 (li_in hi hLx.2.2.2 (by decide)) (li_at hi hLx.2.2.2 (by decide)) ?_
  obtain ⟨r, μ1, μ2, h1, h2, hI2⟩ := hst (xs (i + 1)) (xs (i + 2)) μ hI
  refine lh_call (as := [av_i (xs (i + 1)), av_i (xs (i + 2))]) hLx hc9 dL_law_1475 lcv_X11_rescue lm_189 k_0 rfl rfl (by decide) rfl (Nat.le_of_ble_eq_true rfl) rfl (s_Ro_rescue (D := 200) (by decide) NN h1) (fun r9 μ9 hp => ?_)
  rw [hp.1, hp.2]
  clear hp r9 μ9
  refine lh_al2 hLx dL_law_1478 ?_
  refine lh_al0 hLx dL_law_1479 ?_
  refine lh_il hLx dL_law_1480 ?_
  refine lh_ic (v := nI 1) hLx dL_law_1482 (by decide) ?_
  refine lh_iadd hLx dL_law_1483 ?_
  refine lh_sld hLx dL_law_1484 (li_in hi hLx.2.2.2 (by decide)) (li_at hi hLx.2.2.2 (by decide)) ?_
  refine lh_al0 hLx dL_law_1485 ?_
  refine lh_il hLx dL_law_1486 ?_
  refine lh_ic (v := nI 2) hLx dL_law_1488 (by decide) ?_
  refine lh_iadd hLx dL_law_1489 ?_
  refine lh_sld hLx dL_law_1490 (li_in hi hLx.2.2.2 (by decide)) (li_at hi hLx.2.2.2 (by decide)) ?_
  refine lh_call (as := [av_i (xs (i + 1)), av_i (xs (i + 2))]) hLx hc9 dL_law_1491 lcv_X12_rescue lm_192 k_355 rfl rfl (by decide) rfl (Nat.le_of_ble_eq_true rfl) rfl (s_Mo_rescue (D := 200) (by decide) NN h2) (fun r9 μ9 hp => ?_)
  rw [hp.1, hp.2]
  clear hp r9 μ9
  refine lh_icmp_eq (tgt := 1550) hLx dL_law_1494 (by decide) (fun _ => ?_) (fun q => absurd rfl q)
  exact hk _ hI2
set_option maxRecDepth 100000 in
set_option maxHeartbeats 4000000 in
theorem lc_image {p : Program} {l : Launch} {e : Env} {s : State} {m : MethodId} {below : List Frame} {meth : Method} {c : Code} {b L : Nat} {xs : Nat → Int32} {ad : Nat → Nat} {tc : Nat → ClassId} {D : va_G} {i cells slots : Nat} {μ : MM} {Inv Inv2 : MM → Prop} (hst : ∀ (μ : MM), Inv μ → ∃ (r : Int32) (μ1 μ2 : MM), f_Ro_image NN μ = some (r, μ1) ∧ f_Mo_image NN μ1 = some (r, μ2) ∧ Inv2 μ2) (hLx : Lx p s m meth c b L xs ad tc D) (hc9 : cells ≤ 601024 ∧ slots ≤ 7293034) (hi : i + 6 ≤ L) (hI : Inv μ) (hk : ∀ μ2, Inv2 μ2 → Lh p l e s m below meth c b ad tc D i cells slots 1550 [] μ2) : Lh p l e s m below meth c b ad tc D i cells slots 1499 [] μ := by
  refine lh_al1 hLx dL_law_1499 ?_
  obtain ⟨r, μ1, μ2, h1, h2, hI2⟩ := hst  μ hI
  refine lh_call (as := []) hLx hc9 dL_law_1500 lcv_X11_image lm_193 k_0 rfl rfl (by decide) rfl (Nat.le_of_ble_eq_true rfl) rfl (s_Ro_image (D := 200) (by decide) NN h1) (fun r9 μ9 hp => ?_)
  rw [hp.1, hp.2]
  clear hp r9 μ9
  refine lh_al2 hLx dL_law_1503 ?_
  refine lh_call (as := []) hLx hc9 dL_law_1504 lcv_X12_image lm_196 k_355 rfl rfl (by decide) rfl (Nat.le_of_ble_eq_true rfl) rfl (s_Mo_image (D := 200) (by decide) NN h2) (fun r9 μ9 hp => ?_)
  rw [hp.1, hp.2]
  clear hp r9 μ9
  refine lh_icmp_eq (tgt := 1550) hLx dL_law_1507 (by decide) (fun _ => ?_) (fun q => absurd rfl q)
  exact hk _ hI2
set_option maxRecDepth 100000 in
set_option maxHeartbeats 4000000 in
theorem lc_back {p : Program} {l : Launch} {e : Env} {s : State} {m : MethodId} {below : List Frame} {meth : Method} {c : Code} {b L : Nat} {xs : Nat → Int32} {ad : Nat → Nat} {tc : Nat → ClassId} {D : va_G} {i cells slots : Nat} {μ : MM} {Inv Inv2 : MM → Prop} (hst : ∀ (μ : MM), Inv μ → ∃ (r : Int32) (μ1 μ2 : MM), f_Ro_back NN μ = some (r, μ1) ∧ f_Mo_back NN μ1 = some (r, μ2) ∧ Inv2 μ2) (hLx : Lx p s m meth c b L xs ad tc D) (hc9 : cells ≤ 601024 ∧ slots ≤ 7293034) (hi : i + 6 ≤ L) (hI : Inv μ) (hk : ∀ μ2, Inv2 μ2 → Lh p l e s m below meth c b ad tc D i cells slots 1550 [] μ2) : Lh p l e s m below meth c b ad tc D i cells slots 1512 [] μ := by
  refine lh_al1 hLx dL_law_1512 ?_
  obtain ⟨r, μ1, μ2, h1, h2, hI2⟩ := hst  μ hI
  refine lh_call (as := []) hLx hc9 dL_law_1513 lcv_X11_back lm_197 k_0 rfl rfl (by decide) rfl (Nat.le_of_ble_eq_true rfl) rfl (s_Ro_back (D := 200) (by decide) NN h1) (fun r9 μ9 hp => ?_)
  rw [hp.1, hp.2]
  clear hp r9 μ9
  refine lh_al2 hLx dL_law_1516 ?_
  refine lh_call (as := []) hLx hc9 dL_law_1517 lcv_X12_back lm_200 k_355 rfl rfl (by decide) rfl (Nat.le_of_ble_eq_true rfl) rfl (s_Mo_back (D := 200) (by decide) NN h2) (fun r9 μ9 hp => ?_)
  rw [hp.1, hp.2]
  clear hp r9 μ9
  refine lh_icmp_eq (tgt := 1550) hLx dL_law_1520 (by decide) (fun _ => ?_) (fun q => absurd rfl q)
  exact hk _ hI2
set_option maxRecDepth 100000 in
set_option maxHeartbeats 4000000 in
theorem lc_count {p : Program} {l : Launch} {e : Env} {s : State} {m : MethodId} {below : List Frame} {meth : Method} {c : Code} {b L : Nat} {xs : Nat → Int32} {ad : Nat → Nat} {tc : Nat → ClassId} {D : va_G} {i cells slots : Nat} {μ : MM} {Inv Inv2 : MM → Prop} (hst : ∀ (x1 : Int32) (μ : MM), Inv μ → ∃ (r : Int32) (μ1 μ2 : MM), f_Ro_count NN x1 μ = some (r, μ1) ∧ f_Mo_count NN x1 μ1 = some (r, μ2) ∧ Inv2 μ2) (hLx : Lx p s m meth c b L xs ad tc D) (hc9 : cells ≤ 601024 ∧ slots ≤ 7293034) (hi : i + 6 ≤ L) (hI : Inv μ) (hk : ∀ μ2, Inv2 μ2 → Lh p l e s m below meth c b ad tc D i cells slots 1550 [] μ2) : Lh p l e s m below meth c b ad tc D i cells slots 1525 [] μ := by
  refine lh_al1 hLx dL_law_1525 ?_
  refine lh_al0 hLx dL_law_1526 ?_
  refine lh_il hLx dL_law_1527 ?_
  refine lh_ic (v := nI 1) hLx dL_law_1529 (by decide) ?_
  refine lh_iadd hLx dL_law_1530 ?_
  refine lh_sld hLx dL_law_1531 (li_in hi hLx.2.2.2 (by decide)) (li_at hi hLx.2.2.2 (by decide)) ?_
  obtain ⟨r, μ1, μ2, h1, h2, hI2⟩ := hst (xs (i + 1)) μ hI
  refine lh_call (as := [av_i (xs (i + 1))]) hLx hc9 dL_law_1532 lcv_X11_count lm_201 k_0 rfl rfl (by decide) rfl (Nat.le_of_ble_eq_true rfl) rfl (s_Ro_count (D := 200) (by decide) NN h1) (fun r9 μ9 hp => ?_)
  rw [hp.1, hp.2]
  clear hp r9 μ9
  refine lh_al2 hLx dL_law_1535 ?_
  refine lh_al0 hLx dL_law_1536 ?_
  refine lh_il hLx dL_law_1537 ?_
  refine lh_ic (v := nI 1) hLx dL_law_1539 (by decide) ?_
  refine lh_iadd hLx dL_law_1540 ?_
  refine lh_sld hLx dL_law_1541 (li_in hi hLx.2.2.2 (by decide)) (li_at hi hLx.2.2.2 (by decide)) ?_
  refine lh_call (as := [av_i (xs (i + 1))]) hLx hc9 dL_law_1542 lcv_X12_count lm_204 k_355 rfl rfl (by decide) rfl (Nat.le_of_ble_eq_true rfl) rfl (s_Mo_count (D := 200) (by decide) NN h2) (fun r9 μ9 hp => ?_)
  rw [hp.1, hp.2]
  clear hp r9 μ9
  refine lh_icmp_eq (tgt := 1550) hLx dL_law_1545 (by decide) (fun _ => ?_) (fun q => absurd rfl q)
  exact hk _ hI2
