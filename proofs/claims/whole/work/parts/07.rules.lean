/-! ===== an instruction, a rule ===== -/
theorem sm_iconst {d : Nat} {me : ME} {pc : Nat} {ls : List (Option AV)} {st : List AV} {μ : MM} {Po : Option AV → MM → Prop} {n : Int} {v : Int32} (hd : decode me.2.1 pc = .ok (.iconst n, 1)) (hv : Int32.ofInt n = v) (k : Sm d me (pc + 1) ls (av_i v :: st) μ Po) : Sm d me pc ls st μ Po := by
  intro p l e R s m args below meth c ad tc D A C H locs la hP hD hS hl
  obtain ⟨hx, hb, hml, hr, hlk, hown, hts, hK, hro, hA, hf, hlc⟩ := id C
  exact lv_iconst hx hb hd hv (k p l e R s m args below meth c ad tc D A C H locs la hP hD hS hl)
theorem sm_bipush {d : Nat} {me : ME} {pc : Nat} {ls : List (Option AV)} {st : List AV} {μ : MM} {Po : Option AV → MM → Prop} {n : Int} {v : Int32} (hd : decode me.2.1 pc = .ok (.bipush n, 2)) (hv : (Int8.ofInt n).toInt32 = v) (k : Sm d me (pc + 2) ls (av_i v :: st) μ Po) : Sm d me pc ls st μ Po := by
  intro p l e R s m args below meth c ad tc D A C H locs la hP hD hS hl
  obtain ⟨hx, hb, hml, hr, hlk, hown, hts, hK, hro, hA, hf, hlc⟩ := id C
  exact lv_bipush hx hb hd hv (k p l e R s m args below meth c ad tc D A C H locs la hP hD hS hl)
theorem sm_sipush {d : Nat} {me : ME} {pc : Nat} {ls : List (Option AV)} {st : List AV} {μ : MM} {Po : Option AV → MM → Prop} {n : Int} {v : Int32} (hd : decode me.2.1 pc = .ok (.sipush n, 3)) (hv : (Int16.ofInt n).toInt32 = v) (k : Sm d me (pc + 3) ls (av_i v :: st) μ Po) : Sm d me pc ls st μ Po := by
  intro p l e R s m args below meth c ad tc D A C H locs la hP hD hS hl
  obtain ⟨hx, hb, hml, hr, hlk, hown, hts, hK, hro, hA, hf, hlc⟩ := id C
  exact lv_sipush hx hb hd hv (k p l e R s m args below meth c ad tc D A C H locs la hP hD hS hl)
theorem sm_lconst {d : Nat} {me : ME} {pc : Nat} {ls : List (Option AV)} {st : List AV} {μ : MM} {Po : Option AV → MM → Prop} {n : Fin 2} {v : Int64} (hd : decode me.2.1 pc = .ok (.lconst n, 1)) (hv : Int64.ofNat (n : Nat) = v) (k : Sm d me (pc + 1) ls (av_l v :: st) μ Po) : Sm d me pc ls st μ Po := by
  intro p l e R s m args below meth c ad tc D A C H locs la hP hD hS hl
  obtain ⟨hx, hb, hml, hr, hlk, hown, hts, hK, hro, hA, hf, hlc⟩ := id C
  exact lv_lconst hx hb hd hv (k p l e R s m args below meth c ad tc D A C H locs la hP hD hS hl)
theorem sm_iload_n {d : Nat} {me : ME} {pc : Nat} {ls : List (Option AV)} {st : List AV} {μ : MM} {Po : Option AV → MM → Prop} {j : Fin 4} {i : Nat} {x : Int32} (hd : decode me.2.1 pc = .ok (.iload_n j, 1)) (hi : (j : Nat) = i) (h : ls[i]? = some (some (av_i x))) (k : Sm d me (pc + 1) ls (av_i x :: st) μ Po) : Sm d me pc ls st μ Po := by
  intro p l e R s m args below meth c ad tc D A C H locs la hP hD hS hl
  obtain ⟨hx, hb, hml, hr, hlk, hown, hts, hK, hro, hA, hf, hlc⟩ := id C
  exact lv_iload_n hx hb hd hi (hl.2.2 _ _ h) (k p l e R s m args below meth c ad tc D A C H locs la hP hD hS hl)
theorem sm_iload {d : Nat} {me : ME} {pc : Nat} {ls : List (Option AV)} {st : List AV} {μ : MM} {Po : Option AV → MM → Prop} {i : Nat} {x : Int32} (hd : decode me.2.1 pc = .ok (.iload i, 2)) (h : ls[i]? = some (some (av_i x))) (k : Sm d me (pc + 2) ls (av_i x :: st) μ Po) : Sm d me pc ls st μ Po := by
  intro p l e R s m args below meth c ad tc D A C H locs la hP hD hS hl
  obtain ⟨hx, hb, hml, hr, hlk, hown, hts, hK, hro, hA, hf, hlc⟩ := id C
  exact lv_iload hx hb hd (hl.2.2 _ _ h) (k p l e R s m args below meth c ad tc D A C H locs la hP hD hS hl)
theorem sm_lload_n {d : Nat} {me : ME} {pc : Nat} {ls : List (Option AV)} {st : List AV} {μ : MM} {Po : Option AV → MM → Prop} {j : Fin 4} {i : Nat} {x : Int64} (hd : decode me.2.1 pc = .ok (.lload_n j, 1)) (hi : (j : Nat) = i) (h : ls[i]? = some (some (av_l x))) (k : Sm d me (pc + 1) ls (av_l x :: st) μ Po) : Sm d me pc ls st μ Po := by
  intro p l e R s m args below meth c ad tc D A C H locs la hP hD hS hl
  obtain ⟨hx, hb, hml, hr, hlk, hown, hts, hK, hro, hA, hf, hlc⟩ := id C
  exact lv_lload_n hx hb hd hi (hl.2.2 _ _ h) (k p l e R s m args below meth c ad tc D A C H locs la hP hD hS hl)
theorem sm_lload {d : Nat} {me : ME} {pc : Nat} {ls : List (Option AV)} {st : List AV} {μ : MM} {Po : Option AV → MM → Prop} {i : Nat} {x : Int64} (hd : decode me.2.1 pc = .ok (.lload i, 2)) (h : ls[i]? = some (some (av_l x))) (k : Sm d me (pc + 2) ls (av_l x :: st) μ Po) : Sm d me pc ls st μ Po := by
  intro p l e R s m args below meth c ad tc D A C H locs la hP hD hS hl
  obtain ⟨hx, hb, hml, hr, hlk, hown, hts, hK, hro, hA, hf, hlc⟩ := id C
  exact lv_lload hx hb hd (hl.2.2 _ _ h) (k p l e R s m args below meth c ad tc D A C H locs la hP hD hS hl)
theorem sm_aload_n {d : Nat} {me : ME} {pc : Nat} {ls : List (Option AV)} {st : List AV} {μ : MM} {Po : Option AV → MM → Prop} {j : Fin 4} {i : Nat} {x : Nat} (hd : decode me.2.1 pc = .ok (.aload_n j, 1)) (hi : (j : Nat) = i) (h : ls[i]? = some (some (av_r x))) (k : Sm d me (pc + 1) ls (av_r x :: st) μ Po) : Sm d me pc ls st μ Po := by
  intro p l e R s m args below meth c ad tc D A C H locs la hP hD hS hl
  obtain ⟨hx, hb, hml, hr, hlk, hown, hts, hK, hro, hA, hf, hlc⟩ := id C
  exact lv_aload_n hx hb hd hi (hl.2.2 _ _ h) (k p l e R s m args below meth c ad tc D A C H locs la hP hD hS hl)
theorem sm_aload {d : Nat} {me : ME} {pc : Nat} {ls : List (Option AV)} {st : List AV} {μ : MM} {Po : Option AV → MM → Prop} {i : Nat} {x : Nat} (hd : decode me.2.1 pc = .ok (.aload i, 2)) (h : ls[i]? = some (some (av_r x))) (k : Sm d me (pc + 2) ls (av_r x :: st) μ Po) : Sm d me pc ls st μ Po := by
  intro p l e R s m args below meth c ad tc D A C H locs la hP hD hS hl
  obtain ⟨hx, hb, hml, hr, hlk, hown, hts, hK, hro, hA, hf, hlc⟩ := id C
  exact lv_aload hx hb hd (hl.2.2 _ _ h) (k p l e R s m args below meth c ad tc D A C H locs la hP hD hS hl)
theorem sm_istore_n {d : Nat} {me : ME} {pc : Nat} {ls : List (Option AV)} {st : List AV} {μ : MM} {Po : Option AV → MM → Prop} {j : Fin 4} {i : Nat} {x : Int32} (hd : decode me.2.1 pc = .ok (.istore_n j, 1)) (hi : (j : Nat) = i) (hn : i < me.2.2.1) (hv : lo_pv ls i) (k : Sm d me (pc + 1) (ls.set i (some (av_i x))) st μ Po) : Sm d me pc ls (av_i x :: st) μ Po := by
  intro p l e R s m args below meth c ad tc D A C H locs la hP hD hS hl
  obtain ⟨hx, hb, hml, hr, hlk, hown, hts, hK, hro, hA, hf, hlc⟩ := id C
  exact lv_istore_n hx hb hd hi (lo_has hl) hn rfl (fun la2 h2 => (k p l e R s m args below meth c ad tc D A C H locs la2 hP hD hS (lo_st1 hv h2)))
theorem sm_istore {d : Nat} {me : ME} {pc : Nat} {ls : List (Option AV)} {st : List AV} {μ : MM} {Po : Option AV → MM → Prop} {i : Nat} {x : Int32} (hd : decode me.2.1 pc = .ok (.istore i, 2)) (hn : i < me.2.2.1) (hv : lo_pv ls i) (k : Sm d me (pc + 2) (ls.set i (some (av_i x))) st μ Po) : Sm d me pc ls (av_i x :: st) μ Po := by
  intro p l e R s m args below meth c ad tc D A C H locs la hP hD hS hl
  obtain ⟨hx, hb, hml, hr, hlk, hown, hts, hK, hro, hA, hf, hlc⟩ := id C
  exact lv_istore hx hb hd (lo_has hl) hn rfl (fun la2 h2 => (k p l e R s m args below meth c ad tc D A C H locs la2 hP hD hS (lo_st1 hv h2)))
theorem sm_astore_n {d : Nat} {me : ME} {pc : Nat} {ls : List (Option AV)} {st : List AV} {μ : MM} {Po : Option AV → MM → Prop} {j : Fin 4} {i : Nat} {x : Nat} (hd : decode me.2.1 pc = .ok (.astore_n j, 1)) (hi : (j : Nat) = i) (hn : i < me.2.2.1) (hv : lo_pv ls i) (k : Sm d me (pc + 1) (ls.set i (some (av_r x))) st μ Po) : Sm d me pc ls (av_r x :: st) μ Po := by
  intro p l e R s m args below meth c ad tc D A C H locs la hP hD hS hl
  obtain ⟨hx, hb, hml, hr, hlk, hown, hts, hK, hro, hA, hf, hlc⟩ := id C
  exact lv_astore_n hx hb hd hi (lo_has hl) hn rfl (fun la2 h2 => (k p l e R s m args below meth c ad tc D A C H locs la2 hP hD hS (lo_st1 hv h2)))
theorem sm_astore {d : Nat} {me : ME} {pc : Nat} {ls : List (Option AV)} {st : List AV} {μ : MM} {Po : Option AV → MM → Prop} {i : Nat} {x : Nat} (hd : decode me.2.1 pc = .ok (.astore i, 2)) (hn : i < me.2.2.1) (hv : lo_pv ls i) (k : Sm d me (pc + 2) (ls.set i (some (av_r x))) st μ Po) : Sm d me pc ls (av_r x :: st) μ Po := by
  intro p l e R s m args below meth c ad tc D A C H locs la hP hD hS hl
  obtain ⟨hx, hb, hml, hr, hlk, hown, hts, hK, hro, hA, hf, hlc⟩ := id C
  exact lv_astore hx hb hd (lo_has hl) hn rfl (fun la2 h2 => (k p l e R s m args below meth c ad tc D A C H locs la2 hP hD hS (lo_st1 hv h2)))
theorem sm_lstore_n {d : Nat} {me : ME} {pc : Nat} {ls : List (Option AV)} {st : List AV} {μ : MM} {Po : Option AV → MM → Prop} {j : Fin 4} {i : Nat} {x : Int64} (hd : decode me.2.1 pc = .ok (.lstore_n j, 1)) (hi : (j : Nat) = i) (hn : i + 1 < me.2.2.1) (hv : lo_pv ls i) (k : Sm d me (pc + 1) ((ls.set i (some (av_l x))).set (i + 1) none) st μ Po) : Sm d me pc ls (av_l x :: st) μ Po := by
  intro p l e R s m args below meth c ad tc D A C H locs la hP hD hS hl
  obtain ⟨hx, hb, hml, hr, hlk, hown, hts, hK, hro, hA, hf, hlc⟩ := id C
  exact lv_lstore_n hx hb hd hi (lo_has hl) hn rfl (fun la2 h2 => (k p l e R s m args below meth c ad tc D A C H locs la2 hP hD hS (lo_st2 hv h2)))
theorem sm_lstore {d : Nat} {me : ME} {pc : Nat} {ls : List (Option AV)} {st : List AV} {μ : MM} {Po : Option AV → MM → Prop} {i : Nat} {x : Int64} (hd : decode me.2.1 pc = .ok (.lstore i, 2)) (hn : i + 1 < me.2.2.1) (hv : lo_pv ls i) (k : Sm d me (pc + 2) ((ls.set i (some (av_l x))).set (i + 1) none) st μ Po) : Sm d me pc ls (av_l x :: st) μ Po := by
  intro p l e R s m args below meth c ad tc D A C H locs la hP hD hS hl
  obtain ⟨hx, hb, hml, hr, hlk, hown, hts, hK, hro, hA, hf, hlc⟩ := id C
  exact lv_lstore hx hb hd (lo_has hl) hn rfl (fun la2 h2 => (k p l e R s m args below meth c ad tc D A C H locs la2 hP hD hS (lo_st2 hv h2)))
theorem sm_iinc {d : Nat} {me : ME} {pc : Nat} {ls : List (Option AV)} {st : List AV} {μ : MM} {Po : Option AV → MM → Prop} {i : Nat} {n : Int} {x v : Int32} (hd : decode me.2.1 pc = .ok (.iinc i n, 3)) (h : ls[i]? = some (some (av_i x))) (he : x + Int32.ofInt n = v) (hn : i < me.2.2.1) (hv : lo_pv ls i) (k : Sm d me (pc + 3) (ls.set i (some (av_i v))) st μ Po) : Sm d me pc ls st μ Po := by
  intro p l e R s m args below meth c ad tc D A C H locs la hP hD hS hl
  obtain ⟨hx, hb, hml, hr, hlk, hown, hts, hK, hro, hA, hf, hlc⟩ := id C
  obtain ⟨j, hj⟩ := List.getElem?_of_mem (lo_pr_in (ad := ad) h)
  exact lv_iinc hx hb hd (lo_has hl) hj he hn rfl (fun la2 h2 => (k p l e R s m args below meth c ad tc D A C H locs la2 hP hD hS (lo_st1 hv h2)))
theorem sm_iadd {d : Nat} {me : ME} {pc : Nat} {ls : List (Option AV)} {st : List AV} {μ : MM} {Po : Option AV → MM → Prop} {x y : Int32} (hd : decode me.2.1 pc = .ok (.iadd, 1)) (k : Sm d me (pc + 1) ls (av_i (x + y) :: st) μ Po) : Sm d me pc ls (av_i y :: av_i x :: st) μ Po := by
  intro p l e R s m args below meth c ad tc D A C H locs la hP hD hS hl
  obtain ⟨hx, hb, hml, hr, hlk, hown, hts, hK, hro, hA, hf, hlc⟩ := id C
  exact lv_iadd hx hb hd (k p l e R s m args below meth c ad tc D A C H locs la hP hD hS hl)
theorem sm_isub {d : Nat} {me : ME} {pc : Nat} {ls : List (Option AV)} {st : List AV} {μ : MM} {Po : Option AV → MM → Prop} {x y : Int32} (hd : decode me.2.1 pc = .ok (.isub, 1)) (k : Sm d me (pc + 1) ls (av_i (x - y) :: st) μ Po) : Sm d me pc ls (av_i y :: av_i x :: st) μ Po := by
  intro p l e R s m args below meth c ad tc D A C H locs la hP hD hS hl
  obtain ⟨hx, hb, hml, hr, hlk, hown, hts, hK, hro, hA, hf, hlc⟩ := id C
  exact lv_isub hx hb hd (k p l e R s m args below meth c ad tc D A C H locs la hP hD hS hl)
theorem sm_imul {d : Nat} {me : ME} {pc : Nat} {ls : List (Option AV)} {st : List AV} {μ : MM} {Po : Option AV → MM → Prop} {x y : Int32} (hd : decode me.2.1 pc = .ok (.imul, 1)) (k : Sm d me (pc + 1) ls (av_i (x * y) :: st) μ Po) : Sm d me pc ls (av_i y :: av_i x :: st) μ Po := by
  intro p l e R s m args below meth c ad tc D A C H locs la hP hD hS hl
  obtain ⟨hx, hb, hml, hr, hlk, hown, hts, hK, hro, hA, hf, hlc⟩ := id C
  exact lv_imul hx hb hd (k p l e R s m args below meth c ad tc D A C H locs la hP hD hS hl)
theorem sm_iand {d : Nat} {me : ME} {pc : Nat} {ls : List (Option AV)} {st : List AV} {μ : MM} {Po : Option AV → MM → Prop} {x y : Int32} (hd : decode me.2.1 pc = .ok (.iand, 1)) (k : Sm d me (pc + 1) ls (av_i (x &&& y) :: st) μ Po) : Sm d me pc ls (av_i y :: av_i x :: st) μ Po := by
  intro p l e R s m args below meth c ad tc D A C H locs la hP hD hS hl
  obtain ⟨hx, hb, hml, hr, hlk, hown, hts, hK, hro, hA, hf, hlc⟩ := id C
  exact lv_iand hx hb hd (k p l e R s m args below meth c ad tc D A C H locs la hP hD hS hl)
theorem sm_ior {d : Nat} {me : ME} {pc : Nat} {ls : List (Option AV)} {st : List AV} {μ : MM} {Po : Option AV → MM → Prop} {x y : Int32} (hd : decode me.2.1 pc = .ok (.ior, 1)) (k : Sm d me (pc + 1) ls (av_i (x ||| y) :: st) μ Po) : Sm d me pc ls (av_i y :: av_i x :: st) μ Po := by
  intro p l e R s m args below meth c ad tc D A C H locs la hP hD hS hl
  obtain ⟨hx, hb, hml, hr, hlk, hown, hts, hK, hro, hA, hf, hlc⟩ := id C
  exact lv_ior hx hb hd (k p l e R s m args below meth c ad tc D A C H locs la hP hD hS hl)
theorem sm_ixor {d : Nat} {me : ME} {pc : Nat} {ls : List (Option AV)} {st : List AV} {μ : MM} {Po : Option AV → MM → Prop} {x y : Int32} (hd : decode me.2.1 pc = .ok (.ixor, 1)) (k : Sm d me (pc + 1) ls (av_i (x ^^^ y) :: st) μ Po) : Sm d me pc ls (av_i y :: av_i x :: st) μ Po := by
  intro p l e R s m args below meth c ad tc D A C H locs la hP hD hS hl
  obtain ⟨hx, hb, hml, hr, hlk, hown, hts, hK, hro, hA, hf, hlc⟩ := id C
  exact lv_ixor hx hb hd (k p l e R s m args below meth c ad tc D A C H locs la hP hD hS hl)
theorem sm_ishl {d : Nat} {me : ME} {pc : Nat} {ls : List (Option AV)} {st : List AV} {μ : MM} {Po : Option AV → MM → Prop} {x y : Int32} (hd : decode me.2.1 pc = .ok (.ishl, 1)) (k : Sm d me (pc + 1) ls (av_i (x <<< (y &&& 31)) :: st) μ Po) : Sm d me pc ls (av_i y :: av_i x :: st) μ Po := by
  intro p l e R s m args below meth c ad tc D A C H locs la hP hD hS hl
  obtain ⟨hx, hb, hml, hr, hlk, hown, hts, hK, hro, hA, hf, hlc⟩ := id C
  exact lv_ishl hx hb hd (k p l e R s m args below meth c ad tc D A C H locs la hP hD hS hl)
theorem sm_ishr {d : Nat} {me : ME} {pc : Nat} {ls : List (Option AV)} {st : List AV} {μ : MM} {Po : Option AV → MM → Prop} {x y : Int32} (hd : decode me.2.1 pc = .ok (.ishr, 1)) (k : Sm d me (pc + 1) ls (av_i (x >>> (y &&& 31)) :: st) μ Po) : Sm d me pc ls (av_i y :: av_i x :: st) μ Po := by
  intro p l e R s m args below meth c ad tc D A C H locs la hP hD hS hl
  obtain ⟨hx, hb, hml, hr, hlk, hown, hts, hK, hro, hA, hf, hlc⟩ := id C
  exact lv_ishr hx hb hd (k p l e R s m args below meth c ad tc D A C H locs la hP hD hS hl)
theorem sm_iushr {d : Nat} {me : ME} {pc : Nat} {ls : List (Option AV)} {st : List AV} {μ : MM} {Po : Option AV → MM → Prop} {x y : Int32} (hd : decode me.2.1 pc = .ok (.iushr, 1)) (k : Sm d me (pc + 1) ls (av_i (x.toUInt32 >>> (y.toUInt32 &&& Int32.toUInt32 31)).toInt32 :: st) μ Po) : Sm d me pc ls (av_i y :: av_i x :: st) μ Po := by
  intro p l e R s m args below meth c ad tc D A C H locs la hP hD hS hl
  obtain ⟨hx, hb, hml, hr, hlk, hown, hts, hK, hro, hA, hf, hlc⟩ := id C
  exact lv_iushr hx hb hd rfl (k p l e R s m args below meth c ad tc D A C H locs la hP hD hS hl)
theorem sm_ineg {d : Nat} {me : ME} {pc : Nat} {ls : List (Option AV)} {st : List AV} {μ : MM} {Po : Option AV → MM → Prop} {x : Int32} (hd : decode me.2.1 pc = .ok (.ineg, 1)) (k : Sm d me (pc + 1) ls (av_i (-x) :: st) μ Po) : Sm d me pc ls (av_i x :: st) μ Po := by
  intro p l e R s m args below meth c ad tc D A C H locs la hP hD hS hl
  obtain ⟨hx, hb, hml, hr, hlk, hown, hts, hK, hro, hA, hf, hlc⟩ := id C
  exact lv_ineg hx hb hd (k p l e R s m args below meth c ad tc D A C H locs la hP hD hS hl)
theorem sm_idiv {d : Nat} {me : ME} {pc : Nat} {ls : List (Option AV)} {st : List AV} {μ : MM} {Po : Option AV → MM → Prop} {x y : Int32} (hd : decode me.2.1 pc = .ok (.idiv, 1)) (hne : ¬ y = 0) (k : Sm d me (pc + 1) ls (av_i (x / y) :: st) μ Po) : Sm d me pc ls (av_i y :: av_i x :: st) μ Po := by
  intro p l e R s m args below meth c ad tc D A C H locs la hP hD hS hl
  obtain ⟨hx, hb, hml, hr, hlk, hown, hts, hK, hro, hA, hf, hlc⟩ := id C
  exact lv_idiv hx hb hd hne (k p l e R s m args below meth c ad tc D A C H locs la hP hD hS hl)
theorem sm_irem {d : Nat} {me : ME} {pc : Nat} {ls : List (Option AV)} {st : List AV} {μ : MM} {Po : Option AV → MM → Prop} {x y : Int32} (hd : decode me.2.1 pc = .ok (.irem, 1)) (hne : ¬ y = 0) (k : Sm d me (pc + 1) ls (av_i (x - x / y * y) :: st) μ Po) : Sm d me pc ls (av_i y :: av_i x :: st) μ Po := by
  intro p l e R s m args below meth c ad tc D A C H locs la hP hD hS hl
  obtain ⟨hx, hb, hml, hr, hlk, hown, hts, hK, hro, hA, hf, hlc⟩ := id C
  exact lv_irem hx hb hd hne (k p l e R s m args below meth c ad tc D A C H locs la hP hD hS hl)
theorem sm_ladd {d : Nat} {me : ME} {pc : Nat} {ls : List (Option AV)} {st : List AV} {μ : MM} {Po : Option AV → MM → Prop} {x y : Int64} (hd : decode me.2.1 pc = .ok (.ladd, 1)) (k : Sm d me (pc + 1) ls (av_l (x + y) :: st) μ Po) : Sm d me pc ls (av_l y :: av_l x :: st) μ Po := by
  intro p l e R s m args below meth c ad tc D A C H locs la hP hD hS hl
  obtain ⟨hx, hb, hml, hr, hlk, hown, hts, hK, hro, hA, hf, hlc⟩ := id C
  exact lv_ladd hx hb hd (k p l e R s m args below meth c ad tc D A C H locs la hP hD hS hl)
theorem sm_lsub {d : Nat} {me : ME} {pc : Nat} {ls : List (Option AV)} {st : List AV} {μ : MM} {Po : Option AV → MM → Prop} {x y : Int64} (hd : decode me.2.1 pc = .ok (.lsub, 1)) (k : Sm d me (pc + 1) ls (av_l (x - y) :: st) μ Po) : Sm d me pc ls (av_l y :: av_l x :: st) μ Po := by
  intro p l e R s m args below meth c ad tc D A C H locs la hP hD hS hl
  obtain ⟨hx, hb, hml, hr, hlk, hown, hts, hK, hro, hA, hf, hlc⟩ := id C
  exact lv_lsub hx hb hd (k p l e R s m args below meth c ad tc D A C H locs la hP hD hS hl)
theorem sm_lmul {d : Nat} {me : ME} {pc : Nat} {ls : List (Option AV)} {st : List AV} {μ : MM} {Po : Option AV → MM → Prop} {x y : Int64} (hd : decode me.2.1 pc = .ok (.lmul, 1)) (k : Sm d me (pc + 1) ls (av_l (x * y) :: st) μ Po) : Sm d me pc ls (av_l y :: av_l x :: st) μ Po := by
  intro p l e R s m args below meth c ad tc D A C H locs la hP hD hS hl
  obtain ⟨hx, hb, hml, hr, hlk, hown, hts, hK, hro, hA, hf, hlc⟩ := id C
  exact lv_lmul hx hb hd (k p l e R s m args below meth c ad tc D A C H locs la hP hD hS hl)
theorem sm_land {d : Nat} {me : ME} {pc : Nat} {ls : List (Option AV)} {st : List AV} {μ : MM} {Po : Option AV → MM → Prop} {x y : Int64} (hd : decode me.2.1 pc = .ok (.land, 1)) (k : Sm d me (pc + 1) ls (av_l (x &&& y) :: st) μ Po) : Sm d me pc ls (av_l y :: av_l x :: st) μ Po := by
  intro p l e R s m args below meth c ad tc D A C H locs la hP hD hS hl
  obtain ⟨hx, hb, hml, hr, hlk, hown, hts, hK, hro, hA, hf, hlc⟩ := id C
  exact lv_land hx hb hd (k p l e R s m args below meth c ad tc D A C H locs la hP hD hS hl)
theorem sm_lor {d : Nat} {me : ME} {pc : Nat} {ls : List (Option AV)} {st : List AV} {μ : MM} {Po : Option AV → MM → Prop} {x y : Int64} (hd : decode me.2.1 pc = .ok (.lor, 1)) (k : Sm d me (pc + 1) ls (av_l (x ||| y) :: st) μ Po) : Sm d me pc ls (av_l y :: av_l x :: st) μ Po := by
  intro p l e R s m args below meth c ad tc D A C H locs la hP hD hS hl
  obtain ⟨hx, hb, hml, hr, hlk, hown, hts, hK, hro, hA, hf, hlc⟩ := id C
  exact lv_lor hx hb hd (k p l e R s m args below meth c ad tc D A C H locs la hP hD hS hl)
theorem sm_ldiv {d : Nat} {me : ME} {pc : Nat} {ls : List (Option AV)} {st : List AV} {μ : MM} {Po : Option AV → MM → Prop} {x y : Int64} (hd : decode me.2.1 pc = .ok (.ldiv, 1)) (hne : ¬ y = 0) (k : Sm d me (pc + 1) ls (av_l (x / y) :: st) μ Po) : Sm d me pc ls (av_l y :: av_l x :: st) μ Po := by
  intro p l e R s m args below meth c ad tc D A C H locs la hP hD hS hl
  obtain ⟨hx, hb, hml, hr, hlk, hown, hts, hK, hro, hA, hf, hlc⟩ := id C
  exact lv_ldiv hx hb hd hne (k p l e R s m args below meth c ad tc D A C H locs la hP hD hS hl)
theorem sm_lrem {d : Nat} {me : ME} {pc : Nat} {ls : List (Option AV)} {st : List AV} {μ : MM} {Po : Option AV → MM → Prop} {x y : Int64} (hd : decode me.2.1 pc = .ok (.lrem, 1)) (hne : ¬ y = 0) (k : Sm d me (pc + 1) ls (av_l (x - x / y * y) :: st) μ Po) : Sm d me pc ls (av_l y :: av_l x :: st) μ Po := by
  intro p l e R s m args below meth c ad tc D A C H locs la hP hD hS hl
  obtain ⟨hx, hb, hml, hr, hlk, hown, hts, hK, hro, hA, hf, hlc⟩ := id C
  exact lv_lrem hx hb hd hne (k p l e R s m args below meth c ad tc D A C H locs la hP hD hS hl)
theorem sm_lushr {d : Nat} {me : ME} {pc : Nat} {ls : List (Option AV)} {st : List AV} {μ : MM} {Po : Option AV → MM → Prop} {x : Int64} {y : Int32} (hd : decode me.2.1 pc = .ok (.lushr, 1)) (k : Sm d me (pc + 1) ls (av_l (x.toUInt64 >>> (y.toInt64.toUInt64 &&& Int64.toUInt64 63)).toInt64 :: st) μ Po) : Sm d me pc ls (av_i y :: av_l x :: st) μ Po := by
  intro p l e R s m args below meth c ad tc D A C H locs la hP hD hS hl
  obtain ⟨hx, hb, hml, hr, hlk, hown, hts, hK, hro, hA, hf, hlc⟩ := id C
  exact lv_lushr hx hb hd rfl (k p l e R s m args below meth c ad tc D A C H locs la hP hD hS hl)
theorem sm_lshl {d : Nat} {me : ME} {pc : Nat} {ls : List (Option AV)} {st : List AV} {μ : MM} {Po : Option AV → MM → Prop} {x : Int64} {y : Int32} (hd : decode me.2.1 pc = .ok (.lshl, 1)) (k : Sm d me (pc + 1) ls (av_l (x <<< (y.toInt64 &&& 63)) :: st) μ Po) : Sm d me pc ls (av_i y :: av_l x :: st) μ Po := by
  intro p l e R s m args below meth c ad tc D A C H locs la hP hD hS hl
  obtain ⟨hx, hb, hml, hr, hlk, hown, hts, hK, hro, hA, hf, hlc⟩ := id C
  exact lv_lshl hx hb hd rfl (k p l e R s m args below meth c ad tc D A C H locs la hP hD hS hl)
theorem sm_lcmp {d : Nat} {me : ME} {pc : Nat} {ls : List (Option AV)} {st : List AV} {μ : MM} {Po : Option AV → MM → Prop} {x y : Int64} (hd : decode me.2.1 pc = .ok (.lcmp, 1)) (k : Sm d me (pc + 1) ls (av_i (lg_cmp x y) :: st) μ Po) : Sm d me pc ls (av_l y :: av_l x :: st) μ Po := by
  intro p l e R s m args below meth c ad tc D A C H locs la hP hD hS hl
  obtain ⟨hx, hb, hml, hr, hlk, hown, hts, hK, hro, hA, hf, hlc⟩ := id C
  exact W.lcmp hx hb hd (k p l e R s m args below meth c ad tc D A C H locs la hP hD hS hl)
theorem sm_i2l {d : Nat} {me : ME} {pc : Nat} {ls : List (Option AV)} {st : List AV} {μ : MM} {Po : Option AV → MM → Prop} {x : Int32} (hd : decode me.2.1 pc = .ok (.i2l, 1)) (k : Sm d me (pc + 1) ls (av_l x.toInt64 :: st) μ Po) : Sm d me pc ls (av_i x :: st) μ Po := by
  intro p l e R s m args below meth c ad tc D A C H locs la hP hD hS hl
  obtain ⟨hx, hb, hml, hr, hlk, hown, hts, hK, hro, hA, hf, hlc⟩ := id C
  exact lv_i2l hx hb hd rfl (k p l e R s m args below meth c ad tc D A C H locs la hP hD hS hl)
theorem sm_l2i {d : Nat} {me : ME} {pc : Nat} {ls : List (Option AV)} {st : List AV} {μ : MM} {Po : Option AV → MM → Prop} {x : Int64} (hd : decode me.2.1 pc = .ok (.l2i, 1)) (k : Sm d me (pc + 1) ls (av_i x.toInt32 :: st) μ Po) : Sm d me pc ls (av_l x :: st) μ Po := by
  intro p l e R s m args below meth c ad tc D A C H locs la hP hD hS hl
  obtain ⟨hx, hb, hml, hr, hlk, hown, hts, hK, hro, hA, hf, hlc⟩ := id C
  exact lv_l2i hx hb hd rfl (k p l e R s m args below meth c ad tc D A C H locs la hP hD hS hl)
theorem sm_i2b {d : Nat} {me : ME} {pc : Nat} {ls : List (Option AV)} {st : List AV} {μ : MM} {Po : Option AV → MM → Prop} {x : Int32} (hd : decode me.2.1 pc = .ok (.i2b, 1)) (k : Sm d me (pc + 1) ls (av_i x.toInt8.toInt32 :: st) μ Po) : Sm d me pc ls (av_i x :: st) μ Po := by
  intro p l e R s m args below meth c ad tc D A C H locs la hP hD hS hl
  obtain ⟨hx, hb, hml, hr, hlk, hown, hts, hK, hro, hA, hf, hlc⟩ := id C
  exact lv_i2b hx hb hd rfl (k p l e R s m args below meth c ad tc D A C H locs la hP hD hS hl)
theorem sm_i2c {d : Nat} {me : ME} {pc : Nat} {ls : List (Option AV)} {st : List AV} {μ : MM} {Po : Option AV → MM → Prop} {x : Int32} (hd : decode me.2.1 pc = .ok (.i2c, 1)) (k : Sm d me (pc + 1) ls (av_i (x.toUInt32 % 65536).toInt32 :: st) μ Po) : Sm d me pc ls (av_i x :: st) μ Po := by
  intro p l e R s m args below meth c ad tc D A C H locs la hP hD hS hl
  obtain ⟨hx, hb, hml, hr, hlk, hown, hts, hK, hro, hA, hf, hlc⟩ := id C
  exact lv_i2c hx hb hd rfl (k p l e R s m args below meth c ad tc D A C H locs la hP hD hS hl)
theorem sm_dup {d : Nat} {me : ME} {pc : Nat} {ls : List (Option AV)} {st : List AV} {μ : MM} {Po : Option AV → MM → Prop} {v : AV} (hd : decode me.2.1 pc = .ok (.dup, 1)) (hv : av_c v = 1) (k : Sm d me (pc + 1) ls (v :: v :: st) μ Po) : Sm d me pc ls (v :: st) μ Po := by
  intro p l e R s m args below meth c ad tc D A C H locs la hP hD hS hl
  obtain ⟨hx, hb, hml, hr, hlk, hown, hts, hK, hro, hA, hf, hlc⟩ := id C
  exact lv_dup hx hb hd ((av_cat ad _).trans hv) (k p l e R s m args below meth c ad tc D A C H locs la hP hD hS hl)
theorem sm_pop {d : Nat} {me : ME} {pc : Nat} {ls : List (Option AV)} {st : List AV} {μ : MM} {Po : Option AV → MM → Prop} {v : AV} (hd : decode me.2.1 pc = .ok (.pop, 1)) (hv : av_c v = 1) (k : Sm d me (pc + 1) ls st μ Po) : Sm d me pc ls (v :: st) μ Po := by
  intro p l e R s m args below meth c ad tc D A C H locs la hP hD hS hl
  obtain ⟨hx, hb, hml, hr, hlk, hown, hts, hK, hro, hA, hf, hlc⟩ := id C
  exact lv_pop hx hb hd ((av_cat ad _).trans hv) (k p l e R s m args below meth c ad tc D A C H locs la hP hD hS hl)
theorem sm_dup_x1 {d : Nat} {me : ME} {pc : Nat} {ls : List (Option AV)} {st : List AV} {μ : MM} {Po : Option AV → MM → Prop} {v w : AV} (hd : decode me.2.1 pc = .ok (.dup_x1, 1)) (hv : av_c v = 1) (hw : av_c w = 1) (k : Sm d me (pc + 1) ls (v :: w :: v :: st) μ Po) : Sm d me pc ls (v :: w :: st) μ Po := by
  intro p l e R s m args below meth c ad tc D A C H locs la hP hD hS hl
  obtain ⟨hx, hb, hml, hr, hlk, hown, hts, hK, hro, hA, hf, hlc⟩ := id C
  exact lv_dup_x1 hx hb hd ((av_cat ad _).trans hv) ((av_cat ad _).trans hw) (k p l e R s m args below meth c ad tc D A C H locs la hP hD hS hl)
theorem sm_dup_x2 {d : Nat} {me : ME} {pc : Nat} {ls : List (Option AV)} {st : List AV} {μ : MM} {Po : Option AV → MM → Prop} {v w z : AV} (hd : decode me.2.1 pc = .ok (.dup_x2, 1)) (hv : av_c v = 1) (hw : av_c w = 1) (hz : av_c z = 1) (k : Sm d me (pc + 1) ls (v :: w :: z :: v :: st) μ Po) : Sm d me pc ls (v :: w :: z :: st) μ Po := by
  intro p l e R s m args below meth c ad tc D A C H locs la hP hD hS hl
  obtain ⟨hx, hb, hml, hr, hlk, hown, hts, hK, hro, hA, hf, hlc⟩ := id C
  exact lv_dup_x2 hx hb hd ((av_cat ad _).trans hv) ((av_cat ad _).trans hw) ((av_cat ad _).trans hz) (k p l e R s m args below meth c ad tc D A C H locs la hP hD hS hl)
theorem sm_dup2 {d : Nat} {me : ME} {pc : Nat} {ls : List (Option AV)} {st : List AV} {μ : MM} {Po : Option AV → MM → Prop} {v w : AV} (hd : decode me.2.1 pc = .ok (.dup2, 1)) (hv : av_c v = 1) (hw : av_c w = 1) (k : Sm d me (pc + 1) ls (v :: w :: v :: w :: st) μ Po) : Sm d me pc ls (v :: w :: st) μ Po := by
  intro p l e R s m args below meth c ad tc D A C H locs la hP hD hS hl
  obtain ⟨hx, hb, hml, hr, hlk, hown, hts, hK, hro, hA, hf, hlc⟩ := id C
  exact lv_dup2_11 hx hb hd ((av_cat ad _).trans hv) ((av_cat ad _).trans hw) (k p l e R s m args below meth c ad tc D A C H locs la hP hD hS hl)
theorem sm_if_eq {d : Nat} {me : ME} {pc : Nat} {ls : List (Option AV)} {st : List AV} {μ : MM} {Po : Option AV → MM → Prop} {x : Int32} {off : Int} {tgt : Nat} (hd : decode me.2.1 pc = .ok (.ifCond .eq off, 3)) (ht : (pc : Int) + off = (tgt : Int)) (kt : x = 0 → Sm d me tgt ls st μ Po) (kf : ¬ (x = 0) → Sm d me (pc + 3) ls st μ Po) : Sm d me pc ls (av_i x :: st) μ Po := by
  intro p l e R s m args below meth c ad tc D A C H locs la hP hD hS hl
  obtain ⟨hx, hb, hml, hr, hlk, hown, hts, hK, hro, hA, hf, hlc⟩ := id C
  exact lv_if_eq hx hb hd ht (fun q => (kt q p l e R s m args below meth c ad tc D A C H locs la hP hD hS hl)) (fun q => (kf q p l e R s m args below meth c ad tc D A C H locs la hP hD hS hl))
theorem sm_icmp_eq {d : Nat} {me : ME} {pc : Nat} {ls : List (Option AV)} {st : List AV} {μ : MM} {Po : Option AV → MM → Prop} {x y : Int32} {off : Int} {tgt : Nat} (hd : decode me.2.1 pc = .ok (.if_icmp .eq off, 3)) (ht : (pc : Int) + off = (tgt : Int)) (kt : x = y → Sm d me tgt ls st μ Po) (kf : ¬ (x = y) → Sm d me (pc + 3) ls st μ Po) : Sm d me pc ls (av_i y :: av_i x :: st) μ Po := by
  intro p l e R s m args below meth c ad tc D A C H locs la hP hD hS hl
  obtain ⟨hx, hb, hml, hr, hlk, hown, hts, hK, hro, hA, hf, hlc⟩ := id C
  exact lv_icmp_eq hx hb hd ht (fun q => (kt q p l e R s m args below meth c ad tc D A C H locs la hP hD hS hl)) (fun q => (kf q p l e R s m args below meth c ad tc D A C H locs la hP hD hS hl))
theorem sm_if_ne {d : Nat} {me : ME} {pc : Nat} {ls : List (Option AV)} {st : List AV} {μ : MM} {Po : Option AV → MM → Prop} {x : Int32} {off : Int} {tgt : Nat} (hd : decode me.2.1 pc = .ok (.ifCond .ne off, 3)) (ht : (pc : Int) + off = (tgt : Int)) (kt : ¬ x = 0 → Sm d me tgt ls st μ Po) (kf : x = 0 → Sm d me (pc + 3) ls st μ Po) : Sm d me pc ls (av_i x :: st) μ Po := by
  intro p l e R s m args below meth c ad tc D A C H locs la hP hD hS hl
  obtain ⟨hx, hb, hml, hr, hlk, hown, hts, hK, hro, hA, hf, hlc⟩ := id C
  exact lv_if_ne hx hb hd ht (fun q => (kt q p l e R s m args below meth c ad tc D A C H locs la hP hD hS hl)) (fun q => (kf q p l e R s m args below meth c ad tc D A C H locs la hP hD hS hl))
theorem sm_icmp_ne {d : Nat} {me : ME} {pc : Nat} {ls : List (Option AV)} {st : List AV} {μ : MM} {Po : Option AV → MM → Prop} {x y : Int32} {off : Int} {tgt : Nat} (hd : decode me.2.1 pc = .ok (.if_icmp .ne off, 3)) (ht : (pc : Int) + off = (tgt : Int)) (kt : ¬ x = y → Sm d me tgt ls st μ Po) (kf : x = y → Sm d me (pc + 3) ls st μ Po) : Sm d me pc ls (av_i y :: av_i x :: st) μ Po := by
  intro p l e R s m args below meth c ad tc D A C H locs la hP hD hS hl
  obtain ⟨hx, hb, hml, hr, hlk, hown, hts, hK, hro, hA, hf, hlc⟩ := id C
  exact lv_icmp_ne hx hb hd ht (fun q => (kt q p l e R s m args below meth c ad tc D A C H locs la hP hD hS hl)) (fun q => (kf q p l e R s m args below meth c ad tc D A C H locs la hP hD hS hl))
theorem sm_if_lt {d : Nat} {me : ME} {pc : Nat} {ls : List (Option AV)} {st : List AV} {μ : MM} {Po : Option AV → MM → Prop} {x : Int32} {off : Int} {tgt : Nat} (hd : decode me.2.1 pc = .ok (.ifCond .lt off, 3)) (ht : (pc : Int) + off = (tgt : Int)) (kt : x < 0 → Sm d me tgt ls st μ Po) (kf : ¬ (x < 0) → Sm d me (pc + 3) ls st μ Po) : Sm d me pc ls (av_i x :: st) μ Po := by
  intro p l e R s m args below meth c ad tc D A C H locs la hP hD hS hl
  obtain ⟨hx, hb, hml, hr, hlk, hown, hts, hK, hro, hA, hf, hlc⟩ := id C
  exact lv_if_lt hx hb hd ht (fun q => (kt q p l e R s m args below meth c ad tc D A C H locs la hP hD hS hl)) (fun q => (kf q p l e R s m args below meth c ad tc D A C H locs la hP hD hS hl))
theorem sm_icmp_lt {d : Nat} {me : ME} {pc : Nat} {ls : List (Option AV)} {st : List AV} {μ : MM} {Po : Option AV → MM → Prop} {x y : Int32} {off : Int} {tgt : Nat} (hd : decode me.2.1 pc = .ok (.if_icmp .lt off, 3)) (ht : (pc : Int) + off = (tgt : Int)) (kt : x < y → Sm d me tgt ls st μ Po) (kf : ¬ (x < y) → Sm d me (pc + 3) ls st μ Po) : Sm d me pc ls (av_i y :: av_i x :: st) μ Po := by
  intro p l e R s m args below meth c ad tc D A C H locs la hP hD hS hl
  obtain ⟨hx, hb, hml, hr, hlk, hown, hts, hK, hro, hA, hf, hlc⟩ := id C
  exact lv_icmp_lt hx hb hd ht (fun q => (kt q p l e R s m args below meth c ad tc D A C H locs la hP hD hS hl)) (fun q => (kf q p l e R s m args below meth c ad tc D A C H locs la hP hD hS hl))
theorem sm_if_ge {d : Nat} {me : ME} {pc : Nat} {ls : List (Option AV)} {st : List AV} {μ : MM} {Po : Option AV → MM → Prop} {x : Int32} {off : Int} {tgt : Nat} (hd : decode me.2.1 pc = .ok (.ifCond .ge off, 3)) (ht : (pc : Int) + off = (tgt : Int)) (kt : 0 ≤ x → Sm d me tgt ls st μ Po) (kf : ¬ (0 ≤ x) → Sm d me (pc + 3) ls st μ Po) : Sm d me pc ls (av_i x :: st) μ Po := by
  intro p l e R s m args below meth c ad tc D A C H locs la hP hD hS hl
  obtain ⟨hx, hb, hml, hr, hlk, hown, hts, hK, hro, hA, hf, hlc⟩ := id C
  exact lv_if_ge hx hb hd ht (fun q => (kt q p l e R s m args below meth c ad tc D A C H locs la hP hD hS hl)) (fun q => (kf q p l e R s m args below meth c ad tc D A C H locs la hP hD hS hl))
theorem sm_icmp_ge {d : Nat} {me : ME} {pc : Nat} {ls : List (Option AV)} {st : List AV} {μ : MM} {Po : Option AV → MM → Prop} {x y : Int32} {off : Int} {tgt : Nat} (hd : decode me.2.1 pc = .ok (.if_icmp .ge off, 3)) (ht : (pc : Int) + off = (tgt : Int)) (kt : y ≤ x → Sm d me tgt ls st μ Po) (kf : ¬ (y ≤ x) → Sm d me (pc + 3) ls st μ Po) : Sm d me pc ls (av_i y :: av_i x :: st) μ Po := by
  intro p l e R s m args below meth c ad tc D A C H locs la hP hD hS hl
  obtain ⟨hx, hb, hml, hr, hlk, hown, hts, hK, hro, hA, hf, hlc⟩ := id C
  exact lv_icmp_ge hx hb hd ht (fun q => (kt q p l e R s m args below meth c ad tc D A C H locs la hP hD hS hl)) (fun q => (kf q p l e R s m args below meth c ad tc D A C H locs la hP hD hS hl))
theorem sm_if_gt {d : Nat} {me : ME} {pc : Nat} {ls : List (Option AV)} {st : List AV} {μ : MM} {Po : Option AV → MM → Prop} {x : Int32} {off : Int} {tgt : Nat} (hd : decode me.2.1 pc = .ok (.ifCond .gt off, 3)) (ht : (pc : Int) + off = (tgt : Int)) (kt : 0 < x → Sm d me tgt ls st μ Po) (kf : ¬ (0 < x) → Sm d me (pc + 3) ls st μ Po) : Sm d me pc ls (av_i x :: st) μ Po := by
  intro p l e R s m args below meth c ad tc D A C H locs la hP hD hS hl
  obtain ⟨hx, hb, hml, hr, hlk, hown, hts, hK, hro, hA, hf, hlc⟩ := id C
  exact lv_if_gt hx hb hd ht (fun q => (kt q p l e R s m args below meth c ad tc D A C H locs la hP hD hS hl)) (fun q => (kf q p l e R s m args below meth c ad tc D A C H locs la hP hD hS hl))
theorem sm_icmp_gt {d : Nat} {me : ME} {pc : Nat} {ls : List (Option AV)} {st : List AV} {μ : MM} {Po : Option AV → MM → Prop} {x y : Int32} {off : Int} {tgt : Nat} (hd : decode me.2.1 pc = .ok (.if_icmp .gt off, 3)) (ht : (pc : Int) + off = (tgt : Int)) (kt : y < x → Sm d me tgt ls st μ Po) (kf : ¬ (y < x) → Sm d me (pc + 3) ls st μ Po) : Sm d me pc ls (av_i y :: av_i x :: st) μ Po := by
  intro p l e R s m args below meth c ad tc D A C H locs la hP hD hS hl
  obtain ⟨hx, hb, hml, hr, hlk, hown, hts, hK, hro, hA, hf, hlc⟩ := id C
  exact lv_icmp_gt hx hb hd ht (fun q => (kt q p l e R s m args below meth c ad tc D A C H locs la hP hD hS hl)) (fun q => (kf q p l e R s m args below meth c ad tc D A C H locs la hP hD hS hl))
theorem sm_if_le {d : Nat} {me : ME} {pc : Nat} {ls : List (Option AV)} {st : List AV} {μ : MM} {Po : Option AV → MM → Prop} {x : Int32} {off : Int} {tgt : Nat} (hd : decode me.2.1 pc = .ok (.ifCond .le off, 3)) (ht : (pc : Int) + off = (tgt : Int)) (kt : x ≤ 0 → Sm d me tgt ls st μ Po) (kf : ¬ (x ≤ 0) → Sm d me (pc + 3) ls st μ Po) : Sm d me pc ls (av_i x :: st) μ Po := by
  intro p l e R s m args below meth c ad tc D A C H locs la hP hD hS hl
  obtain ⟨hx, hb, hml, hr, hlk, hown, hts, hK, hro, hA, hf, hlc⟩ := id C
  exact lv_if_le hx hb hd ht (fun q => (kt q p l e R s m args below meth c ad tc D A C H locs la hP hD hS hl)) (fun q => (kf q p l e R s m args below meth c ad tc D A C H locs la hP hD hS hl))
theorem sm_icmp_le {d : Nat} {me : ME} {pc : Nat} {ls : List (Option AV)} {st : List AV} {μ : MM} {Po : Option AV → MM → Prop} {x y : Int32} {off : Int} {tgt : Nat} (hd : decode me.2.1 pc = .ok (.if_icmp .le off, 3)) (ht : (pc : Int) + off = (tgt : Int)) (kt : x ≤ y → Sm d me tgt ls st μ Po) (kf : ¬ (x ≤ y) → Sm d me (pc + 3) ls st μ Po) : Sm d me pc ls (av_i y :: av_i x :: st) μ Po := by
  intro p l e R s m args below meth c ad tc D A C H locs la hP hD hS hl
  obtain ⟨hx, hb, hml, hr, hlk, hown, hts, hK, hro, hA, hf, hlc⟩ := id C
  exact lv_icmp_le hx hb hd ht (fun q => (kt q p l e R s m args below meth c ad tc D A C H locs la hP hD hS hl)) (fun q => (kf q p l e R s m args below meth c ad tc D A C H locs la hP hD hS hl))
theorem sm_goto {d : Nat} {me : ME} {pc : Nat} {ls : List (Option AV)} {st : List AV} {μ : MM} {Po : Option AV → MM → Prop} {off : Int} {tgt : Nat} (hd : decode me.2.1 pc = .ok (.goto off, 3)) (ht : (pc : Int) + off = (tgt : Int)) (k : Sm d me tgt ls st μ Po) : Sm d me pc ls st μ Po := by
  intro p l e R s m args below meth c ad tc D A C H locs la hP hD hS hl
  obtain ⟨hx, hb, hml, hr, hlk, hown, hts, hK, hro, hA, hf, hlc⟩ := id C
  exact lv_goto hx hb hd ht (k p l e R s m args below meth c ad tc D A C H locs la hP hD hS hl)
theorem sm_tsw {d : Nat} {me : ME} {pc : Nat} {ls : List (Option AV)} {st : List AV} {μ : MM} {Po : Option AV → MM → Prop} {x : Int32} {dflt lo hi : Int} {offs : Array Int} {len td : Nat} (hd : decode me.2.1 pc = .ok (.tableswitch dflt lo hi offs, len)) (htd : (pc : Int) + dflt = (td : Int)) (kd : x.toInt < lo ∨ hi < x.toInt → Sm d me td ls st μ Po) (kc : ¬ x.toInt < lo → ¬ hi < x.toInt → ∃ (off : Int) (tgt : Nat), offs[(x.toInt - lo).toNat]? = some off ∧ (pc : Int) + off = (tgt : Int) ∧ Sm d me tgt ls st μ Po) : Sm d me pc ls (av_i x :: st) μ Po := by
  intro p l e R s m args below meth c ad tc D A C H locs la hP hD hS hl
  obtain ⟨hx, hb, hml, hr, hlk, hown, hts, hK, hro, hA, hf, hlc⟩ := id C
  by_cases h1 : x.toInt < lo
  · exact lv_tableOut hx hb hd (Or.inl h1) htd (kd (Or.inl h1) p l e R s m args below meth c ad tc D A C H locs la hP hD hS hl)
  · by_cases h2 : hi < x.toInt
    · exact lv_tableOut hx hb hd (Or.inr h2) htd (kd (Or.inr h2) p l e R s m args below meth c ad tc D A C H locs la hP hD hS hl)
    · obtain ⟨off, tgt, g1, g2, k⟩ := kc h1 h2
      exact lv_tableIn hx hb hd h1 h2 g1 g2 (k p l e R s m args below meth c ad tc D A C H locs la hP hD hS hl)
theorem sm_lsw {d : Nat} {me : ME} {pc : Nat} {ls : List (Option AV)} {st : List AV} {μ : MM} {Po : Option AV → MM → Prop} {x : Int32} {dflt : Int} {ps : Array (Int × Int)} {len tgt : Nat} {off : Int} (hd : decode me.2.1 pc = .ok (.lookupswitch dflt ps, len)) (hp : (ps.toList.zip (ps.toList.drop 1)).all (fun (a, next) => a.1 < next.1) = true) (ho : Op.lookupswitch.offset ps.toList dflt x.toInt = off) (ht : (pc : Int) + off = (tgt : Int)) (k : Sm d me tgt ls st μ Po) : Sm d me pc ls (av_i x :: st) μ Po := by
  intro p l e R s m args below meth c ad tc D A C H locs la hP hD hS hl
  obtain ⟨hx, hb, hml, hr, hlk, hown, hts, hK, hro, hA, hf, hlc⟩ := id C
  exact lv_lookup hx hb hd hp ho ht (k p l e R s m args below meth c ad tc D A C H locs la hP hD hS hl)
theorem sm_ldc {d : Nat} {me : ME} {pc : Nat} {ls : List (Option AV)} {st : List AV} {μ : MM} {Po : Option AV → MM → Prop} {ix : Nat} {v : Int32} (hd : decode me.2.1 pc = .ok (.ldc ix, 2)) (hw : Cond.constant me.1.cls ix v ∈ lw_tbl) (k : Sm d me (pc + 2) ls (av_i v :: st) μ Po) : Sm d me pc ls st μ Po := by
  intro p l e R s m args below meth c ad tc D A C H locs la hP hD hS hl
  obtain ⟨hx, hb, hml, hr, hlk, hown, hts, hK, hro, hA, hf, hlc⟩ := id C
  exact lv_ldc hx hb hown (hts _ (GW_in hw rfl)) hd (k p l e R s m args below meth c ad tc D A C H locs la hP hD hS hl)
theorem sm_ldcw {d : Nat} {me : ME} {pc : Nat} {ls : List (Option AV)} {st : List AV} {μ : MM} {Po : Option AV → MM → Prop} {ix : Nat} {v : Int32} (hd : decode me.2.1 pc = .ok (.ldc_w ix, 3)) (hw : Cond.constant me.1.cls ix v ∈ lw_tbl) (k : Sm d me (pc + 3) ls (av_i v :: st) μ Po) : Sm d me pc ls st μ Po := by
  intro p l e R s m args below meth c ad tc D A C H locs la hP hD hS hl
  obtain ⟨hx, hb, hml, hr, hlk, hown, hts, hK, hro, hA, hf, hlc⟩ := id C
  exact lv_ldcw hx hb hown (hts _ (GW_in hw rfl)) hd (k p l e R s m args below meth c ad tc D A C H locs la hP hD hS hl)
theorem sm_ldc2 {d : Nat} {me : ME} {pc : Nat} {ls : List (Option AV)} {st : List AV} {μ : MM} {Po : Option AV → MM → Prop} {ix : Nat} {v : Int64} (hd : decode me.2.1 pc = .ok (.ldc2_w ix, 3)) (hw : Cond.constantLong me.1.cls ix v ∈ lw_tbl) (k : Sm d me (pc + 3) ls (av_l v :: st) μ Po) : Sm d me pc ls st μ Po := by
  intro p l e R s m args below meth c ad tc D A C H locs la hP hD hS hl
  obtain ⟨hx, hb, hml, hr, hlk, hown, hts, hK, hro, hA, hf, hlc⟩ := id C
  exact lv_ldc2 hx hb hown (hts _ (GW_in hw rfl)) hd (k p l e R s m args below meth c ad tc D A C H locs la hP hD hS hl)
theorem sm_ldcS {d : Nat} {me : ME} {pc : Nat} {ls : List (Option AV)} {st : List AV} {μ : MM} {Po : Option AV → MM → Prop} {i ix : Nat} {tx : String} (hd : decode me.2.1 pc = .ok (.ldc ix, 2)) (hi : i < st_c) (he : st_L.getD i ("", 0, "") = (me.1.cls, ix, tx)) (k : Sm d me (pc + 2) ls (av_r (2000 + i) :: st) μ Po) : Sm d me pc ls st μ Po := by
  intro p l e R s m args below meth c ad tc D A C H locs la hP hD hS hl
  obtain ⟨hx, hb, hml, hr, hlk, hown, hts, hK, hro, hA, hf, hlc⟩ := id C
  have h1 := hro.2.2.2 i hi
  rw [he] at h1
  exact va_ldcS hx hb hown h1 hd (k p l e R s m args below meth c ad tc D A C H locs la hP hD hS hl)
theorem sm_ret_v {d : Nat} {me : ME} {pc : Nat} {ls : List (Option AV)} {st : List AV} {μ : MM} {Po : Option AV → MM → Prop} (hd : decode me.2.1 pc = .ok (.return_, 1)) (hq : me.2.2.2 = none) (hp : Po none μ) : Sm d me pc ls [] μ Po := by
  intro p l e R s m args below meth c ad tc D A C H locs la hP hD hS hl
  obtain ⟨hx, hb, hml, hr, hlk, hown, hts, hK, hro, hA, hf, hlc⟩ := id C
  exact W.vret hx hb (hr.trans hq) (fun t ht hW => ⟨⟨none, μ, rfl, hp, by rw [ht]; exact hP⟩, hS.F ht⟩) hS.2.2 hd hlk
theorem sm_ret_i {d : Nat} {me : ME} {pc : Nat} {ls : List (Option AV)} {st : List AV} {μ : MM} {Po : Option AV → MM → Prop} {x : Int32} (hd : decode me.2.1 pc = .ok (.ireturn, 1)) (hq : me.2.2.2 = some .int) (hp : Po (some (av_i x)) μ) : Sm d me pc ls [av_i x] μ Po := by
  intro p l e R s m args below meth c ad tc D A C H locs la hP hD hS hl
  obtain ⟨hx, hb, hml, hr, hlk, hown, hts, hK, hro, hA, hf, hlc⟩ := id C
  exact W.iret hx hb (hr.trans hq) (fun t ht hW => ⟨⟨some (av_i x), μ, rfl, hp, by rw [ht]; exact hP⟩, hS.F ht⟩) hS.2.2 hd hlk
theorem sm_ret_z {d : Nat} {me : ME} {pc : Nat} {ls : List (Option AV)} {st : List AV} {μ : MM} {Po : Option AV → MM → Prop} {x : Int32} {ty : FieldType} (hd : decode me.2.1 pc = .ok (.ireturn, 1)) (hq : me.2.2.2 = some ty) (hn : narrow ty (.int x) = .int x) (hp : Po (some (av_i x)) μ) : Sm d me pc ls [av_i x] μ Po := by
  intro p l e R s m args below meth c ad tc D A C H locs la hP hD hS hl
  obtain ⟨hx, hb, hml, hr, hlk, hown, hts, hK, hro, hA, hf, hlc⟩ := id C
  exact W.zret hx hb (hr.trans hq) hn (fun t ht hW => ⟨⟨some (av_i x), μ, rfl, hp, by rw [ht]; exact hP⟩, hS.F ht⟩) hS.2.2 hd hlk
theorem sm_ret_l {d : Nat} {me : ME} {pc : Nat} {ls : List (Option AV)} {st : List AV} {μ : MM} {Po : Option AV → MM → Prop} {x : Int64} (hd : decode me.2.1 pc = .ok (.lreturn, 1)) (hq : me.2.2.2 = some .long) (hp : Po (some (av_l x)) μ) : Sm d me pc ls [av_l x] μ Po := by
  intro p l e R s m args below meth c ad tc D A C H locs la hP hD hS hl
  obtain ⟨hx, hb, hml, hr, hlk, hown, hts, hK, hro, hA, hf, hlc⟩ := id C
  exact W.lret hx hb (hr.trans hq) (fun t ht hW => ⟨⟨some (av_l x), μ, rfl, hp, by rw [ht]; exact hP⟩, hS.F ht⟩) hS.2.2 hd hlk
