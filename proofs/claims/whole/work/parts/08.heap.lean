/-! ===== fields, arrays ===== -/
/-- the link of a field: in the class own, at the pool's place ix, the field k of the class ci -/
def FL (own : String) (ix ci k : Nat) : Prop := ∃ q : vw_C, vwCl[ci]? = some q ∧ k < q.2.2 ∧ Cond.fieldLink own ix (q.2.1 k).1 (q.2.1 k).2.1 (q.2.1 k).2.2.1 ∈ lw_tbl
def FG (own : String) (ix ci k t : Nat) : Prop := FL own ix ci k ∧ ci < 20 ∧ fk_c ci k = t
def FP (own : String) (ix ci k : Nat) (ty : FieldType) : Prop := FL own ix ci k ∧ ci < 20 ∧ cl_ty ci k = ty ∧ ∀ q : vw_C, vwCl[ci]? = some q → (q.2.1 k).2.2.2 = false
theorem ce_ob {ad : Nat → Nat} {tc : Nat → ClassId} {μ : MM} {a ci : Nat} (h : sh_k a = ci) (hc : ci < 20) : (wo_w ad tc μ)[a]? = some (ad a, .inr (ci, ce_o ad μ a)) := by
  subst h
  rw [wo_get (sh_lt (by omega)), ce_e, if_pos hc]
theorem ce_i {ad : Nat → Nat} {tc : Nat → ClassId} {μ : MM} {a t : Nat} (h : sh_k a = t) (h1 : 20 ≤ t) (h2 : t < 23) : (wo_w ad tc μ)[a]? = some (ad a, .inl (tc t, sh_n a, .inl (μ.1 a))) := by
  subst h
  rw [wo_get (sh_lt (by omega)), ce_e, if_neg (by omega), ce_a, if_neg (by omega), if_neg (by omega)]
theorem ce_j {ad : Nat → Nat} {tc : Nat → ClassId} {μ : MM} {a : Nat} (h : sh_k a = 23) : (wo_w ad tc μ)[a]? = some (ad a, .inl (tc 23, sh_n a, .inr (.inl (μ.2 a)))) := by
  rw [wo_get (sh_lt (by omega)), ce_e, if_neg (by omega), ce_a, if_pos h, h]
theorem ce_q {ad : Nat → Nat} {tc : Nat → ClassId} {μ : MM} {a t : Nat} (h : sh_k a = t) (h1 : 24 ≤ t) (h2 : t < 30) : (wo_w ad tc μ)[a]? = some (ad a, .inl (tc t, sh_n a, .inr (.inr (.inr (.inr (fun j => some (ad (rf_s a j)))))))) := by
  subst h
  rw [wo_get (sh_lt (by omega)), ce_e, if_neg (by omega), ce_a, if_neg (by omega), if_pos h1]
theorem fk_at {ad : Nat → Nat} {μ : MM} {a k : Nat} (hk : k < sh_n a) : (ce_o ad μ a)[k]? = some (fk_v ad μ a k) := by
  simp only [ce_o, List.getElem?_map, List.getElem?_range hk, Option.map_some]
theorem up_2_ne {α : Type} {f : Nat → Nat → α} {a b k : Nat} {x : α} (h : b ≠ a) : up_2 f a k x b = f b := by
  funext j
  simp [up_2, h]
theorem up_2_eq {f : Nat → Nat → Int32} {a k : Nat} {x : Int32} : up_2 f a k x a = upd (f a) k x := by
  funext j
  simp [up_2, upd]
theorem up_2_eqL {f : Nat → Nat → Int64} {a k : Nat} {x : Int64} : up_2 f a k x a = vp_updL (f a) k x := by
  funext j
  simp [up_2, vp_updL]
theorem up_1_ne {α : Type} {f : Nat → Nat → α} {a b : Nat} {g : Nat → α} (h : b ≠ a) : up_1 f a g b = f b := by
  funext j
  simp [up_1, h]
theorem up_1_eq {α : Type} {f : Nat → Nat → α} {a : Nat} {g : Nat → α} : up_1 f a g a = g := by
  funext j
  simp [up_1]
theorem ce_of {ad : Nat → Nat} {tc : Nat → ClassId} {μ μ' : MM} {b : Nat} (h1 : μ'.1 b = μ.1 b) (h2 : μ'.2 b = μ.2 b) : ce_e ad tc μ' b = ce_e ad tc μ b := by
  unfold ce_e ce_o ce_a
  have e : ∀ k, fk_v ad μ' b k = fk_v ad μ b k := fun k => by unfold fk_v; rw [h1, h2]
  simp only [e, h1, h2]
theorem ce_oset {ad : Nat → Nat} {μ μ' : MM} {a k : Nat} {v : Value} (hk : k < sh_n a) (he : fk_v ad μ' a k = v) (ho : ∀ j, j ≠ k → μ'.1 a j = μ.1 a j ∧ μ'.2 a j = μ.2 a j) : ce_o ad μ' a = (ce_o ad μ a).set k v := by
  apply List.ext_getElem?
  intro i
  by_cases hi : i < sh_n a
  · rw [fk_at hi]
    by_cases h : i = k
    · subst h
      rw [List.getElem?_set_self (by simpa [ce_o] using hi), he]
    · rw [List.getElem?_set_ne (Ne.symm h), fk_at hi]
      unfold fk_v
      rw [(ho i h).1, (ho i h).2]
  · have h1 : (ce_o ad μ' a).length ≤ i := by simpa [ce_o] using hi
    have h2 : ((ce_o ad μ a).set k v).length ≤ i := by simpa [ce_o] using hi
    rw [List.getElem?_eq_none h1, List.getElem?_eq_none h2]
theorem sm_getI {d : Nat} {me : ME} {pc : Nat} {ls : List (Option AV)} {st : List AV} {μ : MM} {Po : Option AV → MM → Prop} {a ci k ix : Nat} (hd : decode me.2.1 pc = .ok (.getfield ix, 3)) (hfg : FG me.1.cls ix ci k 0) (ha : sh_k a = ci) (kk : Sm d me (pc + 3) ls (av_i (μ.1 a k) :: st) μ Po) : Sm d me pc ls (av_r a :: st) μ Po := by
  intro p l e R s m args below meth c ad tc D A C H locs la hP hD hS hl
  obtain ⟨hx, hb, hml, hr, hlk, hown, hts, hK, hro, hA, hf, hlc⟩ := id C
  obtain ⟨⟨⟨cn, ct, n⟩, f1, f2, f3⟩, hc, hk⟩ := hfg
  have hn : sh_n a = n := by
    have := sh_cl (a := a) (by omega)
    rw [ha, f1] at this
    exact (Option.some.inj this).symm
  exact va_get (C := cn) (T := ct) (N := n) hx hb hts (cl_in ci _ f1) hown hK hP a (ce_ob ha hc) f1 k f2 (hts _ (GW_in f3 rfl)) (fun _ h => h) (by rw [fk_at (by rw [hn]; exact f2), fk_v, ha, hk]; rfl) hd (kk p l e R s m args below meth c ad tc D A C H locs la hP hD hS hl)
theorem sm_getJ {d : Nat} {me : ME} {pc : Nat} {ls : List (Option AV)} {st : List AV} {μ : MM} {Po : Option AV → MM → Prop} {a ci k ix : Nat} (hd : decode me.2.1 pc = .ok (.getfield ix, 3)) (hfg : FG me.1.cls ix ci k 1) (ha : sh_k a = ci) (kk : Sm d me (pc + 3) ls (av_l (μ.2 a k) :: st) μ Po) : Sm d me pc ls (av_r a :: st) μ Po := by
  intro p l e R s m args below meth c ad tc D A C H locs la hP hD hS hl
  obtain ⟨hx, hb, hml, hr, hlk, hown, hts, hK, hro, hA, hf, hlc⟩ := id C
  obtain ⟨⟨⟨cn, ct, n⟩, f1, f2, f3⟩, hc, hk⟩ := hfg
  have hn : sh_n a = n := by
    have := sh_cl (a := a) (by omega)
    rw [ha, f1] at this
    exact (Option.some.inj this).symm
  exact va_get (C := cn) (T := ct) (N := n) hx hb hts (cl_in ci _ f1) hown hK hP a (ce_ob ha hc) f1 k f2 (hts _ (GW_in f3 rfl)) (fun _ h => h) (by rw [fk_at (by rw [hn]; exact f2), fk_v, ha, hk]; rfl) hd (kk p l e R s m args below meth c ad tc D A C H locs la hP hD hS hl)
theorem sm_getR {d : Nat} {me : ME} {pc : Nat} {ls : List (Option AV)} {st : List AV} {μ : MM} {Po : Option AV → MM → Prop} {a ci k ix : Nat} {b : Nat} (hd : decode me.2.1 pc = .ok (.getfield ix, 3)) (hfg : FG me.1.cls ix ci k 2) (ha : sh_k a = ci) (hrf : rf_s a k = b) (kk : Sm d me (pc + 3) ls (av_r b :: st) μ Po) : Sm d me pc ls (av_r a :: st) μ Po := by
  intro p l e R s m args below meth c ad tc D A C H locs la hP hD hS hl
  obtain ⟨hx, hb, hml, hr, hlk, hown, hts, hK, hro, hA, hf, hlc⟩ := id C
  obtain ⟨⟨⟨cn, ct, n⟩, f1, f2, f3⟩, hc, hk⟩ := hfg
  have hn : sh_n a = n := by
    have := sh_cl (a := a) (by omega)
    rw [ha, f1] at this
    exact (Option.some.inj this).symm
  exact va_get (C := cn) (T := ct) (N := n) hx hb hts (cl_in ci _ f1) hown hK hP a (ce_ob ha hc) f1 k f2 (hts _ (GW_in f3 rfl)) (fun _ h => h) (by rw [fk_at (by rw [hn]; exact f2), fk_v, ha, hk]; rw [hrf]; rfl) hd (kk p l e R s m args below meth c ad tc D A C H locs la hP hD hS hl)
theorem sm_getX {d : Nat} {me : ME} {pc : Nat} {ls : List (Option AV)} {st : List AV} {μ : MM} {Po : Option AV → MM → Prop} {a ci k ix : Nat} (hd : decode me.2.1 pc = .ok (.getfield ix, 3)) (hfg : FG me.1.cls ix ci k 3) (ha : sh_k a = ci) (kk : Sm d me (pc + 3) ls (av_r (μ.1 a k).toNatClampNeg :: st) μ Po) : Sm d me pc ls (av_r a :: st) μ Po := by
  intro p l e R s m args below meth c ad tc D A C H locs la hP hD hS hl
  obtain ⟨hx, hb, hml, hr, hlk, hown, hts, hK, hro, hA, hf, hlc⟩ := id C
  obtain ⟨⟨⟨cn, ct, n⟩, f1, f2, f3⟩, hc, hk⟩ := hfg
  have hn : sh_n a = n := by
    have := sh_cl (a := a) (by omega)
    rw [ha, f1] at this
    exact (Option.some.inj this).symm
  exact va_get (C := cn) (T := ct) (N := n) hx hb hts (cl_in ci _ f1) hown hK hP a (ce_ob ha hc) f1 k f2 (hts _ (GW_in f3 rfl)) (fun _ h => h) (by rw [fk_at (by rw [hn]; exact f2), fk_v, ha, hk]; rfl) hd (kk p l e R s m args below meth c ad tc D A C H locs la hP hD hS hl)
theorem sm_putI {d : Nat} {me : ME} {pc : Nat} {ls : List (Option AV)} {st : List AV} {μ : MM} {Po : Option AV → MM → Prop} {a ci k ix : Nat} {x : Int32} (hd : decode me.2.1 pc = .ok (.putfield ix, 3)) (hfp : FP me.1.cls ix ci k .int) (ha : sh_k a = ci) (kk : Sm d me (pc + 3) ls st (mm_I μ a k x) Po) : Sm d me pc ls (av_i x :: av_r a :: st) μ Po := by
  intro p l e R s m args below meth c ad tc D A C H locs la hP hD hS hl
  obtain ⟨hx, hb, hml, hr, hlk, hown, hts, hK, hro, hA, hf, hlc⟩ := id C
  obtain ⟨⟨⟨cn, ct, n⟩, f1, f2, f3⟩, hc, hk, hfin⟩ := hfp
  have hn : sh_n a = n := by
    have := sh_cl (a := a) (by omega)
    rw [ha, f1] at this
    exact (Option.some.inj this).symm
  refine va_put (C := cn) (T := ct) (N := n) (ty := .int) hx hb hts (cl_in ci _ f1) (cl_ty ci) (cl_tyok ci _ f1) (cl_nm ci _ f1) hown hK hP hD hS a (ce_ob ha hc) f1 k f2 (hts _ (GW_in f3 rfl)) (fun _ h => h) (hfin _ f1) ((cl_tyok ci _ f1 k f2).trans (congrArg some hk)) (rfl) (rfl) (by rw [ce_o, List.length_map, List.length_range, hn]; exact f2) hd (fun H1 locs1 hP1 hD1 hS1 => ?_)
  have eW : (wo_w ad tc μ).set a (ad a, .inr (ci, (ce_o ad μ a).set k (.int x))) = wo_w ad tc (mm_I μ a k x) := by
    refine wo_set ?_ (fun b hb2 => ce_of (up_2_ne hb2) rfl)
    rw [ce_e, if_pos (by omega), ha]
    rw [ce_oset (μ := μ) (μ' := mm_I μ a k x) (k := k) (v := .int x) (by rw [hn]; exact f2) (by rw [fk_v, ha, fk_c, if_neg (by rintro ⟨rfl, rfl⟩; cases hk), hk]; simp [fk_k, mm_I, up_2]) (fun j hj => ⟨by simp [mm_I, up_2, hj], rfl⟩)]
  exact (kk p l e R s m args below meth c ad tc D A C H1 locs1 la (eW ▸ hP1) (eW ▸ hD1) hS1 hl)
theorem sm_putZ {d : Nat} {me : ME} {pc : Nat} {ls : List (Option AV)} {st : List AV} {μ : MM} {Po : Option AV → MM → Prop} {a ci k ix : Nat} {x : Int32} (hd : decode me.2.1 pc = .ok (.putfield ix, 3)) (hfp : FP me.1.cls ix ci k .boolean) (ha : sh_k a = ci) (hz : x = 0 ∨ x = 1) (kk : Sm d me (pc + 3) ls st (mm_I μ a k x) Po) : Sm d me pc ls (av_i x :: av_r a :: st) μ Po := by
  intro p l e R s m args below meth c ad tc D A C H locs la hP hD hS hl
  obtain ⟨hx, hb, hml, hr, hlk, hown, hts, hK, hro, hA, hf, hlc⟩ := id C
  obtain ⟨⟨⟨cn, ct, n⟩, f1, f2, f3⟩, hc, hk, hfin⟩ := hfp
  have hn : sh_n a = n := by
    have := sh_cl (a := a) (by omega)
    rw [ha, f1] at this
    exact (Option.some.inj this).symm
  refine va_put (C := cn) (T := ct) (N := n) (ty := .boolean) hx hb hts (cl_in ci _ f1) (cl_ty ci) (cl_tyok ci _ f1) (cl_nm ci _ f1) hown hK hP hD hS a (ce_ob ha hc) f1 k f2 (hts _ (GW_in f3 rfl)) (fun _ h => h) (hfin _ f1) ((cl_tyok ci _ f1 k f2).trans (congrArg some hk)) (by rcases hz with rfl | rfl <;> rfl) (by rcases hz with rfl | rfl <;> rfl) (by rw [ce_o, List.length_map, List.length_range, hn]; exact f2) hd (fun H1 locs1 hP1 hD1 hS1 => ?_)
  have eW : (wo_w ad tc μ).set a (ad a, .inr (ci, (ce_o ad μ a).set k (.int x))) = wo_w ad tc (mm_I μ a k x) := by
    refine wo_set ?_ (fun b hb2 => ce_of (up_2_ne hb2) rfl)
    rw [ce_e, if_pos (by omega), ha]
    rw [ce_oset (μ := μ) (μ' := mm_I μ a k x) (k := k) (v := .int x) (by rw [hn]; exact f2) (by rw [fk_v, ha, fk_c, if_neg (by rintro ⟨rfl, rfl⟩; cases hk), hk]; simp [fk_k, mm_I, up_2]) (fun j hj => ⟨by simp [mm_I, up_2, hj], rfl⟩)]
  exact (kk p l e R s m args below meth c ad tc D A C H1 locs1 la (eW ▸ hP1) (eW ▸ hD1) hS1 hl)
theorem sm_putJ {d : Nat} {me : ME} {pc : Nat} {ls : List (Option AV)} {st : List AV} {μ : MM} {Po : Option AV → MM → Prop} {a ci k ix : Nat} {x : Int64} (hd : decode me.2.1 pc = .ok (.putfield ix, 3)) (hfp : FP me.1.cls ix ci k .long) (ha : sh_k a = ci) (kk : Sm d me (pc + 3) ls st (mm_J μ a k x) Po) : Sm d me pc ls (av_l x :: av_r a :: st) μ Po := by
  intro p l e R s m args below meth c ad tc D A C H locs la hP hD hS hl
  obtain ⟨hx, hb, hml, hr, hlk, hown, hts, hK, hro, hA, hf, hlc⟩ := id C
  obtain ⟨⟨⟨cn, ct, n⟩, f1, f2, f3⟩, hc, hk, hfin⟩ := hfp
  have hn : sh_n a = n := by
    have := sh_cl (a := a) (by omega)
    rw [ha, f1] at this
    exact (Option.some.inj this).symm
  refine va_put (C := cn) (T := ct) (N := n) (ty := .long) hx hb hts (cl_in ci _ f1) (cl_ty ci) (cl_tyok ci _ f1) (cl_nm ci _ f1) hown hK hP hD hS a (ce_ob ha hc) f1 k f2 (hts _ (GW_in f3 rfl)) (fun _ h => h) (hfin _ f1) ((cl_tyok ci _ f1 k f2).trans (congrArg some hk)) (rfl) (rfl) (by rw [ce_o, List.length_map, List.length_range, hn]; exact f2) hd (fun H1 locs1 hP1 hD1 hS1 => ?_)
  have eW : (wo_w ad tc μ).set a (ad a, .inr (ci, (ce_o ad μ a).set k (.long x))) = wo_w ad tc (mm_J μ a k x) := by
    refine wo_set ?_ (fun b hb2 => ce_of rfl (up_2_ne hb2))
    rw [ce_e, if_pos (by omega), ha]
    rw [ce_oset (μ := μ) (μ' := mm_J μ a k x) (k := k) (v := .long x) (by rw [hn]; exact f2) (by rw [fk_v, ha, fk_c, if_neg (by rintro ⟨rfl, rfl⟩; cases hk), hk]; simp [fk_k, mm_J, up_2]) (fun j hj => ⟨rfl, by simp [mm_J, up_2, hj]⟩)]
  exact (kk p l e R s m args below meth c ad tc D A C H1 locs1 la (eW ▸ hP1) (eW ▸ hD1) hS1 hl)
theorem sm_putX {d : Nat} {me : ME} {pc : Nat} {ls : List (Option AV)} {st : List AV} {μ : MM} {Po : Option AV → MM → Prop} {a ix : Nat} {x : Nat} (hd : decode me.2.1 pc = .ok (.putfield ix, 3)) (hfl : FL me.1.cls ix 12 5) (hx2 : x < 2147483648) (ha : sh_k a = 12) (kk : Sm d me (pc + 3) ls st (mm_I μ a 5 (Int32.ofNat x)) Po) : Sm d me pc ls (av_r x :: av_r a :: st) μ Po := by
  intro p l e R s m args below meth c ad tc D A C H locs la hP hD hS hl
  obtain ⟨hx, hb, hml, hr, hlk, hown, hts, hK, hro, hA, hf, hlc⟩ := id C
  obtain ⟨⟨cn, ct, n⟩, f1, f2, f3⟩ := hfl
  have hn : sh_n a = n := by
    have := sh_cl (a := a) (by omega)
    rw [ha, f1] at this
    exact (Option.some.inj this).symm
  have hfin : ∀ q : vw_C, vwCl[12]? = some q → (q.2.1 5).2.2.2 = false := by
    intro q hq
    cases hq
    rfl
  refine va_put (C := cn) (T := ct) (N := n) (ty := .array .byte) hx hb hts (cl_in 12 _ f1) (cl_ty 12) (cl_tyok 12 _ f1) (cl_nm 12 _ f1) hown hK hP hD hS a (ce_ob ha (by decide)) f1 5 f2 (hts _ (GW_in f3 rfl)) (fun _ h => h) (hfin _ f1) ((cl_tyok 12 _ f1 5 f2).trans rfl) rfl rfl (by rw [ce_o, List.length_map, List.length_range, hn]; exact f2) hd (fun H1 locs1 hP1 hD1 hS1 => ?_)
  have eW : (wo_w ad tc μ).set a (ad a, .inr (12, (ce_o ad μ a).set 5 (.ref (ad x)))) = wo_w ad tc (mm_I μ a 5 (Int32.ofNat x)) := by
    refine wo_set ?_ (fun b hb2 => ce_of (up_2_ne hb2) rfl)
    rw [ce_e, if_pos (by omega), ha]
    rw [ce_oset (μ := μ) (μ' := mm_I μ a 5 (Int32.ofNat x)) (k := 5) (v := .ref (ad x)) (by rw [hn]; exact f2) (by rw [fk_v, ha, fk_c, if_pos ⟨rfl, rfl⟩]; simp only [mm_I, up_2, if_true]; rw [show (Int32.ofNat x).toNatClampNeg = x from nI_clamp hx2]) (fun j hj => ⟨by simp [mm_I, up_2, hj], rfl⟩)]
  exact (kk p l e R s m args below meth c ad tc D A C H1 locs1 la (eW ▸ hP1) (eW ▸ hD1) hS1 hl)
theorem sm_iald {d : Nat} {me : ME} {pc : Nat} {ls : List (Option AV)} {st : List AV} {μ : MM} {Po : Option AV → MM → Prop} {a j : Nat} {i : Int32} (hd : decode me.2.1 pc = .ok (.iaload, 1)) (ha : sh_k a = 20) (hi : vp_in i (sh_n a)) (hj : i.toNatClampNeg = j) (k : Sm d me (pc + 1) ls (av_i (μ.1 a j) :: st) μ Po) : Sm d me pc ls (av_i i :: av_r a :: st) μ Po := by
  intro p l e R s m args below meth c ad tc D A C H locs la hP hD hS hl
  obtain ⟨hx, hb, hml, hr, hlk, hown, hts, hK, hro, hA, hf, hlc⟩ := id C
  subst hj
  exact va_iald hx hb hK hP a 0 (ce_i ha (by decide) (by decide)) rfl hi hd (k p l e R s m args below meth c ad tc D A C H locs la hP hD hS hl)
theorem sm_bald {d : Nat} {me : ME} {pc : Nat} {ls : List (Option AV)} {st : List AV} {μ : MM} {Po : Option AV → MM → Prop} {a j : Nat} {i : Int32} (hd : decode me.2.1 pc = .ok (.baload, 1)) (ha : sh_k a = 21) (hi : vp_in i (sh_n a)) (hj : i.toNatClampNeg = j) (k : Sm d me (pc + 1) ls (av_i (μ.1 a j) :: st) μ Po) : Sm d me pc ls (av_i i :: av_r a :: st) μ Po := by
  intro p l e R s m args below meth c ad tc D A C H locs la hP hD hS hl
  obtain ⟨hx, hb, hml, hr, hlk, hown, hts, hK, hro, hA, hf, hlc⟩ := id C
  subst hj
  exact va_bald hx hb hK hP a 1 (ce_i ha (by decide) (by decide)) rfl hi hd (k p l e R s m args below meth c ad tc D A C H locs la hP hD hS hl)
theorem sm_zald {d : Nat} {me : ME} {pc : Nat} {ls : List (Option AV)} {st : List AV} {μ : MM} {Po : Option AV → MM → Prop} {a j : Nat} {i : Int32} (hd : decode me.2.1 pc = .ok (.baload, 1)) (ha : sh_k a = 22) (hi : vp_in i (sh_n a)) (hj : i.toNatClampNeg = j) (k : Sm d me (pc + 1) ls (av_i (μ.1 a j) :: st) μ Po) : Sm d me pc ls (av_i i :: av_r a :: st) μ Po := by
  intro p l e R s m args below meth c ad tc D A C H locs la hP hD hS hl
  obtain ⟨hx, hb, hml, hr, hlk, hown, hts, hK, hro, hA, hf, hlc⟩ := id C
  subst hj
  exact va_zald hx hb hK hP a 2 (ce_i ha (by decide) (by decide)) rfl hi hd (k p l e R s m args below meth c ad tc D A C H locs la hP hD hS hl)
theorem sm_lald {d : Nat} {me : ME} {pc : Nat} {ls : List (Option AV)} {st : List AV} {μ : MM} {Po : Option AV → MM → Prop} {a j : Nat} {i : Int32} (hd : decode me.2.1 pc = .ok (.laload, 1)) (ha : sh_k a = 23) (hi : vp_in i (sh_n a)) (hj : i.toNatClampNeg = j) (k : Sm d me (pc + 1) ls (av_l (μ.2 a j) :: st) μ Po) : Sm d me pc ls (av_i i :: av_r a :: st) μ Po := by
  intro p l e R s m args below meth c ad tc D A C H locs la hP hD hS hl
  obtain ⟨hx, hb, hml, hr, hlk, hown, hts, hK, hro, hA, hf, hlc⟩ := id C
  subst hj
  exact va_lald hx hb hK hP a 3 (ce_j ha) rfl hi hd (k p l e R s m args below meth c ad tc D A C H locs la hP hD hS hl)
theorem sm_aaldS {d : Nat} {me : ME} {pc : Nat} {ls : List (Option AV)} {st : List AV} {μ : MM} {Po : Option AV → MM → Prop} {a : Nat} {i : Int32} {b : Nat} (hd : decode me.2.1 pc = .ok (.aaload, 1)) (ha : sh_k a = 24) (hi : vp_in i (sh_n a)) (hrf : rf_s a i.toNatClampNeg = b) (k : Sm d me (pc + 1) ls (av_r b :: st) μ Po) : Sm d me pc ls (av_i i :: av_r a :: st) μ Po := by
  intro p l e R s m args below meth c ad tc D A C H locs la hP hD hS hl
  obtain ⟨hx, hb, hml, hr, hlk, hown, hts, hK, hro, hA, hf, hlc⟩ := id C
  have hlt : i.toNatClampNeg < sh_n a := Nat.not_le.mp fun q => hi (Or.inr q)
  subst hrf
  exact W.aald (v := va_rf (some (ad (rf_s a i.toNatClampNeg)))) (ty := .object "LabelRoom$Shelf") hx hb (hP a _ (ce_q ha (by decide) (by decide))) ((hK.2 4 _ rfl).1 (sh_n a) (fun j => va_rf (some (ad (rf_s a j))))) rfl (fun q => by cases q) (by show ¬ (i < 0 ∨ (arrV _ _ _).slots.size ≤ _); rw [arrV_size]; exact hi) (by show (arrV _ _ _).slots[_]? = _; rw [arrV_read _ _ hlt]) rfl rfl hd (k p l e R s m args below meth c ad tc D A C H locs la hP hD hS hl)
theorem sm_aaldI {d : Nat} {me : ME} {pc : Nat} {ls : List (Option AV)} {st : List AV} {μ : MM} {Po : Option AV → MM → Prop} {a : Nat} {i : Int32} {b : Nat} (hd : decode me.2.1 pc = .ok (.aaload, 1)) (ha : sh_k a = 25) (hi : vp_in i (sh_n a)) (hrf : rf_s a i.toNatClampNeg = b) (k : Sm d me (pc + 1) ls (av_r b :: st) μ Po) : Sm d me pc ls (av_i i :: av_r a :: st) μ Po := by
  intro p l e R s m args below meth c ad tc D A C H locs la hP hD hS hl
  obtain ⟨hx, hb, hml, hr, hlk, hown, hts, hK, hro, hA, hf, hlc⟩ := id C
  have hlt : i.toNatClampNeg < sh_n a := Nat.not_le.mp fun q => hi (Or.inr q)
  subst hrf
  exact W.aald (v := va_rf (some (ad (rf_s a i.toNatClampNeg)))) (ty := .array .int) hx hb (hP a _ (ce_q ha (by decide) (by decide))) ((hK.2 5 _ rfl).1 (sh_n a) (fun j => va_rf (some (ad (rf_s a j))))) rfl (fun q => by cases q) (by show ¬ (i < 0 ∨ (arrV _ _ _).slots.size ≤ _); rw [arrV_size]; exact hi) (by show (arrV _ _ _).slots[_]? = _; rw [arrV_read _ _ hlt]) rfl rfl hd (k p l e R s m args below meth c ad tc D A C H locs la hP hD hS hl)
theorem sm_iast {d : Nat} {me : ME} {pc : Nat} {ls : List (Option AV)} {st : List AV} {μ : MM} {Po : Option AV → MM → Prop} {a j : Nat} {i x : Int32} (hd : decode me.2.1 pc = .ok (.iastore, 1)) (ha : sh_k a = 20) (hi : vp_in i (sh_n a)) (hj : i.toNatClampNeg = j) (k : Sm d me (pc + 1) ls st (mm_I μ a j x) Po) : Sm d me pc ls (av_i x :: av_i i :: av_r a :: st) μ Po := by
  intro p l e R s m args below meth c ad tc D A C H locs la hP hD hS hl
  obtain ⟨hx, hb, hml, hr, hlk, hown, hts, hK, hro, hA, hf, hlc⟩ := id C
  subst hj
  refine va_iast hx hb hK hP hD hS a 0 (ce_i ha (by decide) (by decide)) rfl hi hd (fun H1 locs1 hP1 hD1 hS1 => ?_)
  have eW : (wo_w ad tc μ).set a (ad a, .inl (tc 20, sh_n a, .inl (upd (μ.1 a) i.toNatClampNeg x))) = wo_w ad tc (mm_I μ a i.toNatClampNeg x) := by
    refine wo_set ?_ (fun b hb2 => ce_of (up_2_ne hb2) rfl)
    rw [ce_e, if_neg (by omega), ce_a, if_neg (by omega), if_neg (by omega), ha]
    show Sum.inl (tc 20, sh_n a, Sum.inl (up_2 μ.1 a i.toNatClampNeg x a)) = _
    rw [up_2_eq]
  exact (k p l e R s m args below meth c ad tc D A C H1 locs1 la (eW ▸ hP1) (eW ▸ hD1) hS1 hl)
theorem sm_bast {d : Nat} {me : ME} {pc : Nat} {ls : List (Option AV)} {st : List AV} {μ : MM} {Po : Option AV → MM → Prop} {a j : Nat} {i x : Int32} (hd : decode me.2.1 pc = .ok (.bastore, 1)) (ha : sh_k a = 21) (hi : vp_in i (sh_n a)) (hj : i.toNatClampNeg = j) (k : Sm d me (pc + 1) ls st (mm_I μ a j (vp_nar .byte x)) Po) : Sm d me pc ls (av_i x :: av_i i :: av_r a :: st) μ Po := by
  intro p l e R s m args below meth c ad tc D A C H locs la hP hD hS hl
  obtain ⟨hx, hb, hml, hr, hlk, hown, hts, hK, hro, hA, hf, hlc⟩ := id C
  subst hj
  refine va_bast hx hb hK hP hD hS a 1 (ce_i ha (by decide) (by decide)) rfl hi hd (fun H1 locs1 hP1 hD1 hS1 => ?_)
  have eW : (wo_w ad tc μ).set a (ad a, .inl (tc 21, sh_n a, .inl (upd (μ.1 a) i.toNatClampNeg (vp_nar .byte x)))) = wo_w ad tc (mm_I μ a i.toNatClampNeg (vp_nar .byte x)) := by
    refine wo_set ?_ (fun b hb2 => ce_of (up_2_ne hb2) rfl)
    rw [ce_e, if_neg (by omega), ce_a, if_neg (by omega), if_neg (by omega), ha]
    show Sum.inl (tc 21, sh_n a, Sum.inl (up_2 μ.1 a i.toNatClampNeg (vp_nar .byte x) a)) = _
    rw [up_2_eq]
  exact (k p l e R s m args below meth c ad tc D A C H1 locs1 la (eW ▸ hP1) (eW ▸ hD1) hS1 hl)
theorem sm_zast {d : Nat} {me : ME} {pc : Nat} {ls : List (Option AV)} {st : List AV} {μ : MM} {Po : Option AV → MM → Prop} {a j : Nat} {i x : Int32} (hd : decode me.2.1 pc = .ok (.bastore, 1)) (ha : sh_k a = 22) (hi : vp_in i (sh_n a)) (hj : i.toNatClampNeg = j) (k : Sm d me (pc + 1) ls st (mm_I μ a j (vp_nar .boolean x)) Po) : Sm d me pc ls (av_i x :: av_i i :: av_r a :: st) μ Po := by
  intro p l e R s m args below meth c ad tc D A C H locs la hP hD hS hl
  obtain ⟨hx, hb, hml, hr, hlk, hown, hts, hK, hro, hA, hf, hlc⟩ := id C
  subst hj
  refine va_zast hx hb hK hP hD hS a 2 (ce_i ha (by decide) (by decide)) rfl hi hd (fun H1 locs1 hP1 hD1 hS1 => ?_)
  have eW : (wo_w ad tc μ).set a (ad a, .inl (tc 22, sh_n a, .inl (upd (μ.1 a) i.toNatClampNeg (vp_nar .boolean x)))) = wo_w ad tc (mm_I μ a i.toNatClampNeg (vp_nar .boolean x)) := by
    refine wo_set ?_ (fun b hb2 => ce_of (up_2_ne hb2) rfl)
    rw [ce_e, if_neg (by omega), ce_a, if_neg (by omega), if_neg (by omega), ha]
    show Sum.inl (tc 22, sh_n a, Sum.inl (up_2 μ.1 a i.toNatClampNeg (vp_nar .boolean x) a)) = _
    rw [up_2_eq]
  exact (k p l e R s m args below meth c ad tc D A C H1 locs1 la (eW ▸ hP1) (eW ▸ hD1) hS1 hl)
theorem sm_last {d : Nat} {me : ME} {pc : Nat} {ls : List (Option AV)} {st : List AV} {μ : MM} {Po : Option AV → MM → Prop} {a j : Nat} {i : Int32} {x : Int64} (hd : decode me.2.1 pc = .ok (.lastore, 1)) (ha : sh_k a = 23) (hi : vp_in i (sh_n a)) (hj : i.toNatClampNeg = j) (k : Sm d me (pc + 1) ls st (mm_J μ a j x) Po) : Sm d me pc ls (av_l x :: av_i i :: av_r a :: st) μ Po := by
  intro p l e R s m args below meth c ad tc D A C H locs la hP hD hS hl
  obtain ⟨hx, hb, hml, hr, hlk, hown, hts, hK, hro, hA, hf, hlc⟩ := id C
  subst hj
  refine va_last hx hb hK hP hD hS a 3 (ce_j ha) rfl hi hd (fun H1 locs1 hP1 hD1 hS1 => ?_)
  have eW : (wo_w ad tc μ).set a (ad a, .inl (tc 23, sh_n a, .inr (.inl (vp_updL (μ.2 a) i.toNatClampNeg x)))) = wo_w ad tc (mm_J μ a i.toNatClampNeg x) := by
    refine wo_set ?_ (fun b hb2 => ce_of rfl (up_2_ne hb2))
    rw [ce_e, if_neg (by omega), ce_a, if_pos ha, ha]
    show Sum.inl (tc 23, sh_n a, Sum.inr (Sum.inl (up_2 μ.2 a i.toNatClampNeg x a))) = _
    rw [up_2_eqL]
  exact (k p l e R s m args below meth c ad tc D A C H1 locs1 la (eW ▸ hP1) (eW ▸ hD1) hS1 hl)
theorem sm_alen {d : Nat} {me : ME} {pc : Nat} {ls : List (Option AV)} {st : List AV} {μ : MM} {Po : Option AV → MM → Prop} {a t : Nat} (hd : decode me.2.1 pc = .ok (.arraylength, 1)) (ha : sh_k a = t) (h1 : 20 ≤ t) (h2 : t < 23) (k : Sm d me (pc + 1) ls (av_i (Int32.ofNat (sh_n a)) :: st) μ Po) : Sm d me pc ls (av_r a :: st) μ Po := by
  intro p l e R s m args below meth c ad tc D A C H locs la hP hD hS hl
  obtain ⟨hx, hb, hml, hr, hlk, hown, hts, hK, hro, hA, hf, hlc⟩ := id C
  have h3 : t = 20 ∨ t = 21 ∨ t = 22 := by omega
  rcases h3 with rfl | rfl | rfl
  · exact va_alen hx hb hK hP a 0 (ce_i ha h1 h2) (ty := .int) rfl rfl hd (k p l e R s m args below meth c ad tc D A C H locs la hP hD hS hl)
  · exact va_alen hx hb hK hP a 1 (ce_i ha h1 h2) (ty := .byte) rfl rfl hd (k p l e R s m args below meth c ad tc D A C H locs la hP hD hS hl)
  · exact va_alen hx hb hK hP a 2 (ce_i ha h1 h2) (ty := .boolean) rfl rfl hd (k p l e R s m args below meth c ad tc D A C H locs la hP hD hS hl)
theorem sm_alenJ {d : Nat} {me : ME} {pc : Nat} {ls : List (Option AV)} {st : List AV} {μ : MM} {Po : Option AV → MM → Prop} {a : Nat} (hd : decode me.2.1 pc = .ok (.arraylength, 1)) (ha : sh_k a = 23) (k : Sm d me (pc + 1) ls (av_i (Int32.ofNat (sh_n a)) :: st) μ Po) : Sm d me pc ls (av_r a :: st) μ Po := by
  intro p l e R s m args below meth c ad tc D A C H locs la hP hD hS hl
  obtain ⟨hx, hb, hml, hr, hlk, hown, hts, hK, hro, hA, hf, hlc⟩ := id C
  exact va_alen hx hb hK hP a 3 (ce_j ha) (ty := .long) rfl rfl hd (k p l e R s m args below meth c ad tc D A C H locs la hP hD hS hl)
theorem ro_sh {a : Nat} (h : sh_k a = 40) : ∃ i, i < ro_c ∧ a = 1000 + i ∧ sh_n a = (ro_L.getD i []).length := by
  have h0 := h
  unfold sh_k sh_p at h
  unfold sh_n sh_p
  split at h
  · by_cases h2 : a < sh_L.length
    · have h3 : (sh_L.all (fun q => decide (q.1 < 30))) = true := by decide +kernel
      have h4 := List.all_eq_true.mp h3 _ (List.getElem_mem h2)
      rw [List.getD_eq_getElem?_getD, List.getElem?_eq_getElem h2] at h
      simp only [Option.getD_some] at h
      rw [h] at h4
      simp at h4
    · rw [List.getD_eq_getElem?_getD, List.getElem?_eq_none (by omega)] at h
      simp at h
  · split at h
    · refine ⟨a - 1000, by omega, by omega, ?_⟩
      rw [if_neg (by omega), if_pos (by omega)]
    · (repeat' split at h) <;> simp at h
theorem st_sh {a : Nat} (h : sh_k a = 41) : ∃ i, i < st_c ∧ a = 3000 + i ∧ sh_n a = (st_B.getD i []).length := by
  unfold sh_k sh_p at h
  unfold sh_n sh_p
  split at h
  · by_cases h2 : a < sh_L.length
    · have h3 : (sh_L.all (fun q => decide (q.1 < 30))) = true := by decide +kernel
      have h4 := List.all_eq_true.mp h3 _ (List.getElem_mem h2)
      rw [List.getD_eq_getElem?_getD, List.getElem?_eq_getElem h2] at h
      simp only [Option.getD_some] at h
      rw [h] at h4
      simp at h4
    · rw [List.getD_eq_getElem?_getD, List.getElem?_eq_none (by omega)] at h
      simp at h
  · (repeat' split at h) <;> simp at h
    refine ⟨a - 3000, by omega, by omega, ?_⟩
    rw [if_neg (by omega), if_neg (by omega), if_neg (by omega), if_neg (by omega), if_neg (by omega), if_pos (by omega)]
theorem so_sh {a : Nat} (h : sh_k a = 42) : ∃ i, i < st_c ∧ a = 2000 + i := by
  unfold sh_k sh_p at h
  split at h
  · by_cases h2 : a < sh_L.length
    · have h3 : (sh_L.all (fun q => decide (q.1 < 30))) = true := by decide +kernel
      have h4 := List.all_eq_true.mp h3 _ (List.getElem_mem h2)
      rw [List.getD_eq_getElem?_getD, List.getElem?_eq_getElem h2] at h
      simp only [Option.getD_some] at h
      rw [h] at h4
      simp at h4
    · rw [List.getD_eq_getElem?_getD, List.getElem?_eq_none (by omega)] at h
      simp at h
  · (repeat' split at h) <;> simp at h
    exact ⟨a - 2000, by omega, by omega⟩
theorem sm_roald {d : Nat} {me : ME} {pc : Nat} {ls : List (Option AV)} {st : List AV} {μ : MM} {Po : Option AV → MM → Prop} {a j : Nat} {i : Int32} (hd : decode me.2.1 pc = .ok (.iaload, 1)) (ha : sh_k a = 40) (hi : vp_in i (sh_n a)) (hj : i.toNatClampNeg = j) (k : Sm d me (pc + 1) ls (av_i (ro_I a j) :: st) μ Po) : Sm d me pc ls (av_i i :: av_r a :: st) μ Po := by
  intro p l e R s m args below meth c ad tc D A C H locs la hP hD hS hl
  obtain ⟨hx, hb, hml, hr, hlk, hown, hts, hK, hro, hA, hf, hlc⟩ := id C
  subst hj
  obtain ⟨j, hj, rfl, hn⟩ := ro_sh ha
  rw [hn] at hi
  exact va_ti hx hb (hro.1 j hj).1 hS hi (by rw [ro_I, Nat.add_sub_cancel_left]; rfl) hd (k p l e R s m args below meth c ad tc D A C H locs la hP hD hS hl)
theorem sm_rolen {d : Nat} {me : ME} {pc : Nat} {ls : List (Option AV)} {st : List AV} {μ : MM} {Po : Option AV → MM → Prop} {a : Nat} (hd : decode me.2.1 pc = .ok (.arraylength, 1)) (ha : sh_k a = 40) (k : Sm d me (pc + 1) ls (av_i (Int32.ofNat (sh_n a)) :: st) μ Po) : Sm d me pc ls (av_r a :: st) μ Po := by
  intro p l e R s m args below meth c ad tc D A C H locs la hP hD hS hl
  obtain ⟨hx, hb, hml, hr, hlk, hown, hts, hK, hro, hA, hf, hlc⟩ := id C
  obtain ⟨j, hj, rfl, hn⟩ := ro_sh ha
  rw [hn] at k
  exact va_tlen hx hb (hro.1 j hj).1 hS rfl hd (k p l e R s m args below meth c ad tc D A C H locs la hP hD hS hl)
theorem sm_stald {d : Nat} {me : ME} {pc : Nat} {ls : List (Option AV)} {st : List AV} {μ : MM} {Po : Option AV → MM → Prop} {a j : Nat} {i : Int32} (hd : decode me.2.1 pc = .ok (.baload, 1)) (ha : sh_k a = 41) (hi : vp_in i (sh_n a)) (hj : i.toNatClampNeg = j) (k : Sm d me (pc + 1) ls (av_i (st_I a j) :: st) μ Po) : Sm d me pc ls (av_i i :: av_r a :: st) μ Po := by
  intro p l e R s m args below meth c ad tc D A C H locs la hP hD hS hl
  obtain ⟨hx, hb, hml, hr, hlk, hown, hts, hK, hro, hA, hf, hlc⟩ := id C
  subst hj
  obtain ⟨j, hj, rfl, hn⟩ := st_sh ha
  rw [hn] at hi
  exact va_tb hx hb (hro.2.2.1 j hj).2.2.2 hS hi (by rw [st_I, Nat.add_sub_cancel_left]; rfl) hd (k p l e R s m args below meth c ad tc D A C H locs la hP hD hS hl)
theorem sm_stlen {d : Nat} {me : ME} {pc : Nat} {ls : List (Option AV)} {st : List AV} {μ : MM} {Po : Option AV → MM → Prop} {a : Nat} (hd : decode me.2.1 pc = .ok (.arraylength, 1)) (ha : sh_k a = 41) (k : Sm d me (pc + 1) ls (av_i (Int32.ofNat (sh_n a)) :: st) μ Po) : Sm d me pc ls (av_r a :: st) μ Po := by
  intro p l e R s m args below meth c ad tc D A C H locs la hP hD hS hl
  obtain ⟨hx, hb, hml, hr, hlk, hown, hts, hK, hro, hA, hf, hlc⟩ := id C
  obtain ⟨j, hj, rfl, hn⟩ := st_sh ha
  rw [hn] at k
  exact va_tlen hx hb (hro.2.2.1 j hj).2.2.2 hS rfl hd (k p l e R s m args below meth c ad tc D A C H locs la hP hD hS hl)
theorem sm_stval {d : Nat} {me : ME} {pc : Nat} {ls : List (Option AV)} {st : List AV} {μ : MM} {Po : Option AV → MM → Prop} {a ix : Nat} (hd : decode me.2.1 pc = .ok (.getfield ix, 3)) (hw : Cond.fieldLink me.1.cls ix "java/lang/String" "value" "[B" ∈ lw_tbl) (ha : sh_k a = 42) (k : Sm d me (pc + 3) ls (av_r (a + 1000) :: st) μ Po) : Sm d me pc ls (av_r a :: st) μ Po := by
  intro p l e R s m args below meth c ad tc D A C H locs la hP hD hS hl
  obtain ⟨hx, hb, hml, hr, hlk, hown, hts, hK, hro, hA, hf, hlc⟩ := id C
  obtain ⟨j, hj, rfl⟩ := so_sh ha
  rw [show 2000 + j + 1000 = 3000 + j by omega] at k
  exact vk_getf hx hb (hro.2.2.1 j hj).2.2.1 hS hown (hts _ (GW_in hw rfl)) (fun _ h => h) hd (k p l e R s m args below meth c ad tc D A C H locs la hP hD hS hl)
theorem sm_stcod {d : Nat} {me : ME} {pc : Nat} {ls : List (Option AV)} {st : List AV} {μ : MM} {Po : Option AV → MM → Prop} {a ix : Nat} (hd : decode me.2.1 pc = .ok (.getfield ix, 3)) (hw : Cond.fieldLink me.1.cls ix "java/lang/String" "coder" "B" ∈ lw_tbl) (ha : sh_k a = 42) (k : Sm d me (pc + 3) ls (av_i 0 :: st) μ Po) : Sm d me pc ls (av_r a :: st) μ Po := by
  intro p l e R s m args below meth c ad tc D A C H locs la hP hD hS hl
  obtain ⟨hx, hb, hml, hr, hlk, hown, hts, hK, hro, hA, hf, hlc⟩ := id C
  obtain ⟨j, hj, rfl⟩ := so_sh ha
  exact vk_getf hx hb (hro.2.2.1 j hj).2.1 hS hown (hts _ (GW_in hw rfl)) (fun _ h => h) hd (k p l e R s m args below meth c ad tc D A C H locs la hP hD hS hl)
theorem sm_compact {d : Nat} {me : ME} {pc : Nat} {ls : List (Option AV)} {st : List AV} {μ : MM} {Po : Option AV → MM → Prop} {ix : Nat} (hd : decode me.2.1 pc = .ok (.getstatic ix, 3)) (hw : Cond.fieldLink me.1.cls ix "java/lang/String" "COMPACT_STRINGS" "Z" ∈ lw_tbl) (k : Sm d me (pc + 3) ls (av_i 1 :: st) μ Po) : Sm d me pc ls st μ Po := by
  intro p l e R s m args below meth c ad tc D A C H locs la hP hD hS hl
  obtain ⟨hx, hb, hml, hr, hlk, hown, hts, hK, hro, hA, hf, hlc⟩ := id C
  exact va_gets hx hb hro.2.1.1 hS hown (hts _ (GW_in hw rfl)) (fun _ h => h) hd (k p l e R s m args below meth c ad tc D A C H locs la hP hD hS hl)
theorem sm_fo {d : Nat} {me : ME} {pc : Nat} {ls : List (Option AV)} {st : List AV} {μ : MM} {Po : Option AV → MM → Prop} {ix : Nat} (hd : decode me.2.1 pc = .ok (.getstatic ix, 3)) (hw : Cond.fieldLink me.1.cls ix "jdk/internal/util/Preconditions" "SIOOBE_FORMATTER" "Ljava/util/function/BiFunction;" ∈ lw_tbl) (k : Sm d me (pc + 3) ls (av_o :: st) μ Po) : Sm d me pc ls st μ Po := by
  intro p l e R s m args below meth c ad tc D A C H locs la hP hD hS hl
  obtain ⟨hx, hb, hml, hr, hlk, hown, hts, hK, hro, hA, hf, hlc⟩ := id C
  exact va_gets hx hb hro.2.1.2 hS hown (hts _ (GW_in hw rfl)) (fun _ h => h) hd (k p l e R s m args below meth c ad tc D A C H locs la hP hD hS hl)
theorem sm_roget {d : Nat} {me : ME} {pc : Nat} {ls : List (Option AV)} {st : List AV} {μ : MM} {Po : Option AV → MM → Prop} {i ix : Nat} (hd : decode me.2.1 pc = .ok (.getstatic ix, 3)) (hi : i < ro_c) (hw : Cond.fieldLink me.1.cls ix RX9 (ro_N.getD i "") "[I" ∈ lw_tbl) (k : Sm d me (pc + 3) ls (av_r (1000 + i) :: st) μ Po) : Sm d me pc ls st μ Po := by
  intro p l e R s m args below meth c ad tc D A C H locs la hP hD hS hl
  obtain ⟨hx, hb, hml, hr, hlk, hown, hts, hK, hro, hA, hf, hlc⟩ := id C
  exact va_gets hx hb (hro.1 i hi).2 hS hown (hts _ (GW_in hw rfl)) (fun _ h => h) hd (k p l e R s m args below meth c ad tc D A C H locs la hP hD hS hl)
