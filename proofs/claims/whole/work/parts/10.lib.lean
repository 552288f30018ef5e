/-! ===== the words of the plain functions ===== -/
def gd {α : Type} (b : Bool) (x : Option α) : Option α := if b = true then x else none
def ob {α β : Type} (x : Option (α × MM)) (k : α → MM → Option β) : Option β := match x with
  | some q => k q.1 q.2
  | none => none
def obv {β : Type} (x : Option MM) (k : MM → Option β) : Option β := match x with
  | some q => k q
  | none => none
def wr {β : Type} (m : MM) (k : MM → Option β) : Option β := k m
theorem gd_some {α : Type} {b : Bool} {x : Option α} {y : α} (h : gd b x = some y) : b = true ∧ x = some y := by
  unfold gd at h
  by_cases hb : b = true
  · exact ⟨hb, by rwa [if_pos hb] at h⟩
  · rw [if_neg hb] at h; cases h
theorem gd_t {α : Type} {b : Bool} {x : Option α} (h : b = true) : gd b x = x := if_pos h
theorem ob_some {α β : Type} {x : Option (α × MM)} {k : α → MM → Option β} {y : β} (h : ob x k = some y) : ∃ (a : α) (m : MM), x = some (a, m) ∧ k a m = some y := by
  cases x with
  | none => cases h
  | some q => exact ⟨q.1, q.2, rfl, h⟩
theorem ob_e {α β : Type} {a : α} {m : MM} {k : α → MM → Option β} : ob (some (a, m)) k = k a m := rfl
theorem obv_some {β : Type} {x : Option MM} {k : MM → Option β} {y : β} (h : obv x k = some y) : ∃ m : MM, x = some m ∧ k m = some y := by
  cases x with
  | none => cases h
  | some q => exact ⟨q, rfl, h⟩
theorem obv_e {β : Type} {m : MM} {k : MM → Option β} : obv (some m) k = k m := rfl
theorem wr_some {β : Type} {m : MM} {k : MM → Option β} {y : β} (h : wr m k = some y) : k m = some y := h
theorem wr_e {β : Type} {m : MM} {k : MM → Option β} : wr m k = k m := rfl
theorem it_t {α : Type} {c : Prop} [Decidable c] {a b x : α} (hc : c) (h : (if c then a else b) = x) : a = x := by rwa [if_pos hc] at h
theorem it_f {α : Type} {c : Prop} [Decidable c] {a b x : α} (hc : ¬ c) (h : (if c then a else b) = x) : b = x := by rwa [if_neg hc] at h
def inb (i : Int32) (n : Nat) : Bool := decide (¬ i < 0) && decide (i.toNatClampNeg < n)
theorem in_vp {i : Int32} {n : Nat} (h : inb i n = true) : vp_in i n := by
  simp only [inb, Bool.and_eq_true, decide_eq_true_eq] at h
  rintro (q | q)
  · exact h.1 q
  · omega
theorem in_sz {i : Int32} {n a : Nat} (hn : sh_n a = n) (h : inb i n = true) : vp_in i (sh_n a) := by rw [hn]; exact in_vp h
theorem in_nI {j n : Nat} (h : j < n) (hn : n < 2147483648) : inb (nI j) n = true := by
  simp only [inb, Bool.and_eq_true, decide_eq_true_eq]
  exact ⟨nI_pos (by omega), by rw [nI_clamp (by omega)]; exact h⟩
def zb (x : Int32) : Bool := decide (x = 0) || decide (x = 1)
theorem zb_or {x : Int32} (h : zb x = true) : x = 0 ∨ x = 1 := by
  simpa only [zb, Bool.or_eq_true, decide_eq_true_eq] using h
theorem zb_nar {x : Int32} (h : zb x = true) : narrow .boolean (.int x) = .int x := by
  rcases zb_or h with rfl | rfl <;> rfl
def zc (x : Int32) : Bool := decide (narrow .char (.int x) = .int x)
theorem zc_nar {x : Int32} (h : zc x = true) : narrow .char (.int x) = .int x := of_decide_eq_true h
def z8 (x : Int32) : Bool := decide (narrow .byte (.int x) = .int x)
theorem z8_nar {x : Int32} (h : z8 x = true) : narrow .byte (.int x) = .int x := of_decide_eq_true h
def nzi (x : Int32) : Bool := decide (¬ x = 0)
theorem nzi_ne {x : Int32} (h : nzi x = true) : ¬ x = 0 := of_decide_eq_true h
def nzl (x : Int64) : Bool := decide (¬ x = 0)
theorem nzl_ne {x : Int64} (h : nzl x = true) : ¬ x = 0 := of_decide_eq_true h
def cpb (sp dp n : Int32) (a b : Nat) : Bool := decide (¬ sp < 0) && decide (¬ dp < 0) && decide (¬ n < 0) && decide (sp.toNatClampNeg + n.toNatClampNeg ≤ a) && decide (dp.toNatClampNeg + n.toNatClampNeg ≤ b)
theorem cpb_ok {sp dp n : Int32} {a b x y : Nat} (ha : sh_n x = a) (hb : sh_n y = b) (h : cpb sp dp n a b = true) : ¬ sp < 0 ∧ ¬ dp < 0 ∧ ¬ n < 0 ∧ sp.toNatClampNeg + n.toNatClampNeg ≤ sh_n x ∧ dp.toNatClampNeg + n.toNatClampNeg ≤ sh_n y := by
  simp only [cpb, Bool.and_eq_true, decide_eq_true_eq] at h
  obtain ⟨⟨⟨⟨h1, h2⟩, h3⟩, h4⟩, h5⟩ := h
  exact ⟨h1, h2, h3, by rw [ha]; exact h4, by rw [hb]; exact h5⟩
def po_i (x : Int32) (μ : MM) : Option AV → MM → Prop := fun r m => r = some (av_i x) ∧ m = μ
def po_l (x : Int64) (μ : MM) : Option AV → MM → Prop := fun r m => r = some (av_l x) ∧ m = μ
def po_v (μ : MM) : Option AV → MM → Prop := fun r m => r = none ∧ m = μ
theorem le_0 {b : List (Option AV)} : lo_le [] b := trivial
theorem le_n {a b : List (Option AV)} (h : lo_le a b.tail) : lo_le (none :: a) b := h
theorem le_s {a b : List (Option AV)} {v : AV} (h1 : b.head? = some (some v)) (h2 : lo_le a b.tail) : lo_le (some v :: a) b := ⟨h1, h2⟩
theorem al_eq {d : Nat} {me : ME} {pc : Nat} {ls : List (Option AV)} {st : List AV} {μ : MM} {Po : Option AV → MM → Prop} {a n : Nat} (hn : sh_n a = n) (h : Sm d me pc ls (av_i (Int32.ofNat n) :: st) μ Po) : Sm d me pc ls (av_i (Int32.ofNat (sh_n a)) :: st) μ Po := by rw [hn]; exact h
/-! kinds and sizes by the layout -/
theorem sh_by {P : Nat → Prop} [DecidablePred P] (h : ∀ a, a < sh_nx → P a) {a : Nat} (ha : sh_k a < 30) : P a := h a (sh_lt ha)
theorem kk_all : ∀ a, a < sh_nx → ((sh_k a = 10 → sh_k (a + 1) = 20 ∧ sh_k (a + 2) = 20 ∧ sh_k (a + 3) = 20 ∧ sh_k (a + 4) = 20) ∧ (sh_k a = 7 → sh_k (a + 1) = 10 ∧ sh_k (a + 6) = 20 ∧ sh_n (a + 6) = 6) ∧ (sh_k a = 1 → sh_k (a + 1) = 20 ∧ sh_k (a + 2) = 20 ∧ sh_k (a + 3) = 20 ∧ sh_k (a + 4) = 7 ∧ sh_n (a + 1) = 8 ∧ sh_n (a + 2) = 8 ∧ sh_n (a + 3) = 6)) := by decide +kernel
theorem kk_10_0 {a : Nat} (h : sh_k a = 10) : sh_k (a + 1) = 20 := ((kk_all a (sh_lt (by omega))).1 h).1
theorem kk_10_1 {a : Nat} (h : sh_k a = 10) : sh_k (a + 2) = 20 := ((kk_all a (sh_lt (by omega))).1 h).2.1
theorem kk_10_2 {a : Nat} (h : sh_k a = 10) : sh_k (a + 3) = 20 := ((kk_all a (sh_lt (by omega))).1 h).2.2.1
theorem kk_10_3 {a : Nat} (h : sh_k a = 10) : sh_k (a + 4) = 20 := ((kk_all a (sh_lt (by omega))).1 h).2.2.2
theorem kk_7_0 {a : Nat} (h : sh_k a = 7) : sh_k (a + 1) = 10 := ((kk_all a (sh_lt (by omega))).2.1 h).1
theorem kk_7_1 {a : Nat} (h : sh_k a = 7) : sh_k (a + 6) = 20 := ((kk_all a (sh_lt (by omega))).2.1 h).2.1
theorem kn_7_1 {a : Nat} (h : sh_k a = 7) : sh_n (a + 6) = 6 := ((kk_all a (sh_lt (by omega))).2.1 h).2.2
theorem kk_1_2 {a : Nat} (h : sh_k a = 1) : sh_k (a + 1) = 20 := ((kk_all a (sh_lt (by omega))).2.2 h).1
theorem kk_1_3 {a : Nat} (h : sh_k a = 1) : sh_k (a + 2) = 20 := ((kk_all a (sh_lt (by omega))).2.2 h).2.1
theorem kk_1_4 {a : Nat} (h : sh_k a = 1) : sh_k (a + 3) = 20 := ((kk_all a (sh_lt (by omega))).2.2 h).2.2.1
theorem kk_1_5 {a : Nat} (h : sh_k a = 1) : sh_k (a + 4) = 7 := ((kk_all a (sh_lt (by omega))).2.2 h).2.2.2.1
theorem kn_1_2 {a : Nat} (h : sh_k a = 1) : sh_n (a + 1) = 8 := ((kk_all a (sh_lt (by omega))).2.2 h).2.2.2.2.1
theorem kn_1_3 {a : Nat} (h : sh_k a = 1) : sh_n (a + 2) = 8 := ((kk_all a (sh_lt (by omega))).2.2 h).2.2.2.2.2.1
theorem kn_1_4 {a : Nat} (h : sh_k a = 1) : sh_n (a + 3) = 6 := ((kk_all a (sh_lt (by omega))).2.2 h).2.2.2.2.2.2
theorem kk_st {a : Nat} (h : sh_k a = 42) : sh_k (a + 1000) = 41 := by
  obtain ⟨i, hi, rfl⟩ := so_sh h
  have : ∀ i, i < st_c → sh_k (2000 + i + 1000) = 41 := by decide +kernel
  exact this i hi
theorem kd_24 {i : Int32} (h : vp_in i 40) : sh_k (53 + 7 * i.toNatClampNeg) = 7 := by
  have : ∀ j, j < 40 → sh_k (53 + 7 * j) = 7 := by decide +kernel
  exact this _ (Nat.not_le.mp fun q => h (Or.inr q))
theorem kd_25 {i : Int32} (h : vp_in i 4) : sh_k (37 + i.toNatClampNeg) = 20 := by
  have : ∀ j, j < 4 → sh_k (37 + j) = 20 := by decide +kernel
  exact this _ (Nat.not_le.mp fun q => h (Or.inr q))
theorem nd_25 {i : Int32} (h : vp_in i 4) : sh_n (37 + i.toNatClampNeg) = 240 := by
  have : ∀ j, j < 4 → sh_n (37 + j) = 240 := by decide +kernel
  exact this _ (Nat.not_le.mp fun q => h (Or.inr q))
theorem lt_sh {a : Nat} (h : sh_k a = 21) : a < 2147483648 := by
  have := sh_lt (a := a) (by omega)
  have : sh_nx < 2147483648 := by decide
  omega
/-! switches -/
theorem sm_tsw_at {d : Nat} {me : ME} {pc : Nat} {ls : List (Option AV)} {st : List AV} {μ : MM} {Po : Option AV → MM → Prop} {x v : Int32} {dflt lo hi off : Int} {offs : Array Int} {len tgt : Nat} (hd : decode me.2.1 pc = .ok (.tableswitch dflt lo hi offs, len)) (hx : x = v) (h1 : ¬ v.toInt < lo) (h2 : ¬ hi < v.toInt) (h0 : True) (ho : offs[(v.toInt - lo).toNat]? = some off) (ht : (pc : Int) + off = (tgt : Int)) (k : Sm d me tgt ls st μ Po) : Sm d me pc ls (av_i x :: st) μ Po := by
  subst hx
  intro p l e R s m args below meth c ad tc D A C H locs la hP hD hS hl
  exact lv_tableIn C.1 C.2.1 hd h1 h2 ho ht (k p l e R s m args below meth c ad tc D A C H locs la hP hD hS hl)
theorem sm_tsw_out {d : Nat} {me : ME} {pc : Nat} {ls : List (Option AV)} {st : List AV} {μ : MM} {Po : Option AV → MM → Prop} {x : Int32} {dflt lo hi : Int} {offs : Array Int} {len tgt : Nat} (hd : decode me.2.1 pc = .ok (.tableswitch dflt lo hi offs, len)) (h1 : x.toInt < lo ∨ hi < x.toInt) (ht : (pc : Int) + dflt = (tgt : Int)) (k : Sm d me tgt ls st μ Po) : Sm d me pc ls (av_i x :: st) μ Po := by
  intro p l e R s m args below meth c ad tc D A C H locs la hP hD hS hl
  exact lv_tableOut C.1 C.2.1 hd h1 ht (k p l e R s m args below meth c ad tc D A C H locs la hP hD hS hl)
theorem sm_lsw_at {d : Nat} {me : ME} {pc : Nat} {ls : List (Option AV)} {st : List AV} {μ : MM} {Po : Option AV → MM → Prop} {x v : Int32} {dflt off : Int} {ps : Array (Int × Int)} {len tgt : Nat} (hd : decode me.2.1 pc = .ok (.lookupswitch dflt ps, len)) (hp : (ps.toList.zip (ps.toList.drop 1)).all (fun (a, next) => a.1 < next.1) = true) (hx : x = v) (ho : Op.lookupswitch.offset ps.toList dflt v.toInt = off) (ht : (pc : Int) + off = (tgt : Int)) (k : Sm d me tgt ls st μ Po) : Sm d me pc ls (av_i x :: st) μ Po := by
  subst hx
  exact sm_lsw hd hp ho ht k
