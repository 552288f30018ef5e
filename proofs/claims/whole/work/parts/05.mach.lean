/-! ===== the plain machine: values, memory, worlds ===== -/
abbrev AV : Type := Int32 ⊕ Int64 ⊕ Nat ⊕ Unit
abbrev av_i (x : Int32) : AV := Sum.inl x
abbrev av_l (x : Int64) : AV := Sum.inr (Sum.inl x)
abbrev av_r (a : Nat) : AV := Sum.inr (Sum.inr (Sum.inl a))
/-- what the library's checks are told by: null or a reference, never used -/
abbrev av_o : AV := Sum.inr (Sum.inr (Sum.inr ()))
def fo_V (n : Nat) : Value := match n with
  | 0 => .null
  | q + 1 => .ref q
theorem fo_cat (n : Nat) : (fo_V n).category = 1 := by cases n <;> rfl
def av_V (ad : Nat → Nat) (v : AV) : Value := match v with
  | .inl x => .int x
  | .inr (.inl x) => .long x
  | .inr (.inr (.inl a)) => .ref (ad a)
  | .inr (.inr (.inr _)) => fo_V (ad 5000)
def av_c (v : AV) : Nat := match v with
  | .inr (.inl _) => 2
  | _ => 1
theorem av_cat (ad : Nat → Nat) (v : AV) : (av_V ad v).category = av_c v := by
  rcases v with x | x | x | x
  · rfl
  · rfl
  · rfl
  · exact fo_cat _
abbrev MM : Type := (Nat → Nat → Int32) × (Nat → Nat → Int64)
def up_2 {α : Type} (f : Nat → Nat → α) (a k : Nat) (x : α) : Nat → Nat → α := fun b j => if b = a then (if j = k then x else f b j) else f b j
def up_1 {α : Type} (f : Nat → Nat → α) (a : Nat) (g : Nat → α) : Nat → Nat → α := fun b j => if b = a then g j else f b j
def mm_I (μ : MM) (a k : Nat) (x : Int32) : MM := (up_2 μ.1 a k x, μ.2)
def mm_J (μ : MM) (a k : Nat) (x : Int64) : MM := (μ.1, up_2 μ.2 a k x)
def mm_F (μ : MM) (a : Nat) (g : Nat → Int32) : MM := (up_1 μ.1 a g, μ.2)
def fk_k (t : FieldType) : Nat := match t with
  | .long => 1
  | .object _ => 2
  | .array _ => 2
  | _ => 0
def fk_c (ci k : Nat) : Nat := if ci = 12 ∧ k = 5 then 3 else fk_k (cl_ty ci k)
def fk_v (ad : Nat → Nat) (μ : MM) (a k : Nat) : Value := match fk_c (sh_k a) k with
  | 0 => .int (μ.1 a k)
  | 1 => .long (μ.2 a k)
  | 2 => .ref (ad (rf_s a k))
  | _ => .ref (ad (μ.1 a k).toNatClampNeg)
def ce_a (ad : Nat → Nat) (μ : MM) (a : Nat) : (Nat → Int32) ⊕ (Nat → Int64) ⊕ (Nat → UInt32) ⊕ (Nat → UInt64) ⊕ (Nat → Option Nat) :=
  if sh_k a = 23 then .inr (.inl (μ.2 a)) else if 24 ≤ sh_k a then .inr (.inr (.inr (.inr (fun j => some (ad (rf_s a j)))))) else .inl (μ.1 a)
def ce_o (ad : Nat → Nat) (μ : MM) (a : Nat) : List Value := (List.range (sh_n a)).map (fun k => fk_v ad μ a k)
def ce_e (ad : Nat → Nat) (tc : Nat → ClassId) (μ : MM) (a : Nat) : va_E :=
  if sh_k a < 20 then .inr (sh_k a, ce_o ad μ a) else .inl (tc (sh_k a), sh_n a, ce_a ad μ a)
def wo_w (ad : Nat → Nat) (tc : Nat → ClassId) (μ : MM) : va_W := (List.range sh_nx).map (fun a => (ad a, ce_e ad tc μ a))
theorem wo_get {ad : Nat → Nat} {tc : Nat → ClassId} {μ : MM} {a : Nat} (h : a < sh_nx) : (wo_w ad tc μ)[a]? = some (ad a, ce_e ad tc μ a) := by
  simp only [wo_w, List.getElem?_map, List.getElem?_range h, Option.map_some]
theorem wo_inv {ad : Nat → Nat} {tc : Nat → ClassId} {μ : MM} {a : Nat} {q : Nat × va_E} (h : (wo_w ad tc μ)[a]? = some q) : a < sh_nx ∧ q = (ad a, ce_e ad tc μ a) := by
  have hl : a < sh_nx := by
    have := (List.getElem?_eq_some_iff.mp h).1
    simpa [wo_w] using this
  refine ⟨hl, ?_⟩
  rw [wo_get hl] at h
  exact (Option.some.inj h).symm
theorem wo_set {ad : Nat → Nat} {tc : Nat → ClassId} {μ μ' : MM} {a : Nat} {e : va_E} (he : ce_e ad tc μ' a = e) (ho : ∀ b, b ≠ a → ce_e ad tc μ' b = ce_e ad tc μ b) : (wo_w ad tc μ).set a (ad a, e) = wo_w ad tc μ' := by
  apply List.ext_getElem?
  intro i
  by_cases hi : i < sh_nx
  · rw [wo_get hi]
    by_cases h : i = a
    · subst h
      rw [List.getElem?_set_self (by simpa [wo_w] using hi), he]
    · rw [List.getElem?_set_ne (Ne.symm h), wo_get hi, ho i h]
  · have h1 : (wo_w ad tc μ').length ≤ i := by simpa [wo_w] using hi
    have h2 : ((wo_w ad tc μ).set a (ad a, e)).length ≤ i := by simpa [wo_w] using hi
    rw [List.getElem?_eq_none h1, List.getElem?_eq_none h2]
theorem wo_D {ad : Nat → Nat} {tc : Nat → ClassId} {μ μ' : MM} {A : Nat → Prop} (h : va_D A (wo_w ad tc μ)) : va_D A (wo_w ad tc μ') := by
  refine ⟨fun i j p q hi hj e => ?_, fun k q hk => ?_⟩
  · obtain ⟨i1, rfl⟩ := wo_inv hi
    obtain ⟨j1, rfl⟩ := wo_inv hj
    exact h.1 i j _ _ (wo_get i1) (wo_get j1) e
  · obtain ⟨k1, rfl⟩ := wo_inv hk
    exact h.2 k (ad k, ce_e ad tc μ k) (wo_get k1)
theorem wo_A {ad : Nat → Nat} {tc : Nat → ClassId} {μ : MM} {A : Nat → Prop} {H0 H : Heap} {locs : List Loc} (hD : va_D A (wo_w ad tc μ)) (hS : va_S A H0 H locs) (hA : ∀ q, H0.size ≤ q → A q) : ∀ q, va_A (wo_w ad tc μ) H.size q → A q := by
  intro q h
  rcases h with ⟨k, e, h⟩ | h
  · exact hD.2 k _ h
  · exact hA q (Nat.le_trans hS.1 h)
/-! shapes -/
theorem sh_lt {a : Nat} (h : sh_k a < 30) : a < sh_nx := by
  unfold sh_k sh_p at h
  split at h
  · by_cases h2 : a < sh_L.length
    · rwa [sh_len] at h2
    · rw [List.getD_eq_getElem?_getD, List.getElem?_eq_none (by omega)] at h
      simp at h
  · (repeat' split at h) <;> simp at h
theorem sh_all : sh_L.all (fun q => decide (20 ≤ q.1) || decide ((vwCl[q.1]?).map (fun r => r.2.2) = some q.2)) = true := by decide +kernel
theorem sh_cl {a : Nat} (h : sh_k a < 20) : (vwCl[sh_k a]?).map (fun r => r.2.2) = some (sh_n a) := by
  have hl : a < sh_nx := sh_lt (by omega)
  have hl2 : a < sh_L.length := by rw [sh_len]; exact hl
  have e : sh_p a = sh_L[a] := by
    unfold sh_p
    rw [if_pos (by have : sh_nx ≤ 1000 := by decide
                   omega), List.getD_eq_getElem?_getD, List.getElem?_eq_getElem hl2]
    rfl
  have h1 := List.all_eq_true.mp sh_all _ (List.getElem_mem hl2)
  simp only [Bool.or_eq_true, decide_eq_true_eq] at h1
  unfold sh_k at h ⊢
  unfold sh_n
  rw [e] at h ⊢
  rcases h1 with h1 | h1
  · omega
  · exact h1
/-! the tables' words that every method has -/
def GW_w : List Cond := lw_tbl.filter goodWord
theorem GW_in {w : Cond} (h : w ∈ lw_tbl) (hg : goodWord w = true) : w ∈ GW_w := List.mem_filter.mpr ⟨h, hg⟩
theorem cl_len : vwCl.length = 13 := rfl
theorem cl_tyok : ∀ (ci : Nat) (q : vw_C), vwCl[ci]? = some q → ∀ k, k < q.2.2 → parseFieldDescriptor (q.2.1 k).2.2.1 = some (cl_ty ci k) := by
  intro ci q h
  match ci, h with
  | 0, h => cases h; exact tyX0_ok
  | 1, h => cases h; exact tyX1_ok
  | 2, h => cases h; exact tyX2_ok
  | 3, h => cases h; exact tyX3_ok
  | 4, h => cases h; exact tyX4_ok
  | 5, h => cases h; exact tyX5_ok
  | 6, h => cases h; exact tyX6_ok
  | 7, h => cases h; exact tyX7_ok
  | 8, h => cases h; exact tyX8_ok
  | 9, h => cases h; exact tyX9_ok
  | 10, h => cases h; exact tyX10_ok
  | 11, h => cases h; exact tyX11_ok
  | 12, h => cases h; exact tyX12_ok
  | k + 13, h => simp [vwCl] at h
theorem cl_nm : ∀ (ci : Nat) (q : vw_C), vwCl[ci]? = some q → ∀ a, a < q.2.2 → ∀ b, b < q.2.2 → a ≠ b → (q.2.1 a).2.1 ≠ (q.2.1 b).2.1 := by
  intro ci q h
  match ci, h with
  | 0, h => cases h; exact nmX0
  | 1, h => cases h; exact nmX1
  | 2, h => cases h; exact nmX2
  | 3, h => cases h; exact nmX3
  | 4, h => cases h; exact nmX4
  | 5, h => cases h; exact nmX5
  | 6, h => cases h; exact nmX6
  | 7, h => cases h; exact nmX7
  | 8, h => cases h; exact nmX8
  | 9, h => cases h; exact nmX9
  | 10, h => cases h; exact nmX10
  | 11, h => cases h; exact nmX11
  | 12, h => cases h; exact nmX12
  | k + 13, h => simp [vwCl] at h
theorem cl_w0 : ∀ w ∈ wsX00, w ∈ lw_tbl := by decide +kernel
theorem cl_w1 : ∀ w ∈ wsX10, w ∈ lw_tbl := by decide +kernel
theorem cl_w2 : ∀ w ∈ wsX20, w ∈ lw_tbl := by decide +kernel
theorem cl_w3 : ∀ w ∈ wsX30, w ∈ lw_tbl := by decide +kernel
theorem cl_w4 : ∀ w ∈ wsX40, w ∈ lw_tbl := by decide +kernel
theorem cl_w5 : ∀ w ∈ wsX50, w ∈ lw_tbl := by decide +kernel
theorem cl_w6 : ∀ w ∈ wsX60, w ∈ lw_tbl := by decide +kernel
theorem cl_w7 : ∀ w ∈ wsX70, w ∈ lw_tbl := by decide +kernel
theorem cl_w8 : ∀ w ∈ wsX80, w ∈ lw_tbl := by decide +kernel
theorem cl_w9 : ∀ w ∈ wsX90, w ∈ lw_tbl := by decide +kernel
theorem cl_w10 : ∀ w ∈ wsX100, w ∈ lw_tbl := by decide +kernel
theorem cl_w11 : ∀ w ∈ wsX110, w ∈ lw_tbl := by decide +kernel
theorem cl_w12 : ∀ w ∈ wsX120, w ∈ lw_tbl := by decide +kernel
theorem cl_lay (C : String) (T : u_T) (k : Nat) : goodWord (u_lay C T k) = true := by
  unfold u_lay
  split <;> rfl
theorem cl_gw {C : String} {T : u_T} {N : Nat} (h : ∀ w ∈ u_ws C T N, w ∈ lw_tbl) : ∀ w ∈ u_ws C T N, w ∈ GW_w := by
  intro w hw
  refine GW_in (h w hw) ?_
  obtain ⟨k, -, rfl⟩ := List.mem_map.mp hw
  exact cl_lay C T k
theorem cl_in : ∀ (ci : Nat) (q : vw_C), vwCl[ci]? = some q → ∀ w ∈ u_ws q.1 q.2.1 q.2.2, w ∈ GW_w := by
  intro ci q h
  match ci, h with
  | 0, h => cases h; exact cl_gw cl_w0
  | 1, h => cases h; exact cl_gw cl_w1
  | 2, h => cases h; exact cl_gw cl_w2
  | 3, h => cases h; exact cl_gw cl_w3
  | 4, h => cases h; exact cl_gw cl_w4
  | 5, h => cases h; exact cl_gw cl_w5
  | 6, h => cases h; exact cl_gw cl_w6
  | 7, h => cases h; exact cl_gw cl_w7
  | 8, h => cases h; exact cl_gw cl_w8
  | 9, h => cases h; exact cl_gw cl_w9
  | 10, h => cases h; exact cl_gw cl_w10
  | 11, h => cases h; exact cl_gw cl_w11
  | 12, h => cases h; exact cl_gw cl_w12
  | k + 13, h => simp [vwCl] at h
