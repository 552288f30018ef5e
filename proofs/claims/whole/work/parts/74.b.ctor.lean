/-! ===== the constructors ===== -/
def is_R (x k : Nat) : Bool := decide (k < sh_n x) && (if sh_k x < 20 then decide (2 ≤ fk_c (sh_k x) k) && !(decide (sh_k x = 12) && decide (k = 5)) else decide (24 ≤ sh_k x) && decide (sh_k x < 30))
def fl_r (ρ : RR) (a n : Nat) : RR := fun x k => if a ≤ x ∧ x < n ∧ is_R x k = true then some (rf_s x k) else ρ x k
theorem fl_o {ρ : RR} {a n x k : Nat} (h : x < a ∨ n ≤ x) : fl_r ρ a n x k = ρ x k := if_neg (by omega)
theorem fl_i {ρ : RR} {a n x k : Nat} (h1 : a ≤ x) (h2 : x < n) (h3 : is_R x k = true) : fl_r ρ a n x k = some (rf_s x k) := if_pos ⟨h1, h2, h3⟩
theorem fl_n {ρ : RR} {a n x k : Nat} (h3 : ¬ is_R x k = true) : fl_r ρ a n x k = ρ x k := if_neg (fun h => h3 h.2.2)
theorem rq_o {ρ : RR} {a k b x j : Nat} (h : x ≠ a) : rq_p ρ a k b x j = ρ x j := by rw [rq_ne h]
theorem rq_s {ρ : RR} {a k b : Nat} : rq_p ρ a k b a k = some b := by simp [rq_p]
theorem rq_k {ρ : RR} {a k b j : Nat} (h : j ≠ k) : rq_p ρ a k b a j = ρ a j := by simp [rq_p, h]
theorem zq_f {μ : MM} {ρ : RR} {a n c : Nat} (h : zq_z μ ρ c) (hc : n ≤ c) : zq_z μ (fl_r ρ a n) c := ⟨h.1, h.2.1, fun j => by rw [fl_o (Or.inr hc)]; exact h.2.2 j⟩
theorem mm_I0 {μ : MM} {a k : Nat} (h : μ.1 a k = 0) : mm_I μ a k 0 = μ := by
  have e : up_2 μ.1 a k 0 = μ.1 := by
    funext x j
    unfold up_2
    split
    · rename_i e1; subst e1
      split
      · rename_i e2; subst e2; exact h.symm
      · rfl
    · rfl
  unfold mm_I
  rw [e]
theorem mm_J0 {μ : MM} {a k : Nat} (h : μ.2 a k = 0) : mm_J μ a k 0 = μ := by
  have e : up_2 μ.2 a k 0 = μ.2 := by
    funext x j
    unfold up_2
    split
    · rename_i e1; subst e1
      split
      · rename_i e2; subst e2; exact h.symm
      · rfl
    · rfl
  unfold mm_J
  rw [e]
theorem vl_0 {nx : Nat} : vq_L nx [] := trivial
theorem vl_n {nx : Nat} {l : List (Option AV)} (h : vq_L nx l) : vq_L nx (none :: l) := h
theorem vl_s {nx : Nat} {v : AV} {l : List (Option AV)} (h : vq_ok nx v) (h2 : vq_L nx l) : vq_L nx (some v :: l) := ⟨h, h2⟩
theorem vs_0 {nx : Nat} : vq_S nx [] := trivial
theorem vs_s {nx : Nat} {v : AV} {l : List AV} (h : vq_ok nx v) (h2 : vq_S nx l) : vq_S nx (v :: l) := ⟨h, h2⟩
theorem vo_i {nx : Nat} {x : Int32} : vq_ok nx (av_i x) := trivial
theorem vo_l {nx : Nat} {x : Int64} : vq_ok nx (av_l x) := trivial
theorem vo_r {nx a : Nat} (h : a < nx) : vq_ok nx (av_r a) := Or.inl h
theorem vo_t {nx : Nat} {a : Nat} (h : 1000 ≤ a := by decide) : vq_ok nx (av_r a) := Or.inr h
theorem iR_n {x k t : Nat} (h : sh_k x = t) (h1 : 20 ≤ t) (h2 : t < 24) : is_R x k = false := by
  unfold is_R
  rw [if_neg (by omega)]
  have : ¬ 24 ≤ sh_k x := by omega
  simp [this]
theorem cq_ext {μ : MM} {ρ ρ' : RR} {x : Nat} (h3 : sh_k x < 20 → ∀ k, k < sh_n x → 2 ≤ fk_c (sh_k x) k → ρ' x k = ρ x k) (h4 : 24 ≤ sh_k x → ∀ j, ρ' x j = ρ x j) (ad : Nat → Nat) (tc : Nat → ClassId) : cq_e ad tc μ ρ' x = cq_e ad tc μ ρ x := by
  unfold cq_e
  by_cases h : sh_k x < 20
  · rw [if_pos h, if_pos h]
    have e : cq_o ad μ ρ' x = cq_o ad μ ρ x := by
      unfold cq_o
      apply List.map_congr_left
      intro k hk
      have hk2 := List.mem_range.mp hk
      have h5 := h3 h k hk2
      unfold cq_v
      generalize fk_c (sh_k x) k = t at h5 ⊢
      match t, h5 with
      | 0, _ => rfl
      | 1, _ => rfl
      | t + 2, h5 => show va_rf ((ρ' x k).map ad) = va_rf ((ρ x k).map ad); rw [h5 (by omega)]
    rw [e]
  · rw [if_neg h, if_neg h]
    unfold cq_a
    by_cases h5 : sh_k x = 23
    · rw [if_pos h5, if_pos h5]
    · rw [if_neg h5, if_neg h5]
      by_cases h6 : 24 ≤ sh_k x
      · rw [if_pos h6, if_pos h6]
        have e : (fun j => (ρ' x j).map ad) = fun j => (ρ x j).map ad := funext (fun j => by rw [h4 h6 j])
        rw [e]
      · rw [if_neg h6, if_neg h6]
theorem cq_fin {μ : MM} {ρ ρa : RR} {base n1 : Nat} (h1 : ∀ x k, x < base → ρa x k = ρ x k) (h2 : ∀ x k, base ≤ x → x < n1 → is_R x k = true → ρa x k = some (rf_s x k)) (h3 : ∀ x k, base ≤ x → x < n1 → 24 ≤ sh_k x → ¬ is_R x k = true → ρa x k = ρ x k) (hm : ∀ x, base ≤ x → x < n1 → sh_k x = 12 → ρa x 5 = ρ x 5 := by intros; omega) : ∀ x, x < n1 → ∀ (ad : Nat → Nat) (tc : Nat → ClassId), cq_e ad tc μ ρa x = cq_e ad tc μ (fl_r ρ base n1) x := by
  intro x hx ad tc
  by_cases hb : base ≤ x
  · refine cq_ext (fun hk k hk2 hk3 => ?_) (fun hk j => ?_) ad tc
    · by_cases hr : is_R x k = true
      · rw [h2 x k hb hx hr, fl_i hb hx hr]
      · rw [fl_n hr]
        have h5 : sh_k x = 12 ∧ k = 5 := by
          unfold is_R at hr
          rw [if_pos hk] at hr
          simp only [Bool.and_eq_true, decide_eq_true_eq, Bool.not_eq_true', Bool.and_eq_false_iff, decide_eq_false_iff_not] at hr
          by_cases h6 : sh_k x = 12
          · by_cases h7 : k = 5
            · exact ⟨h6, h7⟩
            · exact absurd ⟨hk2, hk3, Or.inr h7⟩ hr
          · exact absurd ⟨hk2, hk3, Or.inl h6⟩ hr
        obtain ⟨h6, rfl⟩ := h5
        exact hm x hb hx h6
    · by_cases hr : is_R x j = true
      · rw [h2 x j hb hx hr, fl_i hb hx hr]
      · rw [fl_n hr, h3 x j hb hx hk hr]
  · refine cq_ext (fun hk k hk2 hk3 => ?_) (fun hk j => ?_) ad tc
    · rw [h1 x k (by omega), fl_o (by omega)]
    · rw [h1 x j (by omega), fl_o (by omega)]
theorem k12 {x : Nat} (h : sh_k x = 12) : x = 355 := by
  have : ∀ x, x < sh_nx → sh_k x = 12 → x = 355 := by decide +kernel
  exact this x (sh_lt (by omega)) h
theorem m_kinds : ∀ x, x < 376 → 355 < x → 20 ≤ sh_k x ∧ sh_k x < 24 := by decide +kernel
theorem wk_a : ∀ x, x < sh_nx → (sh_k x = 10 → x + 5 ≤ 355) ∧ (sh_k x = 7 → x + 7 ≤ 355) ∧ (sh_k x = 1 → x + 11 ≤ 355) := by decide +kernel
theorem wk_10 {x : Nat} (h : sh_k x = 10) : x + 5 ≤ 355 := (wk_a x (sh_lt (by omega))).1 h
theorem wk_7 {x : Nat} (h : sh_k x = 7) : x + 7 ≤ 355 := (wk_a x (sh_lt (by omega))).2.1 h
theorem wk_1 {x : Nat} (h : sh_k x = 1) : x + 11 ≤ 355 := (wk_a x (sh_lt (by omega))).2.2 h
/-- where the block of an object ends -/
def bl_n (a : Nat) : Nat := match sh_k a with
  | 10 => a + 5
  | 7 => a + 7
  | 1 => a + 11
  | 8 => a + 2
  | 9 => 21
  | 4 => a + 2
  | 5 => 43
  | 0 => 51
  | 3 => 333
  | 6 => 341
  | 2 => 346
  | 11 => 355
  | 24 => 333
  | 25 => a + 5
  | _ => 376
theorem bl_c_10 {a : Nat} (h : sh_k a = 10) : bl_n a = a + 5 := by rw [bl_n, h]; rfl
theorem bl_c_7 {a : Nat} (h : sh_k a = 7) : bl_n a = a + 7 := by rw [bl_n, h]; rfl
theorem bl_c_1 {a : Nat} (h : sh_k a = 1) : bl_n a = a + 11 := by rw [bl_n, h]; rfl
theorem bl_c_8 {a : Nat} (h : sh_k a = 8) : bl_n a = a + 2 := by rw [bl_n, h]; rfl
theorem bl_c_9 {a : Nat} (h : sh_k a = 9) : bl_n a = 21 := by rw [bl_n, h]; rfl
theorem bl_c_4 {a : Nat} (h : sh_k a = 4) : bl_n a = a + 2 := by rw [bl_n, h]; rfl
theorem bl_c_5 {a : Nat} (h : sh_k a = 5) : bl_n a = 43 := by rw [bl_n, h]; rfl
theorem bl_c_0 {a : Nat} (h : sh_k a = 0) : bl_n a = 51 := by rw [bl_n, h]; rfl
theorem bl_c_3 {a : Nat} (h : sh_k a = 3) : bl_n a = 333 := by rw [bl_n, h]; rfl
theorem bl_c_6 {a : Nat} (h : sh_k a = 6) : bl_n a = 341 := by rw [bl_n, h]; rfl
theorem bl_c_2 {a : Nat} (h : sh_k a = 2) : bl_n a = 346 := by rw [bl_n, h]; rfl
theorem bl_c_11 {a : Nat} (h : sh_k a = 11) : bl_n a = 355 := by rw [bl_n, h]; rfl
theorem bl_c_25 {a : Nat} (h : sh_k a = 25) : bl_n a = a + 5 := by rw [bl_n, h]; rfl
theorem sz_all : ∀ x, x < sh_nx → (sh_k x < 20 ∨ 24 ≤ sh_k x) → sh_n x < 50 := by decide +kernel
theorem iR_x {x k : Nat} (h : is_R x k = true) : x < sh_nx ∧ k < 50 := by
  unfold is_R at h
  simp only [Bool.and_eq_true, decide_eq_true_eq] at h
  obtain ⟨h1, h2⟩ := h
  by_cases h3 : sh_k x < 20
  · have hx := sh_lt (a := x) (by omega)
    have := sz_all x hx (Or.inl h3)
    exact ⟨hx, by omega⟩
  · rw [if_neg h3] at h2
    simp only [Bool.and_eq_true, decide_eq_true_eq] at h2
    have hx := sh_lt (a := x) (by omega)
    have := sz_all x hx (Or.inr h2.1)
    exact ⟨hx, by omega⟩
theorem bl_all : ∀ x, x < sh_nx → (sh_k x < 20 ∨ 24 ≤ sh_k x) → ∀ k, k < 50 → is_R x k = true → (rf_s x k < bl_n x ∨ 1000 ≤ rf_s x k) := by decide +kernel
theorem bl_sb : ((List.range sh_nx).all (fun a => !(decide (sh_k a < 13) || decide (sh_k a = 25)) || (List.range (bl_n a)).all (fun x => decide (x < a) || !(decide (sh_k x < 20) || decide (24 ≤ sh_k x)) || decide (bl_n x ≤ bl_n a)))) = true := by decide +kernel
theorem bl_sub (a : Nat) (ha : a < sh_nx) (hk : sh_k a < 13 ∨ sh_k a = 25) (x : Nat) (h1 : a ≤ x) (h2 : x < bl_n a) (hx : sh_k x < 20 ∨ 24 ≤ sh_k x) : bl_n x ≤ bl_n a := by
  have h3 := List.all_eq_true.mp bl_sb a (List.mem_range.mpr ha)
  simp only [Bool.or_eq_true, Bool.not_eq_true', Bool.or_eq_false_iff, decide_eq_false_iff_not] at h3
  rcases h3 with h3 | h3
  · omega
  · have h4 := List.all_eq_true.mp h3 x (List.mem_range.mpr h2)
    simp only [Bool.or_eq_true, Bool.not_eq_true', Bool.or_eq_false_iff, decide_eq_false_iff_not, decide_eq_true_eq] at h4
    omega
theorem rq_fb {ρ : RR} {a n m t : Nat} (hk : sh_k a = t) (ht : t < 13 ∨ t = 25) (hr : rq_ok m ρ) (hm : m ≤ n) (hn : bl_n a = n) : rq_ok n (fl_r ρ a n) := by
  intro x k b hb
  unfold fl_r at hb
  split at hb
  · rename_i h
    cases hb
    obtain ⟨h1, h2, h3⟩ := h
    obtain ⟨hx, hk5⟩ := iR_x h3
    have hkx : sh_k x < 20 ∨ 24 ≤ sh_k x := by
      unfold is_R at h3
      simp only [Bool.and_eq_true, decide_eq_true_eq] at h3
      by_cases h4 : sh_k x < 20
      · exact Or.inl h4
      · rw [if_neg h4] at h3
        simp only [Bool.and_eq_true, decide_eq_true_eq] at h3
        exact Or.inr h3.2.1
    have ha : a < sh_nx := sh_lt (by omega)
    have h5 := bl_sub a ha (by omega) x h1 (by omega) hkx
    rcases bl_all x hx hkx k hk5 h3 with h6 | h6
    · exact Or.inl (by omega)
    · exact Or.inr h6
  · exact (hr x k b hb).elim (fun q => Or.inl (by omega)) Or.inr
theorem iR_0 {x k : Nat} (h : sh_k x = 0) (hr : is_R x k = true) : k = 0 ∨ k = 1 ∨ k = 2 ∨ k = 3 := by
  have hk := (iR_x hr).2
  have hn : sh_n x = 4 := by
    have := sh_cl (a := x) (by omega)
    rw [h] at this
    exact (Option.some.inj this).symm
  have key : ∀ k, k < 50 → (decide (k < 4) && (decide (2 ≤ fk_c 0 k) && !(decide (0 = 12) && decide (k = 5)))) = true → k ∈ ([0, 1, 2, 3] : List Nat) := by decide +kernel
  unfold is_R at hr
  rw [if_pos (by omega), h, hn] at hr
  simpa using key k hk hr
theorem iR_1 {x k : Nat} (h : sh_k x = 1) (hr : is_R x k = true) : k = 2 ∨ k = 3 ∨ k = 4 ∨ k = 5 := by
  have hk := (iR_x hr).2
  have hn : sh_n x = 6 := by
    have := sh_cl (a := x) (by omega)
    rw [h] at this
    exact (Option.some.inj this).symm
  have key : ∀ k, k < 50 → (decide (k < 6) && (decide (2 ≤ fk_c 1 k) && !(decide (1 = 12) && decide (k = 5)))) = true → k ∈ ([2, 3, 4, 5] : List Nat) := by decide +kernel
  unfold is_R at hr
  rw [if_pos (by omega), h, hn] at hr
  simpa using key k hk hr
theorem iR_2 {x k : Nat} (h : sh_k x = 2) (hr : is_R x k = true) : k = 1 ∨ k = 2 ∨ k = 3 ∨ k = 4 ∨ k = 5 := by
  have hk := (iR_x hr).2
  have hn : sh_n x = 13 := by
    have := sh_cl (a := x) (by omega)
    rw [h] at this
    exact (Option.some.inj this).symm
  have key : ∀ k, k < 50 → (decide (k < 13) && (decide (2 ≤ fk_c 2 k) && !(decide (2 = 12) && decide (k = 5)))) = true → k ∈ ([1, 2, 3, 4, 5] : List Nat) := by decide +kernel
  unfold is_R at hr
  rw [if_pos (by omega), h, hn] at hr
  simpa using key k hk hr
theorem iR_3 {x k : Nat} (h : sh_k x = 3) (hr : is_R x k = true) : k = 2 := by
  have hk := (iR_x hr).2
  have hn : sh_n x = 3 := by
    have := sh_cl (a := x) (by omega)
    rw [h] at this
    exact (Option.some.inj this).symm
  have key : ∀ k, k < 50 → (decide (k < 3) && (decide (2 ≤ fk_c 3 k) && !(decide (3 = 12) && decide (k = 5)))) = true → k ∈ ([2] : List Nat) := by decide +kernel
  unfold is_R at hr
  rw [if_pos (by omega), h, hn] at hr
  simpa using key k hk hr
theorem iR_4 {x k : Nat} (h : sh_k x = 4) (hr : is_R x k = true) : k = 0 ∨ k = 1 := by
  have hk := (iR_x hr).2
  have hn : sh_n x = 3 := by
    have := sh_cl (a := x) (by omega)
    rw [h] at this
    exact (Option.some.inj this).symm
  have key : ∀ k, k < 50 → (decide (k < 3) && (decide (2 ≤ fk_c 4 k) && !(decide (4 = 12) && decide (k = 5)))) = true → k ∈ ([0, 1] : List Nat) := by decide +kernel
  unfold is_R at hr
  rw [if_pos (by omega), h, hn] at hr
  simpa using key k hk hr
theorem iR_5 {x k : Nat} (h : sh_k x = 5) (hr : is_R x k = true) : k = 2 ∨ k = 3 ∨ k = 4 ∨ k = 5 := by
  have hk := (iR_x hr).2
  have hn : sh_n x = 6 := by
    have := sh_cl (a := x) (by omega)
    rw [h] at this
    exact (Option.some.inj this).symm
  have key : ∀ k, k < 50 → (decide (k < 6) && (decide (2 ≤ fk_c 5 k) && !(decide (5 = 12) && decide (k = 5)))) = true → k ∈ ([2, 3, 4, 5] : List Nat) := by decide +kernel
  unfold is_R at hr
  rw [if_pos (by omega), h, hn] at hr
  simpa using key k hk hr
theorem iR_6 {x k : Nat} (h : sh_k x = 6) (hr : is_R x k = true) : k = 3 ∨ k = 4 ∨ k = 5 ∨ k = 6 ∨ k = 7 ∨ k = 8 ∨ k = 9 ∨ k = 10 := by
  have hk := (iR_x hr).2
  have hn : sh_n x = 11 := by
    have := sh_cl (a := x) (by omega)
    rw [h] at this
    exact (Option.some.inj this).symm
  have key : ∀ k, k < 50 → (decide (k < 11) && (decide (2 ≤ fk_c 6 k) && !(decide (6 = 12) && decide (k = 5)))) = true → k ∈ ([3, 4, 5, 6, 7, 8, 9, 10] : List Nat) := by decide +kernel
  unfold is_R at hr
  rw [if_pos (by omega), h, hn] at hr
  simpa using key k hk hr
theorem iR_7 {x k : Nat} (h : sh_k x = 7) (hr : is_R x k = true) : k = 0 ∨ k = 1 := by
  have hk := (iR_x hr).2
  have hn : sh_n x = 5 := by
    have := sh_cl (a := x) (by omega)
    rw [h] at this
    exact (Option.some.inj this).symm
  have key : ∀ k, k < 50 → (decide (k < 5) && (decide (2 ≤ fk_c 7 k) && !(decide (7 = 12) && decide (k = 5)))) = true → k ∈ ([0, 1] : List Nat) := by decide +kernel
  unfold is_R at hr
  rw [if_pos (by omega), h, hn] at hr
  simpa using key k hk hr
theorem iR_8 {x k : Nat} (h : sh_k x = 8) (hr : is_R x k = true) : k = 0 := by
  have hk := (iR_x hr).2
  have hn : sh_n x = 3 := by
    have := sh_cl (a := x) (by omega)
    rw [h] at this
    exact (Option.some.inj this).symm
  have key : ∀ k, k < 50 → (decide (k < 3) && (decide (2 ≤ fk_c 8 k) && !(decide (8 = 12) && decide (k = 5)))) = true → k ∈ ([0] : List Nat) := by decide +kernel
  unfold is_R at hr
  rw [if_pos (by omega), h, hn] at hr
  simpa using key k hk hr
theorem iR_9 {x k : Nat} (h : sh_k x = 9) (hr : is_R x k = true) : k = 0 ∨ k = 1 ∨ k = 2 ∨ k = 3 := by
  have hk := (iR_x hr).2
  have hn : sh_n x = 5 := by
    have := sh_cl (a := x) (by omega)
    rw [h] at this
    exact (Option.some.inj this).symm
  have key : ∀ k, k < 50 → (decide (k < 5) && (decide (2 ≤ fk_c 9 k) && !(decide (9 = 12) && decide (k = 5)))) = true → k ∈ ([0, 1, 2, 3] : List Nat) := by decide +kernel
  unfold is_R at hr
  rw [if_pos (by omega), h, hn] at hr
  simpa using key k hk hr
theorem iR_10 {x k : Nat} (h : sh_k x = 10) (hr : is_R x k = true) : k = 0 ∨ k = 1 ∨ k = 2 ∨ k = 3 := by
  have hk := (iR_x hr).2
  have hn : sh_n x = 4 := by
    have := sh_cl (a := x) (by omega)
    rw [h] at this
    exact (Option.some.inj this).symm
  have key : ∀ k, k < 50 → (decide (k < 4) && (decide (2 ≤ fk_c 10 k) && !(decide (10 = 12) && decide (k = 5)))) = true → k ∈ ([0, 1, 2, 3] : List Nat) := by decide +kernel
  unfold is_R at hr
  rw [if_pos (by omega), h, hn] at hr
  simpa using key k hk hr
theorem iR_11 {x k : Nat} (h : sh_k x = 11) (hr : is_R x k = true) : k = 0 ∨ k = 1 ∨ k = 2 ∨ k = 3 ∨ k = 4 ∨ k = 5 ∨ k = 7 ∨ k = 8 ∨ k = 9 ∨ k = 10 ∨ k = 11 ∨ k = 12 ∨ k = 13 := by
  have hk := (iR_x hr).2
  have hn : sh_n x = 17 := by
    have := sh_cl (a := x) (by omega)
    rw [h] at this
    exact (Option.some.inj this).symm
  have key : ∀ k, k < 50 → (decide (k < 17) && (decide (2 ≤ fk_c 11 k) && !(decide (11 = 12) && decide (k = 5)))) = true → k ∈ ([0, 1, 2, 3, 4, 5, 7, 8, 9, 10, 11, 12, 13] : List Nat) := by decide +kernel
  unfold is_R at hr
  rw [if_pos (by omega), h, hn] at hr
  simpa using key k hk hr
theorem iR_12 {x k : Nat} (h : sh_k x = 12) (hr : is_R x k = true) : k = 1 ∨ k = 2 ∨ k = 3 ∨ k = 4 ∨ k = 15 ∨ k = 16 ∨ k = 18 ∨ k = 19 ∨ k = 20 ∨ k = 21 ∨ k = 22 ∨ k = 23 ∨ k = 24 ∨ k = 25 ∨ k = 32 ∨ k = 33 ∨ k = 36 ∨ k = 42 ∨ k = 43 ∨ k = 44 ∨ k = 46 ∨ k = 47 := by
  have hk := (iR_x hr).2
  have hn : sh_n x = 49 := by
    have := sh_cl (a := x) (by omega)
    rw [h] at this
    exact (Option.some.inj this).symm
  have key : ∀ k, k < 50 → (decide (k < 49) && (decide (2 ≤ fk_c 12 k) && !(decide (12 = 12) && decide (k = 5)))) = true → k ∈ ([1, 2, 3, 4, 15, 16, 18, 19, 20, 21, 22, 23, 24, 25, 32, 33, 36, 42, 43, 44, 46, 47] : List Nat) := by decide +kernel
  unfold is_R at hr
  rw [if_pos (by omega), h, hn] at hr
  simpa using key k hk hr
abbrev mX10_init : ME := (yX10_init, cX10_init, 3, none)
theorem ci_X10_init : CI mX10_init 1 := ⟨(tb_1 (List.mem_of_getElem? (i := 75) (by decide +kernel))), (tb_1 (List.mem_of_getElem? (i := 74) (by decide +kernel))), (tb_1 (List.mem_of_getElem? (i := 6) (by decide +kernel))), rfl, by decide +kernel, by decide, rfl⟩
abbrev mX7_init : ME := (yX7_init, cX7_init, 1, none)
theorem ci_X7_init : CI mX7_init 0 := ⟨(tb_1 (List.mem_of_getElem? (i := 69) (by decide +kernel))), (tb_1 (List.mem_of_getElem? (i := 68) (by decide +kernel))), (tb_1 (List.mem_of_getElem? (i := 5) (by decide +kernel))), rfl, by decide +kernel, by decide, rfl⟩
abbrev mX1_init : ME := (yX1_init, cX1_init, 1, none)
theorem ci_X1_init : CI mX1_init 0 := ⟨(tb_1 (List.mem_of_getElem? (i := 63) (by decide +kernel))), (tb_1 (List.mem_of_getElem? (i := 62) (by decide +kernel))), (tb_1 (List.mem_of_getElem? (i := 4) (by decide +kernel))), rfl, by decide +kernel, by decide, rfl⟩
abbrev mX8_init : ME := (yX8_init, cX8_init, 1, none)
theorem ci_X8_init : CI mX8_init 0 := ⟨(tb_1 (List.mem_of_getElem? (i := 38) (by decide +kernel))), (tb_1 (List.mem_of_getElem? (i := 37) (by decide +kernel))), (tb_1 (List.mem_of_getElem? (i := 2) (by decide +kernel))), rfl, by decide +kernel, by decide, rfl⟩
abbrev mX9_init : ME := (yX9_init, cX9_init, 2, none)
theorem ci_X9_init : CI mX9_init 1 := ⟨(tb_1 (List.mem_of_getElem? (i := 57) (by decide +kernel))), (tb_1 (List.mem_of_getElem? (i := 56) (by decide +kernel))), (tb_1 (List.mem_of_getElem? (i := 3) (by decide +kernel))), rfl, by decide +kernel, by decide, rfl⟩
abbrev mX4_init : ME := (yX4_init, cX4_init, 2, none)
theorem ci_X4_init : CI mX4_init 1 := ⟨(tb_1 (List.mem_of_getElem? (i := 209) (by decide +kernel))), (tb_1 (List.mem_of_getElem? (i := 208) (by decide +kernel))), (tb_1 (List.mem_of_getElem? (i := 8) (by decide +kernel))), rfl, by decide +kernel, by decide, rfl⟩
abbrev mX5_init : ME := (yX5_init, cX5_init, 1, none)
theorem ci_X5_init : CI mX5_init 0 := ⟨(tb_1 (List.mem_of_getElem? (i := 229) (by decide +kernel))), (tb_1 (List.mem_of_getElem? (i := 228) (by decide +kernel))), (tb_1 (List.mem_of_getElem? (i := 9) (by decide +kernel))), rfl, by decide +kernel, by decide, rfl⟩
abbrev mX0_init : ME := (yX0_init, cX0_init, 3, none)
theorem ci_X0_init : CI mX0_init 2 := ⟨(tb_2 (List.mem_of_getElem? (i := 22) (by decide +kernel))), (tb_2 (List.mem_of_getElem? (i := 21) (by decide +kernel))), (tb_1 (List.mem_of_getElem? (i := 10) (by decide +kernel))), rfl, by decide +kernel, by decide, rfl⟩
abbrev mX3_init : ME := (yX3_init, cX3_init, 2, none)
theorem ci_X3_init : CI mX3_init 0 := ⟨(tb_2 (List.mem_of_getElem? (i := 42) (by decide +kernel))), (tb_2 (List.mem_of_getElem? (i := 41) (by decide +kernel))), (tb_1 (List.mem_of_getElem? (i := 11) (by decide +kernel))), rfl, by decide +kernel, by decide, rfl⟩
abbrev mX6_init : ME := (yX6_init, cX6_init, 2, none)
theorem ci_X6_init : CI mX6_init 1 := ⟨(tb_2 (List.mem_of_getElem? (i := 62) (by decide +kernel))), (tb_2 (List.mem_of_getElem? (i := 61) (by decide +kernel))), (tb_1 (List.mem_of_getElem? (i := 12) (by decide +kernel))), rfl, by decide +kernel, by decide, rfl⟩
abbrev mX2_init : ME := (yX2_init, cX2_init, 2, none)
theorem ci_X2_init : CI mX2_init 1 := ⟨(tb_2 (List.mem_of_getElem? (i := 105) (by decide +kernel))), (tb_2 (List.mem_of_getElem? (i := 104) (by decide +kernel))), (tb_1 (List.mem_of_getElem? (i := 13) (by decide +kernel))), rfl, by decide +kernel, by decide, rfl⟩
abbrev mX11_init : ME := (yX11_init, cX11_init, 1, none)
theorem ci_X11_init : CI mX11_init 0 := ⟨(tb_1 (List.mem_of_getElem? (i := 30) (by decide +kernel))), (tb_1 (List.mem_of_getElem? (i := 29) (by decide +kernel))), (tb_1 (List.mem_of_getElem? (i := 1) (by decide +kernel))), rfl, by decide +kernel, by decide, rfl⟩
abbrev mX12_init : ME := (yX12_init, cX12_init, 1, none)
theorem ci_X12_init : CI mX12_init 0 := ⟨(tb_6 (List.mem_of_getElem? (i := 46) (by decide +kernel))), (tb_6 (List.mem_of_getElem? (i := 45) (by decide +kernel))), (tb_1 (List.mem_of_getElem? (i := 14) (by decide +kernel))), rfl, by decide +kernel, by decide, rfl⟩
theorem kl_RX10_3 : Cond.methodLink RX10 3 objectInit ∈ lw_tbl := (tb_1 (List.mem_of_getElem? (i := 76) (by decide +kernel)))
theorem kic_1 : Int32.ofInt (1) = 1 := by decide
theorem kbp_6 : (Int8.ofInt (6)).toInt32 = 6 := by decide
theorem kl_RX10_9 : Cond.methodLink RX10 9 Lib.Math.min.name ∈ lw_tbl := (tb_1 (List.mem_of_getElem? (i := 77) (by decide +kernel)))
theorem kl_RX10_15 : Cond.methodLink RX10 15 Lib.Math.max.name ∈ lw_tbl := (tb_1 (List.mem_of_getElem? (i := 80) (by decide +kernel)))
theorem ac_int : Cond.arrayClass .int ∈ lw_tbl := by decide +kernel
theorem fk_RX10_18 : FL RX10 18 10 0 := ⟨_, rfl, by decide, (tb_1 (List.mem_of_getElem? (i := 83) (by decide +kernel)))⟩
theorem fk_RX10_24 : FL RX10 24 10 1 := ⟨_, rfl, by decide, (tb_1 (List.mem_of_getElem? (i := 89) (by decide +kernel)))⟩
theorem fk_RX10_27 : FL RX10 27 10 2 := ⟨_, rfl, by decide, (tb_1 (List.mem_of_getElem? (i := 92) (by decide +kernel)))⟩
theorem fk_RX10_30 : FL RX10 30 10 3 := ⟨_, rfl, by decide, (tb_1 (List.mem_of_getElem? (i := 94) (by decide +kernel)))⟩
theorem kl_RX7_3 : Cond.methodLink RX7 3 objectInit ∈ lw_tbl := (tb_1 (List.mem_of_getElem? (i := 70) (by decide +kernel)))
theorem nw_RX7_9 : NW RX7 9 10 := ⟨_, rfl, (tb_1 (List.mem_of_getElem? (i := 71) (by decide +kernel))), (tb_1 (List.mem_of_getElem? (i := 72) (by decide +kernel))), (tb_1 (List.mem_of_getElem? (i := 6) (by decide +kernel)))⟩
theorem kl_RX7_11 : Cond.methodLink RX7 11 yX10_init ∈ lw_tbl := (tb_1 (List.mem_of_getElem? (i := 73) (by decide +kernel)))
theorem fk_RX7_14 : FL RX7 14 7 0 := ⟨_, rfl, by decide, (tb_1 (List.mem_of_getElem? (i := 106) (by decide +kernel)))⟩
theorem fk_RX7_20 : FL RX7 20 7 1 := ⟨_, rfl, by decide, (tb_1 (List.mem_of_getElem? (i := 113) (by decide +kernel)))⟩
theorem kic_0 : Int32.ofInt (0) = 0 := by decide
theorem fk_RX7_24 : FL RX7 24 7 2 := ⟨_, rfl, by decide, (tb_1 (List.mem_of_getElem? (i := 118) (by decide +kernel)))⟩
theorem fk_RX7_28 : FL RX7 28 7 3 := ⟨_, rfl, by decide, (tb_1 (List.mem_of_getElem? (i := 122) (by decide +kernel)))⟩
theorem fk_RX7_31 : FL RX7 31 7 4 := ⟨_, rfl, by decide, (tb_1 (List.mem_of_getElem? (i := 127) (by decide +kernel)))⟩
theorem kl_RX1_3 : Cond.methodLink RX1 3 objectInit ∈ lw_tbl := (tb_1 (List.mem_of_getElem? (i := 64) (by decide +kernel)))
theorem fk_RX1_9 : FL RX1 9 1 0 := ⟨_, rfl, by decide, (tb_1 (List.mem_of_getElem? (i := 142) (by decide +kernel)))⟩
theorem fk_RX1_15 : FL RX1 15 1 1 := ⟨_, rfl, by decide, (tb_1 (List.mem_of_getElem? (i := 147) (by decide +kernel)))⟩
theorem kbp_8 : (Int8.ofInt (8)).toInt32 = 8 := by decide
theorem fk_RX1_18 : FL RX1 18 1 2 := ⟨_, rfl, by decide, (tb_1 (List.mem_of_getElem? (i := 152) (by decide +kernel)))⟩
theorem fk_RX1_22 : FL RX1 22 1 3 := ⟨_, rfl, by decide, (tb_1 (List.mem_of_getElem? (i := 157) (by decide +kernel)))⟩
theorem fk_RX1_25 : FL RX1 25 1 4 := ⟨_, rfl, by decide, (tb_1 (List.mem_of_getElem? (i := 162) (by decide +kernel)))⟩
theorem nw_RX1_28 : NW RX1 28 7 := ⟨_, rfl, (tb_1 (List.mem_of_getElem? (i := 65) (by decide +kernel))), (tb_1 (List.mem_of_getElem? (i := 66) (by decide +kernel))), (tb_1 (List.mem_of_getElem? (i := 5) (by decide +kernel)))⟩
theorem kl_RX1_30 : Cond.methodLinkNest RX1 30 yX7_init RX11 ∈ lw_tbl := (tb_1 (List.mem_of_getElem? (i := 67) (by decide +kernel)))
theorem fk_RX1_31 : FL RX1 31 1 5 := ⟨_, rfl, by decide, (tb_1 (List.mem_of_getElem? (i := 166) (by decide +kernel)))⟩
theorem kl_RX8_3 : Cond.methodLink RX8 3 objectInit ∈ lw_tbl := (tb_1 (List.mem_of_getElem? (i := 39) (by decide +kernel)))
theorem ksp_240 : (Int16.ofInt (240)).toInt32 = 240 := by decide
theorem fk_RX8_11 : FL RX8 11 8 0 := ⟨_, rfl, by decide, (tb_1 (List.mem_of_getElem? (i := 40) (by decide +kernel)))⟩
theorem fk_RX8_15 : FL RX8 15 8 1 := ⟨_, rfl, by decide, (tb_1 (List.mem_of_getElem? (i := 41) (by decide +kernel)))⟩
theorem fk_RX8_19 : FL RX8 19 8 2 := ⟨_, rfl, by decide, (tb_1 (List.mem_of_getElem? (i := 43) (by decide +kernel)))⟩
theorem kl_RX9_3 : Cond.methodLink RX9 3 objectInit ∈ lw_tbl := (tb_1 (List.mem_of_getElem? (i := 58) (by decide +kernel)))
theorem nw_RX9_9 : NW RX9 9 1 := ⟨_, rfl, (tb_1 (List.mem_of_getElem? (i := 59) (by decide +kernel))), (tb_1 (List.mem_of_getElem? (i := 60) (by decide +kernel))), (tb_1 (List.mem_of_getElem? (i := 4) (by decide +kernel)))⟩
theorem kl_RX9_11 : Cond.methodLinkNest RX9 11 yX1_init RX11 ∈ lw_tbl := (tb_1 (List.mem_of_getElem? (i := 61) (by decide +kernel)))
theorem fk_RX9_12 : FL RX9 12 9 1 := ⟨_, rfl, by decide, (tb_1 (List.mem_of_getElem? (i := 188) (by decide +kernel)))⟩
theorem nw_RX9_18 : NW RX9 18 10 := ⟨_, rfl, (tb_1 (List.mem_of_getElem? (i := 185) (by decide +kernel))), (tb_1 (List.mem_of_getElem? (i := 72) (by decide +kernel))), (tb_1 (List.mem_of_getElem? (i := 6) (by decide +kernel)))⟩
theorem kl_RX9_20 : Cond.methodLink RX9 20 yX10_init ∈ lw_tbl := (tb_1 (List.mem_of_getElem? (i := 186) (by decide +kernel)))
theorem fk_RX9_23 : FL RX9 23 9 2 := ⟨_, rfl, by decide, (tb_1 (List.mem_of_getElem? (i := 190) (by decide +kernel)))⟩
theorem kic_3 : Int32.ofInt (3) = 3 := by decide
theorem fk_RX9_27 : FL RX9 27 9 3 := ⟨_, rfl, by decide, (tb_1 (List.mem_of_getElem? (i := 192) (by decide +kernel)))⟩
theorem fk_RX9_31 : FL RX9 31 9 4 := ⟨_, rfl, by decide, (tb_1 (List.mem_of_getElem? (i := 193) (by decide +kernel)))⟩
theorem fk_RX9_35 : FL RX9 35 9 0 := ⟨_, rfl, by decide, (tb_1 (List.mem_of_getElem? (i := 187) (by decide +kernel)))⟩
theorem kl_RX4_3 : Cond.methodLink RX4 3 objectInit ∈ lw_tbl := (tb_1 (List.mem_of_getElem? (i := 210) (by decide +kernel)))
theorem fk_RX4_11 : FL RX4 11 4 1 := ⟨_, rfl, by decide, (tb_1 (List.mem_of_getElem? (i := 212) (by decide +kernel)))⟩
theorem fk_RX4_17 : FL RX4 17 4 2 := ⟨_, rfl, by decide, (tb_1 (List.mem_of_getElem? (i := 214) (by decide +kernel)))⟩
theorem fk_RX4_21 : FL RX4 21 4 0 := ⟨_, rfl, by decide, (tb_1 (List.mem_of_getElem? (i := 211) (by decide +kernel)))⟩
theorem kl_RX5_3 : Cond.methodLink RX5 3 objectInit ∈ lw_tbl := (tb_1 (List.mem_of_getElem? (i := 230) (by decide +kernel)))
theorem fk_RX5_9 : FL RX5 9 5 0 := ⟨_, rfl, by decide, (tb_1 (List.mem_of_getElem? (i := 233) (by decide +kernel)))⟩
theorem kic_m1 : Int32.ofInt (-1) = (-1) := by decide
theorem fk_RX5_15 : FL RX5 15 5 1 := ⟨_, rfl, by decide, (tb_1 (List.mem_of_getElem? (i := 235) (by decide +kernel)))⟩
theorem fk_RX5_18 : FL RX5 18 5 2 := ⟨_, rfl, by decide, (tb_1 (List.mem_of_getElem? (i := 238) (by decide +kernel)))⟩
theorem kic_4 : Int32.ofInt (4) = 4 := by decide
theorem fk_RX5_26 : FL RX5 26 5 3 := ⟨_, rfl, by decide, (tb_2 (List.mem_of_getElem? (i := 0) (by decide +kernel)))⟩
theorem fk_RX5_29 : FL RX5 29 5 4 := ⟨_, rfl, by decide, (tb_2 (List.mem_of_getElem? (i := 1) (by decide +kernel)))⟩
theorem kbp_32 : (Int8.ofInt (32)).toInt32 = 32 := by decide
theorem fk_RX5_32 : FL RX5 32 5 5 := ⟨_, rfl, by decide, (tb_2 (List.mem_of_getElem? (i := 2) (by decide +kernel)))⟩
theorem kl_RX0_3 : Cond.methodLink RX0 3 objectInit ∈ lw_tbl := (tb_2 (List.mem_of_getElem? (i := 23) (by decide +kernel)))
theorem ksp_128 : (Int16.ofInt (128)).toInt32 = 128 := by decide
theorem fk_RX0_11 : FL RX0 11 0 0 := ⟨_, rfl, by decide, (tb_2 (List.mem_of_getElem? (i := 24) (by decide +kernel)))⟩
theorem fk_RX0_15 : FL RX0 15 0 3 := ⟨_, rfl, by decide, (tb_2 (List.mem_of_getElem? (i := 28) (by decide +kernel)))⟩
theorem fk_RX0_18 : FL RX0 18 0 1 := ⟨_, rfl, by decide, (tb_2 (List.mem_of_getElem? (i := 26) (by decide +kernel)))⟩
theorem fk_RX0_22 : FL RX0 22 0 2 := ⟨_, rfl, by decide, (tb_2 (List.mem_of_getElem? (i := 27) (by decide +kernel)))⟩
theorem kl_RX6_3 : Cond.methodLink RX6 3 objectInit ∈ lw_tbl := (tb_2 (List.mem_of_getElem? (i := 63) (by decide +kernel)))
theorem fk_RX6_9 : FL RX6 9 6 0 := ⟨_, rfl, by decide, (tb_2 (List.mem_of_getElem? (i := 64) (by decide +kernel)))⟩
theorem fk_RX6_15 : FL RX6 15 6 1 := ⟨_, rfl, by decide, (tb_2 (List.mem_of_getElem? (i := 66) (by decide +kernel)))⟩
theorem fk_RX6_18 : FL RX6 18 6 2 := ⟨_, rfl, by decide, (tb_2 (List.mem_of_getElem? (i := 68) (by decide +kernel)))⟩
theorem fk_RX6_21 : FL RX6 21 6 4 := ⟨_, rfl, by decide, (tb_2 (List.mem_of_getElem? (i := 71) (by decide +kernel)))⟩
theorem fk_RX6_25 : FL RX6 25 6 5 := ⟨_, rfl, by decide, (tb_2 (List.mem_of_getElem? (i := 72) (by decide +kernel)))⟩
theorem fk_RX6_28 : FL RX6 28 6 6 := ⟨_, rfl, by decide, (tb_2 (List.mem_of_getElem? (i := 73) (by decide +kernel)))⟩
theorem fk_RX6_31 : FL RX6 31 6 7 := ⟨_, rfl, by decide, (tb_2 (List.mem_of_getElem? (i := 74) (by decide +kernel)))⟩
theorem fk_RX6_34 : FL RX6 34 6 8 := ⟨_, rfl, by decide, (tb_2 (List.mem_of_getElem? (i := 75) (by decide +kernel)))⟩
theorem kbp_7 : (Int8.ofInt (7)).toInt32 = 7 := by decide
theorem fk_RX6_37 : FL RX6 37 6 9 := ⟨_, rfl, by decide, (tb_2 (List.mem_of_getElem? (i := 76) (by decide +kernel)))⟩
theorem fk_RX6_40 : FL RX6 40 6 10 := ⟨_, rfl, by decide, (tb_2 (List.mem_of_getElem? (i := 77) (by decide +kernel)))⟩
theorem fk_RX6_43 : FL RX6 43 6 3 := ⟨_, rfl, by decide, (tb_2 (List.mem_of_getElem? (i := 70) (by decide +kernel)))⟩
theorem kl_RX2_3 : Cond.methodLink RX2 3 objectInit ∈ lw_tbl := (tb_2 (List.mem_of_getElem? (i := 106) (by decide +kernel)))
theorem fk_RX2_9 : FL RX2 9 2 0 := ⟨_, rfl, by decide, (tb_2 (List.mem_of_getElem? (i := 107) (by decide +kernel)))⟩
theorem kbp_10 : (Int8.ofInt (10)).toInt32 = 10 := by decide
theorem fk_RX2_15 : FL RX2 15 2 2 := ⟨_, rfl, by decide, (tb_2 (List.mem_of_getElem? (i := 110) (by decide +kernel)))⟩
theorem fk_RX2_19 : FL RX2 19 2 3 := ⟨_, rfl, by decide, (tb_2 (List.mem_of_getElem? (i := 111) (by decide +kernel)))⟩
theorem ac_boolean : Cond.arrayClass .boolean ∈ lw_tbl := by decide +kernel
theorem fk_RX2_22 : FL RX2 22 2 4 := ⟨_, rfl, by decide, (tb_2 (List.mem_of_getElem? (i := 112) (by decide +kernel)))⟩
theorem fk_RX2_26 : FL RX2 26 2 5 := ⟨_, rfl, by decide, (tb_2 (List.mem_of_getElem? (i := 113) (by decide +kernel)))⟩
theorem fk_RX2_29 : FL RX2 29 2 6 := ⟨_, rfl, by decide, (tb_2 (List.mem_of_getElem? (i := 114) (by decide +kernel)))⟩
theorem fk_RX2_32 : FL RX2 32 2 7 := ⟨_, rfl, by decide, (tb_2 (List.mem_of_getElem? (i := 115) (by decide +kernel)))⟩
theorem fk_RX2_35 : FL RX2 35 2 8 := ⟨_, rfl, by decide, (tb_2 (List.mem_of_getElem? (i := 116) (by decide +kernel)))⟩
theorem fk_RX2_38 : FL RX2 38 2 9 := ⟨_, rfl, by decide, (tb_2 (List.mem_of_getElem? (i := 117) (by decide +kernel)))⟩
theorem fk_RX2_41 : FL RX2 41 2 10 := ⟨_, rfl, by decide, (tb_2 (List.mem_of_getElem? (i := 118) (by decide +kernel)))⟩
theorem fk_RX2_44 : FL RX2 44 2 11 := ⟨_, rfl, by decide, (tb_2 (List.mem_of_getElem? (i := 119) (by decide +kernel)))⟩
theorem fk_RX2_47 : FL RX2 47 2 12 := ⟨_, rfl, by decide, (tb_2 (List.mem_of_getElem? (i := 120) (by decide +kernel)))⟩
theorem fk_RX2_50 : FL RX2 50 2 1 := ⟨_, rfl, by decide, (tb_2 (List.mem_of_getElem? (i := 109) (by decide +kernel)))⟩
theorem fk_RX3_9 : FL RX3 9 3 0 := ⟨_, rfl, by decide, (tb_2 (List.mem_of_getElem? (i := 47) (by decide +kernel)))⟩
theorem fk_RX3_15 : FL RX3 15 3 1 := ⟨_, rfl, by decide, (tb_2 (List.mem_of_getElem? (i := 49) (by decide +kernel)))⟩
theorem fk_RX3_20 : FL RX3 20 3 2 := ⟨_, rfl, by decide, (tb_2 (List.mem_of_getElem? (i := 50) (by decide +kernel)))⟩
theorem kl_RX3_3 : Cond.methodLink RX3 3 objectInit ∈ lw_tbl := (tb_2 (List.mem_of_getElem? (i := 43) (by decide +kernel)))
theorem kl_RX3_24 : Cond.methodLinkNest RX3 24 yX7_init RX11 ∈ lw_tbl := (tb_2 (List.mem_of_getElem? (i := 46) (by decide +kernel)))
theorem kw_RX3_18 : Cond.classLink RX3 18 "LabelRoom$Shelf" ∈ lw_tbl := (tb_2 (List.mem_of_getElem? (i := 44) (by decide +kernel)))
theorem nw_RX3_18 : NW RX3 18 7 := ⟨_, rfl, (tb_2 (List.mem_of_getElem? (i := 44) (by decide +kernel))), (tb_1 (List.mem_of_getElem? (i := 66) (by decide +kernel))), (tb_1 (List.mem_of_getElem? (i := 5) (by decide +kernel)))⟩
theorem kbp_40 : (Int8.ofInt (40)).toInt32 = 40 := by decide
theorem kl_RX11_1 : Cond.methodLink RX11 1 objectInit ∈ lw_tbl := (tb_1 (List.mem_of_getElem? (i := 31) (by decide +kernel)))
theorem nw_RX11_7 : NW RX11 7 8 := ⟨_, rfl, (tb_1 (List.mem_of_getElem? (i := 34) (by decide +kernel))), (tb_1 (List.mem_of_getElem? (i := 35) (by decide +kernel))), (tb_1 (List.mem_of_getElem? (i := 2) (by decide +kernel)))⟩
theorem kl_RX11_9 : Cond.methodLinkNest RX11 9 yX8_init RX11 ∈ lw_tbl := (tb_1 (List.mem_of_getElem? (i := 36) (by decide +kernel)))
theorem fk_RX11_10 : FL RX11 10 11 0 := ⟨_, rfl, by decide, (tb_2 (List.mem_of_getElem? (i := 151) (by decide +kernel)))⟩
theorem nw_RX11_16 : NW RX11 16 9 := ⟨_, rfl, (tb_1 (List.mem_of_getElem? (i := 53) (by decide +kernel))), (tb_1 (List.mem_of_getElem? (i := 54) (by decide +kernel))), (tb_1 (List.mem_of_getElem? (i := 3) (by decide +kernel)))⟩
theorem kl_RX11_18 : Cond.methodLink RX11 18 yX9_init ∈ lw_tbl := (tb_1 (List.mem_of_getElem? (i := 55) (by decide +kernel)))
theorem fk_RX11_21 : FL RX11 21 11 1 := ⟨_, rfl, by decide, (tb_2 (List.mem_of_getElem? (i := 152) (by decide +kernel)))⟩
theorem nw_RX11_25 : NW RX11 25 4 := ⟨_, rfl, (tb_1 (List.mem_of_getElem? (i := 205) (by decide +kernel))), (tb_1 (List.mem_of_getElem? (i := 206) (by decide +kernel))), (tb_1 (List.mem_of_getElem? (i := 8) (by decide +kernel)))⟩
theorem kl_RX11_27 : Cond.methodLink RX11 27 yX4_init ∈ lw_tbl := (tb_1 (List.mem_of_getElem? (i := 207) (by decide +kernel)))
theorem fk_RX11_28 : FL RX11 28 11 2 := ⟨_, rfl, by decide, (tb_2 (List.mem_of_getElem? (i := 153) (by decide +kernel)))⟩
theorem nw_RX11_32 : NW RX11 32 1 := ⟨_, rfl, (tb_1 (List.mem_of_getElem? (i := 223) (by decide +kernel))), (tb_1 (List.mem_of_getElem? (i := 60) (by decide +kernel))), (tb_1 (List.mem_of_getElem? (i := 4) (by decide +kernel)))⟩
theorem kl_RX11_34 : Cond.methodLinkNest RX11 34 yX1_init RX11 ∈ lw_tbl := (tb_1 (List.mem_of_getElem? (i := 224) (by decide +kernel)))
theorem fk_RX11_35 : FL RX11 35 11 3 := ⟨_, rfl, by decide, (tb_2 (List.mem_of_getElem? (i := 154) (by decide +kernel)))⟩
theorem nw_RX11_39 : NW RX11 39 5 := ⟨_, rfl, (tb_1 (List.mem_of_getElem? (i := 225) (by decide +kernel))), (tb_1 (List.mem_of_getElem? (i := 226) (by decide +kernel))), (tb_1 (List.mem_of_getElem? (i := 9) (by decide +kernel)))⟩
theorem kl_RX11_41 : Cond.methodLinkNest RX11 41 yX5_init RX11 ∈ lw_tbl := (tb_1 (List.mem_of_getElem? (i := 227) (by decide +kernel)))
theorem fk_RX11_42 : FL RX11 42 11 4 := ⟨_, rfl, by decide, (tb_2 (List.mem_of_getElem? (i := 155) (by decide +kernel)))⟩
theorem nw_RX11_46 : NW RX11 46 10 := ⟨_, rfl, (tb_2 (List.mem_of_getElem? (i := 16) (by decide +kernel))), (tb_1 (List.mem_of_getElem? (i := 72) (by decide +kernel))), (tb_1 (List.mem_of_getElem? (i := 6) (by decide +kernel)))⟩
theorem kl_RX11_48 : Cond.methodLink RX11 48 yX10_init ∈ lw_tbl := (tb_2 (List.mem_of_getElem? (i := 17) (by decide +kernel)))
theorem fk_RX11_51 : FL RX11 51 11 5 := ⟨_, rfl, by decide, (tb_2 (List.mem_of_getElem? (i := 156) (by decide +kernel)))⟩
theorem fk_RX11_55 : FL RX11 55 11 6 := ⟨_, rfl, by decide, (tb_2 (List.mem_of_getElem? (i := 157) (by decide +kernel)))⟩
theorem nw_RX11_59 : NW RX11 59 0 := ⟨_, rfl, (tb_2 (List.mem_of_getElem? (i := 18) (by decide +kernel))), (tb_2 (List.mem_of_getElem? (i := 19) (by decide +kernel))), (tb_1 (List.mem_of_getElem? (i := 10) (by decide +kernel)))⟩
theorem kl_RX11_61 : Cond.methodLink RX11 61 yX0_init ∈ lw_tbl := (tb_2 (List.mem_of_getElem? (i := 20) (by decide +kernel)))
theorem fk_RX11_64 : FL RX11 64 11 7 := ⟨_, rfl, by decide, (tb_2 (List.mem_of_getElem? (i := 158) (by decide +kernel)))⟩
theorem nw_RX11_68 : NW RX11 68 3 := ⟨_, rfl, (tb_2 (List.mem_of_getElem? (i := 38) (by decide +kernel))), (tb_2 (List.mem_of_getElem? (i := 39) (by decide +kernel))), (tb_1 (List.mem_of_getElem? (i := 11) (by decide +kernel)))⟩
theorem kl_RX11_70 : Cond.methodLink RX11 70 yX3_init ∈ lw_tbl := (tb_2 (List.mem_of_getElem? (i := 40) (by decide +kernel)))
theorem fk_RX11_71 : FL RX11 71 11 8 := ⟨_, rfl, by decide, (tb_2 (List.mem_of_getElem? (i := 159) (by decide +kernel)))⟩
theorem nw_RX11_75 : NW RX11 75 6 := ⟨_, rfl, (tb_2 (List.mem_of_getElem? (i := 58) (by decide +kernel))), (tb_2 (List.mem_of_getElem? (i := 59) (by decide +kernel))), (tb_1 (List.mem_of_getElem? (i := 12) (by decide +kernel)))⟩
theorem kl_RX11_77 : Cond.methodLink RX11 77 yX6_init ∈ lw_tbl := (tb_2 (List.mem_of_getElem? (i := 60) (by decide +kernel)))
theorem fk_RX11_80 : FL RX11 80 11 9 := ⟨_, rfl, by decide, (tb_2 (List.mem_of_getElem? (i := 160) (by decide +kernel)))⟩
theorem nw_RX11_84 : NW RX11 84 2 := ⟨_, rfl, (tb_2 (List.mem_of_getElem? (i := 101) (by decide +kernel))), (tb_2 (List.mem_of_getElem? (i := 102) (by decide +kernel))), (tb_1 (List.mem_of_getElem? (i := 13) (by decide +kernel)))⟩
theorem kl_RX11_86 : Cond.methodLink RX11 86 yX2_init ∈ lw_tbl := (tb_2 (List.mem_of_getElem? (i := 103) (by decide +kernel)))
theorem fk_RX11_87 : FL RX11 87 11 10 := ⟨_, rfl, by decide, (tb_2 (List.mem_of_getElem? (i := 161) (by decide +kernel)))⟩
theorem ac_long : Cond.arrayClass .long ∈ lw_tbl := by decide +kernel
theorem fk_RX11_91 : FL RX11 91 11 11 := ⟨_, rfl, by decide, (tb_2 (List.mem_of_getElem? (i := 162) (by decide +kernel)))⟩
theorem nw_RX11_95 : NW RX11 95 7 := ⟨_, rfl, (tb_2 (List.mem_of_getElem? (i := 149) (by decide +kernel))), (tb_1 (List.mem_of_getElem? (i := 66) (by decide +kernel))), (tb_1 (List.mem_of_getElem? (i := 5) (by decide +kernel)))⟩
theorem kl_RX11_97 : Cond.methodLinkNest RX11 97 yX7_init RX11 ∈ lw_tbl := (tb_2 (List.mem_of_getElem? (i := 150) (by decide +kernel)))
theorem fk_RX11_98 : FL RX11 98 11 12 := ⟨_, rfl, by decide, (tb_2 (List.mem_of_getElem? (i := 163) (by decide +kernel)))⟩
theorem fk_RX11_102 : FL RX11 102 11 13 := ⟨_, rfl, by decide, (tb_2 (List.mem_of_getElem? (i := 164) (by decide +kernel)))⟩
theorem fk_RX11_106 : FL RX11 106 11 14 := ⟨_, rfl, by decide, (tb_2 (List.mem_of_getElem? (i := 165) (by decide +kernel)))⟩
theorem fk_RX11_110 : FL RX11 110 11 15 := ⟨_, rfl, by decide, (tb_2 (List.mem_of_getElem? (i := 166) (by decide +kernel)))⟩
theorem klc_0 : Int64.ofNat ((0 : Fin 2) : Nat) = 0 := by decide
theorem fk_RX11_113 : FL RX11 113 11 16 := ⟨_, rfl, by decide, (tb_2 (List.mem_of_getElem? (i := 167) (by decide +kernel)))⟩
theorem kl_RX12_3 : Cond.methodLink RX12 3 objectInit ∈ lw_tbl := (tb_6 (List.mem_of_getElem? (i := 47) (by decide +kernel)))
theorem ac_byte : Cond.arrayClass .byte ∈ lw_tbl := by decide +kernel
theorem fk_RX12_9 : FL RX12 9 12 1 := ⟨_, rfl, by decide, (tb_6 (List.mem_of_getElem? (i := 51) (by decide +kernel)))⟩
theorem ksp_960 : (Int16.ofInt (960)).toInt32 = 960 := by decide
theorem fk_RX12_13 : FL RX12 13 12 2 := ⟨_, rfl, by decide, (tb_6 (List.mem_of_getElem? (i := 52) (by decide +kernel)))⟩
theorem fk_RX12_16 : FL RX12 16 12 3 := ⟨_, rfl, by decide, (tb_6 (List.mem_of_getElem? (i := 53) (by decide +kernel)))⟩
theorem fk_RX12_20 : FL RX12 20 12 4 := ⟨_, rfl, by decide, (tb_6 (List.mem_of_getElem? (i := 54) (by decide +kernel)))⟩
theorem fk_RX12_23 : FL RX12 23 12 5 := ⟨_, rfl, by decide, (tb_6 (List.mem_of_getElem? (i := 55) (by decide +kernel)))⟩
theorem fk_RX12_28 : FL RX12 28 12 15 := ⟨_, rfl, by decide, (tb_6 (List.mem_of_getElem? (i := 65) (by decide +kernel)))⟩
theorem fk_RX12_34 : FL RX12 34 12 16 := ⟨_, rfl, by decide, (tb_6 (List.mem_of_getElem? (i := 66) (by decide +kernel)))⟩
theorem kic_2 : Int32.ofInt (2) = 2 := by decide
theorem fk_RX12_37 : FL RX12 37 12 18 := ⟨_, rfl, by decide, (tb_6 (List.mem_of_getElem? (i := 68) (by decide +kernel)))⟩
theorem fk_RX12_40 : FL RX12 40 12 19 := ⟨_, rfl, by decide, (tb_6 (List.mem_of_getElem? (i := 69) (by decide +kernel)))⟩
theorem kbp_16 : (Int8.ofInt (16)).toInt32 = 16 := by decide
theorem fk_RX12_43 : FL RX12 43 12 20 := ⟨_, rfl, by decide, (tb_6 (List.mem_of_getElem? (i := 70) (by decide +kernel)))⟩
theorem fk_RX12_46 : FL RX12 46 12 21 := ⟨_, rfl, by decide, (tb_6 (List.mem_of_getElem? (i := 71) (by decide +kernel)))⟩
theorem fk_RX12_49 : FL RX12 49 12 22 := ⟨_, rfl, by decide, (tb_6 (List.mem_of_getElem? (i := 72) (by decide +kernel)))⟩
theorem kbp_96 : (Int8.ofInt (96)).toInt32 = 96 := by decide
theorem fk_RX12_52 : FL RX12 52 12 23 := ⟨_, rfl, by decide, (tb_6 (List.mem_of_getElem? (i := 73) (by decide +kernel)))⟩
theorem fk_RX12_55 : FL RX12 55 12 24 := ⟨_, rfl, by decide, (tb_6 (List.mem_of_getElem? (i := 74) (by decide +kernel)))⟩
theorem kbp_65 : (Int8.ofInt (65)).toInt32 = 65 := by decide
theorem fk_RX12_58 : FL RX12 58 12 25 := ⟨_, rfl, by decide, (tb_6 (List.mem_of_getElem? (i := 75) (by decide +kernel)))⟩
theorem ksp_304 : (Int16.ofInt (304)).toInt32 = 304 := by decide
theorem fk_RX12_61 : FL RX12 61 12 32 := ⟨_, rfl, by decide, (tb_6 (List.mem_of_getElem? (i := 82) (by decide +kernel)))⟩
theorem fk_RX12_64 : FL RX12 64 12 33 := ⟨_, rfl, by decide, (tb_6 (List.mem_of_getElem? (i := 83) (by decide +kernel)))⟩
theorem fk_RX12_67 : FL RX12 67 12 34 := ⟨_, rfl, by decide, (tb_6 (List.mem_of_getElem? (i := 84) (by decide +kernel)))⟩
theorem ksp_12160 : (Int16.ofInt (12160)).toInt32 = 12160 := by decide
theorem fk_RX12_71 : FL RX12 71 12 36 := ⟨_, rfl, by decide, (tb_6 (List.mem_of_getElem? (i := 86) (by decide +kernel)))⟩
theorem fk_RX12_74 : FL RX12 74 12 42 := ⟨_, rfl, by decide, (tb_6 (List.mem_of_getElem? (i := 92) (by decide +kernel)))⟩
theorem fk_RX12_77 : FL RX12 77 12 43 := ⟨_, rfl, by decide, (tb_6 (List.mem_of_getElem? (i := 93) (by decide +kernel)))⟩
theorem fk_RX12_80 : FL RX12 80 12 44 := ⟨_, rfl, by decide, (tb_6 (List.mem_of_getElem? (i := 94) (by decide +kernel)))⟩
theorem fk_RX12_84 : FL RX12 84 12 46 := ⟨_, rfl, by decide, (tb_6 (List.mem_of_getElem? (i := 96) (by decide +kernel)))⟩
theorem fk_RX12_88 : FL RX12 88 12 47 := ⟨_, rfl, by decide, (tb_6 (List.mem_of_getElem? (i := 97) (by decide +kernel)))⟩
