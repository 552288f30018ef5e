/-! ===== steps of a law, worked off ===== -/
def wthI (y : Int64) : Int32 := Int64.toInt32 (if (if y < (1000000 : Int64) then y else (1000000 : Int64)) < ((-1000000) : Int64) then ((-1000000) : Int64) else (if y < (1000000 : Int64) then y else (1000000 : Int64)))
def VB (x : Int32) : Prop := -1000000 ≤ x.toInt ∧ x.toInt ≤ 1000000
theorem wth_v (y : Int64) : VB (wthI y) := by
  have h1 : (1000000 : Int64).toInt = 1000000 := by decide
  have h2 : ((-1000000) : Int64).toInt = -1000000 := by decide
  have key : ∀ z : Int64, -1000000 ≤ z.toInt → z.toInt ≤ 1000000 → VB z.toInt32 := fun z a b => by
    unfold VB
    rw [Int64.toInt_toInt32, Int.bmod_eq_of_le (by omega) (by omega)]
    exact ⟨a, b⟩
  unfold wthI
  by_cases c1 : y < 1000000
  · rw [if_pos c1]
    by_cases c2 : y < -1000000
    · rw [if_pos c2]; exact key _ (by omega) (by omega)
    · rw [if_neg c2]
      rw [fa_lt64] at c1 c2
      exact key _ (by omega) (by omega)
  · rw [if_neg c1, if_neg (by decide)]; exact key _ (by omega) (by omega)
theorem VB_n {v : Nat} (h : v ≤ 1000000) : VB (nI v) := by
  unfold VB; rw [nI_toInt (by omega)]; omega
/-- two joined by a sign -/
def jn (y a b : Int32) : Int32 := if y = (-18) then a &&& b else if y = (-17) then (if a ≤ b then (0 : Int32) else 1) else if y = (-16) then (if b ≤ a then (0 : Int32) else 1) else if y = (-15) then (if a = b then (1 : Int32) else 0) else if y = (-14) then (if b = 0 then 0 else wthI (Int32.toInt64 (a / b))) else if y = (-13) then wthI (Int32.toInt64 a * Int32.toInt64 b) else if y = (-12) then wthI (Int32.toInt64 (a - b)) else if y = (-11) then wthI (Int32.toInt64 (a + b)) else a ||| b
theorem la_join {N : Nat} {y a b : Int32} {μ : MM} : f_La_join N y a b μ = some (jn y a b, μ) := by
  unfold f_La_join jn
  by_cases h1 : y = -18
  · rw [if_pos h1, if_pos h1]
  · rw [if_neg h1, if_neg h1]
    by_cases h2 : y = -17
    · rw [if_pos h2, if_pos h2]
    · rw [if_neg h2, if_neg h2]
      by_cases h3 : y = -16
      · rw [if_pos h3, if_pos h3]
      · rw [if_neg h3, if_neg h3]
        by_cases h4 : y = -15
        · rw [if_pos h4, if_pos h4]
        · rw [if_neg h4, if_neg h4]
          by_cases h5 : y = -14
          · rw [if_pos h5, if_pos h5]
            by_cases h0 : b = 0
            · rw [if_pos h0, if_pos h0]
            · rw [if_neg h0, if_neg h0, gd_t (by unfold nzi; simpa using h0)]; rfl
          · rw [if_neg h5, if_neg h5]
            by_cases h6 : y = -13
            · rw [if_pos h6, if_pos h6]; rfl
            · rw [if_neg h6, if_neg h6]
              by_cases h7 : y = -12
              · rw [if_pos h7, if_pos h7]; rfl
              · rw [if_neg h7, if_neg h7]
                by_cases h8 : y = -11
                · rw [if_pos h8, if_pos h8]; rfl
                · rw [if_neg h8, if_neg h8]
def WP (μ : MM) (hh r sz : Nat) (L : Nat → Int32) : Prop := μ.1 34 1 = nI hh ∧ hh < 4 ∧ r = 37 + hh ∧ μ.1 41 hh = nI sz ∧ sz ≤ 240 ∧ ∀ i, i < 6 → μ.1 35 i = L i
theorem WP_of {μ μ' : MM} {hh r sz : Nat} {L : Nat → Int32} (h : WP μ hh r sz L) (he : ∀ a, a ≠ 42 → μ'.1 a = μ.1 a) : WP μ' hh r sz L := by
  unfold WP at h ⊢
  rw [he 34 (by decide), he 41 (by decide), he 35 (by decide)]; exact h
def EV0 (cs : List Int32) (f : (Nat → Int32) → Int32) (k : Nat) : Prop := ∀ (N fu : Nat) (μ : MM) (hh r sz h i : Nat) (L : Nat → Int32), LO L → WP μ hh r sz L → i + cs.length ≤ sz → h + k ≤ 32 → (∀ j, j < cs.length → μ.1 r (i + j) = cs.getD j 0) →
  ∃ μ', f_La_worth_L34 N (fu + cs.length) r (nI h) (nI i) μ = f_La_worth_L34 N fu r (nI (h + 1)) (nI (i + cs.length)) μ' ∧ (∀ a, a ≠ 42 → μ'.1 a = μ.1 a) ∧ μ'.2 = μ.2 ∧ (∀ x, x < h → μ'.1 42 x = μ.1 42 x) ∧ μ'.1 42 h = f L
theorem EV0_k {cs : List Int32} {f : (Nat → Int32) → Int32} {k k' : Nat} (h : EV0 cs f k) (hk : k ≤ k') : EV0 cs f k' := fun N fu μ hh r sz a i L h1 h2 h3 h4 h5 => h N fu μ hh r sz a i L h1 h2 h3 (by omega) h5
theorem EV0_f {cs : List Int32} {f f' : (Nat → Int32) → Int32} {k : Nat} (h : EV0 cs f k) (hf : ∀ L, LO L → f' L = f L) : EV0 cs f' k := fun N fu μ hh r sz a i L h1 h2 h3 h4 h5 => by
  obtain ⟨μ', b1, b2, b3, b4, b5⟩ := h N fu μ hh r sz a i L h1 h2 h3 h4 h5
  exact ⟨μ', b1, b2, b3, b4, b5.trans (hf L h1).symm⟩
/-- a step begins -/
theorem wo_0 {N fu : Nat} {μ : MM} {hh r sz h i : Nat} {L : Nat → Int32} (hw : WP μ hh r sz L) (hi : i < sz) : f_La_worth_L34 N (fu + 1) r (nI h) (nI i) μ = (if (μ.1 r i) = (-22) then (some ((μ.1 42 0), μ))
    else (if (μ.1 r i) = (-21) then (if (μ.1 42 0) = 0 then (ob (f_La_clauseEnd N (nI i) μ) fun t86 μ5z => (f_La_worth_L34 N fu r 0 (t86 + 1) μ5z))
    else (f_La_worth_L34 N fu r 0 (nI (i + 1)) μ))
    else (if (μ.1 r i) < (-6) then (if (μ.1 r i) = (-20) then (if 1 ≤ nI h then (gd (inb (nI h - 1) 32) (gd (inb (nI h - 1) 32) (wr (mm_I μ 42 (Int32.toNatClampNeg (nI h - 1)) (1 - (μ.1 42 (Int32.toNatClampNeg (nI h - 1))))) fun μ3z => (f_La_worth_L34 N fu r (nI h) (nI (i + 1)) μ3z))))
    else (some (0, μ)))
    else (if 2 ≤ nI h then (gd (inb ((nI h + (-1)) - 1) 32) (gd (inb (nI h + (-1)) 32) (ob (f_La_join N (μ.1 r i) (μ.1 42 (Int32.toNatClampNeg ((nI h + (-1)) - 1))) (μ.1 42 (Int32.toNatClampNeg (nI h + (-1)))) μ) fun t211 μ1z => (gd (inb ((nI h + (-1)) - 1) 32) (wr (mm_I μ1z 42 (Int32.toNatClampNeg ((nI h + (-1)) - 1)) t211) fun μ2z => (f_La_worth_L34 N fu r (nI h + (-1)) (nI (i + 1)) μ2z))))))
    else (some (0, μ))))
    else (if nI h < 32 then (if (μ.1 r i) < 0 then (gd (inb ((-1) - (μ.1 r i)) 6) (f_La_worth_B135 N (f_La_worth_L34 N fu) r (nI h) (nI i) (nI h) (μ.1 35 (Int32.toNatClampNeg ((-1) - (μ.1 r i)))) μ))
    else (f_La_worth_B135 N (f_La_worth_L34 N fu) r (nI h) (nI i) (nI h) (μ.1 r i) μ))
    else (some (0, μ)))))) := by
  obtain ⟨w1, w2, w3, w4, w5, w6⟩ := hw
  rw [f_La_worth_L34, w1, gd_in w2 (by omega), nI_clamp (by omega), w4, if_neg (fun z => by have := (nI_leI (by omega) (by omega)).mp z; omega), gd_in (by omega) (by omega), nI_clamp (by omega), l_1, nI_add]
theorem wo_push {N fu : Nat} {μ : MM} {hh r sz h i v : Nat} {L : Nat → Int32} (hw : WP μ hh r sz L) (hi : i < sz) (hh2 : h < 32) (hv : v ≤ 9999) (hc : μ.1 r i = nI v) : f_La_worth_L34 N (fu + 1) r (nI h) (nI i) μ = f_La_worth_L34 N fu r (nI (h + 1)) (nI (i + 1)) (mm_I μ 42 h (nI v)) := by
  have hp : (0 : Int32) ≤ nI v := (nI_leI (a := 0) (by decide) (by omega)).mpr (by omega)
  have h0 : ∀ z : Int32, z < 0 → ¬ nI v = z := fun z hz e => by rw [e] at hp; exact (fa_of_lt hz).2.1 hp
  rw [wo_0 hw hi, hc, if_neg (h0 _ (by decide)), if_neg (h0 _ (by decide)), if_neg (show ¬ nI v < -6 from fun z => (fa_of_lt (fa_trans z (show (-6 : Int32) ≤ 0 by decide))).2.1 hp), if_pos (show nI h < 32 from (nI_ltI (b := 32) (by omega) (by decide)).mpr hh2), if_neg (show ¬ nI v < 0 from fun z => (fa_of_lt z).2.1 hp)]
  unfold f_La_worth_B135
  rw [gd_in hh2 (by decide), nI_clamp (by omega), wr_e, l_1, nI_add, nI_add]
def lcI (j : Nat) : Int32 := (-1) - nI j
theorem lc_f : ∀ j, j < 6 → lcI j < 0 ∧ ¬ lcI j = -22 ∧ ¬ lcI j = -21 ∧ ¬ lcI j < -6 ∧ (-1) - lcI j = nI j := by decide
theorem wo_let {N fu : Nat} {μ : MM} {hh r sz h i j : Nat} {L : Nat → Int32} (hw : WP μ hh r sz L) (hi : i < sz) (hh2 : h < 32) (hj : j < 6) (hc : μ.1 r i = lcI j) : f_La_worth_L34 N (fu + 1) r (nI h) (nI i) μ = f_La_worth_L34 N fu r (nI (h + 1)) (nI (i + 1)) (mm_I μ 42 h (L j)) := by
  obtain ⟨f1, f2, f3, f4, f5⟩ := lc_f j hj
  rw [wo_0 hw hi, hc, if_neg f2, if_neg f3, if_neg f4, if_pos (show nI h < 32 from (nI_ltI (b := 32) (by omega) (by decide)).mpr hh2), if_pos f1, f5, gd_in hj (by decide), nI_clamp (by omega), hw.2.2.2.2.2 j hj]
  unfold f_La_worth_B135
  rw [gd_in hh2 (by decide), nI_clamp (by omega), wr_e, l_1, nI_add, nI_add]
theorem wo_no {N fu : Nat} {μ : MM} {hh r sz h i : Nat} {L : Nat → Int32} (hw : WP μ hh r sz L) (hi : i < sz) (hh2 : h < 32) (hc : μ.1 r i = -20) : f_La_worth_L34 N (fu + 1) r (nI (h + 1)) (nI i) μ = f_La_worth_L34 N fu r (nI (h + 1)) (nI (i + 1)) (mm_I μ 42 h (1 - μ.1 42 h)) := by
  rw [wo_0 hw hi, hc, if_neg (by decide), if_neg (by decide), if_pos (by decide), if_pos rfl, if_pos (show (1 : Int32) ≤ nI (h + 1) from (nI_leI (a := 1) (by decide) (by omega)).mpr (by omega)), show nI (h + 1) - 1 = nI h from pk_sub (a := h + 1) (b := 1) (by omega), gd_in hh2 (by decide), gd_in hh2 (by decide), nI_clamp (by omega), wr_e]
def isB (y : Int32) : Prop := y < -6 ∧ ¬ y = -20 ∧ ¬ y = -21 ∧ ¬ y = -22
theorem wo_bin {N fu : Nat} {μ : MM} {hh r sz h i : Nat} {L : Nat → Int32} {y : Int32} (hw : WP μ hh r sz L) (hi : i < sz) (hh2 : h + 1 < 32) (hy : isB y) (hc : μ.1 r i = y) : f_La_worth_L34 N (fu + 1) r (nI (h + 2)) (nI i) μ = f_La_worth_L34 N fu r (nI (h + 1)) (nI (i + 1)) (mm_I μ 42 h (jn y (μ.1 42 h) (μ.1 42 (h + 1)))) := by
  obtain ⟨y1, y2, y3, y4⟩ := hy
  have e1 : nI (h + 2) + (-1) = nI (h + 1) := dn_s (h + 2)
  rw [wo_0 hw hi, hc, if_neg y4, if_neg y3, if_pos y1, if_neg y2, if_pos (show (2 : Int32) ≤ nI (h + 2) from (nI_leI (a := 2) (by decide) (by omega)).mpr (by omega)), e1, show nI (h + 1) - 1 = nI h from pk_sub (a := h + 1) (b := 1) (by omega), gd_in (by omega) (by decide), gd_in (by omega) (by decide), nI_clamp (by omega), nI_clamp (by omega), la_join, ob_e, gd_in (by omega) (by decide), wr_e]
theorem EV0_num {v : Nat} (hv : v ≤ 9999) : EV0 [nI v] (fun _ => nI v) 1 := by
  intro N fu μ hh r sz h i L h1 h2 h3 h4 h5
  have h3' : i + 1 ≤ sz := h3
  have hc := h5 0 (by show 0 < 1; omega)
  rw [Nat.add_zero] at hc
  refine ⟨mm_I μ 42 h (nI v), wo_push h2 (by omega) (by omega) hv hc, fun a ha => gI_o ha, rfl, fun x hx => by rw [gI_s, if_neg (by omega)], by rw [gI_s, if_pos rfl]⟩
theorem EV0_let {j : Nat} (hj : j < 6) : EV0 [lcI j] (fun L => L j) 1 := by
  intro N fu μ hh r sz h i L h1 h2 h3 h4 h5
  have h3' : i + 1 ≤ sz := h3
  have hc := h5 0 (by show 0 < 1; omega)
  rw [Nat.add_zero] at hc
  refine ⟨mm_I μ 42 h (L j), wo_let h2 (by omega) (by omega) hj hc, fun a ha => gI_o ha, rfl, fun x hx => by rw [gI_s, if_neg (by omega)], by rw [gI_s, if_pos rfl]⟩
theorem gd_l {a b : List Int32} {j : Nat} (h : j < a.length) : (a ++ b).getD j 0 = a.getD j 0 := by
  rw [List.getD_eq_getElem?_getD, List.getD_eq_getElem?_getD, List.getElem?_append_left h]
theorem gd_r {a b : List Int32} {j : Nat} : (a ++ b).getD (a.length + j) 0 = b.getD j 0 := by
  rw [List.getD_eq_getElem?_getD, List.getD_eq_getElem?_getD, List.getElem?_append_right (by omega), Nat.add_sub_cancel_left]
theorem EV0_bin {c1 c2 : List Int32} {f1 f2 : (Nat → Int32) → Int32} {k1 k2 k : Nat} {y : Int32} (e1 : EV0 c1 f1 k1) (e2 : EV0 c2 f2 k2) (hk1 : k1 ≤ k) (hk2 : k2 + 1 ≤ k) (hk3 : 2 ≤ k) (hy : isB y) : EV0 (c1 ++ c2 ++ [y]) (fun L => jn y (f1 L) (f2 L)) k := by
  intro N fu μ hh r sz h i L h1 h2 h3 h4 h5
  have hlen : (c1 ++ c2 ++ [y]).length = c1.length + c2.length + 1 := by simp; omega
  rw [hlen] at h3 h5 ⊢
  obtain ⟨m1, a1, a2, a3, a4, a5⟩ := e1 N (fu + (c2.length + 1)) μ hh r sz h i L h1 h2 (by omega) (by omega) (fun j hj => by
    rw [h5 j (by omega), List.append_assoc, gd_l hj])
  have w1 := WP_of h2 a2
  have hr : r ≠ 42 := by have := h2.2.2.1; have := h2.2.1; omega
  obtain ⟨m2, b1, b2, b3, b4, b5⟩ := e2 N (fu + 1) m1 hh r sz (h + 1) (i + c1.length) L h1 w1 (by omega) (by omega) (fun j hj => by
    rw [a2 r hr, Nat.add_assoc, h5 _ (by omega), List.append_assoc, gd_r, gd_l hj])
  have w2 := WP_of w1 b2
  have hc : m2.1 r (i + c1.length + c2.length) = y := by
    rw [b2 r hr, a2 r hr, Nat.add_assoc, h5 _ (by omega), show c1.length + c2.length = (c1 ++ c2).length + 0 by simp, gd_r]; rfl
  refine ⟨mm_I m2 42 h (jn y (f1 L) (f2 L)), ?_, fun a ha => by rw [gI_o ha, b2 a ha, a2 a ha], by rw [gI2, b3, a3], fun x hx => by rw [gI_s, if_neg (by omega), b4 x (by omega), a4 x hx], by rw [gI_s, if_pos rfl]⟩
  rw [show fu + (c1.length + c2.length + 1) = fu + (c2.length + 1) + c1.length by omega, a1, show fu + (c2.length + 1) = fu + 1 + c2.length by omega, b1, wo_bin w2 (by omega) (by omega) hy hc, b4 h (by omega), a5, b5, show i + (c1.length + c2.length + 1) = i + c1.length + c2.length + 1 by omega]
theorem EV0_no {c1 : List Int32} {f1 : (Nat → Int32) → Int32} {k : Nat} (e1 : EV0 c1 f1 k) (hk : 1 ≤ k) : EV0 (c1 ++ [-20]) (fun L => 1 - f1 L) k := by
  intro N fu μ hh r sz h i L h1 h2 h3 h4 h5
  have hlen : (c1 ++ [-20]).length = c1.length + 1 := by simp
  rw [hlen] at h3 h5 ⊢
  obtain ⟨m1, a1, a2, a3, a4, a5⟩ := e1 N (fu + 1) μ hh r sz h i L h1 h2 (by omega) (by omega) (fun j hj => by
    rw [h5 j (by omega), gd_l hj])
  have w1 := WP_of h2 a2
  have hr : r ≠ 42 := by have := h2.2.2.1; have := h2.2.1; omega
  have hc : m1.1 r (i + c1.length) = -20 := by
    rw [a2 r hr, h5 _ (by omega), show c1.length = c1.length + 0 by omega, gd_r]; rfl
  refine ⟨mm_I m1 42 h (1 - f1 L), ?_, fun a ha => by rw [gI_o ha, a2 a ha], by rw [gI2, a3], fun x hx => by rw [gI_s, if_neg (by omega), a4 x hx], by rw [gI_s, if_pos rfl]⟩
  rw [show fu + (c1.length + 1) = fu + 1 + c1.length by omega, a1, wo_no w1 (by omega) (by omega) hc, a5, show i + (c1.length + 1) = i + c1.length + 1 by omega]
/-- no clause ends inside -/
def NG (cs : List Int32) : Prop := ∀ x, x ∈ cs → ¬ x = -22
theorem NG_app {a b : List Int32} (ha : NG a) (hb : NG b) : NG (a ++ b) := fun x hx => by
  rcases List.mem_append.mp hx with h | h
  · exact ha x h
  · exact hb x h
theorem NG_one {y : Int32} (h : ¬ y = -22) : NG [y] := fun x hx => by
  rw [List.mem_singleton.mp hx]; exact h
def EV (cs : List Int32) (f : (Nat → Int32) → Int32) (k : Nat) : Prop := NG cs ∧ EV0 cs f k
theorem EV_k {cs : List Int32} {f : (Nat → Int32) → Int32} {k k' : Nat} (h : EV cs f k) (hk : k ≤ k') : EV cs f k' := ⟨h.1, EV0_k h.2 hk⟩
theorem EV_f {cs : List Int32} {f f' : (Nat → Int32) → Int32} {k : Nat} (h : EV cs f k) (hf : ∀ L, LO L → f' L = f L) : EV cs f' k := ⟨h.1, EV0_f h.2 hf⟩
theorem nI_n22 : ∀ v, v < 2 ^ 31 → ¬ nI v = -22 := fun v hv z => by
  have h2 : (0 : Int32) ≤ nI v := (nI_leI (a := 0) (by decide) hv).mpr (by omega)
  rw [z] at h2; exact absurd h2 (by decide)
theorem EV_num {v : Nat} (hv : v ≤ 9999) : EV [nI v] (fun _ => nI v) 1 := ⟨NG_one (nI_n22 v (by omega)), EV0_num hv⟩
theorem EV_let {j : Nat} (hj : j < 6) : EV [lcI j] (fun L => L j) 1 := ⟨NG_one (lc_f j hj).2.1, EV0_let hj⟩
theorem EV_bin {c1 c2 : List Int32} {f1 f2 : (Nat → Int32) → Int32} {k1 k2 k : Nat} {y : Int32} (e1 : EV c1 f1 k1) (e2 : EV c2 f2 k2) (hk1 : k1 ≤ k) (hk2 : k2 + 1 ≤ k) (hk3 : 2 ≤ k) (hy : isB y) : EV (c1 ++ c2 ++ [y]) (fun L => jn y (f1 L) (f2 L)) k := ⟨NG_app (NG_app e1.1 e2.1) (NG_one hy.2.2.2), EV0_bin e1.2 e2.2 hk1 hk2 hk3 hy⟩
theorem EV_no {c1 : List Int32} {f1 : (Nat → Int32) → Int32} {k : Nat} (e1 : EV c1 f1 k) (hk : 1 ≤ k) : EV (c1 ++ [-20]) (fun L => 1 - f1 L) k := ⟨NG_app e1.1 (NG_one (by decide)), EV0_no e1.2 hk⟩
