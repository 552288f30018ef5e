/-! ===== string constants ===== -/
def SC (sx len : Nat) : Prop := sh_n (sx + 1000) = len ∧ len ≤ 60 ∧ ∀ k, k < len → ∃ v, v < 128 ∧ st_I (sx + 1000) k = nI v
def spX (sx len : Nat) (x : Int32) : Option Nat := fi (fun k => decide (st_I (sx + 1000) k = x)) len 0
theorem SC_mk {sx len : Nat} (h1 : sh_n (sx + 1000) = len) (h2 : len ≤ 60) (h3 : ∀ k, k < len → (st_I (sx + 1000) k).toNatClampNeg < 128 ∧ st_I (sx + 1000) k = nI (st_I (sx + 1000) k).toNatClampNeg) : SC sx len := ⟨h1, h2, fun k hk => ⟨_, (h3 k hk).1, (h3 k hk).2⟩⟩
theorem sc_2000 : SC 2000 6 := SC_mk (by decide +kernel) (by decide) (by decide +kernel)
theorem sc_2001 : SC 2001 2 := SC_mk (by decide +kernel) (by decide) (by decide +kernel)
theorem sc_2002 : SC 2002 1 := SC_mk (by decide +kernel) (by decide) (by decide +kernel)
theorem sc_2003 : SC 2003 3 := SC_mk (by decide +kernel) (by decide) (by decide +kernel)
theorem sc_2005 : SC 2005 1 := SC_mk (by decide +kernel) (by decide) (by decide +kernel)
theorem sc_2006 : SC 2006 6 := SC_mk (by decide +kernel) (by decide) (by decide +kernel)
theorem sc_2007 : SC 2007 2 := SC_mk (by decide +kernel) (by decide) (by decide +kernel)
theorem sc_2008 : SC 2008 1 := SC_mk (by decide +kernel) (by decide) (by decide +kernel)
theorem sc_2009 : SC 2009 6 := SC_mk (by decide +kernel) (by decide) (by decide +kernel)
theorem sc_2010 : SC 2010 3 := SC_mk (by decide +kernel) (by decide) (by decide +kernel)
theorem sc_2011 : SC 2011 8 := SC_mk (by decide +kernel) (by decide) (by decide +kernel)
theorem st_len {N sx len : Nat} {μ : MM} (h : SC sx len) : f_St_length_8abf5 N sx μ = some (nI len, μ) := by
  obtain ⟨h1, h2, -⟩ := h
  unfold f_St_length_8abf5 f_St_coder_7d493
  rw [if_neg (show ¬ (1 : Int32) = 0 by decide), gd_t (by decide), ob_e, h1, show Int32.ofNat len = nI len from rfl, pk_shrN (by omega) _ 0 (by decide), Nat.pow_zero, Nat.div_one]
theorem ch_e : ∀ v, v < 128 → (Int32.toUInt32 (nI v &&& 255) % 65536).toInt32 = nI v ∧ zc (nI v) = true := by decide +kernel
theorem st_chr {N sx len k : Nat} {μ : MM} (h : SC sx len) (hk : k < len) : f_St_charAt_5068e N sx (nI k) μ = some (st_I (sx + 1000) k, μ) := by
  obtain ⟨h1, h2, h3⟩ := h
  obtain ⟨v, hv, ev⟩ := h3 k hk
  obtain ⟨c1, c2⟩ := ch_e v hv
  unfold f_St_charAt_5068e f_St_isLatin1_aae02
  rw [if_neg (show ¬ (1 : Int32) = 0 by decide), if_pos (show (0 : Int32) = 0 from rfl), ob_e, if_neg (show ¬ (1 : Int32) = 0 by decide)]
  unfold f_Sl_charAt_3b067 f_St_checkIndex_df160 f_Pr_checkIndex_8e157
  rw [h1, if_neg (nI_pos (by omega)), if_pos (show nI k < Int32.ofNat len from (nI_ltI (by omega) (by omega)).mpr hk), ob_e, obv_e, gd_in hk (by omega), nI_clamp (by omega), ev, c1, ob_e, gd_t c2]
theorem mo_among {N sx len : Nat} {x : Int32} {μ : MM} (hN : 15000 ≤ N) (h : SC sx len) : f_Mo_isAmong N sx x μ = some (bI (spX sx len x).isSome, μ) := by
  have hl := h.2.1
  have key := lpi (fun fu k => f_Mo_isAmong_L2 N sx fu x (nI k) μ) len (fun k => decide (st_I (sx + 1000) k = x)) (some (nI 0, μ)) (fun _ => some (nI 1, μ)) (fun fu => by
      show f_Mo_isAmong_L2 N sx (fu + 1) x (nI len) μ = _
      rw [f_Mo_isAmong_L2, st_len h, ob_e, if_pos ((nI_leI (by omega) (by omega)).mpr (Nat.le_refl _))]; rfl) (fun fu k hk => by
      show f_Mo_isAmong_L2 N sx (fu + 1) x (nI k) μ = _
      rw [f_Mo_isAmong_L2, st_len h, ob_e, if_neg (fun z => by have := (nI_leI (by omega) (by omega)).mp z; omega), st_chr h hk, ob_e, l_1, nI_add]
      simp only [decide_eq_true_eq]) len 0 N (by omega) (by omega)
  unfold f_Mo_isAmong
  refine key.trans ?_
  unfold spX
  cases fi _ len 0 <;> rfl
theorem mo_spot {N sx len : Nat} {x : Int32} {μ : MM} (hN : 15000 ≤ N) (h : SC sx len) : f_Mo_spotOf N sx x μ = some (oI (spX sx len x), μ) := by
  have hl := h.2.1
  have key := lpi (fun fu k => f_Mo_spotOf_L2 N sx fu x (nI k) μ) len (fun k => decide (st_I (sx + 1000) k = x)) (some (-nI 1, μ)) (fun k => some (nI k, μ)) (fun fu => by
      show f_Mo_spotOf_L2 N sx (fu + 1) x (nI len) μ = _
      rw [f_Mo_spotOf_L2, st_len h, ob_e, if_pos ((nI_leI (by omega) (by omega)).mpr (Nat.le_refl _))]; rfl) (fun fu k hk => by
      show f_Mo_spotOf_L2 N sx (fu + 1) x (nI k) μ = _
      rw [f_Mo_spotOf_L2, st_len h, ob_e, if_neg (fun z => by have := (nI_leI (by omega) (by omega)).mp z; omega), st_chr h hk, ob_e, l_1, nI_add]
      simp only [decide_eq_true_eq]) len 0 N (by omega) (by omega)
  unfold f_Mo_spotOf
  refine key.trans ?_
  unfold spX
  cases fi _ len 0 <;> rfl
theorem s8_neg : ∀ v, v < 256 → 128 ≤ v → (nI v).toInt8.toInt32 < 0 := by decide +kernel
theorem s8_eq {y v : Nat} (hy : y < 256) (hv : v < 128) : (nI v = (nI y).toInt8.toInt32) = (nI v = nI y) := by
  by_cases h : y < 128
  · rw [s8_v y h]
  · have h1 := s8_neg y hy (by omega)
    refine propext ⟨fun e => ?_, fun e => ?_⟩
    · rw [← e] at h1; exact absurd h1 (nI_pos (by omega))
    · have := (nI_eq (by omega) (by omega)).mp e; omega
theorem c16 : ∀ y, y < 256 → (Int32.toUInt32 (nI y) % 65536).toInt32 = nI y := by decide +kernel
theorem st_idx {N sx len y : Nat} {μ : MM} (hN : 15000 ≤ N) (h : SC sx len) (h0 : 0 < len) (hy : y < 256) : f_St_indexOf_0f7a4 N sx ((Int32.toUInt32 (nI y) % 65536).toInt32) μ = some (oI (spX sx len (nI y)), μ) := by
  obtain ⟨h1, hl, h3⟩ := id h
  have key := lpi (fun fu k => f_Sl_indexOfChar_4cfef_L7 N (sx + 1000) fu (nI len) ((nI y).toInt8.toInt32) (nI k) μ) len (fun k => decide (st_I (sx + 1000) k = nI y)) (some (-nI 1, μ)) (fun k => some (nI k, μ)) (fun fu => by
      show f_Sl_indexOfChar_4cfef_L7 N (sx + 1000) (fu + 1) _ _ (nI len) μ = _
      rw [f_Sl_indexOfChar_4cfef_L7, if_pos ((nI_leI (by omega) (by omega)).mpr (Nat.le_refl _))]; rfl) (fun fu k hk => by
      obtain ⟨v, hv, ev⟩ := h3 k hk
      show f_Sl_indexOfChar_4cfef_L7 N (sx + 1000) (fu + 1) _ _ (nI k) μ = _
      rw [f_Sl_indexOfChar_4cfef_L7, if_neg (fun z => by have := (nI_leI (by omega) (by omega)).mp z; omega), h1, gd_in hk (by omega), nI_clamp (by omega), ev, l_1, nI_add]
      by_cases e : nI v = nI y
      · rw [if_pos (by rw [s8_eq hy hv]; exact e), decide_eq_true e, if_pos rfl]
      · rw [if_neg (by rw [s8_eq hy hv]; exact e), decide_eq_false e, if_neg (by decide)]) len 0 N (by omega) (by omega)
  unfold f_St_indexOf_0f7a4 f_St_indexOf_7cf53 f_St_isLatin1_aae02
  rw [if_neg (show ¬ (1 : Int32) = 0 by decide), if_pos (show (0 : Int32) = 0 from rfl), ob_e, if_neg (show ¬ (1 : Int32) = 0 by decide), st_len h, ob_e, c16 y hy]
  unfold f_Sl_indexOf_4cfef f_Sl_canEncode_9a6ad
  rw [if_neg (nI_pos (by omega)), if_neg (show ¬ (255 : Int32) < nI y from fun z => by have := (nI_ltI (a := 255) (b := y) (by omega) (by omega)).mp z; omega), ob_e, if_neg (show ¬ (1 : Int32) = 0 by decide), h1, if_neg (show ¬ (0 : Int32) < 0 by decide), if_neg (show ¬ Int32.ofNat len < nI len from fun z => by have := (nI_ltI (a := len) (b := len) (by omega) (by omega)).mp z; omega), if_pos (show (0 : Int32) < nI len from (nI_ltI (a := 0) (by omega) (by omega)).mpr h0)]
  unfold f_Sl_indexOfChar_4cfef
  have k2 : f_Sl_indexOfChar_4cfef_L7 N (sx + 1000) N (nI len) ((nI y).toInt8.toInt32) 0 μ = some (oI (spX sx len (nI y)), μ) := by
    refine key.trans ?_
    unfold spX
    cases fi _ len 0 <;> rfl
  rw [k2, ob_e, ob_e, ob_e]
theorem sp_some {sx len j : Nat} {x : Int32} (h : spX sx len x = some j) : j < len ∧ st_I (sx + 1000) j = x := by
  obtain ⟨-, h2, h3⟩ := fi_some h
  exact ⟨by omega, by simpa using h3⟩
theorem sp_m1 {sx len : Nat} (h : SC sx len) : spX sx len (-nI 1) = none := by
  cases e : spX sx len (-nI 1) with
  | none => rfl
  | some j =>
    obtain ⟨h1, h2⟩ := sp_some e
    obtain ⟨v, hv, ev⟩ := h.2.2 j h1
    rw [ev, m_eq (by omega)] at h2
    exact h2.elim
theorem sp_eq {s1 s2 len : Nat} (h : ∀ k, k < len → st_I (s1 + 1000) k = st_I (s2 + 1000) k) (x : Int32) : spX s1 len x = spX s2 len x := fi_congr (fun j _ hj => by rw [h j (by omega)])
/-- a law's letter -/
theorem sp_let (x : Int32) : spX 2000 6 x = spX 2006 6 x := sp_eq (by decide +kernel) x
theorem st_let : ∀ j, j < 6 → st_I 3000 j = nI (ltC j) ∧ ltC j < 128 := by decide +kernel
