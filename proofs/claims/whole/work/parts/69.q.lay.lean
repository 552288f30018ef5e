/-! ===== text: the model lays the cards ===== -/
theorem lays_l {N x z : Nat} {ink : Int32} (hx : x < 6) (hz : z ≤ 6) : ∀ e k fu m, k + e = z → e < fu → ∃ m', f_Mo_lays_L18 N 368 365 fu (nI x) (nI (16 * x + 3)) ink (nI z) (nI k) m = some m' ∧ (∀ i, i ≠ 368 → m'.1 i = m.1 i) ∧ m'.2 = m.2 ∧ (∀ j, j < 20 * x + 2 + 3 * k ∨ 20 * x + 2 + 3 * z ≤ j → m'.1 368 j = m.1 368 j) ∧ (∀ i, k ≤ i → i < z → m'.1 368 (20 * x + 2 + 3 * i) = m.1 365 (16 * x + 4 + 2 * i) ∧ m'.1 368 (20 * x + 3 + 3 * i) = m.1 365 (16 * x + 5 + 2 * i) ∧ m'.1 368 (20 * x + 4 + 3 * i) = ink) := by
  have n365 : sh_n 365 = 96 := by decide +kernel
  have n368 : sh_n 368 = 304 := by decide +kernel
  intro e
  induction e with
  | zero =>
    intro k fu m hk hfu
    obtain ⟨fu, rfl⟩ : ∃ z, fu = z + 1 := ⟨fu - 1, by omega⟩
    have hk' : k = z := by omega
    subst hk'
    exact ⟨m, by rw [f_Mo_lays_L18, if_pos ((nI_leI (by omega) (by omega)).mpr (Nat.le_refl _))], fun _ _ => rfl, rfl, fun _ _ => rfl, fun i h1 h2 => absurd h2 (by omega)⟩
  | succ e ih =>
    intro k fu m hk hfu
    obtain ⟨fu, rfl⟩ : ∃ z, fu = z + 1 := ⟨fu - 1, by omega⟩
    have i1 : nI (16 * x + 3) + 1 + 2 * nI k = nI (16 * x + 4 + 2 * k) := by
      rw [show 2 * nI k = nI (2 * k) from (Int32.ofNat_mul 2 k).symm, show nI (16 * x + 3) + 1 = nI (16 * x + 4) from nI_add _ 1, nI_add]
    have i2 : nI (16 * x + 3) + 2 + 2 * nI k = nI (16 * x + 5 + 2 * k) := by
      rw [show 2 * nI k = nI (2 * k) from (Int32.ofNat_mul 2 k).symm, show nI (16 * x + 3) + 2 = nI (16 * x + 5) from nI_add _ 2, nI_add]
    have j1 : ∀ q, 20 * nI x + nI q + 3 * nI k = nI (20 * x + q + 3 * k) := fun q => by
      rw [show 3 * nI k = nI (3 * k) from (Int32.ofNat_mul 3 k).symm, show 20 * nI x = nI (20 * x) from (Int32.ofNat_mul 20 x).symm, nI_add, nI_add]
    have j2 : 20 * nI x + 2 + 3 * nI k = nI (20 * x + 2 + 3 * k) := j1 2
    have j3 : 20 * nI x + 3 + 3 * nI k = nI (20 * x + 3 + 3 * k) := j1 3
    have j4 : 20 * nI x + 4 + 3 * nI k = nI (20 * x + 4 + 3 * k) := j1 4
    generalize hm1 : mm_I (mm_I (mm_I m 368 (20 * x + 2 + 3 * k) (m.1 365 (16 * x + 4 + 2 * k))) 368 (20 * x + 3 + 3 * k) (m.1 365 (16 * x + 5 + 2 * k))) 368 (20 * x + 4 + 3 * k) ink = m1
    obtain ⟨m', a1, a2, a3, a4, a5⟩ := ih (k + 1) fu m1 (by omega) (by omega)
    have o1 : ∀ i, i ≠ 368 → m1.1 i = m.1 i := fun i hi => by rw [← hm1, gI_o hi, gI_o hi, gI_o hi]
    have o2 : m1.2 = m.2 := by rw [← hm1]; rfl
    refine ⟨m', ?_, fun i hi => by rw [a2 i hi, o1 i hi], by rw [a3, o2], fun j hj => by rw [a4 j (by omega), ← hm1, gI_s, if_neg (by omega), gI_s, if_neg (by omega), gI_s, if_neg (by omega)], fun i h1 h2 => ?_⟩
    · rw [f_Mo_lays_L18, if_neg (fun z => by have := (nI_leI (by omega) (by omega)).mp z; omega), i1, i2, j2, j3, j4, n365, n368, gd_in (by omega) (by decide), gd_in (by omega) (by decide), nI_clamp (by omega), nI_clamp (by omega), wr_e, gd_in (by omega) (by decide), gd_in (by omega) (by decide), nI_clamp (by omega), nI_clamp (by omega), gI_o (by decide), wr_e, gd_in (by omega) (by decide), nI_clamp (by omega), wr_e, hm1, show nI k + 1 = nI (k + 1) from nI_add k 1, a1]
    · by_cases ei : i = k
      · subst ei
        refine ⟨?_, ?_, ?_⟩
        · rw [a4 _ (by omega), ← hm1, gI_s, if_neg (by omega), gI_s, if_neg (by omega), gI_s, if_pos rfl]
        · rw [a4 _ (by omega), ← hm1, gI_s, if_neg (by omega), gI_s, if_pos rfl]
        · rw [a4 _ (by omega), ← hm1, gI_s, if_pos rfl]
      · obtain ⟨b1, b2, b3⟩ := a5 i (by omega) h2
        rw [o1 365 (by decide)] at b1 b2
        exact ⟨b1, b2, b3⟩
/-- a card of the row of now is as the cards say -/
def crd (F g : Nat → Int32) (x : Nat) : Prop := g (20 * x) = (if F (16 * x + 2) = 8 then -1 else F (16 * x + 2)) ∧ g (20 * x + 1) = F (16 * x + 3) ∧ ∀ k, k < (F (16 * x + 3)).toNatClampNeg → g (20 * x + 2 + 3 * k) = F (16 * x + 4 + 2 * k) ∧ g (20 * x + 3 + 3 * k) = F (16 * x + 5 + 2 * k) ∧ g (20 * x + 4 + 3 * k) = F (16 * x)
theorem lay_0 {N nc : Nat} (hN : 15000 ≤ N) (hnc : nc ≤ 6) : ∀ e x fu m, x + e = nc → e < fu → m.1 355 27 = nI nc → (∀ y, y < nc → ∃ z, z ≤ 6 ∧ m.1 365 (16 * y + 3) = nI z) → ∃ m1 m', f_Mo_text_L306 N fu (nI x) m = some (nI nc, m') ∧ (∀ i, i ≠ 368 → m1.1 i = m.1 i) ∧ m1.2 = m.2 ∧ (∀ j, j < 20 * x ∨ 20 * nc ≤ j → m1.1 368 j = m.1 368 j) ∧ (∀ y, x ≤ y → y < nc → crd (m.1 365) (m1.1 368) y) ∧ m' = mm_I (mm_I (mm_I (mm_I (mm_I m1 368 120 (m.1 360 0)) 368 121 (m.1 360 1)) 355 45 0) 355 37 0) 355 48 0 := by
  have n365 : sh_n 365 = 96 := by decide +kernel
  have n368 : sh_n 368 = 304 := by decide +kernel
  intro e
  induction e with
  | zero =>
    intro x fu m hx hfu h27 hz
    obtain ⟨fu, rfl⟩ : ∃ z, fu = z + 1 := ⟨fu - 1, by omega⟩
    have hx' : x = nc := by omega
    subst hx'
    refine ⟨m, _, ?_, fun _ _ => rfl, rfl, fun _ _ => rfl, fun y h1 h2 => absurd h2 (by omega), rfl⟩
    rw [f_Mo_text_L306, h27, if_pos ((nI_leI (by omega) (by omega)).mpr (Nat.le_refl _)), wr_e, gI_o (show (360 : Nat) ≠ 368 by decide), wr_e, wr_e, wr_e, wr_e, gI_s, if_neg (by decide), gI_s, if_neg (by decide), gI_s, if_neg (by decide), gI_o (by decide), gI_o (by decide), h27]
  | succ e ih =>
    intro x fu m hx hfu h27 hz
    obtain ⟨fu, rfl⟩ : ∃ z, fu = z + 1 := ⟨fu - 1, by omega⟩
    obtain ⟨z, z6, hz3⟩ := hz x (by omega)
    generalize hu : (if m.1 365 (16 * x + 2) = 8 then (-1 : Int32) else m.1 365 (16 * x + 2)) = u
    have h353 : ∀ v : Int32, f_Mo_text_B353 N (f_Mo_text_L306 N fu) (nI x) (nI (20 * x)) v m = obv (f_Mo_lays_L18 N 368 365 N (nI x) (nI (16 * x + 3)) (m.1 365 (16 * x)) (nI z) (nI 0) (mm_I (mm_I m 368 (20 * x) v) 368 (20 * x + 1) (nI z))) fun μ13z => (f_Mo_text_L306 N fu (nI (x + 1)) μ13z) := fun v => by
      have i0 : 16 * nI x = nI (16 * x) := (Int32.ofNat_mul 16 x).symm
      have i3 : nI (16 * x) + 3 = nI (16 * x + 3) := nI_add _ 3
      have j1 : 20 * nI x + 1 = nI (20 * x + 1) := by rw [show 20 * nI x = nI (20 * x) from (Int32.ofNat_mul 20 x).symm]; exact nI_add _ 1
      unfold f_Mo_text_B353 f_Mo_lays
      rw [gd_in (by omega) (by decide), nI_clamp (by omega), wr_e, i0, gd_in (by omega) (by decide), nI_clamp (by omega), i3, n365, n368, gd_in (by omega) (by decide), j1, gd_in (by omega) (by decide), nI_clamp (by omega), nI_clamp (by omega), gI_o (show (365 : Nat) ≠ 368 by decide), hz3, wr_e, show nI x + 1 = nI (x + 1) from nI_add x 1]
      rfl
    obtain ⟨m2, a1, a2, a3, a4, a5⟩ := lays_l (N := N) (x := x) (z := z) (ink := m.1 365 (16 * x)) (by omega) z6 z 0 N (mm_I (mm_I m 368 (20 * x) u) 368 (20 * x + 1) (nI z)) (by omega) (by omega)
    have o2 : ∀ i, i ≠ 368 → m2.1 i = m.1 i := fun i hi => by rw [a2 i hi, gI_o hi, gI_o hi]
    obtain ⟨m1, m', b1, b2, b3, b4, b5, b6⟩ := ih (x + 1) fu m2 (by omega) (by omega) (by rw [o2 355 (by decide)]; exact h27) (fun y hy => by rw [o2 365 (by decide)]; exact hz y hy)
    rw [o2 360 (by decide)] at b6
    rw [o2 365 (by decide)] at b5
    refine ⟨m1, m', ?_, fun i hi => by rw [b2 i hi, o2 i hi], by rw [b3, a3]; rfl, fun j hj => by rw [b4 j (by omega), a4 j (by omega), gI_s, if_neg (by omega), gI_s, if_neg (by omega)], fun y h1 h2 => ?_, b6⟩
    · have hcond : f_Mo_text_L306 N (fu + 1) (nI x) m = f_Mo_text_B353 N (f_Mo_text_L306 N fu) (nI x) (nI (20 * x)) u m := by
        have i2 : 16 * nI x + 2 = nI (16 * x + 2) := by rw [show 16 * nI x = nI (16 * x) from (Int32.ofNat_mul 16 x).symm]; exact nI_add _ 2
        rw [f_Mo_text_L306, h27, if_neg (fun z => by have := (nI_leI (by omega) (by omega)).mp z; omega), i2, gd_in (by omega) (by decide), nI_clamp (by omega), gd_in (by omega) (by decide), show 20 * nI x = nI (20 * x) from (Int32.ofNat_mul 20 x).symm]
        by_cases h8 : m.1 365 (16 * x + 2) = 8
        · rw [if_pos h8, ← hu, if_pos h8]
        · rw [if_neg h8, ← hu, if_neg h8]
      rw [hcond, h353, a1, obv_e, b1]
    · by_cases ey : y = x
      · subst ey
        refine ⟨?_, ?_, fun k hk => ?_⟩
        · rw [b4 _ (by omega), a4 _ (by omega), gI_s, if_neg (by omega), gI_s, if_pos rfl, hu]
        · rw [b4 _ (by omega), a4 _ (by omega), gI_s, if_pos rfl, hz3]
        · rw [hz3, nI_clamp (by omega)] at hk
          obtain ⟨c1, c2, c3⟩ := a5 k (by omega) hk
          rw [b4 _ (by omega), b4 _ (by omega), b4 _ (by omega), c1, c2, c3, gI_o (by decide), gI_o (by decide)]
          exact ⟨rfl, rfl, rfl⟩
      · exact b5 y (by omega) h2
