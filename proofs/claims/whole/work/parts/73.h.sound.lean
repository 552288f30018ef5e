set_option maxRecDepth 100000 in
set_option maxHeartbeats 4000000 in
theorem s_Mo_suits {D : Nat} (hD : 4 ≤ D) (N : Nat) {x1 : Int32} {μ : MM} {r : Int32} {μr : MM} (h : f_Mo_suits N x1 μ = some (r, μr)) : Cl D mX12_suits [av_r 355, av_i x1] μ (po_i r μr) := by
  obtain ⟨d, rfl⟩ : ∃ d, D = d + 1 := ⟨D - 1, by omega⟩
  refine Cl_of pn_X12 (Nat.le_of_ble_eq_true rfl) ?_
  show Sm (d + 1) mX12_suits 0 [some (av_r 355), some (av_i x1)] [] μ (po_i r μr)
  unfold f_Mo_suits at h
  refine sm_aload_n dX12_suits_0 rfl rfl ?_
  refine sm_iconst dX12_suits_1 ic_0 ?_
  refine sm_putI dX12_suits_2 fp_RX12_91 k_355 ?_
  replace h := wr_some h
  refine sm_aload_n dX12_suits_5 rfl rfl ?_
  refine sm_iload_n dX12_suits_6 rfl rfl ?_
  obtain ⟨t7, μ2z, g1, h⟩ := ob_some h
  refine sm_callV dX12_suits_7 cv_X12_isCard ml_RX12_362 k_355 rfl rfl (by decide) (as := [av_i x1]) rfl (Nat.le_of_ble_eq_true rfl) rfl (s_Mo_isCard (D := d) (by omega) N g1) (fun r9 μ9 hp => ?_)
  rw [hp.1, hp.2]
  clear hp r9 μ9
  refine sm_if_eq (tgt := 21) dX12_suits_10 (by decide) (fun g2 => ?_) (fun g2 => ?_)
  · replace h := it_t g2 h
    refine sm_iconst dX12_suits_21 ic_m1 ?_
    cases h
    exact sm_ret_i (st := []) dX12_suits_22 rfl ⟨rfl, rfl⟩
  · replace h := it_f g2 h
    refine sm_aload_n dX12_suits_13 rfl rfl ?_
    refine sm_iload_n dX12_suits_14 rfl rfl ?_
    obtain ⟨t15, μ3z, g3, h⟩ := ob_some h
    refine sm_callV dX12_suits_15 cv_X12_suitsOf ml_RX12_451 k_355 rfl rfl (by decide) (as := [av_i x1]) rfl (Nat.le_of_ble_eq_true rfl) rfl (s_Mo_suitsOf (D := d) (by omega) N g3) (fun r9 μ9 hp => ?_)
    rw [hp.1, hp.2]
    clear hp r9 μ9
    refine sm_goto (tgt := 22) dX12_suits_18 (by decide) ?_
    cases h
    exact sm_ret_i (st := []) dX12_suits_22 rfl ⟨rfl, rfl⟩
set_option maxRecDepth 100000 in
set_option maxHeartbeats 4000000 in
theorem s_Mo_wanted_L28 {D : Nat} (hD : 4 ≤ D) (N : Nat) {r : Int32} {μr : MM} : ∀ (n : Nat) (x1 : Int32) (x2 : Int32) (x3 : Int32) (μ : MM), f_Mo_wanted_L28 N n x1 x2 x3 μ = some (r, μr) → Sm D mX12_wanted 28 [some (av_r 355), some (av_i x1), some (av_i x2), some (av_i x3)] [] μ (po_i r μr) := by
  obtain ⟨d, rfl⟩ : ∃ d, D = d + 1 := ⟨D - 1, by omega⟩
  intro n
  induction n with
  | zero => intro x1 x2 x3 μ h; cases (show none = some (r, μr) from h)
  | succ n ih =>
    intro x1 x2 x3 μ h
    rw [f_Mo_wanted_L28] at h
    refine sm_iload_n dX12_wanted_28 rfl rfl ?_
    refine sm_aload_n dX12_wanted_29 rfl rfl ?_
    refine sm_getI dX12_wanted_30 fg_RX12_297 k_355 ?_
    refine sm_icmp_ge (tgt := 63) dX12_wanted_33 (by decide) (fun g4 => ?_) (fun g4 => ?_)
    · replace h := it_t g4 h
      refine sm_iload_n dX12_wanted_63 rfl rfl ?_
      refine sm_if_ne (tgt := 71) dX12_wanted_64 (by decide) (fun g5 => ?_) (fun g5 => ?_)
      · replace h := it_f g5 h
        refine sm_aload_n dX12_wanted_71 rfl rfl ?_
        refine sm_iload_n dX12_wanted_72 rfl rfl ?_
        obtain ⟨t73, μ3z, g6, h⟩ := ob_some h
        refine sm_callV dX12_wanted_73 cv_X12_suitsOf ml_RX12_451 k_355 rfl rfl (by decide) (as := [av_i x2]) rfl (Nat.le_of_ble_eq_true rfl) rfl (s_Mo_suitsOf (D := d) (by omega) N g6) (fun r9 μ9 hp => ?_)
        rw [hp.1, hp.2]
        clear hp r9 μ9
        obtain ⟨t76, μ4z, g7, h⟩ := ob_some h
        refine sm_callS dX12_wanted_76 cs_J6_bitCount_0f7a4 ml_RX12_422 (as := [av_i t73]) rfl (Nat.le_of_ble_eq_true rfl) rfl (s_In_bitCount_0f7a4 (D := d) (by omega) N g7) (fun r9 μ9 hp => ?_)
        rw [hp.1, hp.2]
        clear hp r9 μ9
        cases h
        exact sm_ret_i (st := []) dX12_wanted_79 rfl ⟨rfl, rfl⟩
      · replace h := it_t g5 h
        refine sm_iload_n dX12_wanted_67 rfl rfl ?_
        refine sm_goto (tgt := 79) dX12_wanted_68 (by decide) ?_
        cases h
        exact sm_ret_i (st := []) dX12_wanted_79 rfl ⟨rfl, rfl⟩
    · replace h := it_f g4 h
      refine sm_aload_n dX12_wanted_36 rfl rfl ?_
      refine sm_iload_n dX12_wanted_37 rfl rfl ?_
      obtain ⟨t38, μ5z, g8, h⟩ := ob_some h
      refine sm_callV dX12_wanted_38 cv_X12_suitsOf ml_RX12_451 k_355 rfl rfl (by decide) (as := [av_i x3]) rfl (Nat.le_of_ble_eq_true rfl) rfl (s_Mo_suitsOf (D := d) (by omega) N g8) (fun r9 μ9 hp => ?_)
      rw [hp.1, hp.2]
      clear hp r9 μ9
      obtain ⟨t41, μ6z, g9, h⟩ := ob_some h
      refine sm_callS dX12_wanted_41 cs_J6_bitCount_0f7a4 ml_RX12_422 (as := [av_i t38]) rfl (Nat.le_of_ble_eq_true rfl) rfl (s_In_bitCount_0f7a4 (D := d) (by omega) N g9) (fun r9 μ9 hp => ?_)
      rw [hp.1, hp.2]
      clear hp r9 μ9
      refine sm_aload_n dX12_wanted_44 rfl rfl ?_
      refine sm_iload_n dX12_wanted_45 rfl rfl ?_
      obtain ⟨t46, μ7z, g10, h⟩ := ob_some h
      refine sm_callV dX12_wanted_46 cv_X12_suitsOf ml_RX12_451 k_355 rfl rfl (by decide) (as := [av_i x2]) rfl (Nat.le_of_ble_eq_true rfl) rfl (s_Mo_suitsOf (D := d) (by omega) N g10) (fun r9 μ9 hp => ?_)
      rw [hp.1, hp.2]
      clear hp r9 μ9
      obtain ⟨t49, μ8z, g11, h⟩ := ob_some h
      refine sm_callS dX12_wanted_49 cs_J6_bitCount_0f7a4 ml_RX12_422 (as := [av_i t46]) rfl (Nat.le_of_ble_eq_true rfl) rfl (s_In_bitCount_0f7a4 (D := d) (by omega) N g11) (fun r9 μ9 hp => ?_)
      rw [hp.1, hp.2]
      clear hp r9 μ9
      have hj52 : ∀ (v52_0 : Int32), v52_0 = (if t49 ≤ t41 then x2 else x3) → Sm (d + 1) mX12_wanted 57 [some (av_r 355), some (av_i x1), some (av_i v52_0), some (av_i x3)] [] μ8z (po_i r μr) := by
        intro v52_0 ev52_0
        subst ev52_0
        refine sm_iinc dX12_wanted_57 rfl (congrArg (HAdd.hAdd x3) ic_1) (Nat.le_of_ble_eq_true rfl) (pv_i rfl) ?_
        refine sm_goto (tgt := 28) dX12_wanted_60 (by decide) ?_
        exact Sm_weak (le_s rfl (le_s rfl (le_s rfl (le_s rfl le_0)))) (ih x1 (if t49 ≤ t41 then x2 else x3) (x3 + 1) μ8z h)
      refine sm_icmp_ge (tgt := 57) dX12_wanted_52 (by decide) (fun c52_0 => ?_) (fun c52_0 => ?_)
      · exact Sm_weak (le_s rfl (le_s rfl (le_s rfl (le_s rfl le_0)))) (hj52 _ (if_pos c52_0).symm)
      · refine sm_iload_n dX12_wanted_55 rfl rfl ?_
        refine sm_istore_n dX12_wanted_56 rfl (Nat.le_of_ble_eq_true rfl) (pv_i rfl) ?_
        exact Sm_weak (le_s rfl (le_s rfl (le_s rfl (le_s rfl le_0)))) (hj52 _ (if_neg c52_0).symm)
set_option maxRecDepth 100000 in
set_option maxHeartbeats 4000000 in
theorem s_Mo_wanted {D : Nat} (hD : 4 ≤ D) (N : Nat) {x1 : Int32} {μ : MM} {r : Int32} {μr : MM} (h : f_Mo_wanted N x1 μ = some (r, μr)) : Cl D mX12_wanted [av_r 355, av_i x1] μ (po_i r μr) := by
  obtain ⟨d, rfl⟩ : ∃ d, D = d + 1 := ⟨D - 1, by omega⟩
  refine Cl_of pn_X12 (Nat.le_of_ble_eq_true rfl) ?_
  show Sm (d + 1) mX12_wanted 0 [some (av_r 355), some (av_i x1), none, none] [] μ (po_i r μr)
  unfold f_Mo_wanted at h
  refine sm_aload_n dX12_wanted_0 rfl rfl ?_
  refine sm_iconst dX12_wanted_1 ic_0 ?_
  refine sm_putI dX12_wanted_2 fp_RX12_91 k_355 ?_
  replace h := wr_some h
  refine sm_aload_n dX12_wanted_5 rfl rfl ?_
  refine sm_getI dX12_wanted_6 fg_RX12_297 k_355 ?_
  refine sm_if_eq (tgt := 22) dX12_wanted_9 (by decide) (fun g1 => ?_) (fun g1 => ?_)
  · replace h := it_t g1 h
    refine sm_iconst dX12_wanted_22 ic_m1 ?_
    cases h
    exact sm_ret_i (st := []) dX12_wanted_23 rfl ⟨rfl, rfl⟩
  · replace h := it_f g1 h
    refine sm_iload_n dX12_wanted_12 rfl rfl ?_
    refine sm_i2l dX12_wanted_13 ?_
    refine sm_lconst dX12_wanted_14 lc_0 ?_
    refine sm_lconst dX12_wanted_15 lc_1 ?_
    obtain ⟨t16, μ2z, g2, h⟩ := ob_some h
    refine sm_callS dX12_wanted_16 cs_X12_isIn ml_RX12_212 (as := [av_l (Int32.toInt64 x1), av_l 0, av_l 1]) rfl (Nat.le_of_ble_eq_true rfl) rfl (s_Mo_isIn (D := d) (by omega) N g2) (fun r9 μ9 hp => ?_)
    rw [hp.1, hp.2]
    clear hp r9 μ9
    refine sm_if_ne (tgt := 24) dX12_wanted_19 (by decide) (fun g3 => ?_) (fun g3 => ?_)
    · replace h := it_f g3 h
      refine sm_iconst dX12_wanted_24 ic_0 ?_
      refine sm_istore_n dX12_wanted_25 rfl (Nat.le_of_ble_eq_true rfl) (pv_i rfl) ?_
      refine sm_iconst dX12_wanted_26 ic_1 ?_
      refine sm_istore_n dX12_wanted_27 rfl (Nat.le_of_ble_eq_true rfl) (pv_i rfl) ?_
      exact Sm_weak (le_s rfl (le_s rfl (le_s rfl (le_s rfl le_0)))) (s_Mo_wanted_L28 hD N N x1 0 1 μ2z h)
    · replace h := it_t g3 h
      refine sm_iconst dX12_wanted_22 ic_m1 ?_
      cases h
      exact sm_ret_i (st := []) dX12_wanted_23 rfl ⟨rfl, rfl⟩
set_option maxRecDepth 100000 in
set_option maxHeartbeats 4000000 in
theorem s_Mo_perhaps_L18 {D : Nat} (hD : 3 ≤ D) (N : Nat) {r : Int32} {μr : MM} : ∀ (n : Nat) (x1 : Int32) (x2 : Int32) (μ : MM), f_Mo_perhaps_L18 N n x1 x2 μ = some (r, μr) → Sm D mX12_perhaps 18 [some (av_r 355), some (av_i x1), some (av_i x2)] [] μ (po_i r μr) := by
  obtain ⟨d, rfl⟩ : ∃ d, D = d + 1 := ⟨D - 1, by omega⟩
  intro n
  induction n with
  | zero => intro x1 x2 μ h; cases (show none = some (r, μr) from h)
  | succ n ih =>
    intro x1 x2 μ h
    rw [f_Mo_perhaps_L18] at h
    refine sm_iload_n dX12_perhaps_18 rfl rfl ?_
    refine sm_aload_n dX12_perhaps_19 rfl rfl ?_
    refine sm_getI dX12_perhaps_20 fg_RX12_297 k_355 ?_
    refine sm_icmp_ge (tgt := 60) dX12_perhaps_23 (by decide) (fun g2 => ?_) (fun g2 => ?_)
    · replace h := it_t g2 h
      refine sm_iload_n dX12_perhaps_60 rfl rfl ?_
      cases h
      exact sm_ret_i (st := []) dX12_perhaps_61 rfl ⟨rfl, rfl⟩
    · replace h := it_f g2 h
      refine sm_iload_n dX12_perhaps_26 rfl rfl ?_
      refine sm_iconst dX12_perhaps_27 ic_2 ?_
      refine sm_aload_n dX12_perhaps_28 rfl rfl ?_
      refine sm_iload_n dX12_perhaps_29 rfl rfl ?_
      obtain ⟨t30, μ2z, g3, h⟩ := ob_some h
      refine sm_callV dX12_perhaps_30 cv_X12_goneOf ml_RX12_427 k_355 rfl rfl (by decide) (as := [av_i x2]) rfl (Nat.le_of_ble_eq_true rfl) rfl (s_Mo_goneOf (D := d) (by omega) N g3) (fun r9 μ9 hp => ?_)
      rw [hp.1, hp.2]
      clear hp r9 μ9
      refine sm_imul dX12_perhaps_33 ?_
      refine sm_aload_n dX12_perhaps_34 rfl rfl ?_
      refine sm_getR dX12_perhaps_35 fg_RX12_61 k_355 (rf_12_32 k_355) ?_
      refine sm_iload_n dX12_perhaps_38 rfl rfl ?_
      obtain ⟨t39, μ3z, g4, h⟩ := ob_some h
      refine sm_callS dX12_perhaps_39 cs_X12_wordsOf ml_RX12_323 (as := [av_r 368, av_i x2]) rfl (Nat.le_of_ble_eq_true rfl) rfl (s_Mo_wordsOf (D := d) (by omega) N k_368 g4) (fun r9 μ9 hp => ?_)
      rw [hp.1, hp.2]
      clear hp r9 μ9
      have hj42 : ∀ (v42_0 : Int32), v42_0 = (if (2 * t30) < t39 then (0 : Int32) else ((1 : Int32) <<< (x2 &&& 31))) → Sm (d + 1) mX12_perhaps 52 [some (av_r 355), none, some (av_i x2)] [av_i v42_0, av_i x1] μ3z (po_i r μr) := by
        intro v42_0 ev42_0
        subst ev42_0
        refine sm_ior dX12_perhaps_52 ?_
        refine sm_istore_n dX12_perhaps_53 rfl (Nat.le_of_ble_eq_true rfl) (pv_r rfl) ?_
        refine sm_iinc dX12_perhaps_54 rfl (congrArg (HAdd.hAdd x2) ic_1) (Nat.le_of_ble_eq_true rfl) (pv_i rfl) ?_
        refine sm_goto (tgt := 18) dX12_perhaps_57 (by decide) ?_
        exact Sm_weak (le_s rfl (le_s rfl (le_s rfl le_0))) (ih (x1 ||| (if (2 * t30) < t39 then (0 : Int32) else ((1 : Int32) <<< (x2 &&& 31)))) (x2 + 1) μ3z h)
      refine sm_icmp_lt (tgt := 51) dX12_perhaps_42 (by decide) (fun c42_0 => ?_) (fun c42_0 => ?_)
      · refine sm_iconst dX12_perhaps_51 ic_0 ?_
        exact Sm_weak (le_s rfl (le_n (le_s rfl le_0))) (hj42 _ (if_pos c42_0).symm)
      · refine sm_iconst dX12_perhaps_45 ic_1 ?_
        refine sm_iload_n dX12_perhaps_46 rfl rfl ?_
        refine sm_ishl dX12_perhaps_47 ?_
        refine sm_goto (tgt := 52) dX12_perhaps_48 (by decide) ?_
        exact Sm_weak (le_s rfl (le_n (le_s rfl le_0))) (hj42 _ (if_neg c42_0).symm)
set_option maxRecDepth 100000 in
set_option maxHeartbeats 4000000 in
theorem s_Mo_perhaps {D : Nat} (hD : 3 ≤ D) (N : Nat) {μ : MM} {r : Int32} {μr : MM} (h : f_Mo_perhaps N μ = some (r, μr)) : Cl D mX12_perhaps [av_r 355] μ (po_i r μr) := by
  obtain ⟨d, rfl⟩ : ∃ d, D = d + 1 := ⟨D - 1, by omega⟩
  refine Cl_of pn_X12 (Nat.le_of_ble_eq_true rfl) ?_
  show Sm (d + 1) mX12_perhaps 0 [some (av_r 355), none, none] [] μ (po_i r μr)
  unfold f_Mo_perhaps at h
  refine sm_aload_n dX12_perhaps_0 rfl rfl ?_
  refine sm_iconst dX12_perhaps_1 ic_0 ?_
  refine sm_putI dX12_perhaps_2 fp_RX12_91 k_355 ?_
  replace h := wr_some h
  refine sm_aload_n dX12_perhaps_5 rfl rfl ?_
  refine sm_getI dX12_perhaps_6 fg_RX12_297 k_355 ?_
  refine sm_if_ne (tgt := 14) dX12_perhaps_9 (by decide) (fun g1 => ?_) (fun g1 => ?_)
  · replace h := it_f g1 h
    refine sm_iconst dX12_perhaps_14 ic_0 ?_
    refine sm_istore_n dX12_perhaps_15 rfl (Nat.le_of_ble_eq_true rfl) (pv_r rfl) ?_
    refine sm_iconst dX12_perhaps_16 ic_0 ?_
    refine sm_istore_n dX12_perhaps_17 rfl (Nat.le_of_ble_eq_true rfl) (pv_i rfl) ?_
    exact Sm_weak (le_s rfl (le_s rfl (le_s rfl le_0))) (s_Mo_perhaps_L18 hD N N 0 0 (mm_I μ 355 0 0) h)
  · replace h := it_t g1 h
    refine sm_iconst dX12_perhaps_12 ic_m1 ?_
    cases h
    exact sm_ret_i (st := []) dX12_perhaps_13 rfl ⟨rfl, rfl⟩
set_option maxRecDepth 100000 in
set_option maxHeartbeats 4000000 in
theorem s_Mo_shared {D : Nat} (hD : 1 ≤ D) (N : Nat) {x1 : Int32} {x2 : Int32} {μ : MM} {r : Int32} {μr : MM} (h : f_Mo_shared N x1 x2 μ = some (r, μr)) : Cl D mX12_shared [av_r 355, av_i x1, av_i x2] μ (po_i r μr) := by
  obtain ⟨d, rfl⟩ : ∃ d, D = d + 1 := ⟨D - 1, by omega⟩
  refine Cl_of pn_X12 (Nat.le_of_ble_eq_true rfl) ?_
  show Sm (d + 1) mX12_shared 0 [some (av_r 355), some (av_i x1), some (av_i x2)] [] μ (po_i r μr)
  unfold f_Mo_shared at h
  refine sm_aload_n dX12_shared_0 rfl rfl ?_
  refine sm_iconst dX12_shared_1 ic_0 ?_
  refine sm_putI dX12_shared_2 fp_RX12_91 k_355 ?_
  replace h := wr_some h
  refine sm_aload_n dX12_shared_5 rfl rfl ?_
  refine sm_iload_n dX12_shared_6 rfl rfl ?_
  obtain ⟨t7, μ2z, g1, h⟩ := ob_some h
  refine sm_callV dX12_shared_7 cv_X12_isThing ml_RX12_359 k_355 rfl rfl (by decide) (as := [av_i x1]) rfl (Nat.le_of_ble_eq_true rfl) rfl (s_Mo_isThing (D := d) (by omega) N g1) (fun r9 μ9 hp => ?_)
  rw [hp.1, hp.2]
  clear hp r9 μ9
  refine sm_if_eq (tgt := 35) dX12_shared_10 (by decide) (fun g2 => ?_) (fun g2 => ?_)
  · replace h := it_t g2 h
    refine sm_iconst dX12_shared_35 ic_m1 ?_
    cases h
    exact sm_ret_i (st := []) dX12_shared_36 rfl ⟨rfl, rfl⟩
  · replace h := it_f g2 h
    refine sm_aload_n dX12_shared_13 rfl rfl ?_
    refine sm_iload_n dX12_shared_14 rfl rfl ?_
    obtain ⟨t15, μ3z, g3, h⟩ := ob_some h
    refine sm_callV dX12_shared_15 cv_X12_isThing ml_RX12_359 k_355 rfl rfl (by decide) (as := [av_i x2]) rfl (Nat.le_of_ble_eq_true rfl) rfl (s_Mo_isThing (D := d) (by omega) N g3) (fun r9 μ9 hp => ?_)
    rw [hp.1, hp.2]
    clear hp r9 μ9
    refine sm_if_eq (tgt := 35) dX12_shared_18 (by decide) (fun g4 => ?_) (fun g4 => ?_)
    · replace h := it_t g4 h
      refine sm_iconst dX12_shared_35 ic_m1 ?_
      cases h
      exact sm_ret_i (st := []) dX12_shared_36 rfl ⟨rfl, rfl⟩
    · replace h := it_f g4 h
      refine sm_aload_n dX12_shared_21 rfl rfl ?_
      refine sm_iload_n dX12_shared_22 rfl rfl ?_
      obtain ⟨t23, μ4z, g5, h⟩ := ob_some h
      refine sm_callV dX12_shared_23 cv_X12_marks ml_RX12_320 k_355 rfl rfl (by decide) (as := [av_i x1]) rfl (Nat.le_of_ble_eq_true rfl) rfl (s_Mo_marks (D := d) (by omega) N g5) (fun r9 μ9 hp => ?_)
      rw [hp.1, hp.2]
      clear hp r9 μ9
      refine sm_aload_n dX12_shared_26 rfl rfl ?_
      refine sm_iload_n dX12_shared_27 rfl rfl ?_
      obtain ⟨t28, μ5z, g6, h⟩ := ob_some h
      refine sm_callV dX12_shared_28 cv_X12_marks ml_RX12_320 k_355 rfl rfl (by decide) (as := [av_i x2]) rfl (Nat.le_of_ble_eq_true rfl) rfl (s_Mo_marks (D := d) (by omega) N g6) (fun r9 μ9 hp => ?_)
      rw [hp.1, hp.2]
      clear hp r9 μ9
      refine sm_iand dX12_shared_31 ?_
      refine sm_goto (tgt := 36) dX12_shared_32 (by decide) ?_
      cases h
      exact sm_ret_i (st := []) dX12_shared_36 rfl ⟨rfl, rfl⟩
set_option maxRecDepth 100000 in
set_option maxHeartbeats 4000000 in
theorem s_Mo_twins_L36 {D : Nat} (hD : 1 ≤ D) (N : Nat) {r : Int32} {μr : MM} {k23 : Int32 → Int32 → Int32 → MM → Option (Int32 × MM)} (hk23 : ∀ (x1 : Int32) (x2 : Int32) (x3 : Int32) (μ : MM), k23 x1 x2 x3 μ = some (r, μr) → Sm D mX12_twins 23 [some (av_r 355), some (av_i x1), some (av_i x2), some (av_i x3), none] [] μ (po_i r μr)) : ∀ (n : Nat) (x1 : Int32) (x2 : Int32) (x3 : Int32) (x4 : Int32) (μ : MM), f_Mo_twins_L36 N k23 n x1 x2 x3 x4 μ = some (r, μr) → Sm D mX12_twins 36 [some (av_r 355), some (av_i x1), some (av_i x2), some (av_i x3), some (av_i x4)] [] μ (po_i r μr) := by
  obtain ⟨d, rfl⟩ : ∃ d, D = d + 1 := ⟨D - 1, by omega⟩
  intro n
  induction n with
  | zero => intro x1 x2 x3 x4 μ h; cases (show none = some (r, μr) from h)
  | succ n ih =>
    intro x1 x2 x3 x4 μ h
    rw [f_Mo_twins_L36] at h
    refine sm_iload dX12_twins_36 rfl ?_
    refine sm_aload_n dX12_twins_38 rfl rfl ?_
    refine sm_getI dX12_twins_39 fg_RX12_294 k_355 ?_
    refine sm_icmp_ge (tgt := 84) dX12_twins_42 (by decide) (fun g4 => ?_) (fun g4 => ?_)
    · replace h := it_t g4 h
      refine sm_iinc dX12_twins_84 rfl (congrArg (HAdd.hAdd x3) ic_1) (Nat.le_of_ble_eq_true rfl) (pv_i rfl) ?_
      refine sm_goto (tgt := 23) dX12_twins_87 (by decide) ?_
      exact Sm_weak (le_s rfl (le_s rfl (le_s rfl (le_s rfl (le_n le_0))))) (hk23 x1 x2 (x3 + 1) μ h)
    · replace h := it_f g4 h
      refine sm_aload_n dX12_twins_45 rfl rfl ?_
      refine sm_iload_n dX12_twins_46 rfl rfl ?_
      obtain ⟨t47, μ2z, g5, h⟩ := ob_some h
      refine sm_callV dX12_twins_47 cv_X12_marks ml_RX12_320 k_355 rfl rfl (by decide) (as := [av_i x3]) rfl (Nat.le_of_ble_eq_true rfl) rfl (s_Mo_marks (D := d) (by omega) N g5) (fun r9 μ9 hp => ?_)
      rw [hp.1, hp.2]
      clear hp r9 μ9
      refine sm_aload_n dX12_twins_50 rfl rfl ?_
      refine sm_iload dX12_twins_51 rfl ?_
      obtain ⟨t53, μ3z, g6, h⟩ := ob_some h
      refine sm_callV dX12_twins_53 cv_X12_marks ml_RX12_320 k_355 rfl rfl (by decide) (as := [av_i x4]) rfl (Nat.le_of_ble_eq_true rfl) rfl (s_Mo_marks (D := d) (by omega) N g6) (fun r9 μ9 hp => ?_)
      rw [hp.1, hp.2]
      clear hp r9 μ9
      refine sm_icmp_eq (tgt := 62) dX12_twins_56 (by decide) (fun g7 => ?_) (fun g7 => ?_)
      · replace h := it_t g7 h
        refine sm_iload_n dX12_twins_62 rfl rfl ?_
        refine sm_iload_n dX12_twins_63 rfl rfl ?_
        refine sm_icmp_ne (tgt := 75) dX12_twins_64 (by decide) (fun g8 => ?_) (fun g8 => ?_)
        · replace h := it_f g8 h
          refine sm_iinc dX12_twins_75 rfl (congrArg (HAdd.hAdd x2) ic_1) (Nat.le_of_ble_eq_true rfl) (pv_i rfl) ?_
          refine sm_iinc dX12_twins_78 rfl (congrArg (HAdd.hAdd x4) ic_1) (Nat.le_of_ble_eq_true rfl) (pv_i rfl) ?_
          refine sm_goto (tgt := 36) dX12_twins_81 (by decide) ?_
          exact Sm_weak (le_s rfl (le_s rfl (le_s rfl (le_s rfl (le_s rfl le_0))))) (ih x1 (x2 + 1) x3 (x4 + 1) μ3z h)
        · replace h := it_t g8 h
          refine sm_bipush dX12_twins_67 bp_10 ?_
          refine sm_iload_n dX12_twins_69 rfl rfl ?_
          refine sm_imul dX12_twins_70 ?_
          refine sm_iload dX12_twins_71 rfl ?_
          refine sm_iadd dX12_twins_73 ?_
          cases h
          exact sm_ret_i (st := []) dX12_twins_74 rfl ⟨rfl, rfl⟩
      · replace h := it_f g7 h
        refine sm_goto (tgt := 78) dX12_twins_59 (by decide) ?_
        refine sm_iinc dX12_twins_78 rfl (congrArg (HAdd.hAdd x4) ic_1) (Nat.le_of_ble_eq_true rfl) (pv_i rfl) ?_
        refine sm_goto (tgt := 36) dX12_twins_81 (by decide) ?_
        exact Sm_weak (le_s rfl (le_s rfl (le_s rfl (le_s rfl (le_s rfl le_0))))) (ih x1 x2 x3 (x4 + 1) μ3z h)
set_option maxRecDepth 100000 in
set_option maxHeartbeats 4000000 in
theorem s_Mo_twins_L23 {D : Nat} (hD : 1 ≤ D) (N : Nat) {r : Int32} {μr : MM} : ∀ (n : Nat) (x1 : Int32) (x2 : Int32) (x3 : Int32) (μ : MM), f_Mo_twins_L23 N n x1 x2 x3 μ = some (r, μr) → Sm D mX12_twins 23 [some (av_r 355), some (av_i x1), some (av_i x2), some (av_i x3), none] [] μ (po_i r μr) := by
  obtain ⟨d, rfl⟩ : ∃ d, D = d + 1 := ⟨D - 1, by omega⟩
  intro n
  induction n with
  | zero => intro x1 x2 x3 μ h; cases (show none = some (r, μr) from h)
  | succ n ih =>
    intro x1 x2 x3 μ h
    rw [f_Mo_twins_L23] at h
    refine sm_iload_n dX12_twins_23 rfl rfl ?_
    refine sm_aload_n dX12_twins_24 rfl rfl ?_
    refine sm_getI dX12_twins_25 fg_RX12_294 k_355 ?_
    refine sm_icmp_ge (tgt := 90) dX12_twins_28 (by decide) (fun g3 => ?_) (fun g3 => ?_)
    · replace h := it_t g3 h
      refine sm_iload_n dX12_twins_90 rfl rfl ?_
      refine sm_iconst dX12_twins_91 ic_m1 ?_
      have hj92 : ∀ (v92_0 : Int32), v92_0 = (if x1 = (-1) then x2 else (-1)) → Sm (d + 1) mX12_twins 100 [none, none, none, none, none] [av_i v92_0] μ (po_i r μr) := by
        intro v92_0 ev92_0
        subst ev92_0
        cases h
        exact sm_ret_i (st := []) dX12_twins_100 rfl ⟨rfl, rfl⟩
      refine sm_icmp_ne (tgt := 99) dX12_twins_92 (by decide) (fun c92_0 => ?_) (fun c92_0 => ?_)
      · refine sm_iconst dX12_twins_99 ic_m1 ?_
        exact Sm_weak (le_n (le_n (le_n (le_n (le_n le_0))))) (hj92 _ (if_neg c92_0).symm)
      · refine sm_iload_n dX12_twins_95 rfl rfl ?_
        refine sm_goto (tgt := 100) dX12_twins_96 (by decide) ?_
        exact Sm_weak (le_n (le_n (le_n (le_n (le_n le_0))))) (hj92 _ (if_pos c92_0).symm)
    · replace h := it_f g3 h
      refine sm_iload_n dX12_twins_31 rfl rfl ?_
      refine sm_iconst dX12_twins_32 ic_1 ?_
      refine sm_iadd dX12_twins_33 ?_
      refine sm_istore dX12_twins_34 (Nat.le_of_ble_eq_true rfl) (pv_i rfl) ?_
      exact Sm_weak (le_s rfl (le_s rfl (le_s rfl (le_s rfl (le_s rfl le_0))))) (s_Mo_twins_L36 hD N ih N x1 x2 x3 (x3 + 1) μ h)
set_option maxRecDepth 100000 in
set_option maxHeartbeats 4000000 in
theorem s_Mo_twins {D : Nat} (hD : 1 ≤ D) (N : Nat) {x1 : Int32} {μ : MM} {r : Int32} {μr : MM} (h : f_Mo_twins N x1 μ = some (r, μr)) : Cl D mX12_twins [av_r 355, av_i x1] μ (po_i r μr) := by
  obtain ⟨d, rfl⟩ : ∃ d, D = d + 1 := ⟨D - 1, by omega⟩
  refine Cl_of pn_X12 (Nat.le_of_ble_eq_true rfl) ?_
  show Sm (d + 1) mX12_twins 0 [some (av_r 355), some (av_i x1), none, none, none] [] μ (po_i r μr)
  unfold f_Mo_twins at h
  refine sm_aload_n dX12_twins_0 rfl rfl ?_
  refine sm_iconst dX12_twins_1 ic_0 ?_
  refine sm_putI dX12_twins_2 fp_RX12_91 k_355 ?_
  replace h := wr_some h
  refine sm_aload_n dX12_twins_5 rfl rfl ?_
  refine sm_getI dX12_twins_6 fg_RX12_297 k_355 ?_
  refine sm_if_eq (tgt := 17) dX12_twins_9 (by decide) (fun g1 => ?_) (fun g1 => ?_)
  · replace h := it_t g1 h
    refine sm_iconst dX12_twins_17 ic_m1 ?_
    cases h
    exact sm_ret_i (st := []) dX12_twins_18 rfl ⟨rfl, rfl⟩
  · replace h := it_f g1 h
    refine sm_iload_n dX12_twins_12 rfl rfl ?_
    refine sm_iconst dX12_twins_13 ic_m1 ?_
    refine sm_icmp_ge (tgt := 19) dX12_twins_14 (by decide) (fun g2 => ?_) (fun g2 => ?_)
    · replace h := it_t g2 h
      refine sm_iconst dX12_twins_19 ic_0 ?_
      refine sm_istore_n dX12_twins_20 rfl (Nat.le_of_ble_eq_true rfl) (pv_i rfl) ?_
      refine sm_iconst dX12_twins_21 ic_0 ?_
      refine sm_istore_n dX12_twins_22 rfl (Nat.le_of_ble_eq_true rfl) (pv_i rfl) ?_
      exact Sm_weak (le_s rfl (le_s rfl (le_s rfl (le_s rfl (le_n le_0))))) (s_Mo_twins_L23 hD N N x1 0 0 (mm_I μ 355 0 0) h)
    · replace h := it_f g2 h
      refine sm_iconst dX12_twins_17 ic_m1 ?_
      cases h
      exact sm_ret_i (st := []) dX12_twins_18 rfl ⟨rfl, rfl⟩
set_option maxRecDepth 100000 in
set_option maxHeartbeats 4000000 in
theorem s_Mo_oddsOf_L169 {D : Nat} (hD : 1 ≤ D) (N : Nat) {r : Int32} {μr : MM} : ∀ (n : Nat) (x4 : Int32) (y5 : Int64) (x7 : Int32) (μ : MM), f_Mo_oddsOf_L169 N n x4 y5 x7 μ = some (r, μr) → Sm D mX12_oddsOf 169 [some (av_r 355), none, none, none, some (av_i x4), some (av_l y5), none, some (av_i x7), none] [] μ (po_i r μr) := by
  obtain ⟨d, rfl⟩ : ∃ d, D = d + 1 := ⟨D - 1, by omega⟩
  intro n
  induction n with
  | zero => intro x4 y5 x7 μ h; cases (show none = some (r, μr) from h)
  | succ n ih =>
    intro x4 y5 x7 μ h
    rw [f_Mo_oddsOf_L169] at h
    refine sm_iload dX12_oddsOf_169 rfl ?_
    refine sm_bipush dX12_oddsOf_171 bp_32 ?_
    refine sm_icmp_ge (tgt := 201) dX12_oddsOf_173 (by decide) (fun g5 => ?_) (fun g5 => ?_)
    · replace h := it_t g5 h
      refine sm_lload dX12_oddsOf_201 rfl ?_
      refine sm_l2i dX12_oddsOf_203 ?_
      cases h
      exact sm_ret_i (st := []) dX12_oddsOf_204 rfl ⟨rfl, rfl⟩
    · replace h := it_f g5 h
      refine sm_iload dX12_oddsOf_176 rfl ?_
      refine sm_iload dX12_oddsOf_178 rfl ?_
      refine sm_icmp_ge (tgt := 201) dX12_oddsOf_180 (by decide) (fun g6 => ?_) (fun g6 => ?_)
      · replace h := it_t g6 h
        refine sm_lload dX12_oddsOf_201 rfl ?_
        refine sm_l2i dX12_oddsOf_203 ?_
        cases h
        exact sm_ret_i (st := []) dX12_oddsOf_204 rfl ⟨rfl, rfl⟩
      · replace h := it_f g6 h
        refine sm_lload dX12_oddsOf_183 rfl ?_
        refine sm_aload_n dX12_oddsOf_185 rfl rfl ?_
        refine sm_getR dX12_oddsOf_186 fg_RX12_84 k_355 (rf_12_46 k_355) ?_
        refine sm_iload dX12_oddsOf_189 rfl ?_
        obtain ⟨g7, h⟩ := gd_some h
        refine sm_lald (j := (Int32.toNatClampNeg x7)) dX12_oddsOf_191 k_374 (in_sz n_374 g7) rfl ?_
        refine sm_ladd dX12_oddsOf_192 ?_
        refine sm_lstore dX12_oddsOf_193 (Nat.le_of_ble_eq_true rfl) (pv_i rfl) ?_
        refine sm_iinc dX12_oddsOf_195 rfl (congrArg (HAdd.hAdd x7) ic_1) (Nat.le_of_ble_eq_true rfl) (pv_n rfl) ?_
        refine sm_goto (tgt := 169) dX12_oddsOf_198 (by decide) ?_
        exact Sm_weak (le_s rfl (le_n (le_n (le_n (le_s rfl (le_s rfl (le_n (le_s rfl (le_n le_0))))))))) (ih x4 (y5 + (μ.2 374 (Int32.toNatClampNeg x7))) (x7 + 1) μ h)
set_option maxRecDepth 100000 in
set_option maxHeartbeats 4000000 in
theorem s_Mo_oddsOf_L104 {D : Nat} (hD : 1 ≤ D) (N : Nat) {r : Int32} {μr : MM} {k94 : Int32 → Int32 → Int32 → Int32 → MM → Option (Int32 × MM)} (hk94 : ∀ (x2 : Int32) (x3 : Int32) (x4 : Int32) (x5 : Int32) (μ : MM), k94 x2 x3 x4 x5 μ = some (r, μr) → Sm D mX12_oddsOf 94 [some (av_r 355), none, some (av_i x2), some (av_i x3), some (av_i x4), some (av_i x5), none, none, none] [] μ (po_i r μr)) : ∀ (n : Nat) (x2 : Int32) (x3 : Int32) (x4 : Int32) (x5 : Int32) (x6 : Int32) (μ : MM), f_Mo_oddsOf_L104 N k94 n x2 x3 x4 x5 x6 μ = some (r, μr) → Sm D mX12_oddsOf 104 [some (av_r 355), none, some (av_i x2), some (av_i x3), some (av_i x4), some (av_i x5), some (av_i x6), none, none] [] μ (po_i r μr) := by
  obtain ⟨d, rfl⟩ : ∃ d, D = d + 1 := ⟨D - 1, by omega⟩
  intro n
  induction n with
  | zero => intro x2 x3 x4 x5 x6 μ h; cases (show none = some (r, μr) from h)
  | succ n ih =>
    intro x2 x3 x4 x5 x6 μ h
    rw [f_Mo_oddsOf_L104] at h
    refine sm_iload dX12_oddsOf_104 rfl ?_
    refine sm_if_lt (tgt := 157) dX12_oddsOf_106 (by decide) (fun g8 => ?_) (fun g8 => ?_)
    · replace h := it_t g8 h
      refine sm_iinc dX12_oddsOf_157 rfl (congrArg (HAdd.hAdd x5) ic_1) (Nat.le_of_ble_eq_true rfl) (pv_i rfl) ?_
      refine sm_goto (tgt := 94) dX12_oddsOf_160 (by decide) ?_
      exact Sm_weak (le_s rfl (le_n (le_s rfl (le_s rfl (le_s rfl (le_s rfl (le_n (le_n (le_n le_0))))))))) (hk94 x2 x3 x4 (x5 + 1) μ h)
    · replace h := it_f g8 h
      refine sm_aload_n dX12_oddsOf_109 rfl rfl ?_
      refine sm_getR dX12_oddsOf_110 fg_RX12_84 k_355 (rf_12_46 k_355) ?_
      refine sm_iload dX12_oddsOf_113 rfl ?_
      obtain ⟨g9, h⟩ := gd_some h
      refine sm_lald (j := (Int32.toNatClampNeg x6)) dX12_oddsOf_115 k_374 (in_sz n_374 g9) rfl ?_
      refine sm_iload_n dX12_oddsOf_116 rfl rfl ?_
      refine sm_i2l dX12_oddsOf_117 ?_
      refine sm_lmul dX12_oddsOf_118 ?_
      refine sm_ldc2 dX12_oddsOf_119 cs_RX12_456 ?_
      refine sm_ldiv dX12_oddsOf_122 (by decide) ?_
      refine sm_lstore dX12_oddsOf_123 (Nat.le_of_ble_eq_true rfl) (pv_i rfl) ?_
      refine sm_aload_n dX12_oddsOf_125 rfl rfl ?_
      refine sm_getR dX12_oddsOf_126 fg_RX12_84 k_355 (rf_12_46 k_355) ?_
      refine sm_iload dX12_oddsOf_129 rfl ?_
      refine sm_iconst dX12_oddsOf_131 ic_1 ?_
      refine sm_iadd dX12_oddsOf_132 ?_
      refine sm_dup2 dX12_oddsOf_133 rfl rfl ?_
      obtain ⟨g10, h⟩ := gd_some h
      refine sm_lald (j := (Int32.toNatClampNeg (x6 + 1))) dX12_oddsOf_134 k_374 (in_sz n_374 g10) rfl ?_
      refine sm_lload dX12_oddsOf_135 rfl ?_
      refine sm_ladd dX12_oddsOf_137 ?_
      obtain ⟨g11, h⟩ := gd_some h
      refine sm_last (j := (Int32.toNatClampNeg (x6 + 1))) dX12_oddsOf_138 k_374 (in_sz n_374 g11) rfl ?_
      replace h := wr_some h
      refine sm_aload_n dX12_oddsOf_139 rfl rfl ?_
      refine sm_getR dX12_oddsOf_140 fg_RX12_84 k_355 (rf_12_46 k_355) ?_
      refine sm_iload dX12_oddsOf_143 rfl ?_
      refine sm_dup2 dX12_oddsOf_145 rfl rfl ?_
      obtain ⟨g12, h⟩ := gd_some h
      refine sm_lald (j := (Int32.toNatClampNeg x6)) dX12_oddsOf_146 k_374 (in_sz n_374 g12) rfl ?_
      refine sm_lload dX12_oddsOf_147 rfl ?_
      refine sm_lsub dX12_oddsOf_149 ?_
      obtain ⟨g13, h⟩ := gd_some h
      refine sm_last (j := (Int32.toNatClampNeg x6)) dX12_oddsOf_150 k_374 (in_sz n_374 g13) rfl ?_
      replace h := wr_some h
      refine sm_iinc dX12_oddsOf_151 rfl (congrArg (HAdd.hAdd x6) ic_m1) (Nat.le_of_ble_eq_true rfl) (pv_i rfl) ?_
      refine sm_goto (tgt := 104) dX12_oddsOf_154 (by decide) ?_
      exact Sm_weak (le_s rfl (le_n (le_s rfl (le_s rfl (le_s rfl (le_s rfl (le_s rfl (le_n (le_n le_0))))))))) (ih x2 x3 x4 x5 (x6 + (-1)) (mm_J (mm_J μ 374 (Int32.toNatClampNeg (x6 + 1)) ((μ.2 374 (Int32.toNatClampNeg (x6 + 1))) + (((μ.2 374 (Int32.toNatClampNeg x6)) * (Int32.toInt64 x3)) / 100))) 374 (Int32.toNatClampNeg x6) (((mm_J μ 374 (Int32.toNatClampNeg (x6 + 1)) ((μ.2 374 (Int32.toNatClampNeg (x6 + 1))) + (((μ.2 374 (Int32.toNatClampNeg x6)) * (Int32.toInt64 x3)) / 100))).2 374 (Int32.toNatClampNeg x6)) - (((μ.2 374 (Int32.toNatClampNeg x6)) * (Int32.toInt64 x3)) / 100))) h)
set_option maxRecDepth 100000 in
set_option maxHeartbeats 4000000 in
theorem s_Mo_oddsOf_L94 {D : Nat} (hD : 1 ≤ D) (N : Nat) {r : Int32} {μr : MM} : ∀ (n : Nat) (x2 : Int32) (x3 : Int32) (x4 : Int32) (x5 : Int32) (μ : MM), f_Mo_oddsOf_L94 N n x2 x3 x4 x5 μ = some (r, μr) → Sm D mX12_oddsOf 94 [some (av_r 355), none, some (av_i x2), some (av_i x3), some (av_i x4), some (av_i x5), none, none, none] [] μ (po_i r μr) := by
  obtain ⟨d, rfl⟩ : ∃ d, D = d + 1 := ⟨D - 1, by omega⟩
  intro n
  induction n with
  | zero => intro x2 x3 x4 x5 μ h; cases (show none = some (r, μr) from h)
  | succ n ih =>
    intro x2 x3 x4 x5 μ h
    rw [f_Mo_oddsOf_L94] at h
    refine sm_iload dX12_oddsOf_94 rfl ?_
    refine sm_iload_n dX12_oddsOf_96 rfl rfl ?_
    refine sm_icmp_ge (tgt := 163) dX12_oddsOf_97 (by decide) (fun g4 => ?_) (fun g4 => ?_)
    · replace h := it_t g4 h
      refine sm_lconst dX12_oddsOf_163 lc_0 ?_
      refine sm_lstore dX12_oddsOf_164 (Nat.le_of_ble_eq_true rfl) (pv_i rfl) ?_
      refine sm_iconst dX12_oddsOf_166 ic_0 ?_
      refine sm_istore dX12_oddsOf_167 (Nat.le_of_ble_eq_true rfl) (pv_n rfl) ?_
      exact Sm_weak (le_s rfl (le_n (le_n (le_n (le_s rfl (le_s rfl (le_n (le_s rfl (le_n le_0))))))))) (s_Mo_oddsOf_L169 hD N N x4 0 0 μ h)
    · replace h := it_f g4 h
      refine sm_iload dX12_oddsOf_100 rfl ?_
      refine sm_istore dX12_oddsOf_102 (Nat.le_of_ble_eq_true rfl) (pv_i rfl) ?_
      exact Sm_weak (le_s rfl (le_n (le_s rfl (le_s rfl (le_s rfl (le_s rfl (le_s rfl (le_n (le_n le_0))))))))) (s_Mo_oddsOf_L104 hD N ih N x2 x3 x4 x5 x5 μ h)
set_option maxRecDepth 100000 in
set_option maxHeartbeats 4000000 in
theorem s_Mo_oddsOf_B84 {D : Nat} (hD : 1 ≤ D) (N : Nat) {r : Int32} {μr : MM} {k59 : Int32 → Int32 → Int32 → Int32 → MM → Option (Int32 × MM)} (hk59 : ∀ (x2 : Int32) (x3 : Int32) (x4 : Int32) (x5 : Int32) (μ : MM), k59 x2 x3 x4 x5 μ = some (r, μr) → Sm D mX12_oddsOf 59 [some (av_r 355), none, some (av_i x2), some (av_i x3), some (av_i x4), some (av_i x5), none, none, none] [] μ (po_i r μr)) (x2 : Int32) (x3 : Int32) (x4 : Int32) (x5 : Int32) (s1 : Int32) (s2 : Int64) (μ : MM) (h : f_Mo_oddsOf_B84 N k59 x2 x3 x4 x5 s1 s2 μ = some (r, μr)) : Sm D mX12_oddsOf 84 [some (av_r 355), none, some (av_i x2), some (av_i x3), some (av_i x4), some (av_i x5), none, none, none] [av_l s2, av_i s1, av_r 374] μ (po_i r μr) := by
  obtain ⟨d, rfl⟩ : ∃ d, D = d + 1 := ⟨D - 1, by omega⟩
  unfold f_Mo_oddsOf_B84 at h
  obtain ⟨g14, h⟩ := gd_some h
  refine sm_last (j := (Int32.toNatClampNeg s1)) dX12_oddsOf_84 k_374 (in_sz n_374 g14) rfl ?_
  replace h := wr_some h
  refine sm_iinc dX12_oddsOf_85 rfl (congrArg (HAdd.hAdd x5) ic_1) (Nat.le_of_ble_eq_true rfl) (pv_i rfl) ?_
  refine sm_goto (tgt := 59) dX12_oddsOf_88 (by decide) ?_
  exact Sm_weak (le_s rfl (le_n (le_s rfl (le_s rfl (le_s rfl (le_s rfl (le_n (le_n (le_n le_0))))))))) (hk59 x2 x3 x4 (x5 + 1) (mm_J μ 374 (Int32.toNatClampNeg s1) s2) h)
set_option maxRecDepth 100000 in
set_option maxHeartbeats 4000000 in
theorem s_Mo_oddsOf_L59 {D : Nat} (hD : 1 ≤ D) (N : Nat) {r : Int32} {μr : MM} : ∀ (n : Nat) (x2 : Int32) (x3 : Int32) (x4 : Int32) (x5 : Int32) (μ : MM), f_Mo_oddsOf_L59 N n x2 x3 x4 x5 μ = some (r, μr) → Sm D mX12_oddsOf 59 [some (av_r 355), none, some (av_i x2), some (av_i x3), some (av_i x4), some (av_i x5), none, none, none] [] μ (po_i r μr) := by
  obtain ⟨d, rfl⟩ : ∃ d, D = d + 1 := ⟨D - 1, by omega⟩
  intro n
  induction n with
  | zero => intro x2 x3 x4 x5 μ h; cases (show none = some (r, μr) from h)
  | succ n ih =>
    intro x2 x3 x4 x5 μ h
    rw [f_Mo_oddsOf_L59] at h
    refine sm_iload dX12_oddsOf_59 rfl ?_
    refine sm_bipush dX12_oddsOf_61 bp_32 ?_
    refine sm_icmp_ge (tgt := 91) dX12_oddsOf_63 (by decide) (fun g3 => ?_) (fun g3 => ?_)
    · replace h := it_t g3 h
      refine sm_iconst dX12_oddsOf_91 ic_0 ?_
      refine sm_istore dX12_oddsOf_92 (Nat.le_of_ble_eq_true rfl) (pv_i rfl) ?_
      exact Sm_weak (le_s rfl (le_n (le_s rfl (le_s rfl (le_s rfl (le_s rfl (le_n (le_n (le_n le_0))))))))) (s_Mo_oddsOf_L94 hD N N x2 x3 x4 0 μ h)
    · replace h := it_f g3 h
      refine sm_aload_n dX12_oddsOf_66 rfl rfl ?_
      refine sm_getR dX12_oddsOf_67 fg_RX12_84 k_355 (rf_12_46 k_355) ?_
      refine sm_iload dX12_oddsOf_70 rfl ?_
      refine sm_iload dX12_oddsOf_72 rfl ?_
      have hj74 : ∀ (v74_0 : Int64), v74_0 = (if x5 = 0 then (1000000000 : Int64) else 0) → Sm (d + 1) mX12_oddsOf 84 [some (av_r 355), none, some (av_i x2), some (av_i x3), some (av_i x4), some (av_i x5), none, none, none] [av_l v74_0, av_i x5, av_r 374] μ (po_i r μr) := by
        intro v74_0 ev74_0
        subst ev74_0
        exact Sm_weak (le_s rfl (le_n (le_s rfl (le_s rfl (le_s rfl (le_s rfl (le_n (le_n (le_n le_0))))))))) (s_Mo_oddsOf_B84 hD N ih x2 x3 x4 x5 x5 (if x5 = 0 then (1000000000 : Int64) else 0) μ h)
      refine sm_if_ne (tgt := 83) dX12_oddsOf_74 (by decide) (fun c74_0 => ?_) (fun c74_0 => ?_)
      · refine sm_lconst dX12_oddsOf_83 lc_0 ?_
        exact Sm_weak (le_s rfl (le_n (le_s rfl (le_s rfl (le_s rfl (le_s rfl (le_n (le_n (le_n le_0))))))))) (hj74 _ (if_neg c74_0).symm)
      · refine sm_ldc2 dX12_oddsOf_77 cs_RX12_454 ?_
        refine sm_goto (tgt := 84) dX12_oddsOf_80 (by decide) ?_
        exact Sm_weak (le_s rfl (le_n (le_s rfl (le_s rfl (le_s rfl (le_s rfl (le_n (le_n (le_n le_0))))))))) (hj74 _ (if_pos c74_0).symm)
set_option maxRecDepth 100000 in
set_option maxHeartbeats 4000000 in
theorem s_Mo_oddsOf_L7 {D : Nat} (hD : 1 ≤ D) (N : Nat) {r : Int32} {μr : MM} : ∀ (n : Nat) (x1 : Int32) (x2 : Int32) (x3 : Int32) (x4 : Int32) (x5 : Int32) (μ : MM), f_Mo_oddsOf_L7 N n x1 x2 x3 x4 x5 μ = some (r, μr) → Sm D mX12_oddsOf 7 [some (av_r 355), some (av_i x1), some (av_i x2), some (av_i x3), some (av_i x4), some (av_i x5), none, none, none] [] μ (po_i r μr) := by
  obtain ⟨d, rfl⟩ : ∃ d, D = d + 1 := ⟨D - 1, by omega⟩
  intro n
  induction n with
  | zero => intro x1 x2 x3 x4 x5 μ h; cases (show none = some (r, μr) from h)
  | succ n ih =>
    intro x1 x2 x3 x4 x5 μ h
    rw [f_Mo_oddsOf_L7] at h
    refine sm_iload dX12_oddsOf_7 rfl ?_
    refine sm_aload_n dX12_oddsOf_9 rfl rfl ?_
    refine sm_getR dX12_oddsOf_10 fg_RX12_61 k_355 (rf_12_32 k_355) ?_
    refine sm_iload_n dX12_oddsOf_13 rfl rfl ?_
    obtain ⟨t14, μ1z, g1, h⟩ := ob_some h
    refine sm_callS dX12_oddsOf_14 cs_X12_wordsOf ml_RX12_323 (as := [av_r 368, av_i x1]) rfl (Nat.le_of_ble_eq_true rfl) rfl (s_Mo_wordsOf (D := d) (by omega) N k_368 g1) (fun r9 μ9 hp => ?_)
    rw [hp.1, hp.2]
    clear hp r9 μ9
    refine sm_icmp_ge (tgt := 56) dX12_oddsOf_17 (by decide) (fun g2 => ?_) (fun g2 => ?_)
    · replace h := it_t g2 h
      refine sm_iconst dX12_oddsOf_56 ic_0 ?_
      refine sm_istore dX12_oddsOf_57 (Nat.le_of_ble_eq_true rfl) (pv_i rfl) ?_
      exact Sm_weak (le_s rfl (le_n (le_s rfl (le_s rfl (le_s rfl (le_s rfl (le_n (le_n (le_n le_0))))))))) (s_Mo_oddsOf_L59 hD N N x2 x3 x4 0 μ1z h)
    · replace h := it_f g2 h
      refine sm_aload_n dX12_oddsOf_20 rfl rfl ?_
      refine sm_getR dX12_oddsOf_21 fg_RX12_61 k_355 (rf_12_32 k_355) ?_
      refine sm_iload_n dX12_oddsOf_24 rfl rfl ?_
      refine sm_iload dX12_oddsOf_25 rfl ?_
      obtain ⟨t27, μ5z, g15, h⟩ := ob_some h
      refine sm_callS dX12_oddsOf_27 cs_X12_inkOf ml_RX12_327 (as := [av_r 368, av_i x1, av_i x5]) rfl (Nat.le_of_ble_eq_true rfl) rfl (s_Mo_inkOf (D := d) (by omega) N k_368 g15) (fun r9 μ9 hp => ?_)
      rw [hp.1, hp.2]
      clear hp r9 μ9
      refine sm_if_le (tgt := 50) dX12_oddsOf_30 (by decide) (fun g16 => ?_) (fun g16 => ?_)
      · replace h := it_t g16 h
        refine sm_iinc dX12_oddsOf_50 rfl (congrArg (HAdd.hAdd x5) ic_1) (Nat.le_of_ble_eq_true rfl) (pv_i rfl) ?_
        refine sm_goto (tgt := 7) dX12_oddsOf_53 (by decide) ?_
        exact Sm_weak (le_s rfl (le_s rfl (le_s rfl (le_s rfl (le_s rfl (le_s rfl (le_n (le_n (le_n le_0))))))))) (ih x1 x2 x3 x4 (x5 + 1) μ5z h)
      · replace h := it_f g16 h
        refine sm_iload dX12_oddsOf_33 rfl ?_
        refine sm_aload_n dX12_oddsOf_35 rfl rfl ?_
        refine sm_getR dX12_oddsOf_36 fg_RX12_61 k_355 (rf_12_32 k_355) ?_
        refine sm_iload_n dX12_oddsOf_39 rfl rfl ?_
        refine sm_iload dX12_oddsOf_40 rfl ?_
        obtain ⟨t42, μ6z, g17, h⟩ := ob_some h
        refine sm_callS dX12_oddsOf_42 cs_X12_inkOf ml_RX12_327 (as := [av_r 368, av_i x1, av_i x5]) rfl (Nat.le_of_ble_eq_true rfl) rfl (s_Mo_inkOf (D := d) (by omega) N k_368 g17) (fun r9 μ9 hp => ?_)
        rw [hp.1, hp.2]
        clear hp r9 μ9
        refine sm_min dX12_oddsOf_45 ml_RX12_338 (Nat.le_of_ble_eq_true rfl) ?_
        refine sm_istore dX12_oddsOf_48 (Nat.le_of_ble_eq_true rfl) (pv_i rfl) ?_
        refine sm_iinc dX12_oddsOf_50 rfl (congrArg (HAdd.hAdd x5) ic_1) (Nat.le_of_ble_eq_true rfl) (pv_i rfl) ?_
        refine sm_goto (tgt := 7) dX12_oddsOf_53 (by decide) ?_
        exact Sm_weak (le_s rfl (le_s rfl (le_s rfl (le_s rfl (le_s rfl (le_s rfl (le_n (le_n (le_n le_0))))))))) (ih x1 x2 x3 (if t42 < x4 then t42 else x4) (x5 + 1) μ6z h)
set_option maxRecDepth 100000 in
set_option maxHeartbeats 4000000 in
theorem s_Mo_oddsOf {D : Nat} (hD : 1 ≤ D) (N : Nat) {x1 : Int32} {x2 : Int32} {x3 : Int32} {μ : MM} {r : Int32} {μr : MM} (h : f_Mo_oddsOf N x1 x2 x3 μ = some (r, μr)) : Cl D mX12_oddsOf [av_r 355, av_i x1, av_i x2, av_i x3] μ (po_i r μr) := by
  obtain ⟨d, rfl⟩ : ∃ d, D = d + 1 := ⟨D - 1, by omega⟩
  refine Cl_of pn_X12 (Nat.le_of_ble_eq_true rfl) ?_
  show Sm (d + 1) mX12_oddsOf 0 [some (av_r 355), some (av_i x1), some (av_i x2), some (av_i x3), none, none, none, none, none] [] μ (po_i r μr)
  unfold f_Mo_oddsOf at h
  refine sm_bipush dX12_oddsOf_0 bp_99 ?_
  refine sm_istore dX12_oddsOf_2 (Nat.le_of_ble_eq_true rfl) (pv_i rfl) ?_
  refine sm_iconst dX12_oddsOf_4 ic_0 ?_
  refine sm_istore dX12_oddsOf_5 (Nat.le_of_ble_eq_true rfl) (pv_i rfl) ?_
  exact Sm_weak (le_s rfl (le_s rfl (le_s rfl (le_s rfl (le_s rfl (le_s rfl (le_n (le_n (le_n le_0))))))))) (s_Mo_oddsOf_L7 hD N N x1 x2 x3 99 0 μ h)
set_option maxRecDepth 100000 in
set_option maxHeartbeats 4000000 in
theorem s_Mo_odds {D : Nat} (hD : 2 ≤ D) (N : Nat) {x1 : Int32} {x2 : Int32} {x3 : Int32} {μ : MM} {r : Int32} {μr : MM} (h : f_Mo_odds N x1 x2 x3 μ = some (r, μr)) : Cl D mX12_odds [av_r 355, av_i x1, av_i x2, av_i x3] μ (po_i r μr) := by
  obtain ⟨d, rfl⟩ : ∃ d, D = d + 1 := ⟨D - 1, by omega⟩
  refine Cl_of pn_X12 (Nat.le_of_ble_eq_true rfl) ?_
  show Sm (d + 1) mX12_odds 0 [some (av_r 355), some (av_i x1), some (av_i x2), some (av_i x3)] [] μ (po_i r μr)
  unfold f_Mo_odds at h
  refine sm_aload_n dX12_odds_0 rfl rfl ?_
  refine sm_iconst dX12_odds_1 ic_0 ?_
  refine sm_putI dX12_odds_2 fp_RX12_91 k_355 ?_
  replace h := wr_some h
  refine sm_aload_n dX12_odds_5 rfl rfl ?_
  refine sm_iload_n dX12_odds_6 rfl rfl ?_
  obtain ⟨t7, μ2z, g1, h⟩ := ob_some h
  refine sm_callV dX12_odds_7 cv_X12_isCard ml_RX12_362 k_355 rfl rfl (by decide) (as := [av_i x1]) rfl (Nat.le_of_ble_eq_true rfl) rfl (s_Mo_isCard (D := d) (by omega) N g1) (fun r9 μ9 hp => ?_)
  rw [hp.1, hp.2]
  clear hp r9 μ9
  refine sm_if_eq (tgt := 47) dX12_odds_10 (by decide) (fun g2 => ?_) (fun g2 => ?_)
  · replace h := it_t g2 h
    refine sm_iconst dX12_odds_47 ic_m1 ?_
    cases h
    exact sm_ret_i (st := []) dX12_odds_48 rfl ⟨rfl, rfl⟩
  · replace h := it_f g2 h
    refine sm_iload_n dX12_odds_13 rfl rfl ?_
    refine sm_i2l dX12_odds_14 ?_
    refine sm_lconst dX12_odds_15 lc_0 ?_
    refine sm_ldc2 dX12_odds_16 cs_RX12_458 ?_
    obtain ⟨t19, μ3z, g3, h⟩ := ob_some h
    refine sm_callS dX12_odds_19 cs_X12_isIn ml_RX12_212 (as := [av_l (Int32.toInt64 x2), av_l 0, av_l 30]) rfl (Nat.le_of_ble_eq_true rfl) rfl (s_Mo_isIn (D := d) (by omega) N g3) (fun r9 μ9 hp => ?_)
    rw [hp.1, hp.2]
    clear hp r9 μ9
    refine sm_if_eq (tgt := 47) dX12_odds_22 (by decide) (fun g4 => ?_) (fun g4 => ?_)
    · replace h := it_t g4 h
      refine sm_iconst dX12_odds_47 ic_m1 ?_
      cases h
      exact sm_ret_i (st := []) dX12_odds_48 rfl ⟨rfl, rfl⟩
    · replace h := it_f g4 h
      refine sm_iload_n dX12_odds_25 rfl rfl ?_
      refine sm_i2l dX12_odds_26 ?_
      refine sm_lconst dX12_odds_27 lc_0 ?_
      refine sm_ldc2 dX12_odds_28 cs_RX12_456 ?_
      obtain ⟨t31, μ4z, g5, h⟩ := ob_some h
      refine sm_callS dX12_odds_31 cs_X12_isIn ml_RX12_212 (as := [av_l (Int32.toInt64 x3), av_l 0, av_l 100]) rfl (Nat.le_of_ble_eq_true rfl) rfl (s_Mo_isIn (D := d) (by omega) N g5) (fun r9 μ9 hp => ?_)
      rw [hp.1, hp.2]
      clear hp r9 μ9
      refine sm_if_eq (tgt := 47) dX12_odds_34 (by decide) (fun g6 => ?_) (fun g6 => ?_)
      · replace h := it_t g6 h
        refine sm_iconst dX12_odds_47 ic_m1 ?_
        cases h
        exact sm_ret_i (st := []) dX12_odds_48 rfl ⟨rfl, rfl⟩
      · replace h := it_f g6 h
        refine sm_aload_n dX12_odds_37 rfl rfl ?_
        refine sm_iload_n dX12_odds_38 rfl rfl ?_
        refine sm_iload_n dX12_odds_39 rfl rfl ?_
        refine sm_iload_n dX12_odds_40 rfl rfl ?_
        obtain ⟨t41, μ5z, g7, h⟩ := ob_some h
        refine sm_callV dX12_odds_41 cv_X12_oddsOf ml_RX12_460 k_355 rfl rfl (by decide) (as := [av_i x1, av_i x2, av_i x3]) rfl (Nat.le_of_ble_eq_true rfl) rfl (s_Mo_oddsOf (D := d) (by omega) N g7) (fun r9 μ9 hp => ?_)
        rw [hp.1, hp.2]
        clear hp r9 μ9
        refine sm_goto (tgt := 48) dX12_odds_44 (by decide) ?_
        cases h
        exact sm_ret_i (st := []) dX12_odds_48 rfl ⟨rfl, rfl⟩
set_option maxRecDepth 100000 in
set_option maxHeartbeats 4000000 in
theorem s_Mo_rescue_L43 {D : Nat} (hD : 2 ≤ D) (N : Nat) {r : Int32} {μr : MM} : ∀ (n : Nat) (x1 : Int32) (x2 : Int32) (x3 : Int32) (x4 : Int32) (μ : MM), f_Mo_rescue_L43 N n x1 x2 x3 x4 μ = some (r, μr) → Sm D mX12_rescue 43 [some (av_r 355), some (av_i x1), some (av_i x2), some (av_i x3), some (av_i x4)] [] μ (po_i r μr) := by
  obtain ⟨d, rfl⟩ : ∃ d, D = d + 1 := ⟨D - 1, by omega⟩
  intro n
  induction n with
  | zero => intro x1 x2 x3 x4 μ h; cases (show none = some (r, μr) from h)
  | succ n ih =>
    intro x1 x2 x3 x4 μ h
    rw [f_Mo_rescue_L43] at h
    refine sm_iload dX12_rescue_43 rfl ?_
    refine sm_aload_n dX12_rescue_45 rfl rfl ?_
    refine sm_getI dX12_rescue_46 fg_RX12_297 k_355 ?_
    refine sm_icmp_ge (tgt := 96) dX12_rescue_49 (by decide) (fun g6 => ?_) (fun g6 => ?_)
    · replace h := it_t g6 h
      refine sm_iload_n dX12_rescue_96 rfl rfl ?_
      cases h
      exact sm_ret_i (st := []) dX12_rescue_97 rfl ⟨rfl, rfl⟩
    · replace h := it_f g6 h
      refine sm_aload_n dX12_rescue_52 rfl rfl ?_
      refine sm_getR dX12_rescue_53 fg_RX12_61 k_355 (rf_12_32 k_355) ?_
      refine sm_iload dX12_rescue_56 rfl ?_
      obtain ⟨t58, μ4z, g7, h⟩ := ob_some h
      refine sm_callS dX12_rescue_58 cs_X12_leftOf ml_RX12_375 (as := [av_r 368, av_i x4]) rfl (Nat.le_of_ble_eq_true rfl) rfl (s_Mo_leftOf (D := d) (by omega) N k_368 g7) (fun r9 μ9 hp => ?_)
      rw [hp.1, hp.2]
      clear hp r9 μ9
      refine sm_if_le (tgt := 90) dX12_rescue_61 (by decide) (fun g8 => ?_) (fun g8 => ?_)
      · replace h := it_t g8 h
        refine sm_iinc dX12_rescue_90 rfl (congrArg (HAdd.hAdd x4) ic_1) (Nat.le_of_ble_eq_true rfl) (pv_i rfl) ?_
        refine sm_goto (tgt := 43) dX12_rescue_93 (by decide) ?_
        exact Sm_weak (le_s rfl (le_s rfl (le_s rfl (le_s rfl (le_s rfl le_0))))) (ih x1 x2 x3 (x4 + 1) μ4z h)
      · replace h := it_f g8 h
        refine sm_iload_n dX12_rescue_64 rfl rfl ?_
        refine sm_iconst dX12_rescue_65 ic_m1 ?_
        refine sm_icmp_eq (tgt := 87) dX12_rescue_66 (by decide) (fun g9 => ?_) (fun g9 => ?_)
        · replace h := it_t g9 h
          refine sm_iload dX12_rescue_87 rfl ?_
          refine sm_istore_n dX12_rescue_89 rfl (Nat.le_of_ble_eq_true rfl) (pv_i rfl) ?_
          refine sm_iinc dX12_rescue_90 rfl (congrArg (HAdd.hAdd x4) ic_1) (Nat.le_of_ble_eq_true rfl) (pv_i rfl) ?_
          refine sm_goto (tgt := 43) dX12_rescue_93 (by decide) ?_
          exact Sm_weak (le_s rfl (le_s rfl (le_s rfl (le_s rfl (le_s rfl le_0))))) (ih x1 x2 x4 (x4 + 1) μ4z h)
        · replace h := it_f g9 h
          refine sm_aload_n dX12_rescue_69 rfl rfl ?_
          refine sm_iload dX12_rescue_70 rfl ?_
          refine sm_iload_n dX12_rescue_72 rfl rfl ?_
          refine sm_iload_n dX12_rescue_73 rfl rfl ?_
          obtain ⟨t74, μ5z, g10, h⟩ := ob_some h
          refine sm_callV dX12_rescue_74 cv_X12_oddsOf ml_RX12_460 k_355 rfl rfl (by decide) (as := [av_i x4, av_i x1, av_i x2]) rfl (Nat.le_of_ble_eq_true rfl) rfl (s_Mo_oddsOf (D := d) (by omega) N g10) (fun r9 μ9 hp => ?_)
          rw [hp.1, hp.2]
          clear hp r9 μ9
          refine sm_aload_n dX12_rescue_77 rfl rfl ?_
          refine sm_iload_n dX12_rescue_78 rfl rfl ?_
          refine sm_iload_n dX12_rescue_79 rfl rfl ?_
          refine sm_iload_n dX12_rescue_80 rfl rfl ?_
          obtain ⟨t81, μ6z, g11, h⟩ := ob_some h
          refine sm_callV dX12_rescue_81 cv_X12_oddsOf ml_RX12_460 k_355 rfl rfl (by decide) (as := [av_i x3, av_i x1, av_i x2]) rfl (Nat.le_of_ble_eq_true rfl) rfl (s_Mo_oddsOf (D := d) (by omega) N g11) (fun r9 μ9 hp => ?_)
          rw [hp.1, hp.2]
          clear hp r9 μ9
          refine sm_icmp_ge (tgt := 90) dX12_rescue_84 (by decide) (fun g12 => ?_) (fun g12 => ?_)
          · replace h := it_t g12 h
            refine sm_iinc dX12_rescue_90 rfl (congrArg (HAdd.hAdd x4) ic_1) (Nat.le_of_ble_eq_true rfl) (pv_i rfl) ?_
            refine sm_goto (tgt := 43) dX12_rescue_93 (by decide) ?_
            exact Sm_weak (le_s rfl (le_s rfl (le_s rfl (le_s rfl (le_s rfl le_0))))) (ih x1 x2 x3 (x4 + 1) μ6z h)
          · replace h := it_f g12 h
            refine sm_iload dX12_rescue_87 rfl ?_
            refine sm_istore_n dX12_rescue_89 rfl (Nat.le_of_ble_eq_true rfl) (pv_i rfl) ?_
            refine sm_iinc dX12_rescue_90 rfl (congrArg (HAdd.hAdd x4) ic_1) (Nat.le_of_ble_eq_true rfl) (pv_i rfl) ?_
            refine sm_goto (tgt := 43) dX12_rescue_93 (by decide) ?_
            exact Sm_weak (le_s rfl (le_s rfl (le_s rfl (le_s rfl (le_s rfl le_0))))) (ih x1 x2 x4 (x4 + 1) μ6z h)
set_option maxRecDepth 100000 in
set_option maxHeartbeats 4000000 in
theorem s_Mo_rescue {D : Nat} (hD : 2 ≤ D) (N : Nat) {x1 : Int32} {x2 : Int32} {μ : MM} {r : Int32} {μr : MM} (h : f_Mo_rescue N x1 x2 μ = some (r, μr)) : Cl D mX12_rescue [av_r 355, av_i x1, av_i x2] μ (po_i r μr) := by
  obtain ⟨d, rfl⟩ : ∃ d, D = d + 1 := ⟨D - 1, by omega⟩
  refine Cl_of pn_X12 (Nat.le_of_ble_eq_true rfl) ?_
  show Sm (d + 1) mX12_rescue 0 [some (av_r 355), some (av_i x1), some (av_i x2), none, none] [] μ (po_i r μr)
  unfold f_Mo_rescue at h
  refine sm_aload_n dX12_rescue_0 rfl rfl ?_
  refine sm_iconst dX12_rescue_1 ic_0 ?_
  refine sm_putI dX12_rescue_2 fp_RX12_91 k_355 ?_
  replace h := wr_some h
  refine sm_aload_n dX12_rescue_5 rfl rfl ?_
  refine sm_getI dX12_rescue_6 fg_RX12_297 k_355 ?_
  refine sm_if_eq (tgt := 36) dX12_rescue_9 (by decide) (fun g1 => ?_) (fun g1 => ?_)
  · replace h := it_t g1 h
    refine sm_iconst dX12_rescue_36 ic_m1 ?_
    cases h
    exact sm_ret_i (st := []) dX12_rescue_37 rfl ⟨rfl, rfl⟩
  · replace h := it_f g1 h
    refine sm_iload_n dX12_rescue_12 rfl rfl ?_
    refine sm_i2l dX12_rescue_13 ?_
    refine sm_lconst dX12_rescue_14 lc_0 ?_
    refine sm_ldc2 dX12_rescue_15 cs_RX12_458 ?_
    obtain ⟨t18, μ2z, g2, h⟩ := ob_some h
    refine sm_callS dX12_rescue_18 cs_X12_isIn ml_RX12_212 (as := [av_l (Int32.toInt64 x1), av_l 0, av_l 30]) rfl (Nat.le_of_ble_eq_true rfl) rfl (s_Mo_isIn (D := d) (by omega) N g2) (fun r9 μ9 hp => ?_)
    rw [hp.1, hp.2]
    clear hp r9 μ9
    refine sm_if_eq (tgt := 36) dX12_rescue_21 (by decide) (fun g3 => ?_) (fun g3 => ?_)
    · replace h := it_t g3 h
      refine sm_iconst dX12_rescue_36 ic_m1 ?_
      cases h
      exact sm_ret_i (st := []) dX12_rescue_37 rfl ⟨rfl, rfl⟩
    · replace h := it_f g3 h
      refine sm_iload_n dX12_rescue_24 rfl rfl ?_
      refine sm_i2l dX12_rescue_25 ?_
      refine sm_lconst dX12_rescue_26 lc_0 ?_
      refine sm_ldc2 dX12_rescue_27 cs_RX12_456 ?_
      obtain ⟨t30, μ3z, g4, h⟩ := ob_some h
      refine sm_callS dX12_rescue_30 cs_X12_isIn ml_RX12_212 (as := [av_l (Int32.toInt64 x2), av_l 0, av_l 100]) rfl (Nat.le_of_ble_eq_true rfl) rfl (s_Mo_isIn (D := d) (by omega) N g4) (fun r9 μ9 hp => ?_)
      rw [hp.1, hp.2]
      clear hp r9 μ9
      refine sm_if_ne (tgt := 38) dX12_rescue_33 (by decide) (fun g5 => ?_) (fun g5 => ?_)
      · replace h := it_f g5 h
        refine sm_iconst dX12_rescue_38 ic_m1 ?_
        refine sm_istore_n dX12_rescue_39 rfl (Nat.le_of_ble_eq_true rfl) (pv_i rfl) ?_
        refine sm_iconst dX12_rescue_40 ic_0 ?_
        refine sm_istore dX12_rescue_41 (Nat.le_of_ble_eq_true rfl) (pv_i rfl) ?_
        exact Sm_weak (le_s rfl (le_s rfl (le_s rfl (le_s rfl (le_s rfl le_0))))) (s_Mo_rescue_L43 hD N N x1 x2 (-1) 0 μ3z h)
      · replace h := it_t g5 h
        refine sm_iconst dX12_rescue_36 ic_m1 ?_
        cases h
        exact sm_ret_i (st := []) dX12_rescue_37 rfl ⟨rfl, rfl⟩
set_option maxRecDepth 100000 in
set_option maxHeartbeats 4000000 in
theorem s_Mo_image {D : Nat} (hD : 1 ≤ D) (N : Nat) {μ : MM} {r : Int32} {μr : MM} (h : f_Mo_image N μ = some (r, μr)) : Cl D mX12_image [av_r 355] μ (po_i r μr) := by
  obtain ⟨d, rfl⟩ : ∃ d, D = d + 1 := ⟨D - 1, by omega⟩
  refine Cl_of pn_X12 (Nat.le_of_ble_eq_true rfl) ?_
  show Sm (d + 1) mX12_image 0 [some (av_r 355)] [] μ (po_i r μr)
  unfold f_Mo_image at h
  refine sm_aload_n dX12_image_0 rfl rfl ?_
  refine sm_iconst dX12_image_1 ic_0 ?_
  refine sm_putI dX12_image_2 fp_RX12_91 k_355 ?_
  replace h := wr_some h
  refine sm_aload_n dX12_image_5 rfl rfl ?_
  refine sm_getI dX12_image_6 fg_RX12_297 k_355 ?_
  refine sm_if_ne (tgt := 14) dX12_image_9 (by decide) (fun g1 => ?_) (fun g1 => ?_)
  · replace h := it_f g1 h
    refine sm_aload_n dX12_image_14 rfl rfl ?_
    refine sm_getR dX12_image_15 fg_RX12_61 k_355 (rf_12_32 k_355) ?_
    refine sm_aload_n dX12_image_18 rfl rfl ?_
    refine sm_getR dX12_image_19 fg_RX12_88 k_355 (rf_12_47 k_355) ?_
    obtain ⟨μ2z, g2, h⟩ := obv_some h
    refine sm_callS dX12_image_22 cs_X12_copies ml_RX12_413 (as := [av_r 368, av_r 375]) rfl (Nat.le_of_ble_eq_true rfl) rfl (s_Mo_copies (D := d) (by omega) N k_368 k_375 g2) (fun r9 μ9 hp => ?_)
    rw [hp.1, hp.2]
    clear hp r9 μ9
    refine sm_aload_n dX12_image_25 rfl rfl ?_
    refine sm_iconst dX12_image_26 ic_1 ?_
    refine sm_putZ dX12_image_27 fp_RX12_310 k_355 (Or.inr rfl) ?_
    replace h := wr_some h
    refine sm_aload_n dX12_image_30 rfl rfl ?_
    refine sm_getR dX12_image_31 fg_RX12_61 k_355 (rf_12_32 k_355) ?_
    refine sm_bipush dX12_image_34 bp_122 ?_
    refine sm_iald (j := 122) dX12_image_36 k_368 (in_sz n_368 (by decide)) (by decide) ?_
    cases h
    exact sm_ret_i (st := []) dX12_image_37 rfl ⟨rfl, rfl⟩
  · replace h := it_t g1 h
    refine sm_iconst dX12_image_12 ic_m1 ?_
    cases h
    exact sm_ret_i (st := []) dX12_image_13 rfl ⟨rfl, rfl⟩
set_option maxRecDepth 100000 in
set_option maxHeartbeats 4000000 in
theorem s_Mo_back {D : Nat} (hD : 1 ≤ D) (N : Nat) {μ : MM} {r : Int32} {μr : MM} (h : f_Mo_back N μ = some (r, μr)) : Cl D mX12_back [av_r 355] μ (po_i r μr) := by
  obtain ⟨d, rfl⟩ : ∃ d, D = d + 1 := ⟨D - 1, by omega⟩
  refine Cl_of pn_X12 (Nat.le_of_ble_eq_true rfl) ?_
  show Sm (d + 1) mX12_back 0 [some (av_r 355)] [] μ (po_i r μr)
  unfold f_Mo_back at h
  refine sm_aload_n dX12_back_0 rfl rfl ?_
  refine sm_iconst dX12_back_1 ic_0 ?_
  refine sm_putI dX12_back_2 fp_RX12_91 k_355 ?_
  replace h := wr_some h
  refine sm_aload_n dX12_back_5 rfl rfl ?_
  refine sm_getI dX12_back_6 fg_RX12_310 k_355 ?_
  refine sm_if_ne (tgt := 14) dX12_back_9 (by decide) (fun g1 => ?_) (fun g1 => ?_)
  · replace h := it_f g1 h
    refine sm_aload_n dX12_back_14 rfl rfl ?_
    refine sm_getR dX12_back_15 fg_RX12_88 k_355 (rf_12_47 k_355) ?_
    refine sm_aload_n dX12_back_18 rfl rfl ?_
    refine sm_getR dX12_back_19 fg_RX12_61 k_355 (rf_12_32 k_355) ?_
    obtain ⟨μ2z, g2, h⟩ := obv_some h
    refine sm_callS dX12_back_22 cs_X12_copies ml_RX12_413 (as := [av_r 375, av_r 368]) rfl (Nat.le_of_ble_eq_true rfl) rfl (s_Mo_copies (D := d) (by omega) N k_375 k_368 g2) (fun r9 μ9 hp => ?_)
    rw [hp.1, hp.2]
    clear hp r9 μ9
    refine sm_aload_n dX12_back_25 rfl rfl ?_
    refine sm_iconst dX12_back_26 ic_0 ?_
    refine sm_putI dX12_back_27 fp_RX12_307 k_355 ?_
    replace h := wr_some h
    refine sm_aload_n dX12_back_30 rfl rfl ?_
    refine sm_getR dX12_back_31 fg_RX12_61 k_355 (rf_12_32 k_355) ?_
    refine sm_bipush dX12_back_34 bp_122 ?_
    refine sm_iald (j := 122) dX12_back_36 k_368 (in_sz n_368 (by decide)) (by decide) ?_
    cases h
    exact sm_ret_i (st := []) dX12_back_37 rfl ⟨rfl, rfl⟩
  · replace h := it_t g1 h
    refine sm_iconst dX12_back_12 ic_m1 ?_
    cases h
    exact sm_ret_i (st := []) dX12_back_13 rfl ⟨rfl, rfl⟩
set_option maxRecDepth 100000 in
set_option maxHeartbeats 4000000 in
theorem s_Mo_count_L144 {D : Nat} (hD : 3 ≤ D) (N : Nat) {r : Int32} {μr : MM} : ∀ (n : Nat) (x2 : Int32) (x3 : Int32) (μ : MM), f_Mo_count_L144 N n x2 x3 μ = some (r, μr) → Sm D mX12_count 144 [some (av_r 355), none, some (av_i x2), some (av_i x3)] [] μ (po_i r μr) := by
  obtain ⟨d, rfl⟩ : ∃ d, D = d + 1 := ⟨D - 1, by omega⟩
  intro n
  induction n with
  | zero => intro x2 x3 μ h; cases (show none = some (r, μr) from h)
  | succ n ih =>
    intro x2 x3 μ h
    rw [f_Mo_count_L144] at h
    refine sm_iload_n dX12_count_144 rfl rfl ?_
    refine sm_aload_n dX12_count_145 rfl rfl ?_
    refine sm_getI dX12_count_146 fg_RX12_297 k_355 ?_
    refine sm_icmp_ge (tgt := 166) dX12_count_149 (by decide) (fun g16 => ?_) (fun g16 => ?_)
    · replace h := it_t g16 h
      refine sm_iload_n dX12_count_166 rfl rfl ?_
      cases h
      exact sm_ret_i (st := []) dX12_count_167 rfl ⟨rfl, rfl⟩
    · replace h := it_f g16 h
      refine sm_iload_n dX12_count_152 rfl rfl ?_
      refine sm_aload_n dX12_count_153 rfl rfl ?_
      refine sm_iload_n dX12_count_154 rfl rfl ?_
      obtain ⟨t155, μ2z, g17, h⟩ := ob_some h
      refine sm_callV dX12_count_155 cv_X12_goneOf ml_RX12_427 k_355 rfl rfl (by decide) (as := [av_i x3]) rfl (Nat.le_of_ble_eq_true rfl) rfl (s_Mo_goneOf (D := d) (by omega) N g17) (fun r9 μ9 hp => ?_)
      rw [hp.1, hp.2]
      clear hp r9 μ9
      refine sm_iadd dX12_count_158 ?_
      refine sm_istore_n dX12_count_159 rfl (Nat.le_of_ble_eq_true rfl) (pv_n rfl) ?_
      refine sm_iinc dX12_count_160 rfl (congrArg (HAdd.hAdd x3) ic_1) (Nat.le_of_ble_eq_true rfl) (pv_i rfl) ?_
      refine sm_goto (tgt := 144) dX12_count_163 (by decide) ?_
      exact Sm_weak (le_s rfl (le_n (le_s rfl (le_s rfl le_0)))) (ih (x2 + t155) (x3 + 1) μ2z h)
set_option maxRecDepth 100000 in
set_option maxHeartbeats 4000000 in
theorem s_Mo_count {D : Nat} (hD : 3 ≤ D) (N : Nat) {x1 : Int32} {μ : MM} {r : Int32} {μr : MM} (h : f_Mo_count N x1 μ = some (r, μr)) : Cl D mX12_count [av_r 355, av_i x1] μ (po_i r μr) := by
  obtain ⟨d, rfl⟩ : ∃ d, D = d + 1 := ⟨D - 1, by omega⟩
  refine Cl_of pn_X12 (Nat.le_of_ble_eq_true rfl) ?_
  show Sm (d + 1) mX12_count 0 [some (av_r 355), some (av_i x1), none, none] [] μ (po_i r μr)
  unfold f_Mo_count at h
  refine sm_aload_n dX12_count_0 rfl rfl ?_
  refine sm_iconst dX12_count_1 ic_0 ?_
  refine sm_putI dX12_count_2 fp_RX12_91 k_355 ?_
  replace h := wr_some h
  refine sm_iload_n dX12_count_5 rfl rfl ?_
  by_cases g1 : x1 = 0
  · replace h := it_t g1 h
    refine sm_tsw_at (tgt := 76) dX12_count_6 g1 (by decide) (by decide) trivial rfl (by decide) ?_
    refine sm_aload_n dX12_count_76 rfl rfl ?_
    refine sm_getI dX12_count_77 fg_RX12_297 k_355 ?_
    cases h
    exact sm_ret_i (st := []) dX12_count_80 rfl ⟨rfl, rfl⟩
  · replace h := it_f g1 h
    by_cases g2 : x1 = 1
    · replace h := it_t g2 h
      refine sm_tsw_at (tgt := 81) dX12_count_6 g2 (by decide) (by decide) trivial rfl (by decide) ?_
      refine sm_aload_n dX12_count_81 rfl rfl ?_
      refine sm_getI dX12_count_82 fg_RX12_294 k_355 ?_
      cases h
      exact sm_ret_i (st := []) dX12_count_85 rfl ⟨rfl, rfl⟩
    · replace h := it_f g2 h
      by_cases g3 : x1 = 2
      · replace h := it_t g3 h
        refine sm_tsw_at (tgt := 86) dX12_count_6 g3 (by decide) (by decide) trivial rfl (by decide) ?_
        refine sm_aload_n dX12_count_86 rfl rfl ?_
        refine sm_getI dX12_count_87 fg_RX12_286 k_355 ?_
        cases h
        exact sm_ret_i (st := []) dX12_count_90 rfl ⟨rfl, rfl⟩
      · replace h := it_f g3 h
        by_cases g4 : x1 = 3
        · replace h := it_t g4 h
          refine sm_tsw_at (tgt := 91) dX12_count_6 g4 (by decide) (by decide) trivial rfl (by decide) ?_
          refine sm_aload_n dX12_count_91 rfl rfl ?_
          refine sm_getI dX12_count_92 fg_RX12_289 k_355 ?_
          cases h
          exact sm_ret_i (st := []) dX12_count_95 rfl ⟨rfl, rfl⟩
        · replace h := it_f g4 h
          by_cases g5 : x1 = 4
          · replace h := it_t g5 h
            refine sm_tsw_at (tgt := 96) dX12_count_6 g5 (by decide) (by decide) trivial rfl (by decide) ?_
            refine sm_aload_n dX12_count_96 rfl rfl ?_
            refine sm_getI dX12_count_97 fg_RX12_104 k_355 ?_
            cases h
            exact sm_ret_i (st := []) dX12_count_100 rfl ⟨rfl, rfl⟩
          · replace h := it_f g5 h
            by_cases g6 : x1 = 5
            · replace h := it_t g6 h
              refine sm_tsw_at (tgt := 101) dX12_count_6 g6 (by decide) (by decide) trivial rfl (by decide) ?_
              refine sm_aload_n dX12_count_101 rfl rfl ?_
              refine sm_getI dX12_count_102 fg_RX12_67 k_355 ?_
              cases h
              exact sm_ret_i (st := []) dX12_count_105 rfl ⟨rfl, rfl⟩
            · replace h := it_f g6 h
              by_cases g7 : x1 = 6
              · replace h := it_t g7 h
                refine sm_tsw_at (tgt := 106) dX12_count_6 g7 (by decide) (by decide) trivial rfl (by decide) ?_
                refine sm_aload_n dX12_count_106 rfl rfl ?_
                refine sm_getR dX12_count_107 fg_RX12_61 k_355 (rf_12_32 k_355) ?_
                refine sm_bipush dX12_count_110 bp_122 ?_
                refine sm_iald (j := 122) dX12_count_112 k_368 (in_sz n_368 (by decide)) (by decide) ?_
                cases h
                exact sm_ret_i (st := []) dX12_count_113 rfl ⟨rfl, rfl⟩
              · replace h := it_f g7 h
                by_cases g9 : x1 = 7
                · replace h := it_t g9 h
                  refine sm_tsw_at (tgt := 114) dX12_count_6 g9 (by decide) (by decide) trivial rfl (by decide) ?_
                  refine sm_aload_n dX12_count_114 rfl rfl ?_
                  refine sm_getR dX12_count_115 fg_RX12_61 k_355 (rf_12_32 k_355) ?_
                  refine sm_bipush dX12_count_118 bp_120 ?_
                  refine sm_iald (j := 120) dX12_count_120 k_368 (in_sz n_368 (by decide)) (by decide) ?_
                  cases h
                  exact sm_ret_i (st := []) dX12_count_121 rfl ⟨rfl, rfl⟩
                · replace h := it_f g9 h
                  by_cases g11 : x1 = 8
                  · replace h := it_t g11 h
                    refine sm_tsw_at (tgt := 122) dX12_count_6 g11 (by decide) (by decide) trivial rfl (by decide) ?_
                    refine sm_aload_n dX12_count_122 rfl rfl ?_
                    refine sm_getR dX12_count_123 fg_RX12_61 k_355 (rf_12_32 k_355) ?_
                    refine sm_bipush dX12_count_126 bp_121 ?_
                    refine sm_iald (j := 121) dX12_count_128 k_368 (in_sz n_368 (by decide)) (by decide) ?_
                    cases h
                    exact sm_ret_i (st := []) dX12_count_129 rfl ⟨rfl, rfl⟩
                  · replace h := it_f g11 h
                    by_cases g13 : x1 = 9
                    · replace h := it_t g13 h
                      refine sm_tsw_at (tgt := 130) dX12_count_6 g13 (by decide) (by decide) trivial rfl (by decide) ?_
                      refine sm_aload_n dX12_count_130 rfl rfl ?_
                      refine sm_getI dX12_count_131 fg_RX12_369 k_355 ?_
                      cases h
                      exact sm_ret_i (st := []) dX12_count_134 rfl ⟨rfl, rfl⟩
                    · replace h := it_f g13 h
                      by_cases g14 : x1 = 10
                      · replace h := it_t g14 h
                        refine sm_tsw_at (tgt := 135) dX12_count_6 g14 (by decide) (by decide) trivial rfl (by decide) ?_
                        refine sm_aload_n dX12_count_135 rfl rfl ?_
                        refine sm_getI dX12_count_136 fg_RX12_304 k_355 ?_
                        cases h
                        exact sm_ret_i (st := []) dX12_count_139 rfl ⟨rfl, rfl⟩
                      · replace h := it_f g14 h
                        by_cases g15 : x1 = 11
                        · replace h := it_t g15 h
                          refine sm_tsw_at (tgt := 140) dX12_count_6 g15 (by decide) (by decide) trivial rfl (by decide) ?_
                          refine sm_iconst dX12_count_140 ic_0 ?_
                          refine sm_istore_n dX12_count_141 rfl (Nat.le_of_ble_eq_true rfl) (pv_i rfl) ?_
                          refine sm_iconst dX12_count_142 ic_0 ?_
                          refine sm_istore_n dX12_count_143 rfl (Nat.le_of_ble_eq_true rfl) (pv_i rfl) ?_
                          exact Sm_weak (le_s rfl (le_n (le_s rfl (le_s rfl le_0)))) (s_Mo_count_L144 hD N N 0 0 (mm_I μ 355 0 0) h)
                        · replace h := it_f g15 h
                          by_cases g18 : x1 = 12
                          · replace h := it_t g18 h
                            refine sm_tsw_at (tgt := 168) dX12_count_6 g18 (by decide) (by decide) trivial rfl (by decide) ?_
                            refine sm_aload_n dX12_count_168 rfl rfl ?_
                            refine sm_getR dX12_count_169 fg_RX12_61 k_355 (rf_12_32 k_355) ?_
                            refine sm_bipush dX12_count_172 bp_123 ?_
                            refine sm_iald (j := 123) dX12_count_174 k_368 (in_sz n_368 (by decide)) (by decide) ?_
                            cases h
                            exact sm_ret_i (st := []) dX12_count_175 rfl ⟨rfl, rfl⟩
                          · replace h := it_f g18 h
                            by_cases g20 : x1 = 13
                            · replace h := it_t g20 h
                              refine sm_tsw_at (tgt := 176) dX12_count_6 g20 (by decide) (by decide) trivial rfl (by decide) ?_
                              refine sm_aload_n dX12_count_176 rfl rfl ?_
                              refine sm_getI dX12_count_177 fg_RX12_307 k_355 ?_
                              cases h
                              exact sm_ret_i (st := []) dX12_count_180 rfl ⟨rfl, rfl⟩
                            · replace h := it_f g20 h
                              have eg1 : Int32.toInt x1 ≠ 0 := fun q => g1 (Int32.toInt_inj.mp (q.trans (by decide)))
                              have eg2 : Int32.toInt x1 ≠ 1 := fun q => g2 (Int32.toInt_inj.mp (q.trans (by decide)))
                              have eg3 : Int32.toInt x1 ≠ 2 := fun q => g3 (Int32.toInt_inj.mp (q.trans (by decide)))
                              have eg4 : Int32.toInt x1 ≠ 3 := fun q => g4 (Int32.toInt_inj.mp (q.trans (by decide)))
                              have eg5 : Int32.toInt x1 ≠ 4 := fun q => g5 (Int32.toInt_inj.mp (q.trans (by decide)))
                              have eg6 : Int32.toInt x1 ≠ 5 := fun q => g6 (Int32.toInt_inj.mp (q.trans (by decide)))
                              have eg7 : Int32.toInt x1 ≠ 6 := fun q => g7 (Int32.toInt_inj.mp (q.trans (by decide)))
                              have eg9 : Int32.toInt x1 ≠ 7 := fun q => g9 (Int32.toInt_inj.mp (q.trans (by decide)))
                              have eg11 : Int32.toInt x1 ≠ 8 := fun q => g11 (Int32.toInt_inj.mp (q.trans (by decide)))
                              have eg13 : Int32.toInt x1 ≠ 9 := fun q => g13 (Int32.toInt_inj.mp (q.trans (by decide)))
                              have eg14 : Int32.toInt x1 ≠ 10 := fun q => g14 (Int32.toInt_inj.mp (q.trans (by decide)))
                              have eg15 : Int32.toInt x1 ≠ 11 := fun q => g15 (Int32.toInt_inj.mp (q.trans (by decide)))
                              have eg18 : Int32.toInt x1 ≠ 12 := fun q => g18 (Int32.toInt_inj.mp (q.trans (by decide)))
                              have eg20 : Int32.toInt x1 ≠ 13 := fun q => g20 (Int32.toInt_inj.mp (q.trans (by decide)))
                              refine sm_tsw_out (tgt := 181) dX12_count_6 (by omega) (by decide) ?_
                              refine sm_ldcw dX12_count_181 cs_RX12_464 ?_
                              cases h
                              exact sm_ret_i (st := []) dX12_count_184 rfl ⟨rfl, rfl⟩
