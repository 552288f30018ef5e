set_option maxRecDepth 100000 in
set_option maxHeartbeats 4000000 in
theorem s_Ro_card {D : Nat} (hD : 4 ≤ D) (N : Nat) {x1 : Int32} {x2 : Int32} {μ : MM} {r : Int32} {μr : MM} (h : f_Ro_card N x1 x2 μ = some (r, μr)) : Cl D mX11_card [av_r 0, av_i x1, av_i x2] μ (po_i r μr) := by
  obtain ⟨d, rfl⟩ : ∃ d, D = d + 1 := ⟨D - 1, by omega⟩
  refine Cl_of pn_X11 (Nat.le_of_ble_eq_true rfl) ?_
  show Sm (d + 1) mX11_card 0 [some (av_r 0), some (av_i x1), some (av_i x2)] [] μ (po_i r μr)
  unfold f_Ro_card at h
  refine sm_aload_n dX11_card_0 rfl rfl ?_
  refine sm_getR dX11_card_1 fg_RX11_35 k_0 (rf_11_3 k_0) ?_
  refine sm_iload_n dX11_card_4 rfl rfl ?_
  obtain ⟨t5, μ1z, g1, h⟩ := ob_some h
  refine sm_callV dX11_card_5 cv_X1_isCard ml_RX11_199 k_23 rfl rfl (by decide) (as := [av_i x1]) rfl (Nat.le_of_ble_eq_true rfl) rfl (s_Co_isCard (D := d) (by omega) N k_23 g1) (fun r9 μ9 hp => ?_)
  rw [hp.1, hp.2]
  clear hp r9 μ9
  refine sm_if_ne (tgt := 13) dX11_card_8 (by decide) (fun g2 => ?_) (fun g2 => ?_)
  · replace h := it_f g2 h
    refine sm_iload_n dX11_card_13 rfl rfl ?_
    by_cases g3 : x2 = 0
    · replace h := it_t g3 h
      refine sm_tsw_at (tgt := 44) dX11_card_14 g3 (by decide) (by decide) trivial rfl (by decide) ?_
      refine sm_aload_n dX11_card_44 rfl rfl ?_
      refine sm_getR dX11_card_45 fg_RX11_35 k_0 (rf_11_3 k_0) ?_
      refine sm_getR dX11_card_48 fg_RX11_202 k_23 (rf_1_4 k_23) ?_
      refine sm_iload_n dX11_card_51 rfl rfl ?_
      obtain ⟨g4, h⟩ := gd_some h
      refine sm_iald (j := (Int32.toNatClampNeg x1)) dX11_card_52 k_26 (in_sz n_26 g4) rfl ?_
      cases h
      exact sm_ret_i (st := []) dX11_card_53 rfl ⟨rfl, rfl⟩
    · replace h := it_f g3 h
      by_cases g5 : x2 = 1
      · replace h := it_t g5 h
        refine sm_tsw_at (tgt := 54) dX11_card_14 g5 (by decide) (by decide) trivial rfl (by decide) ?_
        refine sm_aload_n dX11_card_54 rfl rfl ?_
        refine sm_getR dX11_card_55 fg_RX11_35 k_0 (rf_11_3 k_0) ?_
        refine sm_getR dX11_card_58 fg_RX11_205 k_23 (rf_1_5 k_23) ?_
        refine sm_getR dX11_card_61 fg_RX11_208 k_27 (rf_7_1 k_27) ?_
        refine sm_iload_n dX11_card_64 rfl rfl ?_
        obtain ⟨g6, h⟩ := gd_some h
        refine sm_iald (j := (Int32.toNatClampNeg x1)) dX11_card_65 k_33 (in_sz n_33 g6) rfl ?_
        cases h
        exact sm_ret_i (st := []) dX11_card_66 rfl ⟨rfl, rfl⟩
      · replace h := it_f g5 h
        by_cases g7 : x2 = 2
        · replace h := it_t g7 h
          refine sm_tsw_at (tgt := 67) dX11_card_14 g7 (by decide) (by decide) trivial rfl (by decide) ?_
          refine sm_aload_n dX11_card_67 rfl rfl ?_
          refine sm_getR dX11_card_68 fg_RX11_35 k_0 (rf_11_3 k_0) ?_
          refine sm_getR dX11_card_71 fg_RX11_205 k_23 (rf_1_5 k_23) ?_
          refine sm_getR dX11_card_74 fg_RX11_211 k_27 (rf_7_0 k_27) ?_
          refine sm_getR dX11_card_77 fg_RX11_214 k_28 (rf_10_0 k_28) ?_
          refine sm_iload_n dX11_card_80 rfl rfl ?_
          obtain ⟨g8, h⟩ := gd_some h
          refine sm_iald (j := (Int32.toNatClampNeg x1)) dX11_card_81 k_29 (in_sz n_29 g8) rfl ?_
          cases h
          exact sm_ret_i (st := []) dX11_card_82 rfl ⟨rfl, rfl⟩
        · replace h := it_f g7 h
          by_cases g9 : x2 = 3
          · replace h := it_t g9 h
            refine sm_tsw_at (tgt := 83) dX11_card_14 g9 (by decide) (by decide) trivial rfl (by decide) ?_
            refine sm_aload_n dX11_card_83 rfl rfl ?_
            refine sm_getR dX11_card_84 fg_RX11_35 k_0 (rf_11_3 k_0) ?_
            refine sm_iload_n dX11_card_87 rfl rfl ?_
            obtain ⟨t88, μ2z, g10, h⟩ := ob_some h
            refine sm_callV dX11_card_88 cv_X1_isRight ml_RX11_216 k_23 rfl rfl (by decide) (as := [av_i x1]) rfl (Nat.le_of_ble_eq_true rfl) rfl (s_Co_isRight (D := d) (by omega) N k_23 g10) (fun r9 μ9 hp => ?_)
            rw [hp.1, hp.2]
            clear hp r9 μ9
            have hj91 : ∀ (v91_0 : Int32), v91_0 = (if t88 = 0 then (0 : Int32) else 1) → Sm (d + 1) mX11_card 99 [none, none, none] [av_i v91_0] μ2z (po_i r μr) := by
              intro v91_0 ev91_0
              subst ev91_0
              cases h
              exact sm_ret_i (st := []) dX11_card_99 rfl ⟨rfl, rfl⟩
            refine sm_if_eq (tgt := 98) dX11_card_91 (by decide) (fun c91_0 => ?_) (fun c91_0 => ?_)
            · refine sm_iconst dX11_card_98 ic_0 ?_
              exact Sm_weak (le_n (le_n (le_n le_0))) (hj91 _ (if_pos c91_0).symm)
            · refine sm_iconst dX11_card_94 ic_1 ?_
              refine sm_goto (tgt := 99) dX11_card_95 (by decide) ?_
              exact Sm_weak (le_n (le_n (le_n le_0))) (hj91 _ (if_neg c91_0).symm)
          · replace h := it_f g9 h
            have eg3 : Int32.toInt x2 ≠ 0 := fun q => g3 (Int32.toInt_inj.mp (q.trans (by decide)))
            have eg5 : Int32.toInt x2 ≠ 1 := fun q => g5 (Int32.toInt_inj.mp (q.trans (by decide)))
            have eg7 : Int32.toInt x2 ≠ 2 := fun q => g7 (Int32.toInt_inj.mp (q.trans (by decide)))
            have eg9 : Int32.toInt x2 ≠ 3 := fun q => g9 (Int32.toInt_inj.mp (q.trans (by decide)))
            refine sm_tsw_out (tgt := 100) dX11_card_14 (by omega) (by decide) ?_
            refine sm_iconst dX11_card_100 ic_m1 ?_
            cases h
            exact sm_ret_i (st := []) dX11_card_101 rfl ⟨rfl, rfl⟩
  · replace h := it_t g2 h
    refine sm_iconst dX11_card_11 ic_m1 ?_
    cases h
    exact sm_ret_i (st := []) dX11_card_12 rfl ⟨rfl, rfl⟩
set_option maxRecDepth 100000 in
set_option maxHeartbeats 4000000 in
theorem s_Ro_word {D : Nat} (hD : 1 ≤ D) (N : Nat) {x1 : Int32} {x2 : Int32} {x3 : Int32} {μ : MM} {r : Int32} {μr : MM} (h : f_Ro_word N x1 x2 x3 μ = some (r, μr)) : Cl D mX11_word [av_r 0, av_i x1, av_i x2, av_i x3] μ (po_i r μr) := by
  obtain ⟨d, rfl⟩ : ∃ d, D = d + 1 := ⟨D - 1, by omega⟩
  refine Cl_of pn_X11 (Nat.le_of_ble_eq_true rfl) ?_
  show Sm (d + 1) mX11_word 0 [some (av_r 0), some (av_i x1), some (av_i x2), some (av_i x3)] [] μ (po_i r μr)
  unfold f_Ro_word at h
  refine sm_aload_n dX11_word_0 rfl rfl ?_
  refine sm_getR dX11_word_1 fg_RX11_35 k_0 (rf_11_3 k_0) ?_
  refine sm_iload_n dX11_word_4 rfl rfl ?_
  obtain ⟨t5, μ1z, g1, h⟩ := ob_some h
  refine sm_callV dX11_word_5 cv_X1_isCard ml_RX11_199 k_23 rfl rfl (by decide) (as := [av_i x1]) rfl (Nat.le_of_ble_eq_true rfl) rfl (s_Co_isCard (D := d) (by omega) N k_23 g1) (fun r9 μ9 hp => ?_)
  rw [hp.1, hp.2]
  clear hp r9 μ9
  refine sm_if_ne (tgt := 13) dX11_word_8 (by decide) (fun g2 => ?_) (fun g2 => ?_)
  · replace h := it_f g2 h
    refine sm_aload_n dX11_word_13 rfl rfl ?_
    refine sm_getR dX11_word_14 fg_RX11_35 k_0 (rf_11_3 k_0) ?_
    refine sm_getR dX11_word_17 fg_RX11_205 k_23 (rf_1_5 k_23) ?_
    refine sm_getR dX11_word_20 fg_RX11_211 k_27 (rf_7_0 k_27) ?_
    refine sm_iload_n dX11_word_23 rfl rfl ?_
    refine sm_iload_n dX11_word_24 rfl rfl ?_
    refine sm_iload_n dX11_word_25 rfl rfl ?_
    obtain ⟨t26, μ2z, g3, h⟩ := ob_some h
    refine sm_callV dX11_word_26 cv_X10_tell ml_RX11_219 k_28 rfl rfl (by decide) (as := [av_i x1, av_i x2, av_i x3]) rfl (Nat.le_of_ble_eq_true rfl) rfl (s_Wo_tell (D := d) (by omega) N k_28 g3) (fun r9 μ9 hp => ?_)
    rw [hp.1, hp.2]
    clear hp r9 μ9
    cases h
    exact sm_ret_i (st := []) dX11_word_29 rfl ⟨rfl, rfl⟩
  · replace h := it_t g2 h
    refine sm_iconst dX11_word_11 ic_m1 ?_
    cases h
    exact sm_ret_i (st := []) dX11_word_12 rfl ⟨rfl, rfl⟩
set_option maxRecDepth 100000 in
set_option maxHeartbeats 4000000 in
theorem s_Ro_law {D : Nat} (hD : 0 ≤ D) (N : Nat) {x1 : Int32} {μ : MM} {r : Int32} {μr : MM} (h : f_Ro_law N x1 μ = some (r, μr)) : Cl D mX11_law [av_r 0, av_i x1] μ (po_i r μr) := by
  refine Cl_of pn_X11 (Nat.le_of_ble_eq_true rfl) ?_
  show Sm D mX11_law 0 [some (av_r 0), some (av_i x1)] [] μ (po_i r μr)
  unfold f_Ro_law at h
  refine sm_iload_n dX11_law_0 rfl rfl ?_
  refine sm_iconst dX11_law_1 ic_m1 ?_
  refine sm_icmp_lt (tgt := 16) dX11_law_2 (by decide) (fun g1 => ?_) (fun g1 => ?_)
  · replace h := it_t g1 h
    refine sm_iconst dX11_law_16 ic_0 ?_
    cases h
    exact sm_ret_z (st := []) dX11_law_17 rfl rfl ⟨rfl, rfl⟩
  · replace h := it_f g1 h
    refine sm_iload_n dX11_law_5 rfl rfl ?_
    refine sm_aload_n dX11_law_6 rfl rfl ?_
    refine sm_getR dX11_law_7 fg_RX11_42 k_0 (rf_11_4 k_0) ?_
    refine sm_getI dX11_law_10 fg_RX11_177 k_34 ?_
    refine sm_icmp_lt (tgt := 18) dX11_law_13 (by decide) (fun g2 => ?_) (fun g2 => ?_)
    · replace h := it_t g2 h
      refine sm_aload_n dX11_law_18 rfl rfl ?_
      refine sm_getR dX11_law_19 fg_RX11_42 k_0 (rf_11_4 k_0) ?_
      refine sm_iload_n dX11_law_22 rfl rfl ?_
      refine sm_putI dX11_law_23 fp_RX11_223 k_34 ?_
      replace h := wr_some h
      refine sm_iconst dX11_law_26 ic_1 ?_
      cases h
      exact sm_ret_z (st := []) dX11_law_27 rfl rfl ⟨rfl, rfl⟩
    · replace h := it_f g2 h
      refine sm_iconst dX11_law_16 ic_0 ?_
      cases h
      exact sm_ret_z (st := []) dX11_law_17 rfl rfl ⟨rfl, rfl⟩
set_option maxRecDepth 100000 in
set_option maxHeartbeats 4000000 in
theorem s_Ro_cleaner {D : Nat} (hD : 0 ≤ D) (N : Nat) {x1 : Int32} {μ : MM} {r : Int32} {μr : MM} (h : f_Ro_cleaner N x1 μ = some (r, μr)) : Cl D mX11_cleaner [av_r 0, av_i x1] μ (po_i r μr) := by
  refine Cl_of pn_X11 (Nat.le_of_ble_eq_true rfl) ?_
  show Sm D mX11_cleaner 0 [some (av_r 0), some (av_i x1)] [] μ (po_i r μr)
  unfold f_Ro_cleaner at h
  refine sm_iload_n dX11_cleaner_0 rfl rfl ?_
  refine sm_if_lt (tgt := 18) dX11_cleaner_1 (by decide) (fun g1 => ?_) (fun g1 => ?_)
  · replace h := it_t g1 h
    refine sm_iconst dX11_cleaner_18 ic_0 ?_
    cases h
    exact sm_ret_z (st := []) dX11_cleaner_19 rfl rfl ⟨rfl, rfl⟩
  · replace h := it_f g1 h
    refine sm_iload_n dX11_cleaner_4 rfl rfl ?_
    refine sm_bipush dX11_cleaner_5 bp_99 ?_
    refine sm_icmp_gt (tgt := 18) dX11_cleaner_7 (by decide) (fun g2 => ?_) (fun g2 => ?_)
    · replace h := it_t g2 h
      refine sm_iconst dX11_cleaner_18 ic_0 ?_
      cases h
      exact sm_ret_z (st := []) dX11_cleaner_19 rfl rfl ⟨rfl, rfl⟩
    · replace h := it_f g2 h
      refine sm_iload_n dX11_cleaner_10 rfl rfl ?_
      refine sm_aload_n dX11_cleaner_11 rfl rfl ?_
      refine sm_getI dX11_cleaner_12 fg_RX11_110 k_0 ?_
      refine sm_icmp_ne (tgt := 20) dX11_cleaner_15 (by decide) (fun g3 => ?_) (fun g3 => ?_)
      · replace h := it_f g3 h
        refine sm_aload_n dX11_cleaner_20 rfl rfl ?_
        refine sm_iload_n dX11_cleaner_21 rfl rfl ?_
        refine sm_putI dX11_cleaner_22 fp_RX11_110 k_0 ?_
        replace h := wr_some h
        refine sm_iconst dX11_cleaner_25 ic_1 ?_
        cases h
        exact sm_ret_z (st := []) dX11_cleaner_26 rfl rfl ⟨rfl, rfl⟩
      · replace h := it_t g3 h
        refine sm_iconst dX11_cleaner_18 ic_0 ?_
        cases h
        exact sm_ret_z (st := []) dX11_cleaner_19 rfl rfl ⟨rfl, rfl⟩
set_option maxRecDepth 100000 in
set_option maxHeartbeats 4000000 in
theorem s_Ro_fits {D : Nat} (hD : 3 ≤ D) (N : Nat) {x1 : Int32} {x2 : Int32} {μ : MM} {r : Int32} {μr : MM} (h : f_Ro_fits N x1 x2 μ = some (r, μr)) : Cl D mX11_fits [av_r 0, av_i x1, av_i x2] μ (po_i r μr) := by
  obtain ⟨d, rfl⟩ : ∃ d, D = d + 1 := ⟨D - 1, by omega⟩
  refine Cl_of pn_X11 (Nat.le_of_ble_eq_true rfl) ?_
  show Sm (d + 1) mX11_fits 0 [some (av_r 0), some (av_i x1), some (av_i x2)] [] μ (po_i r μr)
  unfold f_Ro_fits at h
  refine sm_aload_n dX11_fits_0 rfl rfl ?_
  refine sm_getR dX11_fits_1 fg_RX11_35 k_0 (rf_11_3 k_0) ?_
  refine sm_iload_n dX11_fits_4 rfl rfl ?_
  obtain ⟨t5, μ1z, g1, h⟩ := ob_some h
  refine sm_callV dX11_fits_5 cv_X1_isCard ml_RX11_199 k_23 rfl rfl (by decide) (as := [av_i x1]) rfl (Nat.le_of_ble_eq_true rfl) rfl (s_Co_isCard (D := d) (by omega) N k_23 g1) (fun r9 μ9 hp => ?_)
  rw [hp.1, hp.2]
  clear hp r9 μ9
  refine sm_if_eq (tgt := 22) dX11_fits_8 (by decide) (fun g2 => ?_) (fun g2 => ?_)
  · replace h := it_t g2 h
    refine sm_iconst dX11_fits_22 ic_m1 ?_
    cases h
    exact sm_ret_i (st := []) dX11_fits_23 rfl ⟨rfl, rfl⟩
  · replace h := it_f g2 h
    refine sm_aload_n dX11_fits_11 rfl rfl ?_
    refine sm_getR dX11_fits_12 fg_RX11_35 k_0 (rf_11_3 k_0) ?_
    refine sm_iload_n dX11_fits_15 rfl rfl ?_
    obtain ⟨t16, μ2z, g3, h⟩ := ob_some h
    refine sm_callV dX11_fits_16 cv_X1_isThing ml_RX11_180 k_23 rfl rfl (by decide) (as := [av_i x2]) rfl (Nat.le_of_ble_eq_true rfl) rfl (s_Co_isThing (D := d) (by omega) N k_23 g3) (fun r9 μ9 hp => ?_)
    rw [hp.1, hp.2]
    clear hp r9 μ9
    refine sm_if_ne (tgt := 24) dX11_fits_19 (by decide) (fun g4 => ?_) (fun g4 => ?_)
    · replace h := it_f g4 h
      refine sm_aload_n dX11_fits_24 rfl rfl ?_
      refine sm_getR dX11_fits_25 fg_RX11_35 k_0 (rf_11_3 k_0) ?_
      refine sm_iload_n dX11_fits_28 rfl rfl ?_
      refine sm_iload_n dX11_fits_29 rfl rfl ?_
      obtain ⟨t30, μ3z, g5, h⟩ := ob_some h
      refine sm_callV dX11_fits_30 cv_X1_isFit ml_RX11_226 k_23 rfl rfl (by decide) (as := [av_i x1, av_i x2]) rfl (Nat.le_of_ble_eq_true rfl) rfl (s_Co_isFit (D := d) (by omega) N k_23 g5) (fun r9 μ9 hp => ?_)
      rw [hp.1, hp.2]
      clear hp r9 μ9
      have hj33 : ∀ (v33_0 : Int32), v33_0 = (if t30 = 0 then (0 : Int32) else 1) → Sm (d + 1) mX11_fits 41 [none, none, none] [av_i v33_0] μ3z (po_i r μr) := by
        intro v33_0 ev33_0
        subst ev33_0
        cases h
        exact sm_ret_i (st := []) dX11_fits_41 rfl ⟨rfl, rfl⟩
      refine sm_if_eq (tgt := 40) dX11_fits_33 (by decide) (fun c33_0 => ?_) (fun c33_0 => ?_)
      · refine sm_iconst dX11_fits_40 ic_0 ?_
        exact Sm_weak (le_n (le_n (le_n le_0))) (hj33 _ (if_pos c33_0).symm)
      · refine sm_iconst dX11_fits_36 ic_1 ?_
        refine sm_goto (tgt := 41) dX11_fits_37 (by decide) ?_
        exact Sm_weak (le_n (le_n (le_n le_0))) (hj33 _ (if_neg c33_0).symm)
    · replace h := it_t g4 h
      refine sm_iconst dX11_fits_22 ic_m1 ?_
      cases h
      exact sm_ret_i (st := []) dX11_fits_23 rfl ⟨rfl, rfl⟩
set_option maxRecDepth 100000 in
set_option maxHeartbeats 4000000 in
theorem s_Ro_reading {D : Nat} (hD : 1 ≤ D) (N : Nat) {x1 : Int32} {x2 : Int32} {x3 : Int32} {μ : MM} {r : Int32} {μr : MM} (h : f_Ro_reading N x1 x2 x3 μ = some (r, μr)) : Cl D mX11_reading [av_r 0, av_i x1, av_i x2, av_i x3] μ (po_i r μr) := by
  obtain ⟨d, rfl⟩ : ∃ d, D = d + 1 := ⟨D - 1, by omega⟩
  refine Cl_of pn_X11 (Nat.le_of_ble_eq_true rfl) ?_
  show Sm (d + 1) mX11_reading 0 [some (av_r 0), some (av_i x1), some (av_i x2), some (av_i x3)] [] μ (po_i r μr)
  unfold f_Ro_reading at h
  refine sm_iload_n dX11_reading_0 rfl rfl ?_
  refine sm_if_lt (tgt := 17) dX11_reading_1 (by decide) (fun g1 => ?_) (fun g1 => ?_)
  · replace h := it_t g1 h
    refine sm_iconst dX11_reading_17 ic_m1 ?_
    cases h
    exact sm_ret_i (st := []) dX11_reading_18 rfl ⟨rfl, rfl⟩
  · replace h := it_f g1 h
    refine sm_iload_n dX11_reading_4 rfl rfl ?_
    refine sm_aload_n dX11_reading_5 rfl rfl ?_
    refine sm_getI dX11_reading_6 fg_RX11_55 k_0 ?_
    refine sm_icmp_ge (tgt := 17) dX11_reading_9 (by decide) (fun g2 => ?_) (fun g2 => ?_)
    · replace h := it_t g2 h
      refine sm_iconst dX11_reading_17 ic_m1 ?_
      cases h
      exact sm_ret_i (st := []) dX11_reading_18 rfl ⟨rfl, rfl⟩
    · replace h := it_f g2 h
      refine sm_iload_n dX11_reading_12 rfl rfl ?_
      refine sm_iconst dX11_reading_13 ic_2 ?_
      refine sm_icmp_ne (tgt := 19) dX11_reading_14 (by decide) (fun g3 => ?_) (fun g3 => ?_)
      · replace h := it_f g3 h
        refine sm_aload_n dX11_reading_19 rfl rfl ?_
        refine sm_getR dX11_reading_20 fg_RX11_51 k_0 (rf_11_5 k_0) ?_
        refine sm_iload_n dX11_reading_23 rfl rfl ?_
        refine sm_iload_n dX11_reading_24 rfl rfl ?_
        refine sm_iload_n dX11_reading_25 rfl rfl ?_
        obtain ⟨t26, μ1z, g4, h⟩ := ob_some h
        refine sm_callV dX11_reading_26 cv_X10_tell ml_RX11_219 k_43 rfl rfl (by decide) (as := [av_i x1, av_i x2, av_i x3]) rfl (Nat.le_of_ble_eq_true rfl) rfl (s_Wo_tell (D := d) (by omega) N k_43 g4) (fun r9 μ9 hp => ?_)
        rw [hp.1, hp.2]
        clear hp r9 μ9
        cases h
        exact sm_ret_i (st := []) dX11_reading_29 rfl ⟨rfl, rfl⟩
      · replace h := it_t g3 h
        refine sm_iconst dX11_reading_17 ic_m1 ?_
        cases h
        exact sm_ret_i (st := []) dX11_reading_18 rfl ⟨rfl, rfl⟩
set_option maxRecDepth 100000 in
set_option maxHeartbeats 4000000 in
theorem s_Ro_count {D : Nat} (hD : 2 ≤ D) (N : Nat) {x1 : Int32} {μ : MM} {r : Int32} {μr : MM} (h : f_Ro_count N x1 μ = some (r, μr)) : Cl D mX11_count [av_r 0, av_i x1] μ (po_i r μr) := by
  obtain ⟨d, rfl⟩ : ∃ d, D = d + 1 := ⟨D - 1, by omega⟩
  refine Cl_of pn_X11 (Nat.le_of_ble_eq_true rfl) ?_
  show Sm (d + 1) mX11_count 0 [some (av_r 0), some (av_i x1)] [] μ (po_i r μr)
  unfold f_Ro_count at h
  refine sm_iload_n dX11_count_0 rfl rfl ?_
  by_cases g1 : x1 = 0
  · replace h := it_t g1 h
    refine sm_tsw_at (tgt := 72) dX11_count_1 g1 (by decide) (by decide) trivial rfl (by decide) ?_
    refine sm_aload_n dX11_count_72 rfl rfl ?_
    refine sm_getR dX11_count_73 fg_RX11_35 k_0 (rf_11_3 k_0) ?_
    refine sm_getI dX11_count_76 fg_RX11_174 k_23 ?_
    cases h
    exact sm_ret_i (st := []) dX11_count_79 rfl ⟨rfl, rfl⟩
  · replace h := it_f g1 h
    by_cases g2 : x1 = 1
    · replace h := it_t g2 h
      refine sm_tsw_at (tgt := 80) dX11_count_1 g2 (by decide) (by decide) trivial rfl (by decide) ?_
      refine sm_aload_n dX11_count_80 rfl rfl ?_
      refine sm_getR dX11_count_81 fg_RX11_35 k_0 (rf_11_3 k_0) ?_
      refine sm_getI dX11_count_84 fg_RX11_230 k_23 ?_
      cases h
      exact sm_ret_i (st := []) dX11_count_87 rfl ⟨rfl, rfl⟩
    · replace h := it_f g2 h
      by_cases g3 : x1 = 2
      · replace h := it_t g3 h
        refine sm_tsw_at (tgt := 88) dX11_count_1 g3 (by decide) (by decide) trivial rfl (by decide) ?_
        refine sm_aload_n dX11_count_88 rfl rfl ?_
        refine sm_getR dX11_count_89 fg_RX11_42 k_0 (rf_11_4 k_0) ?_
        refine sm_getI dX11_count_92 fg_RX11_177 k_34 ?_
        cases h
        exact sm_ret_i (st := []) dX11_count_95 rfl ⟨rfl, rfl⟩
      · replace h := it_f g3 h
        by_cases g4 : x1 = 3
        · replace h := it_t g4 h
          refine sm_tsw_at (tgt := 96) dX11_count_1 g4 (by decide) (by decide) trivial rfl (by decide) ?_
          refine sm_aload_n dX11_count_96 rfl rfl ?_
          refine sm_getI dX11_count_97 fg_RX11_55 k_0 ?_
          cases h
          exact sm_ret_i (st := []) dX11_count_100 rfl ⟨rfl, rfl⟩
        · replace h := it_f g4 h
          by_cases g5 : x1 = 4
          · replace h := it_t g5 h
            refine sm_tsw_at (tgt := 101) dX11_count_1 g5 (by decide) (by decide) trivial rfl (by decide) ?_
            refine sm_aload_n dX11_count_101 rfl rfl ?_
            refine sm_getR dX11_count_102 fg_RX11_10 k_0 (rf_11_0 k_0) ?_
            refine sm_getI dX11_count_105 fg_RX11_121 k_1 ?_
            cases h
            exact sm_ret_i (st := []) dX11_count_108 rfl ⟨rfl, rfl⟩
          · replace h := it_f g5 h
            by_cases g6 : x1 = 5
            · replace h := it_t g6 h
              refine sm_tsw_at (tgt := 109) dX11_count_1 g6 (by decide) (by decide) trivial rfl (by decide) ?_
              refine sm_aload_n dX11_count_109 rfl rfl ?_
              refine sm_getR dX11_count_110 fg_RX11_42 k_0 (rf_11_4 k_0) ?_
              refine sm_getI dX11_count_113 fg_RX11_223 k_34 ?_
              cases h
              exact sm_ret_i (st := []) dX11_count_116 rfl ⟨rfl, rfl⟩
            · replace h := it_f g6 h
              by_cases g7 : x1 = 6
              · replace h := it_t g7 h
                refine sm_tsw_at (tgt := 117) dX11_count_1 g7 (by decide) (by decide) trivial rfl (by decide) ?_
                refine sm_aload_n dX11_count_117 rfl rfl ?_
                refine sm_getR dX11_count_118 fg_RX11_35 k_0 (rf_11_3 k_0) ?_
                refine sm_getR dX11_count_121 fg_RX11_205 k_23 (rf_1_5 k_23) ?_
                refine sm_getI dX11_count_124 fg_RX11_233 k_27 ?_
                cases h
                exact sm_ret_i (st := []) dX11_count_127 rfl ⟨rfl, rfl⟩
              · replace h := it_f g7 h
                by_cases g8 : x1 = 7
                · replace h := it_t g8 h
                  refine sm_tsw_at (tgt := 128) dX11_count_1 g8 (by decide) (by decide) trivial rfl (by decide) ?_
                  refine sm_aload_n dX11_count_128 rfl rfl ?_
                  refine sm_getR dX11_count_129 fg_RX11_35 k_0 (rf_11_3 k_0) ?_
                  refine sm_getR dX11_count_132 fg_RX11_205 k_23 (rf_1_5 k_23) ?_
                  refine sm_getI dX11_count_135 fg_RX11_236 k_27 ?_
                  cases h
                  exact sm_ret_i (st := []) dX11_count_138 rfl ⟨rfl, rfl⟩
                · replace h := it_f g8 h
                  by_cases g9 : x1 = 8
                  · replace h := it_t g9 h
                    refine sm_tsw_at (tgt := 139) dX11_count_1 g9 (by decide) (by decide) trivial rfl (by decide) ?_
                    refine sm_aload_n dX11_count_139 rfl rfl ?_
                    refine sm_getR dX11_count_140 fg_RX11_35 k_0 (rf_11_3 k_0) ?_
                    refine sm_getR dX11_count_143 fg_RX11_205 k_23 (rf_1_5 k_23) ?_
                    refine sm_getI dX11_count_146 fg_RX11_239 k_27 ?_
                    cases h
                    exact sm_ret_i (st := []) dX11_count_149 rfl ⟨rfl, rfl⟩
                  · replace h := it_f g9 h
                    by_cases g10 : x1 = 9
                    · replace h := it_t g10 h
                      refine sm_tsw_at (tgt := 150) dX11_count_1 g10 (by decide) (by decide) trivial rfl (by decide) ?_
                      refine sm_aload_n dX11_count_150 rfl rfl ?_
                      refine sm_getI dX11_count_151 fg_RX11_110 k_0 ?_
                      cases h
                      exact sm_ret_i (st := []) dX11_count_154 rfl ⟨rfl, rfl⟩
                    · replace h := it_f g10 h
                      by_cases g11 : x1 = 10
                      · replace h := it_t g11 h
                        refine sm_tsw_at (tgt := 155) dX11_count_1 g11 (by decide) (by decide) trivial rfl (by decide) ?_
                        refine sm_aload_n dX11_count_155 rfl rfl ?_
                        refine sm_getR dX11_count_156 fg_RX11_87 k_0 (rf_11_10 k_0) ?_
                        refine sm_getI dX11_count_159 fg_RX11_242 k_341 ?_
                        cases h
                        exact sm_ret_i (st := []) dX11_count_162 rfl ⟨rfl, rfl⟩
                      · replace h := it_f g11 h
                        by_cases g12 : x1 = 11
                        · replace h := it_t g12 h
                          refine sm_tsw_at (tgt := 163) dX11_count_1 g12 (by decide) (by decide) trivial rfl (by decide) ?_
                          refine sm_aload_n dX11_count_163 rfl rfl ?_
                          refine sm_getR dX11_count_164 fg_RX11_35 k_0 (rf_11_3 k_0) ?_
                          obtain ⟨t167, μ1z, g13, h⟩ := ob_some h
                          refine sm_callV dX11_count_167 cv_X1_goneWords ml_RX11_243 k_23 rfl rfl (by decide) (as := []) rfl (Nat.le_of_ble_eq_true rfl) rfl (s_Co_goneWords (D := d) (by omega) N k_23 g13) (fun r9 μ9 hp => ?_)
                          rw [hp.1, hp.2]
                          clear hp r9 μ9
                          cases h
                          exact sm_ret_i (st := []) dX11_count_170 rfl ⟨rfl, rfl⟩
                        · replace h := it_f g12 h
                          by_cases g14 : x1 = 12
                          · replace h := it_t g14 h
                            refine sm_tsw_at (tgt := 171) dX11_count_1 g14 (by decide) (by decide) trivial rfl (by decide) ?_
                            refine sm_aload_n dX11_count_171 rfl rfl ?_
                            refine sm_getR dX11_count_172 fg_RX11_64 k_0 (rf_11_7 k_0) ?_
                            obtain ⟨t175, μ2z, g15, h⟩ := ob_some h
                            refine sm_callV dX11_count_175 cv_X0_logLength ml_RX11_247 k_48 rfl rfl (by decide) (as := []) rfl (Nat.le_of_ble_eq_true rfl) rfl (s_Ag_logLength (D := d) (by omega) N g15) (fun r9 μ9 hp => ?_)
                            rw [hp.1, hp.2]
                            clear hp r9 μ9
                            cases h
                            exact sm_ret_i (st := []) dX11_count_178 rfl ⟨rfl, rfl⟩
                          · replace h := it_f g14 h
                            by_cases g16 : x1 = 13
                            · replace h := it_t g16 h
                              refine sm_tsw_at (tgt := 179) dX11_count_1 g16 (by decide) (by decide) trivial rfl (by decide) ?_
                              refine sm_aload_n dX11_count_179 rfl rfl ?_
                              refine sm_getR dX11_count_180 fg_RX11_71 k_0 (rf_11_8 k_0) ?_
                              refine sm_getI dX11_count_183 fg_RX11_250 k_51 ?_
                              cases h
                              exact sm_ret_i (st := []) dX11_count_186 rfl ⟨rfl, rfl⟩
                            · replace h := it_f g16 h
                              have eg1 : Int32.toInt x1 ≠ 0 := fun q => g1 (Int32.toInt_inj.mp (q.trans (by decide)))
                              have eg2 : Int32.toInt x1 ≠ 1 := fun q => g2 (Int32.toInt_inj.mp (q.trans (by decide)))
                              have eg3 : Int32.toInt x1 ≠ 2 := fun q => g3 (Int32.toInt_inj.mp (q.trans (by decide)))
                              have eg4 : Int32.toInt x1 ≠ 3 := fun q => g4 (Int32.toInt_inj.mp (q.trans (by decide)))
                              have eg5 : Int32.toInt x1 ≠ 4 := fun q => g5 (Int32.toInt_inj.mp (q.trans (by decide)))
                              have eg6 : Int32.toInt x1 ≠ 5 := fun q => g6 (Int32.toInt_inj.mp (q.trans (by decide)))
                              have eg7 : Int32.toInt x1 ≠ 6 := fun q => g7 (Int32.toInt_inj.mp (q.trans (by decide)))
                              have eg8 : Int32.toInt x1 ≠ 7 := fun q => g8 (Int32.toInt_inj.mp (q.trans (by decide)))
                              have eg9 : Int32.toInt x1 ≠ 8 := fun q => g9 (Int32.toInt_inj.mp (q.trans (by decide)))
                              have eg10 : Int32.toInt x1 ≠ 9 := fun q => g10 (Int32.toInt_inj.mp (q.trans (by decide)))
                              have eg11 : Int32.toInt x1 ≠ 10 := fun q => g11 (Int32.toInt_inj.mp (q.trans (by decide)))
                              have eg12 : Int32.toInt x1 ≠ 11 := fun q => g12 (Int32.toInt_inj.mp (q.trans (by decide)))
                              have eg14 : Int32.toInt x1 ≠ 12 := fun q => g14 (Int32.toInt_inj.mp (q.trans (by decide)))
                              have eg16 : Int32.toInt x1 ≠ 13 := fun q => g16 (Int32.toInt_inj.mp (q.trans (by decide)))
                              refine sm_tsw_out (tgt := 187) dX11_count_1 (by omega) (by decide) ?_
                              refine sm_ldc dX11_count_187 cs_RX11_251 ?_
                              cases h
                              exact sm_ret_i (st := []) dX11_count_189 rfl ⟨rfl, rfl⟩
set_option maxRecDepth 100000 in
set_option maxHeartbeats 4000000 in
theorem s_Ro_put {D : Nat} (hD : 4 ≤ D) (N : Nat) {x1 : Int32} {x2 : Int32} {μ : MM} {r : Int32} {μr : MM} (h : f_Ro_put N x1 x2 μ = some (r, μr)) : Cl D mX11_put [av_r 0, av_i x1, av_i x2] μ (po_i r μr) := by
  obtain ⟨d, rfl⟩ : ∃ d, D = d + 1 := ⟨D - 1, by omega⟩
  refine Cl_of pn_X11 (Nat.le_of_ble_eq_true rfl) ?_
  show Sm (d + 1) mX11_put 0 [some (av_r 0), some (av_i x1), some (av_i x2)] [] μ (po_i r μr)
  unfold f_Ro_put at h
  refine sm_aload_n dX11_put_0 rfl rfl ?_
  refine sm_getR dX11_put_1 fg_RX11_35 k_0 (rf_11_3 k_0) ?_
  refine sm_iload_n dX11_put_4 rfl rfl ?_
  obtain ⟨t5, μ1z, g1, h⟩ := ob_some h
  refine sm_callV dX11_put_5 cv_X1_isThing ml_RX11_180 k_23 rfl rfl (by decide) (as := [av_i x1]) rfl (Nat.le_of_ble_eq_true rfl) rfl (s_Co_isThing (D := d) (by omega) N k_23 g1) (fun r9 μ9 hp => ?_)
  rw [hp.1, hp.2]
  clear hp r9 μ9
  refine sm_if_eq (tgt := 50) dX11_put_8 (by decide) (fun g2 => ?_) (fun g2 => ?_)
  · replace h := it_t g2 h
    refine sm_iconst dX11_put_50 ic_m1 ?_
    cases h
    exact sm_ret_i (st := []) dX11_put_51 rfl ⟨rfl, rfl⟩
  · replace h := it_f g2 h
    refine sm_aload_n dX11_put_11 rfl rfl ?_
    refine sm_getR dX11_put_12 fg_RX11_35 k_0 (rf_11_3 k_0) ?_
    refine sm_iload_n dX11_put_15 rfl rfl ?_
    obtain ⟨t16, μ2z, g3, h⟩ := ob_some h
    refine sm_callV dX11_put_16 cv_X1_isCard ml_RX11_199 k_23 rfl rfl (by decide) (as := [av_i x2]) rfl (Nat.le_of_ble_eq_true rfl) rfl (s_Co_isCard (D := d) (by omega) N k_23 g3) (fun r9 μ9 hp => ?_)
    rw [hp.1, hp.2]
    clear hp r9 μ9
    refine sm_if_eq (tgt := 50) dX11_put_19 (by decide) (fun g4 => ?_) (fun g4 => ?_)
    · replace h := it_t g4 h
      refine sm_iconst dX11_put_50 ic_m1 ?_
      cases h
      exact sm_ret_i (st := []) dX11_put_51 rfl ⟨rfl, rfl⟩
    · replace h := it_f g4 h
      refine sm_aload_n dX11_put_22 rfl rfl ?_
      refine sm_getR dX11_put_23 fg_RX11_35 k_0 (rf_11_3 k_0) ?_
      refine sm_iload_n dX11_put_26 rfl rfl ?_
      obtain ⟨t27, μ3z, g5, h⟩ := ob_some h
      refine sm_callV dX11_put_27 cv_X1_cardOver ml_RX11_196 k_23 rfl rfl (by decide) (as := [av_i x1]) rfl (Nat.le_of_ble_eq_true rfl) rfl (s_Co_cardOver (D := d) (by omega) N k_23 g5) (fun r9 μ9 hp => ?_)
      rw [hp.1, hp.2]
      clear hp r9 μ9
      refine sm_iconst dX11_put_30 ic_m1 ?_
      refine sm_icmp_ne (tgt := 50) dX11_put_31 (by decide) (fun g6 => ?_) (fun g6 => ?_)
      · replace h := it_f g6 h
        refine sm_iconst dX11_put_50 ic_m1 ?_
        cases h
        exact sm_ret_i (st := []) dX11_put_51 rfl ⟨rfl, rfl⟩
      · replace h := it_t g6 h
        refine sm_aload_n dX11_put_34 rfl rfl ?_
        refine sm_getR dX11_put_35 fg_RX11_35 k_0 (rf_11_3 k_0) ?_
        refine sm_getR dX11_put_38 fg_RX11_205 k_23 (rf_1_5 k_23) ?_
        refine sm_getR dX11_put_41 fg_RX11_208 k_27 (rf_7_1 k_27) ?_
        refine sm_iload_n dX11_put_44 rfl rfl ?_
        obtain ⟨g7, h⟩ := gd_some h
        refine sm_iald (j := (Int32.toNatClampNeg x2)) dX11_put_45 k_33 (in_sz n_33 g7) rfl ?_
        refine sm_iconst dX11_put_46 ic_m1 ?_
        refine sm_icmp_eq (tgt := 52) dX11_put_47 (by decide) (fun g8 => ?_) (fun g8 => ?_)
        · replace h := it_t g8 h
          refine sm_aload_n dX11_put_52 rfl rfl ?_
          refine sm_getR dX11_put_53 fg_RX11_71 k_0 (rf_11_8 k_0) ?_
          refine sm_aload_n dX11_put_56 rfl rfl ?_
          refine sm_getR dX11_put_57 fg_RX11_35 k_0 (rf_11_3 k_0) ?_
          refine sm_getR dX11_put_60 fg_RX11_205 k_23 (rf_1_5 k_23) ?_
          obtain ⟨μ4z, g9, h⟩ := obv_some h
          refine sm_callV dX11_put_63 cv_X3_keep ml_RX11_252 k_51 rfl rfl (by decide) (as := [av_r 27]) rfl (Nat.le_of_ble_eq_true rfl) rfl (s_Hi_keep (D := d) (by omega) N k_27 g9) (fun r9 μ9 hp => ?_)
          rw [hp.1, hp.2]
          clear hp r9 μ9
          refine sm_aload_n dX11_put_66 rfl rfl ?_
          refine sm_getR dX11_put_67 fg_RX11_35 k_0 (rf_11_3 k_0) ?_
          refine sm_getR dX11_put_70 fg_RX11_205 k_23 (rf_1_5 k_23) ?_
          refine sm_getR dX11_put_73 fg_RX11_208 k_27 (rf_7_1 k_27) ?_
          refine sm_iload_n dX11_put_76 rfl rfl ?_
          refine sm_iload_n dX11_put_77 rfl rfl ?_
          obtain ⟨g10, h⟩ := gd_some h
          refine sm_iast (j := (Int32.toNatClampNeg x2)) dX11_put_78 k_33 (in_sz n_33 g10) rfl ?_
          replace h := wr_some h
          refine sm_aload_n dX11_put_79 rfl rfl ?_
          refine sm_getR dX11_put_80 fg_RX11_71 k_0 (rf_11_8 k_0) ?_
          refine sm_getI dX11_put_83 fg_RX11_250 k_51 ?_
          cases h
          exact sm_ret_i (st := []) dX11_put_86 rfl ⟨rfl, rfl⟩
        · replace h := it_f g8 h
          refine sm_iconst dX11_put_50 ic_m1 ?_
          cases h
          exact sm_ret_i (st := []) dX11_put_51 rfl ⟨rfl, rfl⟩
set_option maxRecDepth 100000 in
set_option maxHeartbeats 4000000 in
theorem s_Ro_take {D : Nat} (hD : 4 ≤ D) (N : Nat) {x1 : Int32} {μ : MM} {r : Int32} {μr : MM} (h : f_Ro_take N x1 μ = some (r, μr)) : Cl D mX11_take [av_r 0, av_i x1] μ (po_i r μr) := by
  obtain ⟨d, rfl⟩ : ∃ d, D = d + 1 := ⟨D - 1, by omega⟩
  refine Cl_of pn_X11 (Nat.le_of_ble_eq_true rfl) ?_
  show Sm (d + 1) mX11_take 0 [some (av_r 0), some (av_i x1), none] [] μ (po_i r μr)
  unfold f_Ro_take at h
  refine sm_aload_n dX11_take_0 rfl rfl ?_
  refine sm_getR dX11_take_1 fg_RX11_35 k_0 (rf_11_3 k_0) ?_
  refine sm_iload_n dX11_take_4 rfl rfl ?_
  obtain ⟨t5, μ1z, g1, h⟩ := ob_some h
  refine sm_callV dX11_take_5 cv_X1_isCard ml_RX11_199 k_23 rfl rfl (by decide) (as := [av_i x1]) rfl (Nat.le_of_ble_eq_true rfl) rfl (s_Co_isCard (D := d) (by omega) N k_23 g1) (fun r9 μ9 hp => ?_)
  rw [hp.1, hp.2]
  clear hp r9 μ9
  refine sm_if_eq (tgt := 27) dX11_take_8 (by decide) (fun g2 => ?_) (fun g2 => ?_)
  · replace h := it_t g2 h
    refine sm_iconst dX11_take_27 ic_m1 ?_
    cases h
    exact sm_ret_i (st := []) dX11_take_28 rfl ⟨rfl, rfl⟩
  · replace h := it_f g2 h
    refine sm_aload_n dX11_take_11 rfl rfl ?_
    refine sm_getR dX11_take_12 fg_RX11_35 k_0 (rf_11_3 k_0) ?_
    refine sm_getR dX11_take_15 fg_RX11_205 k_23 (rf_1_5 k_23) ?_
    refine sm_getR dX11_take_18 fg_RX11_208 k_27 (rf_7_1 k_27) ?_
    refine sm_iload_n dX11_take_21 rfl rfl ?_
    obtain ⟨g3, h⟩ := gd_some h
    refine sm_iald (j := (Int32.toNatClampNeg x1)) dX11_take_22 k_33 (in_sz n_33 g3) rfl ?_
    refine sm_iconst dX11_take_23 ic_m1 ?_
    refine sm_icmp_ne (tgt := 29) dX11_take_24 (by decide) (fun g4 => ?_) (fun g4 => ?_)
    · replace h := it_f g4 h
      refine sm_aload_n dX11_take_29 rfl rfl ?_
      refine sm_getR dX11_take_30 fg_RX11_71 k_0 (rf_11_8 k_0) ?_
      refine sm_aload_n dX11_take_33 rfl rfl ?_
      refine sm_getR dX11_take_34 fg_RX11_35 k_0 (rf_11_3 k_0) ?_
      refine sm_getR dX11_take_37 fg_RX11_205 k_23 (rf_1_5 k_23) ?_
      obtain ⟨μ2z, g5, h⟩ := obv_some h
      refine sm_callV dX11_take_40 cv_X3_keep ml_RX11_252 k_51 rfl rfl (by decide) (as := [av_r 27]) rfl (Nat.le_of_ble_eq_true rfl) rfl (s_Hi_keep (D := d) (by omega) N k_27 g5) (fun r9 μ9 hp => ?_)
      rw [hp.1, hp.2]
      clear hp r9 μ9
      refine sm_aload_n dX11_take_43 rfl rfl ?_
      refine sm_getR dX11_take_44 fg_RX11_35 k_0 (rf_11_3 k_0) ?_
      refine sm_getR dX11_take_47 fg_RX11_205 k_23 (rf_1_5 k_23) ?_
      refine sm_getR dX11_take_50 fg_RX11_208 k_27 (rf_7_1 k_27) ?_
      refine sm_iload_n dX11_take_53 rfl rfl ?_
      obtain ⟨g6, h⟩ := gd_some h
      refine sm_iald (j := (Int32.toNatClampNeg x1)) dX11_take_54 k_33 (in_sz n_33 g6) rfl ?_
      refine sm_istore_n dX11_take_55 rfl (Nat.le_of_ble_eq_true rfl) (pv_i rfl) ?_
      refine sm_aload_n dX11_take_56 rfl rfl ?_
      refine sm_getR dX11_take_57 fg_RX11_35 k_0 (rf_11_3 k_0) ?_
      refine sm_getR dX11_take_60 fg_RX11_205 k_23 (rf_1_5 k_23) ?_
      refine sm_getR dX11_take_63 fg_RX11_208 k_27 (rf_7_1 k_27) ?_
      refine sm_iload_n dX11_take_66 rfl rfl ?_
      refine sm_iconst dX11_take_67 ic_m1 ?_
      obtain ⟨g7, h⟩ := gd_some h
      refine sm_iast (j := (Int32.toNatClampNeg x1)) dX11_take_68 k_33 (in_sz n_33 g7) rfl ?_
      replace h := wr_some h
      refine sm_iload_n dX11_take_69 rfl rfl ?_
      cases h
      exact sm_ret_i (st := []) dX11_take_70 rfl ⟨rfl, rfl⟩
    · replace h := it_t g4 h
      refine sm_iconst dX11_take_27 ic_m1 ?_
      cases h
      exact sm_ret_i (st := []) dX11_take_28 rfl ⟨rfl, rfl⟩
set_option maxRecDepth 100000 in
set_option maxHeartbeats 4000000 in
theorem s_Ro_hasWordLeft {D : Nat} (hD : 1 ≤ D) (N : Nat) {x1 : Int32} {μ : MM} {r : Int32} {μr : MM} (h : f_Ro_hasWordLeft N x1 μ = some (r, μr)) : Cl D mX11_hasWordLeft [av_r 0, av_i x1] μ (po_i r μr) := by
  obtain ⟨d, rfl⟩ : ∃ d, D = d + 1 := ⟨D - 1, by omega⟩
  refine Cl_of pn_X11 (Nat.le_of_ble_eq_true rfl) ?_
  show Sm (d + 1) mX11_hasWordLeft 0 [some (av_r 0), some (av_i x1)] [] μ (po_i r μr)
  unfold f_Ro_hasWordLeft at h
  refine sm_aload_n dX11_hasWordLeft_0 rfl rfl ?_
  refine sm_getR dX11_hasWordLeft_1 fg_RX11_35 k_0 (rf_11_3 k_0) ?_
  refine sm_iload_n dX11_hasWordLeft_4 rfl rfl ?_
  obtain ⟨t5, μ1z, g1, h⟩ := ob_some h
  refine sm_callV dX11_hasWordLeft_5 cv_X1_isCard ml_RX11_199 k_23 rfl rfl (by decide) (as := [av_i x1]) rfl (Nat.le_of_ble_eq_true rfl) rfl (s_Co_isCard (D := d) (by omega) N k_23 g1) (fun r9 μ9 hp => ?_)
  rw [hp.1, hp.2]
  clear hp r9 μ9
  refine sm_if_eq (tgt := 32) dX11_hasWordLeft_8 (by decide) (fun g2 => ?_) (fun g2 => ?_)
  · replace h := it_t g2 h
    refine sm_iconst dX11_hasWordLeft_32 ic_0 ?_
    cases h
    exact sm_ret_z (st := []) dX11_hasWordLeft_33 rfl rfl ⟨rfl, rfl⟩
  · replace h := it_f g2 h
    refine sm_aload_n dX11_hasWordLeft_11 rfl rfl ?_
    refine sm_getR dX11_hasWordLeft_12 fg_RX11_35 k_0 (rf_11_3 k_0) ?_
    refine sm_getR dX11_hasWordLeft_15 fg_RX11_205 k_23 (rf_1_5 k_23) ?_
    refine sm_getR dX11_hasWordLeft_18 fg_RX11_211 k_27 (rf_7_0 k_27) ?_
    refine sm_iload_n dX11_hasWordLeft_21 rfl rfl ?_
    obtain ⟨t22, μ2z, g3, h⟩ := ob_some h
    refine sm_callV dX11_hasWordLeft_22 cv_X10_leftIn ml_RX11_265 k_28 rfl rfl (by decide) (as := [av_i x1]) rfl (Nat.le_of_ble_eq_true rfl) rfl (s_Wo_leftIn (D := d) (by omega) N k_28 g3) (fun r9 μ9 hp => ?_)
    rw [hp.1, hp.2]
    clear hp r9 μ9
    refine sm_if_le (tgt := 32) dX11_hasWordLeft_25 (by decide) (fun g4 => ?_) (fun g4 => ?_)
    · replace h := it_t g4 h
      refine sm_iconst dX11_hasWordLeft_32 ic_0 ?_
      cases h
      exact sm_ret_z (st := []) dX11_hasWordLeft_33 rfl rfl ⟨rfl, rfl⟩
    · replace h := it_f g4 h
      refine sm_iconst dX11_hasWordLeft_28 ic_1 ?_
      refine sm_goto (tgt := 33) dX11_hasWordLeft_29 (by decide) ?_
      cases h
      exact sm_ret_z (st := []) dX11_hasWordLeft_33 rfl rfl ⟨rfl, rfl⟩
set_option maxRecDepth 100000 in
set_option maxHeartbeats 4000000 in
theorem s_Ro_copy {D : Nat} (hD : 4 ≤ D) (N : Nat) {x1 : Int32} {μ : MM} {r : Int32} {μr : MM} (h : f_Ro_copy N x1 μ = some (r, μr)) : Cl D mX11_copy [av_r 0, av_i x1] μ (po_i r μr) := by
  obtain ⟨d, rfl⟩ : ∃ d, D = d + 1 := ⟨D - 1, by omega⟩
  refine Cl_of pn_X11 (Nat.le_of_ble_eq_true rfl) ?_
  show Sm (d + 1) mX11_copy 0 [some (av_r 0), some (av_i x1)] [] μ (po_i r μr)
  unfold f_Ro_copy at h
  refine sm_aload_n dX11_copy_0 rfl rfl ?_
  refine sm_iload_n dX11_copy_1 rfl rfl ?_
  obtain ⟨t2, μ1z, g1, h⟩ := ob_some h
  refine sm_callV dX11_copy_2 cv_X11_hasWordLeft ml_RX11_256 k_0 rfl rfl (by decide) (as := [av_i x1]) rfl (Nat.le_of_ble_eq_true rfl) rfl (s_Ro_hasWordLeft (D := d) (by omega) N g1) (fun r9 μ9 hp => ?_)
  rw [hp.1, hp.2]
  clear hp r9 μ9
  refine sm_if_eq (tgt := 22) dX11_copy_5 (by decide) (fun g2 => ?_) (fun g2 => ?_)
  · replace h := it_t g2 h
    refine sm_iconst dX11_copy_22 ic_m1 ?_
    cases h
    exact sm_ret_i (st := []) dX11_copy_23 rfl ⟨rfl, rfl⟩
  · replace h := it_f g2 h
    refine sm_aload_n dX11_copy_8 rfl rfl ?_
    refine sm_getR dX11_copy_9 fg_RX11_35 k_0 (rf_11_3 k_0) ?_
    refine sm_getR dX11_copy_12 fg_RX11_205 k_23 (rf_1_5 k_23) ?_
    refine sm_getI dX11_copy_15 fg_RX11_239 k_27 ?_
    refine sm_iconst dX11_copy_18 ic_1 ?_
    refine sm_icmp_ge (tgt := 24) dX11_copy_19 (by decide) (fun g3 => ?_) (fun g3 => ?_)
    · replace h := it_t g3 h
      refine sm_aload_n dX11_copy_24 rfl rfl ?_
      refine sm_getR dX11_copy_25 fg_RX11_71 k_0 (rf_11_8 k_0) ?_
      refine sm_aload_n dX11_copy_28 rfl rfl ?_
      refine sm_getR dX11_copy_29 fg_RX11_35 k_0 (rf_11_3 k_0) ?_
      refine sm_getR dX11_copy_32 fg_RX11_205 k_23 (rf_1_5 k_23) ?_
      obtain ⟨μ2z, g4, h⟩ := obv_some h
      refine sm_callV dX11_copy_35 cv_X3_keep ml_RX11_252 k_51 rfl rfl (by decide) (as := [av_r 27]) rfl (Nat.le_of_ble_eq_true rfl) rfl (s_Hi_keep (D := d) (by omega) N k_27 g4) (fun r9 μ9 hp => ?_)
      rw [hp.1, hp.2]
      clear hp r9 μ9
      refine sm_aload_n dX11_copy_38 rfl rfl ?_
      refine sm_getR dX11_copy_39 fg_RX11_35 k_0 (rf_11_3 k_0) ?_
      refine sm_getR dX11_copy_42 fg_RX11_205 k_23 (rf_1_5 k_23) ?_
      refine sm_dup dX11_copy_45 rfl ?_
      refine sm_getI dX11_copy_46 fg_RX11_239 k_27 ?_
      refine sm_iconst dX11_copy_49 ic_1 ?_
      refine sm_isub dX11_copy_50 ?_
      refine sm_putI dX11_copy_51 fp_RX11_239 k_27 ?_
      replace h := wr_some h
      refine sm_aload_n dX11_copy_54 rfl rfl ?_
      refine sm_getR dX11_copy_55 fg_RX11_35 k_0 (rf_11_3 k_0) ?_
      refine sm_getR dX11_copy_58 fg_RX11_205 k_23 (rf_1_5 k_23) ?_
      refine sm_getR dX11_copy_61 fg_RX11_211 k_27 (rf_7_0 k_27) ?_
      refine sm_iload_n dX11_copy_64 rfl rfl ?_
      obtain ⟨μ4z, g5, h⟩ := obv_some h
      refine sm_callV dX11_copy_65 cv_X10_freshen ml_RX11_259 k_28 rfl rfl (by decide) (as := [av_i x1]) rfl (Nat.le_of_ble_eq_true rfl) rfl (s_Wo_freshen (D := d) (by omega) N k_28 g5) (fun r9 μ9 hp => ?_)
      rw [hp.1, hp.2]
      clear hp r9 μ9
      refine sm_aload_n dX11_copy_68 rfl rfl ?_
      refine sm_getR dX11_copy_69 fg_RX11_35 k_0 (rf_11_3 k_0) ?_
      refine sm_getR dX11_copy_72 fg_RX11_205 k_23 (rf_1_5 k_23) ?_
      refine sm_getI dX11_copy_75 fg_RX11_239 k_27 ?_
      cases h
      exact sm_ret_i (st := []) dX11_copy_78 rfl ⟨rfl, rfl⟩
    · replace h := it_f g3 h
      refine sm_iconst dX11_copy_22 ic_m1 ?_
      cases h
      exact sm_ret_i (st := []) dX11_copy_23 rfl ⟨rfl, rfl⟩
set_option maxRecDepth 100000 in
set_option maxHeartbeats 4000000 in
theorem s_Ro_lamp {D : Nat} (hD : 4 ≤ D) (N : Nat) {x1 : Int32} {μ : MM} {r : Int32} {μr : MM} (h : f_Ro_lamp N x1 μ = some (r, μr)) : Cl D mX11_lamp [av_r 0, av_i x1] μ (po_i r μr) := by
  obtain ⟨d, rfl⟩ : ∃ d, D = d + 1 := ⟨D - 1, by omega⟩
  refine Cl_of pn_X11 (Nat.le_of_ble_eq_true rfl) ?_
  show Sm (d + 1) mX11_lamp 0 [some (av_r 0), some (av_i x1)] [] μ (po_i r μr)
  unfold f_Ro_lamp at h
  refine sm_aload_n dX11_lamp_0 rfl rfl ?_
  refine sm_iload_n dX11_lamp_1 rfl rfl ?_
  obtain ⟨t2, μ1z, g1, h⟩ := ob_some h
  refine sm_callV dX11_lamp_2 cv_X11_hasWordLeft ml_RX11_256 k_0 rfl rfl (by decide) (as := [av_i x1]) rfl (Nat.le_of_ble_eq_true rfl) rfl (s_Ro_hasWordLeft (D := d) (by omega) N g1) (fun r9 μ9 hp => ?_)
  rw [hp.1, hp.2]
  clear hp r9 μ9
  refine sm_if_ne (tgt := 10) dX11_lamp_5 (by decide) (fun g2 => ?_) (fun g2 => ?_)
  · replace h := it_f g2 h
    refine sm_aload_n dX11_lamp_10 rfl rfl ?_
    refine sm_getR dX11_lamp_11 fg_RX11_71 k_0 (rf_11_8 k_0) ?_
    refine sm_aload_n dX11_lamp_14 rfl rfl ?_
    refine sm_getR dX11_lamp_15 fg_RX11_35 k_0 (rf_11_3 k_0) ?_
    refine sm_getR dX11_lamp_18 fg_RX11_205 k_23 (rf_1_5 k_23) ?_
    obtain ⟨μ2z, g3, h⟩ := obv_some h
    refine sm_callV dX11_lamp_21 cv_X3_keep ml_RX11_252 k_51 rfl rfl (by decide) (as := [av_r 27]) rfl (Nat.le_of_ble_eq_true rfl) rfl (s_Hi_keep (D := d) (by omega) N k_27 g3) (fun r9 μ9 hp => ?_)
    rw [hp.1, hp.2]
    clear hp r9 μ9
    refine sm_aload_n dX11_lamp_24 rfl rfl ?_
    refine sm_getR dX11_lamp_25 fg_RX11_35 k_0 (rf_11_3 k_0) ?_
    refine sm_getR dX11_lamp_28 fg_RX11_205 k_23 (rf_1_5 k_23) ?_
    refine sm_getR dX11_lamp_31 fg_RX11_211 k_27 (rf_7_0 k_27) ?_
    refine sm_iload_n dX11_lamp_34 rfl rfl ?_
    obtain ⟨μ3z, g4, h⟩ := obv_some h
    refine sm_callV dX11_lamp_35 cv_X10_dim ml_RX11_262 k_28 rfl rfl (by decide) (as := [av_i x1]) rfl (Nat.le_of_ble_eq_true rfl) rfl (s_Wo_dim (D := d) (by omega) N k_28 g4) (fun r9 μ9 hp => ?_)
    rw [hp.1, hp.2]
    clear hp r9 μ9
    refine sm_aload_n dX11_lamp_38 rfl rfl ?_
    refine sm_getR dX11_lamp_39 fg_RX11_35 k_0 (rf_11_3 k_0) ?_
    refine sm_getR dX11_lamp_42 fg_RX11_205 k_23 (rf_1_5 k_23) ?_
    refine sm_getR dX11_lamp_45 fg_RX11_211 k_27 (rf_7_0 k_27) ?_
    refine sm_iload_n dX11_lamp_48 rfl rfl ?_
    obtain ⟨t49, μ4z, g5, h⟩ := ob_some h
    refine sm_callV dX11_lamp_49 cv_X10_leftIn ml_RX11_265 k_28 rfl rfl (by decide) (as := [av_i x1]) rfl (Nat.le_of_ble_eq_true rfl) rfl (s_Wo_leftIn (D := d) (by omega) N k_28 g5) (fun r9 μ9 hp => ?_)
    rw [hp.1, hp.2]
    clear hp r9 μ9
    cases h
    exact sm_ret_i (st := []) dX11_lamp_52 rfl ⟨rfl, rfl⟩
  · replace h := it_t g2 h
    refine sm_iconst dX11_lamp_8 ic_m1 ?_
    cases h
    exact sm_ret_i (st := []) dX11_lamp_9 rfl ⟨rfl, rfl⟩
set_option maxRecDepth 100000 in
set_option maxHeartbeats 4000000 in
theorem s_Ro_light {D : Nat} (hD : 4 ≤ D) (N : Nat) {x1 : Int32} {μ : MM} {r : Int32} {μr : MM} (h : f_Ro_light N x1 μ = some (r, μr)) : Cl D mX11_light [av_r 0, av_i x1] μ (po_i r μr) := by
  obtain ⟨d, rfl⟩ : ∃ d, D = d + 1 := ⟨D - 1, by omega⟩
  refine Cl_of pn_X11 (Nat.le_of_ble_eq_true rfl) ?_
  show Sm (d + 1) mX11_light 0 [some (av_r 0), some (av_i x1)] [] μ (po_i r μr)
  unfold f_Ro_light at h
  refine sm_aload_n dX11_light_0 rfl rfl ?_
  refine sm_getR dX11_light_1 fg_RX11_35 k_0 (rf_11_3 k_0) ?_
  obtain ⟨t4, μ1z, g1, h⟩ := ob_some h
  refine sm_callV dX11_light_4 cv_X1_isNone ml_RX11_268 k_23 rfl rfl (by decide) (as := []) rfl (Nat.le_of_ble_eq_true rfl) rfl (s_Co_isNone (D := d) (by omega) N k_23 g1) (fun r9 μ9 hp => ?_)
  rw [hp.1, hp.2]
  clear hp r9 μ9
  refine sm_if_ne (tgt := 34) dX11_light_7 (by decide) (fun g2 => ?_) (fun g2 => ?_)
  · replace h := it_f g2 h
    refine sm_iconst dX11_light_34 ic_0 ?_
    cases h
    exact sm_ret_z (st := []) dX11_light_35 rfl rfl ⟨rfl, rfl⟩
  · replace h := it_t g2 h
    refine sm_iload_n dX11_light_10 rfl rfl ?_
    refine sm_if_lt (tgt := 34) dX11_light_11 (by decide) (fun g3 => ?_) (fun g3 => ?_)
    · replace h := it_t g3 h
      refine sm_iconst dX11_light_34 ic_0 ?_
      cases h
      exact sm_ret_z (st := []) dX11_light_35 rfl rfl ⟨rfl, rfl⟩
    · replace h := it_f g3 h
      refine sm_iload_n dX11_light_14 rfl rfl ?_
      refine sm_bipush dX11_light_15 bp_9 ?_
      refine sm_icmp_gt (tgt := 34) dX11_light_17 (by decide) (fun g4 => ?_) (fun g4 => ?_)
      · replace h := it_t g4 h
        refine sm_iconst dX11_light_34 ic_0 ?_
        cases h
        exact sm_ret_z (st := []) dX11_light_35 rfl rfl ⟨rfl, rfl⟩
      · replace h := it_f g4 h
        refine sm_iload_n dX11_light_20 rfl rfl ?_
        refine sm_aload_n dX11_light_21 rfl rfl ?_
        refine sm_getR dX11_light_22 fg_RX11_35 k_0 (rf_11_3 k_0) ?_
        refine sm_getR dX11_light_25 fg_RX11_205 k_23 (rf_1_5 k_23) ?_
        refine sm_getI dX11_light_28 fg_RX11_236 k_27 ?_
        refine sm_icmp_ne (tgt := 36) dX11_light_31 (by decide) (fun g5 => ?_) (fun g5 => ?_)
        · replace h := it_f g5 h
          refine sm_aload_n dX11_light_36 rfl rfl ?_
          refine sm_getR dX11_light_37 fg_RX11_71 k_0 (rf_11_8 k_0) ?_
          refine sm_aload_n dX11_light_40 rfl rfl ?_
          refine sm_getR dX11_light_41 fg_RX11_35 k_0 (rf_11_3 k_0) ?_
          refine sm_getR dX11_light_44 fg_RX11_205 k_23 (rf_1_5 k_23) ?_
          obtain ⟨μ2z, g6, h⟩ := obv_some h
          refine sm_callV dX11_light_47 cv_X3_keep ml_RX11_252 k_51 rfl rfl (by decide) (as := [av_r 27]) rfl (Nat.le_of_ble_eq_true rfl) rfl (s_Hi_keep (D := d) (by omega) N k_27 g6) (fun r9 μ9 hp => ?_)
          rw [hp.1, hp.2]
          clear hp r9 μ9
          refine sm_aload_n dX11_light_50 rfl rfl ?_
          refine sm_getR dX11_light_51 fg_RX11_35 k_0 (rf_11_3 k_0) ?_
          refine sm_getR dX11_light_54 fg_RX11_205 k_23 (rf_1_5 k_23) ?_
          refine sm_iload_n dX11_light_57 rfl rfl ?_
          refine sm_putI dX11_light_58 fp_RX11_236 k_27 ?_
          replace h := wr_some h
          refine sm_iconst dX11_light_61 ic_1 ?_
          cases h
          exact sm_ret_z (st := []) dX11_light_62 rfl rfl ⟨rfl, rfl⟩
        · replace h := it_t g5 h
          refine sm_iconst dX11_light_34 ic_0 ?_
          cases h
          exact sm_ret_z (st := []) dX11_light_35 rfl rfl ⟨rfl, rfl⟩
set_option maxRecDepth 100000 in
set_option maxHeartbeats 4000000 in
theorem s_Ro_write {D : Nat} (hD : 4 ≤ D) (N : Nat) {x1 : Int32} {x2 : Int32} {μ : MM} {r : Int32} {μr : MM} (h : f_Ro_write N x1 x2 μ = some (r, μr)) : Cl D mX11_write [av_r 0, av_i x1, av_i x2] μ (po_i r μr) := by
  obtain ⟨d, rfl⟩ : ∃ d, D = d + 1 := ⟨D - 1, by omega⟩
  refine Cl_of pn_X11 (Nat.le_of_ble_eq_true rfl) ?_
  show Sm (d + 1) mX11_write 0 [some (av_r 0), some (av_i x1), some (av_i x2)] [] μ (po_i r μr)
  unfold f_Ro_write at h
  refine sm_aload_n dX11_write_0 rfl rfl ?_
  refine sm_getR dX11_write_1 fg_RX11_35 k_0 (rf_11_3 k_0) ?_
  refine sm_iload_n dX11_write_4 rfl rfl ?_
  obtain ⟨t5, μ1z, g1, h⟩ := ob_some h
  refine sm_callV dX11_write_5 cv_X1_isCard ml_RX11_199 k_23 rfl rfl (by decide) (as := [av_i x1]) rfl (Nat.le_of_ble_eq_true rfl) rfl (s_Co_isCard (D := d) (by omega) N k_23 g1) (fun r9 μ9 hp => ?_)
  rw [hp.1, hp.2]
  clear hp r9 μ9
  refine sm_if_eq (tgt := 39) dX11_write_8 (by decide) (fun g2 => ?_) (fun g2 => ?_)
  · replace h := it_t g2 h
    refine sm_iconst dX11_write_39 ic_m1 ?_
    cases h
    exact sm_ret_i (st := []) dX11_write_40 rfl ⟨rfl, rfl⟩
  · replace h := it_f g2 h
    refine sm_iload_n dX11_write_11 rfl rfl ?_
    refine sm_if_lt (tgt := 39) dX11_write_12 (by decide) (fun g3 => ?_) (fun g3 => ?_)
    · replace h := it_t g3 h
      refine sm_iconst dX11_write_39 ic_m1 ?_
      cases h
      exact sm_ret_i (st := []) dX11_write_40 rfl ⟨rfl, rfl⟩
    · replace h := it_f g3 h
      refine sm_iload_n dX11_write_15 rfl rfl ?_
      refine sm_aload_n dX11_write_16 rfl rfl ?_
      refine sm_getI dX11_write_17 fg_RX11_55 k_0 ?_
      refine sm_icmp_ge (tgt := 39) dX11_write_20 (by decide) (fun g4 => ?_) (fun g4 => ?_)
      · replace h := it_t g4 h
        refine sm_iconst dX11_write_39 ic_m1 ?_
        cases h
        exact sm_ret_i (st := []) dX11_write_40 rfl ⟨rfl, rfl⟩
      · replace h := it_f g4 h
        refine sm_aload_n dX11_write_23 rfl rfl ?_
        refine sm_getR dX11_write_24 fg_RX11_35 k_0 (rf_11_3 k_0) ?_
        refine sm_getR dX11_write_27 fg_RX11_205 k_23 (rf_1_5 k_23) ?_
        refine sm_getR dX11_write_30 fg_RX11_208 k_27 (rf_7_1 k_27) ?_
        refine sm_iload_n dX11_write_33 rfl rfl ?_
        obtain ⟨g5, h⟩ := gd_some h
        refine sm_iald (j := (Int32.toNatClampNeg x1)) dX11_write_34 k_33 (in_sz n_33 g5) rfl ?_
        refine sm_iconst dX11_write_35 ic_m1 ?_
        refine sm_icmp_eq (tgt := 41) dX11_write_36 (by decide) (fun g6 => ?_) (fun g6 => ?_)
        · replace h := it_t g6 h
          refine sm_aload_n dX11_write_41 rfl rfl ?_
          refine sm_getR dX11_write_42 fg_RX11_71 k_0 (rf_11_8 k_0) ?_
          refine sm_aload_n dX11_write_45 rfl rfl ?_
          refine sm_getR dX11_write_46 fg_RX11_35 k_0 (rf_11_3 k_0) ?_
          refine sm_getR dX11_write_49 fg_RX11_205 k_23 (rf_1_5 k_23) ?_
          obtain ⟨μ2z, g7, h⟩ := obv_some h
          refine sm_callV dX11_write_52 cv_X3_keep ml_RX11_252 k_51 rfl rfl (by decide) (as := [av_r 27]) rfl (Nat.le_of_ble_eq_true rfl) rfl (s_Hi_keep (D := d) (by omega) N k_27 g7) (fun r9 μ9 hp => ?_)
          rw [hp.1, hp.2]
          clear hp r9 μ9
          refine sm_aload_n dX11_write_55 rfl rfl ?_
          refine sm_getR dX11_write_56 fg_RX11_35 k_0 (rf_11_3 k_0) ?_
          refine sm_getR dX11_write_59 fg_RX11_205 k_23 (rf_1_5 k_23) ?_
          refine sm_getR dX11_write_62 fg_RX11_211 k_27 (rf_7_0 k_27) ?_
          refine sm_iload_n dX11_write_65 rfl rfl ?_
          refine sm_aload_n dX11_write_66 rfl rfl ?_
          refine sm_getR dX11_write_67 fg_RX11_51 k_0 (rf_11_5 k_0) ?_
          refine sm_iload_n dX11_write_70 rfl rfl ?_
          obtain ⟨μ3z, g8, h⟩ := obv_some h
          refine sm_callV dX11_write_71 cv_X10_takeRow ml_RX11_160 k_28 rfl rfl (by decide) (as := [av_i x1, av_r 43, av_i x2]) rfl (Nat.le_of_ble_eq_true rfl) rfl (s_Wo_takeRow (D := d) (by omega) N k_28 k_43 g8) (fun r9 μ9 hp => ?_)
          rw [hp.1, hp.2]
          clear hp r9 μ9
          refine sm_aload_n dX11_write_74 rfl rfl ?_
          refine sm_getR dX11_write_75 fg_RX11_35 k_0 (rf_11_3 k_0) ?_
          refine sm_getR dX11_write_78 fg_RX11_205 k_23 (rf_1_5 k_23) ?_
          refine sm_getR dX11_write_81 fg_RX11_211 k_27 (rf_7_0 k_27) ?_
          refine sm_getR dX11_write_84 fg_RX11_214 k_28 (rf_10_0 k_28) ?_
          refine sm_iload_n dX11_write_87 rfl rfl ?_
          obtain ⟨g9, h⟩ := gd_some h
          refine sm_iald (j := (Int32.toNatClampNeg x1)) dX11_write_88 k_29 (in_sz n_29 g9) rfl ?_
          cases h
          exact sm_ret_i (st := []) dX11_write_89 rfl ⟨rfl, rfl⟩
        · replace h := it_f g6 h
          refine sm_iconst dX11_write_39 ic_m1 ?_
          cases h
          exact sm_ret_i (st := []) dX11_write_40 rfl ⟨rfl, rfl⟩
set_option maxRecDepth 100000 in
set_option maxHeartbeats 4000000 in
theorem s_Ro_days_L25 {D : Nat} (hD : 7 ≤ D) (N : Nat) {r : Int32} {μr : MM} : ∀ (n : Nat) (x1 : Int32) (x2 : Int32) (μ : MM), f_Ro_days_L25 N n x1 x2 μ = some (r, μr) → Sm D mX11_days 25 [some (av_r 0), some (av_i x1), some (av_i x2)] [] μ (po_i r μr) := by
  obtain ⟨d, rfl⟩ : ∃ d, D = d + 1 := ⟨D - 1, by omega⟩
  intro n
  induction n with
  | zero => intro x1 x2 μ h; cases (show none = some (r, μr) from h)
  | succ n ih =>
    intro x1 x2 μ h
    rw [f_Ro_days_L25] at h
    refine sm_iload_n dX11_days_25 rfl rfl ?_
    refine sm_iload_n dX11_days_26 rfl rfl ?_
    refine sm_icmp_ge (tgt := 57) dX11_days_27 (by decide) (fun g5 => ?_) (fun g5 => ?_)
    · replace h := it_t g5 h
      refine sm_aload_n dX11_days_57 rfl rfl ?_
      refine sm_getR dX11_days_58 fg_RX11_35 k_0 (rf_11_3 k_0) ?_
      refine sm_getR dX11_days_61 fg_RX11_205 k_23 (rf_1_5 k_23) ?_
      refine sm_getI dX11_days_64 fg_RX11_233 k_27 ?_
      cases h
      exact sm_ret_i (st := []) dX11_days_67 rfl ⟨rfl, rfl⟩
    · replace h := it_f g5 h
      refine sm_aload_n dX11_days_30 rfl rfl ?_
      refine sm_getR dX11_days_31 fg_RX11_71 k_0 (rf_11_8 k_0) ?_
      refine sm_aload_n dX11_days_34 rfl rfl ?_
      refine sm_getR dX11_days_35 fg_RX11_35 k_0 (rf_11_3 k_0) ?_
      refine sm_getR dX11_days_38 fg_RX11_205 k_23 (rf_1_5 k_23) ?_
      obtain ⟨μ2z, g6, h⟩ := obv_some h
      refine sm_callV dX11_days_41 cv_X3_keep ml_RX11_252 k_51 rfl rfl (by decide) (as := [av_r 27]) rfl (Nat.le_of_ble_eq_true rfl) rfl (s_Hi_keep (D := d) (by omega) N k_27 g6) (fun r9 μ9 hp => ?_)
      rw [hp.1, hp.2]
      clear hp r9 μ9
      refine sm_aload_n dX11_days_44 rfl rfl ?_
      refine sm_getR dX11_days_45 fg_RX11_64 k_0 (rf_11_7 k_0) ?_
      obtain ⟨μ3z, g7, h⟩ := obv_some h
      refine sm_callV dX11_days_48 cv_X0_passDay ml_RX11_271 k_48 rfl rfl (by decide) (as := []) rfl (Nat.le_of_ble_eq_true rfl) rfl (s_Ag_passDay (D := d) (by omega) N g7) (fun r9 μ9 hp => ?_)
      rw [hp.1, hp.2]
      clear hp r9 μ9
      refine sm_iinc dX11_days_51 rfl (congrArg (HAdd.hAdd x2) ic_1) (Nat.le_of_ble_eq_true rfl) (pv_i rfl) ?_
      refine sm_goto (tgt := 25) dX11_days_54 (by decide) ?_
      exact Sm_weak (le_s rfl (le_s rfl (le_s rfl le_0))) (ih x1 (x2 + 1) μ3z h)
set_option maxRecDepth 100000 in
set_option maxHeartbeats 4000000 in
theorem s_Ro_days {D : Nat} (hD : 7 ≤ D) (N : Nat) {x1 : Int32} {μ : MM} {r : Int32} {μr : MM} (h : f_Ro_days N x1 μ = some (r, μr)) : Cl D mX11_days [av_r 0, av_i x1] μ (po_i r μr) := by
  obtain ⟨d, rfl⟩ : ∃ d, D = d + 1 := ⟨D - 1, by omega⟩
  refine Cl_of pn_X11 (Nat.le_of_ble_eq_true rfl) ?_
  show Sm (d + 1) mX11_days 0 [some (av_r 0), some (av_i x1), none] [] μ (po_i r μr)
  unfold f_Ro_days at h
  refine sm_aload_n dX11_days_0 rfl rfl ?_
  refine sm_getR dX11_days_1 fg_RX11_35 k_0 (rf_11_3 k_0) ?_
  obtain ⟨t4, μ1z, g1, h⟩ := ob_some h
  refine sm_callV dX11_days_4 cv_X1_isNone ml_RX11_268 k_23 rfl rfl (by decide) (as := []) rfl (Nat.le_of_ble_eq_true rfl) rfl (s_Co_isNone (D := d) (by omega) N k_23 g1) (fun r9 μ9 hp => ?_)
  rw [hp.1, hp.2]
  clear hp r9 μ9
  refine sm_if_ne (tgt := 21) dX11_days_7 (by decide) (fun g2 => ?_) (fun g2 => ?_)
  · replace h := it_f g2 h
    refine sm_iconst dX11_days_21 ic_m1 ?_
    cases h
    exact sm_ret_i (st := []) dX11_days_22 rfl ⟨rfl, rfl⟩
  · replace h := it_t g2 h
    refine sm_iload_n dX11_days_10 rfl rfl ?_
    refine sm_iconst dX11_days_11 ic_1 ?_
    refine sm_icmp_lt (tgt := 21) dX11_days_12 (by decide) (fun g3 => ?_) (fun g3 => ?_)
    · replace h := it_t g3 h
      refine sm_iconst dX11_days_21 ic_m1 ?_
      cases h
      exact sm_ret_i (st := []) dX11_days_22 rfl ⟨rfl, rfl⟩
    · replace h := it_f g3 h
      refine sm_iload_n dX11_days_15 rfl rfl ?_
      refine sm_bipush dX11_days_16 bp_60 ?_
      refine sm_icmp_le (tgt := 23) dX11_days_18 (by decide) (fun g4 => ?_) (fun g4 => ?_)
      · replace h := it_t g4 h
        refine sm_iconst dX11_days_23 ic_0 ?_
        refine sm_istore_n dX11_days_24 rfl (Nat.le_of_ble_eq_true rfl) (pv_i rfl) ?_
        exact Sm_weak (le_s rfl (le_s rfl (le_s rfl le_0))) (s_Ro_days_L25 hD N N x1 0 μ1z h)
      · replace h := it_f g4 h
        refine sm_iconst dX11_days_21 ic_m1 ?_
        cases h
        exact sm_ret_i (st := []) dX11_days_22 rfl ⟨rfl, rfl⟩
set_option maxRecDepth 100000 in
set_option maxHeartbeats 4000000 in
theorem s_Ro_draw {D : Nat} (hD : 0 ≤ D) (N : Nat) {x1 : Int32} {μ : MM} {r : Int32} {μr : MM} (h : f_Ro_draw N x1 μ = some (r, μr)) : Cl D mX11_draw [av_r 0, av_i x1] μ (po_i r μr) := by
  refine Cl_of pn_X11 (Nat.le_of_ble_eq_true rfl) ?_
  show Sm D mX11_draw 0 [some (av_r 0), some (av_i x1)] [] μ (po_i r μr)
  unfold f_Ro_draw at h
  refine sm_aload_n dX11_draw_0 rfl rfl ?_
  refine sm_aload_n dX11_draw_1 rfl rfl ?_
  refine sm_getJ dX11_draw_2 fg_RX11_113 k_0 ?_
  refine sm_ldc2 dX11_draw_5 cs_RX11_280 ?_
  refine sm_lmul dX11_draw_8 ?_
  refine sm_ldc2 dX11_draw_9 cs_RX11_282 ?_
  refine sm_ladd dX11_draw_12 ?_
  refine sm_putJ dX11_draw_13 fp_RX11_113 k_0 ?_
  replace h := wr_some h
  refine sm_iload_n dX11_draw_16 rfl rfl ?_
  refine sm_iconst dX11_draw_17 ic_1 ?_
  refine sm_icmp_ge (tgt := 25) dX11_draw_18 (by decide) (fun g1 => ?_) (fun g1 => ?_)
  · replace h := it_t g1 h
    refine sm_aload_n dX11_draw_25 rfl rfl ?_
    refine sm_getJ dX11_draw_26 fg_RX11_113 k_0 ?_
    refine sm_bipush dX11_draw_29 bp_33 ?_
    refine sm_lushr dX11_draw_31 ?_
    refine sm_iload_n dX11_draw_32 rfl rfl ?_
    refine sm_i2l dX11_draw_33 ?_
    obtain ⟨g2, h⟩ := gd_some h
    refine sm_lrem dX11_draw_34 (nzl_ne g2) ?_
    refine sm_l2i dX11_draw_35 ?_
    cases h
    exact sm_ret_i (st := []) dX11_draw_36 rfl ⟨rfl, rfl⟩
  · replace h := it_f g1 h
    refine sm_iconst dX11_draw_21 ic_0 ?_
    refine sm_goto (tgt := 36) dX11_draw_22 (by decide) ?_
    cases h
    exact sm_ret_i (st := []) dX11_draw_36 rfl ⟨rfl, rfl⟩
set_option maxRecDepth 100000 in
set_option maxHeartbeats 4000000 in
theorem s_Ro_clean {D : Nat} (hD : 1 ≤ D) (N : Nat) {μ : MM} {μr : MM} (h : f_Ro_clean N μ = some μr) : Cl D mX11_clean [av_r 0] μ (po_v μr) := by
  obtain ⟨d, rfl⟩ : ∃ d, D = d + 1 := ⟨D - 1, by omega⟩
  refine Cl_of pn_X11 (Nat.le_of_ble_eq_true rfl) ?_
  show Sm (d + 1) mX11_clean 0 [some (av_r 0), none, none, none] [] μ (po_v μr)
  unfold f_Ro_clean at h
  refine sm_aload_n dX11_clean_0 rfl rfl ?_
  refine sm_bipush dX11_clean_1 bp_100 ?_
  obtain ⟨t3, μ1z, g1, h⟩ := ob_some h
  refine sm_callV dX11_clean_3 cv_X11_draw ml_RX11_277 k_0 rfl rfl (by decide) (as := [av_i 100]) rfl (Nat.le_of_ble_eq_true rfl) rfl (s_Ro_draw (D := d) (by omega) N g1) (fun r9 μ9 hp => ?_)
  rw [hp.1, hp.2]
  clear hp r9 μ9
  refine sm_aload_n dX11_clean_6 rfl rfl ?_
  refine sm_getI dX11_clean_7 fg_RX11_110 k_0 ?_
  refine sm_icmp_lt (tgt := 14) dX11_clean_10 (by decide) (fun g2 => ?_) (fun g2 => ?_)
  · replace h := it_t g2 h
    refine sm_aload_n dX11_clean_14 rfl rfl ?_
    refine sm_aload_n dX11_clean_15 rfl rfl ?_
    refine sm_getR dX11_clean_16 fg_RX11_35 k_0 (rf_11_3 k_0) ?_
    refine sm_getI dX11_clean_19 fg_RX11_174 k_23 ?_
    obtain ⟨t22, μ2z, g3, h⟩ := ob_some h
    refine sm_callV dX11_clean_22 cv_X11_draw ml_RX11_277 k_0 rfl rfl (by decide) (as := [av_i (μ1z.1 23 1)]) rfl (Nat.le_of_ble_eq_true rfl) rfl (s_Ro_draw (D := d) (by omega) N g3) (fun r9 μ9 hp => ?_)
    rw [hp.1, hp.2]
    clear hp r9 μ9
    refine sm_istore_n dX11_clean_25 rfl (Nat.le_of_ble_eq_true rfl) (pv_r rfl) ?_
    refine sm_aload_n dX11_clean_26 rfl rfl ?_
    refine sm_aload_n dX11_clean_27 rfl rfl ?_
    refine sm_getR dX11_clean_28 fg_RX11_35 k_0 (rf_11_3 k_0) ?_
    refine sm_getI dX11_clean_31 fg_RX11_174 k_23 ?_
    obtain ⟨t34, μ3z, g4, h⟩ := ob_some h
    refine sm_callV dX11_clean_34 cv_X11_draw ml_RX11_277 k_0 rfl rfl (by decide) (as := [av_i (μ2z.1 23 1)]) rfl (Nat.le_of_ble_eq_true rfl) rfl (s_Ro_draw (D := d) (by omega) N g4) (fun r9 μ9 hp => ?_)
    rw [hp.1, hp.2]
    clear hp r9 μ9
    refine sm_istore_n dX11_clean_37 rfl (Nat.le_of_ble_eq_true rfl) (pv_i rfl) ?_
    refine sm_iload_n dX11_clean_38 rfl rfl ?_
    refine sm_iload_n dX11_clean_39 rfl rfl ?_
    refine sm_icmp_eq (tgt := 115) dX11_clean_40 (by decide) (fun g5 => ?_) (fun g5 => ?_)
    · replace h := it_t g5 h
      cases h
      exact sm_ret_v (st := []) dX11_clean_115 rfl ⟨rfl, rfl⟩
    · replace h := it_f g5 h
      refine sm_aload_n dX11_clean_43 rfl rfl ?_
      refine sm_getR dX11_clean_44 fg_RX11_35 k_0 (rf_11_3 k_0) ?_
      refine sm_iload_n dX11_clean_47 rfl rfl ?_
      obtain ⟨t48, μ4z, g6, h⟩ := ob_some h
      refine sm_callV dX11_clean_48 cv_X1_isCard ml_RX11_199 k_23 rfl rfl (by decide) (as := [av_i t22]) rfl (Nat.le_of_ble_eq_true rfl) rfl (s_Co_isCard (D := d) (by omega) N k_23 g6) (fun r9 μ9 hp => ?_)
      rw [hp.1, hp.2]
      clear hp r9 μ9
      refine sm_if_eq (tgt := 115) dX11_clean_51 (by decide) (fun g7 => ?_) (fun g7 => ?_)
      · replace h := it_t g7 h
        cases h
        exact sm_ret_v (st := []) dX11_clean_115 rfl ⟨rfl, rfl⟩
      · replace h := it_f g7 h
        refine sm_aload_n dX11_clean_54 rfl rfl ?_
        refine sm_getR dX11_clean_55 fg_RX11_35 k_0 (rf_11_3 k_0) ?_
        refine sm_iload_n dX11_clean_58 rfl rfl ?_
        obtain ⟨t59, μ5z, g8, h⟩ := ob_some h
        refine sm_callV dX11_clean_59 cv_X1_isCard ml_RX11_199 k_23 rfl rfl (by decide) (as := [av_i t34]) rfl (Nat.le_of_ble_eq_true rfl) rfl (s_Co_isCard (D := d) (by omega) N k_23 g8) (fun r9 μ9 hp => ?_)
        rw [hp.1, hp.2]
        clear hp r9 μ9
        refine sm_if_eq (tgt := 115) dX11_clean_62 (by decide) (fun g9 => ?_) (fun g9 => ?_)
        · replace h := it_t g9 h
          cases h
          exact sm_ret_v (st := []) dX11_clean_115 rfl ⟨rfl, rfl⟩
        · replace h := it_f g9 h
          refine sm_aload_n dX11_clean_65 rfl rfl ?_
          refine sm_getR dX11_clean_66 fg_RX11_35 k_0 (rf_11_3 k_0) ?_
          refine sm_getR dX11_clean_69 fg_RX11_205 k_23 (rf_1_5 k_23) ?_
          refine sm_getR dX11_clean_72 fg_RX11_208 k_27 (rf_7_1 k_27) ?_
          refine sm_iload_n dX11_clean_75 rfl rfl ?_
          obtain ⟨g10, h⟩ := gd_some h
          refine sm_iald (j := (Int32.toNatClampNeg t22)) dX11_clean_76 k_33 (in_sz n_33 g10) rfl ?_
          refine sm_istore_n dX11_clean_77 rfl (Nat.le_of_ble_eq_true rfl) (pv_i rfl) ?_
          refine sm_aload_n dX11_clean_78 rfl rfl ?_
          refine sm_getR dX11_clean_79 fg_RX11_35 k_0 (rf_11_3 k_0) ?_
          refine sm_getR dX11_clean_82 fg_RX11_205 k_23 (rf_1_5 k_23) ?_
          refine sm_getR dX11_clean_85 fg_RX11_208 k_27 (rf_7_1 k_27) ?_
          refine sm_iload_n dX11_clean_88 rfl rfl ?_
          refine sm_aload_n dX11_clean_89 rfl rfl ?_
          refine sm_getR dX11_clean_90 fg_RX11_35 k_0 (rf_11_3 k_0) ?_
          refine sm_getR dX11_clean_93 fg_RX11_205 k_23 (rf_1_5 k_23) ?_
          refine sm_getR dX11_clean_96 fg_RX11_208 k_27 (rf_7_1 k_27) ?_
          refine sm_iload_n dX11_clean_99 rfl rfl ?_
          obtain ⟨g11, h⟩ := gd_some h
          refine sm_iald (j := (Int32.toNatClampNeg t34)) dX11_clean_100 k_33 (in_sz n_33 g11) rfl ?_
          obtain ⟨g12, h⟩ := gd_some h
          refine sm_iast (j := (Int32.toNatClampNeg t22)) dX11_clean_101 k_33 (in_sz n_33 g12) rfl ?_
          replace h := wr_some h
          refine sm_aload_n dX11_clean_102 rfl rfl ?_
          refine sm_getR dX11_clean_103 fg_RX11_35 k_0 (rf_11_3 k_0) ?_
          refine sm_getR dX11_clean_106 fg_RX11_205 k_23 (rf_1_5 k_23) ?_
          refine sm_getR dX11_clean_109 fg_RX11_208 k_27 (rf_7_1 k_27) ?_
          refine sm_iload_n dX11_clean_112 rfl rfl ?_
          refine sm_iload_n dX11_clean_113 rfl rfl ?_
          obtain ⟨g13, h⟩ := gd_some h
          refine sm_iast (j := (Int32.toNatClampNeg t34)) dX11_clean_114 k_33 (in_sz n_33 g13) rfl ?_
          replace h := wr_some h
          cases h
          exact sm_ret_v (st := []) dX11_clean_115 rfl ⟨rfl, rfl⟩
  · replace h := it_f g2 h
    cases h
    exact sm_ret_v (st := []) dX11_clean_13 rfl ⟨rfl, rfl⟩
set_option maxRecDepth 100000 in
set_option maxHeartbeats 4000000 in
theorem s_Ro_decades_L31 {D : Nat} (hD : 7 ≤ D) (N : Nat) {r : Int32} {μr : MM} : ∀ (n : Nat) (x1 : Int32) (x4 : Int32) (μ : MM), f_Ro_decades_L31 N n x1 x4 μ = some (r, μr) → Sm D mX11_decades 31 [some (av_r 0), some (av_i x1), none, none, some (av_i x4)] [] μ (po_i r μr) := by
  obtain ⟨d, rfl⟩ : ∃ d, D = d + 1 := ⟨D - 1, by omega⟩
  intro n
  induction n with
  | zero => intro x1 x4 μ h; cases (show none = some (r, μr) from h)
  | succ n ih =>
    intro x1 x4 μ h
    rw [f_Ro_decades_L31] at h
    refine sm_iload dX11_decades_31 rfl ?_
    refine sm_iload_n dX11_decades_33 rfl rfl ?_
    refine sm_icmp_ge (tgt := 68) dX11_decades_34 (by decide) (fun g5 => ?_) (fun g5 => ?_)
    · replace h := it_t g5 h
      refine sm_aload_n dX11_decades_68 rfl rfl ?_
      refine sm_getR dX11_decades_69 fg_RX11_35 k_0 (rf_11_3 k_0) ?_
      refine sm_getR dX11_decades_72 fg_RX11_205 k_23 (rf_1_5 k_23) ?_
      refine sm_getI dX11_decades_75 fg_RX11_233 k_27 ?_
      cases h
      exact sm_ret_i (st := []) dX11_decades_78 rfl ⟨rfl, rfl⟩
    · replace h := it_f g5 h
      refine sm_aload_n dX11_decades_37 rfl rfl ?_
      refine sm_getR dX11_decades_38 fg_RX11_71 k_0 (rf_11_8 k_0) ?_
      refine sm_aload_n dX11_decades_41 rfl rfl ?_
      refine sm_getR dX11_decades_42 fg_RX11_35 k_0 (rf_11_3 k_0) ?_
      refine sm_getR dX11_decades_45 fg_RX11_205 k_23 (rf_1_5 k_23) ?_
      obtain ⟨μ3z, g6, h⟩ := obv_some h
      refine sm_callV dX11_decades_48 cv_X3_keep ml_RX11_252 k_51 rfl rfl (by decide) (as := [av_r 27]) rfl (Nat.le_of_ble_eq_true rfl) rfl (s_Hi_keep (D := d) (by omega) N k_27 g6) (fun r9 μ9 hp => ?_)
      rw [hp.1, hp.2]
      clear hp r9 μ9
      refine sm_aload_n dX11_decades_51 rfl rfl ?_
      obtain ⟨μ4z, g7, h⟩ := obv_some h
      refine sm_callV dX11_decades_52 cv_X11_clean ml_RX11_274 k_0 rfl rfl (by decide) (as := []) rfl (Nat.le_of_ble_eq_true rfl) rfl (s_Ro_clean (D := d) (by omega) N g7) (fun r9 μ9 hp => ?_)
      rw [hp.1, hp.2]
      clear hp r9 μ9
      refine sm_aload_n dX11_decades_55 rfl rfl ?_
      refine sm_getR dX11_decades_56 fg_RX11_64 k_0 (rf_11_7 k_0) ?_
      obtain ⟨μ5z, g8, h⟩ := obv_some h
      refine sm_callV dX11_decades_59 cv_X0_passDay ml_RX11_271 k_48 rfl rfl (by decide) (as := []) rfl (Nat.le_of_ble_eq_true rfl) rfl (s_Ag_passDay (D := d) (by omega) N g8) (fun r9 μ9 hp => ?_)
      rw [hp.1, hp.2]
      clear hp r9 μ9
      refine sm_iinc dX11_decades_62 rfl (congrArg (HAdd.hAdd x4) ic_1) (Nat.le_of_ble_eq_true rfl) (pv_n rfl) ?_
      refine sm_goto (tgt := 31) dX11_decades_65 (by decide) ?_
      exact Sm_weak (le_s rfl (le_s rfl (le_n (le_n (le_s rfl le_0))))) (ih x1 (x4 + 1) μ5z h)
set_option maxRecDepth 100000 in
set_option maxHeartbeats 4000000 in
theorem s_Ro_decades {D : Nat} (hD : 7 ≤ D) (N : Nat) {x1 : Int32} {y2 : Int64} {μ : MM} {r : Int32} {μr : MM} (h : f_Ro_decades N x1 y2 μ = some (r, μr)) : Cl D mX11_decades [av_r 0, av_i x1, av_l y2] μ (po_i r μr) := by
  obtain ⟨d, rfl⟩ : ∃ d, D = d + 1 := ⟨D - 1, by omega⟩
  refine Cl_of pn_X11 (Nat.le_of_ble_eq_true rfl) ?_
  show Sm (d + 1) mX11_decades 0 [some (av_r 0), some (av_i x1), some (av_l y2), none, none] [] μ (po_i r μr)
  unfold f_Ro_decades at h
  refine sm_aload_n dX11_decades_0 rfl rfl ?_
  refine sm_getR dX11_decades_1 fg_RX11_35 k_0 (rf_11_3 k_0) ?_
  obtain ⟨t4, μ1z, g1, h⟩ := ob_some h
  refine sm_callV dX11_decades_4 cv_X1_isNone ml_RX11_268 k_23 rfl rfl (by decide) (as := []) rfl (Nat.le_of_ble_eq_true rfl) rfl (s_Co_isNone (D := d) (by omega) N k_23 g1) (fun r9 μ9 hp => ?_)
  rw [hp.1, hp.2]
  clear hp r9 μ9
  refine sm_if_ne (tgt := 21) dX11_decades_7 (by decide) (fun g2 => ?_) (fun g2 => ?_)
  · replace h := it_f g2 h
    refine sm_iconst dX11_decades_21 ic_m1 ?_
    cases h
    exact sm_ret_i (st := []) dX11_decades_22 rfl ⟨rfl, rfl⟩
  · replace h := it_t g2 h
    refine sm_iload_n dX11_decades_10 rfl rfl ?_
    refine sm_iconst dX11_decades_11 ic_1 ?_
    refine sm_icmp_lt (tgt := 21) dX11_decades_12 (by decide) (fun g3 => ?_) (fun g3 => ?_)
    · replace h := it_t g3 h
      refine sm_iconst dX11_decades_21 ic_m1 ?_
      cases h
      exact sm_ret_i (st := []) dX11_decades_22 rfl ⟨rfl, rfl⟩
    · replace h := it_f g3 h
      refine sm_iload_n dX11_decades_15 rfl rfl ?_
      refine sm_bipush dX11_decades_16 bp_60 ?_
      refine sm_icmp_le (tgt := 23) dX11_decades_18 (by decide) (fun g4 => ?_) (fun g4 => ?_)
      · replace h := it_t g4 h
        refine sm_aload_n dX11_decades_23 rfl rfl ?_
        refine sm_lload_n dX11_decades_24 rfl rfl ?_
        refine sm_putJ dX11_decades_25 fp_RX11_113 k_0 ?_
        replace h := wr_some h
        refine sm_iconst dX11_decades_28 ic_0 ?_
        refine sm_istore dX11_decades_29 (Nat.le_of_ble_eq_true rfl) (pv_n rfl) ?_
        exact Sm_weak (le_s rfl (le_s rfl (le_n (le_n (le_s rfl le_0))))) (s_Ro_decades_L31 hD N N x1 0 (mm_J μ1z 0 16 y2) h)
      · replace h := it_f g4 h
        refine sm_iconst dX11_decades_21 ic_m1 ?_
        cases h
        exact sm_ret_i (st := []) dX11_decades_22 rfl ⟨rfl, rfl⟩
set_option maxRecDepth 100000 in
set_option maxHeartbeats 4000000 in
theorem s_Ro_undo {D : Nat} (hD : 4 ≤ D) (N : Nat) {μ : MM} {r : Int32} {μr : MM} (h : f_Ro_undo N μ = some (r, μr)) : Cl D mX11_undo [av_r 0] μ (po_i r μr) := by
  obtain ⟨d, rfl⟩ : ∃ d, D = d + 1 := ⟨D - 1, by omega⟩
  refine Cl_of pn_X11 (Nat.le_of_ble_eq_true rfl) ?_
  show Sm (d + 1) mX11_undo 0 [some (av_r 0)] [] μ (po_i r μr)
  unfold f_Ro_undo at h
  refine sm_aload_n dX11_undo_0 rfl rfl ?_
  refine sm_getR dX11_undo_1 fg_RX11_71 k_0 (rf_11_8 k_0) ?_
  refine sm_aload_n dX11_undo_4 rfl rfl ?_
  refine sm_getR dX11_undo_5 fg_RX11_35 k_0 (rf_11_3 k_0) ?_
  refine sm_getR dX11_undo_8 fg_RX11_205 k_23 (rf_1_5 k_23) ?_
  obtain ⟨t11, μ1z, g1, h⟩ := ob_some h
  refine sm_callV dX11_undo_11 cv_X3_undoInto ml_RX11_284 k_51 rfl rfl (by decide) (as := [av_r 27]) rfl (Nat.le_of_ble_eq_true rfl) rfl (s_Hi_undoInto (D := d) (by omega) N k_27 g1) (fun r9 μ9 hp => ?_)
  rw [hp.1, hp.2]
  clear hp r9 μ9
  cases h
  exact sm_ret_i (st := []) dX11_undo_14 rfl ⟨rfl, rfl⟩
set_option maxRecDepth 100000 in
set_option maxHeartbeats 4000000 in
theorem s_Ro_log {D : Nat} (hD : 3 ≤ D) (N : Nat) {x1 : Int32} {x2 : Int32} {μ : MM} {r : Int32} {μr : MM} (h : f_Ro_log N x1 x2 μ = some (r, μr)) : Cl D mX11_log [av_r 0, av_i x1, av_i x2] μ (po_i r μr) := by
  obtain ⟨d, rfl⟩ : ∃ d, D = d + 1 := ⟨D - 1, by omega⟩
  refine Cl_of pn_X11 (Nat.le_of_ble_eq_true rfl) ?_
  show Sm (d + 1) mX11_log 0 [some (av_r 0), some (av_i x1), some (av_i x2)] [] μ (po_i r μr)
  unfold f_Ro_log at h
  refine sm_aload_n dX11_log_0 rfl rfl ?_
  refine sm_getR dX11_log_1 fg_RX11_64 k_0 (rf_11_7 k_0) ?_
  refine sm_iload_n dX11_log_4 rfl rfl ?_
  refine sm_iload_n dX11_log_5 rfl rfl ?_
  obtain ⟨t6, μ1z, g1, h⟩ := ob_some h
  refine sm_callV dX11_log_6 cv_X0_logged ml_RX11_288 k_48 rfl rfl (by decide) (as := [av_i x1, av_i x2]) rfl (Nat.le_of_ble_eq_true rfl) rfl (s_Ag_logged (D := d) (by omega) N g1) (fun r9 μ9 hp => ?_)
  rw [hp.1, hp.2]
  clear hp r9 μ9
  cases h
  exact sm_ret_i (st := []) dX11_log_9 rfl ⟨rfl, rfl⟩
set_option maxRecDepth 100000 in
set_option maxHeartbeats 4000000 in
theorem s_Ro_image {D : Nat} (hD : 3 ≤ D) (N : Nat) {μ : MM} {r : Int32} {μr : MM} (h : f_Ro_image N μ = some (r, μr)) : Cl D mX11_image [av_r 0] μ (po_i r μr) := by
  obtain ⟨d, rfl⟩ : ∃ d, D = d + 1 := ⟨D - 1, by omega⟩
  refine Cl_of pn_X11 (Nat.le_of_ble_eq_true rfl) ?_
  show Sm (d + 1) mX11_image 0 [some (av_r 0)] [] μ (po_i r μr)
  unfold f_Ro_image at h
  refine sm_aload_n dX11_image_0 rfl rfl ?_
  refine sm_getR dX11_image_1 fg_RX11_35 k_0 (rf_11_3 k_0) ?_
  obtain ⟨t4, μ1z, g1, h⟩ := ob_some h
  refine sm_callV dX11_image_4 cv_X1_isNone ml_RX11_268 k_23 rfl rfl (by decide) (as := []) rfl (Nat.le_of_ble_eq_true rfl) rfl (s_Co_isNone (D := d) (by omega) N k_23 g1) (fun r9 μ9 hp => ?_)
  rw [hp.1, hp.2]
  clear hp r9 μ9
  refine sm_if_eq (tgt := 12) dX11_image_7 (by decide) (fun g2 => ?_) (fun g2 => ?_)
  · replace h := it_t g2 h
    refine sm_aload_n dX11_image_12 rfl rfl ?_
    refine sm_getR dX11_image_13 fg_RX11_98 k_0 (rf_11_12 k_0) ?_
    refine sm_aload_n dX11_image_16 rfl rfl ?_
    refine sm_getR dX11_image_17 fg_RX11_35 k_0 (rf_11_3 k_0) ?_
    refine sm_getR dX11_image_20 fg_RX11_205 k_23 (rf_1_5 k_23) ?_
    obtain ⟨μ2z, g3, h⟩ := obv_some h
    refine sm_callV dX11_image_23 cv_X7_takeAll ml_RX11_292 k_347 rfl rfl (by decide) (as := [av_r 27]) rfl (Nat.le_of_ble_eq_true rfl) rfl (s_Sh_takeAll (D := d) (by omega) N k_347 k_27 g3) (fun r9 μ9 hp => ?_)
    rw [hp.1, hp.2]
    clear hp r9 μ9
    refine sm_aload_n dX11_image_26 rfl rfl ?_
    refine sm_getR dX11_image_27 fg_RX11_64 k_0 (rf_11_7 k_0) ?_
    refine sm_getR dX11_image_30 fg_RX11_294 k_48 (rf_0_0 k_48) ?_
    refine sm_iconst dX11_image_33 ic_0 ?_
    refine sm_aload_n dX11_image_34 rfl rfl ?_
    refine sm_getR dX11_image_35 fg_RX11_102 k_0 (rf_11_13 k_0) ?_
    refine sm_iconst dX11_image_38 ic_0 ?_
    refine sm_sipush dX11_image_39 sp_128 ?_
    obtain ⟨g4, h⟩ := gd_some h
    obtain ⟨g4_1, g4_2, g4_3, g4_4, g4_5⟩ := cpb_ok n_49 n_354 g4
    refine sm_copyI dX11_image_42 ml_RX11_297 k_49 k_354 g4_1 g4_2 g4_3 g4_4 g4_5 (Nat.le_of_ble_eq_true rfl) ?_
    replace h := wr_some h
    refine sm_aload_n dX11_image_45 rfl rfl ?_
    refine sm_iconst dX11_image_46 ic_1 ?_
    refine sm_putZ dX11_image_47 fp_RX11_106 k_0 (Or.inr rfl) ?_
    replace h := wr_some h
    refine sm_aload_n dX11_image_50 rfl rfl ?_
    refine sm_getR dX11_image_51 fg_RX11_35 k_0 (rf_11_3 k_0) ?_
    refine sm_getR dX11_image_54 fg_RX11_205 k_23 (rf_1_5 k_23) ?_
    refine sm_getI dX11_image_57 fg_RX11_233 k_27 ?_
    cases h
    exact sm_ret_i (st := []) dX11_image_60 rfl ⟨rfl, rfl⟩
  · replace h := it_f g2 h
    refine sm_iconst dX11_image_10 ic_m1 ?_
    cases h
    exact sm_ret_i (st := []) dX11_image_11 rfl ⟨rfl, rfl⟩
set_option maxRecDepth 100000 in
set_option maxHeartbeats 4000000 in
theorem s_Ro_back {D : Nat} (hD : 3 ≤ D) (N : Nat) {μ : MM} {r : Int32} {μr : MM} (h : f_Ro_back N μ = some (r, μr)) : Cl D mX11_back [av_r 0] μ (po_i r μr) := by
  obtain ⟨d, rfl⟩ : ∃ d, D = d + 1 := ⟨D - 1, by omega⟩
  refine Cl_of pn_X11 (Nat.le_of_ble_eq_true rfl) ?_
  show Sm (d + 1) mX11_back 0 [some (av_r 0)] [] μ (po_i r μr)
  unfold f_Ro_back at h
  refine sm_aload_n dX11_back_0 rfl rfl ?_
  refine sm_getI dX11_back_1 fg_RX11_106 k_0 ?_
  refine sm_if_ne (tgt := 9) dX11_back_4 (by decide) (fun g1 => ?_) (fun g1 => ?_)
  · replace h := it_f g1 h
    refine sm_aload_n dX11_back_9 rfl rfl ?_
    refine sm_getR dX11_back_10 fg_RX11_35 k_0 (rf_11_3 k_0) ?_
    refine sm_getR dX11_back_13 fg_RX11_205 k_23 (rf_1_5 k_23) ?_
    refine sm_aload_n dX11_back_16 rfl rfl ?_
    refine sm_getR dX11_back_17 fg_RX11_98 k_0 (rf_11_12 k_0) ?_
    obtain ⟨μ1z, g2, h⟩ := obv_some h
    refine sm_callV dX11_back_20 cv_X7_takeAll ml_RX11_292 k_27 rfl rfl (by decide) (as := [av_r 347]) rfl (Nat.le_of_ble_eq_true rfl) rfl (s_Sh_takeAll (D := d) (by omega) N k_27 k_347 g2) (fun r9 μ9 hp => ?_)
    rw [hp.1, hp.2]
    clear hp r9 μ9
    refine sm_aload_n dX11_back_23 rfl rfl ?_
    refine sm_getR dX11_back_24 fg_RX11_102 k_0 (rf_11_13 k_0) ?_
    refine sm_iconst dX11_back_27 ic_0 ?_
    refine sm_aload_n dX11_back_28 rfl rfl ?_
    refine sm_getR dX11_back_29 fg_RX11_64 k_0 (rf_11_7 k_0) ?_
    refine sm_getR dX11_back_32 fg_RX11_294 k_48 (rf_0_0 k_48) ?_
    refine sm_iconst dX11_back_35 ic_0 ?_
    refine sm_sipush dX11_back_36 sp_128 ?_
    obtain ⟨g3, h⟩ := gd_some h
    obtain ⟨g3_1, g3_2, g3_3, g3_4, g3_5⟩ := cpb_ok n_354 n_49 g3
    refine sm_copyI dX11_back_39 ml_RX11_297 k_354 k_49 g3_1 g3_2 g3_3 g3_4 g3_5 (Nat.le_of_ble_eq_true rfl) ?_
    replace h := wr_some h
    refine sm_aload_n dX11_back_42 rfl rfl ?_
    refine sm_getR dX11_back_43 fg_RX11_71 k_0 (rf_11_8 k_0) ?_
    obtain ⟨μ3z, g4, h⟩ := obv_some h
    refine sm_callV dX11_back_46 cv_X3_forget ml_RX11_170 k_51 rfl rfl (by decide) (as := []) rfl (Nat.le_of_ble_eq_true rfl) rfl (s_Hi_forget (D := d) (by omega) N g4) (fun r9 μ9 hp => ?_)
    rw [hp.1, hp.2]
    clear hp r9 μ9
    refine sm_aload_n dX11_back_49 rfl rfl ?_
    refine sm_getR dX11_back_50 fg_RX11_35 k_0 (rf_11_3 k_0) ?_
    refine sm_getR dX11_back_53 fg_RX11_205 k_23 (rf_1_5 k_23) ?_
    refine sm_getI dX11_back_56 fg_RX11_233 k_27 ?_
    cases h
    exact sm_ret_i (st := []) dX11_back_59 rfl ⟨rfl, rfl⟩
  · replace h := it_t g1 h
    refine sm_iconst dX11_back_7 ic_m1 ?_
    cases h
    exact sm_ret_i (st := []) dX11_back_8 rfl ⟨rfl, rfl⟩
set_option maxRecDepth 100000 in
set_option maxHeartbeats 4000000 in
theorem s_Ro_right_L16 {D : Nat} (hD : 4 ≤ D) (N : Nat) {r : Int32} {μr : MM} : ∀ (n : Nat) (x1 : Int32) (x2 : Int32) (μ : MM), f_Ro_right_L16 N n x1 x2 μ = some (r, μr) → Sm D mX11_right 16 [some (av_r 0), some (av_i x1), some (av_i x2)] [] μ (po_i r μr) := by
  obtain ⟨d, rfl⟩ : ∃ d, D = d + 1 := ⟨D - 1, by omega⟩
  intro n
  induction n with
  | zero => intro x1 x2 μ h; cases (show none = some (r, μr) from h)
  | succ n ih =>
    intro x1 x2 μ h
    rw [f_Ro_right_L16] at h
    refine sm_iload_n dX11_right_16 rfl rfl ?_
    refine sm_aload_n dX11_right_17 rfl rfl ?_
    refine sm_getR dX11_right_18 fg_RX11_35 k_0 (rf_11_3 k_0) ?_
    refine sm_getI dX11_right_21 fg_RX11_174 k_23 ?_
    refine sm_icmp_ge (tgt := 50) dX11_right_24 (by decide) (fun g3 => ?_) (fun g3 => ?_)
    · replace h := it_t g3 h
      refine sm_iload_n dX11_right_50 rfl rfl ?_
      cases h
      exact sm_ret_i (st := []) dX11_right_51 rfl ⟨rfl, rfl⟩
    · replace h := it_f g3 h
      refine sm_aload_n dX11_right_27 rfl rfl ?_
      refine sm_getR dX11_right_28 fg_RX11_35 k_0 (rf_11_3 k_0) ?_
      refine sm_iload_n dX11_right_31 rfl rfl ?_
      obtain ⟨t32, μ2z, g4, h⟩ := ob_some h
      refine sm_callV dX11_right_32 cv_X1_isRight ml_RX11_216 k_23 rfl rfl (by decide) (as := [av_i x2]) rfl (Nat.le_of_ble_eq_true rfl) rfl (s_Co_isRight (D := d) (by omega) N k_23 g4) (fun r9 μ9 hp => ?_)
      rw [hp.1, hp.2]
      clear hp r9 μ9
      have hj35 : ∀ (v35_0 : Int32), v35_0 = (if t32 = 0 then x1 else (x1 ||| ((1 : Int32) <<< (x2 &&& 31)))) → Sm (d + 1) mX11_right 44 [some (av_r 0), some (av_i v35_0), some (av_i x2)] [] μ2z (po_i r μr) := by
        intro v35_0 ev35_0
        subst ev35_0
        refine sm_iinc dX11_right_44 rfl (congrArg (HAdd.hAdd x2) ic_1) (Nat.le_of_ble_eq_true rfl) (pv_i rfl) ?_
        refine sm_goto (tgt := 16) dX11_right_47 (by decide) ?_
        exact Sm_weak (le_s rfl (le_s rfl (le_s rfl le_0))) (ih (if t32 = 0 then x1 else (x1 ||| ((1 : Int32) <<< (x2 &&& 31)))) (x2 + 1) μ2z h)
      refine sm_if_eq (tgt := 44) dX11_right_35 (by decide) (fun c35_0 => ?_) (fun c35_0 => ?_)
      · exact Sm_weak (le_s rfl (le_s rfl (le_s rfl le_0))) (hj35 _ (if_pos c35_0).symm)
      · refine sm_iload_n dX11_right_38 rfl rfl ?_
        refine sm_iconst dX11_right_39 ic_1 ?_
        refine sm_iload_n dX11_right_40 rfl rfl ?_
        refine sm_ishl dX11_right_41 ?_
        refine sm_ior dX11_right_42 ?_
        refine sm_istore_n dX11_right_43 rfl (Nat.le_of_ble_eq_true rfl) (pv_r rfl) ?_
        exact Sm_weak (le_s rfl (le_s rfl (le_s rfl le_0))) (hj35 _ (if_neg c35_0).symm)
set_option maxRecDepth 100000 in
set_option maxHeartbeats 4000000 in
theorem s_Ro_right {D : Nat} (hD : 4 ≤ D) (N : Nat) {μ : MM} {r : Int32} {μr : MM} (h : f_Ro_right N μ = some (r, μr)) : Cl D mX11_right [av_r 0] μ (po_i r μr) := by
  obtain ⟨d, rfl⟩ : ∃ d, D = d + 1 := ⟨D - 1, by omega⟩
  refine Cl_of pn_X11 (Nat.le_of_ble_eq_true rfl) ?_
  show Sm (d + 1) mX11_right 0 [some (av_r 0), none, none] [] μ (po_i r μr)
  unfold f_Ro_right at h
  refine sm_aload_n dX11_right_0 rfl rfl ?_
  refine sm_getR dX11_right_1 fg_RX11_35 k_0 (rf_11_3 k_0) ?_
  obtain ⟨t4, μ1z, g1, h⟩ := ob_some h
  refine sm_callV dX11_right_4 cv_X1_isNone ml_RX11_268 k_23 rfl rfl (by decide) (as := []) rfl (Nat.le_of_ble_eq_true rfl) rfl (s_Co_isNone (D := d) (by omega) N k_23 g1) (fun r9 μ9 hp => ?_)
  rw [hp.1, hp.2]
  clear hp r9 μ9
  refine sm_if_eq (tgt := 12) dX11_right_7 (by decide) (fun g2 => ?_) (fun g2 => ?_)
  · replace h := it_t g2 h
    refine sm_iconst dX11_right_12 ic_0 ?_
    refine sm_istore_n dX11_right_13 rfl (Nat.le_of_ble_eq_true rfl) (pv_r rfl) ?_
    refine sm_iconst dX11_right_14 ic_0 ?_
    refine sm_istore_n dX11_right_15 rfl (Nat.le_of_ble_eq_true rfl) (pv_i rfl) ?_
    exact Sm_weak (le_s rfl (le_s rfl (le_s rfl le_0))) (s_Ro_right_L16 hD N N 0 0 μ1z h)
  · replace h := it_f g2 h
    refine sm_iconst dX11_right_10 ic_m1 ?_
    cases h
    exact sm_ret_i (st := []) dX11_right_11 rfl ⟨rfl, rfl⟩
set_option maxRecDepth 100000 in
set_option maxHeartbeats 4000000 in
theorem s_Ro_matched {D : Nat} (hD : 15 ≤ D) (N : Nat) {x1 : Int32} {μ : MM} {r : Int32} {μr : MM} (h : f_Ro_matched N x1 μ = some (r, μr)) : Cl D mX11_matched [av_r 0, av_i x1] μ (po_i r μr) := by
  obtain ⟨d, rfl⟩ : ∃ d, D = d + 1 := ⟨D - 1, by omega⟩
  refine Cl_of pn_X11 (Nat.le_of_ble_eq_true rfl) ?_
  show Sm (d + 1) mX11_matched 0 [some (av_r 0), some (av_i x1)] [] μ (po_i r μr)
  unfold f_Ro_matched at h
  refine sm_aload_n dX11_matched_0 rfl rfl ?_
  refine sm_getR dX11_matched_1 fg_RX11_35 k_0 (rf_11_3 k_0) ?_
  obtain ⟨t4, μ1z, g1, h⟩ := ob_some h
  refine sm_callV dX11_matched_4 cv_X1_isNone ml_RX11_268 k_23 rfl rfl (by decide) (as := []) rfl (Nat.le_of_ble_eq_true rfl) rfl (s_Co_isNone (D := d) (by omega) N k_23 g1) (fun r9 μ9 hp => ?_)
  rw [hp.1, hp.2]
  clear hp r9 μ9
  refine sm_if_ne (tgt := 19) dX11_matched_7 (by decide) (fun g2 => ?_) (fun g2 => ?_)
  · replace h := it_f g2 h
    refine sm_iconst dX11_matched_19 ic_m1 ?_
    cases h
    exact sm_ret_i (st := []) dX11_matched_20 rfl ⟨rfl, rfl⟩
  · replace h := it_t g2 h
    refine sm_iload_n dX11_matched_10 rfl rfl ?_
    refine sm_if_lt (tgt := 19) dX11_matched_11 (by decide) (fun g3 => ?_) (fun g3 => ?_)
    · replace h := it_t g3 h
      refine sm_iconst dX11_matched_19 ic_m1 ?_
      cases h
      exact sm_ret_i (st := []) dX11_matched_20 rfl ⟨rfl, rfl⟩
    · replace h := it_f g3 h
      refine sm_iload_n dX11_matched_14 rfl rfl ?_
      refine sm_iconst dX11_matched_15 ic_2 ?_
      refine sm_icmp_le (tgt := 21) dX11_matched_16 (by decide) (fun g4 => ?_) (fun g4 => ?_)
      · replace h := it_t g4 h
        refine sm_aload_n dX11_matched_21 rfl rfl ?_
        refine sm_getR dX11_matched_22 fg_RX11_80 k_0 (rf_11_9 k_0) ?_
        obtain ⟨μ2z, g5, h⟩ := obv_some h
        refine sm_callV dX11_matched_25 cv_X6_findBest ml_RX11_303 k_333 rfl rfl (by decide) (as := []) rfl (Nat.le_of_ble_eq_true rfl) rfl (s_Ma_findBest (D := d) (by omega) N g5) (fun r9 μ9 hp => ?_)
        rw [hp.1, hp.2]
        clear hp r9 μ9
        refine sm_iload_n dX11_matched_28 rfl rfl ?_
        refine sm_if_ne (tgt := 40) dX11_matched_29 (by decide) (fun g6 => ?_) (fun g6 => ?_)
        · replace h := it_f g6 h
          refine sm_iload_n dX11_matched_40 rfl rfl ?_
          refine sm_iconst dX11_matched_41 ic_1 ?_
          have hj42 : ∀ (v42_0 : Int32), v42_0 = (if x1 = 1 then (μ2z.1 333 0) else (μ2z.1 333 1)) → Sm (d + 1) mX11_matched 62 [none, none] [av_i v42_0] μ2z (po_i r μr) := by
            intro v42_0 ev42_0
            subst ev42_0
            cases h
            exact sm_ret_i (st := []) dX11_matched_62 rfl ⟨rfl, rfl⟩
          refine sm_icmp_ne (tgt := 55) dX11_matched_42 (by decide) (fun c42_0 => ?_) (fun c42_0 => ?_)
          · refine sm_aload_n dX11_matched_55 rfl rfl ?_
            refine sm_getR dX11_matched_56 fg_RX11_80 k_0 (rf_11_9 k_0) ?_
            refine sm_getI dX11_matched_59 fg_RX11_312 k_333 ?_
            exact Sm_weak (le_n (le_n le_0)) (hj42 _ (if_neg c42_0).symm)
          · refine sm_aload_n dX11_matched_45 rfl rfl ?_
            refine sm_getR dX11_matched_46 fg_RX11_80 k_0 (rf_11_9 k_0) ?_
            refine sm_getI dX11_matched_49 fg_RX11_309 k_333 ?_
            refine sm_goto (tgt := 62) dX11_matched_52 (by decide) ?_
            exact Sm_weak (le_n (le_n le_0)) (hj42 _ (if_pos c42_0).symm)
        · replace h := it_t g6 h
          refine sm_aload_n dX11_matched_32 rfl rfl ?_
          refine sm_getR dX11_matched_33 fg_RX11_80 k_0 (rf_11_9 k_0) ?_
          refine sm_getI dX11_matched_36 fg_RX11_306 k_333 ?_
          cases h
          exact sm_ret_i (st := []) dX11_matched_39 rfl ⟨rfl, rfl⟩
      · replace h := it_f g4 h
        refine sm_iconst dX11_matched_19 ic_m1 ?_
        cases h
        exact sm_ret_i (st := []) dX11_matched_20 rfl ⟨rfl, rfl⟩
set_option maxRecDepth 100000 in
set_option maxHeartbeats 4000000 in
theorem s_Ro_clash {D : Nat} (hD : 15 ≤ D) (N : Nat) {μ : MM} {r : Int32} {μr : MM} (h : f_Ro_clash N μ = some (r, μr)) : Cl D mX11_clash [av_r 0] μ (po_i r μr) := by
  obtain ⟨d, rfl⟩ : ∃ d, D = d + 1 := ⟨D - 1, by omega⟩
  refine Cl_of pn_X11 (Nat.le_of_ble_eq_true rfl) ?_
  show Sm (d + 1) mX11_clash 0 [some (av_r 0)] [] μ (po_i r μr)
  unfold f_Ro_clash at h
  refine sm_aload_n dX11_clash_0 rfl rfl ?_
  refine sm_getR dX11_clash_1 fg_RX11_35 k_0 (rf_11_3 k_0) ?_
  obtain ⟨t4, μ1z, g1, h⟩ := ob_some h
  refine sm_callV dX11_clash_4 cv_X1_isNone ml_RX11_268 k_23 rfl rfl (by decide) (as := []) rfl (Nat.le_of_ble_eq_true rfl) rfl (s_Co_isNone (D := d) (by omega) N k_23 g1) (fun r9 μ9 hp => ?_)
  rw [hp.1, hp.2]
  clear hp r9 μ9
  refine sm_if_eq (tgt := 14) dX11_clash_7 (by decide) (fun g2 => ?_) (fun g2 => ?_)
  · replace h := it_t g2 h
    refine sm_aload_n dX11_clash_14 rfl rfl ?_
    refine sm_getR dX11_clash_15 fg_RX11_80 k_0 (rf_11_9 k_0) ?_
    obtain ⟨t18, μ2z, g3, h⟩ := ob_some h
    refine sm_callV dX11_clash_18 cv_X6_leastClash ml_RX11_315 k_333 rfl rfl (by decide) (as := []) rfl (Nat.le_of_ble_eq_true rfl) rfl (s_Ma_leastClash (D := d) (by omega) N g3) (fun r9 μ9 hp => ?_)
    rw [hp.1, hp.2]
    clear hp r9 μ9
    cases h
    exact sm_ret_i (st := []) dX11_clash_21 rfl ⟨rfl, rfl⟩
  · replace h := it_f g2 h
    refine sm_iconst dX11_clash_10 ic_m1 ?_
    refine sm_goto (tgt := 21) dX11_clash_11 (by decide) ?_
    cases h
    exact sm_ret_i (st := []) dX11_clash_21 rfl ⟨rfl, rfl⟩
set_option maxRecDepth 100000 in
set_option maxHeartbeats 4000000 in
theorem s_Ro_blank {D : Nat} (hD : 6 ≤ D) (N : Nat) {x1 : Int32} {μ : MM} {r : Int32} {μr : MM} (h : f_Ro_blank N x1 μ = some (r, μr)) : Cl D mX11_blank [av_r 0, av_i x1] μ (po_i r μr) := by
  obtain ⟨d, rfl⟩ : ∃ d, D = d + 1 := ⟨D - 1, by omega⟩
  refine Cl_of pn_X11 (Nat.le_of_ble_eq_true rfl) ?_
  show Sm (d + 1) mX11_blank 0 [some (av_r 0), some (av_i x1)] [] μ (po_i r μr)
  unfold f_Ro_blank at h
  refine sm_aload_n dX11_blank_0 rfl rfl ?_
  refine sm_getR dX11_blank_1 fg_RX11_35 k_0 (rf_11_3 k_0) ?_
  refine sm_iload_n dX11_blank_4 rfl rfl ?_
  obtain ⟨t5, μ1z, g1, h⟩ := ob_some h
  refine sm_callV dX11_blank_5 cv_X1_isCard ml_RX11_199 k_23 rfl rfl (by decide) (as := [av_i x1]) rfl (Nat.le_of_ble_eq_true rfl) rfl (s_Co_isCard (D := d) (by omega) N k_23 g1) (fun r9 μ9 hp => ?_)
  rw [hp.1, hp.2]
  clear hp r9 μ9
  refine sm_if_eq (tgt := 22) dX11_blank_8 (by decide) (fun g2 => ?_) (fun g2 => ?_)
  · replace h := it_t g2 h
    refine sm_iconst dX11_blank_22 ic_m1 ?_
    cases h
    exact sm_ret_i (st := []) dX11_blank_23 rfl ⟨rfl, rfl⟩
  · replace h := it_f g2 h
    refine sm_aload_n dX11_blank_11 rfl rfl ?_
    refine sm_getR dX11_blank_12 fg_RX11_64 k_0 (rf_11_7 k_0) ?_
    refine sm_iload_n dX11_blank_15 rfl rfl ?_
    obtain ⟨t16, μ2z, g3, h⟩ := ob_some h
    refine sm_callV dX11_blank_16 cv_X0_daysTillBlank ml_RX11_318 k_48 rfl rfl (by decide) (as := [av_i x1]) rfl (Nat.le_of_ble_eq_true rfl) rfl (s_Ag_daysTillBlank (D := d) (by omega) N g3) (fun r9 μ9 hp => ?_)
    rw [hp.1, hp.2]
    clear hp r9 μ9
    refine sm_goto (tgt := 23) dX11_blank_19 (by decide) ?_
    cases h
    exact sm_ret_i (st := []) dX11_blank_23 rfl ⟨rfl, rfl⟩
set_option maxRecDepth 100000 in
set_option maxHeartbeats 4000000 in
theorem s_Ro_stood {D : Nat} (hD : 1 ≤ D) (N : Nat) {x1 : Int32} {x2 : Int32} {x3 : Int32} {μ : MM} {r : Int32} {μr : MM} (h : f_Ro_stood N x1 x2 x3 μ = some (r, μr)) : Cl D mX11_stood [av_r 0, av_i x1, av_i x2, av_i x3] μ (po_i r μr) := by
  obtain ⟨d, rfl⟩ : ∃ d, D = d + 1 := ⟨D - 1, by omega⟩
  refine Cl_of pn_X11 (Nat.le_of_ble_eq_true rfl) ?_
  show Sm (d + 1) mX11_stood 0 [some (av_r 0), some (av_i x1), some (av_i x2), some (av_i x3)] [] μ (po_i r μr)
  unfold f_Ro_stood at h
  refine sm_aload_n dX11_stood_0 rfl rfl ?_
  refine sm_getR dX11_stood_1 fg_RX11_35 k_0 (rf_11_3 k_0) ?_
  refine sm_iload_n dX11_stood_4 rfl rfl ?_
  obtain ⟨t5, μ1z, g1, h⟩ := ob_some h
  refine sm_callV dX11_stood_5 cv_X1_isThing ml_RX11_180 k_23 rfl rfl (by decide) (as := [av_i x1]) rfl (Nat.le_of_ble_eq_true rfl) rfl (s_Co_isThing (D := d) (by omega) N k_23 g1) (fun r9 μ9 hp => ?_)
  rw [hp.1, hp.2]
  clear hp r9 μ9
  refine sm_if_eq (tgt := 22) dX11_stood_8 (by decide) (fun g2 => ?_) (fun g2 => ?_)
  · replace h := it_t g2 h
    refine sm_iconst dX11_stood_22 ic_m1 ?_
    cases h
    exact sm_ret_i (st := []) dX11_stood_23 rfl ⟨rfl, rfl⟩
  · replace h := it_f g2 h
    refine sm_aload_n dX11_stood_11 rfl rfl ?_
    refine sm_getR dX11_stood_12 fg_RX11_35 k_0 (rf_11_3 k_0) ?_
    refine sm_iload_n dX11_stood_15 rfl rfl ?_
    obtain ⟨t16, μ2z, g3, h⟩ := ob_some h
    refine sm_callV dX11_stood_16 cv_X1_isCard ml_RX11_199 k_23 rfl rfl (by decide) (as := [av_i x2]) rfl (Nat.le_of_ble_eq_true rfl) rfl (s_Co_isCard (D := d) (by omega) N k_23 g3) (fun r9 μ9 hp => ?_)
    rw [hp.1, hp.2]
    clear hp r9 μ9
    refine sm_if_ne (tgt := 24) dX11_stood_19 (by decide) (fun g4 => ?_) (fun g4 => ?_)
    · replace h := it_f g4 h
      refine sm_aload_n dX11_stood_24 rfl rfl ?_
      refine sm_getR dX11_stood_25 fg_RX11_87 k_0 (rf_11_10 k_0) ?_
      refine sm_iload_n dX11_stood_28 rfl rfl ?_
      refine sm_iload_n dX11_stood_29 rfl rfl ?_
      refine sm_iload_n dX11_stood_30 rfl rfl ?_
      obtain ⟨t31, μ3z, g5, h⟩ := ob_some h
      refine sm_callV dX11_stood_31 cv_X2_note ml_RX11_321 k_341 rfl rfl (by decide) (as := [av_i x1, av_i x2, av_i x3]) rfl (Nat.le_of_ble_eq_true rfl) rfl (s_Gu_note (D := d) (by omega) N g5) (fun r9 μ9 hp => ?_)
      rw [hp.1, hp.2]
      clear hp r9 μ9
      cases h
      exact sm_ret_i (st := []) dX11_stood_34 rfl ⟨rfl, rfl⟩
    · replace h := it_t g4 h
      refine sm_iconst dX11_stood_22 ic_m1 ?_
      cases h
      exact sm_ret_i (st := []) dX11_stood_23 rfl ⟨rfl, rfl⟩
set_option maxRecDepth 100000 in
set_option maxHeartbeats 4000000 in
theorem s_Ro_once {D : Nat} (hD : 4 ≤ D) (N : Nat) {x1 : Int32} {x2 : Int32} {μ : MM} {r : Int32} {μr : MM} (h : f_Ro_once N x1 x2 μ = some (r, μr)) : Cl D mX11_once [av_r 0, av_i x1, av_i x2] μ (po_i r μr) := by
  obtain ⟨d, rfl⟩ : ∃ d, D = d + 1 := ⟨D - 1, by omega⟩
  refine Cl_of pn_X11 (Nat.le_of_ble_eq_true rfl) ?_
  show Sm (d + 1) mX11_once 0 [some (av_r 0), some (av_i x1), some (av_i x2)] [] μ (po_i r μr)
  unfold f_Ro_once at h
  refine sm_iload_n dX11_once_0 rfl rfl ?_
  refine sm_iconst dX11_once_1 ic_m1 ?_
  refine sm_icmp_lt (tgt := 16) dX11_once_2 (by decide) (fun g1 => ?_) (fun g1 => ?_)
  · replace h := it_t g1 h
    refine sm_iconst dX11_once_16 ic_m1 ?_
    cases h
    exact sm_ret_i (st := []) dX11_once_17 rfl ⟨rfl, rfl⟩
  · replace h := it_f g1 h
    refine sm_aload_n dX11_once_5 rfl rfl ?_
    refine sm_getR dX11_once_6 fg_RX11_87 k_0 (rf_11_10 k_0) ?_
    refine sm_iload_n dX11_once_9 rfl rfl ?_
    obtain ⟨t10, μ1z, g2, h⟩ := ob_some h
    refine sm_callV dX11_once_10 cv_X2_aim ml_RX11_325 k_341 rfl rfl (by decide) (as := [av_i x1]) rfl (Nat.le_of_ble_eq_true rfl) rfl (s_Gu_aim (D := d) (by omega) N g2) (fun r9 μ9 hp => ?_)
    rw [hp.1, hp.2]
    clear hp r9 μ9
    refine sm_if_ne (tgt := 18) dX11_once_13 (by decide) (fun g3 => ?_) (fun g3 => ?_)
    · replace h := it_f g3 h
      refine sm_iload_n dX11_once_18 rfl rfl ?_
      refine sm_iconst dX11_once_19 ic_m1 ?_
      refine sm_icmp_ne (tgt := 33) dX11_once_20 (by decide) (fun g4 => ?_) (fun g4 => ?_)
      · replace h := it_f g4 h
        refine sm_aload_n dX11_once_33 rfl rfl ?_
        refine sm_getR dX11_once_34 fg_RX11_87 k_0 (rf_11_10 k_0) ?_
        refine sm_iload_n dX11_once_37 rfl rfl ?_
        obtain ⟨t38, μ2z, g5, h⟩ := ob_some h
        refine sm_callV dX11_once_38 cv_X2_findRow ml_RX11_331 k_341 rfl rfl (by decide) (as := [av_i x2]) rfl (Nat.le_of_ble_eq_true rfl) rfl (s_Gu_findRow (D := d) (by omega) N g5) (fun r9 μ9 hp => ?_)
        rw [hp.1, hp.2]
        clear hp r9 μ9
        cases h
        exact sm_ret_i (st := []) dX11_once_41 rfl ⟨rfl, rfl⟩
      · replace h := it_t g4 h
        refine sm_aload_n dX11_once_23 rfl rfl ?_
        refine sm_getR dX11_once_24 fg_RX11_87 k_0 (rf_11_10 k_0) ?_
        obtain ⟨t27, μ3z, g6, h⟩ := ob_some h
        refine sm_callV dX11_once_27 cv_X2_countRows ml_RX11_328 k_341 rfl rfl (by decide) (as := []) rfl (Nat.le_of_ble_eq_true rfl) rfl (s_Gu_countRows (D := d) (by omega) N g6) (fun r9 μ9 hp => ?_)
        rw [hp.1, hp.2]
        clear hp r9 μ9
        refine sm_goto (tgt := 41) dX11_once_30 (by decide) ?_
        cases h
        exact sm_ret_i (st := []) dX11_once_41 rfl ⟨rfl, rfl⟩
    · replace h := it_t g3 h
      refine sm_iconst dX11_once_16 ic_m1 ?_
      cases h
      exact sm_ret_i (st := []) dX11_once_17 rfl ⟨rfl, rfl⟩
set_option maxRecDepth 100000 in
set_option maxHeartbeats 4000000 in
theorem s_Ro_probe {D : Nat} (hD : 4 ≤ D) (N : Nat) {x1 : Int32} {μ : MM} {r : Int32} {μr : MM} (h : f_Ro_probe N x1 μ = some (r, μr)) : Cl D mX11_probe [av_r 0, av_i x1] μ (po_i r μr) := by
  obtain ⟨d, rfl⟩ : ∃ d, D = d + 1 := ⟨D - 1, by omega⟩
  refine Cl_of pn_X11 (Nat.le_of_ble_eq_true rfl) ?_
  show Sm (d + 1) mX11_probe 0 [some (av_r 0), some (av_i x1)] [] μ (po_i r μr)
  unfold f_Ro_probe at h
  refine sm_aload_n dX11_probe_0 rfl rfl ?_
  refine sm_getR dX11_probe_1 fg_RX11_87 k_0 (rf_11_10 k_0) ?_
  refine sm_iload_n dX11_probe_4 rfl rfl ?_
  obtain ⟨t5, μ1z, g1, h⟩ := ob_some h
  refine sm_callV dX11_probe_5 cv_X2_aim ml_RX11_325 k_341 rfl rfl (by decide) (as := [av_i x1]) rfl (Nat.le_of_ble_eq_true rfl) rfl (s_Gu_aim (D := d) (by omega) N g1) (fun r9 μ9 hp => ?_)
  rw [hp.1, hp.2]
  clear hp r9 μ9
  refine sm_if_eq (tgt := 21) dX11_probe_8 (by decide) (fun g2 => ?_) (fun g2 => ?_)
  · replace h := it_t g2 h
    refine sm_iconst dX11_probe_21 ic_m1 ?_
    cases h
    exact sm_ret_i (st := []) dX11_probe_22 rfl ⟨rfl, rfl⟩
  · replace h := it_f g2 h
    refine sm_aload_n dX11_probe_11 rfl rfl ?_
    refine sm_getR dX11_probe_12 fg_RX11_87 k_0 (rf_11_10 k_0) ?_
    obtain ⟨t15, μ2z, g3, h⟩ := ob_some h
    refine sm_callV dX11_probe_15 cv_X2_evenThing ml_RX11_334 k_341 rfl rfl (by decide) (as := []) rfl (Nat.le_of_ble_eq_true rfl) rfl (s_Gu_evenThing (D := d) (by omega) N g3) (fun r9 μ9 hp => ?_)
    rw [hp.1, hp.2]
    clear hp r9 μ9
    refine sm_goto (tgt := 22) dX11_probe_18 (by decide) ?_
    cases h
    exact sm_ret_i (st := []) dX11_probe_22 rfl ⟨rfl, rfl⟩
set_option maxRecDepth 100000 in
set_option maxHeartbeats 4000000 in
theorem s_Ro_saves {D : Nat} (hD : 4 ≤ D) (N : Nat) {x1 : Int32} {x2 : Int32} {μ : MM} {r : Int32} {μr : MM} (h : f_Ro_saves N x1 x2 μ = some (r, μr)) : Cl D mX11_saves [av_r 0, av_i x1, av_i x2] μ (po_i r μr) := by
  obtain ⟨d, rfl⟩ : ∃ d, D = d + 1 := ⟨D - 1, by omega⟩
  refine Cl_of pn_X11 (Nat.le_of_ble_eq_true rfl) ?_
  show Sm (d + 1) mX11_saves 0 [some (av_r 0), some (av_i x1), some (av_i x2), none] [] μ (po_i r μr)
  unfold f_Ro_saves at h
  refine sm_iload_n dX11_saves_0 rfl rfl ?_
  refine sm_if_lt (tgt := 20) dX11_saves_1 (by decide) (fun g1 => ?_) (fun g1 => ?_)
  · replace h := it_t g1 h
    refine sm_iconst dX11_saves_20 ic_m1 ?_
    cases h
    exact sm_ret_i (st := []) dX11_saves_21 rfl ⟨rfl, rfl⟩
  · replace h := it_f g1 h
    refine sm_iload_n dX11_saves_4 rfl rfl ?_
    refine sm_iconst dX11_saves_5 ic_1 ?_
    refine sm_icmp_gt (tgt := 20) dX11_saves_6 (by decide) (fun g2 => ?_) (fun g2 => ?_)
    · replace h := it_t g2 h
      refine sm_iconst dX11_saves_20 ic_m1 ?_
      cases h
      exact sm_ret_i (st := []) dX11_saves_21 rfl ⟨rfl, rfl⟩
    · replace h := it_f g2 h
      refine sm_aload_n dX11_saves_9 rfl rfl ?_
      refine sm_getR dX11_saves_10 fg_RX11_87 k_0 (rf_11_10 k_0) ?_
      refine sm_iload_n dX11_saves_13 rfl rfl ?_
      obtain ⟨t14, μ1z, g3, h⟩ := ob_some h
      refine sm_callV dX11_saves_14 cv_X2_aim ml_RX11_325 k_341 rfl rfl (by decide) (as := [av_i x1]) rfl (Nat.le_of_ble_eq_true rfl) rfl (s_Gu_aim (D := d) (by omega) N g3) (fun r9 μ9 hp => ?_)
      rw [hp.1, hp.2]
      clear hp r9 μ9
      refine sm_if_ne (tgt := 22) dX11_saves_17 (by decide) (fun g4 => ?_) (fun g4 => ?_)
      · replace h := it_f g4 h
        refine sm_aload_n dX11_saves_22 rfl rfl ?_
        refine sm_getR dX11_saves_23 fg_RX11_87 k_0 (rf_11_10 k_0) ?_
        obtain ⟨t26, μ2z, g5, h⟩ := ob_some h
        refine sm_callV dX11_saves_26 cv_X2_kindestRow ml_RX11_337 k_341 rfl rfl (by decide) (as := []) rfl (Nat.le_of_ble_eq_true rfl) rfl (s_Gu_kindestRow (D := d) (by omega) N g5) (fun r9 μ9 hp => ?_)
        rw [hp.1, hp.2]
        clear hp r9 μ9
        refine sm_istore_n dX11_saves_29 rfl (Nat.le_of_ble_eq_true rfl) (pv_i rfl) ?_
        refine sm_iload_n dX11_saves_30 rfl rfl ?_
        refine sm_if_eq (tgt := 39) dX11_saves_31 (by decide) (fun g6 => ?_) (fun g6 => ?_)
        · replace h := it_t g6 h
          refine sm_iload_n dX11_saves_39 rfl rfl ?_
          refine sm_goto (tgt := 51) dX11_saves_40 (by decide) ?_
          cases h
          exact sm_ret_i (st := []) dX11_saves_51 rfl ⟨rfl, rfl⟩
        · replace h := it_f g6 h
          refine sm_iload_n dX11_saves_34 rfl rfl ?_
          refine sm_iconst dX11_saves_35 ic_m1 ?_
          refine sm_icmp_ne (tgt := 43) dX11_saves_36 (by decide) (fun g7 => ?_) (fun g7 => ?_)
          · replace h := it_f g7 h
            refine sm_aload_n dX11_saves_43 rfl rfl ?_
            refine sm_getR dX11_saves_44 fg_RX11_87 k_0 (rf_11_10 k_0) ?_
            refine sm_iload_n dX11_saves_47 rfl rfl ?_
            obtain ⟨t48, μ3z, g8, h⟩ := ob_some h
            refine sm_callV dX11_saves_48 cv_X2_thingsFitting ml_RX11_340 k_341 rfl rfl (by decide) (as := [av_i t26]) rfl (Nat.le_of_ble_eq_true rfl) rfl (s_Gu_thingsFitting (D := d) (by omega) N g8) (fun r9 μ9 hp => ?_)
            rw [hp.1, hp.2]
            clear hp r9 μ9
            cases h
            exact sm_ret_i (st := []) dX11_saves_51 rfl ⟨rfl, rfl⟩
          · replace h := it_t g7 h
            refine sm_iload_n dX11_saves_39 rfl rfl ?_
            refine sm_goto (tgt := 51) dX11_saves_40 (by decide) ?_
            cases h
            exact sm_ret_i (st := []) dX11_saves_51 rfl ⟨rfl, rfl⟩
      · replace h := it_t g4 h
        refine sm_iconst dX11_saves_20 ic_m1 ?_
        cases h
        exact sm_ret_i (st := []) dX11_saves_21 rfl ⟨rfl, rfl⟩
set_option maxRecDepth 100000 in
set_option maxHeartbeats 4000000 in
theorem s_Ro_round_L16 {D : Nat} (hD : 2 ≤ D) (N : Nat) {r : Int32} {μr : MM} : ∀ (n : Nat) (x1 : Int32) (x2 : Int32) (μ : MM), f_Ro_round_L16 N n x1 x2 μ = some (r, μr) → Sm D mX11_round 16 [some (av_r 0), some (av_i x1), some (av_i x2)] [] μ (po_i r μr) := by
  obtain ⟨d, rfl⟩ : ∃ d, D = d + 1 := ⟨D - 1, by omega⟩
  intro n
  induction n with
  | zero => intro x1 x2 μ h; cases (show none = some (r, μr) from h)
  | succ n ih =>
    intro x1 x2 μ h
    rw [f_Ro_round_L16] at h
    refine sm_iload_n dX11_round_16 rfl rfl ?_
    refine sm_aload_n dX11_round_17 rfl rfl ?_
    refine sm_getR dX11_round_18 fg_RX11_35 k_0 (rf_11_3 k_0) ?_
    refine sm_getI dX11_round_21 fg_RX11_174 k_23 ?_
    refine sm_icmp_ge (tgt := 55) dX11_round_24 (by decide) (fun g3 => ?_) (fun g3 => ?_)
    · replace h := it_t g3 h
      refine sm_iload_n dX11_round_55 rfl rfl ?_
      cases h
      exact sm_ret_i (st := []) dX11_round_56 rfl ⟨rfl, rfl⟩
    · replace h := it_f g3 h
      refine sm_aload_n dX11_round_27 rfl rfl ?_
      refine sm_getR dX11_round_28 fg_RX11_35 k_0 (rf_11_3 k_0) ?_
      refine sm_iload_n dX11_round_31 rfl rfl ?_
      obtain ⟨t32, μ2z, g4, h⟩ := ob_some h
      refine sm_callV dX11_round_32 cv_X1_reachedFrom ml_RX11_343 k_23 rfl rfl (by decide) (as := [av_i x2]) rfl (Nat.le_of_ble_eq_true rfl) rfl (s_Co_reachedFrom (D := d) (by omega) N k_23 g4) (fun r9 μ9 hp => ?_)
      rw [hp.1, hp.2]
      clear hp r9 μ9
      refine sm_iload_n dX11_round_35 rfl rfl ?_
      refine sm_ishr dX11_round_36 ?_
      refine sm_iconst dX11_round_37 ic_1 ?_
      refine sm_iand dX11_round_38 ?_
      refine sm_iconst dX11_round_39 ic_1 ?_
      have hj40 : ∀ (v40_0 : Int32), v40_0 = (if ((t32 >>> (x2 &&& 31)) &&& 1) = 1 then (x1 ||| ((1 : Int32) <<< (x2 &&& 31))) else x1) → Sm (d + 1) mX11_round 49 [some (av_r 0), some (av_i v40_0), some (av_i x2)] [] μ2z (po_i r μr) := by
        intro v40_0 ev40_0
        subst ev40_0
        refine sm_iinc dX11_round_49 rfl (congrArg (HAdd.hAdd x2) ic_1) (Nat.le_of_ble_eq_true rfl) (pv_i rfl) ?_
        refine sm_goto (tgt := 16) dX11_round_52 (by decide) ?_
        exact Sm_weak (le_s rfl (le_s rfl (le_s rfl le_0))) (ih (if ((t32 >>> (x2 &&& 31)) &&& 1) = 1 then (x1 ||| ((1 : Int32) <<< (x2 &&& 31))) else x1) (x2 + 1) μ2z h)
      refine sm_icmp_ne (tgt := 49) dX11_round_40 (by decide) (fun c40_0 => ?_) (fun c40_0 => ?_)
      · exact Sm_weak (le_s rfl (le_s rfl (le_s rfl le_0))) (hj40 _ (if_neg c40_0).symm)
      · refine sm_iload_n dX11_round_43 rfl rfl ?_
        refine sm_iconst dX11_round_44 ic_1 ?_
        refine sm_iload_n dX11_round_45 rfl rfl ?_
        refine sm_ishl dX11_round_46 ?_
        refine sm_ior dX11_round_47 ?_
        refine sm_istore_n dX11_round_48 rfl (Nat.le_of_ble_eq_true rfl) (pv_r rfl) ?_
        exact Sm_weak (le_s rfl (le_s rfl (le_s rfl le_0))) (hj40 _ (if_pos c40_0).symm)
set_option maxRecDepth 100000 in
set_option maxHeartbeats 4000000 in
theorem s_Ro_round {D : Nat} (hD : 2 ≤ D) (N : Nat) {μ : MM} {r : Int32} {μr : MM} (h : f_Ro_round N μ = some (r, μr)) : Cl D mX11_round [av_r 0] μ (po_i r μr) := by
  obtain ⟨d, rfl⟩ : ∃ d, D = d + 1 := ⟨D - 1, by omega⟩
  refine Cl_of pn_X11 (Nat.le_of_ble_eq_true rfl) ?_
  show Sm (d + 1) mX11_round 0 [some (av_r 0), none, none] [] μ (po_i r μr)
  unfold f_Ro_round at h
  refine sm_aload_n dX11_round_0 rfl rfl ?_
  refine sm_getR dX11_round_1 fg_RX11_35 k_0 (rf_11_3 k_0) ?_
  obtain ⟨t4, μ1z, g1, h⟩ := ob_some h
  refine sm_callV dX11_round_4 cv_X1_isNone ml_RX11_268 k_23 rfl rfl (by decide) (as := []) rfl (Nat.le_of_ble_eq_true rfl) rfl (s_Co_isNone (D := d) (by omega) N k_23 g1) (fun r9 μ9 hp => ?_)
  rw [hp.1, hp.2]
  clear hp r9 μ9
  refine sm_if_eq (tgt := 12) dX11_round_7 (by decide) (fun g2 => ?_) (fun g2 => ?_)
  · replace h := it_t g2 h
    refine sm_iconst dX11_round_12 ic_0 ?_
    refine sm_istore_n dX11_round_13 rfl (Nat.le_of_ble_eq_true rfl) (pv_r rfl) ?_
    refine sm_iconst dX11_round_14 ic_0 ?_
    refine sm_istore_n dX11_round_15 rfl (Nat.le_of_ble_eq_true rfl) (pv_i rfl) ?_
    exact Sm_weak (le_s rfl (le_s rfl (le_s rfl le_0))) (s_Ro_round_L16 hD N N 0 0 μ1z h)
  · replace h := it_f g2 h
    refine sm_iconst dX11_round_10 ic_m1 ?_
    cases h
    exact sm_ret_i (st := []) dX11_round_11 rfl ⟨rfl, rfl⟩
set_option maxRecDepth 100000 in
set_option maxHeartbeats 4000000 in
theorem s_Ro_nowhere_L16 {D : Nat} (hD : 1 ≤ D) (N : Nat) {r : Int32} {μr : MM} : ∀ (n : Nat) (x1 : Int32) (x2 : Int32) (μ : MM), f_Ro_nowhere_L16 N n x1 x2 μ = some (r, μr) → Sm D mX11_nowhere 16 [some (av_r 0), some (av_i x1), some (av_i x2)] [] μ (po_i r μr) := by
  obtain ⟨d, rfl⟩ : ∃ d, D = d + 1 := ⟨D - 1, by omega⟩
  intro n
  induction n with
  | zero => intro x1 x2 μ h; cases (show none = some (r, μr) from h)
  | succ n ih =>
    intro x1 x2 μ h
    rw [f_Ro_nowhere_L16] at h
    refine sm_iload_n dX11_nowhere_16 rfl rfl ?_
    refine sm_aload_n dX11_nowhere_17 rfl rfl ?_
    refine sm_getR dX11_nowhere_18 fg_RX11_35 k_0 (rf_11_3 k_0) ?_
    refine sm_getI dX11_nowhere_21 fg_RX11_174 k_23 ?_
    refine sm_icmp_ge (tgt := 65) dX11_nowhere_24 (by decide) (fun g3 => ?_) (fun g3 => ?_)
    · replace h := it_t g3 h
      refine sm_iload_n dX11_nowhere_65 rfl rfl ?_
      cases h
      exact sm_ret_i (st := []) dX11_nowhere_66 rfl ⟨rfl, rfl⟩
    · replace h := it_f g3 h
      refine sm_aload_n dX11_nowhere_27 rfl rfl ?_
      refine sm_getR dX11_nowhere_28 fg_RX11_35 k_0 (rf_11_3 k_0) ?_
      refine sm_getR dX11_nowhere_31 fg_RX11_205 k_23 (rf_1_5 k_23) ?_
      refine sm_getR dX11_nowhere_34 fg_RX11_211 k_27 (rf_7_0 k_27) ?_
      refine sm_iload_n dX11_nowhere_37 rfl rfl ?_
      refine sm_iconst dX11_nowhere_38 ic_2 ?_
      obtain ⟨t39, μ2z, g4, h⟩ := ob_some h
      refine sm_callV dX11_nowhere_39 cv_X10_named ml_RX11_346 k_28 rfl rfl (by decide) (as := [av_i x2, av_i 2]) rfl (Nat.le_of_ble_eq_true rfl) rfl (s_Wo_named (D := d) (by omega) N k_28 g4) (fun r9 μ9 hp => ?_)
      rw [hp.1, hp.2]
      clear hp r9 μ9
      refine sm_aload_n dX11_nowhere_42 rfl rfl ?_
      refine sm_getR dX11_nowhere_43 fg_RX11_35 k_0 (rf_11_3 k_0) ?_
      refine sm_getI dX11_nowhere_46 fg_RX11_174 k_23 ?_
      refine sm_ishr dX11_nowhere_49 ?_
      have hj50 : ∀ (v50_0 : Int32), v50_0 = (if (t39 >>> ((μ2z.1 23 1) &&& 31)) = 0 then x1 else (x1 ||| ((1 : Int32) <<< (x2 &&& 31)))) → Sm (d + 1) mX11_nowhere 59 [some (av_r 0), some (av_i v50_0), some (av_i x2)] [] μ2z (po_i r μr) := by
        intro v50_0 ev50_0
        subst ev50_0
        refine sm_iinc dX11_nowhere_59 rfl (congrArg (HAdd.hAdd x2) ic_1) (Nat.le_of_ble_eq_true rfl) (pv_i rfl) ?_
        refine sm_goto (tgt := 16) dX11_nowhere_62 (by decide) ?_
        exact Sm_weak (le_s rfl (le_s rfl (le_s rfl le_0))) (ih (if (t39 >>> ((μ2z.1 23 1) &&& 31)) = 0 then x1 else (x1 ||| ((1 : Int32) <<< (x2 &&& 31)))) (x2 + 1) μ2z h)
      refine sm_if_eq (tgt := 59) dX11_nowhere_50 (by decide) (fun c50_0 => ?_) (fun c50_0 => ?_)
      · exact Sm_weak (le_s rfl (le_s rfl (le_s rfl le_0))) (hj50 _ (if_pos c50_0).symm)
      · refine sm_iload_n dX11_nowhere_53 rfl rfl ?_
        refine sm_iconst dX11_nowhere_54 ic_1 ?_
        refine sm_iload_n dX11_nowhere_55 rfl rfl ?_
        refine sm_ishl dX11_nowhere_56 ?_
        refine sm_ior dX11_nowhere_57 ?_
        refine sm_istore_n dX11_nowhere_58 rfl (Nat.le_of_ble_eq_true rfl) (pv_r rfl) ?_
        exact Sm_weak (le_s rfl (le_s rfl (le_s rfl le_0))) (hj50 _ (if_neg c50_0).symm)
set_option maxRecDepth 100000 in
set_option maxHeartbeats 4000000 in
theorem s_Ro_nowhere {D : Nat} (hD : 1 ≤ D) (N : Nat) {μ : MM} {r : Int32} {μr : MM} (h : f_Ro_nowhere N μ = some (r, μr)) : Cl D mX11_nowhere [av_r 0] μ (po_i r μr) := by
  obtain ⟨d, rfl⟩ : ∃ d, D = d + 1 := ⟨D - 1, by omega⟩
  refine Cl_of pn_X11 (Nat.le_of_ble_eq_true rfl) ?_
  show Sm (d + 1) mX11_nowhere 0 [some (av_r 0), none, none] [] μ (po_i r μr)
  unfold f_Ro_nowhere at h
  refine sm_aload_n dX11_nowhere_0 rfl rfl ?_
  refine sm_getR dX11_nowhere_1 fg_RX11_35 k_0 (rf_11_3 k_0) ?_
  obtain ⟨t4, μ1z, g1, h⟩ := ob_some h
  refine sm_callV dX11_nowhere_4 cv_X1_isNone ml_RX11_268 k_23 rfl rfl (by decide) (as := []) rfl (Nat.le_of_ble_eq_true rfl) rfl (s_Co_isNone (D := d) (by omega) N k_23 g1) (fun r9 μ9 hp => ?_)
  rw [hp.1, hp.2]
  clear hp r9 μ9
  refine sm_if_eq (tgt := 12) dX11_nowhere_7 (by decide) (fun g2 => ?_) (fun g2 => ?_)
  · replace h := it_t g2 h
    refine sm_iconst dX11_nowhere_12 ic_0 ?_
    refine sm_istore_n dX11_nowhere_13 rfl (Nat.le_of_ble_eq_true rfl) (pv_r rfl) ?_
    refine sm_iconst dX11_nowhere_14 ic_0 ?_
    refine sm_istore_n dX11_nowhere_15 rfl (Nat.le_of_ble_eq_true rfl) (pv_i rfl) ?_
    exact Sm_weak (le_s rfl (le_s rfl (le_s rfl le_0))) (s_Ro_nowhere_L16 hD N N 0 0 μ1z h)
  · replace h := it_f g2 h
    refine sm_iconst dX11_nowhere_10 ic_m1 ?_
    cases h
    exact sm_ret_i (st := []) dX11_nowhere_11 rfl ⟨rfl, rfl⟩
set_option maxRecDepth 100000 in
set_option maxHeartbeats 4000000 in
theorem s_Ro_forged_L27 {D : Nat} (hD : 1 ≤ D) (N : Nat) {r : Int32} {μr : MM} : ∀ (n : Nat) (x2 : Int32) (x3 : Int32) (μ : MM), f_Ro_forged_L27 N n x2 x3 μ = some (r, μr) → Sm D mX11_forged 27 [some (av_r 0), some (av_r 28), some (av_i x2), some (av_i x3)] [] μ (po_i r μr) := by
  obtain ⟨d, rfl⟩ : ∃ d, D = d + 1 := ⟨D - 1, by omega⟩
  intro n
  induction n with
  | zero => intro x2 x3 μ h; cases (show none = some (r, μr) from h)
  | succ n ih =>
    intro x2 x3 μ h
    rw [f_Ro_forged_L27] at h
    refine sm_iload_n dX11_forged_27 rfl rfl ?_
    refine sm_aload_n dX11_forged_28 rfl rfl ?_
    refine sm_getR dX11_forged_29 fg_RX11_35 k_0 (rf_11_3 k_0) ?_
    refine sm_getI dX11_forged_32 fg_RX11_174 k_23 ?_
    refine sm_icmp_ge (tgt := 66) dX11_forged_35 (by decide) (fun g3 => ?_) (fun g3 => ?_)
    · replace h := it_t g3 h
      refine sm_iload_n dX11_forged_66 rfl rfl ?_
      cases h
      exact sm_ret_i (st := []) dX11_forged_67 rfl ⟨rfl, rfl⟩
    · replace h := it_f g3 h
      refine sm_aload_n dX11_forged_38 rfl rfl ?_
      refine sm_iload_n dX11_forged_39 rfl rfl ?_
      refine sm_iconst dX11_forged_40 ic_0 ?_
      obtain ⟨t41, μ2z, g4, h⟩ := ob_some h
      refine sm_callV dX11_forged_41 cv_X10_named ml_RX11_346 k_28 rfl rfl (by decide) (as := [av_i x3, av_i 0]) rfl (Nat.le_of_ble_eq_true rfl) rfl (s_Wo_named (D := d) (by omega) N k_28 g4) (fun r9 μ9 hp => ?_)
      rw [hp.1, hp.2]
      clear hp r9 μ9
      refine sm_aload_n dX11_forged_44 rfl rfl ?_
      refine sm_iload_n dX11_forged_45 rfl rfl ?_
      refine sm_iconst dX11_forged_46 ic_1 ?_
      obtain ⟨t47, μ3z, g5, h⟩ := ob_some h
      refine sm_callV dX11_forged_47 cv_X10_named ml_RX11_346 k_28 rfl rfl (by decide) (as := [av_i x3, av_i 1]) rfl (Nat.le_of_ble_eq_true rfl) rfl (s_Wo_named (D := d) (by omega) N k_28 g5) (fun r9 μ9 hp => ?_)
      rw [hp.1, hp.2]
      clear hp r9 μ9
      refine sm_iand dX11_forged_50 ?_
      have hj51 : ∀ (v51_0 : Int32), v51_0 = (if (t41 &&& t47) = 0 then x2 else (x2 ||| ((1 : Int32) <<< (x3 &&& 31)))) → Sm (d + 1) mX11_forged 60 [some (av_r 0), some (av_r 28), some (av_i v51_0), some (av_i x3)] [] μ3z (po_i r μr) := by
        intro v51_0 ev51_0
        subst ev51_0
        refine sm_iinc dX11_forged_60 rfl (congrArg (HAdd.hAdd x3) ic_1) (Nat.le_of_ble_eq_true rfl) (pv_i rfl) ?_
        refine sm_goto (tgt := 27) dX11_forged_63 (by decide) ?_
        exact Sm_weak (le_s rfl (le_s rfl (le_s rfl (le_s rfl le_0)))) (ih (if (t41 &&& t47) = 0 then x2 else (x2 ||| ((1 : Int32) <<< (x3 &&& 31)))) (x3 + 1) μ3z h)
      refine sm_if_eq (tgt := 60) dX11_forged_51 (by decide) (fun c51_0 => ?_) (fun c51_0 => ?_)
      · exact Sm_weak (le_s rfl (le_s rfl (le_s rfl (le_s rfl le_0)))) (hj51 _ (if_pos c51_0).symm)
      · refine sm_iload_n dX11_forged_54 rfl rfl ?_
        refine sm_iconst dX11_forged_55 ic_1 ?_
        refine sm_iload_n dX11_forged_56 rfl rfl ?_
        refine sm_ishl dX11_forged_57 ?_
        refine sm_ior dX11_forged_58 ?_
        refine sm_istore_n dX11_forged_59 rfl (Nat.le_of_ble_eq_true rfl) (pv_r rfl) ?_
        exact Sm_weak (le_s rfl (le_s rfl (le_s rfl (le_s rfl le_0)))) (hj51 _ (if_neg c51_0).symm)
set_option maxRecDepth 100000 in
set_option maxHeartbeats 4000000 in
theorem s_Ro_forged {D : Nat} (hD : 1 ≤ D) (N : Nat) {μ : MM} {r : Int32} {μr : MM} (h : f_Ro_forged N μ = some (r, μr)) : Cl D mX11_forged [av_r 0] μ (po_i r μr) := by
  obtain ⟨d, rfl⟩ : ∃ d, D = d + 1 := ⟨D - 1, by omega⟩
  refine Cl_of pn_X11 (Nat.le_of_ble_eq_true rfl) ?_
  show Sm (d + 1) mX11_forged 0 [some (av_r 0), none, none, none] [] μ (po_i r μr)
  unfold f_Ro_forged at h
  refine sm_aload_n dX11_forged_0 rfl rfl ?_
  refine sm_getR dX11_forged_1 fg_RX11_35 k_0 (rf_11_3 k_0) ?_
  obtain ⟨t4, μ1z, g1, h⟩ := ob_some h
  refine sm_callV dX11_forged_4 cv_X1_isNone ml_RX11_268 k_23 rfl rfl (by decide) (as := []) rfl (Nat.le_of_ble_eq_true rfl) rfl (s_Co_isNone (D := d) (by omega) N k_23 g1) (fun r9 μ9 hp => ?_)
  rw [hp.1, hp.2]
  clear hp r9 μ9
  refine sm_if_eq (tgt := 12) dX11_forged_7 (by decide) (fun g2 => ?_) (fun g2 => ?_)
  · replace h := it_t g2 h
    refine sm_aload_n dX11_forged_12 rfl rfl ?_
    refine sm_getR dX11_forged_13 fg_RX11_35 k_0 (rf_11_3 k_0) ?_
    refine sm_getR dX11_forged_16 fg_RX11_205 k_23 (rf_1_5 k_23) ?_
    refine sm_getR dX11_forged_19 fg_RX11_211 k_27 (rf_7_0 k_27) ?_
    refine sm_astore_n dX11_forged_22 rfl (Nat.le_of_ble_eq_true rfl) (pv_r rfl) ?_
    refine sm_iconst dX11_forged_23 ic_0 ?_
    refine sm_istore_n dX11_forged_24 rfl (Nat.le_of_ble_eq_true rfl) (pv_r rfl) ?_
    refine sm_iconst dX11_forged_25 ic_0 ?_
    refine sm_istore_n dX11_forged_26 rfl (Nat.le_of_ble_eq_true rfl) (pv_i rfl) ?_
    exact Sm_weak (le_s rfl (le_s rfl (le_s rfl (le_s rfl le_0)))) (s_Ro_forged_L27 hD N N 0 0 μ1z h)
  · replace h := it_f g2 h
    refine sm_iconst dX11_forged_10 ic_m1 ?_
    cases h
    exact sm_ret_i (st := []) dX11_forged_11 rfl ⟨rfl, rfl⟩
set_option maxRecDepth 100000 in
set_option maxHeartbeats 4000000 in
theorem s_Ro_alone_B39 {D : Nat} (hD : 1 ≤ D) (N : Nat) {r : Int32} {μr : MM} {k17 : Int32 → Int32 → Int32 → MM → Option (Int32 × MM)} (hk17 : ∀ (x1 : Int32) (x2 : Int32) (x3 : Int32) (μ : MM), k17 x1 x2 x3 μ = some (r, μr) → Sm D mX11_alone 17 [some (av_r 0), some (av_i x1), some (av_i x2), some (av_i x3)] [] μ (po_i r μr)) (x1 : Int32) (x2 : Int32) (x3 : Int32) (μ : MM) (h : f_Ro_alone_B39 N k17 x1 x2 x3 μ = some (r, μr)) : Sm D mX11_alone 39 [some (av_r 0), some (av_i x1), some (av_i x2), some (av_i x3)] [] μ (po_i r μr) := by
  obtain ⟨d, rfl⟩ : ∃ d, D = d + 1 := ⟨D - 1, by omega⟩
  unfold f_Ro_alone_B39 at h
  refine sm_aload_n dX11_alone_39 rfl rfl ?_
  refine sm_getR dX11_alone_40 fg_RX11_35 k_0 (rf_11_3 k_0) ?_
  refine sm_iload_n dX11_alone_43 rfl rfl ?_
  refine sm_iload_n dX11_alone_44 rfl rfl ?_
  obtain ⟨t45, μ2z, g5, h⟩ := ob_some h
  refine sm_callV dX11_alone_45 cv_X1_isToldAlone ml_RX11_354 k_23 rfl rfl (by decide) (as := [av_i x1, av_i x3]) rfl (Nat.le_of_ble_eq_true rfl) rfl (s_Co_isToldAlone (D := d) (by omega) N k_23 g5) (fun r9 μ9 hp => ?_)
  rw [hp.1, hp.2]
  clear hp r9 μ9
  have hj48 : ∀ (v48_0 : Int32), v48_0 = (if t45 = 0 then x2 else x3) → Sm (d + 1) mX11_alone 53 [some (av_r 0), some (av_i x1), some (av_i v48_0), some (av_i x3)] [] μ2z (po_i r μr) := by
    intro v48_0 ev48_0
    subst ev48_0
    refine sm_iinc dX11_alone_53 rfl (congrArg (HAdd.hAdd x3) ic_1) (Nat.le_of_ble_eq_true rfl) (pv_i rfl) ?_
    refine sm_goto (tgt := 17) dX11_alone_56 (by decide) ?_
    exact Sm_weak (le_s rfl (le_s rfl (le_s rfl (le_s rfl le_0)))) (hk17 x1 (if t45 = 0 then x2 else x3) (x3 + 1) μ2z h)
  refine sm_if_eq (tgt := 53) dX11_alone_48 (by decide) (fun c48_0 => ?_) (fun c48_0 => ?_)
  · exact Sm_weak (le_s rfl (le_s rfl (le_s rfl (le_s rfl le_0)))) (hj48 _ (if_pos c48_0).symm)
  · refine sm_iload_n dX11_alone_51 rfl rfl ?_
    refine sm_istore_n dX11_alone_52 rfl (Nat.le_of_ble_eq_true rfl) (pv_i rfl) ?_
    exact Sm_weak (le_s rfl (le_s rfl (le_s rfl (le_s rfl le_0)))) (hj48 _ (if_neg c48_0).symm)
set_option maxRecDepth 100000 in
set_option maxHeartbeats 4000000 in
theorem s_Ro_alone_L17 {D : Nat} (hD : 1 ≤ D) (N : Nat) {r : Int32} {μr : MM} : ∀ (n : Nat) (x1 : Int32) (x2 : Int32) (x3 : Int32) (μ : MM), f_Ro_alone_L17 N n x1 x2 x3 μ = some (r, μr) → Sm D mX11_alone 17 [some (av_r 0), some (av_i x1), some (av_i x2), some (av_i x3)] [] μ (po_i r μr) := by
  obtain ⟨d, rfl⟩ : ∃ d, D = d + 1 := ⟨D - 1, by omega⟩
  intro n
  induction n with
  | zero => intro x1 x2 x3 μ h; cases (show none = some (r, μr) from h)
  | succ n ih =>
    intro x1 x2 x3 μ h
    rw [f_Ro_alone_L17] at h
    refine sm_iload_n dX11_alone_17 rfl rfl ?_
    refine sm_bipush dX11_alone_18 bp_64 ?_
    refine sm_icmp_ge (tgt := 59) dX11_alone_20 (by decide) (fun g3 => ?_) (fun g3 => ?_)
    · replace h := it_t g3 h
      refine sm_iload_n dX11_alone_59 rfl rfl ?_
      cases h
      exact sm_ret_i (st := []) dX11_alone_60 rfl ⟨rfl, rfl⟩
    · replace h := it_f g3 h
      refine sm_iload_n dX11_alone_23 rfl rfl ?_
      refine sm_iconst dX11_alone_24 ic_m1 ?_
      refine sm_icmp_eq (tgt := 39) dX11_alone_25 (by decide) (fun g4 => ?_) (fun g4 => ?_)
      · replace h := it_t g4 h
        exact Sm_weak (le_s rfl (le_s rfl (le_s rfl (le_s rfl le_0)))) (s_Ro_alone_B39 hD N ih x1 x2 x3 μ h)
      · replace h := it_f g4 h
        refine sm_iload_n dX11_alone_28 rfl rfl ?_
        obtain ⟨t29, μ3z, g6, h⟩ := ob_some h
        refine sm_callS dX11_alone_29 cs_J6_bitCount_0f7a4 ml_RX11_349 (as := [av_i x3]) rfl (Nat.le_of_ble_eq_true rfl) rfl (s_In_bitCount_0f7a4 (D := d) (by omega) N g6) (fun r9 μ9 hp => ?_)
        rw [hp.1, hp.2]
        clear hp r9 μ9
        refine sm_iload_n dX11_alone_32 rfl rfl ?_
        obtain ⟨t33, μ4z, g7, h⟩ := ob_some h
        refine sm_callS dX11_alone_33 cs_J6_bitCount_0f7a4 ml_RX11_349 (as := [av_i x2]) rfl (Nat.le_of_ble_eq_true rfl) rfl (s_In_bitCount_0f7a4 (D := d) (by omega) N g7) (fun r9 μ9 hp => ?_)
        rw [hp.1, hp.2]
        clear hp r9 μ9
        refine sm_icmp_ge (tgt := 53) dX11_alone_36 (by decide) (fun g8 => ?_) (fun g8 => ?_)
        · replace h := it_t g8 h
          refine sm_iinc dX11_alone_53 rfl (congrArg (HAdd.hAdd x3) ic_1) (Nat.le_of_ble_eq_true rfl) (pv_i rfl) ?_
          refine sm_goto (tgt := 17) dX11_alone_56 (by decide) ?_
          exact Sm_weak (le_s rfl (le_s rfl (le_s rfl (le_s rfl le_0)))) (ih x1 x2 (x3 + 1) μ4z h)
        · replace h := it_f g8 h
          exact Sm_weak (le_s rfl (le_s rfl (le_s rfl (le_s rfl le_0)))) (s_Ro_alone_B39 hD N ih x1 x2 x3 μ4z h)
set_option maxRecDepth 100000 in
set_option maxHeartbeats 4000000 in
theorem s_Ro_alone {D : Nat} (hD : 1 ≤ D) (N : Nat) {x1 : Int32} {μ : MM} {r : Int32} {μr : MM} (h : f_Ro_alone N x1 μ = some (r, μr)) : Cl D mX11_alone [av_r 0, av_i x1] μ (po_i r μr) := by
  obtain ⟨d, rfl⟩ : ∃ d, D = d + 1 := ⟨D - 1, by omega⟩
  refine Cl_of pn_X11 (Nat.le_of_ble_eq_true rfl) ?_
  show Sm (d + 1) mX11_alone 0 [some (av_r 0), some (av_i x1), none, none] [] μ (po_i r μr)
  unfold f_Ro_alone at h
  refine sm_aload_n dX11_alone_0 rfl rfl ?_
  refine sm_getR dX11_alone_1 fg_RX11_35 k_0 (rf_11_3 k_0) ?_
  refine sm_iload_n dX11_alone_4 rfl rfl ?_
  obtain ⟨t5, μ1z, g1, h⟩ := ob_some h
  refine sm_callV dX11_alone_5 cv_X1_isThing ml_RX11_180 k_23 rfl rfl (by decide) (as := [av_i x1]) rfl (Nat.le_of_ble_eq_true rfl) rfl (s_Co_isThing (D := d) (by omega) N k_23 g1) (fun r9 μ9 hp => ?_)
  rw [hp.1, hp.2]
  clear hp r9 μ9
  refine sm_if_ne (tgt := 13) dX11_alone_8 (by decide) (fun g2 => ?_) (fun g2 => ?_)
  · replace h := it_f g2 h
    refine sm_iconst dX11_alone_13 ic_m1 ?_
    refine sm_istore_n dX11_alone_14 rfl (Nat.le_of_ble_eq_true rfl) (pv_i rfl) ?_
    refine sm_iconst dX11_alone_15 ic_0 ?_
    refine sm_istore_n dX11_alone_16 rfl (Nat.le_of_ble_eq_true rfl) (pv_i rfl) ?_
    exact Sm_weak (le_s rfl (le_s rfl (le_s rfl (le_s rfl le_0)))) (s_Ro_alone_L17 hD N N x1 (-1) 0 μ1z h)
  · replace h := it_t g2 h
    refine sm_iconst dX11_alone_11 ic_m1 ?_
    cases h
    exact sm_ret_i (st := []) dX11_alone_12 rfl ⟨rfl, rfl⟩
set_option maxRecDepth 100000 in
set_option maxHeartbeats 4000000 in
theorem s_Ro_suits {D : Nat} (hD : 4 ≤ D) (N : Nat) {x1 : Int32} {μ : MM} {r : Int32} {μr : MM} (h : f_Ro_suits N x1 μ = some (r, μr)) : Cl D mX11_suits [av_r 0, av_i x1] μ (po_i r μr) := by
  obtain ⟨d, rfl⟩ : ∃ d, D = d + 1 := ⟨D - 1, by omega⟩
  refine Cl_of pn_X11 (Nat.le_of_ble_eq_true rfl) ?_
  show Sm (d + 1) mX11_suits 0 [some (av_r 0), some (av_i x1)] [] μ (po_i r μr)
  unfold f_Ro_suits at h
  refine sm_aload_n dX11_suits_0 rfl rfl ?_
  refine sm_getR dX11_suits_1 fg_RX11_35 k_0 (rf_11_3 k_0) ?_
  refine sm_iload_n dX11_suits_4 rfl rfl ?_
  obtain ⟨t5, μ1z, g1, h⟩ := ob_some h
  refine sm_callV dX11_suits_5 cv_X1_isCard ml_RX11_199 k_23 rfl rfl (by decide) (as := [av_i x1]) rfl (Nat.le_of_ble_eq_true rfl) rfl (s_Co_isCard (D := d) (by omega) N k_23 g1) (fun r9 μ9 hp => ?_)
  rw [hp.1, hp.2]
  clear hp r9 μ9
  refine sm_if_eq (tgt := 22) dX11_suits_8 (by decide) (fun g2 => ?_) (fun g2 => ?_)
  · replace h := it_t g2 h
    refine sm_iconst dX11_suits_22 ic_m1 ?_
    cases h
    exact sm_ret_i (st := []) dX11_suits_23 rfl ⟨rfl, rfl⟩
  · replace h := it_f g2 h
    refine sm_aload_n dX11_suits_11 rfl rfl ?_
    refine sm_getR dX11_suits_12 fg_RX11_35 k_0 (rf_11_3 k_0) ?_
    refine sm_iload_n dX11_suits_15 rfl rfl ?_
    obtain ⟨t16, μ2z, g3, h⟩ := ob_some h
    refine sm_callV dX11_suits_16 cv_X1_suitedThings ml_RX11_357 k_23 rfl rfl (by decide) (as := [av_i x1]) rfl (Nat.le_of_ble_eq_true rfl) rfl (s_Co_suitedThings (D := d) (by omega) N k_23 g3) (fun r9 μ9 hp => ?_)
    rw [hp.1, hp.2]
    clear hp r9 μ9
    refine sm_goto (tgt := 23) dX11_suits_19 (by decide) ?_
    cases h
    exact sm_ret_i (st := []) dX11_suits_23 rfl ⟨rfl, rfl⟩
set_option maxRecDepth 100000 in
set_option maxHeartbeats 4000000 in
theorem s_Ro_wanted_L29 {D : Nat} (hD : 4 ≤ D) (N : Nat) {r : Int32} {μr : MM} : ∀ (n : Nat) (x1 : Int32) (x2 : Int32) (x3 : Int32) (x4 : Int32) (μ : MM), f_Ro_wanted_L29 N n x1 x2 x3 x4 μ = some (r, μr) → Sm D mX11_wanted 29 [some (av_r 0), some (av_i x1), some (av_i x2), some (av_i x3), some (av_i x4), none] [] μ (po_i r μr) := by
  obtain ⟨d, rfl⟩ : ∃ d, D = d + 1 := ⟨D - 1, by omega⟩
  intro n
  induction n with
  | zero => intro x1 x2 x3 x4 μ h; cases (show none = some (r, μr) from h)
  | succ n ih =>
    intro x1 x2 x3 x4 μ h
    rw [f_Ro_wanted_L29] at h
    refine sm_iload dX11_wanted_29 rfl ?_
    refine sm_aload_n dX11_wanted_31 rfl rfl ?_
    refine sm_getR dX11_wanted_32 fg_RX11_35 k_0 (rf_11_3 k_0) ?_
    refine sm_getI dX11_wanted_35 fg_RX11_174 k_23 ?_
    refine sm_icmp_ge (tgt := 73) dX11_wanted_38 (by decide) (fun g5 => ?_) (fun g5 => ?_)
    · replace h := it_t g5 h
      refine sm_iload_n dX11_wanted_73 rfl rfl ?_
      have hj74 : ∀ (v74_0 : Int32), v74_0 = (if x1 = 0 then x2 else x3) → Sm (d + 1) mX11_wanted 82 [none, none, none, none, none, none] [av_i v74_0] μ (po_i r μr) := by
        intro v74_0 ev74_0
        subst ev74_0
        cases h
        exact sm_ret_i (st := []) dX11_wanted_82 rfl ⟨rfl, rfl⟩
      refine sm_if_ne (tgt := 81) dX11_wanted_74 (by decide) (fun c74_0 => ?_) (fun c74_0 => ?_)
      · refine sm_iload_n dX11_wanted_81 rfl rfl ?_
        exact Sm_weak (le_n (le_n (le_n (le_n (le_n (le_n le_0)))))) (hj74 _ (if_neg c74_0).symm)
      · refine sm_iload_n dX11_wanted_77 rfl rfl ?_
        refine sm_goto (tgt := 82) dX11_wanted_78 (by decide) ?_
        exact Sm_weak (le_n (le_n (le_n (le_n (le_n (le_n le_0)))))) (hj74 _ (if_pos c74_0).symm)
    · replace h := it_f g5 h
      refine sm_aload_n dX11_wanted_41 rfl rfl ?_
      refine sm_getR dX11_wanted_42 fg_RX11_35 k_0 (rf_11_3 k_0) ?_
      refine sm_iload dX11_wanted_45 rfl ?_
      obtain ⟨t47, μ2z, g6, h⟩ := ob_some h
      refine sm_callV dX11_wanted_47 cv_X1_suitedThings ml_RX11_357 k_23 rfl rfl (by decide) (as := [av_i x4]) rfl (Nat.le_of_ble_eq_true rfl) rfl (s_Co_suitedThings (D := d) (by omega) N k_23 g6) (fun r9 μ9 hp => ?_)
      rw [hp.1, hp.2]
      clear hp r9 μ9
      obtain ⟨t50, μ3z, g7, h⟩ := ob_some h
      refine sm_callS dX11_wanted_50 cs_J6_bitCount_0f7a4 ml_RX11_349 (as := [av_i t47]) rfl (Nat.le_of_ble_eq_true rfl) rfl (s_In_bitCount_0f7a4 (D := d) (by omega) N g7) (fun r9 μ9 hp => ?_)
      rw [hp.1, hp.2]
      clear hp r9 μ9
      refine sm_istore dX11_wanted_53 (Nat.le_of_ble_eq_true rfl) (pv_i rfl) ?_
      refine sm_iload dX11_wanted_55 rfl ?_
      refine sm_iload_n dX11_wanted_57 rfl rfl ?_
      have hj58 : ∀ (v58_0 : Int32) (v58_1 : Int32), v58_0 = (if x3 ≤ t50 then x2 else x4) → v58_1 = (if x3 ≤ t50 then x3 else t50) → Sm (d + 1) mX11_wanted 67 [some (av_r 0), some (av_i x1), some (av_i v58_0), some (av_i v58_1), some (av_i x4), none] [] μ3z (po_i r μr) := by
        intro v58_0 v58_1 ev58_0 ev58_1
        subst ev58_0 ev58_1
        refine sm_iinc dX11_wanted_67 rfl (congrArg (HAdd.hAdd x4) ic_1) (Nat.le_of_ble_eq_true rfl) (pv_i rfl) ?_
        refine sm_goto (tgt := 29) dX11_wanted_70 (by decide) ?_
        exact Sm_weak (le_s rfl (le_s rfl (le_s rfl (le_s rfl (le_s rfl (le_n le_0)))))) (ih x1 (if x3 ≤ t50 then x2 else x4) (if x3 ≤ t50 then x3 else t50) (x4 + 1) μ3z h)
      refine sm_icmp_ge (tgt := 67) dX11_wanted_58 (by decide) (fun c58_0 => ?_) (fun c58_0 => ?_)
      · exact Sm_weak (le_s rfl (le_s rfl (le_s rfl (le_s rfl (le_s rfl (le_n le_0)))))) (hj58 _ _ (if_pos c58_0).symm (if_pos c58_0).symm)
      · refine sm_iload dX11_wanted_61 rfl ?_
        refine sm_istore_n dX11_wanted_63 rfl (Nat.le_of_ble_eq_true rfl) (pv_i rfl) ?_
        refine sm_iload dX11_wanted_64 rfl ?_
        refine sm_istore_n dX11_wanted_66 rfl (Nat.le_of_ble_eq_true rfl) (pv_i rfl) ?_
        exact Sm_weak (le_s rfl (le_s rfl (le_s rfl (le_s rfl (le_s rfl (le_n le_0)))))) (hj58 _ _ (if_neg c58_0).symm (if_neg c58_0).symm)
set_option maxRecDepth 100000 in
set_option maxHeartbeats 4000000 in
theorem s_Ro_wanted {D : Nat} (hD : 4 ≤ D) (N : Nat) {x1 : Int32} {μ : MM} {r : Int32} {μr : MM} (h : f_Ro_wanted N x1 μ = some (r, μr)) : Cl D mX11_wanted [av_r 0, av_i x1] μ (po_i r μr) := by
  obtain ⟨d, rfl⟩ : ∃ d, D = d + 1 := ⟨D - 1, by omega⟩
  refine Cl_of pn_X11 (Nat.le_of_ble_eq_true rfl) ?_
  show Sm (d + 1) mX11_wanted 0 [some (av_r 0), some (av_i x1), none, none, none, none] [] μ (po_i r μr)
  unfold f_Ro_wanted at h
  refine sm_aload_n dX11_wanted_0 rfl rfl ?_
  refine sm_getR dX11_wanted_1 fg_RX11_35 k_0 (rf_11_3 k_0) ?_
  obtain ⟨t4, μ1z, g1, h⟩ := ob_some h
  refine sm_callV dX11_wanted_4 cv_X1_isNone ml_RX11_268 k_23 rfl rfl (by decide) (as := []) rfl (Nat.le_of_ble_eq_true rfl) rfl (s_Co_isNone (D := d) (by omega) N k_23 g1) (fun r9 μ9 hp => ?_)
  rw [hp.1, hp.2]
  clear hp r9 μ9
  refine sm_if_ne (tgt := 19) dX11_wanted_7 (by decide) (fun g2 => ?_) (fun g2 => ?_)
  · replace h := it_f g2 h
    refine sm_iconst dX11_wanted_19 ic_m1 ?_
    cases h
    exact sm_ret_i (st := []) dX11_wanted_20 rfl ⟨rfl, rfl⟩
  · replace h := it_t g2 h
    refine sm_iload_n dX11_wanted_10 rfl rfl ?_
    refine sm_if_lt (tgt := 19) dX11_wanted_11 (by decide) (fun g3 => ?_) (fun g3 => ?_)
    · replace h := it_t g3 h
      refine sm_iconst dX11_wanted_19 ic_m1 ?_
      cases h
      exact sm_ret_i (st := []) dX11_wanted_20 rfl ⟨rfl, rfl⟩
    · replace h := it_f g3 h
      refine sm_iload_n dX11_wanted_14 rfl rfl ?_
      refine sm_iconst dX11_wanted_15 ic_1 ?_
      refine sm_icmp_le (tgt := 21) dX11_wanted_16 (by decide) (fun g4 => ?_) (fun g4 => ?_)
      · replace h := it_t g4 h
        refine sm_iconst dX11_wanted_21 ic_0 ?_
        refine sm_istore_n dX11_wanted_22 rfl (Nat.le_of_ble_eq_true rfl) (pv_i rfl) ?_
        refine sm_bipush dX11_wanted_23 bp_9 ?_
        refine sm_istore_n dX11_wanted_25 rfl (Nat.le_of_ble_eq_true rfl) (pv_i rfl) ?_
        refine sm_iconst dX11_wanted_26 ic_0 ?_
        refine sm_istore dX11_wanted_27 (Nat.le_of_ble_eq_true rfl) (pv_i rfl) ?_
        exact Sm_weak (le_s rfl (le_s rfl (le_s rfl (le_s rfl (le_s rfl (le_n le_0)))))) (s_Ro_wanted_L29 hD N N x1 0 9 0 μ1z h)
      · replace h := it_f g4 h
        refine sm_iconst dX11_wanted_19 ic_m1 ?_
        cases h
        exact sm_ret_i (st := []) dX11_wanted_20 rfl ⟨rfl, rfl⟩
set_option maxRecDepth 100000 in
set_option maxHeartbeats 4000000 in
theorem s_Ro_perhaps_L27 {D : Nat} (hD : 1 ≤ D) (N : Nat) {r : Int32} {μr : MM} : ∀ (n : Nat) (x2 : Int32) (x3 : Int32) (μ : MM), f_Ro_perhaps_L27 N n x2 x3 μ = some (r, μr) → Sm D mX11_perhaps 27 [some (av_r 0), some (av_r 28), some (av_i x2), some (av_i x3)] [] μ (po_i r μr) := by
  obtain ⟨d, rfl⟩ : ∃ d, D = d + 1 := ⟨D - 1, by omega⟩
  intro n
  induction n with
  | zero => intro x2 x3 μ h; cases (show none = some (r, μr) from h)
  | succ n ih =>
    intro x2 x3 μ h
    rw [f_Ro_perhaps_L27] at h
    refine sm_iload_n dX11_perhaps_27 rfl rfl ?_
    refine sm_aload_n dX11_perhaps_28 rfl rfl ?_
    refine sm_getR dX11_perhaps_29 fg_RX11_35 k_0 (rf_11_3 k_0) ?_
    refine sm_getI dX11_perhaps_32 fg_RX11_174 k_23 ?_
    refine sm_icmp_ge (tgt := 66) dX11_perhaps_35 (by decide) (fun g3 => ?_) (fun g3 => ?_)
    · replace h := it_t g3 h
      refine sm_iload_n dX11_perhaps_66 rfl rfl ?_
      cases h
      exact sm_ret_i (st := []) dX11_perhaps_67 rfl ⟨rfl, rfl⟩
    · replace h := it_f g3 h
      refine sm_aload_n dX11_perhaps_38 rfl rfl ?_
      refine sm_iload_n dX11_perhaps_39 rfl rfl ?_
      obtain ⟨t40, μ2z, g4, h⟩ := ob_some h
      refine sm_callV dX11_perhaps_40 cv_X10_leftIn ml_RX11_265 k_28 rfl rfl (by decide) (as := [av_i x3]) rfl (Nat.le_of_ble_eq_true rfl) rfl (s_Wo_leftIn (D := d) (by omega) N k_28 g4) (fun r9 μ9 hp => ?_)
      rw [hp.1, hp.2]
      clear hp r9 μ9
      refine sm_iconst dX11_perhaps_43 ic_2 ?_
      refine sm_imul dX11_perhaps_44 ?_
      refine sm_aload_n dX11_perhaps_45 rfl rfl ?_
      refine sm_getR dX11_perhaps_46 fg_RX11_214 k_28 (rf_10_0 k_28) ?_
      refine sm_iload_n dX11_perhaps_49 rfl rfl ?_
      obtain ⟨g5, h⟩ := gd_some h
      refine sm_iald (j := (Int32.toNatClampNeg x3)) dX11_perhaps_50 k_29 (in_sz n_29 g5) rfl ?_
      have hj51 : ∀ (v51_0 : Int32), v51_0 = (if (μ2z.1 29 (Int32.toNatClampNeg x3)) < (t40 * 2) then x2 else (x2 ||| ((1 : Int32) <<< (x3 &&& 31)))) → Sm (d + 1) mX11_perhaps 60 [some (av_r 0), some (av_r 28), some (av_i v51_0), some (av_i x3)] [] μ2z (po_i r μr) := by
        intro v51_0 ev51_0
        subst ev51_0
        refine sm_iinc dX11_perhaps_60 rfl (congrArg (HAdd.hAdd x3) ic_1) (Nat.le_of_ble_eq_true rfl) (pv_i rfl) ?_
        refine sm_goto (tgt := 27) dX11_perhaps_63 (by decide) ?_
        exact Sm_weak (le_s rfl (le_s rfl (le_s rfl (le_s rfl le_0)))) (ih (if (μ2z.1 29 (Int32.toNatClampNeg x3)) < (t40 * 2) then x2 else (x2 ||| ((1 : Int32) <<< (x3 &&& 31)))) (x3 + 1) μ2z h)
      refine sm_icmp_gt (tgt := 60) dX11_perhaps_51 (by decide) (fun c51_0 => ?_) (fun c51_0 => ?_)
      · exact Sm_weak (le_s rfl (le_s rfl (le_s rfl (le_s rfl le_0)))) (hj51 _ (if_pos c51_0).symm)
      · refine sm_iload_n dX11_perhaps_54 rfl rfl ?_
        refine sm_iconst dX11_perhaps_55 ic_1 ?_
        refine sm_iload_n dX11_perhaps_56 rfl rfl ?_
        refine sm_ishl dX11_perhaps_57 ?_
        refine sm_ior dX11_perhaps_58 ?_
        refine sm_istore_n dX11_perhaps_59 rfl (Nat.le_of_ble_eq_true rfl) (pv_r rfl) ?_
        exact Sm_weak (le_s rfl (le_s rfl (le_s rfl (le_s rfl le_0)))) (hj51 _ (if_neg c51_0).symm)
set_option maxRecDepth 100000 in
set_option maxHeartbeats 4000000 in
theorem s_Ro_perhaps {D : Nat} (hD : 1 ≤ D) (N : Nat) {μ : MM} {r : Int32} {μr : MM} (h : f_Ro_perhaps N μ = some (r, μr)) : Cl D mX11_perhaps [av_r 0] μ (po_i r μr) := by
  obtain ⟨d, rfl⟩ : ∃ d, D = d + 1 := ⟨D - 1, by omega⟩
  refine Cl_of pn_X11 (Nat.le_of_ble_eq_true rfl) ?_
  show Sm (d + 1) mX11_perhaps 0 [some (av_r 0), none, none, none] [] μ (po_i r μr)
  unfold f_Ro_perhaps at h
  refine sm_aload_n dX11_perhaps_0 rfl rfl ?_
  refine sm_getR dX11_perhaps_1 fg_RX11_35 k_0 (rf_11_3 k_0) ?_
  obtain ⟨t4, μ1z, g1, h⟩ := ob_some h
  refine sm_callV dX11_perhaps_4 cv_X1_isNone ml_RX11_268 k_23 rfl rfl (by decide) (as := []) rfl (Nat.le_of_ble_eq_true rfl) rfl (s_Co_isNone (D := d) (by omega) N k_23 g1) (fun r9 μ9 hp => ?_)
  rw [hp.1, hp.2]
  clear hp r9 μ9
  refine sm_if_eq (tgt := 12) dX11_perhaps_7 (by decide) (fun g2 => ?_) (fun g2 => ?_)
  · replace h := it_t g2 h
    refine sm_aload_n dX11_perhaps_12 rfl rfl ?_
    refine sm_getR dX11_perhaps_13 fg_RX11_35 k_0 (rf_11_3 k_0) ?_
    refine sm_getR dX11_perhaps_16 fg_RX11_205 k_23 (rf_1_5 k_23) ?_
    refine sm_getR dX11_perhaps_19 fg_RX11_211 k_27 (rf_7_0 k_27) ?_
    refine sm_astore_n dX11_perhaps_22 rfl (Nat.le_of_ble_eq_true rfl) (pv_r rfl) ?_
    refine sm_iconst dX11_perhaps_23 ic_0 ?_
    refine sm_istore_n dX11_perhaps_24 rfl (Nat.le_of_ble_eq_true rfl) (pv_r rfl) ?_
    refine sm_iconst dX11_perhaps_25 ic_0 ?_
    refine sm_istore_n dX11_perhaps_26 rfl (Nat.le_of_ble_eq_true rfl) (pv_i rfl) ?_
    exact Sm_weak (le_s rfl (le_s rfl (le_s rfl (le_s rfl le_0)))) (s_Ro_perhaps_L27 hD N N 0 0 μ1z h)
  · replace h := it_f g2 h
    refine sm_iconst dX11_perhaps_10 ic_m1 ?_
    cases h
    exact sm_ret_i (st := []) dX11_perhaps_11 rfl ⟨rfl, rfl⟩
set_option maxRecDepth 100000 in
set_option maxHeartbeats 4000000 in
theorem s_Ro_shared {D : Nat} (hD : 1 ≤ D) (N : Nat) {x1 : Int32} {x2 : Int32} {μ : MM} {r : Int32} {μr : MM} (h : f_Ro_shared N x1 x2 μ = some (r, μr)) : Cl D mX11_shared [av_r 0, av_i x1, av_i x2] μ (po_i r μr) := by
  obtain ⟨d, rfl⟩ : ∃ d, D = d + 1 := ⟨D - 1, by omega⟩
  refine Cl_of pn_X11 (Nat.le_of_ble_eq_true rfl) ?_
  show Sm (d + 1) mX11_shared 0 [some (av_r 0), some (av_i x1), some (av_i x2)] [] μ (po_i r μr)
  unfold f_Ro_shared at h
  refine sm_aload_n dX11_shared_0 rfl rfl ?_
  refine sm_getR dX11_shared_1 fg_RX11_35 k_0 (rf_11_3 k_0) ?_
  refine sm_iload_n dX11_shared_4 rfl rfl ?_
  obtain ⟨t5, μ1z, g1, h⟩ := ob_some h
  refine sm_callV dX11_shared_5 cv_X1_isThing ml_RX11_180 k_23 rfl rfl (by decide) (as := [av_i x1]) rfl (Nat.le_of_ble_eq_true rfl) rfl (s_Co_isThing (D := d) (by omega) N k_23 g1) (fun r9 μ9 hp => ?_)
  rw [hp.1, hp.2]
  clear hp r9 μ9
  refine sm_if_eq (tgt := 22) dX11_shared_8 (by decide) (fun g2 => ?_) (fun g2 => ?_)
  · replace h := it_t g2 h
    refine sm_iconst dX11_shared_22 ic_m1 ?_
    cases h
    exact sm_ret_i (st := []) dX11_shared_23 rfl ⟨rfl, rfl⟩
  · replace h := it_f g2 h
    refine sm_aload_n dX11_shared_11 rfl rfl ?_
    refine sm_getR dX11_shared_12 fg_RX11_35 k_0 (rf_11_3 k_0) ?_
    refine sm_iload_n dX11_shared_15 rfl rfl ?_
    obtain ⟨t16, μ2z, g3, h⟩ := ob_some h
    refine sm_callV dX11_shared_16 cv_X1_isThing ml_RX11_180 k_23 rfl rfl (by decide) (as := [av_i x2]) rfl (Nat.le_of_ble_eq_true rfl) rfl (s_Co_isThing (D := d) (by omega) N k_23 g3) (fun r9 μ9 hp => ?_)
    rw [hp.1, hp.2]
    clear hp r9 μ9
    refine sm_if_ne (tgt := 24) dX11_shared_19 (by decide) (fun g4 => ?_) (fun g4 => ?_)
    · replace h := it_f g4 h
      refine sm_aload_n dX11_shared_24 rfl rfl ?_
      refine sm_getR dX11_shared_25 fg_RX11_35 k_0 (rf_11_3 k_0) ?_
      refine sm_getR dX11_shared_28 fg_RX11_193 k_23 (rf_1_3 k_23) ?_
      refine sm_iload_n dX11_shared_31 rfl rfl ?_
      obtain ⟨g5, h⟩ := gd_some h
      refine sm_iald (j := (Int32.toNatClampNeg x1)) dX11_shared_32 k_25 (in_sz n_25 g5) rfl ?_
      refine sm_aload_n dX11_shared_33 rfl rfl ?_
      refine sm_getR dX11_shared_34 fg_RX11_35 k_0 (rf_11_3 k_0) ?_
      refine sm_getR dX11_shared_37 fg_RX11_193 k_23 (rf_1_3 k_23) ?_
      refine sm_iload_n dX11_shared_40 rfl rfl ?_
      obtain ⟨g6, h⟩ := gd_some h
      refine sm_iald (j := (Int32.toNatClampNeg x2)) dX11_shared_41 k_25 (in_sz n_25 g6) rfl ?_
      refine sm_iand dX11_shared_42 ?_
      cases h
      exact sm_ret_i (st := []) dX11_shared_43 rfl ⟨rfl, rfl⟩
    · replace h := it_t g4 h
      refine sm_iconst dX11_shared_22 ic_m1 ?_
      cases h
      exact sm_ret_i (st := []) dX11_shared_23 rfl ⟨rfl, rfl⟩
set_option maxRecDepth 100000 in
set_option maxHeartbeats 4000000 in
theorem s_Ro_twins_L37 {D : Nat} (hD : 1 ≤ D) (N : Nat) {r : Int32} {μr : MM} {k21 : Int32 → Int32 → Int32 → MM → Option (Int32 × MM)} (hk21 : ∀ (x1 : Int32) (x2 : Int32) (x3 : Int32) (μ : MM), k21 x1 x2 x3 μ = some (r, μr) → Sm D mX11_twins 21 [some (av_r 0), some (av_i x1), some (av_i x2), some (av_i x3), none] [] μ (po_i r μr)) : ∀ (n : Nat) (x1 : Int32) (x2 : Int32) (x3 : Int32) (x4 : Int32) (μ : MM), f_Ro_twins_L37 N k21 n x1 x2 x3 x4 μ = some (r, μr) → Sm D mX11_twins 37 [some (av_r 0), some (av_i x1), some (av_i x2), some (av_i x3), some (av_i x4)] [] μ (po_i r μr) := by
  obtain ⟨d, rfl⟩ : ∃ d, D = d + 1 := ⟨D - 1, by omega⟩
  intro n
  induction n with
  | zero => intro x1 x2 x3 x4 μ h; cases (show none = some (r, μr) from h)
  | succ n ih =>
    intro x1 x2 x3 x4 μ h
    rw [f_Ro_twins_L37] at h
    refine sm_iload dX11_twins_37 rfl ?_
    refine sm_aload_n dX11_twins_39 rfl rfl ?_
    refine sm_getR dX11_twins_40 fg_RX11_35 k_0 (rf_11_3 k_0) ?_
    refine sm_getI dX11_twins_43 fg_RX11_230 k_23 ?_
    refine sm_icmp_ge (tgt := 93) dX11_twins_46 (by decide) (fun g5 => ?_) (fun g5 => ?_)
    · replace h := it_t g5 h
      refine sm_iinc dX11_twins_93 rfl (congrArg (HAdd.hAdd x3) ic_1) (Nat.le_of_ble_eq_true rfl) (pv_i rfl) ?_
      refine sm_goto (tgt := 21) dX11_twins_96 (by decide) ?_
      exact Sm_weak (le_s rfl (le_s rfl (le_s rfl (le_s rfl (le_n le_0))))) (hk21 x1 x2 (x3 + 1) μ h)
    · replace h := it_f g5 h
      refine sm_aload_n dX11_twins_49 rfl rfl ?_
      refine sm_getR dX11_twins_50 fg_RX11_35 k_0 (rf_11_3 k_0) ?_
      refine sm_getR dX11_twins_53 fg_RX11_193 k_23 (rf_1_3 k_23) ?_
      refine sm_iload_n dX11_twins_56 rfl rfl ?_
      obtain ⟨g6, h⟩ := gd_some h
      refine sm_iald (j := (Int32.toNatClampNeg x3)) dX11_twins_57 k_25 (in_sz n_25 g6) rfl ?_
      refine sm_aload_n dX11_twins_58 rfl rfl ?_
      refine sm_getR dX11_twins_59 fg_RX11_35 k_0 (rf_11_3 k_0) ?_
      refine sm_getR dX11_twins_62 fg_RX11_193 k_23 (rf_1_3 k_23) ?_
      refine sm_iload dX11_twins_65 rfl ?_
      obtain ⟨g7, h⟩ := gd_some h
      refine sm_iald (j := (Int32.toNatClampNeg x4)) dX11_twins_67 k_25 (in_sz n_25 g7) rfl ?_
      refine sm_icmp_ne (tgt := 87) dX11_twins_68 (by decide) (fun g8 => ?_) (fun g8 => ?_)
      · replace h := it_f g8 h
        refine sm_iinc dX11_twins_87 rfl (congrArg (HAdd.hAdd x4) ic_1) (Nat.le_of_ble_eq_true rfl) (pv_i rfl) ?_
        refine sm_goto (tgt := 37) dX11_twins_90 (by decide) ?_
        exact Sm_weak (le_s rfl (le_s rfl (le_s rfl (le_s rfl (le_s rfl le_0))))) (ih x1 x2 x3 (x4 + 1) μ h)
      · replace h := it_t g8 h
        refine sm_iload_n dX11_twins_71 rfl rfl ?_
        refine sm_iload_n dX11_twins_72 rfl rfl ?_
        refine sm_icmp_ne (tgt := 84) dX11_twins_73 (by decide) (fun g9 => ?_) (fun g9 => ?_)
        · replace h := it_f g9 h
          refine sm_iinc dX11_twins_84 rfl (congrArg (HAdd.hAdd x2) ic_1) (Nat.le_of_ble_eq_true rfl) (pv_i rfl) ?_
          refine sm_iinc dX11_twins_87 rfl (congrArg (HAdd.hAdd x4) ic_1) (Nat.le_of_ble_eq_true rfl) (pv_i rfl) ?_
          refine sm_goto (tgt := 37) dX11_twins_90 (by decide) ?_
          exact Sm_weak (le_s rfl (le_s rfl (le_s rfl (le_s rfl (le_s rfl le_0))))) (ih x1 (x2 + 1) x3 (x4 + 1) μ h)
        · replace h := it_t g9 h
          refine sm_iload_n dX11_twins_76 rfl rfl ?_
          refine sm_bipush dX11_twins_77 bp_10 ?_
          refine sm_imul dX11_twins_79 ?_
          refine sm_iload dX11_twins_80 rfl ?_
          refine sm_iadd dX11_twins_82 ?_
          cases h
          exact sm_ret_i (st := []) dX11_twins_83 rfl ⟨rfl, rfl⟩
set_option maxRecDepth 100000 in
set_option maxHeartbeats 4000000 in
theorem s_Ro_twins_L21 {D : Nat} (hD : 1 ≤ D) (N : Nat) {r : Int32} {μr : MM} : ∀ (n : Nat) (x1 : Int32) (x2 : Int32) (x3 : Int32) (μ : MM), f_Ro_twins_L21 N n x1 x2 x3 μ = some (r, μr) → Sm D mX11_twins 21 [some (av_r 0), some (av_i x1), some (av_i x2), some (av_i x3), none] [] μ (po_i r μr) := by
  obtain ⟨d, rfl⟩ : ∃ d, D = d + 1 := ⟨D - 1, by omega⟩
  intro n
  induction n with
  | zero => intro x1 x2 x3 μ h; cases (show none = some (r, μr) from h)
  | succ n ih =>
    intro x1 x2 x3 μ h
    rw [f_Ro_twins_L21] at h
    refine sm_iload_n dX11_twins_21 rfl rfl ?_
    refine sm_aload_n dX11_twins_22 rfl rfl ?_
    refine sm_getR dX11_twins_23 fg_RX11_35 k_0 (rf_11_3 k_0) ?_
    refine sm_getI dX11_twins_26 fg_RX11_230 k_23 ?_
    refine sm_icmp_ge (tgt := 99) dX11_twins_29 (by decide) (fun g4 => ?_) (fun g4 => ?_)
    · replace h := it_t g4 h
      refine sm_iload_n dX11_twins_99 rfl rfl ?_
      refine sm_iconst dX11_twins_100 ic_m1 ?_
      have hj101 : ∀ (v101_0 : Int32), v101_0 = (if x1 = (-1) then x2 else (-1)) → Sm (d + 1) mX11_twins 109 [none, none, none, none, none] [av_i v101_0] μ (po_i r μr) := by
        intro v101_0 ev101_0
        subst ev101_0
        cases h
        exact sm_ret_i (st := []) dX11_twins_109 rfl ⟨rfl, rfl⟩
      refine sm_icmp_ne (tgt := 108) dX11_twins_101 (by decide) (fun c101_0 => ?_) (fun c101_0 => ?_)
      · refine sm_iconst dX11_twins_108 ic_m1 ?_
        exact Sm_weak (le_n (le_n (le_n (le_n (le_n le_0))))) (hj101 _ (if_neg c101_0).symm)
      · refine sm_iload_n dX11_twins_104 rfl rfl ?_
        refine sm_goto (tgt := 109) dX11_twins_105 (by decide) ?_
        exact Sm_weak (le_n (le_n (le_n (le_n (le_n le_0))))) (hj101 _ (if_pos c101_0).symm)
    · replace h := it_f g4 h
      refine sm_iload_n dX11_twins_32 rfl rfl ?_
      refine sm_iconst dX11_twins_33 ic_1 ?_
      refine sm_iadd dX11_twins_34 ?_
      refine sm_istore dX11_twins_35 (Nat.le_of_ble_eq_true rfl) (pv_i rfl) ?_
      exact Sm_weak (le_s rfl (le_s rfl (le_s rfl (le_s rfl (le_s rfl le_0))))) (s_Ro_twins_L37 hD N ih N x1 x2 x3 (x3 + 1) μ h)
set_option maxRecDepth 100000 in
set_option maxHeartbeats 4000000 in
theorem s_Ro_twins {D : Nat} (hD : 1 ≤ D) (N : Nat) {x1 : Int32} {μ : MM} {r : Int32} {μr : MM} (h : f_Ro_twins N x1 μ = some (r, μr)) : Cl D mX11_twins [av_r 0, av_i x1] μ (po_i r μr) := by
  obtain ⟨d, rfl⟩ : ∃ d, D = d + 1 := ⟨D - 1, by omega⟩
  refine Cl_of pn_X11 (Nat.le_of_ble_eq_true rfl) ?_
  show Sm (d + 1) mX11_twins 0 [some (av_r 0), some (av_i x1), none, none, none] [] μ (po_i r μr)
  unfold f_Ro_twins at h
  refine sm_aload_n dX11_twins_0 rfl rfl ?_
  refine sm_getR dX11_twins_1 fg_RX11_35 k_0 (rf_11_3 k_0) ?_
  obtain ⟨t4, μ1z, g1, h⟩ := ob_some h
  refine sm_callV dX11_twins_4 cv_X1_isNone ml_RX11_268 k_23 rfl rfl (by decide) (as := []) rfl (Nat.le_of_ble_eq_true rfl) rfl (s_Co_isNone (D := d) (by omega) N k_23 g1) (fun r9 μ9 hp => ?_)
  rw [hp.1, hp.2]
  clear hp r9 μ9
  refine sm_if_ne (tgt := 15) dX11_twins_7 (by decide) (fun g2 => ?_) (fun g2 => ?_)
  · replace h := it_f g2 h
    refine sm_iconst dX11_twins_15 ic_m1 ?_
    cases h
    exact sm_ret_i (st := []) dX11_twins_16 rfl ⟨rfl, rfl⟩
  · replace h := it_t g2 h
    refine sm_iload_n dX11_twins_10 rfl rfl ?_
    refine sm_iconst dX11_twins_11 ic_m1 ?_
    refine sm_icmp_ge (tgt := 17) dX11_twins_12 (by decide) (fun g3 => ?_) (fun g3 => ?_)
    · replace h := it_t g3 h
      refine sm_iconst dX11_twins_17 ic_0 ?_
      refine sm_istore_n dX11_twins_18 rfl (Nat.le_of_ble_eq_true rfl) (pv_i rfl) ?_
      refine sm_iconst dX11_twins_19 ic_0 ?_
      refine sm_istore_n dX11_twins_20 rfl (Nat.le_of_ble_eq_true rfl) (pv_i rfl) ?_
      exact Sm_weak (le_s rfl (le_s rfl (le_s rfl (le_s rfl (le_n le_0))))) (s_Ro_twins_L21 hD N N x1 0 0 μ1z h)
    · replace h := it_f g3 h
      refine sm_iconst dX11_twins_15 ic_m1 ?_
      cases h
      exact sm_ret_i (st := []) dX11_twins_16 rfl ⟨rfl, rfl⟩
set_option maxRecDepth 100000 in
set_option maxHeartbeats 4000000 in
theorem s_Ro_spread_L65 {D : Nat} (hD : 0 ≤ D) (N : Nat) {r : Int32} {μr : MM} {k57 : Int32 → Int32 → Int32 → MM → Option (Int32 × MM)} (hk57 : ∀ (x1 : Int32) (x2 : Int32) (x3 : Int32) (μ : MM), k57 x1 x2 x3 μ = some (r, μr) → Sm D mX11_spread 57 [some (av_r 0), some (av_i x1), some (av_i x2), some (av_i x3), none, none, none] [] μ (po_i r μr)) : ∀ (n : Nat) (x1 : Int32) (x2 : Int32) (x3 : Int32) (x4 : Int32) (μ : MM), f_Ro_spread_L65 N k57 n x1 x2 x3 x4 μ = some (r, μr) → Sm D mX11_spread 65 [some (av_r 0), some (av_i x1), some (av_i x2), some (av_i x3), some (av_i x4), none, none] [] μ (po_i r μr) := by
  intro n
  induction n with
  | zero => intro x1 x2 x3 x4 μ h; cases (show none = some (r, μr) from h)
  | succ n ih =>
    intro x1 x2 x3 x4 μ h
    rw [f_Ro_spread_L65] at h
    refine sm_iload dX11_spread_65 rfl ?_
    refine sm_if_lt (tgt := 118) dX11_spread_67 (by decide) (fun g8 => ?_) (fun g8 => ?_)
    · replace h := it_t g8 h
      refine sm_iinc dX11_spread_118 rfl (congrArg (HAdd.hAdd x3) ic_1) (Nat.le_of_ble_eq_true rfl) (pv_i rfl) ?_
      refine sm_goto (tgt := 57) dX11_spread_121 (by decide) ?_
      exact Sm_weak (le_s rfl (le_s rfl (le_s rfl (le_s rfl (le_n (le_n (le_n le_0))))))) (hk57 x1 x2 (x3 + 1) μ h)
    · replace h := it_f g8 h
      refine sm_aload_n dX11_spread_70 rfl rfl ?_
      refine sm_getR dX11_spread_71 fg_RX11_91 k_0 (rf_11_11 k_0) ?_
      refine sm_iload dX11_spread_74 rfl ?_
      obtain ⟨g9, h⟩ := gd_some h
      refine sm_lald (j := (Int32.toNatClampNeg x4)) dX11_spread_76 k_346 (in_sz n_346 g9) rfl ?_
      refine sm_iload_n dX11_spread_77 rfl rfl ?_
      refine sm_i2l dX11_spread_78 ?_
      refine sm_lmul dX11_spread_79 ?_
      refine sm_ldc2 dX11_spread_80 cs_RX11_369 ?_
      refine sm_ldiv dX11_spread_83 (by decide) ?_
      refine sm_lstore dX11_spread_84 (Nat.le_of_ble_eq_true rfl) (pv_i rfl) ?_
      refine sm_aload_n dX11_spread_86 rfl rfl ?_
      refine sm_getR dX11_spread_87 fg_RX11_91 k_0 (rf_11_11 k_0) ?_
      refine sm_iload dX11_spread_90 rfl ?_
      refine sm_dup2 dX11_spread_92 rfl rfl ?_
      obtain ⟨g10, h⟩ := gd_some h
      refine sm_lald (j := (Int32.toNatClampNeg x4)) dX11_spread_93 k_346 (in_sz n_346 g10) rfl ?_
      refine sm_lload dX11_spread_94 rfl ?_
      refine sm_lsub dX11_spread_96 ?_
      obtain ⟨g11, h⟩ := gd_some h
      refine sm_last (j := (Int32.toNatClampNeg x4)) dX11_spread_97 k_346 (in_sz n_346 g11) rfl ?_
      replace h := wr_some h
      refine sm_aload_n dX11_spread_98 rfl rfl ?_
      refine sm_getR dX11_spread_99 fg_RX11_91 k_0 (rf_11_11 k_0) ?_
      refine sm_iload dX11_spread_102 rfl ?_
      refine sm_iconst dX11_spread_104 ic_1 ?_
      refine sm_iadd dX11_spread_105 ?_
      refine sm_dup2 dX11_spread_106 rfl rfl ?_
      obtain ⟨g12, h⟩ := gd_some h
      refine sm_lald (j := (Int32.toNatClampNeg (x4 + 1))) dX11_spread_107 k_346 (in_sz n_346 g12) rfl ?_
      refine sm_lload dX11_spread_108 rfl ?_
      refine sm_ladd dX11_spread_110 ?_
      obtain ⟨g13, h⟩ := gd_some h
      refine sm_last (j := (Int32.toNatClampNeg (x4 + 1))) dX11_spread_111 k_346 (in_sz n_346 g13) rfl ?_
      replace h := wr_some h
      refine sm_iinc dX11_spread_112 rfl (congrArg (HAdd.hAdd x4) ic_m1) (Nat.le_of_ble_eq_true rfl) (pv_i rfl) ?_
      refine sm_goto (tgt := 65) dX11_spread_115 (by decide) ?_
      exact Sm_weak (le_s rfl (le_s rfl (le_s rfl (le_s rfl (le_s rfl (le_n (le_n le_0))))))) (ih x1 x2 x3 (x4 + (-1)) (mm_J (mm_J μ 346 (Int32.toNatClampNeg x4) ((μ.2 346 (Int32.toNatClampNeg x4)) - (((μ.2 346 (Int32.toNatClampNeg x4)) * (Int32.toInt64 x2)) / 100))) 346 (Int32.toNatClampNeg (x4 + 1)) (((mm_J μ 346 (Int32.toNatClampNeg x4) ((μ.2 346 (Int32.toNatClampNeg x4)) - (((μ.2 346 (Int32.toNatClampNeg x4)) * (Int32.toInt64 x2)) / 100))).2 346 (Int32.toNatClampNeg (x4 + 1))) + (((μ.2 346 (Int32.toNatClampNeg x4)) * (Int32.toInt64 x2)) / 100))) h)
set_option maxRecDepth 100000 in
set_option maxHeartbeats 4000000 in
theorem s_Ro_spread_L57 {D : Nat} (hD : 0 ≤ D) (N : Nat) {r : Int32} {μr : MM} : ∀ (n : Nat) (x1 : Int32) (x2 : Int32) (x3 : Int32) (μ : MM), f_Ro_spread_L57 N n x1 x2 x3 μ = some (r, μr) → Sm D mX11_spread 57 [some (av_r 0), some (av_i x1), some (av_i x2), some (av_i x3), none, none, none] [] μ (po_i r μr) := by
  intro n
  induction n with
  | zero => intro x1 x2 x3 μ h; cases (show none = some (r, μr) from h)
  | succ n ih =>
    intro x1 x2 x3 μ h
    rw [f_Ro_spread_L57] at h
    refine sm_iload_n dX11_spread_57 rfl rfl ?_
    refine sm_iload_n dX11_spread_58 rfl rfl ?_
    refine sm_icmp_ge (tgt := 124) dX11_spread_59 (by decide) (fun g7 => ?_) (fun g7 => ?_)
    · replace h := it_t g7 h
      refine sm_iconst dX11_spread_124 ic_1 ?_
      cases h
      exact sm_ret_z (st := []) dX11_spread_125 rfl rfl ⟨rfl, rfl⟩
    · replace h := it_f g7 h
      refine sm_iload_n dX11_spread_62 rfl rfl ?_
      refine sm_istore dX11_spread_63 (Nat.le_of_ble_eq_true rfl) (pv_i rfl) ?_
      exact Sm_weak (le_s rfl (le_s rfl (le_s rfl (le_s rfl (le_s rfl (le_n (le_n le_0))))))) (s_Ro_spread_L65 hD N ih N x1 x2 x3 x3 μ h)
set_option maxRecDepth 100000 in
set_option maxHeartbeats 4000000 in
theorem s_Ro_spread_L24 {D : Nat} (hD : 0 ≤ D) (N : Nat) {r : Int32} {μr : MM} : ∀ (n : Nat) (x1 : Int32) (x2 : Int32) (x3 : Int32) (μ : MM), f_Ro_spread_L24 N n x1 x2 x3 μ = some (r, μr) → Sm D mX11_spread 24 [some (av_r 0), some (av_i x1), some (av_i x2), some (av_i x3), none, none, none] [] μ (po_i r μr) := by
  intro n
  induction n with
  | zero => intro x1 x2 x3 μ h; cases (show none = some (r, μr) from h)
  | succ n ih =>
    intro x1 x2 x3 μ h
    rw [f_Ro_spread_L24] at h
    refine sm_iload_n dX11_spread_24 rfl rfl ?_
    refine sm_aload_n dX11_spread_25 rfl rfl ?_
    refine sm_getR dX11_spread_26 fg_RX11_91 k_0 (rf_11_11 k_0) ?_
    refine sm_alenJ dX11_spread_29 k_346 (al_eq (n_346) ?_)
    refine sm_icmp_ge (tgt := 46) dX11_spread_30 (by decide) (fun g5 => ?_) (fun g5 => ?_)
    · replace h := it_t g5 h
      refine sm_aload_n dX11_spread_46 rfl rfl ?_
      refine sm_getR dX11_spread_47 fg_RX11_91 k_0 (rf_11_11 k_0) ?_
      refine sm_iconst dX11_spread_50 ic_0 ?_
      refine sm_ldc2 dX11_spread_51 cs_RX11_367 ?_
      refine sm_last (j := 0) dX11_spread_54 k_346 (in_sz n_346 (by decide)) (by decide) ?_
      replace h := wr_some h
      refine sm_iconst dX11_spread_55 ic_0 ?_
      refine sm_istore_n dX11_spread_56 rfl (Nat.le_of_ble_eq_true rfl) (pv_i rfl) ?_
      exact Sm_weak (le_s rfl (le_s rfl (le_s rfl (le_s rfl (le_n (le_n (le_n le_0))))))) (s_Ro_spread_L57 hD N N x1 x2 0 (mm_J μ 346 0 1000000000) h)
    · replace h := it_f g5 h
      refine sm_aload_n dX11_spread_33 rfl rfl ?_
      refine sm_getR dX11_spread_34 fg_RX11_91 k_0 (rf_11_11 k_0) ?_
      refine sm_iload_n dX11_spread_37 rfl rfl ?_
      refine sm_lconst dX11_spread_38 lc_0 ?_
      obtain ⟨g14, h⟩ := gd_some h
      refine sm_last (j := (Int32.toNatClampNeg x3)) dX11_spread_39 k_346 (in_sz n_346 g14) rfl ?_
      replace h := wr_some h
      refine sm_iinc dX11_spread_40 rfl (congrArg (HAdd.hAdd x3) ic_1) (Nat.le_of_ble_eq_true rfl) (pv_i rfl) ?_
      refine sm_goto (tgt := 24) dX11_spread_43 (by decide) ?_
      exact Sm_weak (le_s rfl (le_s rfl (le_s rfl (le_s rfl (le_n (le_n (le_n le_0))))))) (ih x1 x2 (x3 + 1) (mm_J μ 346 (Int32.toNatClampNeg x3) 0) h)
set_option maxRecDepth 100000 in
set_option maxHeartbeats 4000000 in
theorem s_Ro_spread {D : Nat} (hD : 0 ≤ D) (N : Nat) {x1 : Int32} {x2 : Int32} {μ : MM} {r : Int32} {μr : MM} (h : f_Ro_spread N x1 x2 μ = some (r, μr)) : Cl D mX11_spread [av_r 0, av_i x1, av_i x2] μ (po_i r μr) := by
  refine Cl_of pn_X11 (Nat.le_of_ble_eq_true rfl) ?_
  show Sm D mX11_spread 0 [some (av_r 0), some (av_i x1), some (av_i x2), none, none, none, none] [] μ (po_i r μr)
  unfold f_Ro_spread at h
  refine sm_iload_n dX11_spread_0 rfl rfl ?_
  refine sm_if_lt (tgt := 20) dX11_spread_1 (by decide) (fun g1 => ?_) (fun g1 => ?_)
  · replace h := it_t g1 h
    refine sm_iconst dX11_spread_20 ic_0 ?_
    cases h
    exact sm_ret_z (st := []) dX11_spread_21 rfl rfl ⟨rfl, rfl⟩
  · replace h := it_f g1 h
    refine sm_iload_n dX11_spread_4 rfl rfl ?_
    refine sm_bipush dX11_spread_5 bp_30 ?_
    refine sm_icmp_gt (tgt := 20) dX11_spread_7 (by decide) (fun g2 => ?_) (fun g2 => ?_)
    · replace h := it_t g2 h
      refine sm_iconst dX11_spread_20 ic_0 ?_
      cases h
      exact sm_ret_z (st := []) dX11_spread_21 rfl rfl ⟨rfl, rfl⟩
    · replace h := it_f g2 h
      refine sm_iload_n dX11_spread_10 rfl rfl ?_
      refine sm_if_lt (tgt := 20) dX11_spread_11 (by decide) (fun g3 => ?_) (fun g3 => ?_)
      · replace h := it_t g3 h
        refine sm_iconst dX11_spread_20 ic_0 ?_
        cases h
        exact sm_ret_z (st := []) dX11_spread_21 rfl rfl ⟨rfl, rfl⟩
      · replace h := it_f g3 h
        refine sm_iload_n dX11_spread_14 rfl rfl ?_
        refine sm_bipush dX11_spread_15 bp_100 ?_
        refine sm_icmp_le (tgt := 22) dX11_spread_17 (by decide) (fun g4 => ?_) (fun g4 => ?_)
        · replace h := it_t g4 h
          refine sm_iconst dX11_spread_22 ic_0 ?_
          refine sm_istore_n dX11_spread_23 rfl (Nat.le_of_ble_eq_true rfl) (pv_i rfl) ?_
          exact Sm_weak (le_s rfl (le_s rfl (le_s rfl (le_s rfl (le_n (le_n (le_n le_0))))))) (s_Ro_spread_L24 hD N N x1 x2 0 μ h)
        · replace h := it_f g4 h
          refine sm_iconst dX11_spread_20 ic_0 ?_
          cases h
          exact sm_ret_z (st := []) dX11_spread_21 rfl rfl ⟨rfl, rfl⟩
set_option maxRecDepth 100000 in
set_option maxHeartbeats 4000000 in
theorem s_Ro_partsUnhurt_B40 {D : Nat} (hD : 1 ≤ D) (N : Nat) {r : Int64} {μr : MM} {k20 : Int32 → Int64 → Int32 → MM → Option (Int64 × MM)} (hk20 : ∀ (x2 : Int32) (y3 : Int64) (x5 : Int32) (μ : MM), k20 x2 y3 x5 μ = some (r, μr) → Sm D mX11_partsUnhurt 20 [some (av_r 0), none, some (av_i x2), some (av_l y3), none, some (av_i x5)] [] μ (po_l r μr)) (x2 : Int32) (y3 : Int64) (x5 : Int32) (μ : MM) (h : f_Ro_partsUnhurt_B40 N k20 x2 y3 x5 μ = some (r, μr)) : Sm D mX11_partsUnhurt 40 [some (av_r 0), none, some (av_i x2), some (av_l y3), none, some (av_i x5)] [] μ (po_l r μr) := by
  obtain ⟨d, rfl⟩ : ∃ d, D = d + 1 := ⟨D - 1, by omega⟩
  unfold f_Ro_partsUnhurt_B40 at h
  refine sm_lload_n dX11_partsUnhurt_40 rfl rfl ?_
  refine sm_aload_n dX11_partsUnhurt_41 rfl rfl ?_
  refine sm_getR dX11_partsUnhurt_42 fg_RX11_91 k_0 (rf_11_11 k_0) ?_
  refine sm_iload dX11_partsUnhurt_45 rfl ?_
  obtain ⟨g4, h⟩ := gd_some h
  refine sm_lald (j := (Int32.toNatClampNeg x5)) dX11_partsUnhurt_47 k_346 (in_sz n_346 g4) rfl ?_
  refine sm_ladd dX11_partsUnhurt_48 ?_
  refine sm_lstore_n dX11_partsUnhurt_49 rfl (Nat.le_of_ble_eq_true rfl) (pv_i rfl) ?_
  refine sm_iinc dX11_partsUnhurt_50 rfl (congrArg (HAdd.hAdd x5) ic_1) (Nat.le_of_ble_eq_true rfl) (pv_n rfl) ?_
  refine sm_goto (tgt := 20) dX11_partsUnhurt_53 (by decide) ?_
  exact Sm_weak (le_s rfl (le_n (le_s rfl (le_s rfl (le_n (le_s rfl le_0)))))) (hk20 x2 (y3 + (μ.2 346 (Int32.toNatClampNeg x5))) (x5 + 1) μ h)
set_option maxRecDepth 100000 in
set_option maxHeartbeats 4000000 in
theorem s_Ro_partsUnhurt_L20 {D : Nat} (hD : 1 ≤ D) (N : Nat) {r : Int64} {μr : MM} : ∀ (n : Nat) (x2 : Int32) (y3 : Int64) (x5 : Int32) (μ : MM), f_Ro_partsUnhurt_L20 N n x2 y3 x5 μ = some (r, μr) → Sm D mX11_partsUnhurt 20 [some (av_r 0), none, some (av_i x2), some (av_l y3), none, some (av_i x5)] [] μ (po_l r μr) := by
  obtain ⟨d, rfl⟩ : ∃ d, D = d + 1 := ⟨D - 1, by omega⟩
  intro n
  induction n with
  | zero => intro x2 y3 x5 μ h; cases (show none = some (r, μr) from h)
  | succ n ih =>
    intro x2 y3 x5 μ h
    rw [f_Ro_partsUnhurt_L20] at h
    refine sm_iload dX11_partsUnhurt_20 rfl ?_
    refine sm_aload_n dX11_partsUnhurt_22 rfl rfl ?_
    refine sm_getR dX11_partsUnhurt_23 fg_RX11_91 k_0 (rf_11_11 k_0) ?_
    refine sm_alenJ dX11_partsUnhurt_26 k_346 (al_eq (n_346) ?_)
    refine sm_icmp_ge (tgt := 56) dX11_partsUnhurt_27 (by decide) (fun g2 => ?_) (fun g2 => ?_)
    · replace h := it_t g2 h
      refine sm_lload_n dX11_partsUnhurt_56 rfl rfl ?_
      cases h
      exact sm_ret_l (st := []) dX11_partsUnhurt_57 rfl ⟨rfl, rfl⟩
    · replace h := it_f g2 h
      refine sm_iload_n dX11_partsUnhurt_30 rfl rfl ?_
      refine sm_if_eq (tgt := 40) dX11_partsUnhurt_31 (by decide) (fun g3 => ?_) (fun g3 => ?_)
      · replace h := it_t g3 h
        exact Sm_weak (le_s rfl (le_n (le_s rfl (le_s rfl (le_n (le_s rfl le_0)))))) (s_Ro_partsUnhurt_B40 hD N ih x2 y3 x5 μ h)
      · replace h := it_f g3 h
        refine sm_iload dX11_partsUnhurt_34 rfl ?_
        refine sm_iload_n dX11_partsUnhurt_36 rfl rfl ?_
        refine sm_icmp_ge (tgt := 56) dX11_partsUnhurt_37 (by decide) (fun g5 => ?_) (fun g5 => ?_)
        · replace h := it_t g5 h
          refine sm_lload_n dX11_partsUnhurt_56 rfl rfl ?_
          cases h
          exact sm_ret_l (st := []) dX11_partsUnhurt_57 rfl ⟨rfl, rfl⟩
        · replace h := it_f g5 h
          exact Sm_weak (le_s rfl (le_n (le_s rfl (le_s rfl (le_n (le_s rfl le_0)))))) (s_Ro_partsUnhurt_B40 hD N ih x2 y3 x5 μ h)
set_option maxRecDepth 100000 in
set_option maxHeartbeats 4000000 in
theorem s_Ro_partsUnhurt {D : Nat} (hD : 1 ≤ D) (N : Nat) {x1 : Int32} {μ : MM} {r : Int64} {μr : MM} (h : f_Ro_partsUnhurt N x1 μ = some (r, μr)) : Cl D mX11_partsUnhurt [av_r 0, av_i x1] μ (po_l r μr) := by
  obtain ⟨d, rfl⟩ : ∃ d, D = d + 1 := ⟨D - 1, by omega⟩
  refine Cl_of pn_X11 (Nat.le_of_ble_eq_true rfl) ?_
  show Sm (d + 1) mX11_partsUnhurt 0 [some (av_r 0), some (av_i x1), none, none, none, none] [] μ (po_l r μr)
  unfold f_Ro_partsUnhurt at h
  refine sm_aload_n dX11_partsUnhurt_0 rfl rfl ?_
  refine sm_getR dX11_partsUnhurt_1 fg_RX11_35 k_0 (rf_11_3 k_0) ?_
  refine sm_getR dX11_partsUnhurt_4 fg_RX11_205 k_23 (rf_1_5 k_23) ?_
  refine sm_getR dX11_partsUnhurt_7 fg_RX11_211 k_27 (rf_7_0 k_27) ?_
  refine sm_iload_n dX11_partsUnhurt_10 rfl rfl ?_
  obtain ⟨t11, μ1z, g1, h⟩ := ob_some h
  refine sm_callV dX11_partsUnhurt_11 cv_X10_weakestInk ml_RX11_371 k_28 rfl rfl (by decide) (as := [av_i x1]) rfl (Nat.le_of_ble_eq_true rfl) rfl (s_Wo_weakestInk (D := d) (by omega) N k_28 g1) (fun r9 μ9 hp => ?_)
  rw [hp.1, hp.2]
  clear hp r9 μ9
  refine sm_istore_n dX11_partsUnhurt_14 rfl (Nat.le_of_ble_eq_true rfl) (pv_i rfl) ?_
  refine sm_lconst dX11_partsUnhurt_15 lc_0 ?_
  refine sm_lstore_n dX11_partsUnhurt_16 rfl (Nat.le_of_ble_eq_true rfl) (pv_i rfl) ?_
  refine sm_iconst dX11_partsUnhurt_17 ic_0 ?_
  refine sm_istore dX11_partsUnhurt_18 (Nat.le_of_ble_eq_true rfl) (pv_n rfl) ?_
  exact Sm_weak (le_s rfl (le_n (le_s rfl (le_s rfl (le_n (le_s rfl le_0)))))) (s_Ro_partsUnhurt_L20 hD N N t11 0 0 μ1z h)
set_option maxRecDepth 100000 in
set_option maxHeartbeats 4000000 in
theorem s_Ro_odds {D : Nat} (hD : 2 ≤ D) (N : Nat) {x1 : Int32} {x2 : Int32} {x3 : Int32} {μ : MM} {r : Int32} {μr : MM} (h : f_Ro_odds N x1 x2 x3 μ = some (r, μr)) : Cl D mX11_odds [av_r 0, av_i x1, av_i x2, av_i x3] μ (po_i r μr) := by
  obtain ⟨d, rfl⟩ : ∃ d, D = d + 1 := ⟨D - 1, by omega⟩
  refine Cl_of pn_X11 (Nat.le_of_ble_eq_true rfl) ?_
  show Sm (d + 1) mX11_odds 0 [some (av_r 0), some (av_i x1), some (av_i x2), some (av_i x3)] [] μ (po_i r μr)
  unfold f_Ro_odds at h
  refine sm_aload_n dX11_odds_0 rfl rfl ?_
  refine sm_getR dX11_odds_1 fg_RX11_35 k_0 (rf_11_3 k_0) ?_
  refine sm_iload_n dX11_odds_4 rfl rfl ?_
  obtain ⟨t5, μ1z, g1, h⟩ := ob_some h
  refine sm_callV dX11_odds_5 cv_X1_isCard ml_RX11_199 k_23 rfl rfl (by decide) (as := [av_i x1]) rfl (Nat.le_of_ble_eq_true rfl) rfl (s_Co_isCard (D := d) (by omega) N k_23 g1) (fun r9 μ9 hp => ?_)
  rw [hp.1, hp.2]
  clear hp r9 μ9
  refine sm_if_eq (tgt := 20) dX11_odds_8 (by decide) (fun g2 => ?_) (fun g2 => ?_)
  · replace h := it_t g2 h
    refine sm_iconst dX11_odds_20 ic_m1 ?_
    cases h
    exact sm_ret_i (st := []) dX11_odds_21 rfl ⟨rfl, rfl⟩
  · replace h := it_f g2 h
    refine sm_aload_n dX11_odds_11 rfl rfl ?_
    refine sm_iload_n dX11_odds_12 rfl rfl ?_
    refine sm_iload_n dX11_odds_13 rfl rfl ?_
    obtain ⟨t14, μ2z, g3, h⟩ := ob_some h
    refine sm_callV dX11_odds_14 cv_X11_spread ml_RX11_360 k_0 rfl rfl (by decide) (as := [av_i x2, av_i x3]) rfl (Nat.le_of_ble_eq_true rfl) rfl (s_Ro_spread (D := d) (by omega) N g3) (fun r9 μ9 hp => ?_)
    rw [hp.1, hp.2]
    clear hp r9 μ9
    refine sm_if_ne (tgt := 22) dX11_odds_17 (by decide) (fun g4 => ?_) (fun g4 => ?_)
    · replace h := it_f g4 h
      refine sm_aload_n dX11_odds_22 rfl rfl ?_
      refine sm_iload_n dX11_odds_23 rfl rfl ?_
      obtain ⟨t24, μ3z, g5, h⟩ := ob_some h
      refine sm_callV dX11_odds_24 cv_X11_partsUnhurt ml_RX11_363 k_0 rfl rfl (by decide) (as := [av_i x1]) rfl (Nat.le_of_ble_eq_true rfl) rfl (s_Ro_partsUnhurt (D := d) (by omega) N g5) (fun r9 μ9 hp => ?_)
      rw [hp.1, hp.2]
      clear hp r9 μ9
      refine sm_l2i dX11_odds_27 ?_
      cases h
      exact sm_ret_i (st := []) dX11_odds_28 rfl ⟨rfl, rfl⟩
    · replace h := it_t g4 h
      refine sm_iconst dX11_odds_20 ic_m1 ?_
      cases h
      exact sm_ret_i (st := []) dX11_odds_21 rfl ⟨rfl, rfl⟩
set_option maxRecDepth 100000 in
set_option maxHeartbeats 4000000 in
theorem s_Ro_rescue_L29 {D : Nat} (hD : 2 ≤ D) (N : Nat) {r : Int32} {μr : MM} : ∀ (n : Nat) (x3 : Int32) (y4 : Int64) (x6 : Int32) (μ : MM), f_Ro_rescue_L29 N n x3 y4 x6 μ = some (r, μr) → Sm D mX11_rescue 29 [some (av_r 0), none, none, some (av_i x3), some (av_l y4), none, some (av_i x6), none, none] [] μ (po_i r μr) := by
  obtain ⟨d, rfl⟩ : ∃ d, D = d + 1 := ⟨D - 1, by omega⟩
  intro n
  induction n with
  | zero => intro x3 y4 x6 μ h; cases (show none = some (r, μr) from h)
  | succ n ih =>
    intro x3 y4 x6 μ h
    rw [f_Ro_rescue_L29] at h
    refine sm_iload dX11_rescue_29 rfl ?_
    refine sm_aload_n dX11_rescue_31 rfl rfl ?_
    refine sm_getR dX11_rescue_32 fg_RX11_35 k_0 (rf_11_3 k_0) ?_
    refine sm_getI dX11_rescue_35 fg_RX11_174 k_23 ?_
    refine sm_icmp_ge (tgt := 84) dX11_rescue_38 (by decide) (fun g5 => ?_) (fun g5 => ?_)
    · replace h := it_t g5 h
      refine sm_iload_n dX11_rescue_84 rfl rfl ?_
      cases h
      exact sm_ret_i (st := []) dX11_rescue_85 rfl ⟨rfl, rfl⟩
    · replace h := it_f g5 h
      refine sm_aload_n dX11_rescue_41 rfl rfl ?_
      refine sm_iload dX11_rescue_42 rfl ?_
      obtain ⟨t44, μ3z, g6, h⟩ := ob_some h
      refine sm_callV dX11_rescue_44 cv_X11_hasWordLeft ml_RX11_256 k_0 rfl rfl (by decide) (as := [av_i x6]) rfl (Nat.le_of_ble_eq_true rfl) rfl (s_Ro_hasWordLeft (D := d) (by omega) N g6) (fun r9 μ9 hp => ?_)
      rw [hp.1, hp.2]
      clear hp r9 μ9
      refine sm_if_eq (tgt := 78) dX11_rescue_47 (by decide) (fun g7 => ?_) (fun g7 => ?_)
      · replace h := it_t g7 h
        refine sm_iinc dX11_rescue_78 rfl (congrArg (HAdd.hAdd x6) ic_1) (Nat.le_of_ble_eq_true rfl) (pv_n rfl) ?_
        refine sm_goto (tgt := 29) dX11_rescue_81 (by decide) ?_
        exact Sm_weak (le_s rfl (le_n (le_n (le_s rfl (le_s rfl (le_n (le_s rfl (le_n (le_n le_0))))))))) (ih x3 y4 (x6 + 1) μ3z h)
      · replace h := it_f g7 h
        refine sm_aload_n dX11_rescue_50 rfl rfl ?_
        refine sm_iload dX11_rescue_51 rfl ?_
        obtain ⟨t53, μ4z, g8, h⟩ := ob_some h
        refine sm_callV dX11_rescue_53 cv_X11_partsUnhurt ml_RX11_363 k_0 rfl rfl (by decide) (as := [av_i x6]) rfl (Nat.le_of_ble_eq_true rfl) rfl (s_Ro_partsUnhurt (D := d) (by omega) N g8) (fun r9 μ9 hp => ?_)
        rw [hp.1, hp.2]
        clear hp r9 μ9
        refine sm_lstore dX11_rescue_56 (Nat.le_of_ble_eq_true rfl) (pv_i rfl) ?_
        refine sm_iload_n dX11_rescue_58 rfl rfl ?_
        refine sm_iconst dX11_rescue_59 ic_m1 ?_
        refine sm_icmp_eq (tgt := 71) dX11_rescue_60 (by decide) (fun g9 => ?_) (fun g9 => ?_)
        · replace h := it_t g9 h
          refine sm_iload dX11_rescue_71 rfl ?_
          refine sm_istore_n dX11_rescue_73 rfl (Nat.le_of_ble_eq_true rfl) (pv_n rfl) ?_
          refine sm_lload dX11_rescue_74 rfl ?_
          refine sm_lstore dX11_rescue_76 (Nat.le_of_ble_eq_true rfl) (pv_i rfl) ?_
          refine sm_iinc dX11_rescue_78 rfl (congrArg (HAdd.hAdd x6) ic_1) (Nat.le_of_ble_eq_true rfl) (pv_n rfl) ?_
          refine sm_goto (tgt := 29) dX11_rescue_81 (by decide) ?_
          exact Sm_weak (le_s rfl (le_n (le_n (le_s rfl (le_s rfl (le_n (le_s rfl (le_n (le_n le_0))))))))) (ih x6 t53 (x6 + 1) μ4z h)
        · replace h := it_f g9 h
          refine sm_lload dX11_rescue_63 rfl ?_
          refine sm_lload dX11_rescue_65 rfl ?_
          refine sm_lcmp dX11_rescue_67 ?_
          refine sm_if_ge (tgt := 78) dX11_rescue_68 (by decide) (fun g10 => ?_) (fun g10 => ?_)
          · replace h := it_t g10 h
            refine sm_iinc dX11_rescue_78 rfl (congrArg (HAdd.hAdd x6) ic_1) (Nat.le_of_ble_eq_true rfl) (pv_n rfl) ?_
            refine sm_goto (tgt := 29) dX11_rescue_81 (by decide) ?_
            exact Sm_weak (le_s rfl (le_n (le_n (le_s rfl (le_s rfl (le_n (le_s rfl (le_n (le_n le_0))))))))) (ih x3 y4 (x6 + 1) μ4z h)
          · replace h := it_f g10 h
            refine sm_iload dX11_rescue_71 rfl ?_
            refine sm_istore_n dX11_rescue_73 rfl (Nat.le_of_ble_eq_true rfl) (pv_n rfl) ?_
            refine sm_lload dX11_rescue_74 rfl ?_
            refine sm_lstore dX11_rescue_76 (Nat.le_of_ble_eq_true rfl) (pv_i rfl) ?_
            refine sm_iinc dX11_rescue_78 rfl (congrArg (HAdd.hAdd x6) ic_1) (Nat.le_of_ble_eq_true rfl) (pv_n rfl) ?_
            refine sm_goto (tgt := 29) dX11_rescue_81 (by decide) ?_
            exact Sm_weak (le_s rfl (le_n (le_n (le_s rfl (le_s rfl (le_n (le_s rfl (le_n (le_n le_0))))))))) (ih x6 t53 (x6 + 1) μ4z h)
set_option maxRecDepth 100000 in
set_option maxHeartbeats 4000000 in
theorem s_Ro_rescue {D : Nat} (hD : 2 ≤ D) (N : Nat) {x1 : Int32} {x2 : Int32} {μ : MM} {r : Int32} {μr : MM} (h : f_Ro_rescue N x1 x2 μ = some (r, μr)) : Cl D mX11_rescue [av_r 0, av_i x1, av_i x2] μ (po_i r μr) := by
  obtain ⟨d, rfl⟩ : ∃ d, D = d + 1 := ⟨D - 1, by omega⟩
  refine Cl_of pn_X11 (Nat.le_of_ble_eq_true rfl) ?_
  show Sm (d + 1) mX11_rescue 0 [some (av_r 0), some (av_i x1), some (av_i x2), none, none, none, none, none, none] [] μ (po_i r μr)
  unfold f_Ro_rescue at h
  refine sm_aload_n dX11_rescue_0 rfl rfl ?_
  refine sm_getR dX11_rescue_1 fg_RX11_35 k_0 (rf_11_3 k_0) ?_
  obtain ⟨t4, μ1z, g1, h⟩ := ob_some h
  refine sm_callV dX11_rescue_4 cv_X1_isNone ml_RX11_268 k_23 rfl rfl (by decide) (as := []) rfl (Nat.le_of_ble_eq_true rfl) rfl (s_Co_isNone (D := d) (by omega) N k_23 g1) (fun r9 μ9 hp => ?_)
  rw [hp.1, hp.2]
  clear hp r9 μ9
  refine sm_if_ne (tgt := 19) dX11_rescue_7 (by decide) (fun g2 => ?_) (fun g2 => ?_)
  · replace h := it_f g2 h
    refine sm_iconst dX11_rescue_19 ic_m1 ?_
    cases h
    exact sm_ret_i (st := []) dX11_rescue_20 rfl ⟨rfl, rfl⟩
  · replace h := it_t g2 h
    refine sm_aload_n dX11_rescue_10 rfl rfl ?_
    refine sm_iload_n dX11_rescue_11 rfl rfl ?_
    refine sm_iload_n dX11_rescue_12 rfl rfl ?_
    obtain ⟨t13, μ2z, g3, h⟩ := ob_some h
    refine sm_callV dX11_rescue_13 cv_X11_spread ml_RX11_360 k_0 rfl rfl (by decide) (as := [av_i x1, av_i x2]) rfl (Nat.le_of_ble_eq_true rfl) rfl (s_Ro_spread (D := d) (by omega) N g3) (fun r9 μ9 hp => ?_)
    rw [hp.1, hp.2]
    clear hp r9 μ9
    refine sm_if_ne (tgt := 21) dX11_rescue_16 (by decide) (fun g4 => ?_) (fun g4 => ?_)
    · replace h := it_f g4 h
      refine sm_iconst dX11_rescue_21 ic_m1 ?_
      refine sm_istore_n dX11_rescue_22 rfl (Nat.le_of_ble_eq_true rfl) (pv_i rfl) ?_
      refine sm_lconst dX11_rescue_23 lc_0 ?_
      refine sm_lstore dX11_rescue_24 (Nat.le_of_ble_eq_true rfl) (pv_i rfl) ?_
      refine sm_iconst dX11_rescue_26 ic_0 ?_
      refine sm_istore dX11_rescue_27 (Nat.le_of_ble_eq_true rfl) (pv_n rfl) ?_
      exact Sm_weak (le_s rfl (le_n (le_n (le_s rfl (le_s rfl (le_n (le_s rfl (le_n (le_n le_0))))))))) (s_Ro_rescue_L29 hD N N (-1) 0 0 μ2z h)
    · replace h := it_t g4 h
      refine sm_iconst dX11_rescue_19 ic_m1 ?_
      cases h
      exact sm_ret_i (st := []) dX11_rescue_20 rfl ⟨rfl, rfl⟩
set_option maxRecDepth 100000 in
set_option maxHeartbeats 4000000 in
theorem s_Mo_thrown {D : Nat} (hD : 0 ≤ D) (N : Nat) {μ : MM} {r : Int32} {μr : MM} (h : f_Mo_thrown N μ = some (r, μr)) : Cl D mX12_thrown [av_r 355] μ (po_i r μr) := by
  refine Cl_of pn_X12 (Nat.le_of_ble_eq_true rfl) ?_
  show Sm D mX12_thrown 0 [some (av_r 355)] [] μ (po_i r μr)
  unfold f_Mo_thrown at h
  refine sm_aload_n dX12_thrown_0 rfl rfl ?_
  refine sm_getI dX12_thrown_1 fg_RX12_91 k_355 ?_
  cases h
  exact sm_ret_i (st := []) dX12_thrown_4 rfl ⟨rfl, rfl⟩
set_option maxRecDepth 100000 in
set_option maxHeartbeats 4000000 in
theorem s_Mo_isIn {D : Nat} (hD : 0 ≤ D) (N : Nat) {y0 : Int64} {y2 : Int64} {y4 : Int64} {μ : MM} {r : Int32} {μr : MM} (h : f_Mo_isIn N y0 y2 y4 μ = some (r, μr)) : Cl D mX12_isIn [av_l y0, av_l y2, av_l y4] μ (po_i r μr) := by
  refine Cl_of pn_X12 (Nat.le_of_ble_eq_true rfl) ?_
  show Sm D mX12_isIn 0 [some (av_l y0), none, some (av_l y2), none, some (av_l y4), none] [] μ (po_i r μr)
  unfold f_Mo_isIn at h
  refine sm_lload_n dX12_isIn_0 rfl rfl ?_
  refine sm_lload_n dX12_isIn_1 rfl rfl ?_
  refine sm_lcmp dX12_isIn_2 ?_
  refine sm_if_lt (tgt := 17) dX12_isIn_3 (by decide) (fun g1 => ?_) (fun g1 => ?_)
  · replace h := it_t g1 h
    refine sm_iconst dX12_isIn_17 ic_0 ?_
    cases h
    exact sm_ret_z (st := []) dX12_isIn_18 rfl rfl ⟨rfl, rfl⟩
  · replace h := it_f g1 h
    refine sm_lload_n dX12_isIn_6 rfl rfl ?_
    refine sm_lload dX12_isIn_7 rfl ?_
    refine sm_lcmp dX12_isIn_9 ?_
    refine sm_if_gt (tgt := 17) dX12_isIn_10 (by decide) (fun g2 => ?_) (fun g2 => ?_)
    · replace h := it_t g2 h
      refine sm_iconst dX12_isIn_17 ic_0 ?_
      cases h
      exact sm_ret_z (st := []) dX12_isIn_18 rfl rfl ⟨rfl, rfl⟩
    · replace h := it_f g2 h
      refine sm_iconst dX12_isIn_13 ic_1 ?_
      refine sm_goto (tgt := 18) dX12_isIn_14 (by decide) ?_
      cases h
      exact sm_ret_z (st := []) dX12_isIn_18 rfl rfl ⟨rfl, rfl⟩
set_option maxRecDepth 100000 in
set_option maxHeartbeats 4000000 in
theorem s_Mo_has {D : Nat} (hD : 0 ≤ D) (N : Nat) {x0 : Int32} {x1 : Int32} {μ : MM} {r : Int32} {μr : MM} (h : f_Mo_has N x0 x1 μ = some (r, μr)) : Cl D mX12_has [av_i x0, av_i x1] μ (po_i r μr) := by
  refine Cl_of pn_X12 (Nat.le_of_ble_eq_true rfl) ?_
  show Sm D mX12_has 0 [some (av_i x0), some (av_i x1)] [] μ (po_i r μr)
  unfold f_Mo_has at h
  refine sm_iload_n dX12_has_0 rfl rfl ?_
  refine sm_iload_n dX12_has_1 rfl rfl ?_
  refine sm_ishr dX12_has_2 ?_
  refine sm_iconst dX12_has_3 ic_1 ?_
  refine sm_iand dX12_has_4 ?_
  refine sm_iconst dX12_has_5 ic_1 ?_
  have hj6 : ∀ (v6_0 : Int32), v6_0 = (if ((x0 >>> (x1 &&& 31)) &&& 1) = 1 then (1 : Int32) else 0) → Sm D mX12_has 14 [none, none] [av_i v6_0] μ (po_i r μr) := by
    intro v6_0 ev6_0
    subst ev6_0
    obtain ⟨g1, h⟩ := gd_some h
    cases h
    exact sm_ret_z (st := []) dX12_has_14 rfl (zb_nar g1) ⟨rfl, rfl⟩
  refine sm_icmp_ne (tgt := 13) dX12_has_6 (by decide) (fun c6_0 => ?_) (fun c6_0 => ?_)
  · refine sm_iconst dX12_has_13 ic_0 ?_
    exact Sm_weak (le_n (le_n le_0)) (hj6 _ (if_neg c6_0).symm)
  · refine sm_iconst dX12_has_9 ic_1 ?_
    refine sm_goto (tgt := 14) dX12_has_10 (by decide) ?_
    exact Sm_weak (le_n (le_n le_0)) (hj6 _ (if_pos c6_0).symm)
set_option maxRecDepth 100000 in
set_option maxHeartbeats 4000000 in
theorem s_Pr_checkIndex_8e157 {D : Nat} (hD : 0 ≤ D) (N : Nat) {x0 : Int32} {x1 : Int32} {μ : MM} {r : Int32} {μr : MM} (h : f_Pr_checkIndex_8e157 N x0 x1 μ = some (r, μr)) : Cl D mJ3_checkIndex_8e157 [av_i x0, av_i x1, av_o] μ (po_i r μr) := by
  refine Cl_of pn_J3 (Nat.le_of_ble_eq_true rfl) ?_
  show Sm D mJ3_checkIndex_8e157 0 [some (av_i x0), some (av_i x1), some (av_o)] [] μ (po_i r μr)
  unfold f_Pr_checkIndex_8e157 at h
  refine sm_iload_n dJ3_checkIndex_8e157_0 rfl rfl ?_
  refine sm_if_lt (tgt := 9) dJ3_checkIndex_8e157_1 (by decide) (fun g1 => ?_) (fun g1 => ?_)
  · replace h := it_t g1 h
    cases h
  · replace h := it_f g1 h
    refine sm_iload_n dJ3_checkIndex_8e157_4 rfl rfl ?_
    refine sm_iload_n dJ3_checkIndex_8e157_5 rfl rfl ?_
    refine sm_icmp_lt (tgt := 16) dJ3_checkIndex_8e157_6 (by decide) (fun g2 => ?_) (fun g2 => ?_)
    · replace h := it_t g2 h
      refine sm_iload_n dJ3_checkIndex_8e157_16 rfl rfl ?_
      cases h
      exact sm_ret_i (st := []) dJ3_checkIndex_8e157_17 rfl ⟨rfl, rfl⟩
    · replace h := it_f g2 h
      cases h
set_option maxRecDepth 100000 in
set_option maxHeartbeats 4000000 in
theorem s_St_checkIndex_df160 {D : Nat} (hD : 1 ≤ D) (N : Nat) {x0 : Int32} {x1 : Int32} {μ : MM} {μr : MM} (h : f_St_checkIndex_df160 N x0 x1 μ = some μr) : Cl D mJ0_checkIndex_df160 [av_i x0, av_i x1] μ (po_v μr) := by
  obtain ⟨d, rfl⟩ : ∃ d, D = d + 1 := ⟨D - 1, by omega⟩
  refine Cl_of pn_J0 (Nat.le_of_ble_eq_true rfl) ?_
  show Sm (d + 1) mJ0_checkIndex_df160 0 [some (av_i x0), some (av_i x1)] [] μ (po_v μr)
  unfold f_St_checkIndex_df160 at h
  refine sm_iload_n dJ0_checkIndex_df160_0 rfl rfl ?_
  refine sm_iload_n dJ0_checkIndex_df160_1 rfl rfl ?_
  refine sm_fo dJ0_checkIndex_df160_2 cs_RJ0_1053 ?_
  obtain ⟨t5, μ1z, g1, h⟩ := ob_some h
  refine sm_callS dJ0_checkIndex_df160_5 cs_J3_checkIndex_8e157 ml_RJ0_1059 (as := [av_i x0, av_i x1, av_o]) rfl (Nat.le_of_ble_eq_true rfl) rfl (s_Pr_checkIndex_8e157 (D := d) (by omega) N g1) (fun r9 μ9 hp => ?_)
  rw [hp.1, hp.2]
  clear hp r9 μ9
  refine sm_pop dJ0_checkIndex_df160_8 rfl ?_
  cases h
  exact sm_ret_v (st := []) dJ0_checkIndex_df160_9 rfl ⟨rfl, rfl⟩
set_option maxRecDepth 100000 in
set_option maxHeartbeats 4000000 in
theorem s_Sl_charAt_3b067 {D : Nat} (hD : 2 ≤ D) (N : Nat) {q0 : Nat} (hk_q0 : sh_k q0 = 41) {x1 : Int32} {μ : MM} {r : Int32} {μr : MM} (h : f_Sl_charAt_3b067 N q0 x1 μ = some (r, μr)) : Cl D mJ1_charAt_3b067 [av_r q0, av_i x1] μ (po_i r μr) := by
  obtain ⟨d, rfl⟩ : ∃ d, D = d + 1 := ⟨D - 1, by omega⟩
  refine Cl_of pn_J1 (Nat.le_of_ble_eq_true rfl) ?_
  show Sm (d + 1) mJ1_charAt_3b067 0 [some (av_r q0), some (av_i x1)] [] μ (po_i r μr)
  unfold f_Sl_charAt_3b067 at h
  refine sm_iload_n dJ1_charAt_3b067_0 rfl rfl ?_
  refine sm_aload_n dJ1_charAt_3b067_1 rfl rfl ?_
  refine sm_stlen dJ1_charAt_3b067_2 hk_q0 ?_
  obtain ⟨μ1z, g1, h⟩ := obv_some h
  refine sm_callS dJ1_charAt_3b067_3 cs_J0_checkIndex_df160 ml_RJ1_9 (as := [av_i x1, av_i (Int32.ofNat (sh_n q0))]) rfl (Nat.le_of_ble_eq_true rfl) rfl (s_St_checkIndex_df160 (D := d) (by omega) N g1) (fun r9 μ9 hp => ?_)
  rw [hp.1, hp.2]
  clear hp r9 μ9
  refine sm_aload_n dJ1_charAt_3b067_6 rfl rfl ?_
  refine sm_iload_n dJ1_charAt_3b067_7 rfl rfl ?_
  obtain ⟨g2, h⟩ := gd_some h
  refine sm_stald (j := (Int32.toNatClampNeg x1)) dJ1_charAt_3b067_8 hk_q0 (in_sz rfl g2) rfl ?_
  refine sm_sipush dJ1_charAt_3b067_9 sp_255 ?_
  refine sm_iand dJ1_charAt_3b067_12 ?_
  refine sm_i2c dJ1_charAt_3b067_13 ?_
  cases h
  exact sm_ret_z (st := []) dJ1_charAt_3b067_14 rfl (pk_nc _) ⟨rfl, rfl⟩
set_option maxRecDepth 100000 in
set_option maxHeartbeats 4000000 in
theorem s_St_charAt_5068e {D : Nat} (hD : 3 ≤ D) (N : Nat) {sx : Nat} (hk_sx : sh_k sx = 42) {x1 : Int32} {μ : MM} {r : Int32} {μr : MM} (h : f_St_charAt_5068e N sx x1 μ = some (r, μr)) : Cl D mJ0_charAt_5068e [av_r sx, av_i x1] μ (po_i r μr) := by
  obtain ⟨d, rfl⟩ : ∃ d, D = d + 1 := ⟨D - 1, by omega⟩
  refine Cl_of pn_J0 (Nat.le_of_ble_eq_true rfl) ?_
  show Sm (d + 1) mJ0_charAt_5068e 0 [some (av_r sx), some (av_i x1)] [] μ (po_i r μr)
  unfold f_St_charAt_5068e at h
  refine sm_aload_n dJ0_charAt_5068e_0 rfl rfl ?_
  obtain ⟨t1, μ1z, g1, h⟩ := ob_some h
  refine sm_callT dJ0_charAt_5068e_1 cv_J0_isLatin1_aae02 ml_RJ0_492 hk_sx rfl (as := []) rfl (Nat.le_of_ble_eq_true rfl) rfl (s_St_isLatin1_aae02 (D := d) (by omega) N hk_sx g1) (fun r9 μ9 hp => ?_)
  rw [hp.1, hp.2]
  clear hp r9 μ9
  refine sm_if_eq (tgt := 16) dJ0_charAt_5068e_4 (by decide) (fun g2 => ?_) (fun g2 => ?_)
  · replace h := it_t g2 h
    refine sm_aload_n dJ0_charAt_5068e_16 rfl rfl ?_
    refine sm_stval dJ0_charAt_5068e_17 cs_RJ0_9 hk_sx ?_
    refine sm_iload_n dJ0_charAt_5068e_20 rfl rfl ?_
    cases h
  · replace h := it_f g2 h
    refine sm_aload_n dJ0_charAt_5068e_7 rfl rfl ?_
    refine sm_stval dJ0_charAt_5068e_8 cs_RJ0_9 hk_sx ?_
    refine sm_iload_n dJ0_charAt_5068e_11 rfl rfl ?_
    obtain ⟨t12, μ2z, g3, h⟩ := ob_some h
    refine sm_callS dJ0_charAt_5068e_12 cs_J1_charAt_3b067 ml_RJ0_495 (as := [av_r (sx + 1000), av_i x1]) rfl (Nat.le_of_ble_eq_true rfl) rfl (s_Sl_charAt_3b067 (D := d) (by omega) N (kk_st hk_sx) g3) (fun r9 μ9 hp => ?_)
    rw [hp.1, hp.2]
    clear hp r9 μ9
    obtain ⟨g0, h⟩ := gd_some h
    cases h
    exact sm_ret_z (st := []) dJ0_charAt_5068e_15 rfl (zc_nar g0) ⟨rfl, rfl⟩
set_option maxRecDepth 100000 in
set_option maxHeartbeats 4000000 in
theorem s_Mo_isAmong_L2 {D : Nat} (hD : 4 ≤ D) (N : Nat) {q0 : Nat} (hk_q0 : sh_k q0 = 42) {r : Int32} {μr : MM} : ∀ (n : Nat) (x1 : Int32) (x2 : Int32) (μ : MM), f_Mo_isAmong_L2 N q0 n x1 x2 μ = some (r, μr) → Sm D mX12_isAmong 2 [some (av_r q0), some (av_i x1), some (av_i x2)] [] μ (po_i r μr) := by
  obtain ⟨d, rfl⟩ : ∃ d, D = d + 1 := ⟨D - 1, by omega⟩
  intro n
  induction n with
  | zero => intro x1 x2 μ h; cases (show none = some (r, μr) from h)
  | succ n ih =>
    intro x1 x2 μ h
    rw [f_Mo_isAmong_L2] at h
    refine sm_iload_n dX12_isAmong_2 rfl rfl ?_
    refine sm_aload_n dX12_isAmong_3 rfl rfl ?_
    obtain ⟨t4, μ1z, g1, h⟩ := ob_some h
    refine sm_callT dX12_isAmong_4 cv_J0_length_8abf5 ml_RX12_94 hk_q0 rfl (as := []) rfl (Nat.le_of_ble_eq_true rfl) rfl (s_St_length_8abf5 (D := d) (by omega) N hk_q0 g1) (fun r9 μ9 hp => ?_)
    rw [hp.1, hp.2]
    clear hp r9 μ9
    refine sm_icmp_ge (tgt := 27) dX12_isAmong_7 (by decide) (fun g2 => ?_) (fun g2 => ?_)
    · replace h := it_t g2 h
      refine sm_iconst dX12_isAmong_27 ic_0 ?_
      cases h
      exact sm_ret_z (st := []) dX12_isAmong_28 rfl rfl ⟨rfl, rfl⟩
    · replace h := it_f g2 h
      refine sm_aload_n dX12_isAmong_10 rfl rfl ?_
      refine sm_iload_n dX12_isAmong_11 rfl rfl ?_
      obtain ⟨t12, μ2z, g3, h⟩ := ob_some h
      refine sm_callT dX12_isAmong_12 cv_J0_charAt_5068e ml_RX12_100 hk_q0 rfl (as := [av_i x2]) rfl (Nat.le_of_ble_eq_true rfl) rfl (s_St_charAt_5068e (D := d) (by omega) N hk_q0 g3) (fun r9 μ9 hp => ?_)
      rw [hp.1, hp.2]
      clear hp r9 μ9
      refine sm_iload_n dX12_isAmong_15 rfl rfl ?_
      refine sm_icmp_ne (tgt := 21) dX12_isAmong_16 (by decide) (fun g4 => ?_) (fun g4 => ?_)
      · replace h := it_f g4 h
        refine sm_iinc dX12_isAmong_21 rfl (congrArg (HAdd.hAdd x2) ic_1) (Nat.le_of_ble_eq_true rfl) (pv_i rfl) ?_
        refine sm_goto (tgt := 2) dX12_isAmong_24 (by decide) ?_
        exact Sm_weak (le_s rfl (le_s rfl (le_s rfl le_0))) (ih x1 (x2 + 1) μ2z h)
      · replace h := it_t g4 h
        refine sm_iconst dX12_isAmong_19 ic_1 ?_
        cases h
        exact sm_ret_z (st := []) dX12_isAmong_20 rfl rfl ⟨rfl, rfl⟩
set_option maxRecDepth 100000 in
set_option maxHeartbeats 4000000 in
theorem s_Mo_isAmong {D : Nat} (hD : 4 ≤ D) (N : Nat) {q0 : Nat} (hk_q0 : sh_k q0 = 42) {x1 : Int32} {μ : MM} {r : Int32} {μr : MM} (h : f_Mo_isAmong N q0 x1 μ = some (r, μr)) : Cl D mX12_isAmong [av_r q0, av_i x1] μ (po_i r μr) := by
  obtain ⟨d, rfl⟩ : ∃ d, D = d + 1 := ⟨D - 1, by omega⟩
  refine Cl_of pn_X12 (Nat.le_of_ble_eq_true rfl) ?_
  show Sm (d + 1) mX12_isAmong 0 [some (av_r q0), some (av_i x1), none] [] μ (po_i r μr)
  unfold f_Mo_isAmong at h
  refine sm_iconst dX12_isAmong_0 ic_0 ?_
  refine sm_istore_n dX12_isAmong_1 rfl (Nat.le_of_ble_eq_true rfl) (pv_i rfl) ?_
  exact Sm_weak (le_s rfl (le_s rfl (le_s rfl le_0))) (s_Mo_isAmong_L2 hD N hk_q0 N x1 0 μ h)
set_option maxRecDepth 100000 in
set_option maxHeartbeats 4000000 in
theorem s_Mo_bytesIn_L5 {D : Nat} (hD : 0 ≤ D) (N : Nat) {r : Int32} {μr : MM} : ∀ (n : Nat) (x0 : Int32) (x1 : Int32) (x2 : Int32) (μ : MM), f_Mo_bytesIn_L5 N n x0 x1 x2 μ = some (r, μr) → Sm D mX12_bytesIn 5 [some (av_i x0), some (av_i x1), some (av_i x2)] [] μ (po_i r μr) := by
  intro n
  induction n with
  | zero => intro x0 x1 x2 μ h; cases (show none = some (r, μr) from h)
  | succ n ih =>
    intro x0 x1 x2 μ h
    rw [f_Mo_bytesIn_L5] at h
    refine sm_iload_n dX12_bytesIn_5 rfl rfl ?_
    refine sm_if_lt (tgt := 33) dX12_bytesIn_6 (by decide) (fun g1 => ?_) (fun g1 => ?_)
    · replace h := it_t g1 h
      refine sm_iload_n dX12_bytesIn_33 rfl rfl ?_
      cases h
      exact sm_ret_i (st := []) dX12_bytesIn_34 rfl ⟨rfl, rfl⟩
    · replace h := it_f g1 h
      refine sm_iload_n dX12_bytesIn_9 rfl rfl ?_
      refine sm_iload_n dX12_bytesIn_10 rfl rfl ?_
      refine sm_iload_n dX12_bytesIn_11 rfl rfl ?_
      refine sm_ishr dX12_bytesIn_12 ?_
      refine sm_sipush dX12_bytesIn_13 sp_255 ?_
      refine sm_iand dX12_bytesIn_16 ?_
      have hj17 : ∀ (v17_0 : Int32), v17_0 = (if ((x0 >>> (x2 &&& 31)) &&& 255) = 0 then (0 : Int32) else 1) → Sm D mX12_bytesIn 25 [some (av_i x0), none, some (av_i x2)] [av_i v17_0, av_i x1] μ (po_i r μr) := by
        intro v17_0 ev17_0
        subst ev17_0
        refine sm_iadd dX12_bytesIn_25 ?_
        refine sm_istore_n dX12_bytesIn_26 rfl (Nat.le_of_ble_eq_true rfl) (pv_i rfl) ?_
        refine sm_iinc dX12_bytesIn_27 rfl (congrArg (HAdd.hAdd x2) ic_m8) (Nat.le_of_ble_eq_true rfl) (pv_i rfl) ?_
        refine sm_goto (tgt := 5) dX12_bytesIn_30 (by decide) ?_
        exact Sm_weak (le_s rfl (le_s rfl (le_s rfl le_0))) (ih x0 (x1 + (if ((x0 >>> (x2 &&& 31)) &&& 255) = 0 then (0 : Int32) else 1)) (x2 + (-8)) μ h)
      refine sm_if_eq (tgt := 24) dX12_bytesIn_17 (by decide) (fun c17_0 => ?_) (fun c17_0 => ?_)
      · refine sm_iconst dX12_bytesIn_24 ic_0 ?_
        exact Sm_weak (le_s rfl (le_n (le_s rfl le_0))) (hj17 _ (if_pos c17_0).symm)
      · refine sm_iconst dX12_bytesIn_20 ic_1 ?_
        refine sm_goto (tgt := 25) dX12_bytesIn_21 (by decide) ?_
        exact Sm_weak (le_s rfl (le_n (le_s rfl le_0))) (hj17 _ (if_neg c17_0).symm)
set_option maxRecDepth 100000 in
set_option maxHeartbeats 4000000 in
theorem s_Mo_bytesIn {D : Nat} (hD : 0 ≤ D) (N : Nat) {x0 : Int32} {μ : MM} {r : Int32} {μr : MM} (h : f_Mo_bytesIn N x0 μ = some (r, μr)) : Cl D mX12_bytesIn [av_i x0] μ (po_i r μr) := by
  refine Cl_of pn_X12 (Nat.le_of_ble_eq_true rfl) ?_
  show Sm D mX12_bytesIn 0 [some (av_i x0), none, none] [] μ (po_i r μr)
  unfold f_Mo_bytesIn at h
  refine sm_iconst dX12_bytesIn_0 ic_0 ?_
  refine sm_istore_n dX12_bytesIn_1 rfl (Nat.le_of_ble_eq_true rfl) (pv_i rfl) ?_
  refine sm_bipush dX12_bytesIn_2 bp_24 ?_
  refine sm_istore_n dX12_bytesIn_4 rfl (Nat.le_of_ble_eq_true rfl) (pv_i rfl) ?_
  exact Sm_weak (le_s rfl (le_s rfl (le_s rfl le_0))) (s_Mo_bytesIn_L5 hD N N x0 0 24 μ h)
