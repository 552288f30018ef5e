set_option maxRecDepth 100000 in
set_option maxHeartbeats 4000000 in
theorem s_Mo_put_L3 {D : Nat} (hD : 0 ≤ D) (N : Nat) {μr : MM} : ∀ (n : Nat) (x1 : Int32) (x2 : Int32) (μ : MM), f_Mo_put_L3 N n x1 x2 μ = some μr → Sm D mX12_put 3 [some (av_r 355), some (av_i x1), some (av_i x2)] [] μ (po_v μr) := by
  intro n
  induction n with
  | zero => intro x1 x2 μ h; cases (show none = some μr from h)
  | succ n ih =>
    intro x1 x2 μ h
    rw [f_Mo_put_L3] at h
    refine sm_iload_n dX12_put_3 rfl rfl ?_
    refine sm_if_lt (tgt := 49) dX12_put_4 (by decide) (fun g1 => ?_) (fun g1 => ?_)
    · replace h := it_t g1 h
      cases h
      exact sm_ret_v (st := []) dX12_put_49 rfl ⟨rfl, rfl⟩
    · replace h := it_f g1 h
      refine sm_iload_n dX12_put_7 rfl rfl ?_
      refine sm_iload_n dX12_put_8 rfl rfl ?_
      refine sm_ishr dX12_put_9 ?_
      refine sm_sipush dX12_put_10 sp_255 ?_
      refine sm_iand dX12_put_13 ?_
      refine sm_if_ne (tgt := 20) dX12_put_14 (by decide) (fun g2 => ?_) (fun g2 => ?_)
      · replace h := it_f g2 h
        refine sm_aload_n dX12_put_20 rfl rfl ?_
        refine sm_getR dX12_put_21 fg_RX12_9 k_355 (rf_12_1 k_355) ?_
        refine sm_aload_n dX12_put_24 rfl rfl ?_
        refine sm_getI dX12_put_25 fg_RX12_104 k_355 ?_
        refine sm_iload_n dX12_put_28 rfl rfl ?_
        refine sm_iload_n dX12_put_29 rfl rfl ?_
        refine sm_ishr dX12_put_30 ?_
        refine sm_i2b dX12_put_31 ?_
        obtain ⟨g3, h⟩ := gd_some h
        refine sm_bast (j := (Int32.toNatClampNeg (μ.1 355 6))) dX12_put_32 k_356 (in_sz n_356 g3) rfl ?_
        replace h := wr_some h
        refine sm_aload_n dX12_put_33 rfl rfl ?_
        refine sm_dup dX12_put_34 rfl ?_
        refine sm_getI dX12_put_35 fg_RX12_104 k_355 ?_
        refine sm_iconst dX12_put_38 ic_1 ?_
        refine sm_iadd dX12_put_39 ?_
        refine sm_putI dX12_put_40 fp_RX12_104 k_355 ?_
        replace h := wr_some h
        refine sm_iinc dX12_put_43 rfl (congrArg (HAdd.hAdd x2) ic_m8) (Nat.le_of_ble_eq_true rfl) (pv_i rfl) ?_
        refine sm_goto (tgt := 3) dX12_put_46 (by decide) ?_
        exact Sm_weak (le_s rfl (le_s rfl (le_s rfl le_0))) (ih x1 (x2 + (-8)) (mm_I (mm_I μ 356 (Int32.toNatClampNeg (μ.1 355 6)) (vp_nar .byte ((Int32.toInt8 (x1 >>> (x2 &&& 31))).toInt32))) 355 6 (((mm_I μ 356 (Int32.toNatClampNeg (μ.1 355 6)) (vp_nar .byte ((Int32.toInt8 (x1 >>> (x2 &&& 31))).toInt32))).1 355 6) + 1)) h)
      · replace h := it_t g2 h
        refine sm_goto (tgt := 43) dX12_put_17 (by decide) ?_
        refine sm_iinc dX12_put_43 rfl (congrArg (HAdd.hAdd x2) ic_m8) (Nat.le_of_ble_eq_true rfl) (pv_i rfl) ?_
        refine sm_goto (tgt := 3) dX12_put_46 (by decide) ?_
        exact Sm_weak (le_s rfl (le_s rfl (le_s rfl le_0))) (ih x1 (x2 + (-8)) μ h)
set_option maxRecDepth 100000 in
set_option maxHeartbeats 4000000 in
theorem s_Mo_put {D : Nat} (hD : 0 ≤ D) (N : Nat) {x1 : Int32} {μ : MM} {μr : MM} (h : f_Mo_put N x1 μ = some μr) : Cl D mX12_put [av_r 355, av_i x1] μ (po_v μr) := by
  refine Cl_of pn_X12 (Nat.le_of_ble_eq_true rfl) ?_
  show Sm D mX12_put 0 [some (av_r 355), some (av_i x1), none] [] μ (po_v μr)
  unfold f_Mo_put at h
  refine sm_bipush dX12_put_0 bp_24 ?_
  refine sm_istore_n dX12_put_2 rfl (Nat.le_of_ble_eq_true rfl) (pv_i rfl) ?_
  exact Sm_weak (le_s rfl (le_s rfl (le_s rfl le_0))) (s_Mo_put_L3 hD N N x1 24 μ h)
set_option maxRecDepth 100000 in
set_option maxHeartbeats 4000000 in
theorem s_Mo_feed {D : Nat} (hD : 1 ≤ D) (N : Nat) {x1 : Int32} {x2 : Int32} {x3 : Int32} {x4 : Int32} {x5 : Int32} {μ : MM} {r : Int32} {μr : MM} (h : f_Mo_feed N x1 x2 x3 x4 x5 μ = some (r, μr)) : Cl D mX12_feed [av_r 355, av_i x1, av_i x2, av_i x3, av_i x4, av_i x5] μ (po_i r μr) := by
  obtain ⟨d, rfl⟩ : ∃ d, D = d + 1 := ⟨D - 1, by omega⟩
  refine Cl_of pn_X12 (Nat.le_of_ble_eq_true rfl) ?_
  show Sm (d + 1) mX12_feed 0 [some (av_r 355), some (av_i x1), some (av_i x2), some (av_i x3), some (av_i x4), some (av_i x5)] [] μ (po_i r μr)
  unfold f_Mo_feed at h
  refine sm_aload_n dX12_feed_0 rfl rfl ?_
  refine sm_iconst dX12_feed_1 ic_0 ?_
  refine sm_putI dX12_feed_2 fp_RX12_91 k_355 ?_
  replace h := wr_some h
  refine sm_aload_n dX12_feed_5 rfl rfl ?_
  refine sm_getI dX12_feed_6 fg_RX12_104 k_355 ?_
  refine sm_iload_n dX12_feed_9 rfl rfl ?_
  obtain ⟨t10, μ2z, g1, h⟩ := ob_some h
  refine sm_callS dX12_feed_10 cs_X12_bytesIn ml_RX12_106 (as := [av_i x1]) rfl (Nat.le_of_ble_eq_true rfl) rfl (s_Mo_bytesIn (D := d) (by omega) N g1) (fun r9 μ9 hp => ?_)
  rw [hp.1, hp.2]
  clear hp r9 μ9
  refine sm_iadd dX12_feed_13 ?_
  refine sm_iload_n dX12_feed_14 rfl rfl ?_
  obtain ⟨t15, μ3z, g2, h⟩ := ob_some h
  refine sm_callS dX12_feed_15 cs_X12_bytesIn ml_RX12_106 (as := [av_i x2]) rfl (Nat.le_of_ble_eq_true rfl) rfl (s_Mo_bytesIn (D := d) (by omega) N g2) (fun r9 μ9 hp => ?_)
  rw [hp.1, hp.2]
  clear hp r9 μ9
  refine sm_iadd dX12_feed_18 ?_
  refine sm_iload_n dX12_feed_19 rfl rfl ?_
  obtain ⟨t20, μ4z, g3, h⟩ := ob_some h
  refine sm_callS dX12_feed_20 cs_X12_bytesIn ml_RX12_106 (as := [av_i x3]) rfl (Nat.le_of_ble_eq_true rfl) rfl (s_Mo_bytesIn (D := d) (by omega) N g3) (fun r9 μ9 hp => ?_)
  rw [hp.1, hp.2]
  clear hp r9 μ9
  refine sm_iadd dX12_feed_23 ?_
  refine sm_iload dX12_feed_24 rfl ?_
  obtain ⟨t26, μ5z, g4, h⟩ := ob_some h
  refine sm_callS dX12_feed_26 cs_X12_bytesIn ml_RX12_106 (as := [av_i x4]) rfl (Nat.le_of_ble_eq_true rfl) rfl (s_Mo_bytesIn (D := d) (by omega) N g4) (fun r9 μ9 hp => ?_)
  rw [hp.1, hp.2]
  clear hp r9 μ9
  refine sm_iadd dX12_feed_29 ?_
  refine sm_iload dX12_feed_30 rfl ?_
  obtain ⟨t32, μ6z, g5, h⟩ := ob_some h
  refine sm_callS dX12_feed_32 cs_X12_bytesIn ml_RX12_106 (as := [av_i x5]) rfl (Nat.le_of_ble_eq_true rfl) rfl (s_Mo_bytesIn (D := d) (by omega) N g5) (fun r9 μ9 hp => ?_)
  rw [hp.1, hp.2]
  clear hp r9 μ9
  refine sm_iadd dX12_feed_35 ?_
  refine sm_sipush dX12_feed_36 sp_240 ?_
  refine sm_icmp_le (tgt := 44) dX12_feed_39 (by decide) (fun g6 => ?_) (fun g6 => ?_)
  · replace h := it_t g6 h
    refine sm_aload_n dX12_feed_44 rfl rfl ?_
    refine sm_iload_n dX12_feed_45 rfl rfl ?_
    obtain ⟨μ7z, g7, h⟩ := obv_some h
    refine sm_callV dX12_feed_46 cv_X12_put ml_RX12_110 k_355 rfl rfl (by decide) (as := [av_i x1]) rfl (Nat.le_of_ble_eq_true rfl) rfl (s_Mo_put (D := d) (by omega) N g7) (fun r9 μ9 hp => ?_)
    rw [hp.1, hp.2]
    clear hp r9 μ9
    refine sm_aload_n dX12_feed_49 rfl rfl ?_
    refine sm_iload_n dX12_feed_50 rfl rfl ?_
    obtain ⟨μ8z, g8, h⟩ := obv_some h
    refine sm_callV dX12_feed_51 cv_X12_put ml_RX12_110 k_355 rfl rfl (by decide) (as := [av_i x2]) rfl (Nat.le_of_ble_eq_true rfl) rfl (s_Mo_put (D := d) (by omega) N g8) (fun r9 μ9 hp => ?_)
    rw [hp.1, hp.2]
    clear hp r9 μ9
    refine sm_aload_n dX12_feed_54 rfl rfl ?_
    refine sm_iload_n dX12_feed_55 rfl rfl ?_
    obtain ⟨μ9z, g9, h⟩ := obv_some h
    refine sm_callV dX12_feed_56 cv_X12_put ml_RX12_110 k_355 rfl rfl (by decide) (as := [av_i x3]) rfl (Nat.le_of_ble_eq_true rfl) rfl (s_Mo_put (D := d) (by omega) N g9) (fun r9 μ9 hp => ?_)
    rw [hp.1, hp.2]
    clear hp r9 μ9
    refine sm_aload_n dX12_feed_59 rfl rfl ?_
    refine sm_iload dX12_feed_60 rfl ?_
    obtain ⟨μ10z, g10, h⟩ := obv_some h
    refine sm_callV dX12_feed_62 cv_X12_put ml_RX12_110 k_355 rfl rfl (by decide) (as := [av_i x4]) rfl (Nat.le_of_ble_eq_true rfl) rfl (s_Mo_put (D := d) (by omega) N g10) (fun r9 μ9 hp => ?_)
    rw [hp.1, hp.2]
    clear hp r9 μ9
    refine sm_aload_n dX12_feed_65 rfl rfl ?_
    refine sm_iload dX12_feed_66 rfl ?_
    obtain ⟨μ11z, g11, h⟩ := obv_some h
    refine sm_callV dX12_feed_68 cv_X12_put ml_RX12_110 k_355 rfl rfl (by decide) (as := [av_i x5]) rfl (Nat.le_of_ble_eq_true rfl) rfl (s_Mo_put (D := d) (by omega) N g11) (fun r9 μ9 hp => ?_)
    rw [hp.1, hp.2]
    clear hp r9 μ9
    refine sm_aload_n dX12_feed_71 rfl rfl ?_
    refine sm_getI dX12_feed_72 fg_RX12_104 k_355 ?_
    cases h
    exact sm_ret_i (st := []) dX12_feed_75 rfl ⟨rfl, rfl⟩
  · replace h := it_f g6 h
    refine sm_iconst dX12_feed_42 ic_m1 ?_
    cases h
    exact sm_ret_i (st := []) dX12_feed_43 rfl ⟨rfl, rfl⟩
set_option maxRecDepth 100000 in
set_option maxHeartbeats 4000000 in
theorem s_Mo_end {D : Nat} (hD : 0 ≤ D) (N : Nat) {x1 : Int32} {μ : MM} {r : Int32} {μr : MM} (h : f_Mo_end N x1 μ = some (r, μr)) : Cl D mX12_end [av_r 355, av_i x1] μ (po_i r μr) := by
  refine Cl_of pn_X12 (Nat.le_of_ble_eq_true rfl) ?_
  show Sm D mX12_end 0 [some (av_r 355), some (av_i x1)] [] μ (po_i r μr)
  unfold f_Mo_end at h
  refine sm_aload_n dX12_end_0 rfl rfl ?_
  refine sm_iconst dX12_end_1 ic_0 ?_
  refine sm_putI dX12_end_2 fp_RX12_91 k_355 ?_
  replace h := wr_some h
  refine sm_iload_n dX12_end_5 rfl rfl ?_
  refine sm_if_lt (tgt := 17) dX12_end_6 (by decide) (fun g1 => ?_) (fun g1 => ?_)
  · replace h := it_t g1 h
    refine sm_iconst dX12_end_17 ic_0 ?_
    cases h
    exact sm_ret_z (st := []) dX12_end_18 rfl rfl ⟨rfl, rfl⟩
  · replace h := it_f g1 h
    refine sm_iload_n dX12_end_9 rfl rfl ?_
    refine sm_aload_n dX12_end_10 rfl rfl ?_
    refine sm_getI dX12_end_11 fg_RX12_104 k_355 ?_
    refine sm_icmp_le (tgt := 19) dX12_end_14 (by decide) (fun g2 => ?_) (fun g2 => ?_)
    · replace h := it_t g2 h
      refine sm_aload_n dX12_end_19 rfl rfl ?_
      refine sm_iload_n dX12_end_20 rfl rfl ?_
      refine sm_putI dX12_end_21 fp_RX12_104 k_355 ?_
      replace h := wr_some h
      refine sm_iconst dX12_end_24 ic_1 ?_
      cases h
      exact sm_ret_z (st := []) dX12_end_25 rfl rfl ⟨rfl, rfl⟩
    · replace h := it_f g2 h
      refine sm_iconst dX12_end_17 ic_0 ?_
      cases h
      exact sm_ret_z (st := []) dX12_end_18 rfl rfl ⟨rfl, rfl⟩
set_option maxRecDepth 100000 in
set_option maxHeartbeats 4000000 in
theorem s_Mo_look_B43 {D : Nat} (hD : 0 ≤ D) (N : Nat) {r : Int32} {μr : MM} (μ : MM) (h : f_Mo_look_B43 N μ = some (r, μr)) : Sm D mX12_look 43 [some (av_r 355)] [] μ (po_i r μr) := by
  unfold f_Mo_look_B43 at h
  refine sm_aload_n dX12_look_43 rfl rfl ?_
  refine sm_getI dX12_look_44 fg_RX12_114 k_355 ?_
  refine sm_aload_n dX12_look_47 rfl rfl ?_
  refine sm_getI dX12_look_48 fg_RX12_117 k_355 ?_
  refine sm_icmp_ge (tgt := 75) dX12_look_51 (by decide) (fun g2 => ?_) (fun g2 => ?_)
  · replace h := it_t g2 h
    refine sm_iconst dX12_look_75 ic_m1 ?_
    cases h
    exact sm_ret_i (st := []) dX12_look_76 rfl ⟨rfl, rfl⟩
  · replace h := it_f g2 h
    refine sm_aload_n dX12_look_54 rfl rfl ?_
    refine sm_getX dX12_look_55 fg_RX12_23 k_355 ?_
    refine sm_aload_n dX12_look_58 rfl rfl ?_
    refine sm_getI dX12_look_59 fg_RX12_120 k_355 ?_
    refine sm_aload_n dX12_look_62 rfl rfl ?_
    refine sm_getI dX12_look_63 fg_RX12_114 k_355 ?_
    refine sm_iadd dX12_look_66 ?_
    obtain ⟨g4, h⟩ := gd_some h
    obtain ⟨g3, h⟩ := gd_some h
    refine sm_bald (j := (Int32.toNatClampNeg ((μ.1 355 8) + (μ.1 355 10)))) dX12_look_67 (of_decide_eq_true g4) (in_sz rfl g3) rfl ?_
    refine sm_sipush dX12_look_68 sp_255 ?_
    refine sm_iand dX12_look_71 ?_
    refine sm_goto (tgt := 76) dX12_look_72 (by decide) ?_
    cases h
    exact sm_ret_i (st := []) dX12_look_76 rfl ⟨rfl, rfl⟩
set_option maxRecDepth 100000 in
set_option maxHeartbeats 4000000 in
theorem s_Mo_look_L0 {D : Nat} (hD : 0 ≤ D) (N : Nat) {r : Int32} {μr : MM} : ∀ (n : Nat) (μ : MM), f_Mo_look_L0 N n μ = some (r, μr) → Sm D mX12_look 0 [some (av_r 355)] [] μ (po_i r μr) := by
  intro n
  induction n with
  | zero => intro μ h; cases (show none = some (r, μr) from h)
  | succ n ih =>
    intro μ h
    rw [f_Mo_look_L0] at h
    refine sm_aload_n dX12_look_0 rfl rfl ?_
    refine sm_getI dX12_look_1 fg_RX12_114 k_355 ?_
    refine sm_aload_n dX12_look_4 rfl rfl ?_
    refine sm_getI dX12_look_5 fg_RX12_117 k_355 ?_
    refine sm_icmp_ge (tgt := 43) dX12_look_8 (by decide) (fun g1 => ?_) (fun g1 => ?_)
    · replace h := it_t g1 h
      exact Sm_weak (le_s rfl le_0) (s_Mo_look_B43 hD N  μ h)
    · replace h := it_f g1 h
      refine sm_aload_n dX12_look_11 rfl rfl ?_
      refine sm_getX dX12_look_12 fg_RX12_23 k_355 ?_
      refine sm_aload_n dX12_look_15 rfl rfl ?_
      refine sm_getI dX12_look_16 fg_RX12_120 k_355 ?_
      refine sm_aload_n dX12_look_19 rfl rfl ?_
      refine sm_getI dX12_look_20 fg_RX12_114 k_355 ?_
      refine sm_iadd dX12_look_23 ?_
      obtain ⟨g6, h⟩ := gd_some h
      obtain ⟨g5, h⟩ := gd_some h
      refine sm_bald (j := (Int32.toNatClampNeg ((μ.1 355 8) + (μ.1 355 10)))) dX12_look_24 (of_decide_eq_true g6) (in_sz rfl g5) rfl ?_
      refine sm_bipush dX12_look_25 bp_32 ?_
      refine sm_icmp_ne (tgt := 43) dX12_look_27 (by decide) (fun g7 => ?_) (fun g7 => ?_)
      · replace h := it_f g7 h
        exact Sm_weak (le_s rfl le_0) (s_Mo_look_B43 hD N  μ h)
      · replace h := it_t g7 h
        refine sm_aload_n dX12_look_30 rfl rfl ?_
        refine sm_dup dX12_look_31 rfl ?_
        refine sm_getI dX12_look_32 fg_RX12_114 k_355 ?_
        refine sm_iconst dX12_look_35 ic_1 ?_
        refine sm_iadd dX12_look_36 ?_
        refine sm_putI dX12_look_37 fp_RX12_114 k_355 ?_
        replace h := wr_some h
        refine sm_goto (tgt := 0) dX12_look_40 (by decide) ?_
        exact Sm_weak (le_s rfl le_0) (ih  (mm_I μ 355 10 ((μ.1 355 10) + 1)) h)
set_option maxRecDepth 100000 in
set_option maxHeartbeats 4000000 in
theorem s_Mo_look {D : Nat} (hD : 0 ≤ D) (N : Nat) {μ : MM} {r : Int32} {μr : MM} (h : f_Mo_look N μ = some (r, μr)) : Cl D mX12_look [av_r 355] μ (po_i r μr) := by
  refine Cl_of pn_X12 (Nat.le_of_ble_eq_true rfl) ?_
  show Sm D mX12_look 0 [some (av_r 355)] [] μ (po_i r μr)
  unfold f_Mo_look at h
  exact Sm_weak (le_s rfl le_0) (s_Mo_look_L0 hD N N  μ h)
set_option maxRecDepth 100000 in
set_option maxHeartbeats 4000000 in
theorem s_Mo_fails {D : Nat} (hD : 0 ≤ D) (N : Nat) {μ : MM} {r : Int32} {μr : MM} (h : f_Mo_fails N μ = some (r, μr)) : Cl D mX12_fails [av_r 355] μ (po_i r μr) := by
  refine Cl_of pn_X12 (Nat.le_of_ble_eq_true rfl) ?_
  show Sm D mX12_fails 0 [some (av_r 355)] [] μ (po_i r μr)
  unfold f_Mo_fails at h
  refine sm_aload_n dX12_fails_0 rfl rfl ?_
  refine sm_getI dX12_fails_1 fg_RX12_123 k_355 ?_
  refine sm_iconst dX12_fails_4 ic_m1 ?_
  refine sm_icmp_ne (tgt := 16) dX12_fails_5 (by decide) (fun g1 => ?_) (fun g1 => ?_)
  · replace h := it_f g1 h
    refine sm_iconst dX12_fails_16 ic_0 ?_
    cases h
    exact sm_ret_z (st := []) dX12_fails_17 rfl rfl ⟨rfl, rfl⟩
  · replace h := it_t g1 h
    refine sm_aload_n dX12_fails_8 rfl rfl ?_
    refine sm_aload_n dX12_fails_9 rfl rfl ?_
    refine sm_getI dX12_fails_10 fg_RX12_114 k_355 ?_
    refine sm_putI dX12_fails_13 fp_RX12_123 k_355 ?_
    replace h := wr_some h
    refine sm_iconst dX12_fails_16 ic_0 ?_
    cases h
    exact sm_ret_z (st := []) dX12_fails_17 rfl rfl ⟨rfl, rfl⟩
set_option maxRecDepth 100000 in
set_option maxHeartbeats 4000000 in
theorem s_Mo_goesIn {D : Nat} (hD : 1 ≤ D) (N : Nat) {μ : MM} {r : Int32} {μr : MM} (h : f_Mo_goesIn N μ = some (r, μr)) : Cl D mX12_goesIn [av_r 355] μ (po_i r μr) := by
  obtain ⟨d, rfl⟩ : ∃ d, D = d + 1 := ⟨D - 1, by omega⟩
  refine Cl_of pn_X12 (Nat.le_of_ble_eq_true rfl) ?_
  show Sm (d + 1) mX12_goesIn 0 [some (av_r 355)] [] μ (po_i r μr)
  unfold f_Mo_goesIn at h
  refine sm_aload_n dX12_goesIn_0 rfl rfl ?_
  refine sm_getI dX12_goesIn_1 fg_RX12_126 k_355 ?_
  refine sm_bipush dX12_goesIn_4 bp_6 ?_
  refine sm_icmp_ne (tgt := 14) dX12_goesIn_6 (by decide) (fun g1 => ?_) (fun g1 => ?_)
  · replace h := it_f g1 h
    refine sm_aload_n dX12_goesIn_14 rfl rfl ?_
    refine sm_dup dX12_goesIn_15 rfl ?_
    refine sm_getI dX12_goesIn_16 fg_RX12_126 k_355 ?_
    refine sm_iconst dX12_goesIn_19 ic_1 ?_
    refine sm_iadd dX12_goesIn_20 ?_
    refine sm_putI dX12_goesIn_21 fp_RX12_126 k_355 ?_
    replace h := wr_some h
    refine sm_aload_n dX12_goesIn_24 rfl rfl ?_
    refine sm_dup dX12_goesIn_25 rfl ?_
    refine sm_getI dX12_goesIn_26 fg_RX12_114 k_355 ?_
    refine sm_iconst dX12_goesIn_29 ic_1 ?_
    refine sm_iadd dX12_goesIn_30 ?_
    refine sm_putI dX12_goesIn_31 fp_RX12_114 k_355 ?_
    replace h := wr_some h
    refine sm_iconst dX12_goesIn_34 ic_1 ?_
    cases h
    exact sm_ret_z (st := []) dX12_goesIn_35 rfl rfl ⟨rfl, rfl⟩
  · replace h := it_t g1 h
    refine sm_aload_n dX12_goesIn_9 rfl rfl ?_
    obtain ⟨t10, μ3z, g2, h⟩ := ob_some h
    refine sm_callV dX12_goesIn_10 cv_X12_fails ml_RX12_129 k_355 rfl rfl (by decide) (as := []) rfl (Nat.le_of_ble_eq_true rfl) rfl (s_Mo_fails (D := d) (by omega) N g2) (fun r9 μ9 hp => ?_)
    rw [hp.1, hp.2]
    clear hp r9 μ9
    obtain ⟨g3, h⟩ := gd_some h
    cases h
    exact sm_ret_z (st := []) dX12_goesIn_13 rfl (zb_nar g3) ⟨rfl, rfl⟩
set_option maxRecDepth 100000 in
set_option maxHeartbeats 4000000 in
theorem s_Mo_takes_B16 {D : Nat} (hD : 1 ≤ D) (N : Nat) {r : Int32} {μr : MM} (μ : MM) (h : f_Mo_takes_B16 N μ = some (r, μr)) : Sm D mX12_takes 16 [some (av_r 355), none] [] μ (po_i r μr) := by
  obtain ⟨d, rfl⟩ : ∃ d, D = d + 1 := ⟨D - 1, by omega⟩
  unfold f_Mo_takes_B16 at h
  refine sm_aload_n dX12_takes_16 rfl rfl ?_
  obtain ⟨t17, μ1z, g2, h⟩ := ob_some h
  refine sm_callV dX12_takes_17 cv_X12_fails ml_RX12_129 k_355 rfl rfl (by decide) (as := []) rfl (Nat.le_of_ble_eq_true rfl) rfl (s_Mo_fails (D := d) (by omega) N g2) (fun r9 μ9 hp => ?_)
  rw [hp.1, hp.2]
  clear hp r9 μ9
  obtain ⟨g3, h⟩ := gd_some h
  cases h
  exact sm_ret_z (st := []) dX12_takes_20 rfl (zb_nar g3) ⟨rfl, rfl⟩
set_option maxRecDepth 100000 in
set_option maxHeartbeats 4000000 in
theorem s_Mo_takes {D : Nat} (hD : 1 ≤ D) (N : Nat) {x1 : Int32} {μ : MM} {r : Int32} {μr : MM} (h : f_Mo_takes N x1 μ = some (r, μr)) : Cl D mX12_takes [av_r 355, av_i x1] μ (po_i r μr) := by
  obtain ⟨d, rfl⟩ : ∃ d, D = d + 1 := ⟨D - 1, by omega⟩
  refine Cl_of pn_X12 (Nat.le_of_ble_eq_true rfl) ?_
  show Sm (d + 1) mX12_takes 0 [some (av_r 355), some (av_i x1)] [] μ (po_i r μr)
  unfold f_Mo_takes at h
  refine sm_aload_n dX12_takes_0 rfl rfl ?_
  refine sm_getI dX12_takes_1 fg_RX12_123 k_355 ?_
  refine sm_iconst dX12_takes_4 ic_m1 ?_
  refine sm_icmp_ne (tgt := 16) dX12_takes_5 (by decide) (fun g1 => ?_) (fun g1 => ?_)
  · replace h := it_f g1 h
    exact Sm_weak (le_s rfl (le_n le_0)) (s_Mo_takes_B16 hD N  μ h)
  · replace h := it_t g1 h
    refine sm_aload_n dX12_takes_8 rfl rfl ?_
    obtain ⟨t9, μ2z, g4, h⟩ := ob_some h
    refine sm_callV dX12_takes_9 cv_X12_look ml_RX12_133 k_355 rfl rfl (by decide) (as := []) rfl (Nat.le_of_ble_eq_true rfl) rfl (s_Mo_look (D := d) (by omega) N g4) (fun r9 μ9 hp => ?_)
    rw [hp.1, hp.2]
    clear hp r9 μ9
    refine sm_iload_n dX12_takes_12 rfl rfl ?_
    refine sm_icmp_eq (tgt := 21) dX12_takes_13 (by decide) (fun g5 => ?_) (fun g5 => ?_)
    · replace h := it_t g5 h
      refine sm_aload_n dX12_takes_21 rfl rfl ?_
      refine sm_dup dX12_takes_22 rfl ?_
      refine sm_getI dX12_takes_23 fg_RX12_114 k_355 ?_
      refine sm_iconst dX12_takes_26 ic_1 ?_
      refine sm_iadd dX12_takes_27 ?_
      refine sm_putI dX12_takes_28 fp_RX12_114 k_355 ?_
      replace h := wr_some h
      refine sm_iconst dX12_takes_31 ic_1 ?_
      cases h
      exact sm_ret_z (st := []) dX12_takes_32 rfl rfl ⟨rfl, rfl⟩
    · replace h := it_f g5 h
      exact Sm_weak (le_s rfl (le_n le_0)) (s_Mo_takes_B16 hD N  μ2z h)
set_option maxRecDepth 100000 in
set_option maxHeartbeats 4000000 in
theorem s_Mo_isDigit {D : Nat} (hD : 0 ≤ D) (N : Nat) {μ : MM} {r : Int32} {μr : MM} (h : f_Mo_isDigit N μ = some (r, μr)) : Cl D mX12_isDigit [av_r 355] μ (po_i r μr) := by
  refine Cl_of pn_X12 (Nat.le_of_ble_eq_true rfl) ?_
  show Sm D mX12_isDigit 0 [some (av_r 355)] [] μ (po_i r μr)
  unfold f_Mo_isDigit at h
  refine sm_aload_n dX12_isDigit_0 rfl rfl ?_
  refine sm_getI dX12_isDigit_1 fg_RX12_114 k_355 ?_
  refine sm_aload_n dX12_isDigit_4 rfl rfl ?_
  refine sm_getI dX12_isDigit_5 fg_RX12_117 k_355 ?_
  refine sm_icmp_ge (tgt := 53) dX12_isDigit_8 (by decide) (fun g1 => ?_) (fun g1 => ?_)
  · replace h := it_t g1 h
    refine sm_iconst dX12_isDigit_53 ic_0 ?_
    cases h
    exact sm_ret_z (st := []) dX12_isDigit_54 rfl rfl ⟨rfl, rfl⟩
  · replace h := it_f g1 h
    refine sm_aload_n dX12_isDigit_11 rfl rfl ?_
    refine sm_getX dX12_isDigit_12 fg_RX12_23 k_355 ?_
    refine sm_aload_n dX12_isDigit_15 rfl rfl ?_
    refine sm_getI dX12_isDigit_16 fg_RX12_120 k_355 ?_
    refine sm_aload_n dX12_isDigit_19 rfl rfl ?_
    refine sm_getI dX12_isDigit_20 fg_RX12_114 k_355 ?_
    refine sm_iadd dX12_isDigit_23 ?_
    obtain ⟨g3, h⟩ := gd_some h
    obtain ⟨g2, h⟩ := gd_some h
    refine sm_bald (j := (Int32.toNatClampNeg ((μ.1 355 8) + (μ.1 355 10)))) dX12_isDigit_24 (of_decide_eq_true g3) (in_sz rfl g2) rfl ?_
    refine sm_bipush dX12_isDigit_25 bp_48 ?_
    refine sm_icmp_lt (tgt := 53) dX12_isDigit_27 (by decide) (fun g4 => ?_) (fun g4 => ?_)
    · replace h := it_t g4 h
      refine sm_iconst dX12_isDigit_53 ic_0 ?_
      cases h
      exact sm_ret_z (st := []) dX12_isDigit_54 rfl rfl ⟨rfl, rfl⟩
    · replace h := it_f g4 h
      refine sm_aload_n dX12_isDigit_30 rfl rfl ?_
      refine sm_getX dX12_isDigit_31 fg_RX12_23 k_355 ?_
      refine sm_aload_n dX12_isDigit_34 rfl rfl ?_
      refine sm_getI dX12_isDigit_35 fg_RX12_120 k_355 ?_
      refine sm_aload_n dX12_isDigit_38 rfl rfl ?_
      refine sm_getI dX12_isDigit_39 fg_RX12_114 k_355 ?_
      refine sm_iadd dX12_isDigit_42 ?_
      obtain ⟨g6, h⟩ := gd_some h
      obtain ⟨g5, h⟩ := gd_some h
      refine sm_bald (j := (Int32.toNatClampNeg ((μ.1 355 8) + (μ.1 355 10)))) dX12_isDigit_43 (of_decide_eq_true g6) (in_sz rfl g5) rfl ?_
      refine sm_bipush dX12_isDigit_44 bp_57 ?_
      refine sm_icmp_gt (tgt := 53) dX12_isDigit_46 (by decide) (fun g7 => ?_) (fun g7 => ?_)
      · replace h := it_t g7 h
        refine sm_iconst dX12_isDigit_53 ic_0 ?_
        cases h
        exact sm_ret_z (st := []) dX12_isDigit_54 rfl rfl ⟨rfl, rfl⟩
      · replace h := it_f g7 h
        refine sm_iconst dX12_isDigit_49 ic_1 ?_
        refine sm_goto (tgt := 54) dX12_isDigit_50 (by decide) ?_
        cases h
        exact sm_ret_z (st := []) dX12_isDigit_54 rfl rfl ⟨rfl, rfl⟩
set_option maxRecDepth 100000 in
set_option maxHeartbeats 4000000 in
theorem s_Mo_within {D : Nat} (hD : 1 ≤ D) (N : Nat) {y0 : Int64} {μ : MM} {r : Int32} {μr : MM} (h : f_Mo_within N y0 μ = some (r, μr)) : Cl D mX12_within [av_l y0] μ (po_i r μr) := by
  obtain ⟨d, rfl⟩ : ∃ d, D = d + 1 := ⟨D - 1, by omega⟩
  refine Cl_of pn_X12 (Nat.le_of_ble_eq_true rfl) ?_
  show Sm (d + 1) mX12_within 0 [some (av_l y0), none] [] μ (po_i r μr)
  unfold f_Mo_within at h
  refine sm_ldc2 dX12_within_0 cs_RX12_136 ?_
  refine sm_ldc2 dX12_within_3 cs_RX12_138 ?_
  refine sm_lload_n dX12_within_6 rfl rfl ?_
  refine sm_minl dX12_within_7 ml_RX12_140 (Nat.le_of_ble_eq_true rfl) ?_
  refine sm_maxl dX12_within_10 ml_RX12_146 (Nat.le_of_ble_eq_true rfl) ?_
  refine sm_l2i dX12_within_13 ?_
  cases h
  exact sm_ret_i (st := []) dX12_within_14 rfl ⟨rfl, rfl⟩
set_option maxRecDepth 100000 in
set_option maxHeartbeats 4000000 in
theorem s_Mo_atom_L90 {D : Nat} (hD : 5 ≤ D) (N : Nat) {rc_X12_atom : MM → Option (Int32 × MM)} (hrc_X12_atom : ∀ (μ : MM) (r : Int32) (μr : MM), rc_X12_atom μ = some (r, μr) → Cl (D - 1) mX12_atom [av_r 355] μ (po_i r μr)) {rc_X12_term : MM → Option (Int32 × MM)} (hrc_X12_term : ∀ (μ : MM) (r : Int32) (μr : MM), rc_X12_term μ = some (r, μr) → Cl (D - 1) mX12_term [av_r 355] μ (po_i r μr)) {rc_X12_sum : MM → Option (Int32 × MM)} (hrc_X12_sum : ∀ (μ : MM) (r : Int32) (μr : MM), rc_X12_sum μ = some (r, μr) → Cl (D - 1) mX12_sum [av_r 355] μ (po_i r μr)) {r : Int32} {μr : MM} : ∀ (n : Nat) (x2 : Int32) (x3 : Int32) (μ : MM), f_Mo_atom_L90 N rc_X12_atom rc_X12_term rc_X12_sum n x2 x3 μ = some (r, μr) → Sm D mX12_atom 90 [some (av_r 355), none, some (av_i x2), some (av_i x3)] [] μ (po_i r μr) := by
  obtain ⟨d, rfl⟩ : ∃ d, D = d + 1 := ⟨D - 1, by omega⟩
  intro n
  induction n with
  | zero => intro x2 x3 μ h; cases (show none = some (r, μr) from h)
  | succ n ih =>
    intro x2 x3 μ h
    rw [f_Mo_atom_L90] at h
    refine sm_aload_n dX12_atom_90 rfl rfl ?_
    obtain ⟨t91, μ4z, g7, h⟩ := ob_some h
    refine sm_callV dX12_atom_91 cv_X12_isDigit ml_RX12_163 k_355 rfl rfl (by decide) (as := []) rfl (Nat.le_of_ble_eq_true rfl) rfl (s_Mo_isDigit (D := d) (by omega) N g7) (fun r9 μ9 hp => ?_)
    rw [hp.1, hp.2]
    clear hp r9 μ9
    refine sm_if_eq (tgt := 156) dX12_atom_94 (by decide) (fun g8 => ?_) (fun g8 => ?_)
    · replace h := it_t g8 h
      refine sm_iload_n dX12_atom_156 rfl rfl ?_
      cases h
      exact sm_ret_i (st := []) dX12_atom_157 rfl ⟨rfl, rfl⟩
    · replace h := it_f g8 h
      refine sm_aload_n dX12_atom_97 rfl rfl ?_
      refine sm_getI dX12_atom_98 fg_RX12_123 k_355 ?_
      refine sm_iconst dX12_atom_101 ic_m1 ?_
      refine sm_icmp_ne (tgt := 156) dX12_atom_102 (by decide) (fun g9 => ?_) (fun g9 => ?_)
      · replace h := it_f g9 h
        refine sm_iload_n dX12_atom_156 rfl rfl ?_
        cases h
        exact sm_ret_i (st := []) dX12_atom_157 rfl ⟨rfl, rfl⟩
      · replace h := it_t g9 h
        refine sm_iload_n dX12_atom_105 rfl rfl ?_
        refine sm_iconst dX12_atom_106 ic_4 ?_
        refine sm_icmp_ne (tgt := 117) dX12_atom_107 (by decide) (fun g10 => ?_) (fun g10 => ?_)
        · replace h := it_f g10 h
          refine sm_bipush dX12_atom_117 bp_10 ?_
          refine sm_iload_n dX12_atom_119 rfl rfl ?_
          refine sm_imul dX12_atom_120 ?_
          refine sm_aload_n dX12_atom_121 rfl rfl ?_
          refine sm_getX dX12_atom_122 fg_RX12_23 k_355 ?_
          refine sm_aload_n dX12_atom_125 rfl rfl ?_
          refine sm_getI dX12_atom_126 fg_RX12_120 k_355 ?_
          refine sm_aload_n dX12_atom_129 rfl rfl ?_
          refine sm_getI dX12_atom_130 fg_RX12_114 k_355 ?_
          refine sm_iadd dX12_atom_133 ?_
          obtain ⟨g12, h⟩ := gd_some h
          obtain ⟨g11, h⟩ := gd_some h
          refine sm_bald (j := (Int32.toNatClampNeg ((μ4z.1 355 8) + (μ4z.1 355 10)))) dX12_atom_134 (of_decide_eq_true g12) (in_sz rfl g11) rfl ?_
          refine sm_iadd dX12_atom_135 ?_
          refine sm_bipush dX12_atom_136 bp_48 ?_
          refine sm_isub dX12_atom_138 ?_
          refine sm_istore_n dX12_atom_139 rfl (Nat.le_of_ble_eq_true rfl) (pv_n rfl) ?_
          refine sm_aload_n dX12_atom_140 rfl rfl ?_
          refine sm_dup dX12_atom_141 rfl ?_
          refine sm_getI dX12_atom_142 fg_RX12_114 k_355 ?_
          refine sm_iconst dX12_atom_145 ic_1 ?_
          refine sm_iadd dX12_atom_146 ?_
          refine sm_putI dX12_atom_147 fp_RX12_114 k_355 ?_
          replace h := wr_some h
          refine sm_iinc dX12_atom_150 rfl (congrArg (HAdd.hAdd x3) ic_1) (Nat.le_of_ble_eq_true rfl) (pv_i rfl) ?_
          refine sm_goto (tgt := 90) dX12_atom_153 (by decide) ?_
          exact Sm_weak (le_s rfl (le_n (le_s rfl (le_s rfl le_0)))) (ih (((10 * x2) + (μ4z.1 ((μ4z.1 355 5).toNatClampNeg) (Int32.toNatClampNeg ((μ4z.1 355 8) + (μ4z.1 355 10))))) - 48) (x3 + 1) (mm_I μ4z 355 10 ((μ4z.1 355 10) + 1)) h)
        · replace h := it_t g10 h
          refine sm_aload_n dX12_atom_110 rfl rfl ?_
          obtain ⟨t111, μ6z, g13, h⟩ := ob_some h
          refine sm_callV dX12_atom_111 cv_X12_fails ml_RX12_129 k_355 rfl rfl (by decide) (as := []) rfl (Nat.le_of_ble_eq_true rfl) rfl (s_Mo_fails (D := d) (by omega) N g13) (fun r9 μ9 hp => ?_)
          rw [hp.1, hp.2]
          clear hp r9 μ9
          refine sm_pop dX12_atom_114 rfl ?_
          refine sm_iconst dX12_atom_115 ic_0 ?_
          cases h
          exact sm_ret_i (st := []) dX12_atom_116 rfl ⟨rfl, rfl⟩
set_option maxRecDepth 100000 in
set_option maxHeartbeats 4000000 in
theorem s_Mo_atom_body {D : Nat} (hD : 5 ≤ D) (N : Nat) {rc_X12_atom : MM → Option (Int32 × MM)} (hrc_X12_atom : ∀ (μ : MM) (r : Int32) (μr : MM), rc_X12_atom μ = some (r, μr) → Cl (D - 1) mX12_atom [av_r 355] μ (po_i r μr)) {rc_X12_term : MM → Option (Int32 × MM)} (hrc_X12_term : ∀ (μ : MM) (r : Int32) (μr : MM), rc_X12_term μ = some (r, μr) → Cl (D - 1) mX12_term [av_r 355] μ (po_i r μr)) {rc_X12_sum : MM → Option (Int32 × MM)} (hrc_X12_sum : ∀ (μ : MM) (r : Int32) (μr : MM), rc_X12_sum μ = some (r, μr) → Cl (D - 1) mX12_sum [av_r 355] μ (po_i r μr)) {μ : MM} {r : Int32} {μr : MM} (h : f_Mo_atom_body N rc_X12_atom rc_X12_term rc_X12_sum μ = some (r, μr)) : Cl D mX12_atom [av_r 355] μ (po_i r μr) := by
  obtain ⟨d, rfl⟩ : ∃ d, D = d + 1 := ⟨D - 1, by omega⟩
  refine Cl_of pn_X12 (Nat.le_of_ble_eq_true rfl) ?_
  show Sm (d + 1) mX12_atom 0 [some (av_r 355), none, none, none] [] μ (po_i r μr)
  unfold f_Mo_atom_body at h
  refine sm_aload_n dX12_atom_0 rfl rfl ?_
  obtain ⟨t1, μ1z, g1, h⟩ := ob_some h
  refine sm_callV dX12_atom_1 cv_X12_look ml_RX12_133 k_355 rfl rfl (by decide) (as := []) rfl (Nat.le_of_ble_eq_true rfl) rfl (s_Mo_look (D := d) (by omega) N g1) (fun r9 μ9 hp => ?_)
  rw [hp.1, hp.2]
  clear hp r9 μ9
  refine sm_istore_n dX12_atom_4 rfl (Nat.le_of_ble_eq_true rfl) (pv_r rfl) ?_
  refine sm_ldcS dX12_atom_5 (i := 6) (by decide) rfl ?_
  refine sm_iload_n dX12_atom_7 rfl rfl ?_
  obtain ⟨t8, μ2z, g2, h⟩ := ob_some h
  refine sm_callS dX12_atom_8 cs_X12_isAmong ml_RX12_149 (as := [av_r 2006, av_i t1]) rfl (Nat.le_of_ble_eq_true rfl) rfl (s_Mo_isAmong (D := d) (by omega) N k_2006 g2) (fun r9 μ9 hp => ?_)
  rw [hp.1, hp.2]
  clear hp r9 μ9
  refine sm_if_eq (tgt := 31) dX12_atom_11 (by decide) (fun g3 => ?_) (fun g3 => ?_)
  · replace h := it_t g3 h
    refine sm_iload_n dX12_atom_31 rfl rfl ?_
    refine sm_bipush dX12_atom_32 bp_91 ?_
    refine sm_icmp_ne (tgt := 74) dX12_atom_34 (by decide) (fun g4 => ?_) (fun g4 => ?_)
    · replace h := it_f g4 h
      refine sm_aload_n dX12_atom_74 rfl rfl ?_
      obtain ⟨t75, μ3z, g5, h⟩ := ob_some h
      refine sm_callV dX12_atom_75 cv_X12_isDigit ml_RX12_163 k_355 rfl rfl (by decide) (as := []) rfl (Nat.le_of_ble_eq_true rfl) rfl (s_Mo_isDigit (D := d) (by omega) N g5) (fun r9 μ9 hp => ?_)
      rw [hp.1, hp.2]
      clear hp r9 μ9
      refine sm_if_ne (tgt := 86) dX12_atom_78 (by decide) (fun g6 => ?_) (fun g6 => ?_)
      · replace h := it_f g6 h
        refine sm_iconst dX12_atom_86 ic_0 ?_
        refine sm_istore_n dX12_atom_87 rfl (Nat.le_of_ble_eq_true rfl) (pv_i rfl) ?_
        refine sm_iconst dX12_atom_88 ic_0 ?_
        refine sm_istore_n dX12_atom_89 rfl (Nat.le_of_ble_eq_true rfl) (pv_i rfl) ?_
        exact Sm_weak (le_s rfl (le_n (le_s rfl (le_s rfl le_0)))) (s_Mo_atom_L90 hD N hrc_X12_atom hrc_X12_term hrc_X12_sum N 0 0 μ3z h)
      · replace h := it_t g6 h
        refine sm_aload_n dX12_atom_81 rfl rfl ?_
        obtain ⟨t82, μ7z, g14, h⟩ := ob_some h
        refine sm_callV dX12_atom_82 cv_X12_fails ml_RX12_129 k_355 rfl rfl (by decide) (as := []) rfl (Nat.le_of_ble_eq_true rfl) rfl (s_Mo_fails (D := d) (by omega) N g14) (fun r9 μ9 hp => ?_)
        rw [hp.1, hp.2]
        clear hp r9 μ9
        refine sm_pop dX12_atom_85 rfl ?_
        refine sm_iconst dX12_atom_86 ic_0 ?_
        refine sm_istore_n dX12_atom_87 rfl (Nat.le_of_ble_eq_true rfl) (pv_i rfl) ?_
        refine sm_iconst dX12_atom_88 ic_0 ?_
        refine sm_istore_n dX12_atom_89 rfl (Nat.le_of_ble_eq_true rfl) (pv_i rfl) ?_
        exact Sm_weak (le_s rfl (le_n (le_s rfl (le_s rfl le_0)))) (s_Mo_atom_L90 hD N hrc_X12_atom hrc_X12_term hrc_X12_sum N 0 0 μ7z h)
    · replace h := it_t g4 h
      refine sm_aload_n dX12_atom_37 rfl rfl ?_
      obtain ⟨t38, μ8z, g15, h⟩ := ob_some h
      refine sm_callV dX12_atom_38 cv_X12_goesIn ml_RX12_153 k_355 rfl rfl (by decide) (as := []) rfl (Nat.le_of_ble_eq_true rfl) rfl (s_Mo_goesIn (D := d) (by omega) N g15) (fun r9 μ9 hp => ?_)
      rw [hp.1, hp.2]
      clear hp r9 μ9
      refine sm_if_ne (tgt := 46) dX12_atom_41 (by decide) (fun g16 => ?_) (fun g16 => ?_)
      · replace h := it_f g16 h
        refine sm_aload_n dX12_atom_46 rfl rfl ?_
        obtain ⟨t47, μ9z, g17, h⟩ := ob_some h
        refine sm_callV dX12_atom_47 cv_X12_sum ml_RX12_156 k_355 rfl rfl (by decide) (as := []) rfl (Nat.le_of_ble_eq_true rfl) rfl (hrc_X12_sum _ _ _ g17) (fun r9 μ9 hp => ?_)
        rw [hp.1, hp.2]
        clear hp r9 μ9
        refine sm_istore_n dX12_atom_50 rfl (Nat.le_of_ble_eq_true rfl) (pv_i rfl) ?_
        refine sm_aload_n dX12_atom_51 rfl rfl ?_
        refine sm_bipush dX12_atom_52 bp_93 ?_
        obtain ⟨t54, μ10z, g18, h⟩ := ob_some h
        refine sm_callV dX12_atom_54 cv_X12_takes ml_RX12_159 k_355 rfl rfl (by decide) (as := [av_i 93]) rfl (Nat.le_of_ble_eq_true rfl) rfl (s_Mo_takes (D := d) (by omega) N g18) (fun r9 μ9 hp => ?_)
        rw [hp.1, hp.2]
        clear hp r9 μ9
        refine sm_if_ne (tgt := 62) dX12_atom_57 (by decide) (fun g19 => ?_) (fun g19 => ?_)
        · replace h := it_f g19 h
          refine sm_aload_n dX12_atom_62 rfl rfl ?_
          refine sm_dup dX12_atom_63 rfl ?_
          refine sm_getI dX12_atom_64 fg_RX12_126 k_355 ?_
          refine sm_iconst dX12_atom_67 ic_1 ?_
          refine sm_isub dX12_atom_68 ?_
          refine sm_putI dX12_atom_69 fp_RX12_126 k_355 ?_
          replace h := wr_some h
          refine sm_iload_n dX12_atom_72 rfl rfl ?_
          cases h
          exact sm_ret_i (st := []) dX12_atom_73 rfl ⟨rfl, rfl⟩
        · replace h := it_t g19 h
          refine sm_iconst dX12_atom_60 ic_0 ?_
          cases h
          exact sm_ret_i (st := []) dX12_atom_61 rfl ⟨rfl, rfl⟩
      · replace h := it_t g16 h
        refine sm_iconst dX12_atom_44 ic_0 ?_
        cases h
        exact sm_ret_i (st := []) dX12_atom_45 rfl ⟨rfl, rfl⟩
  · replace h := it_f g3 h
    refine sm_aload_n dX12_atom_14 rfl rfl ?_
    refine sm_dup dX12_atom_15 rfl ?_
    refine sm_getI dX12_atom_16 fg_RX12_114 k_355 ?_
    refine sm_iconst dX12_atom_19 ic_1 ?_
    refine sm_iadd dX12_atom_20 ?_
    refine sm_putI dX12_atom_21 fp_RX12_114 k_355 ?_
    replace h := wr_some h
    refine sm_aload_n dX12_atom_24 rfl rfl ?_
    refine sm_getR dX12_atom_25 fg_RX12_20 k_355 (rf_12_4 k_355) ?_
    refine sm_iload_n dX12_atom_28 rfl rfl ?_
    obtain ⟨g20, h⟩ := gd_some h
    refine sm_iald (j := (Int32.toNatClampNeg t1)) dX12_atom_29 k_359 (in_sz n_359 g20) rfl ?_
    cases h
    exact sm_ret_i (st := []) dX12_atom_30 rfl ⟨rfl, rfl⟩
set_option maxRecDepth 100000 in
set_option maxHeartbeats 4000000 in
theorem s_Mo_term_B87 {D : Nat} (hD : 5 ≤ D) (N : Nat) {rc_X12_atom : MM → Option (Int32 × MM)} (hrc_X12_atom : ∀ (μ : MM) (r : Int32) (μr : MM), rc_X12_atom μ = some (r, μr) → Cl (D - 1) mX12_atom [av_r 355] μ (po_i r μr)) {rc_X12_term : MM → Option (Int32 × MM)} (hrc_X12_term : ∀ (μ : MM) (r : Int32) (μr : MM), rc_X12_term μ = some (r, μr) → Cl (D - 1) mX12_term [av_r 355] μ (po_i r μr)) {rc_X12_sum : MM → Option (Int32 × MM)} (hrc_X12_sum : ∀ (μ : MM) (r : Int32) (μr : MM), rc_X12_sum μ = some (r, μr) → Cl (D - 1) mX12_sum [av_r 355] μ (po_i r μr)) {r : Int32} {μr : MM} {k5 : Int32 → MM → Option (Int32 × MM)} (hk5 : ∀ (x1 : Int32) (μ : MM), k5 x1 μ = some (r, μr) → Sm D mX12_term 5 [some (av_r 355), some (av_i x1), none, none, none] [] μ (po_i r μr)) (s0 : Int64) (μ : MM) (h : f_Mo_term_B87 N rc_X12_atom rc_X12_term rc_X12_sum k5 s0 μ = some (r, μr)) : Sm D mX12_term 87 [some (av_r 355), none, none, none, none] [av_l s0] μ (po_i r μr) := by
  obtain ⟨d, rfl⟩ : ∃ d, D = d + 1 := ⟨D - 1, by omega⟩
  unfold f_Mo_term_B87 at h
  obtain ⟨t87, μ6z, g10, h⟩ := ob_some h
  refine sm_callS dX12_term_87 cs_X12_within ml_RX12_169 (as := [av_l s0]) rfl (Nat.le_of_ble_eq_true rfl) rfl (s_Mo_within (D := d) (by omega) N g10) (fun r9 μ9 hp => ?_)
  rw [hp.1, hp.2]
  clear hp r9 μ9
  refine sm_istore_n dX12_term_90 rfl (Nat.le_of_ble_eq_true rfl) (pv_r rfl) ?_
  refine sm_goto (tgt := 5) dX12_term_91 (by decide) ?_
  exact Sm_weak (le_s rfl (le_s rfl (le_n (le_n (le_n le_0))))) (hk5 t87 μ6z h)
set_option maxRecDepth 100000 in
set_option maxHeartbeats 4000000 in
theorem s_Mo_term_B45 {D : Nat} (hD : 5 ≤ D) (N : Nat) {rc_X12_atom : MM → Option (Int32 × MM)} (hrc_X12_atom : ∀ (μ : MM) (r : Int32) (μr : MM), rc_X12_atom μ = some (r, μr) → Cl (D - 1) mX12_atom [av_r 355] μ (po_i r μr)) {rc_X12_term : MM → Option (Int32 × MM)} (hrc_X12_term : ∀ (μ : MM) (r : Int32) (μr : MM), rc_X12_term μ = some (r, μr) → Cl (D - 1) mX12_term [av_r 355] μ (po_i r μr)) {rc_X12_sum : MM → Option (Int32 × MM)} (hrc_X12_sum : ∀ (μ : MM) (r : Int32) (μr : MM), rc_X12_sum μ = some (r, μr) → Cl (D - 1) mX12_sum [av_r 355] μ (po_i r μr)) {r : Int32} {μr : MM} {k5 : Int32 → MM → Option (Int32 × MM)} (hk5 : ∀ (x1 : Int32) (μ : MM), k5 x1 μ = some (r, μr) → Sm D mX12_term 5 [some (av_r 355), some (av_i x1), none, none, none] [] μ (po_i r μr)) (x1 : Int32) (s0 : Int32) (μ : MM) (h : f_Mo_term_B45 N rc_X12_atom rc_X12_term rc_X12_sum k5 x1 s0 μ = some (r, μr)) : Sm D mX12_term 45 [some (av_r 355), some (av_i x1), none, none, none] [av_i s0] μ (po_i r μr) := by
  obtain ⟨d, rfl⟩ : ∃ d, D = d + 1 := ⟨D - 1, by omega⟩
  unfold f_Mo_term_B45 at h
  refine sm_istore_n dX12_term_45 rfl (Nat.le_of_ble_eq_true rfl) (pv_i rfl) ?_
  refine sm_aload_n dX12_term_46 rfl rfl ?_
  refine sm_dup dX12_term_47 rfl ?_
  refine sm_getI dX12_term_48 fg_RX12_114 k_355 ?_
  refine sm_iconst dX12_term_51 ic_1 ?_
  refine sm_iadd dX12_term_52 ?_
  refine sm_putI dX12_term_53 fp_RX12_114 k_355 ?_
  replace h := wr_some h
  refine sm_aload_n dX12_term_56 rfl rfl ?_
  obtain ⟨t57, μ5z, g6, h⟩ := ob_some h
  refine sm_callV dX12_term_57 cv_X12_atom ml_RX12_166 k_355 rfl rfl (by decide) (as := []) rfl (Nat.le_of_ble_eq_true rfl) rfl (hrc_X12_atom _ _ _ g6) (fun r9 μ9 hp => ?_)
  rw [hp.1, hp.2]
  clear hp r9 μ9
  refine sm_i2l dX12_term_60 ?_
  refine sm_lstore_n dX12_term_61 rfl (Nat.le_of_ble_eq_true rfl) (pv_i rfl) ?_
  refine sm_iload_n dX12_term_62 rfl rfl ?_
  refine sm_if_eq (tgt := 73) dX12_term_63 (by decide) (fun g7 => ?_) (fun g7 => ?_)
  · replace h := it_t g7 h
    refine sm_lload_n dX12_term_73 rfl rfl ?_
    refine sm_lconst dX12_term_74 lc_0 ?_
    refine sm_lcmp dX12_term_75 ?_
    refine sm_if_ne (tgt := 83) dX12_term_76 (by decide) (fun g8 => ?_) (fun g8 => ?_)
    · replace h := it_f g8 h
      refine sm_iload_n dX12_term_83 rfl rfl ?_
      refine sm_i2l dX12_term_84 ?_
      refine sm_lload_n dX12_term_85 rfl rfl ?_
      obtain ⟨g9, h⟩ := gd_some h
      refine sm_ldiv dX12_term_86 (nzl_ne g9) ?_
      exact Sm_weak (le_s rfl (le_n (le_n (le_n (le_n le_0))))) (s_Mo_term_B87 hD N hrc_X12_atom hrc_X12_term hrc_X12_sum hk5 ((Int32.toInt64 x1) / (Int32.toInt64 t57)) μ5z h)
    · replace h := it_t g8 h
      refine sm_lconst dX12_term_79 lc_0 ?_
      refine sm_goto (tgt := 87) dX12_term_80 (by decide) ?_
      exact Sm_weak (le_s rfl (le_n (le_n (le_n (le_n le_0))))) (s_Mo_term_B87 hD N hrc_X12_atom hrc_X12_term hrc_X12_sum hk5 0 μ5z h)
  · replace h := it_f g7 h
    refine sm_iload_n dX12_term_66 rfl rfl ?_
    refine sm_i2l dX12_term_67 ?_
    refine sm_lload_n dX12_term_68 rfl rfl ?_
    refine sm_lmul dX12_term_69 ?_
    refine sm_goto (tgt := 87) dX12_term_70 (by decide) ?_
    exact Sm_weak (le_s rfl (le_n (le_n (le_n (le_n le_0))))) (s_Mo_term_B87 hD N hrc_X12_atom hrc_X12_term hrc_X12_sum hk5 ((Int32.toInt64 x1) * (Int32.toInt64 t57)) μ5z h)
set_option maxRecDepth 100000 in
set_option maxHeartbeats 4000000 in
theorem s_Mo_term_B31 {D : Nat} (hD : 5 ≤ D) (N : Nat) {rc_X12_atom : MM → Option (Int32 × MM)} (hrc_X12_atom : ∀ (μ : MM) (r : Int32) (μr : MM), rc_X12_atom μ = some (r, μr) → Cl (D - 1) mX12_atom [av_r 355] μ (po_i r μr)) {rc_X12_term : MM → Option (Int32 × MM)} (hrc_X12_term : ∀ (μ : MM) (r : Int32) (μr : MM), rc_X12_term μ = some (r, μr) → Cl (D - 1) mX12_term [av_r 355] μ (po_i r μr)) {rc_X12_sum : MM → Option (Int32 × MM)} (hrc_X12_sum : ∀ (μ : MM) (r : Int32) (μr : MM), rc_X12_sum μ = some (r, μr) → Cl (D - 1) mX12_sum [av_r 355] μ (po_i r μr)) {r : Int32} {μr : MM} {k5 : Int32 → MM → Option (Int32 × MM)} (hk5 : ∀ (x1 : Int32) (μ : MM), k5 x1 μ = some (r, μr) → Sm D mX12_term 5 [some (av_r 355), some (av_i x1), none, none, none] [] μ (po_i r μr)) (x1 : Int32) (μ : MM) (h : f_Mo_term_B31 N rc_X12_atom rc_X12_term rc_X12_sum k5 x1 μ = some (r, μr)) : Sm D mX12_term 31 [some (av_r 355), some (av_i x1), none, none, none] [] μ (po_i r μr) := by
  obtain ⟨d, rfl⟩ : ∃ d, D = d + 1 := ⟨D - 1, by omega⟩
  unfold f_Mo_term_B31 at h
  refine sm_aload_n dX12_term_31 rfl rfl ?_
  obtain ⟨t32, μ3z, g5, h⟩ := ob_some h
  refine sm_callV dX12_term_32 cv_X12_look ml_RX12_133 k_355 rfl rfl (by decide) (as := []) rfl (Nat.le_of_ble_eq_true rfl) rfl (s_Mo_look (D := d) (by omega) N g5) (fun r9 μ9 hp => ?_)
  rw [hp.1, hp.2]
  clear hp r9 μ9
  refine sm_bipush dX12_term_35 bp_42 ?_
  have hj37 : ∀ (v37_0 : Int32), v37_0 = (if t32 = 42 then (1 : Int32) else 0) → Sm (d + 1) mX12_term 45 [some (av_r 355), some (av_i x1), none, none, none] [av_i v37_0] μ3z (po_i r μr) := by
    intro v37_0 ev37_0
    subst ev37_0
    exact Sm_weak (le_s rfl (le_s rfl (le_n (le_n (le_n le_0))))) (s_Mo_term_B45 hD N hrc_X12_atom hrc_X12_term hrc_X12_sum hk5 x1 (if t32 = 42 then (1 : Int32) else 0) μ3z h)
  refine sm_icmp_ne (tgt := 44) dX12_term_37 (by decide) (fun c37_0 => ?_) (fun c37_0 => ?_)
  · refine sm_iconst dX12_term_44 ic_0 ?_
    exact Sm_weak (le_s rfl (le_s rfl (le_n (le_n (le_n le_0))))) (hj37 _ (if_neg c37_0).symm)
  · refine sm_iconst dX12_term_40 ic_1 ?_
    refine sm_goto (tgt := 45) dX12_term_41 (by decide) ?_
    exact Sm_weak (le_s rfl (le_s rfl (le_n (le_n (le_n le_0))))) (hj37 _ (if_pos c37_0).symm)
set_option maxRecDepth 100000 in
set_option maxHeartbeats 4000000 in
theorem s_Mo_term_L5 {D : Nat} (hD : 5 ≤ D) (N : Nat) {rc_X12_atom : MM → Option (Int32 × MM)} (hrc_X12_atom : ∀ (μ : MM) (r : Int32) (μr : MM), rc_X12_atom μ = some (r, μr) → Cl (D - 1) mX12_atom [av_r 355] μ (po_i r μr)) {rc_X12_term : MM → Option (Int32 × MM)} (hrc_X12_term : ∀ (μ : MM) (r : Int32) (μr : MM), rc_X12_term μ = some (r, μr) → Cl (D - 1) mX12_term [av_r 355] μ (po_i r μr)) {rc_X12_sum : MM → Option (Int32 × MM)} (hrc_X12_sum : ∀ (μ : MM) (r : Int32) (μr : MM), rc_X12_sum μ = some (r, μr) → Cl (D - 1) mX12_sum [av_r 355] μ (po_i r μr)) {r : Int32} {μr : MM} : ∀ (n : Nat) (x1 : Int32) (μ : MM), f_Mo_term_L5 N rc_X12_atom rc_X12_term rc_X12_sum n x1 μ = some (r, μr) → Sm D mX12_term 5 [some (av_r 355), some (av_i x1), none, none, none] [] μ (po_i r μr) := by
  obtain ⟨d, rfl⟩ : ∃ d, D = d + 1 := ⟨D - 1, by omega⟩
  intro n
  induction n with
  | zero => intro x1 μ h; cases (show none = some (r, μr) from h)
  | succ n ih =>
    intro x1 μ h
    rw [f_Mo_term_L5] at h
    refine sm_aload_n dX12_term_5 rfl rfl ?_
    refine sm_getI dX12_term_6 fg_RX12_123 k_355 ?_
    refine sm_iconst dX12_term_9 ic_m1 ?_
    refine sm_icmp_ne (tgt := 94) dX12_term_10 (by decide) (fun g2 => ?_) (fun g2 => ?_)
    · replace h := it_f g2 h
      refine sm_iload_n dX12_term_94 rfl rfl ?_
      cases h
      exact sm_ret_i (st := []) dX12_term_95 rfl ⟨rfl, rfl⟩
    · replace h := it_t g2 h
      refine sm_aload_n dX12_term_13 rfl rfl ?_
      obtain ⟨t14, μ2z, g3, h⟩ := ob_some h
      refine sm_callV dX12_term_14 cv_X12_look ml_RX12_133 k_355 rfl rfl (by decide) (as := []) rfl (Nat.le_of_ble_eq_true rfl) rfl (s_Mo_look (D := d) (by omega) N g3) (fun r9 μ9 hp => ?_)
      rw [hp.1, hp.2]
      clear hp r9 μ9
      refine sm_bipush dX12_term_17 bp_42 ?_
      refine sm_icmp_eq (tgt := 31) dX12_term_19 (by decide) (fun g4 => ?_) (fun g4 => ?_)
      · replace h := it_t g4 h
        exact Sm_weak (le_s rfl (le_s rfl (le_n (le_n (le_n le_0))))) (s_Mo_term_B31 hD N hrc_X12_atom hrc_X12_term hrc_X12_sum ih x1 μ2z h)
      · replace h := it_f g4 h
        refine sm_aload_n dX12_term_22 rfl rfl ?_
        obtain ⟨t23, μ7z, g11, h⟩ := ob_some h
        refine sm_callV dX12_term_23 cv_X12_look ml_RX12_133 k_355 rfl rfl (by decide) (as := []) rfl (Nat.le_of_ble_eq_true rfl) rfl (s_Mo_look (D := d) (by omega) N g11) (fun r9 μ9 hp => ?_)
        rw [hp.1, hp.2]
        clear hp r9 μ9
        refine sm_bipush dX12_term_26 bp_47 ?_
        refine sm_icmp_ne (tgt := 94) dX12_term_28 (by decide) (fun g12 => ?_) (fun g12 => ?_)
        · replace h := it_f g12 h
          refine sm_iload_n dX12_term_94 rfl rfl ?_
          cases h
          exact sm_ret_i (st := []) dX12_term_95 rfl ⟨rfl, rfl⟩
        · replace h := it_t g12 h
          exact Sm_weak (le_s rfl (le_s rfl (le_n (le_n (le_n le_0))))) (s_Mo_term_B31 hD N hrc_X12_atom hrc_X12_term hrc_X12_sum ih x1 μ7z h)
set_option maxRecDepth 100000 in
set_option maxHeartbeats 4000000 in
theorem s_Mo_term_body {D : Nat} (hD : 5 ≤ D) (N : Nat) {rc_X12_atom : MM → Option (Int32 × MM)} (hrc_X12_atom : ∀ (μ : MM) (r : Int32) (μr : MM), rc_X12_atom μ = some (r, μr) → Cl (D - 1) mX12_atom [av_r 355] μ (po_i r μr)) {rc_X12_term : MM → Option (Int32 × MM)} (hrc_X12_term : ∀ (μ : MM) (r : Int32) (μr : MM), rc_X12_term μ = some (r, μr) → Cl (D - 1) mX12_term [av_r 355] μ (po_i r μr)) {rc_X12_sum : MM → Option (Int32 × MM)} (hrc_X12_sum : ∀ (μ : MM) (r : Int32) (μr : MM), rc_X12_sum μ = some (r, μr) → Cl (D - 1) mX12_sum [av_r 355] μ (po_i r μr)) {μ : MM} {r : Int32} {μr : MM} (h : f_Mo_term_body N rc_X12_atom rc_X12_term rc_X12_sum μ = some (r, μr)) : Cl D mX12_term [av_r 355] μ (po_i r μr) := by
  obtain ⟨d, rfl⟩ : ∃ d, D = d + 1 := ⟨D - 1, by omega⟩
  refine Cl_of pn_X12 (Nat.le_of_ble_eq_true rfl) ?_
  show Sm (d + 1) mX12_term 0 [some (av_r 355), none, none, none, none] [] μ (po_i r μr)
  unfold f_Mo_term_body at h
  refine sm_aload_n dX12_term_0 rfl rfl ?_
  obtain ⟨t1, μ1z, g1, h⟩ := ob_some h
  refine sm_callV dX12_term_1 cv_X12_atom ml_RX12_166 k_355 rfl rfl (by decide) (as := []) rfl (Nat.le_of_ble_eq_true rfl) rfl (hrc_X12_atom _ _ _ g1) (fun r9 μ9 hp => ?_)
  rw [hp.1, hp.2]
  clear hp r9 μ9
  refine sm_istore_n dX12_term_4 rfl (Nat.le_of_ble_eq_true rfl) (pv_r rfl) ?_
  exact Sm_weak (le_s rfl (le_s rfl (le_n (le_n (le_n le_0))))) (s_Mo_term_L5 hD N hrc_X12_atom hrc_X12_term hrc_X12_sum N t1 μ1z h)
set_option maxRecDepth 100000 in
set_option maxHeartbeats 4000000 in
theorem s_Mo_sum_B77 {D : Nat} (hD : 5 ≤ D) (N : Nat) {rc_X12_atom : MM → Option (Int32 × MM)} (hrc_X12_atom : ∀ (μ : MM) (r : Int32) (μr : MM), rc_X12_atom μ = some (r, μr) → Cl (D - 1) mX12_atom [av_r 355] μ (po_i r μr)) {rc_X12_term : MM → Option (Int32 × MM)} (hrc_X12_term : ∀ (μ : MM) (r : Int32) (μr : MM), rc_X12_term μ = some (r, μr) → Cl (D - 1) mX12_term [av_r 355] μ (po_i r μr)) {rc_X12_sum : MM → Option (Int32 × MM)} (hrc_X12_sum : ∀ (μ : MM) (r : Int32) (μr : MM), rc_X12_sum μ = some (r, μr) → Cl (D - 1) mX12_sum [av_r 355] μ (po_i r μr)) {r : Int32} {μr : MM} {k5 : Int32 → MM → Option (Int32 × MM)} (hk5 : ∀ (x1 : Int32) (μ : MM), k5 x1 μ = some (r, μr) → Sm D mX12_sum 5 [some (av_r 355), some (av_i x1), none, none, none] [] μ (po_i r μr)) (s0 : Int64) (μ : MM) (h : f_Mo_sum_B77 N rc_X12_atom rc_X12_term rc_X12_sum k5 s0 μ = some (r, μr)) : Sm D mX12_sum 77 [some (av_r 355), none, none, none, none] [av_l s0] μ (po_i r μr) := by
  obtain ⟨d, rfl⟩ : ∃ d, D = d + 1 := ⟨D - 1, by omega⟩
  unfold f_Mo_sum_B77 at h
  obtain ⟨t77, μ6z, g7, h⟩ := ob_some h
  refine sm_callS dX12_sum_77 cs_X12_within ml_RX12_169 (as := [av_l s0]) rfl (Nat.le_of_ble_eq_true rfl) rfl (s_Mo_within (D := d) (by omega) N g7) (fun r9 μ9 hp => ?_)
  rw [hp.1, hp.2]
  clear hp r9 μ9
  refine sm_istore_n dX12_sum_80 rfl (Nat.le_of_ble_eq_true rfl) (pv_r rfl) ?_
  refine sm_goto (tgt := 5) dX12_sum_81 (by decide) ?_
  exact Sm_weak (le_s rfl (le_s rfl (le_n (le_n (le_n le_0))))) (hk5 t77 μ6z h)
set_option maxRecDepth 100000 in
set_option maxHeartbeats 4000000 in
theorem s_Mo_sum_B45 {D : Nat} (hD : 5 ≤ D) (N : Nat) {rc_X12_atom : MM → Option (Int32 × MM)} (hrc_X12_atom : ∀ (μ : MM) (r : Int32) (μr : MM), rc_X12_atom μ = some (r, μr) → Cl (D - 1) mX12_atom [av_r 355] μ (po_i r μr)) {rc_X12_term : MM → Option (Int32 × MM)} (hrc_X12_term : ∀ (μ : MM) (r : Int32) (μr : MM), rc_X12_term μ = some (r, μr) → Cl (D - 1) mX12_term [av_r 355] μ (po_i r μr)) {rc_X12_sum : MM → Option (Int32 × MM)} (hrc_X12_sum : ∀ (μ : MM) (r : Int32) (μr : MM), rc_X12_sum μ = some (r, μr) → Cl (D - 1) mX12_sum [av_r 355] μ (po_i r μr)) {r : Int32} {μr : MM} {k5 : Int32 → MM → Option (Int32 × MM)} (hk5 : ∀ (x1 : Int32) (μ : MM), k5 x1 μ = some (r, μr) → Sm D mX12_sum 5 [some (av_r 355), some (av_i x1), none, none, none] [] μ (po_i r μr)) (x1 : Int32) (s0 : Int32) (μ : MM) (h : f_Mo_sum_B45 N rc_X12_atom rc_X12_term rc_X12_sum k5 x1 s0 μ = some (r, μr)) : Sm D mX12_sum 45 [some (av_r 355), some (av_i x1), none, none, none] [av_i s0] μ (po_i r μr) := by
  obtain ⟨d, rfl⟩ : ∃ d, D = d + 1 := ⟨D - 1, by omega⟩
  unfold f_Mo_sum_B45 at h
  refine sm_istore_n dX12_sum_45 rfl (Nat.le_of_ble_eq_true rfl) (pv_i rfl) ?_
  refine sm_aload_n dX12_sum_46 rfl rfl ?_
  refine sm_dup dX12_sum_47 rfl ?_
  refine sm_getI dX12_sum_48 fg_RX12_114 k_355 ?_
  refine sm_iconst dX12_sum_51 ic_1 ?_
  refine sm_iadd dX12_sum_52 ?_
  refine sm_putI dX12_sum_53 fp_RX12_114 k_355 ?_
  replace h := wr_some h
  refine sm_aload_n dX12_sum_56 rfl rfl ?_
  obtain ⟨t57, μ5z, g6, h⟩ := ob_some h
  refine sm_callV dX12_sum_57 cv_X12_term ml_RX12_173 k_355 rfl rfl (by decide) (as := []) rfl (Nat.le_of_ble_eq_true rfl) rfl (hrc_X12_term _ _ _ g6) (fun r9 μ9 hp => ?_)
  rw [hp.1, hp.2]
  clear hp r9 μ9
  refine sm_i2l dX12_sum_60 ?_
  refine sm_lstore_n dX12_sum_61 rfl (Nat.le_of_ble_eq_true rfl) (pv_i rfl) ?_
  refine sm_iload_n dX12_sum_62 rfl rfl ?_
  have hj63 : ∀ (v63_0 : Int64), v63_0 = (if s0 = 0 then ((Int32.toInt64 x1) - (Int32.toInt64 t57)) else ((Int32.toInt64 x1) + (Int32.toInt64 t57))) → Sm (d + 1) mX12_sum 77 [some (av_r 355), none, none, none, none] [av_l v63_0] μ5z (po_i r μr) := by
    intro v63_0 ev63_0
    subst ev63_0
    exact Sm_weak (le_s rfl (le_n (le_n (le_n (le_n le_0))))) (s_Mo_sum_B77 hD N hrc_X12_atom hrc_X12_term hrc_X12_sum hk5 (if s0 = 0 then ((Int32.toInt64 x1) - (Int32.toInt64 t57)) else ((Int32.toInt64 x1) + (Int32.toInt64 t57))) μ5z h)
  refine sm_if_eq (tgt := 73) dX12_sum_63 (by decide) (fun c63_0 => ?_) (fun c63_0 => ?_)
  · refine sm_iload_n dX12_sum_73 rfl rfl ?_
    refine sm_i2l dX12_sum_74 ?_
    refine sm_lload_n dX12_sum_75 rfl rfl ?_
    refine sm_lsub dX12_sum_76 ?_
    exact Sm_weak (le_s rfl (le_n (le_n (le_n (le_n le_0))))) (hj63 _ (if_pos c63_0).symm)
  · refine sm_iload_n dX12_sum_66 rfl rfl ?_
    refine sm_i2l dX12_sum_67 ?_
    refine sm_lload_n dX12_sum_68 rfl rfl ?_
    refine sm_ladd dX12_sum_69 ?_
    refine sm_goto (tgt := 77) dX12_sum_70 (by decide) ?_
    exact Sm_weak (le_s rfl (le_n (le_n (le_n (le_n le_0))))) (hj63 _ (if_neg c63_0).symm)
set_option maxRecDepth 100000 in
set_option maxHeartbeats 4000000 in
theorem s_Mo_sum_B31 {D : Nat} (hD : 5 ≤ D) (N : Nat) {rc_X12_atom : MM → Option (Int32 × MM)} (hrc_X12_atom : ∀ (μ : MM) (r : Int32) (μr : MM), rc_X12_atom μ = some (r, μr) → Cl (D - 1) mX12_atom [av_r 355] μ (po_i r μr)) {rc_X12_term : MM → Option (Int32 × MM)} (hrc_X12_term : ∀ (μ : MM) (r : Int32) (μr : MM), rc_X12_term μ = some (r, μr) → Cl (D - 1) mX12_term [av_r 355] μ (po_i r μr)) {rc_X12_sum : MM → Option (Int32 × MM)} (hrc_X12_sum : ∀ (μ : MM) (r : Int32) (μr : MM), rc_X12_sum μ = some (r, μr) → Cl (D - 1) mX12_sum [av_r 355] μ (po_i r μr)) {r : Int32} {μr : MM} {k5 : Int32 → MM → Option (Int32 × MM)} (hk5 : ∀ (x1 : Int32) (μ : MM), k5 x1 μ = some (r, μr) → Sm D mX12_sum 5 [some (av_r 355), some (av_i x1), none, none, none] [] μ (po_i r μr)) (x1 : Int32) (μ : MM) (h : f_Mo_sum_B31 N rc_X12_atom rc_X12_term rc_X12_sum k5 x1 μ = some (r, μr)) : Sm D mX12_sum 31 [some (av_r 355), some (av_i x1), none, none, none] [] μ (po_i r μr) := by
  obtain ⟨d, rfl⟩ : ∃ d, D = d + 1 := ⟨D - 1, by omega⟩
  unfold f_Mo_sum_B31 at h
  refine sm_aload_n dX12_sum_31 rfl rfl ?_
  obtain ⟨t32, μ3z, g5, h⟩ := ob_some h
  refine sm_callV dX12_sum_32 cv_X12_look ml_RX12_133 k_355 rfl rfl (by decide) (as := []) rfl (Nat.le_of_ble_eq_true rfl) rfl (s_Mo_look (D := d) (by omega) N g5) (fun r9 μ9 hp => ?_)
  rw [hp.1, hp.2]
  clear hp r9 μ9
  refine sm_bipush dX12_sum_35 bp_43 ?_
  have hj37 : ∀ (v37_0 : Int32), v37_0 = (if t32 = 43 then (1 : Int32) else 0) → Sm (d + 1) mX12_sum 45 [some (av_r 355), some (av_i x1), none, none, none] [av_i v37_0] μ3z (po_i r μr) := by
    intro v37_0 ev37_0
    subst ev37_0
    exact Sm_weak (le_s rfl (le_s rfl (le_n (le_n (le_n le_0))))) (s_Mo_sum_B45 hD N hrc_X12_atom hrc_X12_term hrc_X12_sum hk5 x1 (if t32 = 43 then (1 : Int32) else 0) μ3z h)
  refine sm_icmp_ne (tgt := 44) dX12_sum_37 (by decide) (fun c37_0 => ?_) (fun c37_0 => ?_)
  · refine sm_iconst dX12_sum_44 ic_0 ?_
    exact Sm_weak (le_s rfl (le_s rfl (le_n (le_n (le_n le_0))))) (hj37 _ (if_neg c37_0).symm)
  · refine sm_iconst dX12_sum_40 ic_1 ?_
    refine sm_goto (tgt := 45) dX12_sum_41 (by decide) ?_
    exact Sm_weak (le_s rfl (le_s rfl (le_n (le_n (le_n le_0))))) (hj37 _ (if_pos c37_0).symm)
set_option maxRecDepth 100000 in
set_option maxHeartbeats 4000000 in
theorem s_Mo_sum_L5 {D : Nat} (hD : 5 ≤ D) (N : Nat) {rc_X12_atom : MM → Option (Int32 × MM)} (hrc_X12_atom : ∀ (μ : MM) (r : Int32) (μr : MM), rc_X12_atom μ = some (r, μr) → Cl (D - 1) mX12_atom [av_r 355] μ (po_i r μr)) {rc_X12_term : MM → Option (Int32 × MM)} (hrc_X12_term : ∀ (μ : MM) (r : Int32) (μr : MM), rc_X12_term μ = some (r, μr) → Cl (D - 1) mX12_term [av_r 355] μ (po_i r μr)) {rc_X12_sum : MM → Option (Int32 × MM)} (hrc_X12_sum : ∀ (μ : MM) (r : Int32) (μr : MM), rc_X12_sum μ = some (r, μr) → Cl (D - 1) mX12_sum [av_r 355] μ (po_i r μr)) {r : Int32} {μr : MM} : ∀ (n : Nat) (x1 : Int32) (μ : MM), f_Mo_sum_L5 N rc_X12_atom rc_X12_term rc_X12_sum n x1 μ = some (r, μr) → Sm D mX12_sum 5 [some (av_r 355), some (av_i x1), none, none, none] [] μ (po_i r μr) := by
  obtain ⟨d, rfl⟩ : ∃ d, D = d + 1 := ⟨D - 1, by omega⟩
  intro n
  induction n with
  | zero => intro x1 μ h; cases (show none = some (r, μr) from h)
  | succ n ih =>
    intro x1 μ h
    rw [f_Mo_sum_L5] at h
    refine sm_aload_n dX12_sum_5 rfl rfl ?_
    refine sm_getI dX12_sum_6 fg_RX12_123 k_355 ?_
    refine sm_iconst dX12_sum_9 ic_m1 ?_
    refine sm_icmp_ne (tgt := 84) dX12_sum_10 (by decide) (fun g2 => ?_) (fun g2 => ?_)
    · replace h := it_f g2 h
      refine sm_iload_n dX12_sum_84 rfl rfl ?_
      cases h
      exact sm_ret_i (st := []) dX12_sum_85 rfl ⟨rfl, rfl⟩
    · replace h := it_t g2 h
      refine sm_aload_n dX12_sum_13 rfl rfl ?_
      obtain ⟨t14, μ2z, g3, h⟩ := ob_some h
      refine sm_callV dX12_sum_14 cv_X12_look ml_RX12_133 k_355 rfl rfl (by decide) (as := []) rfl (Nat.le_of_ble_eq_true rfl) rfl (s_Mo_look (D := d) (by omega) N g3) (fun r9 μ9 hp => ?_)
      rw [hp.1, hp.2]
      clear hp r9 μ9
      refine sm_bipush dX12_sum_17 bp_43 ?_
      refine sm_icmp_eq (tgt := 31) dX12_sum_19 (by decide) (fun g4 => ?_) (fun g4 => ?_)
      · replace h := it_t g4 h
        exact Sm_weak (le_s rfl (le_s rfl (le_n (le_n (le_n le_0))))) (s_Mo_sum_B31 hD N hrc_X12_atom hrc_X12_term hrc_X12_sum ih x1 μ2z h)
      · replace h := it_f g4 h
        refine sm_aload_n dX12_sum_22 rfl rfl ?_
        obtain ⟨t23, μ7z, g8, h⟩ := ob_some h
        refine sm_callV dX12_sum_23 cv_X12_look ml_RX12_133 k_355 rfl rfl (by decide) (as := []) rfl (Nat.le_of_ble_eq_true rfl) rfl (s_Mo_look (D := d) (by omega) N g8) (fun r9 μ9 hp => ?_)
        rw [hp.1, hp.2]
        clear hp r9 μ9
        refine sm_bipush dX12_sum_26 bp_45 ?_
        refine sm_icmp_ne (tgt := 84) dX12_sum_28 (by decide) (fun g9 => ?_) (fun g9 => ?_)
        · replace h := it_f g9 h
          refine sm_iload_n dX12_sum_84 rfl rfl ?_
          cases h
          exact sm_ret_i (st := []) dX12_sum_85 rfl ⟨rfl, rfl⟩
        · replace h := it_t g9 h
          exact Sm_weak (le_s rfl (le_s rfl (le_n (le_n (le_n le_0))))) (s_Mo_sum_B31 hD N hrc_X12_atom hrc_X12_term hrc_X12_sum ih x1 μ7z h)
set_option maxRecDepth 100000 in
set_option maxHeartbeats 4000000 in
theorem s_Mo_sum_body {D : Nat} (hD : 5 ≤ D) (N : Nat) {rc_X12_atom : MM → Option (Int32 × MM)} (hrc_X12_atom : ∀ (μ : MM) (r : Int32) (μr : MM), rc_X12_atom μ = some (r, μr) → Cl (D - 1) mX12_atom [av_r 355] μ (po_i r μr)) {rc_X12_term : MM → Option (Int32 × MM)} (hrc_X12_term : ∀ (μ : MM) (r : Int32) (μr : MM), rc_X12_term μ = some (r, μr) → Cl (D - 1) mX12_term [av_r 355] μ (po_i r μr)) {rc_X12_sum : MM → Option (Int32 × MM)} (hrc_X12_sum : ∀ (μ : MM) (r : Int32) (μr : MM), rc_X12_sum μ = some (r, μr) → Cl (D - 1) mX12_sum [av_r 355] μ (po_i r μr)) {μ : MM} {r : Int32} {μr : MM} (h : f_Mo_sum_body N rc_X12_atom rc_X12_term rc_X12_sum μ = some (r, μr)) : Cl D mX12_sum [av_r 355] μ (po_i r μr) := by
  obtain ⟨d, rfl⟩ : ∃ d, D = d + 1 := ⟨D - 1, by omega⟩
  refine Cl_of pn_X12 (Nat.le_of_ble_eq_true rfl) ?_
  show Sm (d + 1) mX12_sum 0 [some (av_r 355), none, none, none, none] [] μ (po_i r μr)
  unfold f_Mo_sum_body at h
  refine sm_aload_n dX12_sum_0 rfl rfl ?_
  obtain ⟨t1, μ1z, g1, h⟩ := ob_some h
  refine sm_callV dX12_sum_1 cv_X12_term ml_RX12_173 k_355 rfl rfl (by decide) (as := []) rfl (Nat.le_of_ble_eq_true rfl) rfl (hrc_X12_term _ _ _ g1) (fun r9 μ9 hp => ?_)
  rw [hp.1, hp.2]
  clear hp r9 μ9
  refine sm_istore_n dX12_sum_4 rfl (Nat.le_of_ble_eq_true rfl) (pv_r rfl) ?_
  exact Sm_weak (le_s rfl (le_s rfl (le_n (le_n (le_n le_0))))) (s_Mo_sum_L5 hD N hrc_X12_atom hrc_X12_term hrc_X12_sum N t1 μ1z h)
set_option maxRecDepth 100000 in
set_option maxHeartbeats 4000000 in
theorem s_cl_Mo_atom (N : Nat) : ∀ (t : Nat) {D : Nat} (hD : 5 + t ≤ D) (g : Nat) (u : Unit) (μ : MM) (r : Int32) (μr : MM) (h : f_cl_Mo_atom N t g u μ = some (r, μr)), (g = 0 → Cl D mX12_atom [av_r 355] μ (po_i r μr)) ∧ (g = 1 → Cl D mX12_term [av_r 355] μ (po_i r μr)) ∧ (g = 2 → Cl D mX12_sum [av_r 355] μ (po_i r μr)) := by
  intro t
  induction t with
  | zero => intro D hD g u μ r μr h; cases (show none = some (r, μr) from h)
  | succ t ih =>
    intro D hD g u μ r μr h
    rw [f_cl_Mo_atom] at h
    refine ⟨?_, ?_, ?_⟩
    · intro e; subst e; rw [if_pos rfl] at h; exact s_Mo_atom_body (by omega) N (fun  μ r μr hh => (ih (D := D - 1) (by omega) 0 () μ r μr hh).1 rfl) (fun  μ r μr hh => (ih (D := D - 1) (by omega) 1 () μ r μr hh).2.1 rfl) (fun  μ r μr hh => (ih (D := D - 1) (by omega) 2 () μ r μr hh).2.2 rfl) h
    · intro e; subst e; rw [if_neg (by omega)] at h; rw [if_pos rfl] at h; exact s_Mo_term_body (by omega) N (fun  μ r μr hh => (ih (D := D - 1) (by omega) 0 () μ r μr hh).1 rfl) (fun  μ r μr hh => (ih (D := D - 1) (by omega) 1 () μ r μr hh).2.1 rfl) (fun  μ r μr hh => (ih (D := D - 1) (by omega) 2 () μ r μr hh).2.2 rfl) h
    · intro e; subst e; rw [if_neg (by omega)] at h; rw [if_neg (by omega)] at h; exact s_Mo_sum_body (by omega) N (fun  μ r μr hh => (ih (D := D - 1) (by omega) 0 () μ r μr hh).1 rfl) (fun  μ r μr hh => (ih (D := D - 1) (by omega) 1 () μ r μr hh).2.1 rfl) (fun  μ r μr hh => (ih (D := D - 1) (by omega) 2 () μ r μr hh).2.2 rfl) h
set_option maxRecDepth 100000 in
set_option maxHeartbeats 4000000 in
theorem s_Mo_atom {D : Nat} (hD : 45 ≤ D) (N : Nat) {μ : MM} {r : Int32} {μr : MM} (h : f_Mo_atom N μ = some (r, μr)) : Cl D mX12_atom [av_r 355] μ (po_i r μr) := (s_cl_Mo_atom N 40 (by omega) 0 () μ r μr h).1 rfl
set_option maxRecDepth 100000 in
set_option maxHeartbeats 4000000 in
theorem s_Mo_term {D : Nat} (hD : 45 ≤ D) (N : Nat) {μ : MM} {r : Int32} {μr : MM} (h : f_Mo_term N μ = some (r, μr)) : Cl D mX12_term [av_r 355] μ (po_i r μr) := (s_cl_Mo_atom N 40 (by omega) 1 () μ r μr h).2.1 rfl
set_option maxRecDepth 100000 in
set_option maxHeartbeats 4000000 in
theorem s_Mo_sum {D : Nat} (hD : 45 ≤ D) (N : Nat) {μ : MM} {r : Int32} {μr : MM} (h : f_Mo_sum N μ = some (r, μr)) : Cl D mX12_sum [av_r 355] μ (po_i r μr) := (s_cl_Mo_atom N 40 (by omega) 2 () μ r μr h).2.2 rfl
set_option maxRecDepth 100000 in
set_option maxHeartbeats 4000000 in
theorem s_Mo_isSign {D : Nat} (hD : 0 ≤ D) (N : Nat) {x0 : Int32} {μ : MM} {r : Int32} {μr : MM} (h : f_Mo_isSign N x0 μ = some (r, μr)) : Cl D mX12_isSign [av_i x0] μ (po_i r μr) := by
  refine Cl_of pn_X12 (Nat.le_of_ble_eq_true rfl) ?_
  show Sm D mX12_isSign 0 [some (av_i x0)] [] μ (po_i r μr)
  unfold f_Mo_isSign at h
  refine sm_iload_n dX12_isSign_0 rfl rfl ?_
  refine sm_bipush dX12_isSign_1 bp_61 ?_
  refine sm_icmp_eq (tgt := 18) dX12_isSign_3 (by decide) (fun g1 => ?_) (fun g1 => ?_)
  · replace h := it_t g1 h
    refine sm_iconst dX12_isSign_18 ic_1 ?_
    refine sm_goto (tgt := 23) dX12_isSign_19 (by decide) ?_
    cases h
    exact sm_ret_z (st := []) dX12_isSign_23 rfl rfl ⟨rfl, rfl⟩
  · replace h := it_f g1 h
    refine sm_iload_n dX12_isSign_6 rfl rfl ?_
    refine sm_bipush dX12_isSign_7 bp_60 ?_
    refine sm_icmp_eq (tgt := 18) dX12_isSign_9 (by decide) (fun g2 => ?_) (fun g2 => ?_)
    · replace h := it_t g2 h
      refine sm_iconst dX12_isSign_18 ic_1 ?_
      refine sm_goto (tgt := 23) dX12_isSign_19 (by decide) ?_
      cases h
      exact sm_ret_z (st := []) dX12_isSign_23 rfl rfl ⟨rfl, rfl⟩
    · replace h := it_f g2 h
      refine sm_iload_n dX12_isSign_12 rfl rfl ?_
      refine sm_bipush dX12_isSign_13 bp_62 ?_
      refine sm_icmp_ne (tgt := 22) dX12_isSign_15 (by decide) (fun g3 => ?_) (fun g3 => ?_)
      · replace h := it_f g3 h
        refine sm_iconst dX12_isSign_22 ic_0 ?_
        cases h
        exact sm_ret_z (st := []) dX12_isSign_23 rfl rfl ⟨rfl, rfl⟩
      · replace h := it_t g3 h
        refine sm_iconst dX12_isSign_18 ic_1 ?_
        refine sm_goto (tgt := 23) dX12_isSign_19 (by decide) ?_
        cases h
        exact sm_ret_z (st := []) dX12_isSign_23 rfl rfl ⟨rfl, rfl⟩
set_option maxRecDepth 100000 in
set_option maxHeartbeats 4000000 in
theorem s_Mo_compares_B12 {D : Nat} (hD : 46 ≤ D) (N : Nat) {r : Int32} {μr : MM} (s0 : Int32) (μ : MM) (h : f_Mo_compares_B12 N s0 μ = some (r, μr)) : Sm D mX12_compares 12 [some (av_r 355), none, none, none, none, none] [av_i s0] μ (po_i r μr) := by
  obtain ⟨d, rfl⟩ : ∃ d, D = d + 1 := ⟨D - 1, by omega⟩
  unfold f_Mo_compares_B12 at h
  refine sm_istore_n dX12_compares_12 rfl (Nat.le_of_ble_eq_true rfl) (pv_n rfl) ?_
  refine sm_aload_n dX12_compares_13 rfl rfl ?_
  refine sm_getI dX12_compares_14 fg_RX12_123 k_355 ?_
  refine sm_iconst dX12_compares_17 ic_m1 ?_
  refine sm_icmp_eq (tgt := 23) dX12_compares_18 (by decide) (fun g3 => ?_) (fun g3 => ?_)
  · replace h := it_t g3 h
    refine sm_aload_n dX12_compares_23 rfl rfl ?_
    obtain ⟨t24, μ2z, g4, h⟩ := ob_some h
    refine sm_callV dX12_compares_24 cv_X12_look ml_RX12_133 k_355 rfl rfl (by decide) (as := []) rfl (Nat.le_of_ble_eq_true rfl) rfl (s_Mo_look (D := d) (by omega) N g4) (fun r9 μ9 hp => ?_)
    rw [hp.1, hp.2]
    clear hp r9 μ9
    refine sm_istore dX12_compares_27 (Nat.le_of_ble_eq_true rfl) (pv_i rfl) ?_
    refine sm_iload dX12_compares_29 rfl ?_
    obtain ⟨t31, μ3z, g5, h⟩ := ob_some h
    refine sm_callS dX12_compares_31 cs_X12_isSign ml_RX12_176 (as := [av_i t24]) rfl (Nat.le_of_ble_eq_true rfl) rfl (s_Mo_isSign (D := d) (by omega) N g5) (fun r9 μ9 hp => ?_)
    rw [hp.1, hp.2]
    clear hp r9 μ9
    refine sm_if_ne (tgt := 42) dX12_compares_34 (by decide) (fun g6 => ?_) (fun g6 => ?_)
    · replace h := it_f g6 h
      refine sm_aload_n dX12_compares_42 rfl rfl ?_
      refine sm_dup dX12_compares_43 rfl ?_
      refine sm_getI dX12_compares_44 fg_RX12_114 k_355 ?_
      refine sm_iconst dX12_compares_47 ic_1 ?_
      refine sm_iadd dX12_compares_48 ?_
      refine sm_putI dX12_compares_49 fp_RX12_114 k_355 ?_
      replace h := wr_some h
      refine sm_aload_n dX12_compares_52 rfl rfl ?_
      obtain ⟨t53, μ5z, g7, h⟩ := ob_some h
      refine sm_callV dX12_compares_53 cv_X12_sum ml_RX12_156 k_355 rfl rfl (by decide) (as := []) rfl (Nat.le_of_ble_eq_true rfl) rfl (s_Mo_sum (D := d) (by omega) N g7) (fun r9 μ9 hp => ?_)
      rw [hp.1, hp.2]
      clear hp r9 μ9
      refine sm_istore dX12_compares_56 (Nat.le_of_ble_eq_true rfl) (pv_i rfl) ?_
      refine sm_iload dX12_compares_58 rfl ?_
      refine sm_bipush dX12_compares_60 bp_61 ?_
      have hj62 : ∀ (v62_0 : Int32), v62_0 = (if t24 = 61 then (if s0 = t53 then (1 : Int32) else 0) else (if t24 = 60 then (if t53 ≤ s0 then (0 : Int32) else 1) else (if s0 ≤ t53 then (0 : Int32) else 1))) → Sm (d + 1) mX12_compares 111 [none, none, none, none, none, none] [av_i v62_0] μ5z (po_i r μr) := by
        intro v62_0 ev62_0
        subst ev62_0
        obtain ⟨g8, h⟩ := gd_some h
        cases h
        exact sm_ret_z (st := []) dX12_compares_111 rfl (zb_nar g8) ⟨rfl, rfl⟩
      refine sm_icmp_ne (tgt := 79) dX12_compares_62 (by decide) (fun c62_0 => ?_) (fun c62_0 => ?_)
      · refine sm_iload dX12_compares_79 rfl ?_
        refine sm_bipush dX12_compares_81 bp_60 ?_
        refine sm_icmp_ne (tgt := 100) dX12_compares_83 (by decide) (fun c83_1 => ?_) (fun c83_1 => ?_)
        · refine sm_iload_n dX12_compares_100 rfl rfl ?_
          refine sm_iload dX12_compares_101 rfl ?_
          refine sm_icmp_le (tgt := 110) dX12_compares_103 (by decide) (fun c103_2 => ?_) (fun c103_2 => ?_)
          · refine sm_iconst dX12_compares_110 ic_0 ?_
            exact Sm_weak (le_n (le_n (le_n (le_n (le_n (le_n le_0)))))) (hj62 _ ((if_neg c62_0).trans ((if_neg c83_1).trans (if_pos c103_2))).symm)
          · refine sm_iconst dX12_compares_106 ic_1 ?_
            refine sm_goto (tgt := 111) dX12_compares_107 (by decide) ?_
            exact Sm_weak (le_n (le_n (le_n (le_n (le_n (le_n le_0)))))) (hj62 _ ((if_neg c62_0).trans ((if_neg c83_1).trans (if_neg c103_2))).symm)
        · refine sm_iload_n dX12_compares_86 rfl rfl ?_
          refine sm_iload dX12_compares_87 rfl ?_
          refine sm_icmp_ge (tgt := 96) dX12_compares_89 (by decide) (fun c89_2 => ?_) (fun c89_2 => ?_)
          · refine sm_iconst dX12_compares_96 ic_0 ?_
            refine sm_goto (tgt := 111) dX12_compares_97 (by decide) ?_
            exact Sm_weak (le_n (le_n (le_n (le_n (le_n (le_n le_0)))))) (hj62 _ ((if_neg c62_0).trans ((if_pos c83_1).trans (if_pos c89_2))).symm)
          · refine sm_iconst dX12_compares_92 ic_1 ?_
            refine sm_goto (tgt := 111) dX12_compares_93 (by decide) ?_
            exact Sm_weak (le_n (le_n (le_n (le_n (le_n (le_n le_0)))))) (hj62 _ ((if_neg c62_0).trans ((if_pos c83_1).trans (if_neg c89_2))).symm)
      · refine sm_iload_n dX12_compares_65 rfl rfl ?_
        refine sm_iload dX12_compares_66 rfl ?_
        refine sm_icmp_ne (tgt := 75) dX12_compares_68 (by decide) (fun c68_1 => ?_) (fun c68_1 => ?_)
        · refine sm_iconst dX12_compares_75 ic_0 ?_
          refine sm_goto (tgt := 111) dX12_compares_76 (by decide) ?_
          exact Sm_weak (le_n (le_n (le_n (le_n (le_n (le_n le_0)))))) (hj62 _ ((if_pos c62_0).trans (if_neg c68_1)).symm)
        · refine sm_iconst dX12_compares_71 ic_1 ?_
          refine sm_goto (tgt := 111) dX12_compares_72 (by decide) ?_
          exact Sm_weak (le_n (le_n (le_n (le_n (le_n (le_n le_0)))))) (hj62 _ ((if_pos c62_0).trans (if_pos c68_1)).symm)
    · replace h := it_t g6 h
      refine sm_aload_n dX12_compares_37 rfl rfl ?_
      obtain ⟨t38, μ6z, g9, h⟩ := ob_some h
      refine sm_callV dX12_compares_38 cv_X12_fails ml_RX12_129 k_355 rfl rfl (by decide) (as := []) rfl (Nat.le_of_ble_eq_true rfl) rfl (s_Mo_fails (D := d) (by omega) N g9) (fun r9 μ9 hp => ?_)
      rw [hp.1, hp.2]
      clear hp r9 μ9
      obtain ⟨g10, h⟩ := gd_some h
      cases h
      exact sm_ret_z (st := []) dX12_compares_41 rfl (zb_nar g10) ⟨rfl, rfl⟩
  · replace h := it_f g3 h
    refine sm_iconst dX12_compares_21 ic_0 ?_
    cases h
    exact sm_ret_z (st := []) dX12_compares_22 rfl rfl ⟨rfl, rfl⟩
set_option maxRecDepth 100000 in
set_option maxHeartbeats 4000000 in
theorem s_Mo_compares {D : Nat} (hD : 46 ≤ D) (N : Nat) {x1 : Int32} {x2 : Int32} {μ : MM} {r : Int32} {μr : MM} (h : f_Mo_compares N x1 x2 μ = some (r, μr)) : Cl D mX12_compares [av_r 355, av_i x1, av_i x2] μ (po_i r μr) := by
  obtain ⟨d, rfl⟩ : ∃ d, D = d + 1 := ⟨D - 1, by omega⟩
  refine Cl_of pn_X12 (Nat.le_of_ble_eq_true rfl) ?_
  show Sm (d + 1) mX12_compares 0 [some (av_r 355), some (av_i x1), some (av_i x2), none, none, none] [] μ (po_i r μr)
  unfold f_Mo_compares at h
  refine sm_iload_n dX12_compares_0 rfl rfl ?_
  refine sm_if_eq (tgt := 8) dX12_compares_1 (by decide) (fun g1 => ?_) (fun g1 => ?_)
  · replace h := it_t g1 h
    refine sm_aload_n dX12_compares_8 rfl rfl ?_
    obtain ⟨t9, μ1z, g2, h⟩ := ob_some h
    refine sm_callV dX12_compares_9 cv_X12_sum ml_RX12_156 k_355 rfl rfl (by decide) (as := []) rfl (Nat.le_of_ble_eq_true rfl) rfl (s_Mo_sum (D := d) (by omega) N g2) (fun r9 μ9 hp => ?_)
    rw [hp.1, hp.2]
    clear hp r9 μ9
    exact Sm_weak (le_s rfl (le_n (le_n (le_n (le_n (le_n le_0)))))) (s_Mo_compares_B12 hD N t9 μ1z h)
  · replace h := it_f g1 h
    refine sm_iload_n dX12_compares_4 rfl rfl ?_
    refine sm_goto (tgt := 12) dX12_compares_5 (by decide) ?_
    exact Sm_weak (le_s rfl (le_n (le_n (le_n (le_n (le_n le_0)))))) (s_Mo_compares_B12 hD N x2 μ h)
set_option maxRecDepth 100000 in
set_option maxHeartbeats 4000000 in
theorem s_Mo_unit_body {D : Nat} (hD : 47 ≤ D) (N : Nat) {rc_X12_unit : MM → Option (Int32 × MM)} (hrc_X12_unit : ∀ (μ : MM) (r : Int32) (μr : MM), rc_X12_unit μ = some (r, μr) → Cl (D - 1) mX12_unit [av_r 355] μ (po_i r μr)) {rc_X12_part : Int32 → Int32 → MM → Option (Int32 × MM)} (hrc_X12_part : ∀ (x1 : Int32) (x2 : Int32) (μ : MM) (r : Int32) (μr : MM), rc_X12_part x1 x2 μ = some (r, μr) → Cl (D - 1) mX12_part [av_r 355, av_i x1, av_i x2] μ (po_i r μr)) {rc_X12_condition : Int32 → Int32 → MM → Option (Int32 × MM)} (hrc_X12_condition : ∀ (x1 : Int32) (x2 : Int32) (μ : MM) (r : Int32) (μr : MM), rc_X12_condition x1 x2 μ = some (r, μr) → Cl (D - 1) mX12_condition [av_r 355, av_i x1, av_i x2] μ (po_i r μr)) {μ : MM} {r : Int32} {μr : MM} (h : f_Mo_unit_body N rc_X12_unit rc_X12_part rc_X12_condition μ = some (r, μr)) : Cl D mX12_unit [av_r 355] μ (po_i r μr) := by
  obtain ⟨d, rfl⟩ : ∃ d, D = d + 1 := ⟨D - 1, by omega⟩
  refine Cl_of pn_X12 (Nat.le_of_ble_eq_true rfl) ?_
  show Sm (d + 1) mX12_unit 0 [some (av_r 355), none, none] [] μ (po_i r μr)
  unfold f_Mo_unit_body at h
  refine sm_aload_n dX12_unit_0 rfl rfl ?_
  obtain ⟨t1, μ1z, g1, h⟩ := ob_some h
  refine sm_callV dX12_unit_1 cv_X12_look ml_RX12_133 k_355 rfl rfl (by decide) (as := []) rfl (Nat.le_of_ble_eq_true rfl) rfl (s_Mo_look (D := d) (by omega) N g1) (fun r9 μ9 hp => ?_)
  rw [hp.1, hp.2]
  clear hp r9 μ9
  refine sm_istore_n dX12_unit_4 rfl (Nat.le_of_ble_eq_true rfl) (pv_r rfl) ?_
  refine sm_iload_n dX12_unit_5 rfl rfl ?_
  refine sm_bipush dX12_unit_6 bp_33 ?_
  refine sm_icmp_ne (tgt := 45) dX12_unit_8 (by decide) (fun g2 => ?_) (fun g2 => ?_)
  · replace h := it_f g2 h
    refine sm_iload_n dX12_unit_45 rfl rfl ?_
    refine sm_bipush dX12_unit_46 bp_40 ?_
    refine sm_icmp_ne (tgt := 90) dX12_unit_48 (by decide) (fun g3 => ?_) (fun g3 => ?_)
    · replace h := it_f g3 h
      refine sm_aload_n dX12_unit_90 rfl rfl ?_
      refine sm_iconst dX12_unit_91 ic_0 ?_
      refine sm_iconst dX12_unit_92 ic_0 ?_
      obtain ⟨t93, μ2z, g4, h⟩ := ob_some h
      refine sm_callV dX12_unit_93 cv_X12_compares ml_RX12_186 k_355 rfl rfl (by decide) (as := [av_i 0, av_i 0]) rfl (Nat.le_of_ble_eq_true rfl) rfl (s_Mo_compares (D := d) (by omega) N g4) (fun r9 μ9 hp => ?_)
      rw [hp.1, hp.2]
      clear hp r9 μ9
      obtain ⟨g5, h⟩ := gd_some h
      cases h
      exact sm_ret_z (st := []) dX12_unit_96 rfl (zb_nar g5) ⟨rfl, rfl⟩
    · replace h := it_t g3 h
      refine sm_aload_n dX12_unit_51 rfl rfl ?_
      obtain ⟨t52, μ3z, g6, h⟩ := ob_some h
      refine sm_callV dX12_unit_52 cv_X12_goesIn ml_RX12_153 k_355 rfl rfl (by decide) (as := []) rfl (Nat.le_of_ble_eq_true rfl) rfl (s_Mo_goesIn (D := d) (by omega) N g6) (fun r9 μ9 hp => ?_)
      rw [hp.1, hp.2]
      clear hp r9 μ9
      refine sm_if_ne (tgt := 60) dX12_unit_55 (by decide) (fun g7 => ?_) (fun g7 => ?_)
      · replace h := it_f g7 h
        refine sm_aload_n dX12_unit_60 rfl rfl ?_
        refine sm_iconst dX12_unit_61 ic_0 ?_
        refine sm_iconst dX12_unit_62 ic_0 ?_
        obtain ⟨t63, μ4z, g8, h⟩ := ob_some h
        refine sm_callV dX12_unit_63 cv_X12_condition ml_RX12_182 k_355 rfl rfl (by decide) (as := [av_i 0, av_i 0]) rfl (Nat.le_of_ble_eq_true rfl) rfl (hrc_X12_condition _ _ _ _ _ g8) (fun r9 μ9 hp => ?_)
        rw [hp.1, hp.2]
        clear hp r9 μ9
        refine sm_istore_n dX12_unit_66 rfl (Nat.le_of_ble_eq_true rfl) (pv_i rfl) ?_
        refine sm_aload_n dX12_unit_67 rfl rfl ?_
        refine sm_bipush dX12_unit_68 bp_41 ?_
        obtain ⟨t70, μ5z, g9, h⟩ := ob_some h
        refine sm_callV dX12_unit_70 cv_X12_takes ml_RX12_159 k_355 rfl rfl (by decide) (as := [av_i 41]) rfl (Nat.le_of_ble_eq_true rfl) rfl (s_Mo_takes (D := d) (by omega) N g9) (fun r9 μ9 hp => ?_)
        rw [hp.1, hp.2]
        clear hp r9 μ9
        refine sm_if_ne (tgt := 78) dX12_unit_73 (by decide) (fun g10 => ?_) (fun g10 => ?_)
        · replace h := it_f g10 h
          refine sm_aload_n dX12_unit_78 rfl rfl ?_
          refine sm_dup dX12_unit_79 rfl ?_
          refine sm_getI dX12_unit_80 fg_RX12_126 k_355 ?_
          refine sm_iconst dX12_unit_83 ic_1 ?_
          refine sm_isub dX12_unit_84 ?_
          refine sm_putI dX12_unit_85 fp_RX12_126 k_355 ?_
          replace h := wr_some h
          refine sm_iload_n dX12_unit_88 rfl rfl ?_
          obtain ⟨g11, h⟩ := gd_some h
          cases h
          exact sm_ret_z (st := []) dX12_unit_89 rfl (zb_nar g11) ⟨rfl, rfl⟩
        · replace h := it_t g10 h
          refine sm_iconst dX12_unit_76 ic_0 ?_
          cases h
          exact sm_ret_z (st := []) dX12_unit_77 rfl rfl ⟨rfl, rfl⟩
      · replace h := it_t g7 h
        refine sm_iconst dX12_unit_58 ic_0 ?_
        cases h
        exact sm_ret_z (st := []) dX12_unit_59 rfl rfl ⟨rfl, rfl⟩
  · replace h := it_t g2 h
    refine sm_aload_n dX12_unit_11 rfl rfl ?_
    obtain ⟨t12, μ7z, g12, h⟩ := ob_some h
    refine sm_callV dX12_unit_12 cv_X12_goesIn ml_RX12_153 k_355 rfl rfl (by decide) (as := []) rfl (Nat.le_of_ble_eq_true rfl) rfl (s_Mo_goesIn (D := d) (by omega) N g12) (fun r9 μ9 hp => ?_)
    rw [hp.1, hp.2]
    clear hp r9 μ9
    refine sm_if_ne (tgt := 20) dX12_unit_15 (by decide) (fun g13 => ?_) (fun g13 => ?_)
    · replace h := it_f g13 h
      refine sm_aload_n dX12_unit_20 rfl rfl ?_
      obtain ⟨t21, μ8z, g14, h⟩ := ob_some h
      refine sm_callV dX12_unit_21 cv_X12_unit ml_RX12_179 k_355 rfl rfl (by decide) (as := []) rfl (Nat.le_of_ble_eq_true rfl) rfl (hrc_X12_unit _ _ _ g14) (fun r9 μ9 hp => ?_)
      rw [hp.1, hp.2]
      clear hp r9 μ9
      refine sm_istore_n dX12_unit_24 rfl (Nat.le_of_ble_eq_true rfl) (pv_i rfl) ?_
      refine sm_aload_n dX12_unit_25 rfl rfl ?_
      refine sm_dup dX12_unit_26 rfl ?_
      refine sm_getI dX12_unit_27 fg_RX12_126 k_355 ?_
      refine sm_iconst dX12_unit_30 ic_1 ?_
      refine sm_isub dX12_unit_31 ?_
      refine sm_putI dX12_unit_32 fp_RX12_126 k_355 ?_
      replace h := wr_some h
      refine sm_iload_n dX12_unit_35 rfl rfl ?_
      have hj36 : ∀ (v36_0 : Int32), v36_0 = (if t21 = 0 then (1 : Int32) else 0) → Sm (d + 1) mX12_unit 44 [none, none, none] [av_i v36_0] (mm_I μ8z 355 12 ((μ8z.1 355 12) - 1)) (po_i r μr) := by
        intro v36_0 ev36_0
        subst ev36_0
        obtain ⟨g15, h⟩ := gd_some h
        cases h
        exact sm_ret_z (st := []) dX12_unit_44 rfl (zb_nar g15) ⟨rfl, rfl⟩
      refine sm_if_ne (tgt := 43) dX12_unit_36 (by decide) (fun c36_0 => ?_) (fun c36_0 => ?_)
      · refine sm_iconst dX12_unit_43 ic_0 ?_
        exact Sm_weak (le_n (le_n (le_n le_0))) (hj36 _ (if_neg c36_0).symm)
      · refine sm_iconst dX12_unit_39 ic_1 ?_
        refine sm_goto (tgt := 44) dX12_unit_40 (by decide) ?_
        exact Sm_weak (le_n (le_n (le_n le_0))) (hj36 _ (if_pos c36_0).symm)
    · replace h := it_t g13 h
      refine sm_iconst dX12_unit_18 ic_0 ?_
      cases h
      exact sm_ret_z (st := []) dX12_unit_19 rfl rfl ⟨rfl, rfl⟩
set_option maxRecDepth 100000 in
set_option maxHeartbeats 4000000 in
theorem s_Mo_part_L18 {D : Nat} (hD : 47 ≤ D) (N : Nat) {rc_X12_unit : MM → Option (Int32 × MM)} (hrc_X12_unit : ∀ (μ : MM) (r : Int32) (μr : MM), rc_X12_unit μ = some (r, μr) → Cl (D - 1) mX12_unit [av_r 355] μ (po_i r μr)) {rc_X12_part : Int32 → Int32 → MM → Option (Int32 × MM)} (hrc_X12_part : ∀ (x1 : Int32) (x2 : Int32) (μ : MM) (r : Int32) (μr : MM), rc_X12_part x1 x2 μ = some (r, μr) → Cl (D - 1) mX12_part [av_r 355, av_i x1, av_i x2] μ (po_i r μr)) {rc_X12_condition : Int32 → Int32 → MM → Option (Int32 × MM)} (hrc_X12_condition : ∀ (x1 : Int32) (x2 : Int32) (μ : MM) (r : Int32) (μr : MM), rc_X12_condition x1 x2 μ = some (r, μr) → Cl (D - 1) mX12_condition [av_r 355, av_i x1, av_i x2] μ (po_i r μr)) {r : Int32} {μr : MM} : ∀ (n : Nat) (x3 : Int32) (μ : MM), f_Mo_part_L18 N rc_X12_unit rc_X12_part rc_X12_condition n x3 μ = some (r, μr) → Sm D mX12_part 18 [some (av_r 355), none, none, some (av_i x3), none] [] μ (po_i r μr) := by
  obtain ⟨d, rfl⟩ : ∃ d, D = d + 1 := ⟨D - 1, by omega⟩
  intro n
  induction n with
  | zero => intro x3 μ h; cases (show none = some (r, μr) from h)
  | succ n ih =>
    intro x3 μ h
    rw [f_Mo_part_L18] at h
    refine sm_aload_n dX12_part_18 rfl rfl ?_
    refine sm_getI dX12_part_19 fg_RX12_123 k_355 ?_
    refine sm_iconst dX12_part_22 ic_m1 ?_
    refine sm_icmp_ne (tgt := 69) dX12_part_23 (by decide) (fun g3 => ?_) (fun g3 => ?_)
    · replace h := it_f g3 h
      refine sm_iload_n dX12_part_69 rfl rfl ?_
      obtain ⟨g4, h⟩ := gd_some h
      cases h
      exact sm_ret_z (st := []) dX12_part_70 rfl (zb_nar g4) ⟨rfl, rfl⟩
    · replace h := it_t g3 h
      refine sm_aload_n dX12_part_26 rfl rfl ?_
      obtain ⟨t27, μ2z, g5, h⟩ := ob_some h
      refine sm_callV dX12_part_27 cv_X12_look ml_RX12_133 k_355 rfl rfl (by decide) (as := []) rfl (Nat.le_of_ble_eq_true rfl) rfl (s_Mo_look (D := d) (by omega) N g5) (fun r9 μ9 hp => ?_)
      rw [hp.1, hp.2]
      clear hp r9 μ9
      refine sm_bipush dX12_part_30 bp_38 ?_
      refine sm_icmp_ne (tgt := 69) dX12_part_32 (by decide) (fun g6 => ?_) (fun g6 => ?_)
      · replace h := it_f g6 h
        refine sm_iload_n dX12_part_69 rfl rfl ?_
        obtain ⟨g7, h⟩ := gd_some h
        cases h
        exact sm_ret_z (st := []) dX12_part_70 rfl (zb_nar g7) ⟨rfl, rfl⟩
      · replace h := it_t g6 h
        refine sm_aload_n dX12_part_35 rfl rfl ?_
        refine sm_dup dX12_part_36 rfl ?_
        refine sm_getI dX12_part_37 fg_RX12_114 k_355 ?_
        refine sm_iconst dX12_part_40 ic_1 ?_
        refine sm_iadd dX12_part_41 ?_
        refine sm_putI dX12_part_42 fp_RX12_114 k_355 ?_
        replace h := wr_some h
        refine sm_aload_n dX12_part_45 rfl rfl ?_
        obtain ⟨t46, μ4z, g8, h⟩ := ob_some h
        refine sm_callV dX12_part_46 cv_X12_unit ml_RX12_179 k_355 rfl rfl (by decide) (as := []) rfl (Nat.le_of_ble_eq_true rfl) rfl (hrc_X12_unit _ _ _ g8) (fun r9 μ9 hp => ?_)
        rw [hp.1, hp.2]
        clear hp r9 μ9
        refine sm_istore dX12_part_49 (Nat.le_of_ble_eq_true rfl) (pv_i rfl) ?_
        refine sm_iload_n dX12_part_51 rfl rfl ?_
        refine sm_if_eq (tgt := 64) dX12_part_52 (by decide) (fun g9 => ?_) (fun g9 => ?_)
        · replace h := it_t g9 h
          refine sm_iconst dX12_part_64 ic_0 ?_
          refine sm_istore_n dX12_part_65 rfl (Nat.le_of_ble_eq_true rfl) (pv_n rfl) ?_
          refine sm_goto (tgt := 18) dX12_part_66 (by decide) ?_
          exact Sm_weak (le_s rfl (le_n (le_n (le_s rfl (le_n le_0))))) (ih 0 μ4z h)
        · replace h := it_f g9 h
          refine sm_iload dX12_part_55 rfl ?_
          refine sm_if_eq (tgt := 64) dX12_part_57 (by decide) (fun g10 => ?_) (fun g10 => ?_)
          · replace h := it_t g10 h
            refine sm_iconst dX12_part_64 ic_0 ?_
            refine sm_istore_n dX12_part_65 rfl (Nat.le_of_ble_eq_true rfl) (pv_n rfl) ?_
            refine sm_goto (tgt := 18) dX12_part_66 (by decide) ?_
            exact Sm_weak (le_s rfl (le_n (le_n (le_s rfl (le_n le_0))))) (ih 0 μ4z h)
          · replace h := it_f g10 h
            refine sm_iconst dX12_part_60 ic_1 ?_
            refine sm_goto (tgt := 65) dX12_part_61 (by decide) ?_
            refine sm_istore_n dX12_part_65 rfl (Nat.le_of_ble_eq_true rfl) (pv_n rfl) ?_
            refine sm_goto (tgt := 18) dX12_part_66 (by decide) ?_
            exact Sm_weak (le_s rfl (le_n (le_n (le_s rfl (le_n le_0))))) (ih 1 μ4z h)
set_option maxRecDepth 100000 in
set_option maxHeartbeats 4000000 in
theorem s_Mo_part_body {D : Nat} (hD : 47 ≤ D) (N : Nat) {rc_X12_unit : MM → Option (Int32 × MM)} (hrc_X12_unit : ∀ (μ : MM) (r : Int32) (μr : MM), rc_X12_unit μ = some (r, μr) → Cl (D - 1) mX12_unit [av_r 355] μ (po_i r μr)) {rc_X12_part : Int32 → Int32 → MM → Option (Int32 × MM)} (hrc_X12_part : ∀ (x1 : Int32) (x2 : Int32) (μ : MM) (r : Int32) (μr : MM), rc_X12_part x1 x2 μ = some (r, μr) → Cl (D - 1) mX12_part [av_r 355, av_i x1, av_i x2] μ (po_i r μr)) {rc_X12_condition : Int32 → Int32 → MM → Option (Int32 × MM)} (hrc_X12_condition : ∀ (x1 : Int32) (x2 : Int32) (μ : MM) (r : Int32) (μr : MM), rc_X12_condition x1 x2 μ = some (r, μr) → Cl (D - 1) mX12_condition [av_r 355, av_i x1, av_i x2] μ (po_i r μr)) {x1 : Int32} {x2 : Int32} {μ : MM} {r : Int32} {μr : MM} (h : f_Mo_part_body N rc_X12_unit rc_X12_part rc_X12_condition x1 x2 μ = some (r, μr)) : Cl D mX12_part [av_r 355, av_i x1, av_i x2] μ (po_i r μr) := by
  obtain ⟨d, rfl⟩ : ∃ d, D = d + 1 := ⟨D - 1, by omega⟩
  refine Cl_of pn_X12 (Nat.le_of_ble_eq_true rfl) ?_
  show Sm (d + 1) mX12_part 0 [some (av_r 355), some (av_i x1), some (av_i x2), none, none] [] μ (po_i r μr)
  unfold f_Mo_part_body at h
  refine sm_iload_n dX12_part_0 rfl rfl ?_
  refine sm_if_eq (tgt := 13) dX12_part_1 (by decide) (fun g1 => ?_) (fun g1 => ?_)
  · replace h := it_t g1 h
    refine sm_aload_n dX12_part_13 rfl rfl ?_
    obtain ⟨t14, μ1z, g2, h⟩ := ob_some h
    refine sm_callV dX12_part_14 cv_X12_unit ml_RX12_179 k_355 rfl rfl (by decide) (as := []) rfl (Nat.le_of_ble_eq_true rfl) rfl (hrc_X12_unit _ _ _ g2) (fun r9 μ9 hp => ?_)
    rw [hp.1, hp.2]
    clear hp r9 μ9
    refine sm_istore_n dX12_part_17 rfl (Nat.le_of_ble_eq_true rfl) (pv_i rfl) ?_
    exact Sm_weak (le_s rfl (le_n (le_n (le_s rfl (le_n le_0))))) (s_Mo_part_L18 hD N hrc_X12_unit hrc_X12_part hrc_X12_condition N t14 μ1z h)
  · replace h := it_f g1 h
    refine sm_aload_n dX12_part_4 rfl rfl ?_
    refine sm_iconst dX12_part_5 ic_1 ?_
    refine sm_iload_n dX12_part_6 rfl rfl ?_
    obtain ⟨t7, μ5z, g11, h⟩ := ob_some h
    refine sm_callV dX12_part_7 cv_X12_compares ml_RX12_186 k_355 rfl rfl (by decide) (as := [av_i 1, av_i x2]) rfl (Nat.le_of_ble_eq_true rfl) rfl (s_Mo_compares (D := d) (by omega) N g11) (fun r9 μ9 hp => ?_)
    rw [hp.1, hp.2]
    clear hp r9 μ9
    refine sm_goto (tgt := 17) dX12_part_10 (by decide) ?_
    refine sm_istore_n dX12_part_17 rfl (Nat.le_of_ble_eq_true rfl) (pv_i rfl) ?_
    exact Sm_weak (le_s rfl (le_n (le_n (le_s rfl (le_n le_0))))) (s_Mo_part_L18 hD N hrc_X12_unit hrc_X12_part hrc_X12_condition N t7 μ5z h)
set_option maxRecDepth 100000 in
set_option maxHeartbeats 4000000 in
theorem s_Mo_condition_L7 {D : Nat} (hD : 47 ≤ D) (N : Nat) {rc_X12_unit : MM → Option (Int32 × MM)} (hrc_X12_unit : ∀ (μ : MM) (r : Int32) (μr : MM), rc_X12_unit μ = some (r, μr) → Cl (D - 1) mX12_unit [av_r 355] μ (po_i r μr)) {rc_X12_part : Int32 → Int32 → MM → Option (Int32 × MM)} (hrc_X12_part : ∀ (x1 : Int32) (x2 : Int32) (μ : MM) (r : Int32) (μr : MM), rc_X12_part x1 x2 μ = some (r, μr) → Cl (D - 1) mX12_part [av_r 355, av_i x1, av_i x2] μ (po_i r μr)) {rc_X12_condition : Int32 → Int32 → MM → Option (Int32 × MM)} (hrc_X12_condition : ∀ (x1 : Int32) (x2 : Int32) (μ : MM) (r : Int32) (μr : MM), rc_X12_condition x1 x2 μ = some (r, μr) → Cl (D - 1) mX12_condition [av_r 355, av_i x1, av_i x2] μ (po_i r μr)) {r : Int32} {μr : MM} : ∀ (n : Nat) (x3 : Int32) (μ : MM), f_Mo_condition_L7 N rc_X12_unit rc_X12_part rc_X12_condition n x3 μ = some (r, μr) → Sm D mX12_condition 7 [some (av_r 355), none, none, some (av_i x3), none] [] μ (po_i r μr) := by
  obtain ⟨d, rfl⟩ : ∃ d, D = d + 1 := ⟨D - 1, by omega⟩
  intro n
  induction n with
  | zero => intro x3 μ h; cases (show none = some (r, μr) from h)
  | succ n ih =>
    intro x3 μ h
    rw [f_Mo_condition_L7] at h
    refine sm_aload_n dX12_condition_7 rfl rfl ?_
    refine sm_getI dX12_condition_8 fg_RX12_123 k_355 ?_
    refine sm_iconst dX12_condition_11 ic_m1 ?_
    refine sm_icmp_ne (tgt := 60) dX12_condition_12 (by decide) (fun g2 => ?_) (fun g2 => ?_)
    · replace h := it_f g2 h
      refine sm_iload_n dX12_condition_60 rfl rfl ?_
      obtain ⟨g3, h⟩ := gd_some h
      cases h
      exact sm_ret_z (st := []) dX12_condition_61 rfl (zb_nar g3) ⟨rfl, rfl⟩
    · replace h := it_t g2 h
      refine sm_aload_n dX12_condition_15 rfl rfl ?_
      obtain ⟨t16, μ2z, g4, h⟩ := ob_some h
      refine sm_callV dX12_condition_16 cv_X12_look ml_RX12_133 k_355 rfl rfl (by decide) (as := []) rfl (Nat.le_of_ble_eq_true rfl) rfl (s_Mo_look (D := d) (by omega) N g4) (fun r9 μ9 hp => ?_)
      rw [hp.1, hp.2]
      clear hp r9 μ9
      refine sm_bipush dX12_condition_19 bp_124 ?_
      refine sm_icmp_ne (tgt := 60) dX12_condition_21 (by decide) (fun g5 => ?_) (fun g5 => ?_)
      · replace h := it_f g5 h
        refine sm_iload_n dX12_condition_60 rfl rfl ?_
        obtain ⟨g6, h⟩ := gd_some h
        cases h
        exact sm_ret_z (st := []) dX12_condition_61 rfl (zb_nar g6) ⟨rfl, rfl⟩
      · replace h := it_t g5 h
        refine sm_aload_n dX12_condition_24 rfl rfl ?_
        refine sm_dup dX12_condition_25 rfl ?_
        refine sm_getI dX12_condition_26 fg_RX12_114 k_355 ?_
        refine sm_iconst dX12_condition_29 ic_1 ?_
        refine sm_iadd dX12_condition_30 ?_
        refine sm_putI dX12_condition_31 fp_RX12_114 k_355 ?_
        replace h := wr_some h
        refine sm_aload_n dX12_condition_34 rfl rfl ?_
        refine sm_iconst dX12_condition_35 ic_0 ?_
        refine sm_iconst dX12_condition_36 ic_0 ?_
        obtain ⟨t37, μ4z, g7, h⟩ := ob_some h
        refine sm_callV dX12_condition_37 cv_X12_part ml_RX12_189 k_355 rfl rfl (by decide) (as := [av_i 0, av_i 0]) rfl (Nat.le_of_ble_eq_true rfl) rfl (hrc_X12_part _ _ _ _ _ g7) (fun r9 μ9 hp => ?_)
        rw [hp.1, hp.2]
        clear hp r9 μ9
        refine sm_istore dX12_condition_40 (Nat.le_of_ble_eq_true rfl) (pv_i rfl) ?_
        refine sm_iload_n dX12_condition_42 rfl rfl ?_
        refine sm_if_ne (tgt := 51) dX12_condition_43 (by decide) (fun g8 => ?_) (fun g8 => ?_)
        · replace h := it_f g8 h
          refine sm_iconst dX12_condition_51 ic_1 ?_
          refine sm_goto (tgt := 56) dX12_condition_52 (by decide) ?_
          refine sm_istore_n dX12_condition_56 rfl (Nat.le_of_ble_eq_true rfl) (pv_n rfl) ?_
          refine sm_goto (tgt := 7) dX12_condition_57 (by decide) ?_
          exact Sm_weak (le_s rfl (le_n (le_n (le_s rfl (le_n le_0))))) (ih 1 μ4z h)
        · replace h := it_t g8 h
          refine sm_iload dX12_condition_46 rfl ?_
          refine sm_if_eq (tgt := 55) dX12_condition_48 (by decide) (fun g9 => ?_) (fun g9 => ?_)
          · replace h := it_t g9 h
            refine sm_iconst dX12_condition_55 ic_0 ?_
            refine sm_istore_n dX12_condition_56 rfl (Nat.le_of_ble_eq_true rfl) (pv_n rfl) ?_
            refine sm_goto (tgt := 7) dX12_condition_57 (by decide) ?_
            exact Sm_weak (le_s rfl (le_n (le_n (le_s rfl (le_n le_0))))) (ih 0 μ4z h)
          · replace h := it_f g9 h
            refine sm_iconst dX12_condition_51 ic_1 ?_
            refine sm_goto (tgt := 56) dX12_condition_52 (by decide) ?_
            refine sm_istore_n dX12_condition_56 rfl (Nat.le_of_ble_eq_true rfl) (pv_n rfl) ?_
            refine sm_goto (tgt := 7) dX12_condition_57 (by decide) ?_
            exact Sm_weak (le_s rfl (le_n (le_n (le_s rfl (le_n le_0))))) (ih 1 μ4z h)
set_option maxRecDepth 100000 in
set_option maxHeartbeats 4000000 in
theorem s_Mo_condition_body {D : Nat} (hD : 47 ≤ D) (N : Nat) {rc_X12_unit : MM → Option (Int32 × MM)} (hrc_X12_unit : ∀ (μ : MM) (r : Int32) (μr : MM), rc_X12_unit μ = some (r, μr) → Cl (D - 1) mX12_unit [av_r 355] μ (po_i r μr)) {rc_X12_part : Int32 → Int32 → MM → Option (Int32 × MM)} (hrc_X12_part : ∀ (x1 : Int32) (x2 : Int32) (μ : MM) (r : Int32) (μr : MM), rc_X12_part x1 x2 μ = some (r, μr) → Cl (D - 1) mX12_part [av_r 355, av_i x1, av_i x2] μ (po_i r μr)) {rc_X12_condition : Int32 → Int32 → MM → Option (Int32 × MM)} (hrc_X12_condition : ∀ (x1 : Int32) (x2 : Int32) (μ : MM) (r : Int32) (μr : MM), rc_X12_condition x1 x2 μ = some (r, μr) → Cl (D - 1) mX12_condition [av_r 355, av_i x1, av_i x2] μ (po_i r μr)) {x1 : Int32} {x2 : Int32} {μ : MM} {r : Int32} {μr : MM} (h : f_Mo_condition_body N rc_X12_unit rc_X12_part rc_X12_condition x1 x2 μ = some (r, μr)) : Cl D mX12_condition [av_r 355, av_i x1, av_i x2] μ (po_i r μr) := by
  obtain ⟨d, rfl⟩ : ∃ d, D = d + 1 := ⟨D - 1, by omega⟩
  refine Cl_of pn_X12 (Nat.le_of_ble_eq_true rfl) ?_
  show Sm (d + 1) mX12_condition 0 [some (av_r 355), some (av_i x1), some (av_i x2), none, none] [] μ (po_i r μr)
  unfold f_Mo_condition_body at h
  refine sm_aload_n dX12_condition_0 rfl rfl ?_
  refine sm_iload_n dX12_condition_1 rfl rfl ?_
  refine sm_iload_n dX12_condition_2 rfl rfl ?_
  obtain ⟨t3, μ1z, g1, h⟩ := ob_some h
  refine sm_callV dX12_condition_3 cv_X12_part ml_RX12_189 k_355 rfl rfl (by decide) (as := [av_i x1, av_i x2]) rfl (Nat.le_of_ble_eq_true rfl) rfl (hrc_X12_part _ _ _ _ _ g1) (fun r9 μ9 hp => ?_)
  rw [hp.1, hp.2]
  clear hp r9 μ9
  refine sm_istore_n dX12_condition_6 rfl (Nat.le_of_ble_eq_true rfl) (pv_i rfl) ?_
  exact Sm_weak (le_s rfl (le_n (le_n (le_s rfl (le_n le_0))))) (s_Mo_condition_L7 hD N hrc_X12_unit hrc_X12_part hrc_X12_condition N t3 μ1z h)
set_option maxRecDepth 100000 in
set_option maxHeartbeats 4000000 in
theorem s_cl_Mo_unit (N : Nat) : ∀ (t : Nat) {D : Nat} (hD : 47 + t ≤ D) (g : Nat) (a0 : Int32) (a1 : Int32) (μ : MM) (r : Int32) (μr : MM) (h : f_cl_Mo_unit N t g a0 a1 μ = some (r, μr)), (g = 0 → Cl D mX12_unit [av_r 355] μ (po_i r μr)) ∧ (g = 1 → Cl D mX12_part [av_r 355, av_i a0, av_i a1] μ (po_i r μr)) ∧ (g = 2 → Cl D mX12_condition [av_r 355, av_i a0, av_i a1] μ (po_i r μr)) := by
  intro t
  induction t with
  | zero => intro D hD g a0 a1 μ r μr h; cases (show none = some (r, μr) from h)
  | succ t ih =>
    intro D hD g a0 a1 μ r μr h
    rw [f_cl_Mo_unit] at h
    refine ⟨?_, ?_, ?_⟩
    · intro e; subst e; rw [if_pos rfl] at h; exact s_Mo_unit_body (by omega) N (fun  μ r μr hh => (ih (D := D - 1) (by omega) 0 0 0 μ r μr hh).1 rfl) (fun x1 x2 μ r μr hh => (ih (D := D - 1) (by omega) 1 x1 x2 μ r μr hh).2.1 rfl) (fun x1 x2 μ r μr hh => (ih (D := D - 1) (by omega) 2 x1 x2 μ r μr hh).2.2 rfl) h
    · intro e; subst e; rw [if_neg (by omega)] at h; rw [if_pos rfl] at h; exact s_Mo_part_body (by omega) N (fun  μ r μr hh => (ih (D := D - 1) (by omega) 0 0 0 μ r μr hh).1 rfl) (fun x1 x2 μ r μr hh => (ih (D := D - 1) (by omega) 1 x1 x2 μ r μr hh).2.1 rfl) (fun x1 x2 μ r μr hh => (ih (D := D - 1) (by omega) 2 x1 x2 μ r μr hh).2.2 rfl) h
    · intro e; subst e; rw [if_neg (by omega)] at h; rw [if_neg (by omega)] at h; exact s_Mo_condition_body (by omega) N (fun  μ r μr hh => (ih (D := D - 1) (by omega) 0 0 0 μ r μr hh).1 rfl) (fun x1 x2 μ r μr hh => (ih (D := D - 1) (by omega) 1 x1 x2 μ r μr hh).2.1 rfl) (fun x1 x2 μ r μr hh => (ih (D := D - 1) (by omega) 2 x1 x2 μ r μr hh).2.2 rfl) h
set_option maxRecDepth 100000 in
set_option maxHeartbeats 4000000 in
theorem s_Mo_unit {D : Nat} (hD : 87 ≤ D) (N : Nat) {μ : MM} {r : Int32} {μr : MM} (h : f_Mo_unit N μ = some (r, μr)) : Cl D mX12_unit [av_r 355] μ (po_i r μr) := (s_cl_Mo_unit N 40 (by omega) 0 _ _ μ r μr h).1 rfl
set_option maxRecDepth 100000 in
set_option maxHeartbeats 4000000 in
theorem s_Mo_part {D : Nat} (hD : 87 ≤ D) (N : Nat) {x1 : Int32} {x2 : Int32} {μ : MM} {r : Int32} {μr : MM} (h : f_Mo_part N x1 x2 μ = some (r, μr)) : Cl D mX12_part [av_r 355, av_i x1, av_i x2] μ (po_i r μr) := (s_cl_Mo_unit N 40 (by omega) 1 _ _ μ r μr h).2.1 rfl
set_option maxRecDepth 100000 in
set_option maxHeartbeats 4000000 in
theorem s_Mo_condition {D : Nat} (hD : 87 ≤ D) (N : Nat) {x1 : Int32} {x2 : Int32} {μ : MM} {r : Int32} {μr : MM} (h : f_Mo_condition N x1 x2 μ = some (r, μr)) : Cl D mX12_condition [av_r 355, av_i x1, av_i x2] μ (po_i r μr) := (s_cl_Mo_unit N 40 (by omega) 2 _ _ μ r μr h).2.2 rfl
set_option maxRecDepth 100000 in
set_option maxHeartbeats 4000000 in
theorem s_Mo_clause_B134 {D : Nat} (hD : 88 ≤ D) (N : Nat) {μr : MM} (x1 : Int32) (x2 : Int32) (x3 : Int32) (μ : MM) (h : f_Mo_clause_B134 N x1 x2 x3 μ = some μr) : Sm D mX12_clause 134 [some (av_r 355), some (av_i x1), some (av_i x2), some (av_i x3), none] [] μ (po_v μr) := by
  obtain ⟨d, rfl⟩ : ∃ d, D = d + 1 := ⟨D - 1, by omega⟩
  unfold f_Mo_clause_B134 at h
  refine sm_aload_n dX12_clause_134 rfl rfl ?_
  refine sm_getI dX12_clause_135 fg_RX12_123 k_355 ?_
  refine sm_iconst dX12_clause_138 ic_m1 ?_
  refine sm_icmp_ne (tgt := 161) dX12_clause_139 (by decide) (fun g12 => ?_) (fun g12 => ?_)
  · replace h := it_f g12 h
    cases h
    exact sm_ret_v (st := []) dX12_clause_161 rfl ⟨rfl, rfl⟩
  · replace h := it_t g12 h
    refine sm_aload_n dX12_clause_142 rfl rfl ?_
    refine sm_getI dX12_clause_143 fg_RX12_192 k_355 ?_
    refine sm_if_ne (tgt := 161) dX12_clause_146 (by decide) (fun g13 => ?_) (fun g13 => ?_)
    · replace h := it_f g13 h
      cases h
      exact sm_ret_v (st := []) dX12_clause_161 rfl ⟨rfl, rfl⟩
    · replace h := it_t g13 h
      refine sm_iload_n dX12_clause_149 rfl rfl ?_
      refine sm_aload_n dX12_clause_150 rfl rfl ?_
      refine sm_getI dX12_clause_151 fg_RX12_196 k_355 ?_
      refine sm_icmp_ne (tgt := 161) dX12_clause_154 (by decide) (fun g14 => ?_) (fun g14 => ?_)
      · replace h := it_f g14 h
        cases h
        exact sm_ret_v (st := []) dX12_clause_161 rfl ⟨rfl, rfl⟩
      · replace h := it_t g14 h
        refine sm_iload_n dX12_clause_157 rfl rfl ?_
        refine sm_if_ne (tgt := 162) dX12_clause_158 (by decide) (fun g15 => ?_) (fun g15 => ?_)
        · replace h := it_f g15 h
          refine sm_aload_n dX12_clause_162 rfl rfl ?_
          refine sm_iconst dX12_clause_163 ic_1 ?_
          refine sm_putZ dX12_clause_164 fp_RX12_192 k_355 (Or.inr rfl) ?_
          replace h := wr_some h
          refine sm_aload_n dX12_clause_167 rfl rfl ?_
          refine sm_iload_n dX12_clause_168 rfl rfl ?_
          refine sm_putI dX12_clause_169 fp_RX12_199 k_355 ?_
          replace h := wr_some h
          cases h
          exact sm_ret_v (st := []) dX12_clause_172 rfl ⟨rfl, rfl⟩
        · replace h := it_t g15 h
          cases h
          exact sm_ret_v (st := []) dX12_clause_161 rfl ⟨rfl, rfl⟩
set_option maxRecDepth 100000 in
set_option maxHeartbeats 4000000 in
theorem s_Mo_clause_B64 {D : Nat} (hD : 88 ≤ D) (N : Nat) {μr : MM} (x1 : Int32) (μ : MM) (h : f_Mo_clause_B64 N x1 μ = some μr) : Sm D mX12_clause 64 [some (av_r 355), some (av_i x1), none, none, none] [] μ (po_v μr) := by
  obtain ⟨d, rfl⟩ : ∃ d, D = d + 1 := ⟨D - 1, by omega⟩
  unfold f_Mo_clause_B64 at h
  refine sm_aload_n dX12_clause_64 rfl rfl ?_
  refine sm_iconst dX12_clause_65 ic_0 ?_
  refine sm_iconst dX12_clause_66 ic_0 ?_
  obtain ⟨t67, μ6z, g8, h⟩ := ob_some h
  refine sm_callV dX12_clause_67 cv_X12_condition ml_RX12_182 k_355 rfl rfl (by decide) (as := [av_i 0, av_i 0]) rfl (Nat.le_of_ble_eq_true rfl) rfl (s_Mo_condition (D := d) (by omega) N g8) (fun r9 μ9 hp => ?_)
  rw [hp.1, hp.2]
  clear hp r9 μ9
  refine sm_istore_n dX12_clause_70 rfl (Nat.le_of_ble_eq_true rfl) (pv_i rfl) ?_
  refine sm_aload_n dX12_clause_71 rfl rfl ?_
  refine sm_bipush dX12_clause_72 bp_63 ?_
  obtain ⟨t74, μ7z, g9, h⟩ := ob_some h
  refine sm_callV dX12_clause_74 cv_X12_takes ml_RX12_159 k_355 rfl rfl (by decide) (as := [av_i 63]) rfl (Nat.le_of_ble_eq_true rfl) rfl (s_Mo_takes (D := d) (by omega) N g9) (fun r9 μ9 hp => ?_)
  rw [hp.1, hp.2]
  clear hp r9 μ9
  refine sm_if_ne (tgt := 81) dX12_clause_77 (by decide) (fun g10 => ?_) (fun g10 => ?_)
  · replace h := it_f g10 h
    refine sm_aload_n dX12_clause_81 rfl rfl ?_
    obtain ⟨t82, μ8z, g11, h⟩ := ob_some h
    refine sm_callV dX12_clause_82 cv_X12_sum ml_RX12_156 k_355 rfl rfl (by decide) (as := []) rfl (Nat.le_of_ble_eq_true rfl) rfl (s_Mo_sum (D := d) (by omega) N g11) (fun r9 μ9 hp => ?_)
    rw [hp.1, hp.2]
    clear hp r9 μ9
    refine sm_istore_n dX12_clause_85 rfl (Nat.le_of_ble_eq_true rfl) (pv_i rfl) ?_
    refine sm_goto (tgt := 134) dX12_clause_86 (by decide) ?_
    exact Sm_weak (le_s rfl (le_s rfl (le_s rfl (le_s rfl (le_n le_0))))) (s_Mo_clause_B134 hD N x1 t67 t82 μ8z h)
  · replace h := it_t g10 h
    cases h
    exact sm_ret_v (st := []) dX12_clause_80 rfl ⟨rfl, rfl⟩
set_option maxRecDepth 100000 in
set_option maxHeartbeats 4000000 in
theorem s_Mo_clause {D : Nat} (hD : 88 ≤ D) (N : Nat) {μ : MM} {μr : MM} (h : f_Mo_clause N μ = some μr) : Cl D mX12_clause [av_r 355] μ (po_v μr) := by
  obtain ⟨d, rfl⟩ : ∃ d, D = d + 1 := ⟨D - 1, by omega⟩
  refine Cl_of pn_X12 (Nat.le_of_ble_eq_true rfl) ?_
  show Sm (d + 1) mX12_clause 0 [some (av_r 355), none, none, none, none] [] μ (po_v μr)
  unfold f_Mo_clause at h
  refine sm_aload_n dX12_clause_0 rfl rfl ?_
  obtain ⟨t1, μ1z, g1, h⟩ := ob_some h
  refine sm_callV dX12_clause_1 cv_X12_look ml_RX12_133 k_355 rfl rfl (by decide) (as := []) rfl (Nat.le_of_ble_eq_true rfl) rfl (s_Mo_look (D := d) (by omega) N g1) (fun r9 μ9 hp => ?_)
  rw [hp.1, hp.2]
  clear hp r9 μ9
  refine sm_istore_n dX12_clause_4 rfl (Nat.le_of_ble_eq_true rfl) (pv_r rfl) ?_
  refine sm_ldcS dX12_clause_5 (i := 5) (by decide) rfl ?_
  refine sm_iload_n dX12_clause_7 rfl rfl ?_
  obtain ⟨t8, μ2z, g2, h⟩ := ob_some h
  refine sm_callS dX12_clause_8 cs_X12_isAmong ml_RX12_149 (as := [av_r 2005, av_i t1]) rfl (Nat.le_of_ble_eq_true rfl) rfl (s_Mo_isAmong (D := d) (by omega) N k_2005 g2) (fun r9 μ9 hp => ?_)
  rw [hp.1, hp.2]
  clear hp r9 μ9
  refine sm_if_ne (tgt := 20) dX12_clause_11 (by decide) (fun g3 => ?_) (fun g3 => ?_)
  · replace h := it_f g3 h
    refine sm_aload_n dX12_clause_20 rfl rfl ?_
    refine sm_dup dX12_clause_21 rfl ?_
    refine sm_getI dX12_clause_22 fg_RX12_114 k_355 ?_
    refine sm_iconst dX12_clause_25 ic_1 ?_
    refine sm_iadd dX12_clause_26 ?_
    refine sm_putI dX12_clause_27 fp_RX12_114 k_355 ?_
    replace h := wr_some h
    refine sm_aload_n dX12_clause_30 rfl rfl ?_
    refine sm_bipush dX12_clause_31 bp_58 ?_
    obtain ⟨t33, μ4z, g4, h⟩ := ob_some h
    refine sm_callV dX12_clause_33 cv_X12_takes ml_RX12_159 k_355 rfl rfl (by decide) (as := [av_i 58]) rfl (Nat.le_of_ble_eq_true rfl) rfl (s_Mo_takes (D := d) (by omega) N g4) (fun r9 μ9 hp => ?_)
    rw [hp.1, hp.2]
    clear hp r9 μ9
    refine sm_if_ne (tgt := 40) dX12_clause_36 (by decide) (fun g5 => ?_) (fun g5 => ?_)
    · replace h := it_f g5 h
      refine sm_iconst dX12_clause_40 ic_1 ?_
      refine sm_istore_n dX12_clause_41 rfl (Nat.le_of_ble_eq_true rfl) (pv_i rfl) ?_
      refine sm_iconst dX12_clause_42 ic_0 ?_
      refine sm_istore_n dX12_clause_43 rfl (Nat.le_of_ble_eq_true rfl) (pv_i rfl) ?_
      refine sm_aload_n dX12_clause_44 rfl rfl ?_
      obtain ⟨t45, μ5z, g6, h⟩ := ob_some h
      refine sm_callV dX12_clause_45 cv_X12_look ml_RX12_133 k_355 rfl rfl (by decide) (as := []) rfl (Nat.le_of_ble_eq_true rfl) rfl (s_Mo_look (D := d) (by omega) N g6) (fun r9 μ9 hp => ?_)
      rw [hp.1, hp.2]
      clear hp r9 μ9
      refine sm_istore dX12_clause_48 (Nat.le_of_ble_eq_true rfl) (pv_i rfl) ?_
      refine sm_iload dX12_clause_50 rfl ?_
      refine sm_bipush dX12_clause_52 bp_33 ?_
      refine sm_icmp_eq (tgt := 64) dX12_clause_54 (by decide) (fun g7 => ?_) (fun g7 => ?_)
      · replace h := it_t g7 h
        exact Sm_weak (le_s rfl (le_s rfl (le_n (le_n (le_n le_0))))) (s_Mo_clause_B64 hD N t1 μ5z h)
      · replace h := it_f g7 h
        refine sm_iload dX12_clause_57 rfl ?_
        refine sm_bipush dX12_clause_59 bp_40 ?_
        refine sm_icmp_ne (tgt := 89) dX12_clause_61 (by decide) (fun g16 => ?_) (fun g16 => ?_)
        · replace h := it_f g16 h
          refine sm_aload_n dX12_clause_89 rfl rfl ?_
          obtain ⟨t90, μ11z, g17, h⟩ := ob_some h
          refine sm_callV dX12_clause_90 cv_X12_sum ml_RX12_156 k_355 rfl rfl (by decide) (as := []) rfl (Nat.le_of_ble_eq_true rfl) rfl (s_Mo_sum (D := d) (by omega) N g17) (fun r9 μ9 hp => ?_)
          rw [hp.1, hp.2]
          clear hp r9 μ9
          refine sm_istore_n dX12_clause_93 rfl (Nat.le_of_ble_eq_true rfl) (pv_i rfl) ?_
          refine sm_aload_n dX12_clause_94 rfl rfl ?_
          refine sm_getI dX12_clause_95 fg_RX12_123 k_355 ?_
          refine sm_iconst dX12_clause_98 ic_m1 ?_
          refine sm_icmp_ne (tgt := 134) dX12_clause_99 (by decide) (fun g18 => ?_) (fun g18 => ?_)
          · replace h := it_f g18 h
            exact Sm_weak (le_s rfl (le_s rfl (le_s rfl (le_s rfl (le_n le_0))))) (s_Mo_clause_B134 hD N t1 1 t90 μ11z h)
          · replace h := it_t g18 h
            refine sm_aload_n dX12_clause_102 rfl rfl ?_
            obtain ⟨t103, μ12z, g19, h⟩ := ob_some h
            refine sm_callV dX12_clause_103 cv_X12_look ml_RX12_133 k_355 rfl rfl (by decide) (as := []) rfl (Nat.le_of_ble_eq_true rfl) rfl (s_Mo_look (D := d) (by omega) N g19) (fun r9 μ9 hp => ?_)
            rw [hp.1, hp.2]
            clear hp r9 μ9
            obtain ⟨t106, μ13z, g20, h⟩ := ob_some h
            refine sm_callS dX12_clause_106 cs_X12_isSign ml_RX12_176 (as := [av_i t103]) rfl (Nat.le_of_ble_eq_true rfl) rfl (s_Mo_isSign (D := d) (by omega) N g20) (fun r9 μ9 hp => ?_)
            rw [hp.1, hp.2]
            clear hp r9 μ9
            refine sm_if_eq (tgt := 134) dX12_clause_109 (by decide) (fun g21 => ?_) (fun g21 => ?_)
            · replace h := it_t g21 h
              exact Sm_weak (le_s rfl (le_s rfl (le_s rfl (le_s rfl (le_n le_0))))) (s_Mo_clause_B134 hD N t1 1 t90 μ13z h)
            · replace h := it_f g21 h
              refine sm_aload_n dX12_clause_112 rfl rfl ?_
              refine sm_iconst dX12_clause_113 ic_1 ?_
              refine sm_iload_n dX12_clause_114 rfl rfl ?_
              obtain ⟨t115, μ14z, g22, h⟩ := ob_some h
              refine sm_callV dX12_clause_115 cv_X12_condition ml_RX12_182 k_355 rfl rfl (by decide) (as := [av_i 1, av_i t90]) rfl (Nat.le_of_ble_eq_true rfl) rfl (s_Mo_condition (D := d) (by omega) N g22) (fun r9 μ9 hp => ?_)
              rw [hp.1, hp.2]
              clear hp r9 μ9
              refine sm_istore_n dX12_clause_118 rfl (Nat.le_of_ble_eq_true rfl) (pv_i rfl) ?_
              refine sm_aload_n dX12_clause_119 rfl rfl ?_
              refine sm_bipush dX12_clause_120 bp_63 ?_
              obtain ⟨t122, μ15z, g23, h⟩ := ob_some h
              refine sm_callV dX12_clause_122 cv_X12_takes ml_RX12_159 k_355 rfl rfl (by decide) (as := [av_i 63]) rfl (Nat.le_of_ble_eq_true rfl) rfl (s_Mo_takes (D := d) (by omega) N g23) (fun r9 μ9 hp => ?_)
              rw [hp.1, hp.2]
              clear hp r9 μ9
              refine sm_if_ne (tgt := 129) dX12_clause_125 (by decide) (fun g24 => ?_) (fun g24 => ?_)
              · replace h := it_f g24 h
                refine sm_aload_n dX12_clause_129 rfl rfl ?_
                obtain ⟨t130, μ16z, g25, h⟩ := ob_some h
                refine sm_callV dX12_clause_130 cv_X12_sum ml_RX12_156 k_355 rfl rfl (by decide) (as := []) rfl (Nat.le_of_ble_eq_true rfl) rfl (s_Mo_sum (D := d) (by omega) N g25) (fun r9 μ9 hp => ?_)
                rw [hp.1, hp.2]
                clear hp r9 μ9
                refine sm_istore_n dX12_clause_133 rfl (Nat.le_of_ble_eq_true rfl) (pv_i rfl) ?_
                exact Sm_weak (le_s rfl (le_s rfl (le_s rfl (le_s rfl (le_n le_0))))) (s_Mo_clause_B134 hD N t1 t115 t130 μ16z h)
              · replace h := it_t g24 h
                cases h
                exact sm_ret_v (st := []) dX12_clause_128 rfl ⟨rfl, rfl⟩
        · replace h := it_t g16 h
          exact Sm_weak (le_s rfl (le_s rfl (le_n (le_n (le_n le_0))))) (s_Mo_clause_B64 hD N t1 μ5z h)
    · replace h := it_t g5 h
      cases h
      exact sm_ret_v (st := []) dX12_clause_39 rfl ⟨rfl, rfl⟩
  · replace h := it_t g3 h
    refine sm_aload_n dX12_clause_14 rfl rfl ?_
    obtain ⟨t15, μ17z, g26, h⟩ := ob_some h
    refine sm_callV dX12_clause_15 cv_X12_fails ml_RX12_129 k_355 rfl rfl (by decide) (as := []) rfl (Nat.le_of_ble_eq_true rfl) rfl (s_Mo_fails (D := d) (by omega) N g26) (fun r9 μ9 hp => ?_)
    rw [hp.1, hp.2]
    clear hp r9 μ9
    refine sm_pop dX12_clause_18 rfl ?_
    cases h
    exact sm_ret_v (st := []) dX12_clause_19 rfl ⟨rfl, rfl⟩
set_option maxRecDepth 100000 in
set_option maxHeartbeats 4000000 in
theorem s_Mo_starts {D : Nat} (hD : 0 ≤ D) (N : Nat) {q1 : Nat} (hk_q1 : sh_k q1 = 21) {x2 : Int32} {x3 : Int32} {μ : MM} {μr : MM} (h : f_Mo_starts N q1 x2 x3 μ = some μr) : Cl D mX12_starts [av_r 355, av_r q1, av_i x2, av_i x3] μ (po_v μr) := by
  refine Cl_of pn_X12 (Nat.le_of_ble_eq_true rfl) ?_
  show Sm D mX12_starts 0 [some (av_r 355), some (av_r q1), some (av_i x2), some (av_i x3)] [] μ (po_v μr)
  unfold f_Mo_starts at h
  refine sm_aload_n dX12_starts_0 rfl rfl ?_
  refine sm_aload_n dX12_starts_1 rfl rfl ?_
  refine sm_putX dX12_starts_2 fg_RX12_23.1 (lt_sh hk_q1) k_355 ?_
  replace h := wr_some h
  refine sm_aload_n dX12_starts_5 rfl rfl ?_
  refine sm_iload_n dX12_starts_6 rfl rfl ?_
  refine sm_putI dX12_starts_7 fp_RX12_120 k_355 ?_
  replace h := wr_some h
  refine sm_aload_n dX12_starts_10 rfl rfl ?_
  refine sm_iload_n dX12_starts_11 rfl rfl ?_
  refine sm_putI dX12_starts_12 fp_RX12_117 k_355 ?_
  replace h := wr_some h
  refine sm_aload_n dX12_starts_15 rfl rfl ?_
  refine sm_iconst dX12_starts_16 ic_0 ?_
  refine sm_putI dX12_starts_17 fp_RX12_114 k_355 ?_
  replace h := wr_some h
  refine sm_aload_n dX12_starts_20 rfl rfl ?_
  refine sm_iconst dX12_starts_21 ic_m1 ?_
  refine sm_putI dX12_starts_22 fp_RX12_123 k_355 ?_
  replace h := wr_some h
  cases h
  exact sm_ret_v (st := []) dX12_starts_25 rfl ⟨rfl, rfl⟩
set_option maxRecDepth 100000 in
set_option maxHeartbeats 4000000 in
theorem s_Mo_goThrough_B66 {D : Nat} (hD : 89 ≤ D) (N : Nat) {q1 : Nat} (hk_q1 : sh_k q1 = 21) {μr : MM} (μ : MM) (h : f_Mo_goThrough_B66 N q1 μ = some μr) : Sm D mX12_goThrough 66 [some (av_r 355), none, none, none] [] μ (po_v μr) := by
  obtain ⟨d, rfl⟩ : ∃ d, D = d + 1 := ⟨D - 1, by omega⟩
  unfold f_Mo_goThrough_B66 at h
  refine sm_aload_n dX12_goThrough_66 rfl rfl ?_
  refine sm_getI dX12_goThrough_67 fg_RX12_123 k_355 ?_
  refine sm_iconst dX12_goThrough_70 ic_m1 ?_
  refine sm_icmp_ne (tgt := 87) dX12_goThrough_71 (by decide) (fun g4 => ?_) (fun g4 => ?_)
  · replace h := it_f g4 h
    cases h
    exact sm_ret_v (st := []) dX12_goThrough_87 rfl ⟨rfl, rfl⟩
  · replace h := it_t g4 h
    refine sm_aload_n dX12_goThrough_74 rfl rfl ?_
    obtain ⟨t75, μ7z, g5, h⟩ := ob_some h
    refine sm_callV dX12_goThrough_75 cv_X12_look ml_RX12_133 k_355 rfl rfl (by decide) (as := []) rfl (Nat.le_of_ble_eq_true rfl) rfl (s_Mo_look (D := d) (by omega) N g5) (fun r9 μ9 hp => ?_)
    rw [hp.1, hp.2]
    clear hp r9 μ9
    refine sm_iconst dX12_goThrough_78 ic_m1 ?_
    refine sm_icmp_eq (tgt := 87) dX12_goThrough_79 (by decide) (fun g6 => ?_) (fun g6 => ?_)
    · replace h := it_t g6 h
      cases h
      exact sm_ret_v (st := []) dX12_goThrough_87 rfl ⟨rfl, rfl⟩
    · replace h := it_f g6 h
      refine sm_aload_n dX12_goThrough_82 rfl rfl ?_
      obtain ⟨t83, μ8z, g7, h⟩ := ob_some h
      refine sm_callV dX12_goThrough_83 cv_X12_fails ml_RX12_129 k_355 rfl rfl (by decide) (as := []) rfl (Nat.le_of_ble_eq_true rfl) rfl (s_Mo_fails (D := d) (by omega) N g7) (fun r9 μ9 hp => ?_)
      rw [hp.1, hp.2]
      clear hp r9 μ9
      refine sm_pop dX12_goThrough_86 rfl ?_
      cases h
      exact sm_ret_v (st := []) dX12_goThrough_87 rfl ⟨rfl, rfl⟩
set_option maxRecDepth 100000 in
set_option maxHeartbeats 4000000 in
theorem s_Mo_goThrough_L32 {D : Nat} (hD : 89 ≤ D) (N : Nat) {q1 : Nat} (hk_q1 : sh_k q1 = 21) {μr : MM} : ∀ (n : Nat) (μ : MM), f_Mo_goThrough_L32 N q1 n μ = some μr → Sm D mX12_goThrough 32 [some (av_r 355), none, none, none] [] μ (po_v μr) := by
  obtain ⟨d, rfl⟩ : ∃ d, D = d + 1 := ⟨D - 1, by omega⟩
  intro n
  induction n with
  | zero => intro μ h; cases (show none = some μr from h)
  | succ n ih =>
    intro μ h
    rw [f_Mo_goThrough_L32] at h
    refine sm_aload_n dX12_goThrough_32 rfl rfl ?_
    refine sm_getI dX12_goThrough_33 fg_RX12_123 k_355 ?_
    refine sm_iconst dX12_goThrough_36 ic_m1 ?_
    refine sm_icmp_ne (tgt := 66) dX12_goThrough_37 (by decide) (fun g3 => ?_) (fun g3 => ?_)
    · replace h := it_f g3 h
      exact Sm_weak (le_s rfl (le_n (le_n (le_n le_0)))) (s_Mo_goThrough_B66 hD N hk_q1  μ h)
    · replace h := it_t g3 h
      refine sm_aload_n dX12_goThrough_40 rfl rfl ?_
      obtain ⟨t41, μ9z, g8, h⟩ := ob_some h
      refine sm_callV dX12_goThrough_41 cv_X12_look ml_RX12_133 k_355 rfl rfl (by decide) (as := []) rfl (Nat.le_of_ble_eq_true rfl) rfl (s_Mo_look (D := d) (by omega) N g8) (fun r9 μ9 hp => ?_)
      rw [hp.1, hp.2]
      clear hp r9 μ9
      refine sm_bipush dX12_goThrough_44 bp_59 ?_
      refine sm_icmp_ne (tgt := 66) dX12_goThrough_46 (by decide) (fun g9 => ?_) (fun g9 => ?_)
      · replace h := it_f g9 h
        exact Sm_weak (le_s rfl (le_n (le_n (le_n le_0)))) (s_Mo_goThrough_B66 hD N hk_q1  μ9z h)
      · replace h := it_t g9 h
        refine sm_aload_n dX12_goThrough_49 rfl rfl ?_
        refine sm_dup dX12_goThrough_50 rfl ?_
        refine sm_getI dX12_goThrough_51 fg_RX12_114 k_355 ?_
        refine sm_iconst dX12_goThrough_54 ic_1 ?_
        refine sm_iadd dX12_goThrough_55 ?_
        refine sm_putI dX12_goThrough_56 fp_RX12_114 k_355 ?_
        replace h := wr_some h
        refine sm_aload_n dX12_goThrough_59 rfl rfl ?_
        obtain ⟨μ11z, g10, h⟩ := obv_some h
        refine sm_callV dX12_goThrough_60 cv_X12_clause ml_RX12_206 k_355 rfl rfl (by decide) (as := []) rfl (Nat.le_of_ble_eq_true rfl) rfl (s_Mo_clause (D := d) (by omega) N g10) (fun r9 μ9 hp => ?_)
        rw [hp.1, hp.2]
        clear hp r9 μ9
        refine sm_goto (tgt := 32) dX12_goThrough_63 (by decide) ?_
        exact Sm_weak (le_s rfl (le_n (le_n (le_n le_0)))) (ih  μ11z h)
set_option maxRecDepth 100000 in
set_option maxHeartbeats 4000000 in
theorem s_Mo_goThrough {D : Nat} (hD : 89 ≤ D) (N : Nat) {q1 : Nat} (hk_q1 : sh_k q1 = 21) {x2 : Int32} {x3 : Int32} {μ : MM} {μr : MM} (h : f_Mo_goThrough N q1 x2 x3 μ = some μr) : Cl D mX12_goThrough [av_r 355, av_r q1, av_i x2, av_i x3] μ (po_v μr) := by
  obtain ⟨d, rfl⟩ : ∃ d, D = d + 1 := ⟨D - 1, by omega⟩
  refine Cl_of pn_X12 (Nat.le_of_ble_eq_true rfl) ?_
  show Sm (d + 1) mX12_goThrough 0 [some (av_r 355), some (av_r q1), some (av_i x2), some (av_i x3)] [] μ (po_v μr)
  unfold f_Mo_goThrough at h
  refine sm_aload_n dX12_goThrough_0 rfl rfl ?_
  refine sm_aload_n dX12_goThrough_1 rfl rfl ?_
  refine sm_iload_n dX12_goThrough_2 rfl rfl ?_
  refine sm_iload_n dX12_goThrough_3 rfl rfl ?_
  obtain ⟨μ1z, g1, h⟩ := obv_some h
  refine sm_callV dX12_goThrough_4 cv_X12_starts ml_RX12_202 k_355 rfl rfl (by decide) (as := [av_r q1, av_i x2, av_i x3]) rfl (Nat.le_of_ble_eq_true rfl) rfl (s_Mo_starts (D := d) (by omega) N hk_q1 g1) (fun r9 μ9 hp => ?_)
  rw [hp.1, hp.2]
  clear hp r9 μ9
  refine sm_aload_n dX12_goThrough_7 rfl rfl ?_
  refine sm_bipush dX12_goThrough_8 bp_121 ?_
  refine sm_putI dX12_goThrough_10 fp_RX12_196 k_355 ?_
  replace h := wr_some h
  refine sm_aload_n dX12_goThrough_13 rfl rfl ?_
  refine sm_iconst dX12_goThrough_14 ic_0 ?_
  refine sm_putI dX12_goThrough_15 fp_RX12_126 k_355 ?_
  replace h := wr_some h
  refine sm_aload_n dX12_goThrough_18 rfl rfl ?_
  refine sm_iconst dX12_goThrough_19 ic_0 ?_
  refine sm_putZ dX12_goThrough_20 fp_RX12_192 k_355 (Or.inl rfl) ?_
  replace h := wr_some h
  refine sm_aload_n dX12_goThrough_23 rfl rfl ?_
  refine sm_iconst dX12_goThrough_24 ic_0 ?_
  refine sm_putI dX12_goThrough_25 fp_RX12_199 k_355 ?_
  replace h := wr_some h
  refine sm_aload_n dX12_goThrough_28 rfl rfl ?_
  obtain ⟨μ6z, g2, h⟩ := obv_some h
  refine sm_callV dX12_goThrough_29 cv_X12_clause ml_RX12_206 k_355 rfl rfl (by decide) (as := []) rfl (Nat.le_of_ble_eq_true rfl) rfl (s_Mo_clause (D := d) (by omega) N g2) (fun r9 μ9 hp => ?_)
  rw [hp.1, hp.2]
  clear hp r9 μ9
  exact Sm_weak (le_s rfl (le_n (le_n (le_n le_0)))) (s_Mo_goThrough_L32 hD N hk_q1 N  μ6z h)
set_option maxRecDepth 100000 in
set_option maxHeartbeats 4000000 in
theorem s_Mo_here {D : Nat} (hD : 0 ≤ D) (N : Nat) {μ : MM} {r : Int32} {μr : MM} (h : f_Mo_here N μ = some (r, μr)) : Cl D mX12_here [av_r 355] μ (po_i r μr) := by
  refine Cl_of pn_X12 (Nat.le_of_ble_eq_true rfl) ?_
  show Sm D mX12_here 0 [some (av_r 355)] [] μ (po_i r μr)
  unfold f_Mo_here at h
  refine sm_aload_n dX12_here_0 rfl rfl ?_
  refine sm_getI dX12_here_1 fg_RX12_114 k_355 ?_
  refine sm_aload_n dX12_here_4 rfl rfl ?_
  refine sm_getI dX12_here_5 fg_RX12_117 k_355 ?_
  refine sm_icmp_ge (tgt := 32) dX12_here_8 (by decide) (fun g1 => ?_) (fun g1 => ?_)
  · replace h := it_t g1 h
    refine sm_iconst dX12_here_32 ic_m1 ?_
    cases h
    exact sm_ret_i (st := []) dX12_here_33 rfl ⟨rfl, rfl⟩
  · replace h := it_f g1 h
    refine sm_aload_n dX12_here_11 rfl rfl ?_
    refine sm_getX dX12_here_12 fg_RX12_23 k_355 ?_
    refine sm_aload_n dX12_here_15 rfl rfl ?_
    refine sm_getI dX12_here_16 fg_RX12_120 k_355 ?_
    refine sm_aload_n dX12_here_19 rfl rfl ?_
    refine sm_getI dX12_here_20 fg_RX12_114 k_355 ?_
    refine sm_iadd dX12_here_23 ?_
    obtain ⟨g3, h⟩ := gd_some h
    obtain ⟨g2, h⟩ := gd_some h
    refine sm_bald (j := (Int32.toNatClampNeg ((μ.1 355 8) + (μ.1 355 10)))) dX12_here_24 (of_decide_eq_true g3) (in_sz rfl g2) rfl ?_
    refine sm_sipush dX12_here_25 sp_255 ?_
    refine sm_iand dX12_here_28 ?_
    refine sm_goto (tgt := 33) dX12_here_29 (by decide) ?_
    cases h
    exact sm_ret_i (st := []) dX12_here_33 rfl ⟨rfl, rfl⟩
set_option maxRecDepth 100000 in
set_option maxHeartbeats 4000000 in
theorem s_Mo_spotOf_L2 {D : Nat} (hD : 4 ≤ D) (N : Nat) {q0 : Nat} (hk_q0 : sh_k q0 = 42) {r : Int32} {μr : MM} : ∀ (n : Nat) (x1 : Int32) (x2 : Int32) (μ : MM), f_Mo_spotOf_L2 N q0 n x1 x2 μ = some (r, μr) → Sm D mX12_spotOf 2 [some (av_r q0), some (av_i x1), some (av_i x2)] [] μ (po_i r μr) := by
  obtain ⟨d, rfl⟩ : ∃ d, D = d + 1 := ⟨D - 1, by omega⟩
  intro n
  induction n with
  | zero => intro x1 x2 μ h; cases (show none = some (r, μr) from h)
  | succ n ih =>
    intro x1 x2 μ h
    rw [f_Mo_spotOf_L2] at h
    refine sm_iload_n dX12_spotOf_2 rfl rfl ?_
    refine sm_aload_n dX12_spotOf_3 rfl rfl ?_
    obtain ⟨t4, μ1z, g1, h⟩ := ob_some h
    refine sm_callT dX12_spotOf_4 cv_J0_length_8abf5 ml_RX12_94 hk_q0 rfl (as := []) rfl (Nat.le_of_ble_eq_true rfl) rfl (s_St_length_8abf5 (D := d) (by omega) N hk_q0 g1) (fun r9 μ9 hp => ?_)
    rw [hp.1, hp.2]
    clear hp r9 μ9
    refine sm_icmp_ge (tgt := 27) dX12_spotOf_7 (by decide) (fun g2 => ?_) (fun g2 => ?_)
    · replace h := it_t g2 h
      refine sm_iconst dX12_spotOf_27 ic_m1 ?_
      cases h
      exact sm_ret_i (st := []) dX12_spotOf_28 rfl ⟨rfl, rfl⟩
    · replace h := it_f g2 h
      refine sm_aload_n dX12_spotOf_10 rfl rfl ?_
      refine sm_iload_n dX12_spotOf_11 rfl rfl ?_
      obtain ⟨t12, μ2z, g3, h⟩ := ob_some h
      refine sm_callT dX12_spotOf_12 cv_J0_charAt_5068e ml_RX12_100 hk_q0 rfl (as := [av_i x2]) rfl (Nat.le_of_ble_eq_true rfl) rfl (s_St_charAt_5068e (D := d) (by omega) N hk_q0 g3) (fun r9 μ9 hp => ?_)
      rw [hp.1, hp.2]
      clear hp r9 μ9
      refine sm_iload_n dX12_spotOf_15 rfl rfl ?_
      refine sm_icmp_ne (tgt := 21) dX12_spotOf_16 (by decide) (fun g4 => ?_) (fun g4 => ?_)
      · replace h := it_f g4 h
        refine sm_iinc dX12_spotOf_21 rfl (congrArg (HAdd.hAdd x2) ic_1) (Nat.le_of_ble_eq_true rfl) (pv_i rfl) ?_
        refine sm_goto (tgt := 2) dX12_spotOf_24 (by decide) ?_
        exact Sm_weak (le_s rfl (le_s rfl (le_s rfl le_0))) (ih x1 (x2 + 1) μ2z h)
      · replace h := it_t g4 h
        refine sm_iload_n dX12_spotOf_19 rfl rfl ?_
        cases h
        exact sm_ret_i (st := []) dX12_spotOf_20 rfl ⟨rfl, rfl⟩
set_option maxRecDepth 100000 in
set_option maxHeartbeats 4000000 in
theorem s_Mo_spotOf {D : Nat} (hD : 4 ≤ D) (N : Nat) {q0 : Nat} (hk_q0 : sh_k q0 = 42) {x1 : Int32} {μ : MM} {r : Int32} {μr : MM} (h : f_Mo_spotOf N q0 x1 μ = some (r, μr)) : Cl D mX12_spotOf [av_r q0, av_i x1] μ (po_i r μr) := by
  obtain ⟨d, rfl⟩ : ∃ d, D = d + 1 := ⟨D - 1, by omega⟩
  refine Cl_of pn_X12 (Nat.le_of_ble_eq_true rfl) ?_
  show Sm (d + 1) mX12_spotOf 0 [some (av_r q0), some (av_i x1), none] [] μ (po_i r μr)
  unfold f_Mo_spotOf at h
  refine sm_iconst dX12_spotOf_0 ic_0 ?_
  refine sm_istore_n dX12_spotOf_1 rfl (Nat.le_of_ble_eq_true rfl) (pv_i rfl) ?_
  exact Sm_weak (le_s rfl (le_s rfl (le_s rfl le_0))) (s_Mo_spotOf_L2 hD N hk_q0 N x1 0 μ h)
set_option maxRecDepth 100000 in
set_option maxHeartbeats 4000000 in
theorem s_Mo_number_B67 {D : Nat} (hD : 1 ≤ D) (N : Nat) {r : Int32} {μr : MM} (x1 : Int32) (x2 : Int32) (x4 : Int32) (μ : MM) (h : f_Mo_number_B67 N x1 x2 x4 μ = some (r, μr)) : Sm D mX12_number 67 [some (av_r 355), some (av_i x1), some (av_i x2), none, some (av_i x4)] [] μ (po_i r μr) := by
  obtain ⟨d, rfl⟩ : ∃ d, D = d + 1 := ⟨D - 1, by omega⟩
  unfold f_Mo_number_B67 at h
  refine sm_aload_n dX12_number_67 rfl rfl ?_
  obtain ⟨t68, μ5z, g6, h⟩ := ob_some h
  refine sm_callV dX12_number_68 cv_X12_isDigit ml_RX12_163 k_355 rfl rfl (by decide) (as := []) rfl (Nat.le_of_ble_eq_true rfl) rfl (s_Mo_isDigit (D := d) (by omega) N g6) (fun r9 μ9 hp => ?_)
  rw [hp.1, hp.2]
  clear hp r9 μ9
  refine sm_if_eq (tgt := 81) dX12_number_71 (by decide) (fun g7 => ?_) (fun g7 => ?_)
  · replace h := it_t g7 h
    refine sm_iload dX12_number_81 rfl ?_
    refine sm_i2l dX12_number_83 ?_
    refine sm_iload_n dX12_number_84 rfl rfl ?_
    refine sm_i2l dX12_number_85 ?_
    refine sm_iload_n dX12_number_86 rfl rfl ?_
    refine sm_i2l dX12_number_87 ?_
    obtain ⟨t88, μ6z, g8, h⟩ := ob_some h
    refine sm_callS dX12_number_88 cs_X12_isIn ml_RX12_212 (as := [av_l (Int32.toInt64 x4), av_l (Int32.toInt64 x1), av_l (Int32.toInt64 x2)]) rfl (Nat.le_of_ble_eq_true rfl) rfl (s_Mo_isIn (D := d) (by omega) N g8) (fun r9 μ9 hp => ?_)
    rw [hp.1, hp.2]
    clear hp r9 μ9
    refine sm_if_ne (tgt := 109) dX12_number_91 (by decide) (fun g9 => ?_) (fun g9 => ?_)
    · replace h := it_f g9 h
      refine sm_iload dX12_number_109 rfl ?_
      cases h
      exact sm_ret_i (st := []) dX12_number_111 rfl ⟨rfl, rfl⟩
    · replace h := it_t g9 h
      refine sm_aload_n dX12_number_94 rfl rfl ?_
      refine sm_dup dX12_number_95 rfl ?_
      refine sm_getI dX12_number_96 fg_RX12_114 k_355 ?_
      refine sm_iconst dX12_number_99 ic_1 ?_
      refine sm_isub dX12_number_100 ?_
      refine sm_putI dX12_number_101 fp_RX12_114 k_355 ?_
      replace h := wr_some h
      refine sm_aload_n dX12_number_104 rfl rfl ?_
      obtain ⟨t105, μ8z, g10, h⟩ := ob_some h
      refine sm_callV dX12_number_105 cv_X12_fails ml_RX12_129 k_355 rfl rfl (by decide) (as := []) rfl (Nat.le_of_ble_eq_true rfl) rfl (s_Mo_fails (D := d) (by omega) N g10) (fun r9 μ9 hp => ?_)
      rw [hp.1, hp.2]
      clear hp r9 μ9
      refine sm_pop dX12_number_108 rfl ?_
      refine sm_iload dX12_number_109 rfl ?_
      cases h
      exact sm_ret_i (st := []) dX12_number_111 rfl ⟨rfl, rfl⟩
  · replace h := it_f g7 h
    refine sm_aload_n dX12_number_74 rfl rfl ?_
    obtain ⟨t75, μ9z, g11, h⟩ := ob_some h
    refine sm_callV dX12_number_75 cv_X12_fails ml_RX12_129 k_355 rfl rfl (by decide) (as := []) rfl (Nat.le_of_ble_eq_true rfl) rfl (s_Mo_fails (D := d) (by omega) N g11) (fun r9 μ9 hp => ?_)
    rw [hp.1, hp.2]
    clear hp r9 μ9
    refine sm_pop dX12_number_78 rfl ?_
    refine sm_iconst dX12_number_79 ic_0 ?_
    cases h
    exact sm_ret_i (st := []) dX12_number_80 rfl ⟨rfl, rfl⟩
set_option maxRecDepth 100000 in
set_option maxHeartbeats 4000000 in
theorem s_Mo_number {D : Nat} (hD : 1 ≤ D) (N : Nat) {x1 : Int32} {x2 : Int32} {μ : MM} {r : Int32} {μr : MM} (h : f_Mo_number N x1 x2 μ = some (r, μr)) : Cl D mX12_number [av_r 355, av_i x1, av_i x2] μ (po_i r μr) := by
  obtain ⟨d, rfl⟩ : ∃ d, D = d + 1 := ⟨D - 1, by omega⟩
  refine Cl_of pn_X12 (Nat.le_of_ble_eq_true rfl) ?_
  show Sm (d + 1) mX12_number 0 [some (av_r 355), some (av_i x1), some (av_i x2), none, none] [] μ (po_i r μr)
  unfold f_Mo_number at h
  refine sm_aload_n dX12_number_0 rfl rfl ?_
  obtain ⟨t1, μ1z, g1, h⟩ := ob_some h
  refine sm_callV dX12_number_1 cv_X12_look ml_RX12_133 k_355 rfl rfl (by decide) (as := []) rfl (Nat.le_of_ble_eq_true rfl) rfl (s_Mo_look (D := d) (by omega) N g1) (fun r9 μ9 hp => ?_)
  rw [hp.1, hp.2]
  clear hp r9 μ9
  refine sm_istore_n dX12_number_4 rfl (Nat.le_of_ble_eq_true rfl) (pv_i rfl) ?_
  refine sm_aload_n dX12_number_5 rfl rfl ?_
  obtain ⟨t6, μ2z, g2, h⟩ := ob_some h
  refine sm_callV dX12_number_6 cv_X12_isDigit ml_RX12_163 k_355 rfl rfl (by decide) (as := []) rfl (Nat.le_of_ble_eq_true rfl) rfl (s_Mo_isDigit (D := d) (by omega) N g2) (fun r9 μ9 hp => ?_)
  rw [hp.1, hp.2]
  clear hp r9 μ9
  refine sm_if_ne (tgt := 19) dX12_number_9 (by decide) (fun g3 => ?_) (fun g3 => ?_)
  · replace h := it_f g3 h
    refine sm_iload_n dX12_number_19 rfl rfl ?_
    refine sm_bipush dX12_number_20 bp_48 ?_
    refine sm_isub dX12_number_22 ?_
    refine sm_istore dX12_number_23 (Nat.le_of_ble_eq_true rfl) (pv_i rfl) ?_
    refine sm_aload_n dX12_number_25 rfl rfl ?_
    refine sm_dup dX12_number_26 rfl ?_
    refine sm_getI dX12_number_27 fg_RX12_114 k_355 ?_
    refine sm_iconst dX12_number_30 ic_1 ?_
    refine sm_iadd dX12_number_31 ?_
    refine sm_putI dX12_number_32 fp_RX12_114 k_355 ?_
    replace h := wr_some h
    refine sm_aload_n dX12_number_35 rfl rfl ?_
    obtain ⟨t36, μ4z, g4, h⟩ := ob_some h
    refine sm_callV dX12_number_36 cv_X12_isDigit ml_RX12_163 k_355 rfl rfl (by decide) (as := []) rfl (Nat.le_of_ble_eq_true rfl) rfl (s_Mo_isDigit (D := d) (by omega) N g4) (fun r9 μ9 hp => ?_)
    rw [hp.1, hp.2]
    clear hp r9 μ9
    refine sm_if_eq (tgt := 67) dX12_number_39 (by decide) (fun g5 => ?_) (fun g5 => ?_)
    · replace h := it_t g5 h
      exact Sm_weak (le_s rfl (le_s rfl (le_s rfl (le_n (le_s rfl le_0))))) (s_Mo_number_B67 hD N x1 x2 (t1 - 48) μ4z h)
    · replace h := it_f g5 h
      refine sm_bipush dX12_number_42 bp_10 ?_
      refine sm_iload dX12_number_44 rfl ?_
      refine sm_imul dX12_number_46 ?_
      refine sm_aload_n dX12_number_47 rfl rfl ?_
      obtain ⟨t48, μ10z, g12, h⟩ := ob_some h
      refine sm_callV dX12_number_48 cv_X12_here ml_RX12_209 k_355 rfl rfl (by decide) (as := []) rfl (Nat.le_of_ble_eq_true rfl) rfl (s_Mo_here (D := d) (by omega) N g12) (fun r9 μ9 hp => ?_)
      rw [hp.1, hp.2]
      clear hp r9 μ9
      refine sm_iadd dX12_number_51 ?_
      refine sm_bipush dX12_number_52 bp_48 ?_
      refine sm_isub dX12_number_54 ?_
      refine sm_istore dX12_number_55 (Nat.le_of_ble_eq_true rfl) (pv_i rfl) ?_
      refine sm_aload_n dX12_number_57 rfl rfl ?_
      refine sm_dup dX12_number_58 rfl ?_
      refine sm_getI dX12_number_59 fg_RX12_114 k_355 ?_
      refine sm_iconst dX12_number_62 ic_1 ?_
      refine sm_iadd dX12_number_63 ?_
      refine sm_putI dX12_number_64 fp_RX12_114 k_355 ?_
      replace h := wr_some h
      exact Sm_weak (le_s rfl (le_s rfl (le_s rfl (le_n (le_s rfl le_0))))) (s_Mo_number_B67 hD N x1 x2 (((10 * (t1 - 48)) + t48) - 48) (mm_I μ10z 355 10 ((μ10z.1 355 10) + 1)) h)
  · replace h := it_t g3 h
    refine sm_aload_n dX12_number_12 rfl rfl ?_
    obtain ⟨t13, μ12z, g13, h⟩ := ob_some h
    refine sm_callV dX12_number_13 cv_X12_fails ml_RX12_129 k_355 rfl rfl (by decide) (as := []) rfl (Nat.le_of_ble_eq_true rfl) rfl (s_Mo_fails (D := d) (by omega) N g13) (fun r9 μ9 hp => ?_)
    rw [hp.1, hp.2]
    clear hp r9 μ9
    refine sm_pop dX12_number_16 rfl ?_
    refine sm_iconst dX12_number_17 ic_0 ?_
    cases h
    exact sm_ret_i (st := []) dX12_number_18 rfl ⟨rfl, rfl⟩
set_option maxRecDepth 100000 in
set_option maxHeartbeats 4000000 in
theorem s_Mo_mostOf_B16 {D : Nat} (hD : 0 ≤ D) (N : Nat) {r : Int32} {μr : MM} (x0 : Int32) (x1 : Int32) (μ : MM) (h : f_Mo_mostOf_B16 N x0 x1 μ = some (r, μr)) : Sm D mX12_mostOf 16 [some (av_i x0), some (av_i x1)] [] μ (po_i r μr) := by
  unfold f_Mo_mostOf_B16 at h
  refine sm_iload_n dX12_mostOf_16 rfl rfl ?_
  refine sm_bipush dX12_mostOf_17 bp_99 ?_
  refine sm_icmp_ne (tgt := 32) dX12_mostOf_19 (by decide) (fun g2 => ?_) (fun g2 => ?_)
  · replace h := it_f g2 h
    refine sm_bipush dX12_mostOf_32 bp_9 ?_
    cases h
    exact sm_ret_i (st := []) dX12_mostOf_34 rfl ⟨rfl, rfl⟩
  · replace h := it_t g2 h
    refine sm_iload_n dX12_mostOf_22 rfl rfl ?_
    refine sm_iconst dX12_mostOf_23 ic_2 ?_
    refine sm_icmp_ne (tgt := 32) dX12_mostOf_24 (by decide) (fun g3 => ?_) (fun g3 => ?_)
    · replace h := it_f g3 h
      refine sm_bipush dX12_mostOf_32 bp_9 ?_
      cases h
      exact sm_ret_i (st := []) dX12_mostOf_34 rfl ⟨rfl, rfl⟩
    · replace h := it_t g3 h
      refine sm_bipush dX12_mostOf_27 bp_8 ?_
      refine sm_goto (tgt := 34) dX12_mostOf_29 (by decide) ?_
      cases h
      exact sm_ret_i (st := []) dX12_mostOf_34 rfl ⟨rfl, rfl⟩
set_option maxRecDepth 100000 in
set_option maxHeartbeats 4000000 in
theorem s_Mo_mostOf {D : Nat} (hD : 0 ≤ D) (N : Nat) {x0 : Int32} {x1 : Int32} {μ : MM} {r : Int32} {μr : MM} (h : f_Mo_mostOf N x0 x1 μ = some (r, μr)) : Cl D mX12_mostOf [av_i x0, av_i x1] μ (po_i r μr) := by
  refine Cl_of pn_X12 (Nat.le_of_ble_eq_true rfl) ?_
  show Sm D mX12_mostOf 0 [some (av_i x0), some (av_i x1)] [] μ (po_i r μr)
  unfold f_Mo_mostOf at h
  refine sm_iload_n dX12_mostOf_0 rfl rfl ?_
  refine sm_bipush dX12_mostOf_1 bp_115 ?_
  refine sm_icmp_ne (tgt := 16) dX12_mostOf_3 (by decide) (fun g1 => ?_) (fun g1 => ?_)
  · replace h := it_f g1 h
    exact Sm_weak (le_s rfl (le_s rfl le_0)) (s_Mo_mostOf_B16 hD N x0 x1 μ h)
  · replace h := it_t g1 h
    refine sm_iload_n dX12_mostOf_6 rfl rfl ?_
    refine sm_iconst dX12_mostOf_7 ic_1 ?_
    refine sm_icmp_ne (tgt := 16) dX12_mostOf_8 (by decide) (fun g4 => ?_) (fun g4 => ?_)
    · replace h := it_f g4 h
      exact Sm_weak (le_s rfl (le_s rfl le_0)) (s_Mo_mostOf_B16 hD N x0 x1 μ h)
    · replace h := it_t g4 h
      refine sm_bipush dX12_mostOf_11 bp_99 ?_
      refine sm_goto (tgt := 34) dX12_mostOf_13 (by decide) ?_
      cases h
      exact sm_ret_i (st := []) dX12_mostOf_34 rfl ⟨rfl, rfl⟩
set_option maxRecDepth 100000 in
set_option maxHeartbeats 4000000 in
theorem s_Mo_usual {D : Nat} (hD : 0 ≤ D) (N : Nat) {x0 : Int32} {x1 : Int32} {μ : MM} {r : Int32} {μr : MM} (h : f_Mo_usual N x0 x1 μ = some (r, μr)) : Cl D mX12_usual [av_i x0, av_i x1] μ (po_i r μr) := by
  refine Cl_of pn_X12 (Nat.le_of_ble_eq_true rfl) ?_
  show Sm D mX12_usual 0 [some (av_i x0), some (av_i x1)] [] μ (po_i r μr)
  unfold f_Mo_usual at h
  refine sm_iload_n dX12_usual_0 rfl rfl ?_
  refine sm_bipush dX12_usual_1 bp_115 ?_
  refine sm_icmp_ne (tgt := 17) dX12_usual_3 (by decide) (fun g1 => ?_) (fun g1 => ?_)
  · replace h := it_f g1 h
    refine sm_iload_n dX12_usual_17 rfl rfl ?_
    refine sm_bipush dX12_usual_18 bp_116 ?_
    refine sm_icmp_ne (tgt := 25) dX12_usual_20 (by decide) (fun g2 => ?_) (fun g2 => ?_)
    · replace h := it_f g2 h
      refine sm_iload_n dX12_usual_25 rfl rfl ?_
      have hj26 : ∀ (v26_0 : Int32), v26_0 = (if x1 = 0 then (5 : Int32) else (if x1 = 1 then (1 : Int32) else 8)) → Sm D mX12_usual 44 [none, none] [av_i v26_0] μ (po_i r μr) := by
        intro v26_0 ev26_0
        subst ev26_0
        cases h
        exact sm_ret_i (st := []) dX12_usual_44 rfl ⟨rfl, rfl⟩
      refine sm_if_ne (tgt := 33) dX12_usual_26 (by decide) (fun c26_0 => ?_) (fun c26_0 => ?_)
      · refine sm_iload_n dX12_usual_33 rfl rfl ?_
        refine sm_iconst dX12_usual_34 ic_1 ?_
        refine sm_icmp_ne (tgt := 42) dX12_usual_35 (by decide) (fun c35_1 => ?_) (fun c35_1 => ?_)
        · refine sm_bipush dX12_usual_42 bp_8 ?_
          exact Sm_weak (le_n (le_n le_0)) (hj26 _ ((if_neg c26_0).trans (if_neg c35_1)).symm)
        · refine sm_iconst dX12_usual_38 ic_1 ?_
          refine sm_goto (tgt := 44) dX12_usual_39 (by decide) ?_
          exact Sm_weak (le_n (le_n le_0)) (hj26 _ ((if_neg c26_0).trans (if_pos c35_1)).symm)
      · refine sm_iconst dX12_usual_29 ic_5 ?_
        refine sm_goto (tgt := 44) dX12_usual_30 (by decide) ?_
        exact Sm_weak (le_n (le_n le_0)) (hj26 _ (if_pos c26_0).symm)
    · replace h := it_t g2 h
      refine sm_iconst dX12_usual_23 ic_1 ?_
      cases h
      exact sm_ret_i (st := []) dX12_usual_24 rfl ⟨rfl, rfl⟩
  · replace h := it_t g1 h
    refine sm_iload_n dX12_usual_6 rfl rfl ?_
    have hj7 : ∀ (v7_0 : Int32), v7_0 = (if x1 = 0 then (1 : Int32) else 20) → Sm D mX12_usual 16 [none, none] [av_i v7_0] μ (po_i r μr) := by
      intro v7_0 ev7_0
      subst ev7_0
      cases h
      exact sm_ret_i (st := []) dX12_usual_16 rfl ⟨rfl, rfl⟩
    refine sm_if_ne (tgt := 14) dX12_usual_7 (by decide) (fun c7_0 => ?_) (fun c7_0 => ?_)
    · refine sm_bipush dX12_usual_14 bp_20 ?_
      exact Sm_weak (le_n (le_n le_0)) (hj7 _ (if_neg c7_0).symm)
    · refine sm_iconst dX12_usual_10 ic_1 ?_
      refine sm_goto (tgt := 16) dX12_usual_11 (by decide) ?_
      exact Sm_weak (le_n (le_n le_0)) (hj7 _ (if_pos c7_0).symm)
set_option maxRecDepth 100000 in
set_option maxHeartbeats 4000000 in
theorem s_Mo_readItems_B116 {D : Nat} (hD : 5 ≤ D) (N : Nat) {q2 : Nat} (hk_q2 : sh_k q2 = 20) {q4 : Nat} (hk_q4 : sh_k q4 = 42) {μr : MM} {k45 : Int32 → Int32 → Int32 → Int32 → MM → Option MM} (hk45 : ∀ (x1 : Int32) (x3 : Int32) (x5 : Int32) (x6 : Int32) (μ : MM), k45 x1 x3 x5 x6 μ = some μr → Sm D mX12_readItems 45 [some (av_r 355), some (av_i x1), some (av_r q2), some (av_i x3), some (av_r q4), some (av_i x5), some (av_i x6)] [] μ (po_v μr)) (x1 : Int32) (x3 : Int32) (x5 : Int32) (x6 : Int32) (s1 : Int32) (s3 : Int32) (μ : MM) (h : f_Mo_readItems_B116 N q2 q4 k45 x1 x3 x5 x6 s1 s3 μ = some μr) : Sm D mX12_readItems 116 [some (av_r 355), some (av_i x1), some (av_r q2), some (av_i x3), some (av_r q4), some (av_i x5), some (av_i x6)] [av_i s3, av_r 355, av_i s1, av_r q2] μ (po_v μr) := by
  obtain ⟨d, rfl⟩ : ∃ d, D = d + 1 := ⟨D - 1, by omega⟩
  unfold f_Mo_readItems_B116 at h
  refine sm_iload_n dX12_readItems_116 rfl rfl ?_
  refine sm_iload dX12_readItems_117 rfl ?_
  obtain ⟨t119, μ6z, g10, h⟩ := ob_some h
  refine sm_callS dX12_readItems_119 cs_X12_mostOf ml_RX12_228 (as := [av_i x1, av_i x6]) rfl (Nat.le_of_ble_eq_true rfl) rfl (s_Mo_mostOf (D := d) (by omega) N g10) (fun r9 μ9 hp => ?_)
  rw [hp.1, hp.2]
  clear hp r9 μ9
  obtain ⟨t122, μ7z, g11, h⟩ := ob_some h
  refine sm_callV dX12_readItems_122 cv_X12_number ml_RX12_231 k_355 rfl rfl (by decide) (as := [av_i s3, av_i t119]) rfl (Nat.le_of_ble_eq_true rfl) rfl (s_Mo_number (D := d) (by omega) N g11) (fun r9 μ9 hp => ?_)
  rw [hp.1, hp.2]
  clear hp r9 μ9
  obtain ⟨g12, h⟩ := gd_some h
  refine sm_iast (j := (Int32.toNatClampNeg s1)) dX12_readItems_125 hk_q2 (in_sz rfl g12) rfl ?_
  replace h := wr_some h
  refine sm_aload_n dX12_readItems_126 rfl rfl ?_
  refine sm_getI dX12_readItems_127 fg_RX12_123 k_355 ?_
  refine sm_iconst dX12_readItems_130 ic_m1 ?_
  refine sm_icmp_ne (tgt := 45) dX12_readItems_131 (by decide) (fun g13 => ?_) (fun g13 => ?_)
  · replace h := it_f g13 h
    exact Sm_weak (le_s rfl (le_s rfl (le_s rfl (le_s rfl (le_s rfl (le_s rfl (le_s rfl le_0))))))) (hk45 x1 x3 x5 x6 (mm_I μ7z q2 (Int32.toNatClampNeg s1) t122) h)
  · replace h := it_t g13 h
    refine sm_aload dX12_readItems_134 rfl ?_
    refine sm_aload_n dX12_readItems_136 rfl rfl ?_
    obtain ⟨t137, μ9z, g14, h⟩ := ob_some h
    refine sm_callV dX12_readItems_137 cv_X12_look ml_RX12_133 k_355 rfl rfl (by decide) (as := []) rfl (Nat.le_of_ble_eq_true rfl) rfl (s_Mo_look (D := d) (by omega) N g14) (fun r9 μ9 hp => ?_)
    rw [hp.1, hp.2]
    clear hp r9 μ9
    obtain ⟨t140, μ10z, g15, h⟩ := ob_some h
    refine sm_callS dX12_readItems_140 cs_X12_spotOf ml_RX12_220 (as := [av_r q4, av_i t137]) rfl (Nat.le_of_ble_eq_true rfl) rfl (s_Mo_spotOf (D := d) (by omega) N hk_q4 g15) (fun r9 μ9 hp => ?_)
    rw [hp.1, hp.2]
    clear hp r9 μ9
    refine sm_istore dX12_readItems_143 (Nat.le_of_ble_eq_true rfl) (pv_i rfl) ?_
    refine sm_goto (tgt := 45) dX12_readItems_145 (by decide) ?_
    exact Sm_weak (le_s rfl (le_s rfl (le_s rfl (le_s rfl (le_s rfl (le_s rfl (le_s rfl le_0))))))) (hk45 x1 x3 x5 t140 μ10z h)
set_option maxRecDepth 100000 in
set_option maxHeartbeats 4000000 in
theorem s_Mo_readItems_B115 {D : Nat} (hD : 5 ≤ D) (N : Nat) {q2 : Nat} (hk_q2 : sh_k q2 = 20) {q4 : Nat} (hk_q4 : sh_k q4 = 42) {μr : MM} {k45 : Int32 → Int32 → Int32 → Int32 → MM → Option MM} (hk45 : ∀ (x1 : Int32) (x3 : Int32) (x5 : Int32) (x6 : Int32) (μ : MM), k45 x1 x3 x5 x6 μ = some μr → Sm D mX12_readItems 45 [some (av_r 355), some (av_i x1), some (av_r q2), some (av_i x3), some (av_r q4), some (av_i x5), some (av_i x6)] [] μ (po_v μr)) (x1 : Int32) (x3 : Int32) (x5 : Int32) (x6 : Int32) (s1 : Int32) (μ : MM) (h : f_Mo_readItems_B115 N q2 q4 k45 x1 x3 x5 x6 s1 μ = some μr) : Sm D mX12_readItems 115 [some (av_r 355), some (av_i x1), some (av_r q2), some (av_i x3), some (av_r q4), some (av_i x5), some (av_i x6)] [av_r 355, av_i s1, av_r q2] μ (po_v μr) := by
  obtain ⟨d, rfl⟩ : ∃ d, D = d + 1 := ⟨D - 1, by omega⟩
  unfold f_Mo_readItems_B115 at h
  refine sm_iconst dX12_readItems_115 ic_0 ?_
  exact Sm_weak (le_s rfl (le_s rfl (le_s rfl (le_s rfl (le_s rfl (le_s rfl (le_s rfl le_0))))))) (s_Mo_readItems_B116 hD N hk_q2 hk_q4 hk45 x1 x3 x5 x6 s1 0 μ h)
set_option maxRecDepth 100000 in
set_option maxHeartbeats 4000000 in
theorem s_Mo_readItems_L45 {D : Nat} (hD : 5 ≤ D) (N : Nat) {q2 : Nat} (hk_q2 : sh_k q2 = 20) {q4 : Nat} (hk_q4 : sh_k q4 = 42) {μr : MM} : ∀ (n : Nat) (x1 : Int32) (x3 : Int32) (x5 : Int32) (x6 : Int32) (μ : MM), f_Mo_readItems_L45 N q2 q4 n x1 x3 x5 x6 μ = some μr → Sm D mX12_readItems 45 [some (av_r 355), some (av_i x1), some (av_r q2), some (av_i x3), some (av_r q4), some (av_i x5), some (av_i x6)] [] μ (po_v μr) := by
  obtain ⟨d, rfl⟩ : ∃ d, D = d + 1 := ⟨D - 1, by omega⟩
  intro n
  induction n with
  | zero => intro x1 x3 x5 x6 μ h; cases (show none = some μr from h)
  | succ n ih =>
    intro x1 x3 x5 x6 μ h
    rw [f_Mo_readItems_L45] at h
    refine sm_iload dX12_readItems_45 rfl ?_
    refine sm_iconst dX12_readItems_47 ic_m1 ?_
    refine sm_icmp_eq (tgt := 148) dX12_readItems_48 (by decide) (fun g5 => ?_) (fun g5 => ?_)
    · replace h := it_t g5 h
      cases h
      exact sm_ret_v (st := []) dX12_readItems_148 rfl ⟨rfl, rfl⟩
    · replace h := it_f g5 h
      refine sm_aload_n dX12_readItems_51 rfl rfl ?_
      refine sm_getI dX12_readItems_52 fg_RX12_123 k_355 ?_
      refine sm_iconst dX12_readItems_55 ic_m1 ?_
      refine sm_icmp_ne (tgt := 148) dX12_readItems_56 (by decide) (fun g6 => ?_) (fun g6 => ?_)
      · replace h := it_f g6 h
        cases h
        exact sm_ret_v (st := []) dX12_readItems_148 rfl ⟨rfl, rfl⟩
      · replace h := it_t g6 h
        refine sm_iload dX12_readItems_59 rfl ?_
        refine sm_iload dX12_readItems_61 rfl ?_
        obtain ⟨t63, μ4z, g7, h⟩ := ob_some h
        refine sm_callS dX12_readItems_63 cs_X12_has ml_RX12_224 (as := [av_i x5, av_i x6]) rfl (Nat.le_of_ble_eq_true rfl) rfl (s_Mo_has (D := d) (by omega) N g7) (fun r9 μ9 hp => ?_)
        rw [hp.1, hp.2]
        clear hp r9 μ9
        refine sm_if_eq (tgt := 75) dX12_readItems_66 (by decide) (fun g8 => ?_) (fun g8 => ?_)
        · replace h := it_t g8 h
          refine sm_iload dX12_readItems_75 rfl ?_
          refine sm_iconst dX12_readItems_77 ic_1 ?_
          refine sm_iload dX12_readItems_78 rfl ?_
          refine sm_ishl dX12_readItems_80 ?_
          refine sm_ior dX12_readItems_81 ?_
          refine sm_istore dX12_readItems_82 (Nat.le_of_ble_eq_true rfl) (pv_r rfl) ?_
          refine sm_aload_n dX12_readItems_84 rfl rfl ?_
          refine sm_dup dX12_readItems_85 rfl ?_
          refine sm_getI dX12_readItems_86 fg_RX12_114 k_355 ?_
          refine sm_iconst dX12_readItems_89 ic_1 ?_
          refine sm_iadd dX12_readItems_90 ?_
          refine sm_putI dX12_readItems_91 fp_RX12_114 k_355 ?_
          replace h := wr_some h
          refine sm_aload_n dX12_readItems_94 rfl rfl ?_
          refine sm_iload_n dX12_readItems_95 rfl rfl ?_
          refine sm_iload dX12_readItems_96 rfl ?_
          refine sm_iadd dX12_readItems_98 ?_
          refine sm_aload_n dX12_readItems_99 rfl rfl ?_
          refine sm_iload_n dX12_readItems_100 rfl rfl ?_
          refine sm_bipush dX12_readItems_101 bp_99 ?_
          refine sm_icmp_ne (tgt := 115) dX12_readItems_103 (by decide) (fun g9 => ?_) (fun g9 => ?_)
          · replace h := it_f g9 h
            exact Sm_weak (le_s rfl (le_s rfl (le_s rfl (le_s rfl (le_s rfl (le_s rfl (le_s rfl le_0))))))) (s_Mo_readItems_B115 hD N hk_q2 hk_q4 ih x1 x3 (x5 ||| ((1 : Int32) <<< (x6 &&& 31))) x6 (x3 + x6) (mm_I μ4z 355 10 ((μ4z.1 355 10) + 1)) h)
          · replace h := it_t g9 h
            refine sm_iload dX12_readItems_106 rfl ?_
            refine sm_if_ne (tgt := 115) dX12_readItems_108 (by decide) (fun g16 => ?_) (fun g16 => ?_)
            · replace h := it_f g16 h
              exact Sm_weak (le_s rfl (le_s rfl (le_s rfl (le_s rfl (le_s rfl (le_s rfl (le_s rfl le_0))))))) (s_Mo_readItems_B115 hD N hk_q2 hk_q4 ih x1 x3 (x5 ||| ((1 : Int32) <<< (x6 &&& 31))) x6 (x3 + x6) (mm_I μ4z 355 10 ((μ4z.1 355 10) + 1)) h)
            · replace h := it_t g16 h
              refine sm_iconst dX12_readItems_111 ic_1 ?_
              refine sm_goto (tgt := 116) dX12_readItems_112 (by decide) ?_
              exact Sm_weak (le_s rfl (le_s rfl (le_s rfl (le_s rfl (le_s rfl (le_s rfl (le_s rfl le_0))))))) (s_Mo_readItems_B116 hD N hk_q2 hk_q4 ih x1 x3 (x5 ||| ((1 : Int32) <<< (x6 &&& 31))) x6 (x3 + x6) 1 (mm_I μ4z 355 10 ((μ4z.1 355 10) + 1)) h)
        · replace h := it_f g8 h
          refine sm_aload_n dX12_readItems_69 rfl rfl ?_
          obtain ⟨t70, μ11z, g17, h⟩ := ob_some h
          refine sm_callV dX12_readItems_70 cv_X12_fails ml_RX12_129 k_355 rfl rfl (by decide) (as := []) rfl (Nat.le_of_ble_eq_true rfl) rfl (s_Mo_fails (D := d) (by omega) N g17) (fun r9 μ9 hp => ?_)
          rw [hp.1, hp.2]
          clear hp r9 μ9
          refine sm_pop dX12_readItems_73 rfl ?_
          cases h
          exact sm_ret_v (st := []) dX12_readItems_74 rfl ⟨rfl, rfl⟩
set_option maxRecDepth 100000 in
set_option maxHeartbeats 4000000 in
theorem s_Mo_readItems_L3 {D : Nat} (hD : 5 ≤ D) (N : Nat) {q2 : Nat} (hk_q2 : sh_k q2 = 20) {q4 : Nat} (hk_q4 : sh_k q4 = 42) {μr : MM} : ∀ (n : Nat) (x1 : Int32) (x3 : Int32) (x5 : Int32) (μ : MM), f_Mo_readItems_L3 N q2 q4 n x1 x3 x5 μ = some μr → Sm D mX12_readItems 3 [some (av_r 355), some (av_i x1), some (av_r q2), some (av_i x3), some (av_r q4), some (av_i x5), none] [] μ (po_v μr) := by
  obtain ⟨d, rfl⟩ : ∃ d, D = d + 1 := ⟨D - 1, by omega⟩
  intro n
  induction n with
  | zero => intro x1 x3 x5 μ h; cases (show none = some μr from h)
  | succ n ih =>
    intro x1 x3 x5 μ h
    rw [f_Mo_readItems_L3] at h
    refine sm_iload dX12_readItems_3 rfl ?_
    refine sm_aload dX12_readItems_5 rfl ?_
    obtain ⟨t7, μ1z, g1, h⟩ := ob_some h
    refine sm_callT dX12_readItems_7 cv_J0_length_8abf5 ml_RX12_94 hk_q4 rfl (as := []) rfl (Nat.le_of_ble_eq_true rfl) rfl (s_St_length_8abf5 (D := d) (by omega) N hk_q4 g1) (fun r9 μ9 hp => ?_)
    rw [hp.1, hp.2]
    clear hp r9 μ9
    refine sm_icmp_ge (tgt := 31) dX12_readItems_10 (by decide) (fun g2 => ?_) (fun g2 => ?_)
    · replace h := it_t g2 h
      refine sm_iconst dX12_readItems_31 ic_0 ?_
      refine sm_istore dX12_readItems_32 (Nat.le_of_ble_eq_true rfl) (pv_r rfl) ?_
      refine sm_aload dX12_readItems_34 rfl ?_
      refine sm_aload_n dX12_readItems_36 rfl rfl ?_
      obtain ⟨t37, μ2z, g3, h⟩ := ob_some h
      refine sm_callV dX12_readItems_37 cv_X12_look ml_RX12_133 k_355 rfl rfl (by decide) (as := []) rfl (Nat.le_of_ble_eq_true rfl) rfl (s_Mo_look (D := d) (by omega) N g3) (fun r9 μ9 hp => ?_)
      rw [hp.1, hp.2]
      clear hp r9 μ9
      obtain ⟨t40, μ3z, g4, h⟩ := ob_some h
      refine sm_callS dX12_readItems_40 cs_X12_spotOf ml_RX12_220 (as := [av_r q4, av_i t37]) rfl (Nat.le_of_ble_eq_true rfl) rfl (s_Mo_spotOf (D := d) (by omega) N hk_q4 g4) (fun r9 μ9 hp => ?_)
      rw [hp.1, hp.2]
      clear hp r9 μ9
      refine sm_istore dX12_readItems_43 (Nat.le_of_ble_eq_true rfl) (pv_i rfl) ?_
      exact Sm_weak (le_s rfl (le_s rfl (le_s rfl (le_s rfl (le_s rfl (le_s rfl (le_s rfl le_0))))))) (s_Mo_readItems_L45 hD N hk_q2 hk_q4 N x1 x3 0 t40 μ3z h)
    · replace h := it_f g2 h
      refine sm_aload_n dX12_readItems_13 rfl rfl ?_
      refine sm_iload_n dX12_readItems_14 rfl rfl ?_
      refine sm_iload dX12_readItems_15 rfl ?_
      refine sm_iadd dX12_readItems_17 ?_
      refine sm_iload_n dX12_readItems_18 rfl rfl ?_
      refine sm_iload dX12_readItems_19 rfl ?_
      obtain ⟨t21, μ12z, g18, h⟩ := ob_some h
      refine sm_callS dX12_readItems_21 cs_X12_usual ml_RX12_216 (as := [av_i x1, av_i x5]) rfl (Nat.le_of_ble_eq_true rfl) rfl (s_Mo_usual (D := d) (by omega) N g18) (fun r9 μ9 hp => ?_)
      rw [hp.1, hp.2]
      clear hp r9 μ9
      obtain ⟨g19, h⟩ := gd_some h
      refine sm_iast (j := (Int32.toNatClampNeg (x3 + x5))) dX12_readItems_24 hk_q2 (in_sz rfl g19) rfl ?_
      replace h := wr_some h
      refine sm_iinc dX12_readItems_25 rfl (congrArg (HAdd.hAdd x5) ic_1) (Nat.le_of_ble_eq_true rfl) (pv_r rfl) ?_
      refine sm_goto (tgt := 3) dX12_readItems_28 (by decide) ?_
      exact Sm_weak (le_s rfl (le_s rfl (le_s rfl (le_s rfl (le_s rfl (le_s rfl (le_n le_0))))))) (ih x1 x3 (x5 + 1) (mm_I μ12z q2 (Int32.toNatClampNeg (x3 + x5)) t21) h)
set_option maxRecDepth 100000 in
set_option maxHeartbeats 4000000 in
theorem s_Mo_readItems {D : Nat} (hD : 5 ≤ D) (N : Nat) {q2 : Nat} (hk_q2 : sh_k q2 = 20) {q4 : Nat} (hk_q4 : sh_k q4 = 42) {x1 : Int32} {x3 : Int32} {μ : MM} {μr : MM} (h : f_Mo_readItems N q2 q4 x1 x3 μ = some μr) : Cl D mX12_readItems [av_r 355, av_i x1, av_r q2, av_i x3, av_r q4] μ (po_v μr) := by
  obtain ⟨d, rfl⟩ : ∃ d, D = d + 1 := ⟨D - 1, by omega⟩
  refine Cl_of pn_X12 (Nat.le_of_ble_eq_true rfl) ?_
  show Sm (d + 1) mX12_readItems 0 [some (av_r 355), some (av_i x1), some (av_r q2), some (av_i x3), some (av_r q4), none, none] [] μ (po_v μr)
  unfold f_Mo_readItems at h
  refine sm_iconst dX12_readItems_0 ic_0 ?_
  refine sm_istore dX12_readItems_1 (Nat.le_of_ble_eq_true rfl) (pv_r rfl) ?_
  exact Sm_weak (le_s rfl (le_s rfl (le_s rfl (le_s rfl (le_s rfl (le_s rfl (le_n le_0))))))) (s_Mo_readItems_L3 hD N hk_q2 hk_q4 N x1 x3 0 μ h)
set_option maxRecDepth 100000 in
set_option maxHeartbeats 4000000 in
theorem s_Mo_isBehindColon {D : Nat} (hD : 1 ≤ D) (N : Nat) {μ : MM} {r : Int32} {μr : MM} (h : f_Mo_isBehindColon N μ = some (r, μr)) : Cl D mX12_isBehindColon [av_r 355] μ (po_i r μr) := by
  obtain ⟨d, rfl⟩ : ∃ d, D = d + 1 := ⟨D - 1, by omega⟩
  refine Cl_of pn_X12 (Nat.le_of_ble_eq_true rfl) ?_
  show Sm (d + 1) mX12_isBehindColon 0 [some (av_r 355)] [] μ (po_i r μr)
  unfold f_Mo_isBehindColon at h
  refine sm_aload_n dX12_isBehindColon_0 rfl rfl ?_
  refine sm_getI dX12_isBehindColon_1 fg_RX12_123 k_355 ?_
  refine sm_iconst dX12_isBehindColon_4 ic_m1 ?_
  refine sm_icmp_eq (tgt := 10) dX12_isBehindColon_5 (by decide) (fun g1 => ?_) (fun g1 => ?_)
  · replace h := it_t g1 h
    refine sm_aload_n dX12_isBehindColon_10 rfl rfl ?_
    obtain ⟨t11, μ1z, g2, h⟩ := ob_some h
    refine sm_callV dX12_isBehindColon_11 cv_X12_look ml_RX12_133 k_355 rfl rfl (by decide) (as := []) rfl (Nat.le_of_ble_eq_true rfl) rfl (s_Mo_look (D := d) (by omega) N g2) (fun r9 μ9 hp => ?_)
    rw [hp.1, hp.2]
    clear hp r9 μ9
    refine sm_bipush dX12_isBehindColon_14 bp_58 ?_
    refine sm_icmp_eq (tgt := 26) dX12_isBehindColon_16 (by decide) (fun g3 => ?_) (fun g3 => ?_)
    · replace h := it_t g3 h
      refine sm_aload_n dX12_isBehindColon_26 rfl rfl ?_
      refine sm_dup dX12_isBehindColon_27 rfl ?_
      refine sm_getI dX12_isBehindColon_28 fg_RX12_114 k_355 ?_
      refine sm_iconst dX12_isBehindColon_31 ic_1 ?_
      refine sm_iadd dX12_isBehindColon_32 ?_
      refine sm_putI dX12_isBehindColon_33 fp_RX12_114 k_355 ?_
      replace h := wr_some h
      refine sm_iconst dX12_isBehindColon_36 ic_1 ?_
      cases h
      exact sm_ret_z (st := []) dX12_isBehindColon_37 rfl rfl ⟨rfl, rfl⟩
    · replace h := it_f g3 h
      refine sm_aload_n dX12_isBehindColon_19 rfl rfl ?_
      obtain ⟨t20, μ3z, g4, h⟩ := ob_some h
      refine sm_callV dX12_isBehindColon_20 cv_X12_fails ml_RX12_129 k_355 rfl rfl (by decide) (as := []) rfl (Nat.le_of_ble_eq_true rfl) rfl (s_Mo_fails (D := d) (by omega) N g4) (fun r9 μ9 hp => ?_)
      rw [hp.1, hp.2]
      clear hp r9 μ9
      refine sm_pop dX12_isBehindColon_23 rfl ?_
      refine sm_iconst dX12_isBehindColon_24 ic_0 ?_
      cases h
      exact sm_ret_z (st := []) dX12_isBehindColon_25 rfl rfl ⟨rfl, rfl⟩
  · replace h := it_f g1 h
    refine sm_iconst dX12_isBehindColon_8 ic_0 ?_
    cases h
    exact sm_ret_z (st := []) dX12_isBehindColon_9 rfl rfl ⟨rfl, rfl⟩
set_option maxRecDepth 100000 in
set_option maxHeartbeats 4000000 in
theorem s_Mo_readMarks_L12 {D : Nat} (hD : 5 ≤ D) (N : Nat) {r : Int32} {μr : MM} : ∀ (n : Nat) (x1 : Int32) (x2 : Int32) (μ : MM), f_Mo_readMarks_L12 N n x1 x2 μ = some (r, μr) → Sm D mX12_readMarks 12 [some (av_r 355), some (av_i x1), some (av_i x2)] [] μ (po_i r μr) := by
  obtain ⟨d, rfl⟩ : ∃ d, D = d + 1 := ⟨D - 1, by omega⟩
  intro n
  induction n with
  | zero => intro x1 x2 μ h; cases (show none = some (r, μr) from h)
  | succ n ih =>
    intro x1 x2 μ h
    rw [f_Mo_readMarks_L12] at h
    refine sm_iload_n dX12_readMarks_12 rfl rfl ?_
    refine sm_iconst dX12_readMarks_13 ic_m1 ?_
    refine sm_icmp_eq (tgt := 61) dX12_readMarks_14 (by decide) (fun g3 => ?_) (fun g3 => ?_)
    · replace h := it_t g3 h
      refine sm_iload_n dX12_readMarks_61 rfl rfl ?_
      cases h
      exact sm_ret_i (st := []) dX12_readMarks_62 rfl ⟨rfl, rfl⟩
    · replace h := it_f g3 h
      refine sm_iload_n dX12_readMarks_17 rfl rfl ?_
      refine sm_iload_n dX12_readMarks_18 rfl rfl ?_
      obtain ⟨t19, μ3z, g4, h⟩ := ob_some h
      refine sm_callS dX12_readMarks_19 cs_X12_has ml_RX12_224 (as := [av_i x1, av_i x2]) rfl (Nat.le_of_ble_eq_true rfl) rfl (s_Mo_has (D := d) (by omega) N g4) (fun r9 μ9 hp => ?_)
      rw [hp.1, hp.2]
      clear hp r9 μ9
      refine sm_if_eq (tgt := 32) dX12_readMarks_22 (by decide) (fun g5 => ?_) (fun g5 => ?_)
      · replace h := it_t g5 h
        refine sm_iload_n dX12_readMarks_32 rfl rfl ?_
        refine sm_iconst dX12_readMarks_33 ic_1 ?_
        refine sm_iload_n dX12_readMarks_34 rfl rfl ?_
        refine sm_ishl dX12_readMarks_35 ?_
        refine sm_ior dX12_readMarks_36 ?_
        refine sm_istore_n dX12_readMarks_37 rfl (Nat.le_of_ble_eq_true rfl) (pv_r rfl) ?_
        refine sm_aload_n dX12_readMarks_38 rfl rfl ?_
        refine sm_dup dX12_readMarks_39 rfl ?_
        refine sm_getI dX12_readMarks_40 fg_RX12_114 k_355 ?_
        refine sm_iconst dX12_readMarks_43 ic_1 ?_
        refine sm_iadd dX12_readMarks_44 ?_
        refine sm_putI dX12_readMarks_45 fp_RX12_114 k_355 ?_
        replace h := wr_some h
        refine sm_ldcS dX12_readMarks_48 (i := 9) (by decide) rfl ?_
        refine sm_aload_n dX12_readMarks_50 rfl rfl ?_
        obtain ⟨t51, μ5z, g6, h⟩ := ob_some h
        refine sm_callV dX12_readMarks_51 cv_X12_look ml_RX12_133 k_355 rfl rfl (by decide) (as := []) rfl (Nat.le_of_ble_eq_true rfl) rfl (s_Mo_look (D := d) (by omega) N g6) (fun r9 μ9 hp => ?_)
        rw [hp.1, hp.2]
        clear hp r9 μ9
        obtain ⟨t54, μ6z, g7, h⟩ := ob_some h
        refine sm_callS dX12_readMarks_54 cs_X12_spotOf ml_RX12_220 (as := [av_r 2009, av_i t51]) rfl (Nat.le_of_ble_eq_true rfl) rfl (s_Mo_spotOf (D := d) (by omega) N k_2009 g7) (fun r9 μ9 hp => ?_)
        rw [hp.1, hp.2]
        clear hp r9 μ9
        refine sm_istore_n dX12_readMarks_57 rfl (Nat.le_of_ble_eq_true rfl) (pv_i rfl) ?_
        refine sm_goto (tgt := 12) dX12_readMarks_58 (by decide) ?_
        exact Sm_weak (le_s rfl (le_s rfl (le_s rfl le_0))) (ih (x1 ||| ((1 : Int32) <<< (x2 &&& 31))) t54 μ6z h)
      · replace h := it_f g5 h
        refine sm_aload_n dX12_readMarks_25 rfl rfl ?_
        obtain ⟨t26, μ7z, g8, h⟩ := ob_some h
        refine sm_callV dX12_readMarks_26 cv_X12_fails ml_RX12_129 k_355 rfl rfl (by decide) (as := []) rfl (Nat.le_of_ble_eq_true rfl) rfl (s_Mo_fails (D := d) (by omega) N g8) (fun r9 μ9 hp => ?_)
        rw [hp.1, hp.2]
        clear hp r9 μ9
        refine sm_pop dX12_readMarks_29 rfl ?_
        refine sm_iload_n dX12_readMarks_30 rfl rfl ?_
        cases h
        exact sm_ret_i (st := []) dX12_readMarks_31 rfl ⟨rfl, rfl⟩
set_option maxRecDepth 100000 in
set_option maxHeartbeats 4000000 in
theorem s_Mo_readMarks {D : Nat} (hD : 5 ≤ D) (N : Nat) {μ : MM} {r : Int32} {μr : MM} (h : f_Mo_readMarks N μ = some (r, μr)) : Cl D mX12_readMarks [av_r 355] μ (po_i r μr) := by
  obtain ⟨d, rfl⟩ : ∃ d, D = d + 1 := ⟨D - 1, by omega⟩
  refine Cl_of pn_X12 (Nat.le_of_ble_eq_true rfl) ?_
  show Sm (d + 1) mX12_readMarks 0 [some (av_r 355), none, none] [] μ (po_i r μr)
  unfold f_Mo_readMarks at h
  refine sm_iconst dX12_readMarks_0 ic_0 ?_
  refine sm_istore_n dX12_readMarks_1 rfl (Nat.le_of_ble_eq_true rfl) (pv_r rfl) ?_
  refine sm_ldcS dX12_readMarks_2 (i := 9) (by decide) rfl ?_
  refine sm_aload_n dX12_readMarks_4 rfl rfl ?_
  obtain ⟨t5, μ1z, g1, h⟩ := ob_some h
  refine sm_callV dX12_readMarks_5 cv_X12_look ml_RX12_133 k_355 rfl rfl (by decide) (as := []) rfl (Nat.le_of_ble_eq_true rfl) rfl (s_Mo_look (D := d) (by omega) N g1) (fun r9 μ9 hp => ?_)
  rw [hp.1, hp.2]
  clear hp r9 μ9
  obtain ⟨t8, μ2z, g2, h⟩ := ob_some h
  refine sm_callS dX12_readMarks_8 cs_X12_spotOf ml_RX12_220 (as := [av_r 2009, av_i t5]) rfl (Nat.le_of_ble_eq_true rfl) rfl (s_Mo_spotOf (D := d) (by omega) N k_2009 g2) (fun r9 μ9 hp => ?_)
  rw [hp.1, hp.2]
  clear hp r9 μ9
  refine sm_istore_n dX12_readMarks_11 rfl (Nat.le_of_ble_eq_true rfl) (pv_i rfl) ?_
  exact Sm_weak (le_s rfl (le_s rfl (le_s rfl le_0))) (s_Mo_readMarks_L12 hD N N 0 t8 μ2z h)
set_option maxRecDepth 100000 in
set_option maxHeartbeats 4000000 in
theorem s_Mo_begins {D : Nat} (hD : 5 ≤ D) (N : Nat) {x0 : Int32} {μ : MM} {r : Int32} {μr : MM} (h : f_Mo_begins N x0 μ = some (r, μr)) : Cl D mX12_begins [av_i x0] μ (po_i r μr) := by
  obtain ⟨d, rfl⟩ : ∃ d, D = d + 1 := ⟨D - 1, by omega⟩
  refine Cl_of pn_X12 (Nat.le_of_ble_eq_true rfl) ?_
  show Sm (d + 1) mX12_begins 0 [some (av_i x0)] [] μ (po_i r μr)
  unfold f_Mo_begins at h
  refine sm_ldcS dX12_begins_0 (i := 11) (by decide) rfl ?_
  refine sm_iload_n dX12_begins_2 rfl rfl ?_
  obtain ⟨t3, μ1z, g1, h⟩ := ob_some h
  refine sm_callS dX12_begins_3 cs_X12_spotOf ml_RX12_220 (as := [av_r 2011, av_i x0]) rfl (Nat.le_of_ble_eq_true rfl) rfl (s_Mo_spotOf (D := d) (by omega) N k_2011 g1) (fun r9 μ9 hp => ?_)
  rw [hp.1, hp.2]
  clear hp r9 μ9
  refine sm_iconst dX12_begins_6 ic_m1 ?_
  have hj7 : ∀ (v7_0 : Int32), v7_0 = (if t3 = (-1) then (0 : Int32) else 1) → Sm (d + 1) mX12_begins 15 [none] [av_i v7_0] μ1z (po_i r μr) := by
    intro v7_0 ev7_0
    subst ev7_0
    obtain ⟨g2, h⟩ := gd_some h
    cases h
    exact sm_ret_z (st := []) dX12_begins_15 rfl (zb_nar g2) ⟨rfl, rfl⟩
  refine sm_icmp_eq (tgt := 14) dX12_begins_7 (by decide) (fun c7_0 => ?_) (fun c7_0 => ?_)
  · refine sm_iconst dX12_begins_14 ic_0 ?_
    exact Sm_weak (le_n le_0) (hj7 _ (if_pos c7_0).symm)
  · refine sm_iconst dX12_begins_10 ic_1 ?_
    refine sm_goto (tgt := 15) dX12_begins_11 (by decide) ?_
    exact Sm_weak (le_n le_0) (hj7 _ (if_neg c7_0).symm)
set_option maxRecDepth 100000 in
set_option maxHeartbeats 4000000 in
theorem s_Mo_readWord_B78 {D : Nat} (hD : 5 ≤ D) (N : Nat) {q1 : Nat} (hk_q1 : sh_k q1 = 20) {μr : MM} (x2 : Int32) (x4 : Int32) (s0 : Int32) (μ : MM) (h : f_Mo_readWord_B78 N q1 x2 x4 s0 μ = some μr) : Sm D mX12_readWord 78 [some (av_r 355), some (av_r q1), some (av_i x2), none, some (av_i x4), none] [av_i s0] μ (po_v μr) := by
  obtain ⟨d, rfl⟩ : ∃ d, D = d + 1 := ⟨D - 1, by omega⟩
  unfold f_Mo_readWord_B78 at h
  refine sm_istore dX12_readWord_78 (Nat.le_of_ble_eq_true rfl) (pv_i rfl) ?_
  refine sm_iload dX12_readWord_80 rfl ?_
  refine sm_iconst dX12_readWord_82 ic_m1 ?_
  refine sm_icmp_ne (tgt := 92) dX12_readWord_83 (by decide) (fun g6 => ?_) (fun g6 => ?_)
  · replace h := it_f g6 h
    refine sm_aload_n dX12_readWord_92 rfl rfl ?_
    refine sm_dup dX12_readWord_93 rfl ?_
    refine sm_getI dX12_readWord_94 fg_RX12_114 k_355 ?_
    refine sm_iconst dX12_readWord_97 ic_1 ?_
    refine sm_iadd dX12_readWord_98 ?_
    refine sm_putI dX12_readWord_99 fp_RX12_114 k_355 ?_
    replace h := wr_some h
    refine sm_aload_n dX12_readWord_102 rfl rfl ?_
    refine sm_iload_n dX12_readWord_103 rfl rfl ?_
    refine sm_iload dX12_readWord_104 rfl ?_
    obtain ⟨g7, h⟩ := gd_some h
    refine sm_iast (j := (Int32.toNatClampNeg x2)) dX12_readWord_106 hk_q1 (in_sz rfl g7) rfl ?_
    replace h := wr_some h
    refine sm_aload_n dX12_readWord_107 rfl rfl ?_
    refine sm_iload_n dX12_readWord_108 rfl rfl ?_
    refine sm_iconst dX12_readWord_109 ic_1 ?_
    refine sm_iadd dX12_readWord_110 ?_
    refine sm_iload dX12_readWord_111 rfl ?_
    obtain ⟨g8, h⟩ := gd_some h
    refine sm_iast (j := (Int32.toNatClampNeg (x2 + 1))) dX12_readWord_113 hk_q1 (in_sz rfl g8) rfl ?_
    replace h := wr_some h
    cases h
    exact sm_ret_v (st := []) dX12_readWord_114 rfl ⟨rfl, rfl⟩
  · replace h := it_t g6 h
    refine sm_aload_n dX12_readWord_86 rfl rfl ?_
    obtain ⟨t87, μ7z, g9, h⟩ := ob_some h
    refine sm_callV dX12_readWord_87 cv_X12_fails ml_RX12_129 k_355 rfl rfl (by decide) (as := []) rfl (Nat.le_of_ble_eq_true rfl) rfl (s_Mo_fails (D := d) (by omega) N g9) (fun r9 μ9 hp => ?_)
    rw [hp.1, hp.2]
    clear hp r9 μ9
    refine sm_pop dX12_readWord_90 rfl ?_
    cases h
    exact sm_ret_v (st := []) dX12_readWord_91 rfl ⟨rfl, rfl⟩
set_option maxRecDepth 100000 in
set_option maxHeartbeats 4000000 in
theorem s_Mo_readWord_B43 {D : Nat} (hD : 5 ≤ D) (N : Nat) {q1 : Nat} (hk_q1 : sh_k q1 = 20) {μr : MM} (x2 : Int32) (x4 : Int32) (μ : MM) (h : f_Mo_readWord_B43 N q1 x2 x4 μ = some μr) : Sm D mX12_readWord 43 [some (av_r 355), some (av_r q1), some (av_i x2), none, some (av_i x4), none] [] μ (po_v μr) := by
  obtain ⟨d, rfl⟩ : ∃ d, D = d + 1 := ⟨D - 1, by omega⟩
  unfold f_Mo_readWord_B43 at h
  refine sm_aload_n dX12_readWord_43 rfl rfl ?_
  obtain ⟨t44, μ2z, g3, h⟩ := ob_some h
  refine sm_callV dX12_readWord_44 cv_X12_look ml_RX12_133 k_355 rfl rfl (by decide) (as := []) rfl (Nat.le_of_ble_eq_true rfl) rfl (s_Mo_look (D := d) (by omega) N g3) (fun r9 μ9 hp => ?_)
  rw [hp.1, hp.2]
  clear hp r9 μ9
  refine sm_istore_n dX12_readWord_47 rfl (Nat.le_of_ble_eq_true rfl) (pv_i rfl) ?_
  refine sm_iload dX12_readWord_48 rfl ?_
  refine sm_iconst dX12_readWord_50 ic_2 ?_
  refine sm_icmp_ne (tgt := 72) dX12_readWord_51 (by decide) (fun g4 => ?_) (fun g4 => ?_)
  · replace h := it_f g4 h
    refine sm_ldcS dX12_readWord_72 (i := 9) (by decide) rfl ?_
    refine sm_iload_n dX12_readWord_74 rfl rfl ?_
    obtain ⟨t75, μ3z, g5, h⟩ := ob_some h
    refine sm_callS dX12_readWord_75 cs_X12_spotOf ml_RX12_220 (as := [av_r 2009, av_i t44]) rfl (Nat.le_of_ble_eq_true rfl) rfl (s_Mo_spotOf (D := d) (by omega) N k_2009 g5) (fun r9 μ9 hp => ?_)
    rw [hp.1, hp.2]
    clear hp r9 μ9
    exact Sm_weak (le_s rfl (le_s rfl (le_s rfl (le_n (le_s rfl (le_n le_0)))))) (s_Mo_readWord_B78 hD N hk_q1 x2 x4 t75 μ3z h)
  · replace h := it_t g4 h
    refine sm_aload_n dX12_readWord_54 rfl rfl ?_
    obtain ⟨t55, μ8z, g10, h⟩ := ob_some h
    refine sm_callV dX12_readWord_55 cv_X12_isDigit ml_RX12_163 k_355 rfl rfl (by decide) (as := []) rfl (Nat.le_of_ble_eq_true rfl) rfl (s_Mo_isDigit (D := d) (by omega) N g10) (fun r9 μ9 hp => ?_)
    rw [hp.1, hp.2]
    clear hp r9 μ9
    have hj58 : ∀ (v58_0 : Int32), v58_0 = (if t55 = 0 then ((-1) : Int32) else (t44 - 48)) → Sm (d + 1) mX12_readWord 78 [some (av_r 355), some (av_r q1), some (av_i x2), none, some (av_i x4), none] [av_i v58_0] μ8z (po_v μr) := by
      intro v58_0 ev58_0
      subst ev58_0
      exact Sm_weak (le_s rfl (le_s rfl (le_s rfl (le_n (le_s rfl (le_n le_0)))))) (s_Mo_readWord_B78 hD N hk_q1 x2 x4 (if t55 = 0 then ((-1) : Int32) else (t44 - 48)) μ8z h)
    refine sm_if_eq (tgt := 68) dX12_readWord_58 (by decide) (fun c58_0 => ?_) (fun c58_0 => ?_)
    · refine sm_iconst dX12_readWord_68 ic_m1 ?_
      refine sm_goto (tgt := 78) dX12_readWord_69 (by decide) ?_
      exact Sm_weak (le_s rfl (le_s rfl (le_s rfl (le_n (le_s rfl (le_n le_0)))))) (hj58 _ (if_pos c58_0).symm)
    · refine sm_iload_n dX12_readWord_61 rfl rfl ?_
      refine sm_bipush dX12_readWord_62 bp_48 ?_
      refine sm_isub dX12_readWord_64 ?_
      refine sm_goto (tgt := 78) dX12_readWord_65 (by decide) ?_
      exact Sm_weak (le_s rfl (le_s rfl (le_s rfl (le_n (le_s rfl (le_n le_0)))))) (hj58 _ (if_neg c58_0).symm)
set_option maxRecDepth 100000 in
set_option maxHeartbeats 4000000 in
theorem s_Mo_readWord_B26 {D : Nat} (hD : 5 ≤ D) (N : Nat) {q1 : Nat} (hk_q1 : sh_k q1 = 20) {μr : MM} (x2 : Int32) (s0 : Int32) (μ : MM) (h : f_Mo_readWord_B26 N q1 x2 s0 μ = some μr) : Sm D mX12_readWord 26 [some (av_r 355), some (av_r q1), some (av_i x2), none, none, none] [av_i s0] μ (po_v μr) := by
  obtain ⟨d, rfl⟩ : ∃ d, D = d + 1 := ⟨D - 1, by omega⟩
  unfold f_Mo_readWord_B26 at h
  refine sm_istore dX12_readWord_26 (Nat.le_of_ble_eq_true rfl) (pv_n rfl) ?_
  refine sm_iload dX12_readWord_28 rfl ?_
  refine sm_if_le (tgt := 43) dX12_readWord_30 (by decide) (fun g2 => ?_) (fun g2 => ?_)
  · replace h := it_t g2 h
    exact Sm_weak (le_s rfl (le_s rfl (le_s rfl (le_n (le_s rfl (le_n le_0)))))) (s_Mo_readWord_B43 hD N hk_q1 x2 s0 μ h)
  · replace h := it_f g2 h
    refine sm_aload_n dX12_readWord_33 rfl rfl ?_
    refine sm_dup dX12_readWord_34 rfl ?_
    refine sm_getI dX12_readWord_35 fg_RX12_114 k_355 ?_
    refine sm_iconst dX12_readWord_38 ic_1 ?_
    refine sm_iadd dX12_readWord_39 ?_
    refine sm_putI dX12_readWord_40 fp_RX12_114 k_355 ?_
    replace h := wr_some h
    exact Sm_weak (le_s rfl (le_s rfl (le_s rfl (le_n (le_s rfl (le_n le_0)))))) (s_Mo_readWord_B43 hD N hk_q1 x2 s0 (mm_I μ 355 10 ((μ.1 355 10) + 1)) h)
set_option maxRecDepth 100000 in
set_option maxHeartbeats 4000000 in
theorem s_Mo_readWord {D : Nat} (hD : 5 ≤ D) (N : Nat) {q1 : Nat} (hk_q1 : sh_k q1 = 20) {x2 : Int32} {μ : MM} {μr : MM} (h : f_Mo_readWord N q1 x2 μ = some μr) : Cl D mX12_readWord [av_r 355, av_r q1, av_i x2] μ (po_v μr) := by
  obtain ⟨d, rfl⟩ : ∃ d, D = d + 1 := ⟨D - 1, by omega⟩
  refine Cl_of pn_X12 (Nat.le_of_ble_eq_true rfl) ?_
  show Sm (d + 1) mX12_readWord 0 [some (av_r 355), some (av_r q1), some (av_i x2), none, none, none] [] μ (po_v μr)
  unfold f_Mo_readWord at h
  refine sm_aload_n dX12_readWord_0 rfl rfl ?_
  obtain ⟨t1, μ1z, g1, h⟩ := ob_some h
  refine sm_callV dX12_readWord_1 cv_X12_look ml_RX12_133 k_355 rfl rfl (by decide) (as := []) rfl (Nat.le_of_ble_eq_true rfl) rfl (s_Mo_look (D := d) (by omega) N g1) (fun r9 μ9 hp => ?_)
  rw [hp.1, hp.2]
  clear hp r9 μ9
  refine sm_istore_n dX12_readWord_4 rfl (Nat.le_of_ble_eq_true rfl) (pv_i rfl) ?_
  refine sm_iload_n dX12_readWord_5 rfl rfl ?_
  refine sm_bipush dX12_readWord_6 bp_45 ?_
  have hj8 : ∀ (v8_0 : Int32), v8_0 = (if t1 = 45 then (1 : Int32) else (if t1 = 62 then (2 : Int32) else 0)) → Sm (d + 1) mX12_readWord 26 [some (av_r 355), some (av_r q1), some (av_i x2), none, none, none] [av_i v8_0] μ1z (po_v μr) := by
    intro v8_0 ev8_0
    subst ev8_0
    exact Sm_weak (le_s rfl (le_s rfl (le_s rfl (le_n (le_n (le_n le_0)))))) (s_Mo_readWord_B26 hD N hk_q1 x2 (if t1 = 45 then (1 : Int32) else (if t1 = 62 then (2 : Int32) else 0)) μ1z h)
  refine sm_icmp_ne (tgt := 15) dX12_readWord_8 (by decide) (fun c8_0 => ?_) (fun c8_0 => ?_)
  · refine sm_iload_n dX12_readWord_15 rfl rfl ?_
    refine sm_bipush dX12_readWord_16 bp_62 ?_
    refine sm_icmp_ne (tgt := 25) dX12_readWord_18 (by decide) (fun c18_1 => ?_) (fun c18_1 => ?_)
    · refine sm_iconst dX12_readWord_25 ic_0 ?_
      exact Sm_weak (le_s rfl (le_s rfl (le_s rfl (le_n (le_n (le_n le_0)))))) (hj8 _ ((if_neg c8_0).trans (if_neg c18_1)).symm)
    · refine sm_iconst dX12_readWord_21 ic_2 ?_
      refine sm_goto (tgt := 26) dX12_readWord_22 (by decide) ?_
      exact Sm_weak (le_s rfl (le_s rfl (le_s rfl (le_n (le_n (le_n le_0)))))) (hj8 _ ((if_neg c8_0).trans (if_pos c18_1)).symm)
  · refine sm_iconst dX12_readWord_11 ic_1 ?_
    refine sm_goto (tgt := 26) dX12_readWord_12 (by decide) ?_
    exact Sm_weak (le_s rfl (le_s rfl (le_s rfl (le_n (le_n (le_n le_0)))))) (hj8 _ (if_pos c8_0).symm)
set_option maxRecDepth 100000 in
set_option maxHeartbeats 4000000 in
theorem s_Mo_readWords_B32 {D : Nat} (hD : 6 ≤ D) (N : Nat) {q1 : Nat} (hk_q1 : sh_k q1 = 20) {μr : MM} (μ : MM) (h : f_Mo_readWords_B32 N q1 μ = some μr) : Sm D mX12_readWords 32 [some (av_r 355), none, none, none] [] μ (po_v μr) := by
  obtain ⟨d, rfl⟩ : ∃ d, D = d + 1 := ⟨D - 1, by omega⟩
  unfold f_Mo_readWords_B32 at h
  refine sm_aload_n dX12_readWords_32 rfl rfl ?_
  obtain ⟨t33, μ1z, g3, h⟩ := ob_some h
  refine sm_callV dX12_readWords_33 cv_X12_fails ml_RX12_129 k_355 rfl rfl (by decide) (as := []) rfl (Nat.le_of_ble_eq_true rfl) rfl (s_Mo_fails (D := d) (by omega) N g3) (fun r9 μ9 hp => ?_)
  rw [hp.1, hp.2]
  clear hp r9 μ9
  refine sm_pop dX12_readWords_36 rfl ?_
  cases h
  exact sm_ret_v (st := []) dX12_readWords_37 rfl ⟨rfl, rfl⟩
set_option maxRecDepth 100000 in
set_option maxHeartbeats 4000000 in
theorem s_Mo_readWords_B16 {D : Nat} (hD : 6 ≤ D) (N : Nat) {q1 : Nat} (hk_q1 : sh_k q1 = 20) {μr : MM} {k2 : Int32 → Int32 → MM → Option MM} (hk2 : ∀ (x2 : Int32) (x3 : Int32) (μ : MM), k2 x2 x3 μ = some μr → Sm D mX12_readWords 2 [some (av_r 355), some (av_r q1), some (av_i x2), some (av_i x3)] [] μ (po_v μr)) (x2 : Int32) (x3 : Int32) (μ : MM) (h : f_Mo_readWords_B16 N q1 k2 x2 x3 μ = some μr) : Sm D mX12_readWords 16 [some (av_r 355), some (av_r q1), some (av_i x2), some (av_i x3)] [] μ (po_v μr) := by
  obtain ⟨d, rfl⟩ : ∃ d, D = d + 1 := ⟨D - 1, by omega⟩
  unfold f_Mo_readWords_B16 at h
  refine sm_iload_n dX12_readWords_16 rfl rfl ?_
  refine sm_bipush dX12_readWords_17 bp_6 ?_
  refine sm_icmp_eq (tgt := 32) dX12_readWords_19 (by decide) (fun g2 => ?_) (fun g2 => ?_)
  · replace h := it_t g2 h
    exact Sm_weak (le_s rfl (le_n (le_n (le_n le_0)))) (s_Mo_readWords_B32 hD N hk_q1  μ h)
  · replace h := it_f g2 h
    refine sm_aload_n dX12_readWords_22 rfl rfl ?_
    obtain ⟨t23, μ2z, g4, h⟩ := ob_some h
    refine sm_callV dX12_readWords_23 cv_X12_look ml_RX12_133 k_355 rfl rfl (by decide) (as := []) rfl (Nat.le_of_ble_eq_true rfl) rfl (s_Mo_look (D := d) (by omega) N g4) (fun r9 μ9 hp => ?_)
    rw [hp.1, hp.2]
    clear hp r9 μ9
    obtain ⟨t26, μ3z, g5, h⟩ := ob_some h
    refine sm_callS dX12_readWords_26 cs_X12_begins ml_RX12_238 (as := [av_i t23]) rfl (Nat.le_of_ble_eq_true rfl) rfl (s_Mo_begins (D := d) (by omega) N g5) (fun r9 μ9 hp => ?_)
    rw [hp.1, hp.2]
    clear hp r9 μ9
    refine sm_if_ne (tgt := 38) dX12_readWords_29 (by decide) (fun g6 => ?_) (fun g6 => ?_)
    · replace h := it_f g6 h
      refine sm_aload_n dX12_readWords_38 rfl rfl ?_
      refine sm_aload_n dX12_readWords_39 rfl rfl ?_
      refine sm_iload_n dX12_readWords_40 rfl rfl ?_
      refine sm_iconst dX12_readWords_41 ic_1 ?_
      refine sm_iadd dX12_readWords_42 ?_
      refine sm_iconst dX12_readWords_43 ic_2 ?_
      refine sm_iload_n dX12_readWords_44 rfl rfl ?_
      refine sm_imul dX12_readWords_45 ?_
      refine sm_iadd dX12_readWords_46 ?_
      obtain ⟨μ4z, g7, h⟩ := obv_some h
      refine sm_callV dX12_readWords_47 cv_X12_readWord ml_RX12_240 k_355 rfl rfl (by decide) (as := [av_r q1, av_i ((x2 + 1) + (2 * x3))]) rfl (Nat.le_of_ble_eq_true rfl) rfl (s_Mo_readWord (D := d) (by omega) N hk_q1 g7) (fun r9 μ9 hp => ?_)
      rw [hp.1, hp.2]
      clear hp r9 μ9
      refine sm_aload_n dX12_readWords_50 rfl rfl ?_
      refine sm_getI dX12_readWords_51 fg_RX12_123 k_355 ?_
      refine sm_iconst dX12_readWords_54 ic_m1 ?_
      refine sm_icmp_eq (tgt := 59) dX12_readWords_55 (by decide) (fun g8 => ?_) (fun g8 => ?_)
      · replace h := it_t g8 h
        refine sm_iinc dX12_readWords_59 rfl (congrArg (HAdd.hAdd x3) ic_1) (Nat.le_of_ble_eq_true rfl) (pv_i rfl) ?_
        refine sm_goto (tgt := 2) dX12_readWords_62 (by decide) ?_
        exact Sm_weak (le_s rfl (le_s rfl (le_s rfl (le_s rfl le_0)))) (hk2 x2 (x3 + 1) μ4z h)
      · replace h := it_f g8 h
        cases h
        exact sm_ret_v (st := []) dX12_readWords_58 rfl ⟨rfl, rfl⟩
    · replace h := it_t g6 h
      exact Sm_weak (le_s rfl (le_n (le_n (le_n le_0)))) (s_Mo_readWords_B32 hD N hk_q1  μ3z h)
set_option maxRecDepth 100000 in
set_option maxHeartbeats 4000000 in
theorem s_Mo_readWords_L2 {D : Nat} (hD : 6 ≤ D) (N : Nat) {q1 : Nat} (hk_q1 : sh_k q1 = 20) {μr : MM} : ∀ (n : Nat) (x2 : Int32) (x3 : Int32) (μ : MM), f_Mo_readWords_L2 N q1 n x2 x3 μ = some μr → Sm D mX12_readWords 2 [some (av_r 355), some (av_r q1), some (av_i x2), some (av_i x3)] [] μ (po_v μr) := by
  obtain ⟨d, rfl⟩ : ∃ d, D = d + 1 := ⟨D - 1, by omega⟩
  intro n
  induction n with
  | zero => intro x2 x3 μ h; cases (show none = some μr from h)
  | succ n ih =>
    intro x2 x3 μ h
    rw [f_Mo_readWords_L2] at h
    refine sm_iload_n dX12_readWords_2 rfl rfl ?_
    refine sm_if_eq (tgt := 16) dX12_readWords_3 (by decide) (fun g1 => ?_) (fun g1 => ?_)
    · replace h := it_t g1 h
      exact Sm_weak (le_s rfl (le_s rfl (le_s rfl (le_s rfl le_0)))) (s_Mo_readWords_B16 hD N hk_q1 ih x2 x3 μ h)
    · replace h := it_f g1 h
      refine sm_aload_n dX12_readWords_6 rfl rfl ?_
      obtain ⟨t7, μ5z, g9, h⟩ := ob_some h
      refine sm_callV dX12_readWords_7 cv_X12_look ml_RX12_133 k_355 rfl rfl (by decide) (as := []) rfl (Nat.le_of_ble_eq_true rfl) rfl (s_Mo_look (D := d) (by omega) N g9) (fun r9 μ9 hp => ?_)
      rw [hp.1, hp.2]
      clear hp r9 μ9
      obtain ⟨t10, μ6z, g10, h⟩ := ob_some h
      refine sm_callS dX12_readWords_10 cs_X12_begins ml_RX12_238 (as := [av_i t7]) rfl (Nat.le_of_ble_eq_true rfl) rfl (s_Mo_begins (D := d) (by omega) N g10) (fun r9 μ9 hp => ?_)
      rw [hp.1, hp.2]
      clear hp r9 μ9
      refine sm_if_eq (tgt := 65) dX12_readWords_13 (by decide) (fun g11 => ?_) (fun g11 => ?_)
      · replace h := it_t g11 h
        refine sm_aload_n dX12_readWords_65 rfl rfl ?_
        refine sm_iload_n dX12_readWords_66 rfl rfl ?_
        refine sm_iload_n dX12_readWords_67 rfl rfl ?_
        obtain ⟨g12, h⟩ := gd_some h
        refine sm_iast (j := (Int32.toNatClampNeg x2)) dX12_readWords_68 hk_q1 (in_sz rfl g12) rfl ?_
        replace h := wr_some h
        cases h
        exact sm_ret_v (st := []) dX12_readWords_69 rfl ⟨rfl, rfl⟩
      · replace h := it_f g11 h
        exact Sm_weak (le_s rfl (le_s rfl (le_s rfl (le_s rfl le_0)))) (s_Mo_readWords_B16 hD N hk_q1 ih x2 x3 μ6z h)
set_option maxRecDepth 100000 in
set_option maxHeartbeats 4000000 in
theorem s_Mo_readWords {D : Nat} (hD : 6 ≤ D) (N : Nat) {q1 : Nat} (hk_q1 : sh_k q1 = 20) {x2 : Int32} {μ : MM} {μr : MM} (h : f_Mo_readWords N q1 x2 μ = some μr) : Cl D mX12_readWords [av_r 355, av_r q1, av_i x2] μ (po_v μr) := by
  obtain ⟨d, rfl⟩ : ∃ d, D = d + 1 := ⟨D - 1, by omega⟩
  refine Cl_of pn_X12 (Nat.le_of_ble_eq_true rfl) ?_
  show Sm (d + 1) mX12_readWords 0 [some (av_r 355), some (av_r q1), some (av_i x2), none] [] μ (po_v μr)
  unfold f_Mo_readWords at h
  refine sm_iconst dX12_readWords_0 ic_0 ?_
  refine sm_istore_n dX12_readWords_1 rfl (Nat.le_of_ble_eq_true rfl) (pv_i rfl) ?_
  exact Sm_weak (le_s rfl (le_s rfl (le_s rfl (le_s rfl le_0)))) (s_Mo_readWords_L2 hD N hk_q1 N x2 0 μ h)
set_option maxRecDepth 100000 in
set_option maxHeartbeats 4000000 in
theorem s_Mo_readClause_B53 {D : Nat} (hD : 7 ≤ D) (N : Nat) {μr : MM} (x1 : Int32) (s0 : Int32) (μ : MM) (h : f_Mo_readClause_B53 N x1 s0 μ = some μr) : Sm D mX12_readClause 53 [some (av_r 355), some (av_i x1), none] [av_i s0] μ (po_v μr) := by
  obtain ⟨d, rfl⟩ : ∃ d, D = d + 1 := ⟨D - 1, by omega⟩
  unfold f_Mo_readClause_B53 at h
  refine sm_istore_n dX12_readClause_53 rfl (Nat.le_of_ble_eq_true rfl) (pv_i rfl) ?_
  refine sm_iload_n dX12_readClause_54 rfl rfl ?_
  refine sm_if_ne (tgt := 64) dX12_readClause_55 (by decide) (fun g5 => ?_) (fun g5 => ?_)
  · replace h := it_f g5 h
    refine sm_aload_n dX12_readClause_64 rfl rfl ?_
    refine sm_dup dX12_readClause_65 rfl ?_
    refine sm_getI dX12_readClause_66 fg_RX12_114 k_355 ?_
    refine sm_iconst dX12_readClause_69 ic_1 ?_
    refine sm_iadd dX12_readClause_70 ?_
    refine sm_putI dX12_readClause_71 fp_RX12_114 k_355 ?_
    replace h := wr_some h
    refine sm_iload_n dX12_readClause_74 rfl rfl ?_
    refine sm_bipush dX12_readClause_75 bp_115 ?_
    refine sm_icmp_ne (tgt := 100) dX12_readClause_77 (by decide) (fun g6 => ?_) (fun g6 => ?_)
    · replace h := it_f g6 h
      refine sm_iload_n dX12_readClause_100 rfl rfl ?_
      refine sm_bipush dX12_readClause_101 bp_116 ?_
      refine sm_icmp_ne (tgt := 163) dX12_readClause_103 (by decide) (fun g7 => ?_) (fun g7 => ?_)
      · replace h := it_f g7 h
        refine sm_aload_n dX12_readClause_163 rfl rfl ?_
        refine sm_dup dX12_readClause_164 rfl ?_
        refine sm_getI dX12_readClause_165 fg_RX12_250 k_355 ?_
        refine sm_iconst dX12_readClause_168 ic_1 ?_
        refine sm_iadd dX12_readClause_169 ?_
        refine sm_putI dX12_readClause_170 fp_RX12_250 k_355 ?_
        replace h := wr_some h
        refine sm_aload_n dX12_readClause_173 rfl rfl ?_
        refine sm_iload_n dX12_readClause_174 rfl rfl ?_
        refine sm_aload_n dX12_readClause_175 rfl rfl ?_
        refine sm_getR dX12_readClause_176 fg_RX12_55 k_355 (rf_12_24 k_355) ?_
        refine sm_bipush dX12_readClause_179 bp_16 ?_
        refine sm_aload_n dX12_readClause_181 rfl rfl ?_
        refine sm_getI dX12_readClause_182 fg_RX12_250 k_355 ?_
        refine sm_iconst dX12_readClause_185 ic_1 ?_
        refine sm_isub dX12_readClause_186 ?_
        refine sm_imul dX12_readClause_187 ?_
        refine sm_ldcSw dX12_readClause_188 (i := 10) (by decide) rfl ?_
        obtain ⟨μ4z, g8, h⟩ := obv_some h
        refine sm_callV dX12_readClause_191 cv_X12_readItems ml_RX12_255 k_355 rfl rfl (by decide) (as := [av_i x1, av_r 366, av_i (16 * (((mm_I (mm_I μ 355 10 ((μ.1 355 10) + 1)) 355 29 (((mm_I μ 355 10 ((μ.1 355 10) + 1)).1 355 29) + 1)).1 355 29) - 1)), av_r 2010]) rfl (Nat.le_of_ble_eq_true rfl) rfl (s_Mo_readItems (D := d) (by omega) N k_366 k_2010 g8) (fun r9 μ9 hp => ?_)
        rw [hp.1, hp.2]
        clear hp r9 μ9
        refine sm_aload_n dX12_readClause_194 rfl rfl ?_
        obtain ⟨t195, μ5z, g9, h⟩ := ob_some h
        refine sm_callV dX12_readClause_195 cv_X12_isBehindColon ml_RX12_261 k_355 rfl rfl (by decide) (as := []) rfl (Nat.le_of_ble_eq_true rfl) rfl (s_Mo_isBehindColon (D := d) (by omega) N g9) (fun r9 μ9 hp => ?_)
        rw [hp.1, hp.2]
        clear hp r9 μ9
        refine sm_if_eq (tgt := 220) dX12_readClause_198 (by decide) (fun g10 => ?_) (fun g10 => ?_)
        · replace h := it_t g10 h
          cases h
          exact sm_ret_v (st := []) dX12_readClause_220 rfl ⟨rfl, rfl⟩
        · replace h := it_f g10 h
          refine sm_aload_n dX12_readClause_201 rfl rfl ?_
          refine sm_aload_n dX12_readClause_202 rfl rfl ?_
          refine sm_getR dX12_readClause_203 fg_RX12_55 k_355 (rf_12_24 k_355) ?_
          refine sm_bipush dX12_readClause_206 bp_16 ?_
          refine sm_aload_n dX12_readClause_208 rfl rfl ?_
          refine sm_getI dX12_readClause_209 fg_RX12_250 k_355 ?_
          refine sm_iconst dX12_readClause_212 ic_1 ?_
          refine sm_isub dX12_readClause_213 ?_
          refine sm_imul dX12_readClause_214 ?_
          refine sm_iconst dX12_readClause_215 ic_3 ?_
          refine sm_iadd dX12_readClause_216 ?_
          obtain ⟨μ6z, g11, h⟩ := obv_some h
          refine sm_callV dX12_readClause_217 cv_X12_readWords ml_RX12_269 k_355 rfl rfl (by decide) (as := [av_r 366, av_i ((16 * ((μ5z.1 355 29) - 1)) + 3)]) rfl (Nat.le_of_ble_eq_true rfl) rfl (s_Mo_readWords (D := d) (by omega) N k_366 g11) (fun r9 μ9 hp => ?_)
          rw [hp.1, hp.2]
          clear hp r9 μ9
          cases h
          exact sm_ret_v (st := []) dX12_readClause_220 rfl ⟨rfl, rfl⟩
      · replace h := it_t g7 h
        refine sm_aload_n dX12_readClause_106 rfl rfl ?_
        refine sm_dup dX12_readClause_107 rfl ?_
        refine sm_getI dX12_readClause_108 fg_RX12_247 k_355 ?_
        refine sm_iconst dX12_readClause_111 ic_1 ?_
        refine sm_iadd dX12_readClause_112 ?_
        refine sm_putI dX12_readClause_113 fp_RX12_247 k_355 ?_
        replace h := wr_some h
        refine sm_aload_n dX12_readClause_116 rfl rfl ?_
        refine sm_iload_n dX12_readClause_117 rfl rfl ?_
        refine sm_aload_n dX12_readClause_118 rfl rfl ?_
        refine sm_getR dX12_readClause_119 fg_RX12_46 k_355 (rf_12_21 k_355) ?_
        refine sm_iconst dX12_readClause_122 ic_2 ?_
        refine sm_aload_n dX12_readClause_123 rfl rfl ?_
        refine sm_getI dX12_readClause_124 fg_RX12_247 k_355 ?_
        refine sm_iconst dX12_readClause_127 ic_1 ?_
        refine sm_isub dX12_readClause_128 ?_
        refine sm_imul dX12_readClause_129 ?_
        refine sm_ldcSw dX12_readClause_130 (i := 8) (by decide) rfl ?_
        obtain ⟨μ8z, g12, h⟩ := obv_some h
        refine sm_callV dX12_readClause_133 cv_X12_readItems ml_RX12_255 k_355 rfl rfl (by decide) (as := [av_i x1, av_r 363, av_i (2 * (((mm_I (mm_I μ 355 10 ((μ.1 355 10) + 1)) 355 28 (((mm_I μ 355 10 ((μ.1 355 10) + 1)).1 355 28) + 1)).1 355 28) - 1)), av_r 2008]) rfl (Nat.le_of_ble_eq_true rfl) rfl (s_Mo_readItems (D := d) (by omega) N k_363 k_2008 g12) (fun r9 μ9 hp => ?_)
        rw [hp.1, hp.2]
        clear hp r9 μ9
        refine sm_aload_n dX12_readClause_136 rfl rfl ?_
        obtain ⟨t137, μ9z, g13, h⟩ := ob_some h
        refine sm_callV dX12_readClause_137 cv_X12_isBehindColon ml_RX12_261 k_355 rfl rfl (by decide) (as := []) rfl (Nat.le_of_ble_eq_true rfl) rfl (s_Mo_isBehindColon (D := d) (by omega) N g13) (fun r9 μ9 hp => ?_)
        rw [hp.1, hp.2]
        clear hp r9 μ9
        refine sm_if_eq (tgt := 220) dX12_readClause_140 (by decide) (fun g14 => ?_) (fun g14 => ?_)
        · replace h := it_t g14 h
          cases h
          exact sm_ret_v (st := []) dX12_readClause_220 rfl ⟨rfl, rfl⟩
        · replace h := it_f g14 h
          refine sm_aload_n dX12_readClause_143 rfl rfl ?_
          refine sm_getR dX12_readClause_144 fg_RX12_46 k_355 (rf_12_21 k_355) ?_
          refine sm_iconst dX12_readClause_147 ic_2 ?_
          refine sm_aload_n dX12_readClause_148 rfl rfl ?_
          refine sm_getI dX12_readClause_149 fg_RX12_247 k_355 ?_
          refine sm_imul dX12_readClause_152 ?_
          refine sm_iconst dX12_readClause_153 ic_1 ?_
          refine sm_isub dX12_readClause_154 ?_
          refine sm_aload_n dX12_readClause_155 rfl rfl ?_
          obtain ⟨t156, μ10z, g15, h⟩ := ob_some h
          refine sm_callV dX12_readClause_156 cv_X12_readMarks ml_RX12_264 k_355 rfl rfl (by decide) (as := []) rfl (Nat.le_of_ble_eq_true rfl) rfl (s_Mo_readMarks (D := d) (by omega) N g15) (fun r9 μ9 hp => ?_)
          rw [hp.1, hp.2]
          clear hp r9 μ9
          obtain ⟨g16, h⟩ := gd_some h
          refine sm_iast (j := (Int32.toNatClampNeg ((2 * (μ9z.1 355 28)) - 1))) dX12_readClause_159 k_363 (in_sz n_363 g16) rfl ?_
          replace h := wr_some h
          refine sm_goto (tgt := 220) dX12_readClause_160 (by decide) ?_
          cases h
          exact sm_ret_v (st := []) dX12_readClause_220 rfl ⟨rfl, rfl⟩
    · replace h := it_t g6 h
      refine sm_aload_n dX12_readClause_80 rfl rfl ?_
      refine sm_iconst dX12_readClause_81 ic_1 ?_
      refine sm_putZ dX12_readClause_82 fp_RX12_244 k_355 (Or.inr rfl) ?_
      replace h := wr_some h
      refine sm_aload_n dX12_readClause_85 rfl rfl ?_
      refine sm_iload_n dX12_readClause_86 rfl rfl ?_
      refine sm_aload_n dX12_readClause_87 rfl rfl ?_
      refine sm_getR dX12_readClause_88 fg_RX12_40 k_355 (rf_12_19 k_355) ?_
      refine sm_iconst dX12_readClause_91 ic_0 ?_
      refine sm_ldcS dX12_readClause_92 (i := 7) (by decide) rfl ?_
      obtain ⟨μ13z, g17, h⟩ := obv_some h
      refine sm_callV dX12_readClause_94 cv_X12_readItems ml_RX12_255 k_355 rfl rfl (by decide) (as := [av_i x1, av_r 361, av_i 0, av_r 2007]) rfl (Nat.le_of_ble_eq_true rfl) rfl (s_Mo_readItems (D := d) (by omega) N k_361 k_2007 g17) (fun r9 μ9 hp => ?_)
      rw [hp.1, hp.2]
      clear hp r9 μ9
      refine sm_goto (tgt := 220) dX12_readClause_97 (by decide) ?_
      cases h
      exact sm_ret_v (st := []) dX12_readClause_220 rfl ⟨rfl, rfl⟩
  · replace h := it_t g5 h
    refine sm_aload_n dX12_readClause_58 rfl rfl ?_
    obtain ⟨t59, μ14z, g18, h⟩ := ob_some h
    refine sm_callV dX12_readClause_59 cv_X12_fails ml_RX12_129 k_355 rfl rfl (by decide) (as := []) rfl (Nat.le_of_ble_eq_true rfl) rfl (s_Mo_fails (D := d) (by omega) N g18) (fun r9 μ9 hp => ?_)
    rw [hp.1, hp.2]
    clear hp r9 μ9
    refine sm_pop dX12_readClause_62 rfl ?_
    cases h
    exact sm_ret_v (st := []) dX12_readClause_63 rfl ⟨rfl, rfl⟩
set_option maxRecDepth 100000 in
set_option maxHeartbeats 4000000 in
theorem s_Mo_readClause_B52 {D : Nat} (hD : 7 ≤ D) (N : Nat) {μr : MM} (x1 : Int32) (μ : MM) (h : f_Mo_readClause_B52 N x1 μ = some μr) : Sm D mX12_readClause 52 [some (av_r 355), some (av_i x1), none] [] μ (po_v μr) := by
  obtain ⟨d, rfl⟩ : ∃ d, D = d + 1 := ⟨D - 1, by omega⟩
  unfold f_Mo_readClause_B52 at h
  refine sm_iconst dX12_readClause_52 ic_0 ?_
  exact Sm_weak (le_s rfl (le_s rfl (le_n le_0))) (s_Mo_readClause_B53 hD N x1 0 μ h)
set_option maxRecDepth 100000 in
set_option maxHeartbeats 4000000 in
theorem s_Mo_readClause_B48 {D : Nat} (hD : 7 ≤ D) (N : Nat) {μr : MM} (x1 : Int32) (μ : MM) (h : f_Mo_readClause_B48 N x1 μ = some μr) : Sm D mX12_readClause 48 [some (av_r 355), some (av_i x1), none] [] μ (po_v μr) := by
  obtain ⟨d, rfl⟩ : ∃ d, D = d + 1 := ⟨D - 1, by omega⟩
  unfold f_Mo_readClause_B48 at h
  refine sm_iconst dX12_readClause_48 ic_1 ?_
  refine sm_goto (tgt := 53) dX12_readClause_49 (by decide) ?_
  exact Sm_weak (le_s rfl (le_s rfl (le_n le_0))) (s_Mo_readClause_B53 hD N x1 1 μ h)
set_option maxRecDepth 100000 in
set_option maxHeartbeats 4000000 in
theorem s_Mo_readClause_B33 {D : Nat} (hD : 7 ≤ D) (N : Nat) {μr : MM} (x1 : Int32) (μ : MM) (h : f_Mo_readClause_B33 N x1 μ = some μr) : Sm D mX12_readClause 33 [some (av_r 355), some (av_i x1), none] [] μ (po_v μr) := by
  obtain ⟨d, rfl⟩ : ∃ d, D = d + 1 := ⟨D - 1, by omega⟩
  unfold f_Mo_readClause_B33 at h
  refine sm_iload_n dX12_readClause_33 rfl rfl ?_
  refine sm_bipush dX12_readClause_34 bp_99 ?_
  refine sm_icmp_ne (tgt := 52) dX12_readClause_36 (by decide) (fun g4 => ?_) (fun g4 => ?_)
  · replace h := it_f g4 h
    exact Sm_weak (le_s rfl (le_s rfl (le_n le_0))) (s_Mo_readClause_B52 hD N x1 μ h)
  · replace h := it_t g4 h
    refine sm_aload_n dX12_readClause_39 rfl rfl ?_
    refine sm_getI dX12_readClause_40 fg_RX12_250 k_355 ?_
    refine sm_bipush dX12_readClause_43 bp_6 ?_
    refine sm_icmp_ge (tgt := 52) dX12_readClause_45 (by decide) (fun g19 => ?_) (fun g19 => ?_)
    · replace h := it_t g19 h
      exact Sm_weak (le_s rfl (le_s rfl (le_n le_0))) (s_Mo_readClause_B52 hD N x1 μ h)
    · replace h := it_f g19 h
      exact Sm_weak (le_s rfl (le_s rfl (le_n le_0))) (s_Mo_readClause_B48 hD N x1 μ h)
set_option maxRecDepth 100000 in
set_option maxHeartbeats 4000000 in
theorem s_Mo_readClause_B18 {D : Nat} (hD : 7 ≤ D) (N : Nat) {μr : MM} (x1 : Int32) (μ : MM) (h : f_Mo_readClause_B18 N x1 μ = some μr) : Sm D mX12_readClause 18 [some (av_r 355), some (av_i x1), none] [] μ (po_v μr) := by
  obtain ⟨d, rfl⟩ : ∃ d, D = d + 1 := ⟨D - 1, by omega⟩
  unfold f_Mo_readClause_B18 at h
  refine sm_iload_n dX12_readClause_18 rfl rfl ?_
  refine sm_bipush dX12_readClause_19 bp_116 ?_
  refine sm_icmp_ne (tgt := 33) dX12_readClause_21 (by decide) (fun g3 => ?_) (fun g3 => ?_)
  · replace h := it_f g3 h
    exact Sm_weak (le_s rfl (le_s rfl (le_n le_0))) (s_Mo_readClause_B33 hD N x1 μ h)
  · replace h := it_t g3 h
    refine sm_aload_n dX12_readClause_24 rfl rfl ?_
    refine sm_getI dX12_readClause_25 fg_RX12_247 k_355 ?_
    refine sm_bipush dX12_readClause_28 bp_8 ?_
    refine sm_icmp_lt (tgt := 48) dX12_readClause_30 (by decide) (fun g20 => ?_) (fun g20 => ?_)
    · replace h := it_t g20 h
      exact Sm_weak (le_s rfl (le_s rfl (le_n le_0))) (s_Mo_readClause_B48 hD N x1 μ h)
    · replace h := it_f g20 h
      exact Sm_weak (le_s rfl (le_s rfl (le_n le_0))) (s_Mo_readClause_B33 hD N x1 μ h)
set_option maxRecDepth 100000 in
set_option maxHeartbeats 4000000 in
theorem s_Mo_readClause {D : Nat} (hD : 7 ≤ D) (N : Nat) {μ : MM} {μr : MM} (h : f_Mo_readClause N μ = some μr) : Cl D mX12_readClause [av_r 355] μ (po_v μr) := by
  obtain ⟨d, rfl⟩ : ∃ d, D = d + 1 := ⟨D - 1, by omega⟩
  refine Cl_of pn_X12 (Nat.le_of_ble_eq_true rfl) ?_
  show Sm (d + 1) mX12_readClause 0 [some (av_r 355), none, none] [] μ (po_v μr)
  unfold f_Mo_readClause at h
  refine sm_aload_n dX12_readClause_0 rfl rfl ?_
  obtain ⟨t1, μ1z, g1, h⟩ := ob_some h
  refine sm_callV dX12_readClause_1 cv_X12_look ml_RX12_133 k_355 rfl rfl (by decide) (as := []) rfl (Nat.le_of_ble_eq_true rfl) rfl (s_Mo_look (D := d) (by omega) N g1) (fun r9 μ9 hp => ?_)
  rw [hp.1, hp.2]
  clear hp r9 μ9
  refine sm_istore_n dX12_readClause_4 rfl (Nat.le_of_ble_eq_true rfl) (pv_r rfl) ?_
  refine sm_iload_n dX12_readClause_5 rfl rfl ?_
  refine sm_bipush dX12_readClause_6 bp_115 ?_
  refine sm_icmp_ne (tgt := 18) dX12_readClause_8 (by decide) (fun g2 => ?_) (fun g2 => ?_)
  · replace h := it_f g2 h
    exact Sm_weak (le_s rfl (le_s rfl (le_n le_0))) (s_Mo_readClause_B18 hD N t1 μ1z h)
  · replace h := it_t g2 h
    refine sm_aload_n dX12_readClause_11 rfl rfl ?_
    refine sm_getI dX12_readClause_12 fg_RX12_244 k_355 ?_
    refine sm_if_eq (tgt := 48) dX12_readClause_15 (by decide) (fun g21 => ?_) (fun g21 => ?_)
    · replace h := it_t g21 h
      exact Sm_weak (le_s rfl (le_s rfl (le_n le_0))) (s_Mo_readClause_B48 hD N t1 μ1z h)
    · replace h := it_f g21 h
      exact Sm_weak (le_s rfl (le_s rfl (le_n le_0))) (s_Mo_readClause_B18 hD N t1 μ1z h)
