set_option maxRecDepth 100000 in
set_option maxHeartbeats 4000000 in
theorem s_Mo_light {D : Nat} (hD : 1 ≤ D) (N : Nat) {x1 : Int32} {μ : MM} {r : Int32} {μr : MM} (h : f_Mo_light N x1 μ = some (r, μr)) : Cl D mX12_light [av_r 355, av_i x1] μ (po_i r μr) := by
  obtain ⟨d, rfl⟩ : ∃ d, D = d + 1 := ⟨D - 1, by omega⟩
  refine Cl_of pn_X12 (Nat.le_of_ble_eq_true rfl) ?_
  show Sm (d + 1) mX12_light 0 [some (av_r 355), some (av_i x1)] [] μ (po_i r μr)
  unfold f_Mo_light at h
  refine sm_aload_n dX12_light_0 rfl rfl ?_
  refine sm_iconst dX12_light_1 ic_0 ?_
  refine sm_putI dX12_light_2 fp_RX12_91 k_355 ?_
  replace h := wr_some h
  refine sm_aload_n dX12_light_5 rfl rfl ?_
  refine sm_getI dX12_light_6 fg_RX12_297 k_355 ?_
  refine sm_if_eq (tgt := 35) dX12_light_9 (by decide) (fun g1 => ?_) (fun g1 => ?_)
  · replace h := it_t g1 h
    refine sm_iconst dX12_light_35 ic_0 ?_
    cases h
    exact sm_ret_z (st := []) dX12_light_36 rfl rfl ⟨rfl, rfl⟩
  · replace h := it_f g1 h
    refine sm_iload_n dX12_light_12 rfl rfl ?_
    refine sm_i2l dX12_light_13 ?_
    refine sm_lconst dX12_light_14 lc_0 ?_
    refine sm_ldc2 dX12_light_15 cs_RX12_378 ?_
    obtain ⟨t18, μ2z, g2, h⟩ := ob_some h
    refine sm_callS dX12_light_18 cs_X12_isIn ml_RX12_212 (as := [av_l (Int32.toInt64 x1), av_l 0, av_l 9]) rfl (Nat.le_of_ble_eq_true rfl) rfl (s_Mo_isIn (D := d) (by omega) N g2) (fun r9 μ9 hp => ?_)
    rw [hp.1, hp.2]
    clear hp r9 μ9
    refine sm_if_eq (tgt := 35) dX12_light_21 (by decide) (fun g3 => ?_) (fun g3 => ?_)
    · replace h := it_t g3 h
      refine sm_iconst dX12_light_35 ic_0 ?_
      cases h
      exact sm_ret_z (st := []) dX12_light_36 rfl rfl ⟨rfl, rfl⟩
    · replace h := it_f g3 h
      refine sm_iload_n dX12_light_24 rfl rfl ?_
      refine sm_aload_n dX12_light_25 rfl rfl ?_
      refine sm_getR dX12_light_26 fg_RX12_61 k_355 (rf_12_32 k_355) ?_
      refine sm_bipush dX12_light_29 bp_120 ?_
      refine sm_iald (j := 120) dX12_light_31 k_368 (in_sz n_368 (by decide)) (by decide) ?_
      refine sm_icmp_ne (tgt := 37) dX12_light_32 (by decide) (fun g5 => ?_) (fun g5 => ?_)
      · replace h := it_f g5 h
        refine sm_aload_n dX12_light_37 rfl rfl ?_
        obtain ⟨μ3z, g6, h⟩ := obv_some h
        refine sm_callV dX12_light_38 cv_X12_remember ml_RX12_372 k_355 rfl rfl (by decide) (as := []) rfl (Nat.le_of_ble_eq_true rfl) rfl (s_Mo_remember (D := d) (by omega) N g6) (fun r9 μ9 hp => ?_)
        rw [hp.1, hp.2]
        clear hp r9 μ9
        refine sm_aload_n dX12_light_41 rfl rfl ?_
        refine sm_getR dX12_light_42 fg_RX12_61 k_355 (rf_12_32 k_355) ?_
        refine sm_bipush dX12_light_45 bp_120 ?_
        refine sm_iload_n dX12_light_47 rfl rfl ?_
        refine sm_iast (j := 120) dX12_light_48 k_368 (in_sz n_368 (by decide)) (by decide) ?_
        replace h := wr_some h
        refine sm_iconst dX12_light_49 ic_1 ?_
        cases h
        exact sm_ret_z (st := []) dX12_light_50 rfl rfl ⟨rfl, rfl⟩
      · replace h := it_t g5 h
        refine sm_iconst dX12_light_35 ic_0 ?_
        cases h
        exact sm_ret_z (st := []) dX12_light_36 rfl rfl ⟨rfl, rfl⟩
set_option maxRecDepth 100000 in
set_option maxHeartbeats 4000000 in
theorem s_Mo_isReading {D : Nat} (hD : 0 ≤ D) (N : Nat) {x1 : Int32} {μ : MM} {r : Int32} {μr : MM} (h : f_Mo_isReading N x1 μ = some (r, μr)) : Cl D mX12_isReading [av_r 355, av_i x1] μ (po_i r μr) := by
  refine Cl_of pn_X12 (Nat.le_of_ble_eq_true rfl) ?_
  show Sm D mX12_isReading 0 [some (av_r 355), some (av_i x1)] [] μ (po_i r μr)
  unfold f_Mo_isReading at h
  refine sm_iload_n dX12_isReading_0 rfl rfl ?_
  refine sm_if_lt (tgt := 16) dX12_isReading_1 (by decide) (fun g1 => ?_) (fun g1 => ?_)
  · replace h := it_t g1 h
    refine sm_iconst dX12_isReading_16 ic_0 ?_
    cases h
    exact sm_ret_z (st := []) dX12_isReading_17 rfl rfl ⟨rfl, rfl⟩
  · replace h := it_f g1 h
    refine sm_iload_n dX12_isReading_4 rfl rfl ?_
    refine sm_aload_n dX12_isReading_5 rfl rfl ?_
    refine sm_getI dX12_isReading_6 fg_RX12_289 k_355 ?_
    refine sm_icmp_ge (tgt := 16) dX12_isReading_9 (by decide) (fun g2 => ?_) (fun g2 => ?_)
    · replace h := it_t g2 h
      refine sm_iconst dX12_isReading_16 ic_0 ?_
      cases h
      exact sm_ret_z (st := []) dX12_isReading_17 rfl rfl ⟨rfl, rfl⟩
    · replace h := it_f g2 h
      refine sm_iconst dX12_isReading_12 ic_1 ?_
      refine sm_goto (tgt := 17) dX12_isReading_13 (by decide) ?_
      cases h
      exact sm_ret_z (st := []) dX12_isReading_17 rfl rfl ⟨rfl, rfl⟩
set_option maxRecDepth 100000 in
set_option maxHeartbeats 4000000 in
theorem s_Mo_write {D : Nat} (hD : 1 ≤ D) (N : Nat) {x1 : Int32} {x2 : Int32} {μ : MM} {r : Int32} {μr : MM} (h : f_Mo_write N x1 x2 μ = some (r, μr)) : Cl D mX12_write [av_r 355, av_i x1, av_i x2] μ (po_i r μr) := by
  obtain ⟨d, rfl⟩ : ∃ d, D = d + 1 := ⟨D - 1, by omega⟩
  refine Cl_of pn_X12 (Nat.le_of_ble_eq_true rfl) ?_
  show Sm (d + 1) mX12_write 0 [some (av_r 355), some (av_i x1), some (av_i x2)] [] μ (po_i r μr)
  unfold f_Mo_write at h
  refine sm_aload_n dX12_write_0 rfl rfl ?_
  refine sm_iconst dX12_write_1 ic_0 ?_
  refine sm_putI dX12_write_2 fp_RX12_91 k_355 ?_
  replace h := wr_some h
  refine sm_aload_n dX12_write_5 rfl rfl ?_
  refine sm_iload_n dX12_write_6 rfl rfl ?_
  obtain ⟨t7, μ2z, g1, h⟩ := ob_some h
  refine sm_callV dX12_write_7 cv_X12_isCard ml_RX12_362 k_355 rfl rfl (by decide) (as := [av_i x1]) rfl (Nat.le_of_ble_eq_true rfl) rfl (s_Mo_isCard (D := d) (by omega) N g1) (fun r9 μ9 hp => ?_)
  rw [hp.1, hp.2]
  clear hp r9 μ9
  refine sm_if_eq (tgt := 34) dX12_write_10 (by decide) (fun g2 => ?_) (fun g2 => ?_)
  · replace h := it_t g2 h
    refine sm_iconst dX12_write_34 ic_m1 ?_
    cases h
    exact sm_ret_i (st := []) dX12_write_35 rfl ⟨rfl, rfl⟩
  · replace h := it_f g2 h
    refine sm_aload_n dX12_write_13 rfl rfl ?_
    refine sm_iload_n dX12_write_14 rfl rfl ?_
    obtain ⟨t15, μ3z, g3, h⟩ := ob_some h
    refine sm_callV dX12_write_15 cv_X12_isReading ml_RX12_380 k_355 rfl rfl (by decide) (as := [av_i x2]) rfl (Nat.le_of_ble_eq_true rfl) rfl (s_Mo_isReading (D := d) (by omega) N g3) (fun r9 μ9 hp => ?_)
    rw [hp.1, hp.2]
    clear hp r9 μ9
    refine sm_if_eq (tgt := 34) dX12_write_18 (by decide) (fun g4 => ?_) (fun g4 => ?_)
    · replace h := it_t g4 h
      refine sm_iconst dX12_write_34 ic_m1 ?_
      cases h
      exact sm_ret_i (st := []) dX12_write_35 rfl ⟨rfl, rfl⟩
    · replace h := it_f g4 h
      refine sm_aload_n dX12_write_21 rfl rfl ?_
      refine sm_getR dX12_write_22 fg_RX12_61 k_355 (rf_12_32 k_355) ?_
      refine sm_bipush dX12_write_25 bp_20 ?_
      refine sm_iload_n dX12_write_27 rfl rfl ?_
      refine sm_imul dX12_write_28 ?_
      obtain ⟨g5, h⟩ := gd_some h
      refine sm_iald (j := (Int32.toNatClampNeg (20 * x1))) dX12_write_29 k_368 (in_sz n_368 g5) rfl ?_
      refine sm_iconst dX12_write_30 ic_m1 ?_
      refine sm_icmp_eq (tgt := 36) dX12_write_31 (by decide) (fun g6 => ?_) (fun g6 => ?_)
      · replace h := it_t g6 h
        refine sm_aload_n dX12_write_36 rfl rfl ?_
        obtain ⟨μ4z, g7, h⟩ := obv_some h
        refine sm_callV dX12_write_37 cv_X12_remember ml_RX12_372 k_355 rfl rfl (by decide) (as := []) rfl (Nat.le_of_ble_eq_true rfl) rfl (s_Mo_remember (D := d) (by omega) N g7) (fun r9 μ9 hp => ?_)
        rw [hp.1, hp.2]
        clear hp r9 μ9
        refine sm_aload_n dX12_write_40 rfl rfl ?_
        refine sm_getR dX12_write_41 fg_RX12_61 k_355 (rf_12_32 k_355) ?_
        refine sm_iload_n dX12_write_44 rfl rfl ?_
        refine sm_aload_n dX12_write_45 rfl rfl ?_
        refine sm_getR dX12_write_46 fg_RX12_58 k_355 (rf_12_25 k_355) ?_
        refine sm_bipush dX12_write_49 bp_13 ?_
        refine sm_iload_n dX12_write_51 rfl rfl ?_
        refine sm_imul dX12_write_52 ?_
        refine sm_bipush dX12_write_53 bp_9 ?_
        obtain ⟨μ5z, g8, h⟩ := obv_some h
        refine sm_callS dX12_write_55 cs_X12_lays ml_RX12_300 (as := [av_r 368, av_i x1, av_r 367, av_i (13 * x2), av_i 9]) rfl (Nat.le_of_ble_eq_true rfl) rfl (s_Mo_lays (D := d) (by omega) N k_368 k_367 g8) (fun r9 μ9 hp => ?_)
        rw [hp.1, hp.2]
        clear hp r9 μ9
        refine sm_aload_n dX12_write_58 rfl rfl ?_
        refine sm_getR dX12_write_59 fg_RX12_61 k_355 (rf_12_32 k_355) ?_
        refine sm_iload_n dX12_write_62 rfl rfl ?_
        obtain ⟨t63, μ6z, g9, h⟩ := ob_some h
        refine sm_callS dX12_write_63 cs_X12_wordsOf ml_RX12_323 (as := [av_r 368, av_i x1]) rfl (Nat.le_of_ble_eq_true rfl) rfl (s_Mo_wordsOf (D := d) (by omega) N k_368 g9) (fun r9 μ9 hp => ?_)
        rw [hp.1, hp.2]
        clear hp r9 μ9
        cases h
        exact sm_ret_i (st := []) dX12_write_66 rfl ⟨rfl, rfl⟩
      · replace h := it_f g6 h
        refine sm_iconst dX12_write_34 ic_m1 ?_
        cases h
        exact sm_ret_i (st := []) dX12_write_35 rfl ⟨rfl, rfl⟩
set_option maxRecDepth 100000 in
set_option maxHeartbeats 4000000 in
theorem s_Mo_days_L28 {D : Nat} (hD : 93 ≤ D) (N : Nat) {r : Int32} {μr : MM} : ∀ (n : Nat) (x1 : Int32) (x2 : Int32) (μ : MM), f_Mo_days_L28 N n x1 x2 μ = some (r, μr) → Sm D mX12_days 28 [some (av_r 355), some (av_i x1), some (av_i x2)] [] μ (po_i r μr) := by
  obtain ⟨d, rfl⟩ : ∃ d, D = d + 1 := ⟨D - 1, by omega⟩
  intro n
  induction n with
  | zero => intro x1 x2 μ h; cases (show none = some (r, μr) from h)
  | succ n ih =>
    intro x1 x2 μ h
    rw [f_Mo_days_L28] at h
    refine sm_iload_n dX12_days_28 rfl rfl ?_
    refine sm_iload_n dX12_days_29 rfl rfl ?_
    refine sm_icmp_ge (tgt := 51) dX12_days_30 (by decide) (fun g4 => ?_) (fun g4 => ?_)
    · replace h := it_t g4 h
      refine sm_aload_n dX12_days_51 rfl rfl ?_
      refine sm_getR dX12_days_52 fg_RX12_61 k_355 (rf_12_32 k_355) ?_
      refine sm_bipush dX12_days_55 bp_122 ?_
      refine sm_iald (j := 122) dX12_days_57 k_368 (in_sz n_368 (by decide)) (by decide) ?_
      cases h
      exact sm_ret_i (st := []) dX12_days_58 rfl ⟨rfl, rfl⟩
    · replace h := it_f g4 h
      refine sm_aload_n dX12_days_33 rfl rfl ?_
      obtain ⟨μ3z, g6, h⟩ := obv_some h
      refine sm_callV dX12_days_34 cv_X12_remember ml_RX12_372 k_355 rfl rfl (by decide) (as := []) rfl (Nat.le_of_ble_eq_true rfl) rfl (s_Mo_remember (D := d) (by omega) N g6) (fun r9 μ9 hp => ?_)
      rw [hp.1, hp.2]
      clear hp r9 μ9
      refine sm_aload_n dX12_days_37 rfl rfl ?_
      refine sm_aload_n dX12_days_38 rfl rfl ?_
      refine sm_getR dX12_days_39 fg_RX12_61 k_355 (rf_12_32 k_355) ?_
      obtain ⟨μ4z, g7, h⟩ := obv_some h
      refine sm_callV dX12_days_42 cv_X12_goDay ml_RX12_385 k_355 rfl rfl (by decide) (as := [av_r 368]) rfl (Nat.le_of_ble_eq_true rfl) rfl (s_Mo_goDay (D := d) (by omega) N k_368 g7) (fun r9 μ9 hp => ?_)
      rw [hp.1, hp.2]
      clear hp r9 μ9
      refine sm_iinc dX12_days_45 rfl (congrArg (HAdd.hAdd x2) ic_1) (Nat.le_of_ble_eq_true rfl) (pv_i rfl) ?_
      refine sm_goto (tgt := 28) dX12_days_48 (by decide) ?_
      exact Sm_weak (le_s rfl (le_s rfl (le_s rfl le_0))) (ih x1 (x2 + 1) μ4z h)
set_option maxRecDepth 100000 in
set_option maxHeartbeats 4000000 in
theorem s_Mo_days {D : Nat} (hD : 93 ≤ D) (N : Nat) {x1 : Int32} {μ : MM} {r : Int32} {μr : MM} (h : f_Mo_days N x1 μ = some (r, μr)) : Cl D mX12_days [av_r 355, av_i x1] μ (po_i r μr) := by
  obtain ⟨d, rfl⟩ : ∃ d, D = d + 1 := ⟨D - 1, by omega⟩
  refine Cl_of pn_X12 (Nat.le_of_ble_eq_true rfl) ?_
  show Sm (d + 1) mX12_days 0 [some (av_r 355), some (av_i x1), none] [] μ (po_i r μr)
  unfold f_Mo_days at h
  refine sm_aload_n dX12_days_0 rfl rfl ?_
  refine sm_iconst dX12_days_1 ic_0 ?_
  refine sm_putI dX12_days_2 fp_RX12_91 k_355 ?_
  replace h := wr_some h
  refine sm_aload_n dX12_days_5 rfl rfl ?_
  refine sm_getI dX12_days_6 fg_RX12_297 k_355 ?_
  refine sm_if_eq (tgt := 24) dX12_days_9 (by decide) (fun g1 => ?_) (fun g1 => ?_)
  · replace h := it_t g1 h
    refine sm_iconst dX12_days_24 ic_m1 ?_
    cases h
    exact sm_ret_i (st := []) dX12_days_25 rfl ⟨rfl, rfl⟩
  · replace h := it_f g1 h
    refine sm_iload_n dX12_days_12 rfl rfl ?_
    refine sm_i2l dX12_days_13 ?_
    refine sm_lconst dX12_days_14 lc_1 ?_
    refine sm_ldc2 dX12_days_15 cs_RX12_383 ?_
    obtain ⟨t18, μ2z, g2, h⟩ := ob_some h
    refine sm_callS dX12_days_18 cs_X12_isIn ml_RX12_212 (as := [av_l (Int32.toInt64 x1), av_l 1, av_l 60]) rfl (Nat.le_of_ble_eq_true rfl) rfl (s_Mo_isIn (D := d) (by omega) N g2) (fun r9 μ9 hp => ?_)
    rw [hp.1, hp.2]
    clear hp r9 μ9
    refine sm_if_ne (tgt := 26) dX12_days_21 (by decide) (fun g3 => ?_) (fun g3 => ?_)
    · replace h := it_f g3 h
      refine sm_iconst dX12_days_26 ic_0 ?_
      refine sm_istore_n dX12_days_27 rfl (Nat.le_of_ble_eq_true rfl) (pv_i rfl) ?_
      exact Sm_weak (le_s rfl (le_s rfl (le_s rfl le_0))) (s_Mo_days_L28 hD N N x1 0 μ2z h)
    · replace h := it_t g3 h
      refine sm_iconst dX12_days_24 ic_m1 ?_
      cases h
      exact sm_ret_i (st := []) dX12_days_25 rfl ⟨rfl, rfl⟩
set_option maxRecDepth 100000 in
set_option maxHeartbeats 4000000 in
theorem s_Mo_draw {D : Nat} (hD : 0 ≤ D) (N : Nat) {x1 : Int32} {μ : MM} {r : Int32} {μr : MM} (h : f_Mo_draw N x1 μ = some (r, μr)) : Cl D mX12_draw [av_r 355, av_i x1] μ (po_i r μr) := by
  refine Cl_of pn_X12 (Nat.le_of_ble_eq_true rfl) ?_
  show Sm D mX12_draw 0 [some (av_r 355), some (av_i x1)] [] μ (po_i r μr)
  unfold f_Mo_draw at h
  refine sm_aload_n dX12_draw_0 rfl rfl ?_
  refine sm_aload_n dX12_draw_1 rfl rfl ?_
  refine sm_getJ dX12_draw_2 fg_RX12_389 k_355 ?_
  refine sm_ldc2 dX12_draw_5 cs_RX12_393 ?_
  refine sm_lmul dX12_draw_8 ?_
  refine sm_ldc2 dX12_draw_9 cs_RX12_395 ?_
  refine sm_ladd dX12_draw_12 ?_
  refine sm_putJ dX12_draw_13 fp_RX12_389 k_355 ?_
  replace h := wr_some h
  refine sm_aload_n dX12_draw_16 rfl rfl ?_
  refine sm_getJ dX12_draw_17 fg_RX12_389 k_355 ?_
  refine sm_bipush dX12_draw_20 bp_33 ?_
  refine sm_lushr dX12_draw_22 ?_
  refine sm_iload_n dX12_draw_23 rfl rfl ?_
  refine sm_i2l dX12_draw_24 ?_
  obtain ⟨g1, h⟩ := gd_some h
  refine sm_lrem dX12_draw_25 (nzl_ne g1) ?_
  refine sm_l2i dX12_draw_26 ?_
  cases h
  exact sm_ret_i (st := []) dX12_draw_27 rfl ⟨rfl, rfl⟩
set_option maxRecDepth 100000 in
set_option maxHeartbeats 4000000 in
theorem s_Mo_decades_B121 {D : Nat} (hD : 93 ≤ D) (N : Nat) {r : Int32} {μr : MM} {k34 : Int32 → Int32 → MM → Option (Int32 × MM)} (hk34 : ∀ (x1 : Int32) (x4 : Int32) (μ : MM), k34 x1 x4 μ = some (r, μr) → Sm D mX12_decades 34 [some (av_r 355), some (av_i x1), none, none, some (av_i x4), none, none, none] [] μ (po_i r μr)) (x1 : Int32) (x4 : Int32) (μ : MM) (h : f_Mo_decades_B121 N k34 x1 x4 μ = some (r, μr)) : Sm D mX12_decades 121 [some (av_r 355), some (av_i x1), none, none, some (av_i x4), none, none, none] [] μ (po_i r μr) := by
  obtain ⟨d, rfl⟩ : ∃ d, D = d + 1 := ⟨D - 1, by omega⟩
  unfold f_Mo_decades_B121 at h
  refine sm_aload_n dX12_decades_121 rfl rfl ?_
  refine sm_aload_n dX12_decades_122 rfl rfl ?_
  refine sm_getR dX12_decades_123 fg_RX12_61 k_355 (rf_12_32 k_355) ?_
  obtain ⟨μ6z, g9, h⟩ := obv_some h
  refine sm_callV dX12_decades_126 cv_X12_goDay ml_RX12_385 k_355 rfl rfl (by decide) (as := [av_r 368]) rfl (Nat.le_of_ble_eq_true rfl) rfl (s_Mo_goDay (D := d) (by omega) N k_368 g9) (fun r9 μ9 hp => ?_)
  rw [hp.1, hp.2]
  clear hp r9 μ9
  refine sm_iinc dX12_decades_129 rfl (congrArg (HAdd.hAdd x4) ic_1) (Nat.le_of_ble_eq_true rfl) (pv_n rfl) ?_
  refine sm_goto (tgt := 34) dX12_decades_132 (by decide) ?_
  exact Sm_weak (le_s rfl (le_s rfl (le_n (le_n (le_s rfl (le_n (le_n (le_n le_0)))))))) (hk34 x1 (x4 + 1) μ6z h)
set_option maxRecDepth 100000 in
set_option maxHeartbeats 4000000 in
theorem s_Mo_decades_L34 {D : Nat} (hD : 93 ≤ D) (N : Nat) {r : Int32} {μr : MM} : ∀ (n : Nat) (x1 : Int32) (x4 : Int32) (μ : MM), f_Mo_decades_L34 N n x1 x4 μ = some (r, μr) → Sm D mX12_decades 34 [some (av_r 355), some (av_i x1), none, none, some (av_i x4), none, none, none] [] μ (po_i r μr) := by
  obtain ⟨d, rfl⟩ : ∃ d, D = d + 1 := ⟨D - 1, by omega⟩
  intro n
  induction n with
  | zero => intro x1 x4 μ h; cases (show none = some (r, μr) from h)
  | succ n ih =>
    intro x1 x4 μ h
    rw [f_Mo_decades_L34] at h
    refine sm_iload dX12_decades_34 rfl ?_
    refine sm_iload_n dX12_decades_36 rfl rfl ?_
    refine sm_icmp_ge (tgt := 135) dX12_decades_37 (by decide) (fun g4 => ?_) (fun g4 => ?_)
    · replace h := it_t g4 h
      refine sm_aload_n dX12_decades_135 rfl rfl ?_
      refine sm_getR dX12_decades_136 fg_RX12_61 k_355 (rf_12_32 k_355) ?_
      refine sm_bipush dX12_decades_139 bp_122 ?_
      refine sm_iald (j := 122) dX12_decades_141 k_368 (in_sz n_368 (by decide)) (by decide) ?_
      cases h
      exact sm_ret_i (st := []) dX12_decades_142 rfl ⟨rfl, rfl⟩
    · replace h := it_f g4 h
      refine sm_aload_n dX12_decades_40 rfl rfl ?_
      obtain ⟨μ4z, g6, h⟩ := obv_some h
      refine sm_callV dX12_decades_41 cv_X12_remember ml_RX12_372 k_355 rfl rfl (by decide) (as := []) rfl (Nat.le_of_ble_eq_true rfl) rfl (s_Mo_remember (D := d) (by omega) N g6) (fun r9 μ9 hp => ?_)
      rw [hp.1, hp.2]
      clear hp r9 μ9
      refine sm_aload_n dX12_decades_44 rfl rfl ?_
      refine sm_bipush dX12_decades_45 bp_100 ?_
      obtain ⟨t47, μ5z, g7, h⟩ := ob_some h
      refine sm_callV dX12_decades_47 cv_X12_draw ml_RX12_397 k_355 rfl rfl (by decide) (as := [av_i 100]) rfl (Nat.le_of_ble_eq_true rfl) rfl (s_Mo_draw (D := d) (by omega) N g7) (fun r9 μ9 hp => ?_)
      rw [hp.1, hp.2]
      clear hp r9 μ9
      refine sm_aload_n dX12_decades_50 rfl rfl ?_
      refine sm_getI dX12_decades_51 fg_RX12_369 k_355 ?_
      refine sm_icmp_ge (tgt := 121) dX12_decades_54 (by decide) (fun g8 => ?_) (fun g8 => ?_)
      · replace h := it_t g8 h
        exact Sm_weak (le_s rfl (le_s rfl (le_n (le_n (le_s rfl (le_n (le_n (le_n le_0)))))))) (s_Mo_decades_B121 hD N ih x1 x4 μ5z h)
      · replace h := it_f g8 h
        refine sm_aload_n dX12_decades_57 rfl rfl ?_
        refine sm_aload_n dX12_decades_58 rfl rfl ?_
        refine sm_getI dX12_decades_59 fg_RX12_297 k_355 ?_
        obtain ⟨t62, μ7z, g10, h⟩ := ob_some h
        refine sm_callV dX12_decades_62 cv_X12_draw ml_RX12_397 k_355 rfl rfl (by decide) (as := [av_i (μ5z.1 355 27)]) rfl (Nat.le_of_ble_eq_true rfl) rfl (s_Mo_draw (D := d) (by omega) N g10) (fun r9 μ9 hp => ?_)
        rw [hp.1, hp.2]
        clear hp r9 μ9
        refine sm_istore dX12_decades_65 (Nat.le_of_ble_eq_true rfl) (pv_i rfl) ?_
        refine sm_aload_n dX12_decades_67 rfl rfl ?_
        refine sm_aload_n dX12_decades_68 rfl rfl ?_
        refine sm_getI dX12_decades_69 fg_RX12_297 k_355 ?_
        obtain ⟨t72, μ8z, g11, h⟩ := ob_some h
        refine sm_callV dX12_decades_72 cv_X12_draw ml_RX12_397 k_355 rfl rfl (by decide) (as := [av_i (μ7z.1 355 27)]) rfl (Nat.le_of_ble_eq_true rfl) rfl (s_Mo_draw (D := d) (by omega) N g11) (fun r9 μ9 hp => ?_)
        rw [hp.1, hp.2]
        clear hp r9 μ9
        refine sm_istore dX12_decades_75 (Nat.le_of_ble_eq_true rfl) (pv_i rfl) ?_
        refine sm_aload_n dX12_decades_77 rfl rfl ?_
        refine sm_getR dX12_decades_78 fg_RX12_61 k_355 (rf_12_32 k_355) ?_
        refine sm_bipush dX12_decades_81 bp_20 ?_
        refine sm_iload dX12_decades_83 rfl ?_
        refine sm_imul dX12_decades_85 ?_
        obtain ⟨g12, h⟩ := gd_some h
        refine sm_iald (j := (Int32.toNatClampNeg (20 * t62))) dX12_decades_86 k_368 (in_sz n_368 g12) rfl ?_
        refine sm_istore dX12_decades_87 (Nat.le_of_ble_eq_true rfl) (pv_i rfl) ?_
        refine sm_aload_n dX12_decades_89 rfl rfl ?_
        refine sm_getR dX12_decades_90 fg_RX12_61 k_355 (rf_12_32 k_355) ?_
        refine sm_bipush dX12_decades_93 bp_20 ?_
        refine sm_iload dX12_decades_95 rfl ?_
        refine sm_imul dX12_decades_97 ?_
        refine sm_aload_n dX12_decades_98 rfl rfl ?_
        refine sm_getR dX12_decades_99 fg_RX12_61 k_355 (rf_12_32 k_355) ?_
        refine sm_bipush dX12_decades_102 bp_20 ?_
        refine sm_iload dX12_decades_104 rfl ?_
        refine sm_imul dX12_decades_106 ?_
        obtain ⟨g13, h⟩ := gd_some h
        refine sm_iald (j := (Int32.toNatClampNeg (20 * t72))) dX12_decades_107 k_368 (in_sz n_368 g13) rfl ?_
        obtain ⟨g14, h⟩ := gd_some h
        refine sm_iast (j := (Int32.toNatClampNeg (20 * t62))) dX12_decades_108 k_368 (in_sz n_368 g14) rfl ?_
        replace h := wr_some h
        refine sm_aload_n dX12_decades_109 rfl rfl ?_
        refine sm_getR dX12_decades_110 fg_RX12_61 k_355 (rf_12_32 k_355) ?_
        refine sm_bipush dX12_decades_113 bp_20 ?_
        refine sm_iload dX12_decades_115 rfl ?_
        refine sm_imul dX12_decades_117 ?_
        refine sm_iload dX12_decades_118 rfl ?_
        obtain ⟨g15, h⟩ := gd_some h
        refine sm_iast (j := (Int32.toNatClampNeg (20 * t72))) dX12_decades_120 k_368 (in_sz n_368 g15) rfl ?_
        replace h := wr_some h
        exact Sm_weak (le_s rfl (le_s rfl (le_n (le_n (le_s rfl (le_n (le_n (le_n le_0)))))))) (s_Mo_decades_B121 hD N ih x1 x4 (mm_I (mm_I μ8z 368 (Int32.toNatClampNeg (20 * t62)) (μ8z.1 368 (Int32.toNatClampNeg (20 * t72)))) 368 (Int32.toNatClampNeg (20 * t72)) (μ8z.1 368 (Int32.toNatClampNeg (20 * t62)))) h)
set_option maxRecDepth 100000 in
set_option maxHeartbeats 4000000 in
theorem s_Mo_decades {D : Nat} (hD : 93 ≤ D) (N : Nat) {x1 : Int32} {y2 : Int64} {μ : MM} {r : Int32} {μr : MM} (h : f_Mo_decades N x1 y2 μ = some (r, μr)) : Cl D mX12_decades [av_r 355, av_i x1, av_l y2] μ (po_i r μr) := by
  obtain ⟨d, rfl⟩ : ∃ d, D = d + 1 := ⟨D - 1, by omega⟩
  refine Cl_of pn_X12 (Nat.le_of_ble_eq_true rfl) ?_
  show Sm (d + 1) mX12_decades 0 [some (av_r 355), some (av_i x1), some (av_l y2), none, none, none, none, none] [] μ (po_i r μr)
  unfold f_Mo_decades at h
  refine sm_aload_n dX12_decades_0 rfl rfl ?_
  refine sm_iconst dX12_decades_1 ic_0 ?_
  refine sm_putI dX12_decades_2 fp_RX12_91 k_355 ?_
  replace h := wr_some h
  refine sm_aload_n dX12_decades_5 rfl rfl ?_
  refine sm_getI dX12_decades_6 fg_RX12_297 k_355 ?_
  refine sm_if_eq (tgt := 24) dX12_decades_9 (by decide) (fun g1 => ?_) (fun g1 => ?_)
  · replace h := it_t g1 h
    refine sm_iconst dX12_decades_24 ic_m1 ?_
    cases h
    exact sm_ret_i (st := []) dX12_decades_25 rfl ⟨rfl, rfl⟩
  · replace h := it_f g1 h
    refine sm_iload_n dX12_decades_12 rfl rfl ?_
    refine sm_i2l dX12_decades_13 ?_
    refine sm_lconst dX12_decades_14 lc_1 ?_
    refine sm_ldc2 dX12_decades_15 cs_RX12_383 ?_
    obtain ⟨t18, μ2z, g2, h⟩ := ob_some h
    refine sm_callS dX12_decades_18 cs_X12_isIn ml_RX12_212 (as := [av_l (Int32.toInt64 x1), av_l 1, av_l 60]) rfl (Nat.le_of_ble_eq_true rfl) rfl (s_Mo_isIn (D := d) (by omega) N g2) (fun r9 μ9 hp => ?_)
    rw [hp.1, hp.2]
    clear hp r9 μ9
    refine sm_if_ne (tgt := 26) dX12_decades_21 (by decide) (fun g3 => ?_) (fun g3 => ?_)
    · replace h := it_f g3 h
      refine sm_aload_n dX12_decades_26 rfl rfl ?_
      refine sm_lload_n dX12_decades_27 rfl rfl ?_
      refine sm_putJ dX12_decades_28 fp_RX12_389 k_355 ?_
      replace h := wr_some h
      refine sm_iconst dX12_decades_31 ic_0 ?_
      refine sm_istore dX12_decades_32 (Nat.le_of_ble_eq_true rfl) (pv_n rfl) ?_
      exact Sm_weak (le_s rfl (le_s rfl (le_n (le_n (le_s rfl (le_n (le_n (le_n le_0)))))))) (s_Mo_decades_L34 hD N N x1 0 (mm_J μ2z 355 38 y2) h)
    · replace h := it_t g3 h
      refine sm_iconst dX12_decades_24 ic_m1 ?_
      cases h
      exact sm_ret_i (st := []) dX12_decades_25 rfl ⟨rfl, rfl⟩
set_option maxRecDepth 100000 in
set_option maxHeartbeats 4000000 in
theorem s_Mo_undo_L26 {D : Nat} (hD : 0 ≤ D) (N : Nat) {r : Int32} {μr : MM} : ∀ (n : Nat) (x1 : Int32) (μ : MM), f_Mo_undo_L26 N n x1 μ = some (r, μr) → Sm D mX12_undo 26 [some (av_r 355), some (av_i x1)] [] μ (po_i r μr) := by
  intro n
  induction n with
  | zero => intro x1 μ h; cases (show none = some (r, μr) from h)
  | succ n ih =>
    intro x1 μ h
    rw [f_Mo_undo_L26] at h
    refine sm_iload_n dX12_undo_26 rfl rfl ?_
    refine sm_sipush dX12_undo_27 sp_304 ?_
    refine sm_icmp_ge (tgt := 60) dX12_undo_30 (by decide) (fun g2 => ?_) (fun g2 => ?_)
    · replace h := it_t g2 h
      refine sm_aload_n dX12_undo_60 rfl rfl ?_
      refine sm_getI dX12_undo_61 fg_RX12_307 k_355 ?_
      cases h
      exact sm_ret_i (st := []) dX12_undo_64 rfl ⟨rfl, rfl⟩
    · replace h := it_f g2 h
      refine sm_aload_n dX12_undo_33 rfl rfl ?_
      refine sm_getR dX12_undo_34 fg_RX12_61 k_355 (rf_12_32 k_355) ?_
      refine sm_iload_n dX12_undo_37 rfl rfl ?_
      refine sm_aload_n dX12_undo_38 rfl rfl ?_
      refine sm_getR dX12_undo_39 fg_RX12_71 k_355 (rf_12_36 k_355) ?_
      refine sm_sipush dX12_undo_42 sp_304 ?_
      refine sm_aload_n dX12_undo_45 rfl rfl ?_
      refine sm_getI dX12_undo_46 fg_RX12_307 k_355 ?_
      refine sm_imul dX12_undo_49 ?_
      refine sm_iload_n dX12_undo_50 rfl rfl ?_
      refine sm_iadd dX12_undo_51 ?_
      obtain ⟨g3, h⟩ := gd_some h
      refine sm_iald (j := (Int32.toNatClampNeg ((304 * (μ.1 355 37)) + x1))) dX12_undo_52 k_370 (in_sz n_370 g3) rfl ?_
      obtain ⟨g4, h⟩ := gd_some h
      refine sm_iast (j := (Int32.toNatClampNeg x1)) dX12_undo_53 k_368 (in_sz n_368 g4) rfl ?_
      replace h := wr_some h
      refine sm_iinc dX12_undo_54 rfl (congrArg (HAdd.hAdd x1) ic_1) (Nat.le_of_ble_eq_true rfl) (pv_r rfl) ?_
      refine sm_goto (tgt := 26) dX12_undo_57 (by decide) ?_
      exact Sm_weak (le_s rfl (le_s rfl le_0)) (ih (x1 + 1) (mm_I μ 368 (Int32.toNatClampNeg x1) (μ.1 370 (Int32.toNatClampNeg ((304 * (μ.1 355 37)) + x1)))) h)
set_option maxRecDepth 100000 in
set_option maxHeartbeats 4000000 in
theorem s_Mo_undo {D : Nat} (hD : 0 ≤ D) (N : Nat) {μ : MM} {r : Int32} {μr : MM} (h : f_Mo_undo N μ = some (r, μr)) : Cl D mX12_undo [av_r 355] μ (po_i r μr) := by
  refine Cl_of pn_X12 (Nat.le_of_ble_eq_true rfl) ?_
  show Sm D mX12_undo 0 [some (av_r 355), none] [] μ (po_i r μr)
  unfold f_Mo_undo at h
  refine sm_aload_n dX12_undo_0 rfl rfl ?_
  refine sm_iconst dX12_undo_1 ic_0 ?_
  refine sm_putI dX12_undo_2 fp_RX12_91 k_355 ?_
  replace h := wr_some h
  refine sm_aload_n dX12_undo_5 rfl rfl ?_
  refine sm_getI dX12_undo_6 fg_RX12_307 k_355 ?_
  refine sm_if_ne (tgt := 14) dX12_undo_9 (by decide) (fun g1 => ?_) (fun g1 => ?_)
  · replace h := it_f g1 h
    refine sm_aload_n dX12_undo_14 rfl rfl ?_
    refine sm_dup dX12_undo_15 rfl ?_
    refine sm_getI dX12_undo_16 fg_RX12_307 k_355 ?_
    refine sm_iconst dX12_undo_19 ic_1 ?_
    refine sm_isub dX12_undo_20 ?_
    refine sm_putI dX12_undo_21 fp_RX12_307 k_355 ?_
    replace h := wr_some h
    refine sm_iconst dX12_undo_24 ic_0 ?_
    refine sm_istore_n dX12_undo_25 rfl (Nat.le_of_ble_eq_true rfl) (pv_r rfl) ?_
    exact Sm_weak (le_s rfl (le_s rfl le_0)) (s_Mo_undo_L26 hD N N 0 (mm_I (mm_I μ 355 0 0) 355 37 (((mm_I μ 355 0 0).1 355 37) - 1)) h)
  · replace h := it_t g1 h
    refine sm_iconst dX12_undo_12 ic_m1 ?_
    cases h
    exact sm_ret_i (st := []) dX12_undo_13 rfl ⟨rfl, rfl⟩
set_option maxRecDepth 100000 in
set_option maxHeartbeats 4000000 in
theorem s_Mo_log {D : Nat} (hD : 1 ≤ D) (N : Nat) {x1 : Int32} {x2 : Int32} {μ : MM} {r : Int32} {μr : MM} (h : f_Mo_log N x1 x2 μ = some (r, μr)) : Cl D mX12_log [av_r 355, av_i x1, av_i x2] μ (po_i r μr) := by
  obtain ⟨d, rfl⟩ : ∃ d, D = d + 1 := ⟨D - 1, by omega⟩
  refine Cl_of pn_X12 (Nat.le_of_ble_eq_true rfl) ?_
  show Sm (d + 1) mX12_log 0 [some (av_r 355), some (av_i x1), some (av_i x2)] [] μ (po_i r μr)
  unfold f_Mo_log at h
  refine sm_aload_n dX12_log_0 rfl rfl ?_
  refine sm_iconst dX12_log_1 ic_0 ?_
  refine sm_putI dX12_log_2 fp_RX12_91 k_355 ?_
  replace h := wr_some h
  refine sm_iload_n dX12_log_5 rfl rfl ?_
  refine sm_i2l dX12_log_6 ?_
  refine sm_lconst dX12_log_7 lc_0 ?_
  refine sm_aload_n dX12_log_8 rfl rfl ?_
  refine sm_getR dX12_log_9 fg_RX12_61 k_355 (rf_12_32 k_355) ?_
  refine sm_bipush dX12_log_12 bp_123 ?_
  refine sm_iald (j := 123) dX12_log_14 k_368 (in_sz n_368 (by decide)) (by decide) ?_
  refine sm_iconst dX12_log_15 ic_1 ?_
  refine sm_isub dX12_log_16 ?_
  refine sm_i2l dX12_log_17 ?_
  obtain ⟨t18, μ2z, g2, h⟩ := ob_some h
  refine sm_callS dX12_log_18 cs_X12_isIn ml_RX12_212 (as := [av_l (Int32.toInt64 x1), av_l 0, av_l (Int32.toInt64 (((mm_I μ 355 0 0).1 368 123) - 1))]) rfl (Nat.le_of_ble_eq_true rfl) rfl (s_Mo_isIn (D := d) (by omega) N g2) (fun r9 μ9 hp => ?_)
  rw [hp.1, hp.2]
  clear hp r9 μ9
  refine sm_if_eq (tgt := 62) dX12_log_21 (by decide) (fun g3 => ?_) (fun g3 => ?_)
  · replace h := it_t g3 h
    refine sm_iconst dX12_log_62 ic_m1 ?_
    cases h
    exact sm_ret_i (st := []) dX12_log_63 rfl ⟨rfl, rfl⟩
  · replace h := it_f g3 h
    refine sm_iload_n dX12_log_24 rfl rfl ?_
    refine sm_i2l dX12_log_25 ?_
    refine sm_lconst dX12_log_26 lc_0 ?_
    refine sm_ldc2 dX12_log_27 cs_RX12_278 ?_
    obtain ⟨t30, μ3z, g4, h⟩ := ob_some h
    refine sm_callS dX12_log_30 cs_X12_isIn ml_RX12_212 (as := [av_l (Int32.toInt64 x2), av_l 0, av_l 2]) rfl (Nat.le_of_ble_eq_true rfl) rfl (s_Mo_isIn (D := d) (by omega) N g4) (fun r9 μ9 hp => ?_)
    rw [hp.1, hp.2]
    clear hp r9 μ9
    refine sm_if_eq (tgt := 62) dX12_log_33 (by decide) (fun g5 => ?_) (fun g5 => ?_)
    · replace h := it_t g5 h
      refine sm_iconst dX12_log_62 ic_m1 ?_
      cases h
      exact sm_ret_i (st := []) dX12_log_63 rfl ⟨rfl, rfl⟩
    · replace h := it_f g5 h
      refine sm_aload_n dX12_log_36 rfl rfl ?_
      refine sm_getR dX12_log_37 fg_RX12_61 k_355 (rf_12_32 k_355) ?_
      refine sm_bipush dX12_log_40 bp_124 ?_
      refine sm_iconst dX12_log_42 ic_3 ?_
      refine sm_aload_n dX12_log_43 rfl rfl ?_
      refine sm_getR dX12_log_44 fg_RX12_61 k_355 (rf_12_32 k_355) ?_
      refine sm_bipush dX12_log_47 bp_123 ?_
      refine sm_iald (j := 123) dX12_log_49 k_368 (in_sz n_368 (by decide)) (by decide) ?_
      refine sm_iconst dX12_log_50 ic_1 ?_
      refine sm_isub dX12_log_51 ?_
      refine sm_iload_n dX12_log_52 rfl rfl ?_
      refine sm_isub dX12_log_53 ?_
      refine sm_imul dX12_log_54 ?_
      refine sm_iadd dX12_log_55 ?_
      refine sm_iload_n dX12_log_56 rfl rfl ?_
      refine sm_iadd dX12_log_57 ?_
      obtain ⟨g7, h⟩ := gd_some h
      refine sm_iald (j := (Int32.toNatClampNeg ((124 + (3 * (((μ3z.1 368 123) - 1) - x1))) + x2))) dX12_log_58 k_368 (in_sz n_368 g7) rfl ?_
      refine sm_goto (tgt := 63) dX12_log_59 (by decide) ?_
      cases h
      exact sm_ret_i (st := []) dX12_log_63 rfl ⟨rfl, rfl⟩
set_option maxRecDepth 100000 in
set_option maxHeartbeats 4000000 in
theorem s_Mo_reading {D : Nat} (hD : 1 ≤ D) (N : Nat) {x1 : Int32} {x2 : Int32} {x3 : Int32} {μ : MM} {r : Int32} {μr : MM} (h : f_Mo_reading N x1 x2 x3 μ = some (r, μr)) : Cl D mX12_reading [av_r 355, av_i x1, av_i x2, av_i x3] μ (po_i r μr) := by
  obtain ⟨d, rfl⟩ : ∃ d, D = d + 1 := ⟨D - 1, by omega⟩
  refine Cl_of pn_X12 (Nat.le_of_ble_eq_true rfl) ?_
  show Sm (d + 1) mX12_reading 0 [some (av_r 355), some (av_i x1), some (av_i x2), some (av_i x3)] [] μ (po_i r μr)
  unfold f_Mo_reading at h
  refine sm_aload_n dX12_reading_0 rfl rfl ?_
  refine sm_iconst dX12_reading_1 ic_0 ?_
  refine sm_putI dX12_reading_2 fp_RX12_91 k_355 ?_
  replace h := wr_some h
  refine sm_aload_n dX12_reading_5 rfl rfl ?_
  refine sm_iload_n dX12_reading_6 rfl rfl ?_
  obtain ⟨t7, μ2z, g1, h⟩ := ob_some h
  refine sm_callV dX12_reading_7 cv_X12_isReading ml_RX12_380 k_355 rfl rfl (by decide) (as := [av_i x1]) rfl (Nat.le_of_ble_eq_true rfl) rfl (s_Mo_isReading (D := d) (by omega) N g1) (fun r9 μ9 hp => ?_)
  rw [hp.1, hp.2]
  clear hp r9 μ9
  refine sm_if_eq (tgt := 60) dX12_reading_10 (by decide) (fun g2 => ?_) (fun g2 => ?_)
  · replace h := it_t g2 h
    refine sm_iconst dX12_reading_60 ic_m1 ?_
    cases h
    exact sm_ret_i (st := []) dX12_reading_61 rfl ⟨rfl, rfl⟩
  · replace h := it_f g2 h
    refine sm_iload_n dX12_reading_13 rfl rfl ?_
    refine sm_if_lt (tgt := 60) dX12_reading_14 (by decide) (fun g3 => ?_) (fun g3 => ?_)
    · replace h := it_t g3 h
      refine sm_iconst dX12_reading_60 ic_m1 ?_
      cases h
      exact sm_ret_i (st := []) dX12_reading_61 rfl ⟨rfl, rfl⟩
    · replace h := it_f g3 h
      refine sm_iload_n dX12_reading_17 rfl rfl ?_
      refine sm_aload_n dX12_reading_18 rfl rfl ?_
      refine sm_getR dX12_reading_19 fg_RX12_58 k_355 (rf_12_25 k_355) ?_
      refine sm_bipush dX12_reading_22 bp_13 ?_
      refine sm_iload_n dX12_reading_24 rfl rfl ?_
      refine sm_imul dX12_reading_25 ?_
      obtain ⟨g4, h⟩ := gd_some h
      refine sm_iald (j := (Int32.toNatClampNeg (13 * x1))) dX12_reading_26 k_367 (in_sz n_367 g4) rfl ?_
      refine sm_icmp_ge (tgt := 60) dX12_reading_27 (by decide) (fun g5 => ?_) (fun g5 => ?_)
      · replace h := it_t g5 h
        refine sm_iconst dX12_reading_60 ic_m1 ?_
        cases h
        exact sm_ret_i (st := []) dX12_reading_61 rfl ⟨rfl, rfl⟩
      · replace h := it_f g5 h
        refine sm_iload_n dX12_reading_30 rfl rfl ?_
        refine sm_i2l dX12_reading_31 ?_
        refine sm_lconst dX12_reading_32 lc_0 ?_
        refine sm_lconst dX12_reading_33 lc_1 ?_
        obtain ⟨t34, μ3z, g6, h⟩ := ob_some h
        refine sm_callS dX12_reading_34 cs_X12_isIn ml_RX12_212 (as := [av_l (Int32.toInt64 x3), av_l 0, av_l 1]) rfl (Nat.le_of_ble_eq_true rfl) rfl (s_Mo_isIn (D := d) (by omega) N g6) (fun r9 μ9 hp => ?_)
        rw [hp.1, hp.2]
        clear hp r9 μ9
        refine sm_if_eq (tgt := 60) dX12_reading_37 (by decide) (fun g7 => ?_) (fun g7 => ?_)
        · replace h := it_t g7 h
          refine sm_iconst dX12_reading_60 ic_m1 ?_
          cases h
          exact sm_ret_i (st := []) dX12_reading_61 rfl ⟨rfl, rfl⟩
        · replace h := it_f g7 h
          refine sm_aload_n dX12_reading_40 rfl rfl ?_
          refine sm_getR dX12_reading_41 fg_RX12_58 k_355 (rf_12_25 k_355) ?_
          refine sm_bipush dX12_reading_44 bp_13 ?_
          refine sm_iload_n dX12_reading_46 rfl rfl ?_
          refine sm_imul dX12_reading_47 ?_
          refine sm_iconst dX12_reading_48 ic_1 ?_
          refine sm_iadd dX12_reading_49 ?_
          refine sm_iconst dX12_reading_50 ic_2 ?_
          refine sm_iload_n dX12_reading_51 rfl rfl ?_
          refine sm_imul dX12_reading_52 ?_
          refine sm_iadd dX12_reading_53 ?_
          refine sm_iload_n dX12_reading_54 rfl rfl ?_
          refine sm_iadd dX12_reading_55 ?_
          obtain ⟨g8, h⟩ := gd_some h
          refine sm_iald (j := (Int32.toNatClampNeg ((((13 * x1) + 1) + (2 * x2)) + x3))) dX12_reading_56 k_367 (in_sz n_367 g8) rfl ?_
          refine sm_goto (tgt := 61) dX12_reading_57 (by decide) ?_
          cases h
          exact sm_ret_i (st := []) dX12_reading_61 rfl ⟨rfl, rfl⟩
set_option maxRecDepth 100000 in
set_option maxHeartbeats 4000000 in
theorem s_Mo_right_L18 {D : Nat} (hD : 4 ≤ D) (N : Nat) {r : Int32} {μr : MM} : ∀ (n : Nat) (x1 : Int32) (x2 : Int32) (μ : MM), f_Mo_right_L18 N n x1 x2 μ = some (r, μr) → Sm D mX12_right 18 [some (av_r 355), some (av_i x1), some (av_i x2)] [] μ (po_i r μr) := by
  obtain ⟨d, rfl⟩ : ∃ d, D = d + 1 := ⟨D - 1, by omega⟩
  intro n
  induction n with
  | zero => intro x1 x2 μ h; cases (show none = some (r, μr) from h)
  | succ n ih =>
    intro x1 x2 μ h
    rw [f_Mo_right_L18] at h
    refine sm_iload_n dX12_right_18 rfl rfl ?_
    refine sm_aload_n dX12_right_19 rfl rfl ?_
    refine sm_getI dX12_right_20 fg_RX12_297 k_355 ?_
    refine sm_icmp_ge (tgt := 54) dX12_right_23 (by decide) (fun g2 => ?_) (fun g2 => ?_)
    · replace h := it_t g2 h
      refine sm_iload_n dX12_right_54 rfl rfl ?_
      cases h
      exact sm_ret_i (st := []) dX12_right_55 rfl ⟨rfl, rfl⟩
    · replace h := it_f g2 h
      refine sm_iload_n dX12_right_26 rfl rfl ?_
      refine sm_aload_n dX12_right_27 rfl rfl ?_
      refine sm_aload_n dX12_right_28 rfl rfl ?_
      refine sm_getR dX12_right_29 fg_RX12_61 k_355 (rf_12_32 k_355) ?_
      refine sm_iload_n dX12_right_32 rfl rfl ?_
      obtain ⟨t33, μ2z, g3, h⟩ := ob_some h
      refine sm_callV dX12_right_33 cv_X12_isRight ml_RX12_352 k_355 rfl rfl (by decide) (as := [av_r 368, av_i x2]) rfl (Nat.le_of_ble_eq_true rfl) rfl (s_Mo_isRight (D := d) (by omega) N k_368 g3) (fun r9 μ9 hp => ?_)
      rw [hp.1, hp.2]
      clear hp r9 μ9
      have hj36 : ∀ (v36_0 : Int32), v36_0 = (if t33 = 0 then (0 : Int32) else ((1 : Int32) <<< (x2 &&& 31))) → Sm (d + 1) mX12_right 46 [some (av_r 355), none, some (av_i x2)] [av_i v36_0, av_i x1] μ2z (po_i r μr) := by
        intro v36_0 ev36_0
        subst ev36_0
        refine sm_ior dX12_right_46 ?_
        refine sm_istore_n dX12_right_47 rfl (Nat.le_of_ble_eq_true rfl) (pv_r rfl) ?_
        refine sm_iinc dX12_right_48 rfl (congrArg (HAdd.hAdd x2) ic_1) (Nat.le_of_ble_eq_true rfl) (pv_i rfl) ?_
        refine sm_goto (tgt := 18) dX12_right_51 (by decide) ?_
        exact Sm_weak (le_s rfl (le_s rfl (le_s rfl le_0))) (ih (x1 ||| (if t33 = 0 then (0 : Int32) else ((1 : Int32) <<< (x2 &&& 31)))) (x2 + 1) μ2z h)
      refine sm_if_eq (tgt := 45) dX12_right_36 (by decide) (fun c36_0 => ?_) (fun c36_0 => ?_)
      · refine sm_iconst dX12_right_45 ic_0 ?_
        exact Sm_weak (le_s rfl (le_n (le_s rfl le_0))) (hj36 _ (if_pos c36_0).symm)
      · refine sm_iconst dX12_right_39 ic_1 ?_
        refine sm_iload_n dX12_right_40 rfl rfl ?_
        refine sm_ishl dX12_right_41 ?_
        refine sm_goto (tgt := 46) dX12_right_42 (by decide) ?_
        exact Sm_weak (le_s rfl (le_n (le_s rfl le_0))) (hj36 _ (if_neg c36_0).symm)
set_option maxRecDepth 100000 in
set_option maxHeartbeats 4000000 in
theorem s_Mo_right {D : Nat} (hD : 4 ≤ D) (N : Nat) {μ : MM} {r : Int32} {μr : MM} (h : f_Mo_right N μ = some (r, μr)) : Cl D mX12_right [av_r 355] μ (po_i r μr) := by
  obtain ⟨d, rfl⟩ : ∃ d, D = d + 1 := ⟨D - 1, by omega⟩
  refine Cl_of pn_X12 (Nat.le_of_ble_eq_true rfl) ?_
  show Sm (d + 1) mX12_right 0 [some (av_r 355), none, none] [] μ (po_i r μr)
  unfold f_Mo_right at h
  refine sm_aload_n dX12_right_0 rfl rfl ?_
  refine sm_iconst dX12_right_1 ic_0 ?_
  refine sm_putI dX12_right_2 fp_RX12_91 k_355 ?_
  replace h := wr_some h
  refine sm_aload_n dX12_right_5 rfl rfl ?_
  refine sm_getI dX12_right_6 fg_RX12_297 k_355 ?_
  refine sm_if_ne (tgt := 14) dX12_right_9 (by decide) (fun g1 => ?_) (fun g1 => ?_)
  · replace h := it_f g1 h
    refine sm_iconst dX12_right_14 ic_0 ?_
    refine sm_istore_n dX12_right_15 rfl (Nat.le_of_ble_eq_true rfl) (pv_r rfl) ?_
    refine sm_iconst dX12_right_16 ic_0 ?_
    refine sm_istore_n dX12_right_17 rfl (Nat.le_of_ble_eq_true rfl) (pv_i rfl) ?_
    exact Sm_weak (le_s rfl (le_s rfl (le_s rfl le_0))) (s_Mo_right_L18 hD N N 0 0 (mm_I μ 355 0 0) h)
  · replace h := it_t g1 h
    refine sm_iconst dX12_right_12 ic_m1 ?_
    cases h
    exact sm_ret_i (st := []) dX12_right_13 rfl ⟨rfl, rfl⟩
set_option maxRecDepth 100000 in
set_option maxHeartbeats 4000000 in
theorem s_Mo_goMatch_L119 {D : Nat} (hD : 3 ≤ D) (N : Nat) {rc_X12_goMatch : Int32 → Int32 → Int32 → Int32 → Int32 → MM → Option MM} (hrc_X12_goMatch : ∀ (x1 : Int32) (x2 : Int32) (x3 : Int32) (x4 : Int32) (x5 : Int32) (μ : MM) (μr : MM), rc_X12_goMatch x1 x2 x3 x4 x5 μ = some μr → Cl (D - 1) mX12_goMatch [av_r 355, av_i x1, av_i x2, av_i x3, av_i x4, av_i x5] μ (po_v μr)) {μr : MM} : ∀ (n : Nat) (x1 : Int32) (x2 : Int32) (x3 : Int32) (x4 : Int32) (x5 : Int32) (x6 : Int32) (μ : MM), f_Mo_goMatch_L119 N rc_X12_goMatch n x1 x2 x3 x4 x5 x6 μ = some μr → Sm D mX12_goMatch 119 [some (av_r 355), some (av_i x1), some (av_i x2), some (av_i x3), some (av_i x4), some (av_i x5), some (av_i x6)] [] μ (po_v μr) := by
  obtain ⟨d, rfl⟩ : ∃ d, D = d + 1 := ⟨D - 1, by omega⟩
  intro n
  induction n with
  | zero => intro x1 x2 x3 x4 x5 x6 μ h; cases (show none = some μr from h)
  | succ n ih =>
    intro x1 x2 x3 x4 x5 x6 μ h
    rw [f_Mo_goMatch_L119] at h
    refine sm_iload dX12_goMatch_119 rfl ?_
    refine sm_aload_n dX12_goMatch_121 rfl rfl ?_
    refine sm_getI dX12_goMatch_122 fg_RX12_294 k_355 ?_
    refine sm_icmp_ge (tgt := 193) dX12_goMatch_125 (by decide) (fun g3 => ?_) (fun g3 => ?_)
    · replace h := it_t g3 h
      refine sm_aload_n dX12_goMatch_193 rfl rfl ?_
      refine sm_getR dX12_goMatch_194 fg_RX12_64 k_355 (rf_12_33 k_355) ?_
      refine sm_bipush dX12_goMatch_197 bp_20 ?_
      refine sm_iload_n dX12_goMatch_199 rfl rfl ?_
      refine sm_imul dX12_goMatch_200 ?_
      refine sm_iconst dX12_goMatch_201 ic_m1 ?_
      obtain ⟨g4, h⟩ := gd_some h
      refine sm_iast (j := (Int32.toNatClampNeg (20 * x1))) dX12_goMatch_202 k_369 (in_sz n_369 g4) rfl ?_
      replace h := wr_some h
      refine sm_aload_n dX12_goMatch_203 rfl rfl ?_
      refine sm_iload_n dX12_goMatch_204 rfl rfl ?_
      refine sm_iconst dX12_goMatch_205 ic_1 ?_
      refine sm_iadd dX12_goMatch_206 ?_
      refine sm_iload_n dX12_goMatch_207 rfl rfl ?_
      refine sm_iload_n dX12_goMatch_208 rfl rfl ?_
      refine sm_iload dX12_goMatch_209 rfl ?_
      refine sm_bipush dX12_goMatch_211 bp_10 ?_
      refine sm_iload dX12_goMatch_213 rfl ?_
      refine sm_imul dX12_goMatch_215 ?_
      refine sm_bipush dX12_goMatch_216 bp_9 ?_
      refine sm_iadd dX12_goMatch_218 ?_
      obtain ⟨μ2z, g5, h⟩ := obv_some h
      refine sm_callV dX12_goMatch_219 cv_X12_goMatch ml_RX12_409 k_355 rfl rfl (by decide) (as := [av_i (x1 + 1), av_i x2, av_i x3, av_i x4, av_i ((10 * x5) + 9)]) rfl (Nat.le_of_ble_eq_true rfl) rfl (hrc_X12_goMatch _ _ _ _ _ _ _ g5) (fun r9 μ9 hp => ?_)
      rw [hp.1, hp.2]
      clear hp r9 μ9
      cases h
      exact sm_ret_v (st := []) dX12_goMatch_222 rfl ⟨rfl, rfl⟩
    · replace h := it_f g3 h
      refine sm_iload_n dX12_goMatch_128 rfl rfl ?_
      refine sm_iload dX12_goMatch_129 rfl ?_
      obtain ⟨t131, μ3z, g6, h⟩ := ob_some h
      refine sm_callS dX12_goMatch_131 cs_X12_has ml_RX12_224 (as := [av_i x2, av_i x6]) rfl (Nat.le_of_ble_eq_true rfl) rfl (s_Mo_has (D := d) (by omega) N g6) (fun r9 μ9 hp => ?_)
      rw [hp.1, hp.2]
      clear hp r9 μ9
      refine sm_if_eq (tgt := 140) dX12_goMatch_134 (by decide) (fun g7 => ?_) (fun g7 => ?_)
      · replace h := it_t g7 h
        refine sm_aload_n dX12_goMatch_140 rfl rfl ?_
        refine sm_getR dX12_goMatch_141 fg_RX12_64 k_355 (rf_12_33 k_355) ?_
        refine sm_bipush dX12_goMatch_144 bp_20 ?_
        refine sm_iload_n dX12_goMatch_146 rfl rfl ?_
        refine sm_imul dX12_goMatch_147 ?_
        refine sm_iload dX12_goMatch_148 rfl ?_
        obtain ⟨g8, h⟩ := gd_some h
        refine sm_iast (j := (Int32.toNatClampNeg (20 * x1))) dX12_goMatch_150 k_369 (in_sz n_369 g8) rfl ?_
        replace h := wr_some h
        refine sm_aload_n dX12_goMatch_151 rfl rfl ?_
        refine sm_iload_n dX12_goMatch_152 rfl rfl ?_
        refine sm_iconst dX12_goMatch_153 ic_1 ?_
        refine sm_iadd dX12_goMatch_154 ?_
        refine sm_iload_n dX12_goMatch_155 rfl rfl ?_
        refine sm_iconst dX12_goMatch_156 ic_1 ?_
        refine sm_iload dX12_goMatch_157 rfl ?_
        refine sm_ishl dX12_goMatch_159 ?_
        refine sm_ior dX12_goMatch_160 ?_
        refine sm_iload_n dX12_goMatch_161 rfl rfl ?_
        refine sm_iconst dX12_goMatch_162 ic_1 ?_
        refine sm_iadd dX12_goMatch_163 ?_
        refine sm_iload dX12_goMatch_164 rfl ?_
        refine sm_aload_n dX12_goMatch_166 rfl rfl ?_
        refine sm_getR dX12_goMatch_167 fg_RX12_43 k_355 (rf_12_20 k_355) ?_
        refine sm_iconst dX12_goMatch_170 ic_2 ?_
        refine sm_iload dX12_goMatch_171 rfl ?_
        refine sm_imul dX12_goMatch_173 ?_
        obtain ⟨g9, h⟩ := gd_some h
        refine sm_iald (j := (Int32.toNatClampNeg (2 * x6))) dX12_goMatch_174 k_362 (in_sz n_362 g9) rfl ?_
        refine sm_iadd dX12_goMatch_175 ?_
        refine sm_bipush dX12_goMatch_176 bp_10 ?_
        refine sm_iload dX12_goMatch_178 rfl ?_
        refine sm_imul dX12_goMatch_180 ?_
        refine sm_iload dX12_goMatch_181 rfl ?_
        refine sm_iadd dX12_goMatch_183 ?_
        obtain ⟨μ5z, g10, h⟩ := obv_some h
        refine sm_callV dX12_goMatch_184 cv_X12_goMatch ml_RX12_409 k_355 rfl rfl (by decide) (as := [av_i (x1 + 1), av_i (x2 ||| ((1 : Int32) <<< (x6 &&& 31))), av_i (x3 + 1), av_i (x4 + ((mm_I μ3z 369 (Int32.toNatClampNeg (20 * x1)) x6).1 362 (Int32.toNatClampNeg (2 * x6)))), av_i ((10 * x5) + x6)]) rfl (Nat.le_of_ble_eq_true rfl) rfl (hrc_X12_goMatch _ _ _ _ _ _ _ g10) (fun r9 μ9 hp => ?_)
        rw [hp.1, hp.2]
        clear hp r9 μ9
        refine sm_iinc dX12_goMatch_187 rfl (congrArg (HAdd.hAdd x6) ic_1) (Nat.le_of_ble_eq_true rfl) (pv_i rfl) ?_
        refine sm_goto (tgt := 119) dX12_goMatch_190 (by decide) ?_
        exact Sm_weak (le_s rfl (le_s rfl (le_s rfl (le_s rfl (le_s rfl (le_s rfl (le_s rfl le_0))))))) (ih x1 x2 x3 x4 x5 (x6 + 1) μ5z h)
      · replace h := it_f g7 h
        refine sm_goto (tgt := 187) dX12_goMatch_137 (by decide) ?_
        refine sm_iinc dX12_goMatch_187 rfl (congrArg (HAdd.hAdd x6) ic_1) (Nat.le_of_ble_eq_true rfl) (pv_i rfl) ?_
        refine sm_goto (tgt := 119) dX12_goMatch_190 (by decide) ?_
        exact Sm_weak (le_s rfl (le_s rfl (le_s rfl (le_s rfl (le_s rfl (le_s rfl (le_s rfl le_0))))))) (ih x1 x2 x3 x4 x5 (x6 + 1) μ3z h)
set_option maxRecDepth 100000 in
set_option maxHeartbeats 4000000 in
theorem s_Mo_goMatch_L45 {D : Nat} (hD : 3 ≤ D) (N : Nat) {rc_X12_goMatch : Int32 → Int32 → Int32 → Int32 → Int32 → MM → Option MM} (hrc_X12_goMatch : ∀ (x1 : Int32) (x2 : Int32) (x3 : Int32) (x4 : Int32) (x5 : Int32) (μ : MM) (μr : MM), rc_X12_goMatch x1 x2 x3 x4 x5 μ = some μr → Cl (D - 1) mX12_goMatch [av_r 355, av_i x1, av_i x2, av_i x3, av_i x4, av_i x5] μ (po_v μr)) {μr : MM} : ∀ (n : Nat) (x3 : Int32) (x4 : Int32) (x5 : Int32) (x6 : Int32) (μ : MM), f_Mo_goMatch_L45 N rc_X12_goMatch n x3 x4 x5 x6 μ = some μr → Sm D mX12_goMatch 45 [some (av_r 355), none, none, some (av_i x3), some (av_i x4), some (av_i x5), some (av_i x6)] [] μ (po_v μr) := by
  obtain ⟨d, rfl⟩ : ∃ d, D = d + 1 := ⟨D - 1, by omega⟩
  intro n
  induction n with
  | zero => intro x3 x4 x5 x6 μ h; cases (show none = some μr from h)
  | succ n ih =>
    intro x3 x4 x5 x6 μ h
    rw [f_Mo_goMatch_L45] at h
    refine sm_iload dX12_goMatch_45 rfl ?_
    refine sm_aload_n dX12_goMatch_47 rfl rfl ?_
    refine sm_getI dX12_goMatch_48 fg_RX12_297 k_355 ?_
    refine sm_icmp_ge (tgt := 98) dX12_goMatch_51 (by decide) (fun g12 => ?_) (fun g12 => ?_)
    · replace h := it_t g12 h
      refine sm_aload_n dX12_goMatch_98 rfl rfl ?_
      refine sm_iload dX12_goMatch_99 rfl ?_
      refine sm_putI dX12_goMatch_101 fp_RX12_406 k_355 ?_
      replace h := wr_some h
      refine sm_aload_n dX12_goMatch_104 rfl rfl ?_
      refine sm_iload_n dX12_goMatch_105 rfl rfl ?_
      refine sm_putI dX12_goMatch_106 fp_RX12_400 k_355 ?_
      replace h := wr_some h
      refine sm_aload_n dX12_goMatch_109 rfl rfl ?_
      refine sm_iload dX12_goMatch_110 rfl ?_
      refine sm_putI dX12_goMatch_112 fp_RX12_403 k_355 ?_
      replace h := wr_some h
      cases h
      exact sm_ret_v (st := []) dX12_goMatch_115 rfl ⟨rfl, rfl⟩
    · replace h := it_f g12 h
      refine sm_aload_n dX12_goMatch_54 rfl rfl ?_
      refine sm_getR dX12_goMatch_55 fg_RX12_64 k_355 (rf_12_33 k_355) ?_
      refine sm_bipush dX12_goMatch_58 bp_20 ?_
      refine sm_iload dX12_goMatch_60 rfl ?_
      refine sm_imul dX12_goMatch_62 ?_
      obtain ⟨g13, h⟩ := gd_some h
      refine sm_iald (j := (Int32.toNatClampNeg (20 * x6))) dX12_goMatch_63 k_369 (in_sz n_369 g13) rfl ?_
      refine sm_iconst dX12_goMatch_64 ic_m1 ?_
      refine sm_icmp_eq (tgt := 92) dX12_goMatch_65 (by decide) (fun g14 => ?_) (fun g14 => ?_)
      · replace h := it_t g14 h
        refine sm_iinc dX12_goMatch_92 rfl (congrArg (HAdd.hAdd x6) ic_1) (Nat.le_of_ble_eq_true rfl) (pv_i rfl) ?_
        refine sm_goto (tgt := 45) dX12_goMatch_95 (by decide) ?_
        exact Sm_weak (le_s rfl (le_n (le_n (le_s rfl (le_s rfl (le_s rfl (le_s rfl le_0))))))) (ih x3 x4 x5 (x6 + 1) μ h)
      · replace h := it_f g14 h
        refine sm_aload_n dX12_goMatch_68 rfl rfl ?_
        refine sm_aload_n dX12_goMatch_69 rfl rfl ?_
        refine sm_getR dX12_goMatch_70 fg_RX12_64 k_355 (rf_12_33 k_355) ?_
        refine sm_iload dX12_goMatch_73 rfl ?_
        refine sm_aload_n dX12_goMatch_75 rfl rfl ?_
        refine sm_getR dX12_goMatch_76 fg_RX12_64 k_355 (rf_12_33 k_355) ?_
        refine sm_bipush dX12_goMatch_79 bp_20 ?_
        refine sm_iload dX12_goMatch_81 rfl ?_
        refine sm_imul dX12_goMatch_83 ?_
        obtain ⟨g15, h⟩ := gd_some h
        refine sm_iald (j := (Int32.toNatClampNeg (20 * x6))) dX12_goMatch_84 k_369 (in_sz n_369 g15) rfl ?_
        obtain ⟨t85, μ9z, g16, h⟩ := ob_some h
        refine sm_callV dX12_goMatch_85 cv_X12_fitsIn ml_RX12_334 k_355 rfl rfl (by decide) (as := [av_r 369, av_i x6, av_i (μ.1 369 (Int32.toNatClampNeg (20 * x6)))]) rfl (Nat.le_of_ble_eq_true rfl) rfl (s_Mo_fitsIn (D := d) (by omega) N k_369 g16) (fun r9 μ9 hp => ?_)
        rw [hp.1, hp.2]
        clear hp r9 μ9
        refine sm_if_ne (tgt := 92) dX12_goMatch_88 (by decide) (fun g17 => ?_) (fun g17 => ?_)
        · replace h := it_f g17 h
          refine sm_iinc dX12_goMatch_92 rfl (congrArg (HAdd.hAdd x6) ic_1) (Nat.le_of_ble_eq_true rfl) (pv_i rfl) ?_
          refine sm_goto (tgt := 45) dX12_goMatch_95 (by decide) ?_
          exact Sm_weak (le_s rfl (le_n (le_n (le_s rfl (le_s rfl (le_s rfl (le_s rfl le_0))))))) (ih x3 x4 x5 (x6 + 1) μ9z h)
        · replace h := it_t g17 h
          cases h
          exact sm_ret_v (st := []) dX12_goMatch_91 rfl ⟨rfl, rfl⟩
set_option maxRecDepth 100000 in
set_option maxHeartbeats 4000000 in
theorem s_Mo_goMatch_body {D : Nat} (hD : 3 ≤ D) (N : Nat) {rc_X12_goMatch : Int32 → Int32 → Int32 → Int32 → Int32 → MM → Option MM} (hrc_X12_goMatch : ∀ (x1 : Int32) (x2 : Int32) (x3 : Int32) (x4 : Int32) (x5 : Int32) (μ : MM) (μr : MM), rc_X12_goMatch x1 x2 x3 x4 x5 μ = some μr → Cl (D - 1) mX12_goMatch [av_r 355, av_i x1, av_i x2, av_i x3, av_i x4, av_i x5] μ (po_v μr)) {x1 : Int32} {x2 : Int32} {x3 : Int32} {x4 : Int32} {x5 : Int32} {μ : MM} {μr : MM} (h : f_Mo_goMatch_body N rc_X12_goMatch x1 x2 x3 x4 x5 μ = some μr) : Cl D mX12_goMatch [av_r 355, av_i x1, av_i x2, av_i x3, av_i x4, av_i x5] μ (po_v μr) := by
  obtain ⟨d, rfl⟩ : ∃ d, D = d + 1 := ⟨D - 1, by omega⟩
  refine Cl_of pn_X12 (Nat.le_of_ble_eq_true rfl) ?_
  show Sm (d + 1) mX12_goMatch 0 [some (av_r 355), some (av_i x1), some (av_i x2), some (av_i x3), some (av_i x4), some (av_i x5), none] [] μ (po_v μr)
  unfold f_Mo_goMatch_body at h
  refine sm_iload_n dX12_goMatch_0 rfl rfl ?_
  refine sm_aload_n dX12_goMatch_1 rfl rfl ?_
  refine sm_getI dX12_goMatch_2 fg_RX12_297 k_355 ?_
  refine sm_iadd dX12_goMatch_5 ?_
  refine sm_iload_n dX12_goMatch_6 rfl rfl ?_
  refine sm_isub dX12_goMatch_7 ?_
  refine sm_aload_n dX12_goMatch_8 rfl rfl ?_
  refine sm_getI dX12_goMatch_9 fg_RX12_400 k_355 ?_
  refine sm_icmp_ge (tgt := 16) dX12_goMatch_12 (by decide) (fun g1 => ?_) (fun g1 => ?_)
  · replace h := it_t g1 h
    refine sm_iload_n dX12_goMatch_16 rfl rfl ?_
    refine sm_aload_n dX12_goMatch_17 rfl rfl ?_
    refine sm_getI dX12_goMatch_18 fg_RX12_297 k_355 ?_
    refine sm_icmp_ne (tgt := 116) dX12_goMatch_21 (by decide) (fun g2 => ?_) (fun g2 => ?_)
    · replace h := it_f g2 h
      refine sm_iconst dX12_goMatch_116 ic_0 ?_
      refine sm_istore dX12_goMatch_117 (Nat.le_of_ble_eq_true rfl) (pv_i rfl) ?_
      exact Sm_weak (le_s rfl (le_s rfl (le_s rfl (le_s rfl (le_s rfl (le_s rfl (le_s rfl le_0))))))) (s_Mo_goMatch_L119 hD N hrc_X12_goMatch N x1 x2 x3 x4 x5 0 μ h)
    · replace h := it_t g2 h
      refine sm_iload_n dX12_goMatch_24 rfl rfl ?_
      refine sm_aload_n dX12_goMatch_25 rfl rfl ?_
      refine sm_getI dX12_goMatch_26 fg_RX12_400 k_355 ?_
      refine sm_icmp_ne (tgt := 42) dX12_goMatch_29 (by decide) (fun g11 => ?_) (fun g11 => ?_)
      · replace h := it_f g11 h
        refine sm_iconst dX12_goMatch_42 ic_0 ?_
        refine sm_istore dX12_goMatch_43 (Nat.le_of_ble_eq_true rfl) (pv_i rfl) ?_
        exact Sm_weak (le_s rfl (le_n (le_n (le_s rfl (le_s rfl (le_s rfl (le_s rfl le_0))))))) (s_Mo_goMatch_L45 hD N hrc_X12_goMatch N x3 x4 x5 0 μ h)
      · replace h := it_t g11 h
        refine sm_iload dX12_goMatch_32 rfl ?_
        refine sm_aload_n dX12_goMatch_34 rfl rfl ?_
        refine sm_getI dX12_goMatch_35 fg_RX12_403 k_355 ?_
        refine sm_icmp_lt (tgt := 42) dX12_goMatch_38 (by decide) (fun g18 => ?_) (fun g18 => ?_)
        · replace h := it_t g18 h
          refine sm_iconst dX12_goMatch_42 ic_0 ?_
          refine sm_istore dX12_goMatch_43 (Nat.le_of_ble_eq_true rfl) (pv_i rfl) ?_
          exact Sm_weak (le_s rfl (le_n (le_n (le_s rfl (le_s rfl (le_s rfl (le_s rfl le_0))))))) (s_Mo_goMatch_L45 hD N hrc_X12_goMatch N x3 x4 x5 0 μ h)
        · replace h := it_f g18 h
          cases h
          exact sm_ret_v (st := []) dX12_goMatch_41 rfl ⟨rfl, rfl⟩
  · replace h := it_f g1 h
    cases h
    exact sm_ret_v (st := []) dX12_goMatch_15 rfl ⟨rfl, rfl⟩
set_option maxRecDepth 100000 in
set_option maxHeartbeats 4000000 in
theorem s_Mo_goMatch_t (N : Nat) : ∀ (t : Nat) {D : Nat} (hD : 3 + t ≤ D) (x1 : Int32) (x2 : Int32) (x3 : Int32) (x4 : Int32) (x5 : Int32) (μ : MM) (μr : MM) (h : f_Mo_goMatch_t N t x1 x2 x3 x4 x5 μ = some μr), Cl D mX12_goMatch [av_r 355, av_i x1, av_i x2, av_i x3, av_i x4, av_i x5] μ (po_v μr) := by
  intro t
  induction t with
  | zero => intro D hD x1 x2 x3 x4 x5 μ μr h; cases (show none = some μr from h)
  | succ t ih =>
    intro D hD x1 x2 x3 x4 x5 μ μr h
    exact s_Mo_goMatch_body (by omega) N (fun x1 x2 x3 x4 x5 μ μr hh => ih (by omega) x1 x2 x3 x4 x5 μ μr hh) h
set_option maxRecDepth 100000 in
set_option maxHeartbeats 4000000 in
theorem s_Mo_goMatch {D : Nat} (hD : 15 ≤ D) (N : Nat) {x1 : Int32} {x2 : Int32} {x3 : Int32} {x4 : Int32} {x5 : Int32} {μ : MM} {μr : MM} (h : f_Mo_goMatch N x1 x2 x3 x4 x5 μ = some μr) : Cl D mX12_goMatch [av_r 355, av_i x1, av_i x2, av_i x3, av_i x4, av_i x5] μ (po_v μr) := s_Mo_goMatch_t N 12 (by omega) _ _ _ _ _ μ _ h
set_option maxRecDepth 100000 in
set_option maxHeartbeats 4000000 in
theorem s_Mo_matched {D : Nat} (hD : 16 ≤ D) (N : Nat) {x1 : Int32} {μ : MM} {r : Int32} {μr : MM} (h : f_Mo_matched N x1 μ = some (r, μr)) : Cl D mX12_matched [av_r 355, av_i x1] μ (po_i r μr) := by
  obtain ⟨d, rfl⟩ : ∃ d, D = d + 1 := ⟨D - 1, by omega⟩
  refine Cl_of pn_X12 (Nat.le_of_ble_eq_true rfl) ?_
  show Sm (d + 1) mX12_matched 0 [some (av_r 355), some (av_i x1)] [] μ (po_i r μr)
  unfold f_Mo_matched at h
  refine sm_aload_n dX12_matched_0 rfl rfl ?_
  refine sm_iconst dX12_matched_1 ic_0 ?_
  refine sm_putI dX12_matched_2 fp_RX12_91 k_355 ?_
  replace h := wr_some h
  refine sm_aload_n dX12_matched_5 rfl rfl ?_
  refine sm_getI dX12_matched_6 fg_RX12_297 k_355 ?_
  refine sm_if_eq (tgt := 24) dX12_matched_9 (by decide) (fun g1 => ?_) (fun g1 => ?_)
  · replace h := it_t g1 h
    refine sm_iconst dX12_matched_24 ic_m1 ?_
    cases h
    exact sm_ret_i (st := []) dX12_matched_25 rfl ⟨rfl, rfl⟩
  · replace h := it_f g1 h
    refine sm_iload_n dX12_matched_12 rfl rfl ?_
    refine sm_i2l dX12_matched_13 ?_
    refine sm_lconst dX12_matched_14 lc_0 ?_
    refine sm_ldc2 dX12_matched_15 cs_RX12_278 ?_
    obtain ⟨t18, μ2z, g2, h⟩ := ob_some h
    refine sm_callS dX12_matched_18 cs_X12_isIn ml_RX12_212 (as := [av_l (Int32.toInt64 x1), av_l 0, av_l 2]) rfl (Nat.le_of_ble_eq_true rfl) rfl (s_Mo_isIn (D := d) (by omega) N g2) (fun r9 μ9 hp => ?_)
    rw [hp.1, hp.2]
    clear hp r9 μ9
    refine sm_if_ne (tgt := 26) dX12_matched_21 (by decide) (fun g3 => ?_) (fun g3 => ?_)
    · replace h := it_f g3 h
      refine sm_aload_n dX12_matched_26 rfl rfl ?_
      refine sm_getR dX12_matched_27 fg_RX12_61 k_355 (rf_12_32 k_355) ?_
      refine sm_aload_n dX12_matched_30 rfl rfl ?_
      refine sm_getR dX12_matched_31 fg_RX12_64 k_355 (rf_12_33 k_355) ?_
      obtain ⟨μ3z, g4, h⟩ := obv_some h
      refine sm_callS dX12_matched_34 cs_X12_copies ml_RX12_413 (as := [av_r 368, av_r 369]) rfl (Nat.le_of_ble_eq_true rfl) rfl (s_Mo_copies (D := d) (by omega) N k_368 k_369 g4) (fun r9 μ9 hp => ?_)
      rw [hp.1, hp.2]
      clear hp r9 μ9
      refine sm_aload_n dX12_matched_37 rfl rfl ?_
      refine sm_iconst dX12_matched_38 ic_0 ?_
      refine sm_putI dX12_matched_39 fp_RX12_400 k_355 ?_
      replace h := wr_some h
      refine sm_aload_n dX12_matched_42 rfl rfl ?_
      refine sm_ldcw dX12_matched_43 cs_RX12_417 ?_
      refine sm_putI dX12_matched_46 fp_RX12_403 k_355 ?_
      replace h := wr_some h
      refine sm_aload_n dX12_matched_49 rfl rfl ?_
      refine sm_iconst dX12_matched_50 ic_0 ?_
      refine sm_iconst dX12_matched_51 ic_0 ?_
      refine sm_iconst dX12_matched_52 ic_0 ?_
      refine sm_iconst dX12_matched_53 ic_0 ?_
      refine sm_iconst dX12_matched_54 ic_0 ?_
      obtain ⟨μ6z, g5, h⟩ := obv_some h
      refine sm_callV dX12_matched_55 cv_X12_goMatch ml_RX12_409 k_355 rfl rfl (by decide) (as := [av_i 0, av_i 0, av_i 0, av_i 0, av_i 0]) rfl (Nat.le_of_ble_eq_true rfl) rfl (s_Mo_goMatch (D := d) (by omega) N g5) (fun r9 μ9 hp => ?_)
      rw [hp.1, hp.2]
      clear hp r9 μ9
      refine sm_iload_n dX12_matched_58 rfl rfl ?_
      have hj59 : ∀ (v59_0 : Int32), v59_0 = (if x1 = 0 then (μ6z.1 355 39) else (if x1 = 1 then (μ6z.1 355 40) else (μ6z.1 355 41))) → Sm (d + 1) mX12_matched 85 [none, none] [av_i v59_0] μ6z (po_i r μr) := by
        intro v59_0 ev59_0
        subst ev59_0
        cases h
        exact sm_ret_i (st := []) dX12_matched_85 rfl ⟨rfl, rfl⟩
      refine sm_if_ne (tgt := 69) dX12_matched_59 (by decide) (fun c59_0 => ?_) (fun c59_0 => ?_)
      · refine sm_iload_n dX12_matched_69 rfl rfl ?_
        refine sm_iconst dX12_matched_70 ic_1 ?_
        refine sm_icmp_ne (tgt := 81) dX12_matched_71 (by decide) (fun c71_1 => ?_) (fun c71_1 => ?_)
        · refine sm_aload_n dX12_matched_81 rfl rfl ?_
          refine sm_getI dX12_matched_82 fg_RX12_403 k_355 ?_
          exact Sm_weak (le_n (le_n le_0)) (hj59 _ ((if_neg c59_0).trans (if_neg c71_1)).symm)
        · refine sm_aload_n dX12_matched_74 rfl rfl ?_
          refine sm_getI dX12_matched_75 fg_RX12_400 k_355 ?_
          refine sm_goto (tgt := 85) dX12_matched_78 (by decide) ?_
          exact Sm_weak (le_n (le_n le_0)) (hj59 _ ((if_neg c59_0).trans (if_pos c71_1)).symm)
      · refine sm_aload_n dX12_matched_62 rfl rfl ?_
        refine sm_getI dX12_matched_63 fg_RX12_406 k_355 ?_
        refine sm_goto (tgt := 85) dX12_matched_66 (by decide) ?_
        exact Sm_weak (le_n (le_n le_0)) (hj59 _ (if_pos c59_0).symm)
    · replace h := it_t g3 h
      refine sm_iconst dX12_matched_24 ic_m1 ?_
      cases h
      exact sm_ret_i (st := []) dX12_matched_25 rfl ⟨rfl, rfl⟩
set_option maxRecDepth 100000 in
set_option maxHeartbeats 4000000 in
theorem s_Mo_canBeRight_L93 {D : Nat} (hD : 3 ≤ D) (N : Nat) {rc_X12_canBeRight : Int32 → Int32 → Int32 → MM → Option (Int32 × MM)} (hrc_X12_canBeRight : ∀ (x1 : Int32) (x2 : Int32) (x3 : Int32) (μ : MM) (r : Int32) (μr : MM), rc_X12_canBeRight x1 x2 x3 μ = some (r, μr) → Cl (D - 1) mX12_canBeRight [av_r 355, av_i x1, av_i x2, av_i x3] μ (po_i r μr)) {r : Int32} {μr : MM} : ∀ (n : Nat) (x1 : Int32) (x2 : Int32) (x3 : Int32) (x4 : Int32) (μ : MM), f_Mo_canBeRight_L93 N rc_X12_canBeRight n x1 x2 x3 x4 μ = some (r, μr) → Sm D mX12_canBeRight 93 [some (av_r 355), some (av_i x1), some (av_i x2), some (av_i x3), some (av_i x4)] [] μ (po_i r μr) := by
  obtain ⟨d, rfl⟩ : ∃ d, D = d + 1 := ⟨D - 1, by omega⟩
  intro n
  induction n with
  | zero => intro x1 x2 x3 x4 μ h; cases (show none = some (r, μr) from h)
  | succ n ih =>
    intro x1 x2 x3 x4 μ h
    rw [f_Mo_canBeRight_L93] at h
    refine sm_iload dX12_canBeRight_93 rfl ?_
    refine sm_aload_n dX12_canBeRight_95 rfl rfl ?_
    refine sm_getI dX12_canBeRight_96 fg_RX12_294 k_355 ?_
    refine sm_icmp_ge (tgt := 150) dX12_canBeRight_99 (by decide) (fun g5 => ?_) (fun g5 => ?_)
    · replace h := it_t g5 h
      refine sm_iconst dX12_canBeRight_150 ic_0 ?_
      cases h
      exact sm_ret_z (st := []) dX12_canBeRight_151 rfl rfl ⟨rfl, rfl⟩
    · replace h := it_f g5 h
      refine sm_iload_n dX12_canBeRight_102 rfl rfl ?_
      refine sm_iload dX12_canBeRight_103 rfl ?_
      obtain ⟨t105, μ3z, g6, h⟩ := ob_some h
      refine sm_callS dX12_canBeRight_105 cs_X12_has ml_RX12_224 (as := [av_i x3, av_i x4]) rfl (Nat.le_of_ble_eq_true rfl) rfl (s_Mo_has (D := d) (by omega) N g6) (fun r9 μ9 hp => ?_)
      rw [hp.1, hp.2]
      clear hp r9 μ9
      refine sm_if_eq (tgt := 114) dX12_canBeRight_108 (by decide) (fun g7 => ?_) (fun g7 => ?_)
      · replace h := it_t g7 h
        refine sm_aload_n dX12_canBeRight_114 rfl rfl ?_
        refine sm_getR dX12_canBeRight_115 fg_RX12_64 k_355 (rf_12_33 k_355) ?_
        refine sm_bipush dX12_canBeRight_118 bp_20 ?_
        refine sm_iload_n dX12_canBeRight_120 rfl rfl ?_
        refine sm_imul dX12_canBeRight_121 ?_
        refine sm_iload dX12_canBeRight_122 rfl ?_
        obtain ⟨g8, h⟩ := gd_some h
        refine sm_iast (j := (Int32.toNatClampNeg (20 * x2))) dX12_canBeRight_124 k_369 (in_sz n_369 g8) rfl ?_
        replace h := wr_some h
        refine sm_aload_n dX12_canBeRight_125 rfl rfl ?_
        refine sm_iload_n dX12_canBeRight_126 rfl rfl ?_
        refine sm_iload_n dX12_canBeRight_127 rfl rfl ?_
        refine sm_iconst dX12_canBeRight_128 ic_1 ?_
        refine sm_iadd dX12_canBeRight_129 ?_
        refine sm_iload_n dX12_canBeRight_130 rfl rfl ?_
        refine sm_iconst dX12_canBeRight_131 ic_1 ?_
        refine sm_iload dX12_canBeRight_132 rfl ?_
        refine sm_ishl dX12_canBeRight_134 ?_
        refine sm_ior dX12_canBeRight_135 ?_
        obtain ⟨t136, μ5z, g9, h⟩ := ob_some h
        refine sm_callV dX12_canBeRight_136 cv_X12_canBeRight ml_RX12_418 k_355 rfl rfl (by decide) (as := [av_i x1, av_i (x2 + 1), av_i (x3 ||| ((1 : Int32) <<< (x4 &&& 31)))]) rfl (Nat.le_of_ble_eq_true rfl) rfl (hrc_X12_canBeRight _ _ _ _ _ _ g9) (fun r9 μ9 hp => ?_)
        rw [hp.1, hp.2]
        clear hp r9 μ9
        refine sm_if_eq (tgt := 144) dX12_canBeRight_139 (by decide) (fun g10 => ?_) (fun g10 => ?_)
        · replace h := it_t g10 h
          refine sm_iinc dX12_canBeRight_144 rfl (congrArg (HAdd.hAdd x4) ic_1) (Nat.le_of_ble_eq_true rfl) (pv_i rfl) ?_
          refine sm_goto (tgt := 93) dX12_canBeRight_147 (by decide) ?_
          exact Sm_weak (le_s rfl (le_s rfl (le_s rfl (le_s rfl (le_s rfl le_0))))) (ih x1 x2 x3 (x4 + 1) μ5z h)
        · replace h := it_f g10 h
          refine sm_iconst dX12_canBeRight_142 ic_1 ?_
          cases h
          exact sm_ret_z (st := []) dX12_canBeRight_143 rfl rfl ⟨rfl, rfl⟩
      · replace h := it_f g7 h
        refine sm_goto (tgt := 144) dX12_canBeRight_111 (by decide) ?_
        refine sm_iinc dX12_canBeRight_144 rfl (congrArg (HAdd.hAdd x4) ic_1) (Nat.le_of_ble_eq_true rfl) (pv_i rfl) ?_
        refine sm_goto (tgt := 93) dX12_canBeRight_147 (by decide) ?_
        exact Sm_weak (le_s rfl (le_s rfl (le_s rfl (le_s rfl (le_s rfl le_0))))) (ih x1 x2 x3 (x4 + 1) μ3z h)
set_option maxRecDepth 100000 in
set_option maxHeartbeats 4000000 in
theorem s_Mo_canBeRight_L11 {D : Nat} (hD : 3 ≤ D) (N : Nat) {rc_X12_canBeRight : Int32 → Int32 → Int32 → MM → Option (Int32 × MM)} (hrc_X12_canBeRight : ∀ (x1 : Int32) (x2 : Int32) (x3 : Int32) (μ : MM) (r : Int32) (μr : MM), rc_X12_canBeRight x1 x2 x3 μ = some (r, μr) → Cl (D - 1) mX12_canBeRight [av_r 355, av_i x1, av_i x2, av_i x3] μ (po_i r μr)) {r : Int32} {μr : MM} : ∀ (n : Nat) (x1 : Int32) (x4 : Int32) (μ : MM), f_Mo_canBeRight_L11 N rc_X12_canBeRight n x1 x4 μ = some (r, μr) → Sm D mX12_canBeRight 11 [some (av_r 355), some (av_i x1), none, none, some (av_i x4)] [] μ (po_i r μr) := by
  obtain ⟨d, rfl⟩ : ∃ d, D = d + 1 := ⟨D - 1, by omega⟩
  intro n
  induction n with
  | zero => intro x1 x4 μ h; cases (show none = some (r, μr) from h)
  | succ n ih =>
    intro x1 x4 μ h
    rw [f_Mo_canBeRight_L11] at h
    refine sm_iload dX12_canBeRight_11 rfl ?_
    refine sm_aload_n dX12_canBeRight_13 rfl rfl ?_
    refine sm_getI dX12_canBeRight_14 fg_RX12_297 k_355 ?_
    refine sm_icmp_ge (tgt := 60) dX12_canBeRight_17 (by decide) (fun g13 => ?_) (fun g13 => ?_)
    · replace h := it_t g13 h
      refine sm_iconst dX12_canBeRight_60 ic_1 ?_
      cases h
      exact sm_ret_z (st := []) dX12_canBeRight_61 rfl rfl ⟨rfl, rfl⟩
    · replace h := it_f g13 h
      refine sm_iload_n dX12_canBeRight_20 rfl rfl ?_
      refine sm_iload dX12_canBeRight_21 rfl ?_
      obtain ⟨t23, μ7z, g14, h⟩ := ob_some h
      refine sm_callS dX12_canBeRight_23 cs_X12_has ml_RX12_224 (as := [av_i x1, av_i x4]) rfl (Nat.le_of_ble_eq_true rfl) rfl (s_Mo_has (D := d) (by omega) N g14) (fun r9 μ9 hp => ?_)
      rw [hp.1, hp.2]
      clear hp r9 μ9
      refine sm_if_eq (tgt := 54) dX12_canBeRight_26 (by decide) (fun g15 => ?_) (fun g15 => ?_)
      · replace h := it_t g15 h
        refine sm_iinc dX12_canBeRight_54 rfl (congrArg (HAdd.hAdd x4) ic_1) (Nat.le_of_ble_eq_true rfl) (pv_n rfl) ?_
        refine sm_goto (tgt := 11) dX12_canBeRight_57 (by decide) ?_
        exact Sm_weak (le_s rfl (le_s rfl (le_n (le_n (le_s rfl le_0))))) (ih x1 (x4 + 1) μ7z h)
      · replace h := it_f g15 h
        refine sm_aload_n dX12_canBeRight_29 rfl rfl ?_
        refine sm_aload_n dX12_canBeRight_30 rfl rfl ?_
        refine sm_getR dX12_canBeRight_31 fg_RX12_64 k_355 (rf_12_33 k_355) ?_
        refine sm_iload dX12_canBeRight_34 rfl ?_
        refine sm_aload_n dX12_canBeRight_36 rfl rfl ?_
        refine sm_getR dX12_canBeRight_37 fg_RX12_64 k_355 (rf_12_33 k_355) ?_
        refine sm_bipush dX12_canBeRight_40 bp_20 ?_
        refine sm_iload dX12_canBeRight_42 rfl ?_
        refine sm_imul dX12_canBeRight_44 ?_
        obtain ⟨g16, h⟩ := gd_some h
        refine sm_iald (j := (Int32.toNatClampNeg (20 * x4))) dX12_canBeRight_45 k_369 (in_sz n_369 g16) rfl ?_
        obtain ⟨t46, μ8z, g17, h⟩ := ob_some h
        refine sm_callV dX12_canBeRight_46 cv_X12_fitsIn ml_RX12_334 k_355 rfl rfl (by decide) (as := [av_r 369, av_i x4, av_i (μ7z.1 369 (Int32.toNatClampNeg (20 * x4)))]) rfl (Nat.le_of_ble_eq_true rfl) rfl (s_Mo_fitsIn (D := d) (by omega) N k_369 g17) (fun r9 μ9 hp => ?_)
        rw [hp.1, hp.2]
        clear hp r9 μ9
        refine sm_if_ne (tgt := 54) dX12_canBeRight_49 (by decide) (fun g18 => ?_) (fun g18 => ?_)
        · replace h := it_f g18 h
          refine sm_iinc dX12_canBeRight_54 rfl (congrArg (HAdd.hAdd x4) ic_1) (Nat.le_of_ble_eq_true rfl) (pv_n rfl) ?_
          refine sm_goto (tgt := 11) dX12_canBeRight_57 (by decide) ?_
          exact Sm_weak (le_s rfl (le_s rfl (le_n (le_n (le_s rfl le_0))))) (ih x1 (x4 + 1) μ8z h)
        · replace h := it_t g18 h
          refine sm_iconst dX12_canBeRight_52 ic_0 ?_
          cases h
          exact sm_ret_z (st := []) dX12_canBeRight_53 rfl rfl ⟨rfl, rfl⟩
set_option maxRecDepth 100000 in
set_option maxHeartbeats 4000000 in
theorem s_Mo_canBeRight_body {D : Nat} (hD : 3 ≤ D) (N : Nat) {rc_X12_canBeRight : Int32 → Int32 → Int32 → MM → Option (Int32 × MM)} (hrc_X12_canBeRight : ∀ (x1 : Int32) (x2 : Int32) (x3 : Int32) (μ : MM) (r : Int32) (μr : MM), rc_X12_canBeRight x1 x2 x3 μ = some (r, μr) → Cl (D - 1) mX12_canBeRight [av_r 355, av_i x1, av_i x2, av_i x3] μ (po_i r μr)) {x1 : Int32} {x2 : Int32} {x3 : Int32} {μ : MM} {r : Int32} {μr : MM} (h : f_Mo_canBeRight_body N rc_X12_canBeRight x1 x2 x3 μ = some (r, μr)) : Cl D mX12_canBeRight [av_r 355, av_i x1, av_i x2, av_i x3] μ (po_i r μr) := by
  obtain ⟨d, rfl⟩ : ∃ d, D = d + 1 := ⟨D - 1, by omega⟩
  refine Cl_of pn_X12 (Nat.le_of_ble_eq_true rfl) ?_
  show Sm (d + 1) mX12_canBeRight 0 [some (av_r 355), some (av_i x1), some (av_i x2), some (av_i x3), none] [] μ (po_i r μr)
  unfold f_Mo_canBeRight_body at h
  refine sm_iload_n dX12_canBeRight_0 rfl rfl ?_
  refine sm_aload_n dX12_canBeRight_1 rfl rfl ?_
  refine sm_getI dX12_canBeRight_2 fg_RX12_297 k_355 ?_
  refine sm_icmp_ne (tgt := 62) dX12_canBeRight_5 (by decide) (fun g1 => ?_) (fun g1 => ?_)
  · replace h := it_f g1 h
    refine sm_aload_n dX12_canBeRight_62 rfl rfl ?_
    refine sm_getR dX12_canBeRight_63 fg_RX12_64 k_355 (rf_12_33 k_355) ?_
    refine sm_bipush dX12_canBeRight_66 bp_20 ?_
    refine sm_iload_n dX12_canBeRight_68 rfl rfl ?_
    refine sm_imul dX12_canBeRight_69 ?_
    refine sm_iconst dX12_canBeRight_70 ic_m1 ?_
    obtain ⟨g2, h⟩ := gd_some h
    refine sm_iast (j := (Int32.toNatClampNeg (20 * x2))) dX12_canBeRight_71 k_369 (in_sz n_369 g2) rfl ?_
    replace h := wr_some h
    refine sm_iload_n dX12_canBeRight_72 rfl rfl ?_
    refine sm_iload_n dX12_canBeRight_73 rfl rfl ?_
    obtain ⟨t74, μ2z, g3, h⟩ := ob_some h
    refine sm_callS dX12_canBeRight_74 cs_X12_has ml_RX12_224 (as := [av_i x1, av_i x2]) rfl (Nat.le_of_ble_eq_true rfl) rfl (s_Mo_has (D := d) (by omega) N g3) (fun r9 μ9 hp => ?_)
    rw [hp.1, hp.2]
    clear hp r9 μ9
    refine sm_if_ne (tgt := 90) dX12_canBeRight_77 (by decide) (fun g4 => ?_) (fun g4 => ?_)
    · replace h := it_f g4 h
      refine sm_iconst dX12_canBeRight_90 ic_0 ?_
      refine sm_istore dX12_canBeRight_91 (Nat.le_of_ble_eq_true rfl) (pv_i rfl) ?_
      exact Sm_weak (le_s rfl (le_s rfl (le_s rfl (le_s rfl (le_s rfl le_0))))) (s_Mo_canBeRight_L93 hD N hrc_X12_canBeRight N x1 x2 x3 0 μ2z h)
    · replace h := it_t g4 h
      refine sm_aload_n dX12_canBeRight_80 rfl rfl ?_
      refine sm_iload_n dX12_canBeRight_81 rfl rfl ?_
      refine sm_iload_n dX12_canBeRight_82 rfl rfl ?_
      refine sm_iconst dX12_canBeRight_83 ic_1 ?_
      refine sm_iadd dX12_canBeRight_84 ?_
      refine sm_iload_n dX12_canBeRight_85 rfl rfl ?_
      obtain ⟨t86, μ6z, g11, h⟩ := ob_some h
      refine sm_callV dX12_canBeRight_86 cv_X12_canBeRight ml_RX12_418 k_355 rfl rfl (by decide) (as := [av_i x1, av_i (x2 + 1), av_i x3]) rfl (Nat.le_of_ble_eq_true rfl) rfl (hrc_X12_canBeRight _ _ _ _ _ _ g11) (fun r9 μ9 hp => ?_)
      rw [hp.1, hp.2]
      clear hp r9 μ9
      obtain ⟨g12, h⟩ := gd_some h
      cases h
      exact sm_ret_z (st := []) dX12_canBeRight_89 rfl (zb_nar g12) ⟨rfl, rfl⟩
  · replace h := it_t g1 h
    refine sm_iconst dX12_canBeRight_8 ic_0 ?_
    refine sm_istore dX12_canBeRight_9 (Nat.le_of_ble_eq_true rfl) (pv_i rfl) ?_
    exact Sm_weak (le_s rfl (le_s rfl (le_n (le_n (le_s rfl le_0))))) (s_Mo_canBeRight_L11 hD N hrc_X12_canBeRight N x1 0 μ h)
set_option maxRecDepth 100000 in
set_option maxHeartbeats 4000000 in
theorem s_Mo_canBeRight_t (N : Nat) : ∀ (t : Nat) {D : Nat} (hD : 3 + t ≤ D) (x1 : Int32) (x2 : Int32) (x3 : Int32) (μ : MM) (r : Int32) (μr : MM) (h : f_Mo_canBeRight_t N t x1 x2 x3 μ = some (r, μr)), Cl D mX12_canBeRight [av_r 355, av_i x1, av_i x2, av_i x3] μ (po_i r μr) := by
  intro t
  induction t with
  | zero => intro D hD x1 x2 x3 μ r μr h; cases (show none = some (r, μr) from h)
  | succ t ih =>
    intro D hD x1 x2 x3 μ r μr h
    exact s_Mo_canBeRight_body (by omega) N (fun x1 x2 x3 μ r μr hh => ih (by omega) x1 x2 x3 μ r μr hh) h
set_option maxRecDepth 100000 in
set_option maxHeartbeats 4000000 in
theorem s_Mo_canBeRight {D : Nat} (hD : 15 ≤ D) (N : Nat) {x1 : Int32} {x2 : Int32} {x3 : Int32} {μ : MM} {r : Int32} {μr : MM} (h : f_Mo_canBeRight N x1 x2 x3 μ = some (r, μr)) : Cl D mX12_canBeRight [av_r 355, av_i x1, av_i x2, av_i x3] μ (po_i r μr) := s_Mo_canBeRight_t N 12 (by omega) _ _ _ μ _ _ h
set_option maxRecDepth 100000 in
set_option maxHeartbeats 4000000 in
theorem s_Mo_clash_B55 {D : Nat} (hD : 16 ≤ D) (N : Nat) {r : Int32} {μr : MM} {k29 : Int32 → Int32 → MM → Option (Int32 × MM)} (hk29 : ∀ (x1 : Int32) (x2 : Int32) (μ : MM), k29 x1 x2 μ = some (r, μr) → Sm D mX12_clash 29 [some (av_r 355), some (av_i x1), some (av_i x2)] [] μ (po_i r μr)) (x1 : Int32) (x2 : Int32) (μ : MM) (h : f_Mo_clash_B55 N k29 x1 x2 μ = some (r, μr)) : Sm D mX12_clash 55 [some (av_r 355), some (av_i x1), some (av_i x2)] [] μ (po_i r μr) := by
  obtain ⟨d, rfl⟩ : ∃ d, D = d + 1 := ⟨D - 1, by omega⟩
  unfold f_Mo_clash_B55 at h
  refine sm_aload_n dX12_clash_55 rfl rfl ?_
  refine sm_iload_n dX12_clash_56 rfl rfl ?_
  refine sm_iconst dX12_clash_57 ic_0 ?_
  refine sm_iconst dX12_clash_58 ic_0 ?_
  obtain ⟨t59, μ3z, g5, h⟩ := ob_some h
  refine sm_callV dX12_clash_59 cv_X12_canBeRight ml_RX12_418 k_355 rfl rfl (by decide) (as := [av_i x2, av_i 0, av_i 0]) rfl (Nat.le_of_ble_eq_true rfl) rfl (s_Mo_canBeRight (D := d) (by omega) N g5) (fun r9 μ9 hp => ?_)
  rw [hp.1, hp.2]
  clear hp r9 μ9
  have hj62 : ∀ (v62_0 : Int32), v62_0 = (if t59 = 0 then x2 else x1) → Sm (d + 1) mX12_clash 67 [some (av_r 355), some (av_i v62_0), some (av_i x2)] [] μ3z (po_i r μr) := by
    intro v62_0 ev62_0
    subst ev62_0
    refine sm_iinc dX12_clash_67 rfl (congrArg (HAdd.hAdd x2) ic_1) (Nat.le_of_ble_eq_true rfl) (pv_i rfl) ?_
    refine sm_goto (tgt := 29) dX12_clash_70 (by decide) ?_
    exact Sm_weak (le_s rfl (le_s rfl (le_s rfl le_0))) (hk29 (if t59 = 0 then x2 else x1) (x2 + 1) μ3z h)
  refine sm_if_ne (tgt := 67) dX12_clash_62 (by decide) (fun c62_0 => ?_) (fun c62_0 => ?_)
  · exact Sm_weak (le_s rfl (le_s rfl (le_s rfl le_0))) (hj62 _ (if_neg c62_0).symm)
  · refine sm_iload_n dX12_clash_65 rfl rfl ?_
    refine sm_istore_n dX12_clash_66 rfl (Nat.le_of_ble_eq_true rfl) (pv_r rfl) ?_
    exact Sm_weak (le_s rfl (le_s rfl (le_s rfl le_0))) (hj62 _ (if_pos c62_0).symm)
set_option maxRecDepth 100000 in
set_option maxHeartbeats 4000000 in
theorem s_Mo_clash_L29 {D : Nat} (hD : 16 ≤ D) (N : Nat) {r : Int32} {μr : MM} : ∀ (n : Nat) (x1 : Int32) (x2 : Int32) (μ : MM), f_Mo_clash_L29 N n x1 x2 μ = some (r, μr) → Sm D mX12_clash 29 [some (av_r 355), some (av_i x1), some (av_i x2)] [] μ (po_i r μr) := by
  obtain ⟨d, rfl⟩ : ∃ d, D = d + 1 := ⟨D - 1, by omega⟩
  intro n
  induction n with
  | zero => intro x1 x2 μ h; cases (show none = some (r, μr) from h)
  | succ n ih =>
    intro x1 x2 μ h
    rw [f_Mo_clash_L29] at h
    refine sm_iload_n dX12_clash_29 rfl rfl ?_
    refine sm_iconst dX12_clash_30 ic_1 ?_
    refine sm_aload_n dX12_clash_31 rfl rfl ?_
    refine sm_getI dX12_clash_32 fg_RX12_297 k_355 ?_
    refine sm_ishl dX12_clash_35 ?_
    refine sm_icmp_ge (tgt := 73) dX12_clash_36 (by decide) (fun g3 => ?_) (fun g3 => ?_)
    · replace h := it_t g3 h
      refine sm_iload_n dX12_clash_73 rfl rfl ?_
      cases h
      exact sm_ret_i (st := []) dX12_clash_74 rfl ⟨rfl, rfl⟩
    · replace h := it_f g3 h
      refine sm_iload_n dX12_clash_39 rfl rfl ?_
      refine sm_iconst dX12_clash_40 ic_m1 ?_
      refine sm_icmp_eq (tgt := 55) dX12_clash_41 (by decide) (fun g4 => ?_) (fun g4 => ?_)
      · replace h := it_t g4 h
        exact Sm_weak (le_s rfl (le_s rfl (le_s rfl le_0))) (s_Mo_clash_B55 hD N ih x1 x2 μ h)
      · replace h := it_f g4 h
        refine sm_iload_n dX12_clash_44 rfl rfl ?_
        obtain ⟨t45, μ4z, g6, h⟩ := ob_some h
        refine sm_callS dX12_clash_45 cs_J6_bitCount_0f7a4 ml_RX12_422 (as := [av_i x2]) rfl (Nat.le_of_ble_eq_true rfl) rfl (s_In_bitCount_0f7a4 (D := d) (by omega) N g6) (fun r9 μ9 hp => ?_)
        rw [hp.1, hp.2]
        clear hp r9 μ9
        refine sm_iload_n dX12_clash_48 rfl rfl ?_
        obtain ⟨t49, μ5z, g7, h⟩ := ob_some h
        refine sm_callS dX12_clash_49 cs_J6_bitCount_0f7a4 ml_RX12_422 (as := [av_i x1]) rfl (Nat.le_of_ble_eq_true rfl) rfl (s_In_bitCount_0f7a4 (D := d) (by omega) N g7) (fun r9 μ9 hp => ?_)
        rw [hp.1, hp.2]
        clear hp r9 μ9
        refine sm_icmp_ge (tgt := 67) dX12_clash_52 (by decide) (fun g8 => ?_) (fun g8 => ?_)
        · replace h := it_t g8 h
          refine sm_iinc dX12_clash_67 rfl (congrArg (HAdd.hAdd x2) ic_1) (Nat.le_of_ble_eq_true rfl) (pv_i rfl) ?_
          refine sm_goto (tgt := 29) dX12_clash_70 (by decide) ?_
          exact Sm_weak (le_s rfl (le_s rfl (le_s rfl le_0))) (ih x1 (x2 + 1) μ5z h)
        · replace h := it_f g8 h
          exact Sm_weak (le_s rfl (le_s rfl (le_s rfl le_0))) (s_Mo_clash_B55 hD N ih x1 x2 μ5z h)
set_option maxRecDepth 100000 in
set_option maxHeartbeats 4000000 in
theorem s_Mo_clash {D : Nat} (hD : 16 ≤ D) (N : Nat) {μ : MM} {r : Int32} {μr : MM} (h : f_Mo_clash N μ = some (r, μr)) : Cl D mX12_clash [av_r 355] μ (po_i r μr) := by
  obtain ⟨d, rfl⟩ : ∃ d, D = d + 1 := ⟨D - 1, by omega⟩
  refine Cl_of pn_X12 (Nat.le_of_ble_eq_true rfl) ?_
  show Sm (d + 1) mX12_clash 0 [some (av_r 355), none, none] [] μ (po_i r μr)
  unfold f_Mo_clash at h
  refine sm_aload_n dX12_clash_0 rfl rfl ?_
  refine sm_iconst dX12_clash_1 ic_0 ?_
  refine sm_putI dX12_clash_2 fp_RX12_91 k_355 ?_
  replace h := wr_some h
  refine sm_aload_n dX12_clash_5 rfl rfl ?_
  refine sm_getI dX12_clash_6 fg_RX12_297 k_355 ?_
  refine sm_if_ne (tgt := 14) dX12_clash_9 (by decide) (fun g1 => ?_) (fun g1 => ?_)
  · replace h := it_f g1 h
    refine sm_aload_n dX12_clash_14 rfl rfl ?_
    refine sm_getR dX12_clash_15 fg_RX12_61 k_355 (rf_12_32 k_355) ?_
    refine sm_aload_n dX12_clash_18 rfl rfl ?_
    refine sm_getR dX12_clash_19 fg_RX12_64 k_355 (rf_12_33 k_355) ?_
    obtain ⟨μ2z, g2, h⟩ := obv_some h
    refine sm_callS dX12_clash_22 cs_X12_copies ml_RX12_413 (as := [av_r 368, av_r 369]) rfl (Nat.le_of_ble_eq_true rfl) rfl (s_Mo_copies (D := d) (by omega) N k_368 k_369 g2) (fun r9 μ9 hp => ?_)
    rw [hp.1, hp.2]
    clear hp r9 μ9
    refine sm_iconst dX12_clash_25 ic_m1 ?_
    refine sm_istore_n dX12_clash_26 rfl (Nat.le_of_ble_eq_true rfl) (pv_r rfl) ?_
    refine sm_iconst dX12_clash_27 ic_1 ?_
    refine sm_istore_n dX12_clash_28 rfl (Nat.le_of_ble_eq_true rfl) (pv_i rfl) ?_
    exact Sm_weak (le_s rfl (le_s rfl (le_s rfl le_0))) (s_Mo_clash_L29 hD N N (-1) 1 μ2z h)
  · replace h := it_t g1 h
    refine sm_iconst dX12_clash_12 ic_m1 ?_
    cases h
    exact sm_ret_i (st := []) dX12_clash_13 rfl ⟨rfl, rfl⟩
set_option maxRecDepth 100000 in
set_option maxHeartbeats 4000000 in
theorem s_Mo_blank_L28 {D : Nat} (hD : 92 ≤ D) (N : Nat) {r : Int32} {μr : MM} : ∀ (n : Nat) (x1 : Int32) (x2 : Int32) (μ : MM), f_Mo_blank_L28 N n x1 x2 μ = some (r, μr) → Sm D mX12_blank 28 [some (av_r 355), some (av_i x1), some (av_i x2), none] [] μ (po_i r μr) := by
  obtain ⟨d, rfl⟩ : ∃ d, D = d + 1 := ⟨D - 1, by omega⟩
  intro n
  induction n with
  | zero => intro x1 x2 μ h; cases (show none = some (r, μr) from h)
  | succ n ih =>
    intro x1 x2 μ h
    rw [f_Mo_blank_L28] at h
    refine sm_iload_n dX12_blank_28 rfl rfl ?_
    refine sm_bipush dX12_blank_29 bp_99 ?_
    refine sm_icmp_gt (tgt := 73) dX12_blank_31 (by decide) (fun g4 => ?_) (fun g4 => ?_)
    · replace h := it_t g4 h
      refine sm_iconst dX12_blank_73 ic_m1 ?_
      cases h
      exact sm_ret_i (st := []) dX12_blank_74 rfl ⟨rfl, rfl⟩
    · replace h := it_f g4 h
      refine sm_aload_n dX12_blank_34 rfl rfl ?_
      refine sm_getR dX12_blank_35 fg_RX12_64 k_355 (rf_12_33 k_355) ?_
      refine sm_iload_n dX12_blank_38 rfl rfl ?_
      obtain ⟨t39, μ4z, g5, h⟩ := ob_some h
      refine sm_callS dX12_blank_39 cs_X12_leftOf ml_RX12_375 (as := [av_r 369, av_i x1]) rfl (Nat.le_of_ble_eq_true rfl) rfl (s_Mo_leftOf (D := d) (by omega) N k_369 g5) (fun r9 μ9 hp => ?_)
      rw [hp.1, hp.2]
      clear hp r9 μ9
      refine sm_if_ne (tgt := 47) dX12_blank_42 (by decide) (fun g6 => ?_) (fun g6 => ?_)
      · replace h := it_f g6 h
        refine sm_aload_n dX12_blank_47 rfl rfl ?_
        refine sm_aload_n dX12_blank_48 rfl rfl ?_
        refine sm_getR dX12_blank_49 fg_RX12_64 k_355 (rf_12_33 k_355) ?_
        obtain ⟨t52, μ5z, g7, h⟩ := ob_some h
        refine sm_callV dX12_blank_52 cv_X12_fades ml_RX12_348 k_355 rfl rfl (by decide) (as := [av_r 369]) rfl (Nat.le_of_ble_eq_true rfl) rfl (s_Mo_fades (D := d) (by omega) N k_369 g7) (fun r9 μ9 hp => ?_)
        rw [hp.1, hp.2]
        clear hp r9 μ9
        refine sm_istore_n dX12_blank_55 rfl (Nat.le_of_ble_eq_true rfl) (pv_i rfl) ?_
        refine sm_aload_n dX12_blank_56 rfl rfl ?_
        refine sm_getR dX12_blank_57 fg_RX12_64 k_355 (rf_12_33 k_355) ?_
        refine sm_bipush dX12_blank_60 bp_122 ?_
        refine sm_dup2 dX12_blank_62 rfl rfl ?_
        refine sm_iald (j := 122) dX12_blank_63 k_369 (in_sz n_369 (by decide)) (by decide) ?_
        refine sm_iconst dX12_blank_64 ic_1 ?_
        refine sm_iadd dX12_blank_65 ?_
        refine sm_iast (j := 122) dX12_blank_66 k_369 (in_sz n_369 (by decide)) (by decide) ?_
        replace h := wr_some h
        refine sm_iinc dX12_blank_67 rfl (congrArg (HAdd.hAdd x2) ic_1) (Nat.le_of_ble_eq_true rfl) (pv_i rfl) ?_
        refine sm_goto (tgt := 28) dX12_blank_70 (by decide) ?_
        exact Sm_weak (le_s rfl (le_s rfl (le_s rfl (le_n le_0)))) (ih x1 (x2 + 1) (mm_I μ5z 369 122 ((μ5z.1 369 122) + 1)) h)
      · replace h := it_t g6 h
        refine sm_iload_n dX12_blank_45 rfl rfl ?_
        cases h
        exact sm_ret_i (st := []) dX12_blank_46 rfl ⟨rfl, rfl⟩
set_option maxRecDepth 100000 in
set_option maxHeartbeats 4000000 in
theorem s_Mo_blank {D : Nat} (hD : 92 ≤ D) (N : Nat) {x1 : Int32} {μ : MM} {r : Int32} {μr : MM} (h : f_Mo_blank N x1 μ = some (r, μr)) : Cl D mX12_blank [av_r 355, av_i x1] μ (po_i r μr) := by
  obtain ⟨d, rfl⟩ : ∃ d, D = d + 1 := ⟨D - 1, by omega⟩
  refine Cl_of pn_X12 (Nat.le_of_ble_eq_true rfl) ?_
  show Sm (d + 1) mX12_blank 0 [some (av_r 355), some (av_i x1), none, none] [] μ (po_i r μr)
  unfold f_Mo_blank at h
  refine sm_aload_n dX12_blank_0 rfl rfl ?_
  refine sm_iconst dX12_blank_1 ic_0 ?_
  refine sm_putI dX12_blank_2 fp_RX12_91 k_355 ?_
  replace h := wr_some h
  refine sm_aload_n dX12_blank_5 rfl rfl ?_
  refine sm_iload_n dX12_blank_6 rfl rfl ?_
  obtain ⟨t7, μ2z, g1, h⟩ := ob_some h
  refine sm_callV dX12_blank_7 cv_X12_isCard ml_RX12_362 k_355 rfl rfl (by decide) (as := [av_i x1]) rfl (Nat.le_of_ble_eq_true rfl) rfl (s_Mo_isCard (D := d) (by omega) N g1) (fun r9 μ9 hp => ?_)
  rw [hp.1, hp.2]
  clear hp r9 μ9
  refine sm_if_ne (tgt := 15) dX12_blank_10 (by decide) (fun g2 => ?_) (fun g2 => ?_)
  · replace h := it_f g2 h
    refine sm_aload_n dX12_blank_15 rfl rfl ?_
    refine sm_getR dX12_blank_16 fg_RX12_61 k_355 (rf_12_32 k_355) ?_
    refine sm_aload_n dX12_blank_19 rfl rfl ?_
    refine sm_getR dX12_blank_20 fg_RX12_64 k_355 (rf_12_33 k_355) ?_
    obtain ⟨μ3z, g3, h⟩ := obv_some h
    refine sm_callS dX12_blank_23 cs_X12_copies ml_RX12_413 (as := [av_r 368, av_r 369]) rfl (Nat.le_of_ble_eq_true rfl) rfl (s_Mo_copies (D := d) (by omega) N k_368 k_369 g3) (fun r9 μ9 hp => ?_)
    rw [hp.1, hp.2]
    clear hp r9 μ9
    refine sm_iconst dX12_blank_26 ic_0 ?_
    refine sm_istore_n dX12_blank_27 rfl (Nat.le_of_ble_eq_true rfl) (pv_i rfl) ?_
    exact Sm_weak (le_s rfl (le_s rfl (le_s rfl (le_n le_0)))) (s_Mo_blank_L28 hD N N x1 0 μ3z h)
  · replace h := it_t g2 h
    refine sm_iconst dX12_blank_13 ic_m1 ?_
    cases h
    exact sm_ret_i (st := []) dX12_blank_14 rfl ⟨rfl, rfl⟩
set_option maxRecDepth 100000 in
set_option maxHeartbeats 4000000 in
theorem s_Mo_stood {D : Nat} (hD : 1 ≤ D) (N : Nat) {x1 : Int32} {x2 : Int32} {x3 : Int32} {μ : MM} {r : Int32} {μr : MM} (h : f_Mo_stood N x1 x2 x3 μ = some (r, μr)) : Cl D mX12_stood [av_r 355, av_i x1, av_i x2, av_i x3] μ (po_i r μr) := by
  obtain ⟨d, rfl⟩ : ∃ d, D = d + 1 := ⟨D - 1, by omega⟩
  refine Cl_of pn_X12 (Nat.le_of_ble_eq_true rfl) ?_
  show Sm (d + 1) mX12_stood 0 [some (av_r 355), some (av_i x1), some (av_i x2), some (av_i x3)] [] μ (po_i r μr)
  unfold f_Mo_stood at h
  refine sm_aload_n dX12_stood_0 rfl rfl ?_
  refine sm_iconst dX12_stood_1 ic_0 ?_
  refine sm_putI dX12_stood_2 fp_RX12_91 k_355 ?_
  replace h := wr_some h
  refine sm_aload_n dX12_stood_5 rfl rfl ?_
  refine sm_iload_n dX12_stood_6 rfl rfl ?_
  obtain ⟨t7, μ2z, g1, h⟩ := ob_some h
  refine sm_callV dX12_stood_7 cv_X12_isThing ml_RX12_359 k_355 rfl rfl (by decide) (as := [av_i x1]) rfl (Nat.le_of_ble_eq_true rfl) rfl (s_Mo_isThing (D := d) (by omega) N g1) (fun r9 μ9 hp => ?_)
  rw [hp.1, hp.2]
  clear hp r9 μ9
  refine sm_if_eq (tgt := 30) dX12_stood_10 (by decide) (fun g2 => ?_) (fun g2 => ?_)
  · replace h := it_t g2 h
    refine sm_iconst dX12_stood_30 ic_m1 ?_
    cases h
    exact sm_ret_i (st := []) dX12_stood_31 rfl ⟨rfl, rfl⟩
  · replace h := it_f g2 h
    refine sm_aload_n dX12_stood_13 rfl rfl ?_
    refine sm_iload_n dX12_stood_14 rfl rfl ?_
    obtain ⟨t15, μ3z, g3, h⟩ := ob_some h
    refine sm_callV dX12_stood_15 cv_X12_isCard ml_RX12_362 k_355 rfl rfl (by decide) (as := [av_i x2]) rfl (Nat.le_of_ble_eq_true rfl) rfl (s_Mo_isCard (D := d) (by omega) N g3) (fun r9 μ9 hp => ?_)
    rw [hp.1, hp.2]
    clear hp r9 μ9
    refine sm_if_eq (tgt := 30) dX12_stood_18 (by decide) (fun g4 => ?_) (fun g4 => ?_)
    · replace h := it_t g4 h
      refine sm_iconst dX12_stood_30 ic_m1 ?_
      cases h
      exact sm_ret_i (st := []) dX12_stood_31 rfl ⟨rfl, rfl⟩
    · replace h := it_f g4 h
      refine sm_aload_n dX12_stood_21 rfl rfl ?_
      refine sm_getI dX12_stood_22 fg_RX12_304 k_355 ?_
      refine sm_bipush dX12_stood_25 bp_10 ?_
      refine sm_icmp_ne (tgt := 32) dX12_stood_27 (by decide) (fun g5 => ?_) (fun g5 => ?_)
      · replace h := it_f g5 h
        refine sm_aload_n dX12_stood_32 rfl rfl ?_
        refine sm_getR dX12_stood_33 fg_RX12_74 k_355 (rf_12_42 k_355) ?_
        refine sm_aload_n dX12_stood_36 rfl rfl ?_
        refine sm_getI dX12_stood_37 fg_RX12_304 k_355 ?_
        refine sm_iload_n dX12_stood_40 rfl rfl ?_
        obtain ⟨g6, h⟩ := gd_some h
        refine sm_iast (j := (Int32.toNatClampNeg (μ3z.1 355 45))) dX12_stood_41 k_371 (in_sz n_371 g6) rfl ?_
        replace h := wr_some h
        refine sm_aload_n dX12_stood_42 rfl rfl ?_
        refine sm_getR dX12_stood_43 fg_RX12_77 k_355 (rf_12_43 k_355) ?_
        refine sm_aload_n dX12_stood_46 rfl rfl ?_
        refine sm_getI dX12_stood_47 fg_RX12_304 k_355 ?_
        refine sm_iload_n dX12_stood_50 rfl rfl ?_
        obtain ⟨g7, h⟩ := gd_some h
        refine sm_iast (j := (Int32.toNatClampNeg ((mm_I μ3z 371 (Int32.toNatClampNeg (μ3z.1 355 45)) x1).1 355 45))) dX12_stood_51 k_372 (in_sz n_372 g7) rfl ?_
        replace h := wr_some h
        refine sm_aload_n dX12_stood_52 rfl rfl ?_
        refine sm_getR dX12_stood_53 fg_RX12_80 k_355 (rf_12_44 k_355) ?_
        refine sm_aload_n dX12_stood_56 rfl rfl ?_
        refine sm_getI dX12_stood_57 fg_RX12_304 k_355 ?_
        refine sm_iload_n dX12_stood_60 rfl rfl ?_
        obtain ⟨g8, h⟩ := gd_some h
        refine sm_zast (j := (Int32.toNatClampNeg ((mm_I (mm_I μ3z 371 (Int32.toNatClampNeg (μ3z.1 355 45)) x1) 372 (Int32.toNatClampNeg ((mm_I μ3z 371 (Int32.toNatClampNeg (μ3z.1 355 45)) x1).1 355 45)) x2).1 355 45))) dX12_stood_61 k_373 (in_sz n_373 g8) rfl ?_
        replace h := wr_some h
        refine sm_aload_n dX12_stood_62 rfl rfl ?_
        refine sm_dup dX12_stood_63 rfl ?_
        refine sm_getI dX12_stood_64 fg_RX12_304 k_355 ?_
        refine sm_iconst dX12_stood_67 ic_1 ?_
        refine sm_iadd dX12_stood_68 ?_
        refine sm_putI dX12_stood_69 fp_RX12_304 k_355 ?_
        replace h := wr_some h
        refine sm_aload_n dX12_stood_72 rfl rfl ?_
        refine sm_getI dX12_stood_73 fg_RX12_304 k_355 ?_
        cases h
        exact sm_ret_i (st := []) dX12_stood_76 rfl ⟨rfl, rfl⟩
      · replace h := it_t g5 h
        refine sm_iconst dX12_stood_30 ic_m1 ?_
        cases h
        exact sm_ret_i (st := []) dX12_stood_31 rfl ⟨rfl, rfl⟩
set_option maxRecDepth 100000 in
set_option maxHeartbeats 4000000 in
theorem s_Mo_goneOf {D : Nat} (hD : 2 ≤ D) (N : Nat) {x1 : Int32} {μ : MM} {r : Int32} {μr : MM} (h : f_Mo_goneOf N x1 μ = some (r, μr)) : Cl D mX12_goneOf [av_r 355, av_i x1] μ (po_i r μr) := by
  obtain ⟨d, rfl⟩ : ∃ d, D = d + 1 := ⟨D - 1, by omega⟩
  refine Cl_of pn_X12 (Nat.le_of_ble_eq_true rfl) ?_
  show Sm (d + 1) mX12_goneOf 0 [some (av_r 355), some (av_i x1)] [] μ (po_i r μr)
  unfold f_Mo_goneOf at h
  refine sm_aload_n dX12_goneOf_0 rfl rfl ?_
  refine sm_getR dX12_goneOf_1 fg_RX12_61 k_355 (rf_12_32 k_355) ?_
  refine sm_iload_n dX12_goneOf_4 rfl rfl ?_
  obtain ⟨t5, μ1z, g1, h⟩ := ob_some h
  refine sm_callS dX12_goneOf_5 cs_X12_wordsOf ml_RX12_323 (as := [av_r 368, av_i x1]) rfl (Nat.le_of_ble_eq_true rfl) rfl (s_Mo_wordsOf (D := d) (by omega) N k_368 g1) (fun r9 μ9 hp => ?_)
  rw [hp.1, hp.2]
  clear hp r9 μ9
  refine sm_aload_n dX12_goneOf_8 rfl rfl ?_
  refine sm_getR dX12_goneOf_9 fg_RX12_61 k_355 (rf_12_32 k_355) ?_
  refine sm_iload_n dX12_goneOf_12 rfl rfl ?_
  obtain ⟨t13, μ2z, g2, h⟩ := ob_some h
  refine sm_callS dX12_goneOf_13 cs_X12_leftOf ml_RX12_375 (as := [av_r 368, av_i x1]) rfl (Nat.le_of_ble_eq_true rfl) rfl (s_Mo_leftOf (D := d) (by omega) N k_368 g2) (fun r9 μ9 hp => ?_)
  rw [hp.1, hp.2]
  clear hp r9 μ9
  refine sm_isub dX12_goneOf_16 ?_
  cases h
  exact sm_ret_i (st := []) dX12_goneOf_17 rfl ⟨rfl, rfl⟩
set_option maxRecDepth 100000 in
set_option maxHeartbeats 4000000 in
theorem s_Mo_rowsOf {D : Nat} (hD : 0 ≤ D) (N : Nat) {x0 : Int32} {μ : MM} {r : Int32} {μr : MM} (h : f_Mo_rowsOf N x0 μ = some (r, μr)) : Cl D mX12_rowsOf [av_i x0] μ (po_i r μr) := by
  refine Cl_of pn_X12 (Nat.le_of_ble_eq_true rfl) ?_
  show Sm D mX12_rowsOf 0 [some (av_i x0)] [] μ (po_i r μr)
  unfold f_Mo_rowsOf at h
  refine sm_iload_n dX12_rowsOf_0 rfl rfl ?_
  have hj1 : ∀ (v1_0 : Int32), v1_0 = (if x0 = 0 then (1 : Int32) else (if x0 = 1 then (12 : Int32) else (if x0 = 2 then (144 : Int32) else 1728))) → Sm D mX12_rowsOf 32 [none] [av_i v1_0] μ (po_i r μr) := by
    intro v1_0 ev1_0
    subst ev1_0
    cases h
    exact sm_ret_i (st := []) dX12_rowsOf_32 rfl ⟨rfl, rfl⟩
  refine sm_if_ne (tgt := 8) dX12_rowsOf_1 (by decide) (fun c1_0 => ?_) (fun c1_0 => ?_)
  · refine sm_iload_n dX12_rowsOf_8 rfl rfl ?_
    refine sm_iconst dX12_rowsOf_9 ic_1 ?_
    refine sm_icmp_ne (tgt := 18) dX12_rowsOf_10 (by decide) (fun c10_1 => ?_) (fun c10_1 => ?_)
    · refine sm_iload_n dX12_rowsOf_18 rfl rfl ?_
      refine sm_iconst dX12_rowsOf_19 ic_2 ?_
      refine sm_icmp_ne (tgt := 29) dX12_rowsOf_20 (by decide) (fun c20_2 => ?_) (fun c20_2 => ?_)
      · refine sm_sipush dX12_rowsOf_29 sp_1728 ?_
        exact Sm_weak (le_n le_0) (hj1 _ ((if_neg c1_0).trans ((if_neg c10_1).trans (if_neg c20_2))).symm)
      · refine sm_sipush dX12_rowsOf_23 sp_144 ?_
        refine sm_goto (tgt := 32) dX12_rowsOf_26 (by decide) ?_
        exact Sm_weak (le_n le_0) (hj1 _ ((if_neg c1_0).trans ((if_neg c10_1).trans (if_pos c20_2))).symm)
    · refine sm_bipush dX12_rowsOf_13 bp_12 ?_
      refine sm_goto (tgt := 32) dX12_rowsOf_15 (by decide) ?_
      exact Sm_weak (le_n le_0) (hj1 _ ((if_neg c1_0).trans (if_pos c10_1)).symm)
  · refine sm_iconst dX12_rowsOf_4 ic_1 ?_
    refine sm_goto (tgt := 32) dX12_rowsOf_5 (by decide) ?_
    exact Sm_weak (le_n le_0) (hj1 _ (if_pos c1_0).symm)
set_option maxRecDepth 100000 in
set_option maxHeartbeats 4000000 in
theorem s_Mo_fitsBy_B121 {D : Nat} (hD : 3 ≤ D) (N : Nat) {r : Int32} {μr : MM} {k72 : Int32 → Int32 → Int32 → Int32 → MM → Option (Int32 × MM)} (hk72 : ∀ (x1 : Int32) (x3 : Int32) (x4 : Int32) (x5 : Int32) (μ : MM), k72 x1 x3 x4 x5 μ = some (r, μr) → Sm D mX12_fitsBy 72 [some (av_r 355), some (av_i x1), none, some (av_i x3), some (av_i x4), some (av_i x5), none] [] μ (po_i r μr)) (x1 : Int32) (x3 : Int32) (x4 : Int32) (x5 : Int32) (s0 : Int32) (s1 : Int32) (μ : MM) (h : f_Mo_fitsBy_B121 N k72 x1 x3 x4 x5 s0 s1 μ = some (r, μr)) : Sm D mX12_fitsBy 121 [some (av_r 355), some (av_i x1), none, some (av_i x3), some (av_i x4), some (av_i x5), none] [av_i s1, av_i s0] μ (po_i r μr) := by
  obtain ⟨d, rfl⟩ : ∃ d, D = d + 1 := ⟨D - 1, by omega⟩
  unfold f_Mo_fitsBy_B121 at h
  refine sm_icmp_eq (tgt := 126) dX12_fitsBy_121 (by decide) (fun g7 => ?_) (fun g7 => ?_)
  · replace h := it_t g7 h
    refine sm_iinc dX12_fitsBy_126 rfl (congrArg (HAdd.hAdd x5) ic_1) (Nat.le_of_ble_eq_true rfl) (pv_i rfl) ?_
    refine sm_goto (tgt := 72) dX12_fitsBy_129 (by decide) ?_
    exact Sm_weak (le_s rfl (le_s rfl (le_n (le_s rfl (le_s rfl (le_s rfl (le_n le_0))))))) (hk72 x1 x3 x4 (x5 + 1) μ h)
  · replace h := it_f g7 h
    refine sm_iconst dX12_fitsBy_124 ic_0 ?_
    cases h
    exact sm_ret_z (st := []) dX12_fitsBy_125 rfl rfl ⟨rfl, rfl⟩
set_option maxRecDepth 100000 in
set_option maxHeartbeats 4000000 in
theorem s_Mo_fitsBy_L72 {D : Nat} (hD : 3 ≤ D) (N : Nat) {r : Int32} {μr : MM} : ∀ (n : Nat) (x1 : Int32) (x3 : Int32) (x4 : Int32) (x5 : Int32) (μ : MM), f_Mo_fitsBy_L72 N n x1 x3 x4 x5 μ = some (r, μr) → Sm D mX12_fitsBy 72 [some (av_r 355), some (av_i x1), none, some (av_i x3), some (av_i x4), some (av_i x5), none] [] μ (po_i r μr) := by
  obtain ⟨d, rfl⟩ : ∃ d, D = d + 1 := ⟨D - 1, by omega⟩
  intro n
  induction n with
  | zero => intro x1 x3 x4 x5 μ h; cases (show none = some (r, μr) from h)
  | succ n ih =>
    intro x1 x3 x4 x5 μ h
    rw [f_Mo_fitsBy_L72] at h
    refine sm_iload dX12_fitsBy_72 rfl ?_
    refine sm_aload_n dX12_fitsBy_74 rfl rfl ?_
    refine sm_iload_n dX12_fitsBy_75 rfl rfl ?_
    obtain ⟨t76, μ2z, g3, h⟩ := ob_some h
    refine sm_callV dX12_fitsBy_76 cv_X12_goneOf ml_RX12_427 k_355 rfl rfl (by decide) (as := [av_i x1]) rfl (Nat.le_of_ble_eq_true rfl) rfl (s_Mo_goneOf (D := d) (by omega) N g3) (fun r9 μ9 hp => ?_)
    rw [hp.1, hp.2]
    clear hp r9 μ9
    refine sm_icmp_ge (tgt := 132) dX12_fitsBy_79 (by decide) (fun g4 => ?_) (fun g4 => ?_)
    · replace h := it_t g4 h
      refine sm_iconst dX12_fitsBy_132 ic_1 ?_
      cases h
      exact sm_ret_z (st := []) dX12_fitsBy_133 rfl rfl ⟨rfl, rfl⟩
    · replace h := it_f g4 h
      refine sm_iload dX12_fitsBy_82 rfl ?_
      refine sm_bipush dX12_fitsBy_84 bp_12 ?_
      refine sm_irem dX12_fitsBy_86 (by decide) ?_
      refine sm_istore dX12_fitsBy_87 (Nat.le_of_ble_eq_true rfl) (pv_i rfl) ?_
      refine sm_iload dX12_fitsBy_89 rfl ?_
      refine sm_bipush dX12_fitsBy_91 bp_12 ?_
      refine sm_idiv dX12_fitsBy_93 (by decide) ?_
      refine sm_istore dX12_fitsBy_94 (Nat.le_of_ble_eq_true rfl) (pv_i rfl) ?_
      refine sm_aload_n dX12_fitsBy_96 rfl rfl ?_
      refine sm_iload_n dX12_fitsBy_97 rfl rfl ?_
      obtain ⟨t98, μ3z, g5, h⟩ := ob_some h
      refine sm_callV dX12_fitsBy_98 cv_X12_marks ml_RX12_320 k_355 rfl rfl (by decide) (as := [av_i x3]) rfl (Nat.le_of_ble_eq_true rfl) rfl (s_Mo_marks (D := d) (by omega) N g5) (fun r9 μ9 hp => ?_)
      rw [hp.1, hp.2]
      clear hp r9 μ9
      refine sm_iload dX12_fitsBy_101 rfl ?_
      refine sm_bipush dX12_fitsBy_103 bp_6 ?_
      refine sm_irem dX12_fitsBy_105 (by decide) ?_
      obtain ⟨t106, μ4z, g6, h⟩ := ob_some h
      refine sm_callS dX12_fitsBy_106 cs_X12_has ml_RX12_224 (as := [av_i t98, av_i ((x4 - x4 / 12 * 12) - (x4 - x4 / 12 * 12) / 6 * 6)]) rfl (Nat.le_of_ble_eq_true rfl) rfl (s_Mo_has (D := d) (by omega) N g6) (fun r9 μ9 hp => ?_)
      rw [hp.1, hp.2]
      clear hp r9 μ9
      refine sm_iload dX12_fitsBy_109 rfl ?_
      refine sm_bipush dX12_fitsBy_111 bp_6 ?_
      have hj113 : ∀ (v113_0 : Int32), v113_0 = (if 6 ≤ (x4 - x4 / 12 * 12) then (0 : Int32) else 1) → Sm (d + 1) mX12_fitsBy 121 [some (av_r 355), some (av_i x1), none, some (av_i x3), some (av_i (x4 / 12)), some (av_i x5), none] [av_i v113_0, av_i t106] μ4z (po_i r μr) := by
        intro v113_0 ev113_0
        subst ev113_0
        exact Sm_weak (le_s rfl (le_s rfl (le_n (le_s rfl (le_s rfl (le_s rfl (le_n le_0))))))) (s_Mo_fitsBy_B121 hD N ih x1 x3 (x4 / 12) x5 t106 (if 6 ≤ (x4 - x4 / 12 * 12) then (0 : Int32) else 1) μ4z h)
      refine sm_icmp_ge (tgt := 120) dX12_fitsBy_113 (by decide) (fun c113_0 => ?_) (fun c113_0 => ?_)
      · refine sm_iconst dX12_fitsBy_120 ic_0 ?_
        exact Sm_weak (le_s rfl (le_s rfl (le_n (le_s rfl (le_s rfl (le_s rfl (le_n le_0))))))) (hj113 _ (if_pos c113_0).symm)
      · refine sm_iconst dX12_fitsBy_116 ic_1 ?_
        refine sm_goto (tgt := 121) dX12_fitsBy_117 (by decide) ?_
        exact Sm_weak (le_s rfl (le_s rfl (le_n (le_s rfl (le_s rfl (le_s rfl (le_n le_0))))))) (hj113 _ (if_neg c113_0).symm)
set_option maxRecDepth 100000 in
set_option maxHeartbeats 4000000 in
theorem s_Mo_fitsBy_L3 {D : Nat} (hD : 3 ≤ D) (N : Nat) {r : Int32} {μr : MM} : ∀ (n : Nat) (x1 : Int32) (x2 : Int32) (x3 : Int32) (x4 : Int32) (μ : MM), f_Mo_fitsBy_L3 N n x1 x2 x3 x4 μ = some (r, μr) → Sm D mX12_fitsBy 3 [some (av_r 355), some (av_i x1), some (av_i x2), some (av_i x3), some (av_i x4), none, none] [] μ (po_i r μr) := by
  obtain ⟨d, rfl⟩ : ∃ d, D = d + 1 := ⟨D - 1, by omega⟩
  intro n
  induction n with
  | zero => intro x1 x2 x3 x4 μ h; cases (show none = some (r, μr) from h)
  | succ n ih =>
    intro x1 x2 x3 x4 μ h
    rw [f_Mo_fitsBy_L3] at h
    refine sm_iload dX12_fitsBy_3 rfl ?_
    refine sm_aload_n dX12_fitsBy_5 rfl rfl ?_
    refine sm_getR dX12_fitsBy_6 fg_RX12_61 k_355 (rf_12_32 k_355) ?_
    refine sm_iload_n dX12_fitsBy_9 rfl rfl ?_
    obtain ⟨t10, μ1z, g1, h⟩ := ob_some h
    refine sm_callS dX12_fitsBy_10 cs_X12_wordsOf ml_RX12_323 (as := [av_r 368, av_i x1]) rfl (Nat.le_of_ble_eq_true rfl) rfl (s_Mo_wordsOf (D := d) (by omega) N k_368 g1) (fun r9 μ9 hp => ?_)
    rw [hp.1, hp.2]
    clear hp r9 μ9
    refine sm_icmp_ge (tgt := 66) dX12_fitsBy_13 (by decide) (fun g2 => ?_) (fun g2 => ?_)
    · replace h := it_t g2 h
      refine sm_iload_n dX12_fitsBy_66 rfl rfl ?_
      refine sm_istore dX12_fitsBy_67 (Nat.le_of_ble_eq_true rfl) (pv_i rfl) ?_
      refine sm_iconst dX12_fitsBy_69 ic_0 ?_
      refine sm_istore dX12_fitsBy_70 (Nat.le_of_ble_eq_true rfl) (pv_i rfl) ?_
      exact Sm_weak (le_s rfl (le_s rfl (le_n (le_s rfl (le_s rfl (le_s rfl (le_n le_0))))))) (s_Mo_fitsBy_L72 hD N N x1 x3 x2 0 μ1z h)
    · replace h := it_f g2 h
      refine sm_aload_n dX12_fitsBy_16 rfl rfl ?_
      refine sm_getR dX12_fitsBy_17 fg_RX12_61 k_355 (rf_12_32 k_355) ?_
      refine sm_iload_n dX12_fitsBy_20 rfl rfl ?_
      refine sm_iload dX12_fitsBy_21 rfl ?_
      obtain ⟨t23, μ5z, g8, h⟩ := ob_some h
      refine sm_callS dX12_fitsBy_23 cs_X12_inkOf ml_RX12_327 (as := [av_r 368, av_i x1, av_i x4]) rfl (Nat.le_of_ble_eq_true rfl) rfl (s_Mo_inkOf (D := d) (by omega) N k_368 g8) (fun r9 μ9 hp => ?_)
      rw [hp.1, hp.2]
      clear hp r9 μ9
      refine sm_if_le (tgt := 60) dX12_fitsBy_26 (by decide) (fun g9 => ?_) (fun g9 => ?_)
      · replace h := it_t g9 h
        refine sm_iinc dX12_fitsBy_60 rfl (congrArg (HAdd.hAdd x4) ic_1) (Nat.le_of_ble_eq_true rfl) (pv_i rfl) ?_
        refine sm_goto (tgt := 3) dX12_fitsBy_63 (by decide) ?_
        exact Sm_weak (le_s rfl (le_s rfl (le_s rfl (le_s rfl (le_s rfl (le_n (le_n le_0))))))) (ih x1 x2 x3 (x4 + 1) μ5z h)
      · replace h := it_f g9 h
        refine sm_aload_n dX12_fitsBy_29 rfl rfl ?_
        refine sm_getR dX12_fitsBy_30 fg_RX12_61 k_355 (rf_12_32 k_355) ?_
        refine sm_iload_n dX12_fitsBy_33 rfl rfl ?_
        refine sm_iload dX12_fitsBy_34 rfl ?_
        obtain ⟨t36, μ6z, g10, h⟩ := ob_some h
        refine sm_callS dX12_fitsBy_36 cs_X12_sortOf ml_RX12_317 (as := [av_r 368, av_i x1, av_i x4]) rfl (Nat.le_of_ble_eq_true rfl) rfl (s_Mo_sortOf (D := d) (by omega) N k_368 g10) (fun r9 μ9 hp => ?_)
        rw [hp.1, hp.2]
        clear hp r9 μ9
        refine sm_iconst dX12_fitsBy_39 ic_2 ?_
        refine sm_icmp_ge (tgt := 60) dX12_fitsBy_40 (by decide) (fun g11 => ?_) (fun g11 => ?_)
        · replace h := it_t g11 h
          refine sm_iinc dX12_fitsBy_60 rfl (congrArg (HAdd.hAdd x4) ic_1) (Nat.le_of_ble_eq_true rfl) (pv_i rfl) ?_
          refine sm_goto (tgt := 3) dX12_fitsBy_63 (by decide) ?_
          exact Sm_weak (le_s rfl (le_s rfl (le_s rfl (le_s rfl (le_s rfl (le_n (le_n le_0))))))) (ih x1 x2 x3 (x4 + 1) μ6z h)
        · replace h := it_f g11 h
          refine sm_aload_n dX12_fitsBy_43 rfl rfl ?_
          refine sm_aload_n dX12_fitsBy_44 rfl rfl ?_
          refine sm_getR dX12_fitsBy_45 fg_RX12_61 k_355 (rf_12_32 k_355) ?_
          refine sm_iload_n dX12_fitsBy_48 rfl rfl ?_
          refine sm_iload dX12_fitsBy_49 rfl ?_
          refine sm_iload_n dX12_fitsBy_51 rfl rfl ?_
          obtain ⟨t52, μ7z, g12, h⟩ := ob_some h
          refine sm_callV dX12_fitsBy_52 cv_X12_isTrue ml_RX12_330 k_355 rfl rfl (by decide) (as := [av_r 368, av_i x1, av_i x4, av_i x3]) rfl (Nat.le_of_ble_eq_true rfl) rfl (s_Mo_isTrue (D := d) (by omega) N k_368 g12) (fun r9 μ9 hp => ?_)
          rw [hp.1, hp.2]
          clear hp r9 μ9
          refine sm_if_ne (tgt := 60) dX12_fitsBy_55 (by decide) (fun g13 => ?_) (fun g13 => ?_)
          · replace h := it_f g13 h
            refine sm_iinc dX12_fitsBy_60 rfl (congrArg (HAdd.hAdd x4) ic_1) (Nat.le_of_ble_eq_true rfl) (pv_i rfl) ?_
            refine sm_goto (tgt := 3) dX12_fitsBy_63 (by decide) ?_
            exact Sm_weak (le_s rfl (le_s rfl (le_s rfl (le_s rfl (le_s rfl (le_n (le_n le_0))))))) (ih x1 x2 x3 (x4 + 1) μ7z h)
          · replace h := it_t g13 h
            refine sm_iconst dX12_fitsBy_58 ic_0 ?_
            cases h
            exact sm_ret_z (st := []) dX12_fitsBy_59 rfl rfl ⟨rfl, rfl⟩
set_option maxRecDepth 100000 in
set_option maxHeartbeats 4000000 in
theorem s_Mo_fitsBy {D : Nat} (hD : 3 ≤ D) (N : Nat) {x1 : Int32} {x2 : Int32} {x3 : Int32} {μ : MM} {r : Int32} {μr : MM} (h : f_Mo_fitsBy N x1 x2 x3 μ = some (r, μr)) : Cl D mX12_fitsBy [av_r 355, av_i x1, av_i x2, av_i x3] μ (po_i r μr) := by
  obtain ⟨d, rfl⟩ : ∃ d, D = d + 1 := ⟨D - 1, by omega⟩
  refine Cl_of pn_X12 (Nat.le_of_ble_eq_true rfl) ?_
  show Sm (d + 1) mX12_fitsBy 0 [some (av_r 355), some (av_i x1), some (av_i x2), some (av_i x3), none, none, none] [] μ (po_i r μr)
  unfold f_Mo_fitsBy at h
  refine sm_iconst dX12_fitsBy_0 ic_0 ?_
  refine sm_istore dX12_fitsBy_1 (Nat.le_of_ble_eq_true rfl) (pv_i rfl) ?_
  exact Sm_weak (le_s rfl (le_s rfl (le_s rfl (le_s rfl (le_s rfl (le_n (le_n le_0))))))) (s_Mo_fitsBy_L3 hD N N x1 x2 x3 0 μ h)
set_option maxRecDepth 100000 in
set_option maxHeartbeats 4000000 in
theorem s_Mo_isRow_L2 {D : Nat} (hD : 4 ≤ D) (N : Nat) {r : Int32} {μr : MM} : ∀ (n : Nat) (x1 : Int32) (x2 : Int32) (x3 : Int32) (μ : MM), f_Mo_isRow_L2 N n x1 x2 x3 μ = some (r, μr) → Sm D mX12_isRow 2 [some (av_r 355), some (av_i x1), some (av_i x2), some (av_i x3)] [] μ (po_i r μr) := by
  obtain ⟨d, rfl⟩ : ∃ d, D = d + 1 := ⟨D - 1, by omega⟩
  intro n
  induction n with
  | zero => intro x1 x2 x3 μ h; cases (show none = some (r, μr) from h)
  | succ n ih =>
    intro x1 x2 x3 μ h
    rw [f_Mo_isRow_L2] at h
    refine sm_iload_n dX12_isRow_2 rfl rfl ?_
    refine sm_aload_n dX12_isRow_3 rfl rfl ?_
    refine sm_getI dX12_isRow_4 fg_RX12_304 k_355 ?_
    refine sm_icmp_ge (tgt := 49) dX12_isRow_7 (by decide) (fun g1 => ?_) (fun g1 => ?_)
    · replace h := it_t g1 h
      refine sm_iconst dX12_isRow_49 ic_1 ?_
      cases h
      exact sm_ret_z (st := []) dX12_isRow_50 rfl rfl ⟨rfl, rfl⟩
    · replace h := it_f g1 h
      refine sm_aload_n dX12_isRow_10 rfl rfl ?_
      refine sm_getR dX12_isRow_11 fg_RX12_77 k_355 (rf_12_43 k_355) ?_
      refine sm_iload_n dX12_isRow_14 rfl rfl ?_
      obtain ⟨g2, h⟩ := gd_some h
      refine sm_iald (j := (Int32.toNatClampNeg x3)) dX12_isRow_15 k_372 (in_sz n_372 g2) rfl ?_
      refine sm_iload_n dX12_isRow_16 rfl rfl ?_
      refine sm_icmp_ne (tgt := 43) dX12_isRow_17 (by decide) (fun g3 => ?_) (fun g3 => ?_)
      · replace h := it_f g3 h
        refine sm_iinc dX12_isRow_43 rfl (congrArg (HAdd.hAdd x3) ic_1) (Nat.le_of_ble_eq_true rfl) (pv_i rfl) ?_
        refine sm_goto (tgt := 2) dX12_isRow_46 (by decide) ?_
        exact Sm_weak (le_s rfl (le_s rfl (le_s rfl (le_s rfl le_0)))) (ih x1 x2 (x3 + 1) μ h)
      · replace h := it_t g3 h
        refine sm_aload_n dX12_isRow_20 rfl rfl ?_
        refine sm_iload_n dX12_isRow_21 rfl rfl ?_
        refine sm_iload_n dX12_isRow_22 rfl rfl ?_
        refine sm_aload_n dX12_isRow_23 rfl rfl ?_
        refine sm_getR dX12_isRow_24 fg_RX12_74 k_355 (rf_12_42 k_355) ?_
        refine sm_iload_n dX12_isRow_27 rfl rfl ?_
        obtain ⟨g4, h⟩ := gd_some h
        refine sm_iald (j := (Int32.toNatClampNeg x3)) dX12_isRow_28 k_371 (in_sz n_371 g4) rfl ?_
        obtain ⟨t29, μ1z, g5, h⟩ := ob_some h
        refine sm_callV dX12_isRow_29 cv_X12_fitsBy ml_RX12_430 k_355 rfl rfl (by decide) (as := [av_i x1, av_i x2, av_i (μ.1 371 (Int32.toNatClampNeg x3))]) rfl (Nat.le_of_ble_eq_true rfl) rfl (s_Mo_fitsBy (D := d) (by omega) N g5) (fun r9 μ9 hp => ?_)
        rw [hp.1, hp.2]
        clear hp r9 μ9
        refine sm_aload_n dX12_isRow_32 rfl rfl ?_
        refine sm_getR dX12_isRow_33 fg_RX12_80 k_355 (rf_12_44 k_355) ?_
        refine sm_iload_n dX12_isRow_36 rfl rfl ?_
        obtain ⟨g6, h⟩ := gd_some h
        refine sm_zald (j := (Int32.toNatClampNeg x3)) dX12_isRow_37 k_373 (in_sz n_373 g6) rfl ?_
        refine sm_icmp_eq (tgt := 43) dX12_isRow_38 (by decide) (fun g7 => ?_) (fun g7 => ?_)
        · replace h := it_t g7 h
          refine sm_iinc dX12_isRow_43 rfl (congrArg (HAdd.hAdd x3) ic_1) (Nat.le_of_ble_eq_true rfl) (pv_i rfl) ?_
          refine sm_goto (tgt := 2) dX12_isRow_46 (by decide) ?_
          exact Sm_weak (le_s rfl (le_s rfl (le_s rfl (le_s rfl le_0)))) (ih x1 x2 (x3 + 1) μ1z h)
        · replace h := it_f g7 h
          refine sm_iconst dX12_isRow_41 ic_0 ?_
          cases h
          exact sm_ret_z (st := []) dX12_isRow_42 rfl rfl ⟨rfl, rfl⟩
set_option maxRecDepth 100000 in
set_option maxHeartbeats 4000000 in
theorem s_Mo_isRow {D : Nat} (hD : 4 ≤ D) (N : Nat) {x1 : Int32} {x2 : Int32} {μ : MM} {r : Int32} {μr : MM} (h : f_Mo_isRow N x1 x2 μ = some (r, μr)) : Cl D mX12_isRow [av_r 355, av_i x1, av_i x2] μ (po_i r μr) := by
  obtain ⟨d, rfl⟩ : ∃ d, D = d + 1 := ⟨D - 1, by omega⟩
  refine Cl_of pn_X12 (Nat.le_of_ble_eq_true rfl) ?_
  show Sm (d + 1) mX12_isRow 0 [some (av_r 355), some (av_i x1), some (av_i x2), none] [] μ (po_i r μr)
  unfold f_Mo_isRow at h
  refine sm_iconst dX12_isRow_0 ic_0 ?_
  refine sm_istore_n dX12_isRow_1 rfl (Nat.le_of_ble_eq_true rfl) (pv_i rfl) ?_
  exact Sm_weak (le_s rfl (le_s rfl (le_s rfl (le_s rfl le_0)))) (s_Mo_isRow_L2 hD N N x1 x2 0 μ h)
set_option maxRecDepth 100000 in
set_option maxHeartbeats 4000000 in
theorem s_Mo_canAsk {D : Nat} (hD : 3 ≤ D) (N : Nat) {x1 : Int32} {μ : MM} {r : Int32} {μr : MM} (h : f_Mo_canAsk N x1 μ = some (r, μr)) : Cl D mX12_canAsk [av_r 355, av_i x1] μ (po_i r μr) := by
  obtain ⟨d, rfl⟩ : ∃ d, D = d + 1 := ⟨D - 1, by omega⟩
  refine Cl_of pn_X12 (Nat.le_of_ble_eq_true rfl) ?_
  show Sm (d + 1) mX12_canAsk 0 [some (av_r 355), some (av_i x1)] [] μ (po_i r μr)
  unfold f_Mo_canAsk at h
  refine sm_aload_n dX12_canAsk_0 rfl rfl ?_
  refine sm_iload_n dX12_canAsk_1 rfl rfl ?_
  obtain ⟨t2, μ1z, g1, h⟩ := ob_some h
  refine sm_callV dX12_canAsk_2 cv_X12_isCard ml_RX12_362 k_355 rfl rfl (by decide) (as := [av_i x1]) rfl (Nat.le_of_ble_eq_true rfl) rfl (s_Mo_isCard (D := d) (by omega) N g1) (fun r9 μ9 hp => ?_)
  rw [hp.1, hp.2]
  clear hp r9 μ9
  refine sm_if_eq (tgt := 21) dX12_canAsk_5 (by decide) (fun g2 => ?_) (fun g2 => ?_)
  · replace h := it_t g2 h
    refine sm_iconst dX12_canAsk_21 ic_0 ?_
    cases h
    exact sm_ret_z (st := []) dX12_canAsk_22 rfl rfl ⟨rfl, rfl⟩
  · replace h := it_f g2 h
    refine sm_aload_n dX12_canAsk_8 rfl rfl ?_
    refine sm_iload_n dX12_canAsk_9 rfl rfl ?_
    obtain ⟨t10, μ2z, g3, h⟩ := ob_some h
    refine sm_callV dX12_canAsk_10 cv_X12_goneOf ml_RX12_427 k_355 rfl rfl (by decide) (as := [av_i x1]) rfl (Nat.le_of_ble_eq_true rfl) rfl (s_Mo_goneOf (D := d) (by omega) N g3) (fun r9 μ9 hp => ?_)
    rw [hp.1, hp.2]
    clear hp r9 μ9
    refine sm_iconst dX12_canAsk_13 ic_3 ?_
    refine sm_icmp_gt (tgt := 21) dX12_canAsk_14 (by decide) (fun g4 => ?_) (fun g4 => ?_)
    · replace h := it_t g4 h
      refine sm_iconst dX12_canAsk_21 ic_0 ?_
      cases h
      exact sm_ret_z (st := []) dX12_canAsk_22 rfl rfl ⟨rfl, rfl⟩
    · replace h := it_f g4 h
      refine sm_iconst dX12_canAsk_17 ic_1 ?_
      refine sm_goto (tgt := 22) dX12_canAsk_18 (by decide) ?_
      cases h
      exact sm_ret_z (st := []) dX12_canAsk_22 rfl rfl ⟨rfl, rfl⟩
set_option maxRecDepth 100000 in
set_option maxHeartbeats 4000000 in
theorem s_Mo_once_L25 {D : Nat} (hD : 5 ≤ D) (N : Nat) {r : Int32} {μr : MM} : ∀ (n : Nat) (x1 : Int32) (x2 : Int32) (x3 : Int32) (x4 : Int32) (μ : MM), f_Mo_once_L25 N n x1 x2 x3 x4 μ = some (r, μr) → Sm D mX12_once 25 [some (av_r 355), some (av_i x1), some (av_i x2), some (av_i x3), some (av_i x4)] [] μ (po_i r μr) := by
  obtain ⟨d, rfl⟩ : ∃ d, D = d + 1 := ⟨D - 1, by omega⟩
  intro n
  induction n with
  | zero => intro x1 x2 x3 x4 μ h; cases (show none = some (r, μr) from h)
  | succ n ih =>
    intro x1 x2 x3 x4 μ h
    rw [f_Mo_once_L25] at h
    refine sm_iload dX12_once_25 rfl ?_
    refine sm_aload_n dX12_once_27 rfl rfl ?_
    refine sm_iload_n dX12_once_28 rfl rfl ?_
    obtain ⟨t29, μ3z, g4, h⟩ := ob_some h
    refine sm_callV dX12_once_29 cv_X12_goneOf ml_RX12_427 k_355 rfl rfl (by decide) (as := [av_i x1]) rfl (Nat.le_of_ble_eq_true rfl) rfl (s_Mo_goneOf (D := d) (by omega) N g4) (fun r9 μ9 hp => ?_)
    rw [hp.1, hp.2]
    clear hp r9 μ9
    obtain ⟨t32, μ4z, g5, h⟩ := ob_some h
    refine sm_callS dX12_once_32 cs_X12_rowsOf ml_RX12_436 (as := [av_i t29]) rfl (Nat.le_of_ble_eq_true rfl) rfl (s_Mo_rowsOf (D := d) (by omega) N g5) (fun r9 μ9 hp => ?_)
    rw [hp.1, hp.2]
    clear hp r9 μ9
    refine sm_icmp_ge (tgt := 68) dX12_once_35 (by decide) (fun g6 => ?_) (fun g6 => ?_)
    · replace h := it_t g6 h
      refine sm_iload_n dX12_once_68 rfl rfl ?_
      refine sm_iconst dX12_once_69 ic_m1 ?_
      have hj70 : ∀ (v70_0 : Int32), v70_0 = (if x2 = (-1) then x3 else (-1)) → Sm (d + 1) mX12_once 78 [none, none, none, none, none] [av_i v70_0] μ4z (po_i r μr) := by
        intro v70_0 ev70_0
        subst ev70_0
        cases h
        exact sm_ret_i (st := []) dX12_once_78 rfl ⟨rfl, rfl⟩
      refine sm_icmp_ne (tgt := 77) dX12_once_70 (by decide) (fun c70_0 => ?_) (fun c70_0 => ?_)
      · refine sm_iconst dX12_once_77 ic_m1 ?_
        exact Sm_weak (le_n (le_n (le_n (le_n (le_n le_0))))) (hj70 _ (if_neg c70_0).symm)
      · refine sm_iload_n dX12_once_73 rfl rfl ?_
        refine sm_goto (tgt := 78) dX12_once_74 (by decide) ?_
        exact Sm_weak (le_n (le_n (le_n (le_n (le_n le_0))))) (hj70 _ (if_pos c70_0).symm)
    · replace h := it_f g6 h
      refine sm_aload_n dX12_once_38 rfl rfl ?_
      refine sm_iload_n dX12_once_39 rfl rfl ?_
      refine sm_iload dX12_once_40 rfl ?_
      obtain ⟨t42, μ5z, g7, h⟩ := ob_some h
      refine sm_callV dX12_once_42 cv_X12_isRow ml_RX12_439 k_355 rfl rfl (by decide) (as := [av_i x1, av_i x4]) rfl (Nat.le_of_ble_eq_true rfl) rfl (s_Mo_isRow (D := d) (by omega) N g7) (fun r9 μ9 hp => ?_)
      rw [hp.1, hp.2]
      clear hp r9 μ9
      refine sm_if_ne (tgt := 51) dX12_once_45 (by decide) (fun g8 => ?_) (fun g8 => ?_)
      · replace h := it_f g8 h
        refine sm_iload_n dX12_once_51 rfl rfl ?_
        refine sm_iload_n dX12_once_52 rfl rfl ?_
        refine sm_icmp_ne (tgt := 59) dX12_once_53 (by decide) (fun g9 => ?_) (fun g9 => ?_)
        · replace h := it_f g9 h
          refine sm_iinc dX12_once_59 rfl (congrArg (HAdd.hAdd x3) ic_1) (Nat.le_of_ble_eq_true rfl) (pv_i rfl) ?_
          refine sm_iinc dX12_once_62 rfl (congrArg (HAdd.hAdd x4) ic_1) (Nat.le_of_ble_eq_true rfl) (pv_i rfl) ?_
          refine sm_goto (tgt := 25) dX12_once_65 (by decide) ?_
          exact Sm_weak (le_s rfl (le_s rfl (le_s rfl (le_s rfl (le_s rfl le_0))))) (ih x1 x2 (x3 + 1) (x4 + 1) μ5z h)
        · replace h := it_t g9 h
          refine sm_iload dX12_once_56 rfl ?_
          cases h
          exact sm_ret_i (st := []) dX12_once_58 rfl ⟨rfl, rfl⟩
      · replace h := it_t g8 h
        refine sm_goto (tgt := 62) dX12_once_48 (by decide) ?_
        refine sm_iinc dX12_once_62 rfl (congrArg (HAdd.hAdd x4) ic_1) (Nat.le_of_ble_eq_true rfl) (pv_i rfl) ?_
        refine sm_goto (tgt := 25) dX12_once_65 (by decide) ?_
        exact Sm_weak (le_s rfl (le_s rfl (le_s rfl (le_s rfl (le_s rfl le_0))))) (ih x1 x2 x3 (x4 + 1) μ5z h)
set_option maxRecDepth 100000 in
set_option maxHeartbeats 4000000 in
theorem s_Mo_once {D : Nat} (hD : 5 ≤ D) (N : Nat) {x1 : Int32} {x2 : Int32} {μ : MM} {r : Int32} {μr : MM} (h : f_Mo_once N x1 x2 μ = some (r, μr)) : Cl D mX12_once [av_r 355, av_i x1, av_i x2] μ (po_i r μr) := by
  obtain ⟨d, rfl⟩ : ∃ d, D = d + 1 := ⟨D - 1, by omega⟩
  refine Cl_of pn_X12 (Nat.le_of_ble_eq_true rfl) ?_
  show Sm (d + 1) mX12_once 0 [some (av_r 355), some (av_i x1), some (av_i x2), none, none] [] μ (po_i r μr)
  unfold f_Mo_once at h
  refine sm_aload_n dX12_once_0 rfl rfl ?_
  refine sm_iconst dX12_once_1 ic_0 ?_
  refine sm_putI dX12_once_2 fp_RX12_91 k_355 ?_
  replace h := wr_some h
  refine sm_aload_n dX12_once_5 rfl rfl ?_
  refine sm_iload_n dX12_once_6 rfl rfl ?_
  obtain ⟨t7, μ2z, g1, h⟩ := ob_some h
  refine sm_callV dX12_once_7 cv_X12_canAsk ml_RX12_433 k_355 rfl rfl (by decide) (as := [av_i x1]) rfl (Nat.le_of_ble_eq_true rfl) rfl (s_Mo_canAsk (D := d) (by omega) N g1) (fun r9 μ9 hp => ?_)
  rw [hp.1, hp.2]
  clear hp r9 μ9
  refine sm_if_eq (tgt := 18) dX12_once_10 (by decide) (fun g2 => ?_) (fun g2 => ?_)
  · replace h := it_t g2 h
    refine sm_iconst dX12_once_18 ic_m1 ?_
    cases h
    exact sm_ret_i (st := []) dX12_once_19 rfl ⟨rfl, rfl⟩
  · replace h := it_f g2 h
    refine sm_iload_n dX12_once_13 rfl rfl ?_
    refine sm_iconst dX12_once_14 ic_m1 ?_
    refine sm_icmp_ge (tgt := 20) dX12_once_15 (by decide) (fun g3 => ?_) (fun g3 => ?_)
    · replace h := it_t g3 h
      refine sm_iconst dX12_once_20 ic_0 ?_
      refine sm_istore_n dX12_once_21 rfl (Nat.le_of_ble_eq_true rfl) (pv_i rfl) ?_
      refine sm_iconst dX12_once_22 ic_0 ?_
      refine sm_istore dX12_once_23 (Nat.le_of_ble_eq_true rfl) (pv_i rfl) ?_
      exact Sm_weak (le_s rfl (le_s rfl (le_s rfl (le_s rfl (le_s rfl le_0))))) (s_Mo_once_L25 hD N N x1 x2 0 0 μ2z h)
    · replace h := it_f g3 h
      refine sm_iconst dX12_once_18 ic_m1 ?_
      cases h
      exact sm_ret_i (st := []) dX12_once_19 rfl ⟨rfl, rfl⟩
set_option maxRecDepth 100000 in
set_option maxHeartbeats 4000000 in
theorem s_Mo_probe_L46 {D : Nat} (hD : 6 ≤ D) (N : Nat) {r : Int32} {μr : MM} {k31 : Int32 → Int32 → Int32 → Int32 → MM → Option (Int32 × MM)} (hk31 : ∀ (x1 : Int32) (x2 : Int32) (x3 : Int32) (x4 : Int32) (μ : MM), k31 x1 x2 x3 x4 μ = some (r, μr) → Sm D mX12_probe 31 [some (av_r 355), some (av_i x1), some (av_i x2), some (av_i x3), some (av_i x4), none, none] [] μ (po_i r μr)) : ∀ (n : Nat) (x1 : Int32) (x2 : Int32) (x3 : Int32) (x4 : Int32) (x5 : Int32) (x6 : Int32) (μ : MM), f_Mo_probe_L46 N k31 n x1 x2 x3 x4 x5 x6 μ = some (r, μr) → Sm D mX12_probe 46 [some (av_r 355), some (av_i x1), some (av_i x2), some (av_i x3), some (av_i x4), some (av_i x5), some (av_i x6)] [] μ (po_i r μr) := by
  obtain ⟨d, rfl⟩ : ∃ d, D = d + 1 := ⟨D - 1, by omega⟩
  intro n
  induction n with
  | zero => intro x1 x2 x3 x4 x5 x6 μ h; cases (show none = some (r, μr) from h)
  | succ n ih =>
    intro x1 x2 x3 x4 x5 x6 μ h
    rw [f_Mo_probe_L46] at h
    refine sm_iload dX12_probe_46 rfl ?_
    refine sm_aload_n dX12_probe_48 rfl rfl ?_
    refine sm_iload_n dX12_probe_49 rfl rfl ?_
    obtain ⟨t50, μ4z, g6, h⟩ := ob_some h
    refine sm_callV dX12_probe_50 cv_X12_goneOf ml_RX12_427 k_355 rfl rfl (by decide) (as := [av_i x1]) rfl (Nat.le_of_ble_eq_true rfl) rfl (s_Mo_goneOf (D := d) (by omega) N g6) (fun r9 μ9 hp => ?_)
    rw [hp.1, hp.2]
    clear hp r9 μ9
    obtain ⟨t53, μ5z, g7, h⟩ := ob_some h
    refine sm_callS dX12_probe_53 cs_X12_rowsOf ml_RX12_436 (as := [av_i t50]) rfl (Nat.le_of_ble_eq_true rfl) rfl (s_Mo_rowsOf (D := d) (by omega) N g7) (fun r9 μ9 hp => ?_)
    rw [hp.1, hp.2]
    clear hp r9 μ9
    refine sm_icmp_ge (tgt := 97) dX12_probe_56 (by decide) (fun g8 => ?_) (fun g8 => ?_)
    · replace h := it_t g8 h
      refine sm_iload dX12_probe_97 rfl ?_
      refine sm_abs dX12_probe_99 ml_RX12_445 (Nat.le_of_ble_eq_true rfl) ?_
      refine sm_istore dX12_probe_102 (Nat.le_of_ble_eq_true rfl) (pv_i rfl) ?_
      refine sm_iload_n dX12_probe_104 rfl rfl ?_
      refine sm_iconst dX12_probe_105 ic_m1 ?_
      refine sm_icmp_eq (tgt := 118) dX12_probe_106 (by decide) (fun g9 => ?_) (fun g9 => ?_)
      · replace h := it_t g9 h
        refine sm_iload dX12_probe_118 rfl ?_
        refine sm_istore_n dX12_probe_120 rfl (Nat.le_of_ble_eq_true rfl) (pv_i rfl) ?_
        refine sm_iload dX12_probe_121 rfl ?_
        refine sm_istore_n dX12_probe_123 rfl (Nat.le_of_ble_eq_true rfl) (pv_i rfl) ?_
        refine sm_iinc dX12_probe_124 rfl (congrArg (HAdd.hAdd x4) ic_1) (Nat.le_of_ble_eq_true rfl) (pv_i rfl) ?_
        refine sm_goto (tgt := 31) dX12_probe_127 (by decide) ?_
        exact Sm_weak (le_s rfl (le_s rfl (le_s rfl (le_s rfl (le_s rfl (le_n (le_n le_0))))))) (hk31 x1 x4 (if 0 ≤ x5 then x5 else 0 - x5) (x4 + 1) μ5z h)
      · replace h := it_f g9 h
        refine sm_iload dX12_probe_109 rfl ?_
        refine sm_iload_n dX12_probe_111 rfl rfl ?_
        refine sm_icmp_lt (tgt := 118) dX12_probe_112 (by decide) (fun g10 => ?_) (fun g10 => ?_)
        · replace h := it_t g10 h
          refine sm_iload dX12_probe_118 rfl ?_
          refine sm_istore_n dX12_probe_120 rfl (Nat.le_of_ble_eq_true rfl) (pv_i rfl) ?_
          refine sm_iload dX12_probe_121 rfl ?_
          refine sm_istore_n dX12_probe_123 rfl (Nat.le_of_ble_eq_true rfl) (pv_i rfl) ?_
          refine sm_iinc dX12_probe_124 rfl (congrArg (HAdd.hAdd x4) ic_1) (Nat.le_of_ble_eq_true rfl) (pv_i rfl) ?_
          refine sm_goto (tgt := 31) dX12_probe_127 (by decide) ?_
          exact Sm_weak (le_s rfl (le_s rfl (le_s rfl (le_s rfl (le_s rfl (le_n (le_n le_0))))))) (hk31 x1 x4 (if 0 ≤ x5 then x5 else 0 - x5) (x4 + 1) μ5z h)
        · replace h := it_f g10 h
          refine sm_goto (tgt := 124) dX12_probe_115 (by decide) ?_
          refine sm_iinc dX12_probe_124 rfl (congrArg (HAdd.hAdd x4) ic_1) (Nat.le_of_ble_eq_true rfl) (pv_i rfl) ?_
          refine sm_goto (tgt := 31) dX12_probe_127 (by decide) ?_
          exact Sm_weak (le_s rfl (le_s rfl (le_s rfl (le_s rfl (le_s rfl (le_n (le_n le_0))))))) (hk31 x1 x2 x3 (x4 + 1) μ5z h)
    · replace h := it_f g8 h
      refine sm_aload_n dX12_probe_59 rfl rfl ?_
      refine sm_iload_n dX12_probe_60 rfl rfl ?_
      refine sm_iload dX12_probe_61 rfl ?_
      obtain ⟨t63, μ6z, g11, h⟩ := ob_some h
      refine sm_callV dX12_probe_63 cv_X12_isRow ml_RX12_439 k_355 rfl rfl (by decide) (as := [av_i x1, av_i x6]) rfl (Nat.le_of_ble_eq_true rfl) rfl (s_Mo_isRow (D := d) (by omega) N g11) (fun r9 μ9 hp => ?_)
      rw [hp.1, hp.2]
      clear hp r9 μ9
      refine sm_if_eq (tgt := 91) dX12_probe_66 (by decide) (fun g12 => ?_) (fun g12 => ?_)
      · replace h := it_t g12 h
        refine sm_iinc dX12_probe_91 rfl (congrArg (HAdd.hAdd x6) ic_1) (Nat.le_of_ble_eq_true rfl) (pv_i rfl) ?_
        refine sm_goto (tgt := 46) dX12_probe_94 (by decide) ?_
        exact Sm_weak (le_s rfl (le_s rfl (le_s rfl (le_s rfl (le_s rfl (le_s rfl (le_s rfl le_0))))))) (ih x1 x2 x3 x4 x5 (x6 + 1) μ6z h)
      · replace h := it_f g12 h
        refine sm_iload dX12_probe_69 rfl ?_
        refine sm_aload_n dX12_probe_71 rfl rfl ?_
        refine sm_iload_n dX12_probe_72 rfl rfl ?_
        refine sm_iload dX12_probe_73 rfl ?_
        refine sm_iload dX12_probe_75 rfl ?_
        obtain ⟨t77, μ7z, g13, h⟩ := ob_some h
        refine sm_callV dX12_probe_77 cv_X12_fitsBy ml_RX12_430 k_355 rfl rfl (by decide) (as := [av_i x1, av_i x6, av_i x4]) rfl (Nat.le_of_ble_eq_true rfl) rfl (s_Mo_fitsBy (D := d) (by omega) N g13) (fun r9 μ9 hp => ?_)
        rw [hp.1, hp.2]
        clear hp r9 μ9
        have hj80 : ∀ (v80_0 : Int32), v80_0 = (if t77 = 0 then ((-1) : Int32) else 1) → Sm (d + 1) mX12_probe 88 [some (av_r 355), some (av_i x1), some (av_i x2), some (av_i x3), some (av_i x4), none, some (av_i x6)] [av_i v80_0, av_i x5] μ7z (po_i r μr) := by
          intro v80_0 ev80_0
          subst ev80_0
          refine sm_iadd dX12_probe_88 ?_
          refine sm_istore dX12_probe_89 (Nat.le_of_ble_eq_true rfl) (pv_i rfl) ?_
          refine sm_iinc dX12_probe_91 rfl (congrArg (HAdd.hAdd x6) ic_1) (Nat.le_of_ble_eq_true rfl) (pv_i rfl) ?_
          refine sm_goto (tgt := 46) dX12_probe_94 (by decide) ?_
          exact Sm_weak (le_s rfl (le_s rfl (le_s rfl (le_s rfl (le_s rfl (le_s rfl (le_s rfl le_0))))))) (ih x1 x2 x3 x4 (x5 + (if t77 = 0 then ((-1) : Int32) else 1)) (x6 + 1) μ7z h)
        refine sm_if_eq (tgt := 87) dX12_probe_80 (by decide) (fun c80_0 => ?_) (fun c80_0 => ?_)
        · refine sm_iconst dX12_probe_87 ic_m1 ?_
          exact Sm_weak (le_s rfl (le_s rfl (le_s rfl (le_s rfl (le_s rfl (le_n (le_s rfl le_0))))))) (hj80 _ (if_pos c80_0).symm)
        · refine sm_iconst dX12_probe_83 ic_1 ?_
          refine sm_goto (tgt := 88) dX12_probe_84 (by decide) ?_
          exact Sm_weak (le_s rfl (le_s rfl (le_s rfl (le_s rfl (le_s rfl (le_n (le_s rfl le_0))))))) (hj80 _ (if_neg c80_0).symm)
set_option maxRecDepth 100000 in
set_option maxHeartbeats 4000000 in
theorem s_Mo_probe_L31 {D : Nat} (hD : 6 ≤ D) (N : Nat) {r : Int32} {μr : MM} : ∀ (n : Nat) (x1 : Int32) (x2 : Int32) (x3 : Int32) (x4 : Int32) (μ : MM), f_Mo_probe_L31 N n x1 x2 x3 x4 μ = some (r, μr) → Sm D mX12_probe 31 [some (av_r 355), some (av_i x1), some (av_i x2), some (av_i x3), some (av_i x4), none, none] [] μ (po_i r μr) := by
  obtain ⟨d, rfl⟩ : ∃ d, D = d + 1 := ⟨D - 1, by omega⟩
  intro n
  induction n with
  | zero => intro x1 x2 x3 x4 μ h; cases (show none = some (r, μr) from h)
  | succ n ih =>
    intro x1 x2 x3 x4 μ h
    rw [f_Mo_probe_L31] at h
    refine sm_iload dX12_probe_31 rfl ?_
    refine sm_aload_n dX12_probe_33 rfl rfl ?_
    refine sm_getI dX12_probe_34 fg_RX12_294 k_355 ?_
    refine sm_icmp_ge (tgt := 130) dX12_probe_37 (by decide) (fun g5 => ?_) (fun g5 => ?_)
    · replace h := it_t g5 h
      refine sm_iload_n dX12_probe_130 rfl rfl ?_
      cases h
      exact sm_ret_i (st := []) dX12_probe_131 rfl ⟨rfl, rfl⟩
    · replace h := it_f g5 h
      refine sm_iconst dX12_probe_40 ic_0 ?_
      refine sm_istore dX12_probe_41 (Nat.le_of_ble_eq_true rfl) (pv_i rfl) ?_
      refine sm_iconst dX12_probe_43 ic_0 ?_
      refine sm_istore dX12_probe_44 (Nat.le_of_ble_eq_true rfl) (pv_i rfl) ?_
      exact Sm_weak (le_s rfl (le_s rfl (le_s rfl (le_s rfl (le_s rfl (le_s rfl (le_s rfl le_0))))))) (s_Mo_probe_L46 hD N ih N x1 x2 x3 x4 0 0 μ h)
set_option maxRecDepth 100000 in
set_option maxHeartbeats 4000000 in
theorem s_Mo_probe {D : Nat} (hD : 6 ≤ D) (N : Nat) {x1 : Int32} {μ : MM} {r : Int32} {μr : MM} (h : f_Mo_probe N x1 μ = some (r, μr)) : Cl D mX12_probe [av_r 355, av_i x1] μ (po_i r μr) := by
  obtain ⟨d, rfl⟩ : ∃ d, D = d + 1 := ⟨D - 1, by omega⟩
  refine Cl_of pn_X12 (Nat.le_of_ble_eq_true rfl) ?_
  show Sm (d + 1) mX12_probe 0 [some (av_r 355), some (av_i x1), none, none, none, none, none] [] μ (po_i r μr)
  unfold f_Mo_probe at h
  refine sm_aload_n dX12_probe_0 rfl rfl ?_
  refine sm_iconst dX12_probe_1 ic_0 ?_
  refine sm_putI dX12_probe_2 fp_RX12_91 k_355 ?_
  replace h := wr_some h
  refine sm_aload_n dX12_probe_5 rfl rfl ?_
  refine sm_iload_n dX12_probe_6 rfl rfl ?_
  obtain ⟨t7, μ2z, g1, h⟩ := ob_some h
  refine sm_callV dX12_probe_7 cv_X12_canAsk ml_RX12_433 k_355 rfl rfl (by decide) (as := [av_i x1]) rfl (Nat.le_of_ble_eq_true rfl) rfl (s_Mo_canAsk (D := d) (by omega) N g1) (fun r9 μ9 hp => ?_)
  rw [hp.1, hp.2]
  clear hp r9 μ9
  refine sm_if_eq (tgt := 22) dX12_probe_10 (by decide) (fun g2 => ?_) (fun g2 => ?_)
  · replace h := it_t g2 h
    refine sm_iconst dX12_probe_22 ic_m1 ?_
    cases h
    exact sm_ret_i (st := []) dX12_probe_23 rfl ⟨rfl, rfl⟩
  · replace h := it_f g2 h
    refine sm_aload_n dX12_probe_13 rfl rfl ?_
    refine sm_iload_n dX12_probe_14 rfl rfl ?_
    refine sm_iconst dX12_probe_15 ic_m1 ?_
    obtain ⟨t16, μ3z, g3, h⟩ := ob_some h
    refine sm_callV dX12_probe_16 cv_X12_once ml_RX12_442 k_355 rfl rfl (by decide) (as := [av_i x1, av_i (-1)]) rfl (Nat.le_of_ble_eq_true rfl) rfl (s_Mo_once (D := d) (by omega) N g3) (fun r9 μ9 hp => ?_)
    rw [hp.1, hp.2]
    clear hp r9 μ9
    refine sm_if_ne (tgt := 24) dX12_probe_19 (by decide) (fun g4 => ?_) (fun g4 => ?_)
    · replace h := it_f g4 h
      refine sm_iconst dX12_probe_24 ic_m1 ?_
      refine sm_istore_n dX12_probe_25 rfl (Nat.le_of_ble_eq_true rfl) (pv_i rfl) ?_
      refine sm_iconst dX12_probe_26 ic_0 ?_
      refine sm_istore_n dX12_probe_27 rfl (Nat.le_of_ble_eq_true rfl) (pv_i rfl) ?_
      refine sm_iconst dX12_probe_28 ic_0 ?_
      refine sm_istore dX12_probe_29 (Nat.le_of_ble_eq_true rfl) (pv_i rfl) ?_
      exact Sm_weak (le_s rfl (le_s rfl (le_s rfl (le_s rfl (le_s rfl (le_n (le_n le_0))))))) (s_Mo_probe_L31 hD N N x1 (-1) 0 0 μ3z h)
    · replace h := it_t g4 h
      refine sm_iconst dX12_probe_22 ic_m1 ?_
      cases h
      exact sm_ret_i (st := []) dX12_probe_23 rfl ⟨rfl, rfl⟩
set_option maxRecDepth 100000 in
set_option maxHeartbeats 4000000 in
theorem s_Mo_saves_L65 {D : Nat} (hD : 5 ≤ D) (N : Nat) {r : Int32} {μr : MM} {k33 : Int32 → Int32 → Int32 → Int32 → Int32 → MM → Option (Int32 × MM)} (hk33 : ∀ (x1 : Int32) (x2 : Int32) (x3 : Int32) (x4 : Int32) (x5 : Int32) (μ : MM), k33 x1 x2 x3 x4 x5 μ = some (r, μr) → Sm D mX12_saves 33 [some (av_r 355), some (av_i x1), some (av_i x2), some (av_i x3), some (av_i x4), some (av_i x5), none, none] [] μ (po_i r μr)) : ∀ (n : Nat) (x1 : Int32) (x2 : Int32) (x3 : Int32) (x4 : Int32) (x5 : Int32) (x6 : Int32) (x7 : Int32) (μ : MM), f_Mo_saves_L65 N k33 n x1 x2 x3 x4 x5 x6 x7 μ = some (r, μr) → Sm D mX12_saves 65 [some (av_r 355), some (av_i x1), some (av_i x2), some (av_i x3), some (av_i x4), some (av_i x5), some (av_i x6), some (av_i x7)] [] μ (po_i r μr) := by
  obtain ⟨d, rfl⟩ : ∃ d, D = d + 1 := ⟨D - 1, by omega⟩
  intro n
  induction n with
  | zero => intro x1 x2 x3 x4 x5 x6 x7 μ h; cases (show none = some (r, μr) from h)
  | succ n ih =>
    intro x1 x2 x3 x4 x5 x6 x7 μ h
    rw [f_Mo_saves_L65] at h
    refine sm_iload dX12_saves_65 rfl ?_
    refine sm_aload_n dX12_saves_67 rfl rfl ?_
    refine sm_getI dX12_saves_68 fg_RX12_294 k_355 ?_
    refine sm_icmp_ge (tgt := 102) dX12_saves_71 (by decide) (fun g12 => ?_) (fun g12 => ?_)
    · replace h := it_t g12 h
      refine sm_iload_n dX12_saves_102 rfl rfl ?_
      refine sm_iconst dX12_saves_103 ic_m1 ?_
      refine sm_icmp_eq (tgt := 117) dX12_saves_104 (by decide) (fun g13 => ?_) (fun g13 => ?_)
      · replace h := it_t g13 h
        refine sm_iload dX12_saves_117 rfl ?_
        refine sm_istore_n dX12_saves_119 rfl (Nat.le_of_ble_eq_true rfl) (pv_i rfl) ?_
        refine sm_iload dX12_saves_120 rfl ?_
        refine sm_istore dX12_saves_122 (Nat.le_of_ble_eq_true rfl) (pv_i rfl) ?_
        refine sm_iinc dX12_saves_124 rfl (congrArg (HAdd.hAdd x5) ic_1) (Nat.le_of_ble_eq_true rfl) (pv_i rfl) ?_
        refine sm_goto (tgt := 33) dX12_saves_127 (by decide) ?_
        exact Sm_weak (le_s rfl (le_s rfl (le_s rfl (le_s rfl (le_s rfl (le_s rfl (le_n (le_n le_0)))))))) (hk33 x1 x2 x5 x6 (x5 + 1) μ h)
      · replace h := it_f g13 h
        refine sm_iload dX12_saves_107 rfl ?_
        refine sm_iload dX12_saves_109 rfl ?_
        refine sm_icmp_gt (tgt := 117) dX12_saves_111 (by decide) (fun g14 => ?_) (fun g14 => ?_)
        · replace h := it_t g14 h
          refine sm_iload dX12_saves_117 rfl ?_
          refine sm_istore_n dX12_saves_119 rfl (Nat.le_of_ble_eq_true rfl) (pv_i rfl) ?_
          refine sm_iload dX12_saves_120 rfl ?_
          refine sm_istore dX12_saves_122 (Nat.le_of_ble_eq_true rfl) (pv_i rfl) ?_
          refine sm_iinc dX12_saves_124 rfl (congrArg (HAdd.hAdd x5) ic_1) (Nat.le_of_ble_eq_true rfl) (pv_i rfl) ?_
          refine sm_goto (tgt := 33) dX12_saves_127 (by decide) ?_
          exact Sm_weak (le_s rfl (le_s rfl (le_s rfl (le_s rfl (le_s rfl (le_s rfl (le_n (le_n le_0)))))))) (hk33 x1 x2 x5 x6 (x5 + 1) μ h)
        · replace h := it_f g14 h
          refine sm_goto (tgt := 124) dX12_saves_114 (by decide) ?_
          refine sm_iinc dX12_saves_124 rfl (congrArg (HAdd.hAdd x5) ic_1) (Nat.le_of_ble_eq_true rfl) (pv_i rfl) ?_
          refine sm_goto (tgt := 33) dX12_saves_127 (by decide) ?_
          exact Sm_weak (le_s rfl (le_s rfl (le_s rfl (le_s rfl (le_s rfl (le_s rfl (le_n (le_n le_0)))))))) (hk33 x1 x2 x3 x4 (x5 + 1) μ h)
    · replace h := it_f g12 h
      refine sm_iload dX12_saves_74 rfl ?_
      refine sm_aload_n dX12_saves_76 rfl rfl ?_
      refine sm_iload_n dX12_saves_77 rfl rfl ?_
      refine sm_iload dX12_saves_78 rfl ?_
      refine sm_iload dX12_saves_80 rfl ?_
      obtain ⟨t82, μ7z, g15, h⟩ := ob_some h
      refine sm_callV dX12_saves_82 cv_X12_fitsBy ml_RX12_430 k_355 rfl rfl (by decide) (as := [av_i x1, av_i x5, av_i x7]) rfl (Nat.le_of_ble_eq_true rfl) rfl (s_Mo_fitsBy (D := d) (by omega) N g15) (fun r9 μ9 hp => ?_)
      rw [hp.1, hp.2]
      clear hp r9 μ9
      have hj85 : ∀ (v85_0 : Int32), v85_0 = (if t82 = 0 then (0 : Int32) else 1) → Sm (d + 1) mX12_saves 93 [some (av_r 355), some (av_i x1), some (av_i x2), some (av_i x3), some (av_i x4), some (av_i x5), none, some (av_i x7)] [av_i v85_0, av_i x6] μ7z (po_i r μr) := by
        intro v85_0 ev85_0
        subst ev85_0
        refine sm_iadd dX12_saves_93 ?_
        refine sm_istore dX12_saves_94 (Nat.le_of_ble_eq_true rfl) (pv_i rfl) ?_
        refine sm_iinc dX12_saves_96 rfl (congrArg (HAdd.hAdd x7) ic_1) (Nat.le_of_ble_eq_true rfl) (pv_i rfl) ?_
        refine sm_goto (tgt := 65) dX12_saves_99 (by decide) ?_
        exact Sm_weak (le_s rfl (le_s rfl (le_s rfl (le_s rfl (le_s rfl (le_s rfl (le_s rfl (le_s rfl le_0)))))))) (ih x1 x2 x3 x4 x5 (x6 + (if t82 = 0 then (0 : Int32) else 1)) (x7 + 1) μ7z h)
      refine sm_if_eq (tgt := 92) dX12_saves_85 (by decide) (fun c85_0 => ?_) (fun c85_0 => ?_)
      · refine sm_iconst dX12_saves_92 ic_0 ?_
        exact Sm_weak (le_s rfl (le_s rfl (le_s rfl (le_s rfl (le_s rfl (le_s rfl (le_n (le_s rfl le_0)))))))) (hj85 _ (if_pos c85_0).symm)
      · refine sm_iconst dX12_saves_88 ic_1 ?_
        refine sm_goto (tgt := 93) dX12_saves_89 (by decide) ?_
        exact Sm_weak (le_s rfl (le_s rfl (le_s rfl (le_s rfl (le_s rfl (le_s rfl (le_n (le_s rfl le_0)))))))) (hj85 _ (if_neg c85_0).symm)
set_option maxRecDepth 100000 in
set_option maxHeartbeats 4000000 in
theorem s_Mo_saves_L33 {D : Nat} (hD : 5 ≤ D) (N : Nat) {r : Int32} {μr : MM} : ∀ (n : Nat) (x1 : Int32) (x2 : Int32) (x3 : Int32) (x4 : Int32) (x5 : Int32) (μ : MM), f_Mo_saves_L33 N n x1 x2 x3 x4 x5 μ = some (r, μr) → Sm D mX12_saves 33 [some (av_r 355), some (av_i x1), some (av_i x2), some (av_i x3), some (av_i x4), some (av_i x5), none, none] [] μ (po_i r μr) := by
  obtain ⟨d, rfl⟩ : ∃ d, D = d + 1 := ⟨D - 1, by omega⟩
  intro n
  induction n with
  | zero => intro x1 x2 x3 x4 x5 μ h; cases (show none = some (r, μr) from h)
  | succ n ih =>
    intro x1 x2 x3 x4 x5 μ h
    rw [f_Mo_saves_L33] at h
    refine sm_iload dX12_saves_33 rfl ?_
    refine sm_aload_n dX12_saves_35 rfl rfl ?_
    refine sm_iload_n dX12_saves_36 rfl rfl ?_
    obtain ⟨t37, μ4z, g5, h⟩ := ob_some h
    refine sm_callV dX12_saves_37 cv_X12_goneOf ml_RX12_427 k_355 rfl rfl (by decide) (as := [av_i x1]) rfl (Nat.le_of_ble_eq_true rfl) rfl (s_Mo_goneOf (D := d) (by omega) N g5) (fun r9 μ9 hp => ?_)
    rw [hp.1, hp.2]
    clear hp r9 μ9
    obtain ⟨t40, μ5z, g6, h⟩ := ob_some h
    refine sm_callS dX12_saves_40 cs_X12_rowsOf ml_RX12_436 (as := [av_i t37]) rfl (Nat.le_of_ble_eq_true rfl) rfl (s_Mo_rowsOf (D := d) (by omega) N g6) (fun r9 μ9 hp => ?_)
    rw [hp.1, hp.2]
    clear hp r9 μ9
    refine sm_icmp_ge (tgt := 130) dX12_saves_43 (by decide) (fun g7 => ?_) (fun g7 => ?_)
    · replace h := it_t g7 h
      refine sm_iload_n dX12_saves_130 rfl rfl ?_
      refine sm_iconst dX12_saves_131 ic_m1 ?_
      refine sm_icmp_eq (tgt := 139) dX12_saves_132 (by decide) (fun g8 => ?_) (fun g8 => ?_)
      · replace h := it_t g8 h
        refine sm_iload_n dX12_saves_139 rfl rfl ?_
        refine sm_goto (tgt := 145) dX12_saves_140 (by decide) ?_
        cases h
        exact sm_ret_i (st := []) dX12_saves_145 rfl ⟨rfl, rfl⟩
      · replace h := it_f g8 h
        refine sm_iload_n dX12_saves_135 rfl rfl ?_
        refine sm_if_ne (tgt := 143) dX12_saves_136 (by decide) (fun g9 => ?_) (fun g9 => ?_)
        · replace h := it_f g9 h
          refine sm_iload dX12_saves_143 rfl ?_
          cases h
          exact sm_ret_i (st := []) dX12_saves_145 rfl ⟨rfl, rfl⟩
        · replace h := it_t g9 h
          refine sm_iload_n dX12_saves_139 rfl rfl ?_
          refine sm_goto (tgt := 145) dX12_saves_140 (by decide) ?_
          cases h
          exact sm_ret_i (st := []) dX12_saves_145 rfl ⟨rfl, rfl⟩
    · replace h := it_f g7 h
      refine sm_aload_n dX12_saves_46 rfl rfl ?_
      refine sm_iload_n dX12_saves_47 rfl rfl ?_
      refine sm_iload dX12_saves_48 rfl ?_
      obtain ⟨t50, μ6z, g10, h⟩ := ob_some h
      refine sm_callV dX12_saves_50 cv_X12_isRow ml_RX12_439 k_355 rfl rfl (by decide) (as := [av_i x1, av_i x5]) rfl (Nat.le_of_ble_eq_true rfl) rfl (s_Mo_isRow (D := d) (by omega) N g10) (fun r9 μ9 hp => ?_)
      rw [hp.1, hp.2]
      clear hp r9 μ9
      refine sm_if_ne (tgt := 59) dX12_saves_53 (by decide) (fun g11 => ?_) (fun g11 => ?_)
      · replace h := it_f g11 h
        refine sm_iconst dX12_saves_59 ic_0 ?_
        refine sm_istore dX12_saves_60 (Nat.le_of_ble_eq_true rfl) (pv_i rfl) ?_
        refine sm_iconst dX12_saves_62 ic_0 ?_
        refine sm_istore dX12_saves_63 (Nat.le_of_ble_eq_true rfl) (pv_i rfl) ?_
        exact Sm_weak (le_s rfl (le_s rfl (le_s rfl (le_s rfl (le_s rfl (le_s rfl (le_s rfl (le_s rfl le_0)))))))) (s_Mo_saves_L65 hD N ih N x1 x2 x3 x4 x5 0 0 μ6z h)
      · replace h := it_t g11 h
        refine sm_goto (tgt := 124) dX12_saves_56 (by decide) ?_
        refine sm_iinc dX12_saves_124 rfl (congrArg (HAdd.hAdd x5) ic_1) (Nat.le_of_ble_eq_true rfl) (pv_i rfl) ?_
        refine sm_goto (tgt := 33) dX12_saves_127 (by decide) ?_
        exact Sm_weak (le_s rfl (le_s rfl (le_s rfl (le_s rfl (le_s rfl (le_s rfl (le_n (le_n le_0)))))))) (ih x1 x2 x3 x4 (x5 + 1) μ6z h)
set_option maxRecDepth 100000 in
set_option maxHeartbeats 4000000 in
theorem s_Mo_saves {D : Nat} (hD : 5 ≤ D) (N : Nat) {x1 : Int32} {x2 : Int32} {μ : MM} {r : Int32} {μr : MM} (h : f_Mo_saves N x1 x2 μ = some (r, μr)) : Cl D mX12_saves [av_r 355, av_i x1, av_i x2] μ (po_i r μr) := by
  obtain ⟨d, rfl⟩ : ∃ d, D = d + 1 := ⟨D - 1, by omega⟩
  refine Cl_of pn_X12 (Nat.le_of_ble_eq_true rfl) ?_
  show Sm (d + 1) mX12_saves 0 [some (av_r 355), some (av_i x1), some (av_i x2), none, none, none, none, none] [] μ (po_i r μr)
  unfold f_Mo_saves at h
  refine sm_aload_n dX12_saves_0 rfl rfl ?_
  refine sm_iconst dX12_saves_1 ic_0 ?_
  refine sm_putI dX12_saves_2 fp_RX12_91 k_355 ?_
  replace h := wr_some h
  refine sm_aload_n dX12_saves_5 rfl rfl ?_
  refine sm_iload_n dX12_saves_6 rfl rfl ?_
  obtain ⟨t7, μ2z, g1, h⟩ := ob_some h
  refine sm_callV dX12_saves_7 cv_X12_canAsk ml_RX12_433 k_355 rfl rfl (by decide) (as := [av_i x1]) rfl (Nat.le_of_ble_eq_true rfl) rfl (s_Mo_canAsk (D := d) (by omega) N g1) (fun r9 μ9 hp => ?_)
  rw [hp.1, hp.2]
  clear hp r9 μ9
  refine sm_if_eq (tgt := 23) dX12_saves_10 (by decide) (fun g2 => ?_) (fun g2 => ?_)
  · replace h := it_t g2 h
    refine sm_iconst dX12_saves_23 ic_m1 ?_
    cases h
    exact sm_ret_i (st := []) dX12_saves_24 rfl ⟨rfl, rfl⟩
  · replace h := it_f g2 h
    refine sm_iload_n dX12_saves_13 rfl rfl ?_
    refine sm_i2l dX12_saves_14 ?_
    refine sm_lconst dX12_saves_15 lc_0 ?_
    refine sm_lconst dX12_saves_16 lc_1 ?_
    obtain ⟨t17, μ3z, g3, h⟩ := ob_some h
    refine sm_callS dX12_saves_17 cs_X12_isIn ml_RX12_212 (as := [av_l (Int32.toInt64 x2), av_l 0, av_l 1]) rfl (Nat.le_of_ble_eq_true rfl) rfl (s_Mo_isIn (D := d) (by omega) N g3) (fun r9 μ9 hp => ?_)
    rw [hp.1, hp.2]
    clear hp r9 μ9
    refine sm_if_ne (tgt := 25) dX12_saves_20 (by decide) (fun g4 => ?_) (fun g4 => ?_)
    · replace h := it_f g4 h
      refine sm_iconst dX12_saves_25 ic_m1 ?_
      refine sm_istore_n dX12_saves_26 rfl (Nat.le_of_ble_eq_true rfl) (pv_i rfl) ?_
      refine sm_iconst dX12_saves_27 ic_0 ?_
      refine sm_istore dX12_saves_28 (Nat.le_of_ble_eq_true rfl) (pv_i rfl) ?_
      refine sm_iconst dX12_saves_30 ic_0 ?_
      refine sm_istore dX12_saves_31 (Nat.le_of_ble_eq_true rfl) (pv_i rfl) ?_
      exact Sm_weak (le_s rfl (le_s rfl (le_s rfl (le_s rfl (le_s rfl (le_s rfl (le_n (le_n le_0)))))))) (s_Mo_saves_L33 hD N N x1 x2 (-1) 0 0 μ3z h)
    · replace h := it_t g4 h
      refine sm_iconst dX12_saves_23 ic_m1 ?_
      cases h
      exact sm_ret_i (st := []) dX12_saves_24 rfl ⟨rfl, rfl⟩
set_option maxRecDepth 100000 in
set_option maxHeartbeats 4000000 in
theorem s_Mo_leads_L4 {D : Nat} (hD : 1 ≤ D) (N : Nat) {r : Int32} {μr : MM} : ∀ (n : Nat) (x1 : Int32) (x2 : Int32) (x3 : Int32) (μ : MM), f_Mo_leads_L4 N n x1 x2 x3 μ = some (r, μr) → Sm D mX12_leads 4 [some (av_r 355), some (av_i x1), some (av_i x2), some (av_i x3)] [] μ (po_i r μr) := by
  obtain ⟨d, rfl⟩ : ∃ d, D = d + 1 := ⟨D - 1, by omega⟩
  intro n
  induction n with
  | zero => intro x1 x2 x3 μ h; cases (show none = some (r, μr) from h)
  | succ n ih =>
    intro x1 x2 x3 μ h
    rw [f_Mo_leads_L4] at h
    refine sm_iload_n dX12_leads_4 rfl rfl ?_
    refine sm_aload_n dX12_leads_5 rfl rfl ?_
    refine sm_getR dX12_leads_6 fg_RX12_61 k_355 (rf_12_32 k_355) ?_
    refine sm_iload_n dX12_leads_9 rfl rfl ?_
    obtain ⟨t10, μ1z, g1, h⟩ := ob_some h
    refine sm_callS dX12_leads_10 cs_X12_wordsOf ml_RX12_323 (as := [av_r 368, av_i x1]) rfl (Nat.le_of_ble_eq_true rfl) rfl (s_Mo_wordsOf (D := d) (by omega) N k_368 g1) (fun r9 μ9 hp => ?_)
    rw [hp.1, hp.2]
    clear hp r9 μ9
    refine sm_icmp_ge (tgt := 65) dX12_leads_13 (by decide) (fun g2 => ?_) (fun g2 => ?_)
    · replace h := it_t g2 h
      refine sm_iload_n dX12_leads_65 rfl rfl ?_
      cases h
      exact sm_ret_i (st := []) dX12_leads_66 rfl ⟨rfl, rfl⟩
    · replace h := it_f g2 h
      refine sm_iload_n dX12_leads_16 rfl rfl ?_
      refine sm_aload_n dX12_leads_17 rfl rfl ?_
      refine sm_getR dX12_leads_18 fg_RX12_61 k_355 (rf_12_32 k_355) ?_
      refine sm_iload_n dX12_leads_21 rfl rfl ?_
      refine sm_iload_n dX12_leads_22 rfl rfl ?_
      obtain ⟨t23, μ2z, g3, h⟩ := ob_some h
      refine sm_callS dX12_leads_23 cs_X12_inkOf ml_RX12_327 (as := [av_r 368, av_i x1, av_i x3]) rfl (Nat.le_of_ble_eq_true rfl) rfl (s_Mo_inkOf (D := d) (by omega) N k_368 g3) (fun r9 μ9 hp => ?_)
      rw [hp.1, hp.2]
      clear hp r9 μ9
      refine sm_if_le (tgt := 56) dX12_leads_26 (by decide) (fun g4 => ?_) (fun g4 => ?_)
      · replace h := it_t g4 h
        refine sm_iconst dX12_leads_56 ic_0 ?_
        refine sm_ior dX12_leads_57 ?_
        refine sm_istore_n dX12_leads_58 rfl (Nat.le_of_ble_eq_true rfl) (pv_i rfl) ?_
        refine sm_iinc dX12_leads_59 rfl (congrArg (HAdd.hAdd x3) ic_1) (Nat.le_of_ble_eq_true rfl) (pv_i rfl) ?_
        refine sm_goto (tgt := 4) dX12_leads_62 (by decide) ?_
        exact Sm_weak (le_s rfl (le_s rfl (le_s rfl (le_s rfl le_0)))) (ih x1 (x2 ||| 0) (x3 + 1) μ2z h)
      · replace h := it_f g4 h
        refine sm_aload_n dX12_leads_29 rfl rfl ?_
        refine sm_getR dX12_leads_30 fg_RX12_61 k_355 (rf_12_32 k_355) ?_
        refine sm_iload_n dX12_leads_33 rfl rfl ?_
        refine sm_iload_n dX12_leads_34 rfl rfl ?_
        obtain ⟨t35, μ3z, g5, h⟩ := ob_some h
        refine sm_callS dX12_leads_35 cs_X12_sortOf ml_RX12_317 (as := [av_r 368, av_i x1, av_i x3]) rfl (Nat.le_of_ble_eq_true rfl) rfl (s_Mo_sortOf (D := d) (by omega) N k_368 g5) (fun r9 μ9 hp => ?_)
        rw [hp.1, hp.2]
        clear hp r9 μ9
        refine sm_iconst dX12_leads_38 ic_2 ?_
        refine sm_icmp_ne (tgt := 56) dX12_leads_39 (by decide) (fun g6 => ?_) (fun g6 => ?_)
        · replace h := it_f g6 h
          refine sm_iconst dX12_leads_56 ic_0 ?_
          refine sm_ior dX12_leads_57 ?_
          refine sm_istore_n dX12_leads_58 rfl (Nat.le_of_ble_eq_true rfl) (pv_i rfl) ?_
          refine sm_iinc dX12_leads_59 rfl (congrArg (HAdd.hAdd x3) ic_1) (Nat.le_of_ble_eq_true rfl) (pv_i rfl) ?_
          refine sm_goto (tgt := 4) dX12_leads_62 (by decide) ?_
          exact Sm_weak (le_s rfl (le_s rfl (le_s rfl (le_s rfl le_0)))) (ih x1 (x2 ||| 0) (x3 + 1) μ3z h)
        · replace h := it_t g6 h
          refine sm_iconst dX12_leads_42 ic_1 ?_
          refine sm_aload_n dX12_leads_43 rfl rfl ?_
          refine sm_getR dX12_leads_44 fg_RX12_61 k_355 (rf_12_32 k_355) ?_
          refine sm_iload_n dX12_leads_47 rfl rfl ?_
          refine sm_iload_n dX12_leads_48 rfl rfl ?_
          obtain ⟨t49, μ4z, g7, h⟩ := ob_some h
          refine sm_callS dX12_leads_49 cs_X12_whatOf ml_RX12_313 (as := [av_r 368, av_i x1, av_i x3]) rfl (Nat.le_of_ble_eq_true rfl) rfl (s_Mo_whatOf (D := d) (by omega) N k_368 g7) (fun r9 μ9 hp => ?_)
          rw [hp.1, hp.2]
          clear hp r9 μ9
          refine sm_ishl dX12_leads_52 ?_
          refine sm_goto (tgt := 57) dX12_leads_53 (by decide) ?_
          refine sm_ior dX12_leads_57 ?_
          refine sm_istore_n dX12_leads_58 rfl (Nat.le_of_ble_eq_true rfl) (pv_i rfl) ?_
          refine sm_iinc dX12_leads_59 rfl (congrArg (HAdd.hAdd x3) ic_1) (Nat.le_of_ble_eq_true rfl) (pv_i rfl) ?_
          refine sm_goto (tgt := 4) dX12_leads_62 (by decide) ?_
          exact Sm_weak (le_s rfl (le_s rfl (le_s rfl (le_s rfl le_0)))) (ih x1 (x2 ||| ((1 : Int32) <<< (t49 &&& 31))) (x3 + 1) μ4z h)
set_option maxRecDepth 100000 in
set_option maxHeartbeats 4000000 in
theorem s_Mo_leads {D : Nat} (hD : 1 ≤ D) (N : Nat) {x1 : Int32} {μ : MM} {r : Int32} {μr : MM} (h : f_Mo_leads N x1 μ = some (r, μr)) : Cl D mX12_leads [av_r 355, av_i x1] μ (po_i r μr) := by
  obtain ⟨d, rfl⟩ : ∃ d, D = d + 1 := ⟨D - 1, by omega⟩
  refine Cl_of pn_X12 (Nat.le_of_ble_eq_true rfl) ?_
  show Sm (d + 1) mX12_leads 0 [some (av_r 355), some (av_i x1), none, none] [] μ (po_i r μr)
  unfold f_Mo_leads at h
  refine sm_iconst dX12_leads_0 ic_0 ?_
  refine sm_istore_n dX12_leads_1 rfl (Nat.le_of_ble_eq_true rfl) (pv_i rfl) ?_
  refine sm_iconst dX12_leads_2 ic_0 ?_
  refine sm_istore_n dX12_leads_3 rfl (Nat.le_of_ble_eq_true rfl) (pv_i rfl) ?_
  exact Sm_weak (le_s rfl (le_s rfl (le_s rfl (le_s rfl le_0)))) (s_Mo_leads_L4 hD N N x1 0 0 μ h)
set_option maxRecDepth 100000 in
set_option maxHeartbeats 4000000 in
theorem s_Mo_round_L47 {D : Nat} (hD : 2 ≤ D) (N : Nat) {r : Int32} {μr : MM} {k18 : Int32 → Int32 → MM → Option (Int32 × MM)} (hk18 : ∀ (x1 : Int32) (x2 : Int32) (μ : MM), k18 x1 x2 μ = some (r, μr) → Sm D mX12_round 18 [some (av_r 355), some (av_i x1), some (av_i x2), none, none, none] [] μ (po_i r μr)) {k35 : Int32 → Int32 → Int32 → Int32 → MM → Option (Int32 × MM)} (hk35 : ∀ (x1 : Int32) (x2 : Int32) (x3 : Int32) (x4 : Int32) (μ : MM), k35 x1 x2 x3 x4 μ = some (r, μr) → Sm D mX12_round 35 [some (av_r 355), some (av_i x1), some (av_i x2), some (av_i x3), some (av_i x4), none] [] μ (po_i r μr)) : ∀ (n : Nat) (x1 : Int32) (x2 : Int32) (x3 : Int32) (x4 : Int32) (x5 : Int32) (μ : MM), f_Mo_round_L47 N k18 k35 n x1 x2 x3 x4 x5 μ = some (r, μr) → Sm D mX12_round 47 [some (av_r 355), some (av_i x1), some (av_i x2), some (av_i x3), some (av_i x4), some (av_i x5)] [] μ (po_i r μr) := by
  obtain ⟨d, rfl⟩ : ∃ d, D = d + 1 := ⟨D - 1, by omega⟩
  intro n
  induction n with
  | zero => intro x1 x2 x3 x4 x5 μ h; cases (show none = some (r, μr) from h)
  | succ n ih =>
    intro x1 x2 x3 x4 x5 μ h
    rw [f_Mo_round_L47] at h
    refine sm_iload dX12_round_47 rfl ?_
    refine sm_aload_n dX12_round_49 rfl rfl ?_
    refine sm_getI dX12_round_50 fg_RX12_297 k_355 ?_
    refine sm_icmp_ge (tgt := 84) dX12_round_53 (by decide) (fun g6 => ?_) (fun g6 => ?_)
    · replace h := it_t g6 h
      refine sm_iinc dX12_round_84 rfl (congrArg (HAdd.hAdd x4) ic_1) (Nat.le_of_ble_eq_true rfl) (pv_i rfl) ?_
      refine sm_goto (tgt := 35) dX12_round_87 (by decide) ?_
      exact Sm_weak (le_s rfl (le_s rfl (le_s rfl (le_s rfl (le_s rfl (le_n le_0)))))) (hk35 x1 x2 x3 (x4 + 1) μ h)
    · replace h := it_f g6 h
      refine sm_iload_n dX12_round_56 rfl rfl ?_
      refine sm_iload_n dX12_round_57 rfl rfl ?_
      refine sm_iload dX12_round_58 rfl ?_
      obtain ⟨t60, μ4z, g7, h⟩ := ob_some h
      refine sm_callS dX12_round_60 cs_X12_has ml_RX12_224 (as := [av_i x3, av_i x5]) rfl (Nat.le_of_ble_eq_true rfl) rfl (s_Mo_has (D := d) (by omega) N g7) (fun r9 μ9 hp => ?_)
      rw [hp.1, hp.2]
      clear hp r9 μ9
      refine sm_if_eq (tgt := 75) dX12_round_63 (by decide) (fun g8 => ?_) (fun g8 => ?_)
      · replace h := it_t g8 h
        refine sm_iconst dX12_round_75 ic_0 ?_
        refine sm_ior dX12_round_76 ?_
        refine sm_istore_n dX12_round_77 rfl (Nat.le_of_ble_eq_true rfl) (pv_i rfl) ?_
        refine sm_iinc dX12_round_78 rfl (congrArg (HAdd.hAdd x5) ic_1) (Nat.le_of_ble_eq_true rfl) (pv_i rfl) ?_
        refine sm_goto (tgt := 47) dX12_round_81 (by decide) ?_
        exact Sm_weak (le_s rfl (le_s rfl (le_s rfl (le_s rfl (le_s rfl (le_s rfl le_0)))))) (ih x1 x2 (x3 ||| 0) x4 (x5 + 1) μ4z h)
      · replace h := it_f g8 h
        refine sm_aload_n dX12_round_66 rfl rfl ?_
        refine sm_iload dX12_round_67 rfl ?_
        obtain ⟨t69, μ5z, g9, h⟩ := ob_some h
        refine sm_callV dX12_round_69 cv_X12_leads ml_RX12_448 k_355 rfl rfl (by decide) (as := [av_i x5]) rfl (Nat.le_of_ble_eq_true rfl) rfl (s_Mo_leads (D := d) (by omega) N g9) (fun r9 μ9 hp => ?_)
        rw [hp.1, hp.2]
        clear hp r9 μ9
        refine sm_goto (tgt := 76) dX12_round_72 (by decide) ?_
        refine sm_ior dX12_round_76 ?_
        refine sm_istore_n dX12_round_77 rfl (Nat.le_of_ble_eq_true rfl) (pv_i rfl) ?_
        refine sm_iinc dX12_round_78 rfl (congrArg (HAdd.hAdd x5) ic_1) (Nat.le_of_ble_eq_true rfl) (pv_i rfl) ?_
        refine sm_goto (tgt := 47) dX12_round_81 (by decide) ?_
        exact Sm_weak (le_s rfl (le_s rfl (le_s rfl (le_s rfl (le_s rfl (le_s rfl le_0)))))) (ih x1 x2 (x3 ||| t69) x4 (x5 + 1) μ5z h)
set_option maxRecDepth 100000 in
set_option maxHeartbeats 4000000 in
theorem s_Mo_round_L35 {D : Nat} (hD : 2 ≤ D) (N : Nat) {r : Int32} {μr : MM} {k18 : Int32 → Int32 → MM → Option (Int32 × MM)} (hk18 : ∀ (x1 : Int32) (x2 : Int32) (μ : MM), k18 x1 x2 μ = some (r, μr) → Sm D mX12_round 18 [some (av_r 355), some (av_i x1), some (av_i x2), none, none, none] [] μ (po_i r μr)) : ∀ (n : Nat) (x1 : Int32) (x2 : Int32) (x3 : Int32) (x4 : Int32) (μ : MM), f_Mo_round_L35 N k18 n x1 x2 x3 x4 μ = some (r, μr) → Sm D mX12_round 35 [some (av_r 355), some (av_i x1), some (av_i x2), some (av_i x3), some (av_i x4), none] [] μ (po_i r μr) := by
  obtain ⟨d, rfl⟩ : ∃ d, D = d + 1 := ⟨D - 1, by omega⟩
  intro n
  induction n with
  | zero => intro x1 x2 x3 x4 μ h; cases (show none = some (r, μr) from h)
  | succ n ih =>
    intro x1 x2 x3 x4 μ h
    rw [f_Mo_round_L35] at h
    refine sm_iload dX12_round_35 rfl ?_
    refine sm_aload_n dX12_round_37 rfl rfl ?_
    refine sm_getI dX12_round_38 fg_RX12_297 k_355 ?_
    refine sm_icmp_ge (tgt := 90) dX12_round_41 (by decide) (fun g4 => ?_) (fun g4 => ?_)
    · replace h := it_t g4 h
      refine sm_iload_n dX12_round_90 rfl rfl ?_
      refine sm_iload_n dX12_round_91 rfl rfl ?_
      refine sm_iload_n dX12_round_92 rfl rfl ?_
      obtain ⟨t93, μ3z, g5, h⟩ := ob_some h
      refine sm_callS dX12_round_93 cs_X12_has ml_RX12_224 (as := [av_i x3, av_i x2]) rfl (Nat.le_of_ble_eq_true rfl) rfl (s_Mo_has (D := d) (by omega) N g5) (fun r9 μ9 hp => ?_)
      rw [hp.1, hp.2]
      clear hp r9 μ9
      have hj96 : ∀ (v96_0 : Int32), v96_0 = (if t93 = 0 then (0 : Int32) else ((1 : Int32) <<< (x2 &&& 31))) → Sm (d + 1) mX12_round 106 [some (av_r 355), none, some (av_i x2), none, none, none] [av_i v96_0, av_i x1] μ3z (po_i r μr) := by
        intro v96_0 ev96_0
        subst ev96_0
        refine sm_ior dX12_round_106 ?_
        refine sm_istore_n dX12_round_107 rfl (Nat.le_of_ble_eq_true rfl) (pv_r rfl) ?_
        refine sm_iinc dX12_round_108 rfl (congrArg (HAdd.hAdd x2) ic_1) (Nat.le_of_ble_eq_true rfl) (pv_i rfl) ?_
        refine sm_goto (tgt := 18) dX12_round_111 (by decide) ?_
        exact Sm_weak (le_s rfl (le_s rfl (le_s rfl (le_n (le_n (le_n le_0)))))) (hk18 (x1 ||| (if t93 = 0 then (0 : Int32) else ((1 : Int32) <<< (x2 &&& 31)))) (x2 + 1) μ3z h)
      refine sm_if_eq (tgt := 105) dX12_round_96 (by decide) (fun c96_0 => ?_) (fun c96_0 => ?_)
      · refine sm_iconst dX12_round_105 ic_0 ?_
        exact Sm_weak (le_s rfl (le_n (le_s rfl (le_n (le_n (le_n le_0)))))) (hj96 _ (if_pos c96_0).symm)
      · refine sm_iconst dX12_round_99 ic_1 ?_
        refine sm_iload_n dX12_round_100 rfl rfl ?_
        refine sm_ishl dX12_round_101 ?_
        refine sm_goto (tgt := 106) dX12_round_102 (by decide) ?_
        exact Sm_weak (le_s rfl (le_n (le_s rfl (le_n (le_n (le_n le_0)))))) (hj96 _ (if_neg c96_0).symm)
    · replace h := it_f g4 h
      refine sm_iconst dX12_round_44 ic_0 ?_
      refine sm_istore dX12_round_45 (Nat.le_of_ble_eq_true rfl) (pv_i rfl) ?_
      exact Sm_weak (le_s rfl (le_s rfl (le_s rfl (le_s rfl (le_s rfl (le_s rfl le_0)))))) (s_Mo_round_L47 hD N hk18 ih N x1 x2 x3 x4 0 μ h)
set_option maxRecDepth 100000 in
set_option maxHeartbeats 4000000 in
theorem s_Mo_round_L18 {D : Nat} (hD : 2 ≤ D) (N : Nat) {r : Int32} {μr : MM} : ∀ (n : Nat) (x1 : Int32) (x2 : Int32) (μ : MM), f_Mo_round_L18 N n x1 x2 μ = some (r, μr) → Sm D mX12_round 18 [some (av_r 355), some (av_i x1), some (av_i x2), none, none, none] [] μ (po_i r μr) := by
  obtain ⟨d, rfl⟩ : ∃ d, D = d + 1 := ⟨D - 1, by omega⟩
  intro n
  induction n with
  | zero => intro x1 x2 μ h; cases (show none = some (r, μr) from h)
  | succ n ih =>
    intro x1 x2 μ h
    rw [f_Mo_round_L18] at h
    refine sm_iload_n dX12_round_18 rfl rfl ?_
    refine sm_aload_n dX12_round_19 rfl rfl ?_
    refine sm_getI dX12_round_20 fg_RX12_297 k_355 ?_
    refine sm_icmp_ge (tgt := 114) dX12_round_23 (by decide) (fun g2 => ?_) (fun g2 => ?_)
    · replace h := it_t g2 h
      refine sm_iload_n dX12_round_114 rfl rfl ?_
      cases h
      exact sm_ret_i (st := []) dX12_round_115 rfl ⟨rfl, rfl⟩
    · replace h := it_f g2 h
      refine sm_aload_n dX12_round_26 rfl rfl ?_
      refine sm_iload_n dX12_round_27 rfl rfl ?_
      obtain ⟨t28, μ2z, g3, h⟩ := ob_some h
      refine sm_callV dX12_round_28 cv_X12_leads ml_RX12_448 k_355 rfl rfl (by decide) (as := [av_i x2]) rfl (Nat.le_of_ble_eq_true rfl) rfl (s_Mo_leads (D := d) (by omega) N g3) (fun r9 μ9 hp => ?_)
      rw [hp.1, hp.2]
      clear hp r9 μ9
      refine sm_istore_n dX12_round_31 rfl (Nat.le_of_ble_eq_true rfl) (pv_i rfl) ?_
      refine sm_iconst dX12_round_32 ic_0 ?_
      refine sm_istore dX12_round_33 (Nat.le_of_ble_eq_true rfl) (pv_i rfl) ?_
      exact Sm_weak (le_s rfl (le_s rfl (le_s rfl (le_s rfl (le_s rfl (le_n le_0)))))) (s_Mo_round_L35 hD N ih N x1 x2 t28 0 μ2z h)
set_option maxRecDepth 100000 in
set_option maxHeartbeats 4000000 in
theorem s_Mo_round {D : Nat} (hD : 2 ≤ D) (N : Nat) {μ : MM} {r : Int32} {μr : MM} (h : f_Mo_round N μ = some (r, μr)) : Cl D mX12_round [av_r 355] μ (po_i r μr) := by
  obtain ⟨d, rfl⟩ : ∃ d, D = d + 1 := ⟨D - 1, by omega⟩
  refine Cl_of pn_X12 (Nat.le_of_ble_eq_true rfl) ?_
  show Sm (d + 1) mX12_round 0 [some (av_r 355), none, none, none, none, none] [] μ (po_i r μr)
  unfold f_Mo_round at h
  refine sm_aload_n dX12_round_0 rfl rfl ?_
  refine sm_iconst dX12_round_1 ic_0 ?_
  refine sm_putI dX12_round_2 fp_RX12_91 k_355 ?_
  replace h := wr_some h
  refine sm_aload_n dX12_round_5 rfl rfl ?_
  refine sm_getI dX12_round_6 fg_RX12_297 k_355 ?_
  refine sm_if_ne (tgt := 14) dX12_round_9 (by decide) (fun g1 => ?_) (fun g1 => ?_)
  · replace h := it_f g1 h
    refine sm_iconst dX12_round_14 ic_0 ?_
    refine sm_istore_n dX12_round_15 rfl (Nat.le_of_ble_eq_true rfl) (pv_r rfl) ?_
    refine sm_iconst dX12_round_16 ic_0 ?_
    refine sm_istore_n dX12_round_17 rfl (Nat.le_of_ble_eq_true rfl) (pv_i rfl) ?_
    exact Sm_weak (le_s rfl (le_s rfl (le_s rfl (le_n (le_n (le_n le_0)))))) (s_Mo_round_L18 hD N N 0 0 (mm_I μ 355 0 0) h)
  · replace h := it_t g1 h
    refine sm_iconst dX12_round_12 ic_m1 ?_
    cases h
    exact sm_ret_i (st := []) dX12_round_13 rfl ⟨rfl, rfl⟩
set_option maxRecDepth 100000 in
set_option maxHeartbeats 4000000 in
theorem s_Mo_nowhere_L18 {D : Nat} (hD : 2 ≤ D) (N : Nat) {r : Int32} {μr : MM} : ∀ (n : Nat) (x1 : Int32) (x2 : Int32) (μ : MM), f_Mo_nowhere_L18 N n x1 x2 μ = some (r, μr) → Sm D mX12_nowhere 18 [some (av_r 355), some (av_i x1), some (av_i x2)] [] μ (po_i r μr) := by
  obtain ⟨d, rfl⟩ : ∃ d, D = d + 1 := ⟨D - 1, by omega⟩
  intro n
  induction n with
  | zero => intro x1 x2 μ h; cases (show none = some (r, μr) from h)
  | succ n ih =>
    intro x1 x2 μ h
    rw [f_Mo_nowhere_L18] at h
    refine sm_iload_n dX12_nowhere_18 rfl rfl ?_
    refine sm_aload_n dX12_nowhere_19 rfl rfl ?_
    refine sm_getI dX12_nowhere_20 fg_RX12_297 k_355 ?_
    refine sm_icmp_ge (tgt := 55) dX12_nowhere_23 (by decide) (fun g2 => ?_) (fun g2 => ?_)
    · replace h := it_t g2 h
      refine sm_iload_n dX12_nowhere_55 rfl rfl ?_
      cases h
      exact sm_ret_i (st := []) dX12_nowhere_56 rfl ⟨rfl, rfl⟩
    · replace h := it_f g2 h
      refine sm_iload_n dX12_nowhere_26 rfl rfl ?_
      refine sm_aload_n dX12_nowhere_27 rfl rfl ?_
      refine sm_iload_n dX12_nowhere_28 rfl rfl ?_
      obtain ⟨t29, μ2z, g3, h⟩ := ob_some h
      refine sm_callV dX12_nowhere_29 cv_X12_leads ml_RX12_448 k_355 rfl rfl (by decide) (as := [av_i x2]) rfl (Nat.le_of_ble_eq_true rfl) rfl (s_Mo_leads (D := d) (by omega) N g3) (fun r9 μ9 hp => ?_)
      rw [hp.1, hp.2]
      clear hp r9 μ9
      refine sm_aload_n dX12_nowhere_32 rfl rfl ?_
      refine sm_getI dX12_nowhere_33 fg_RX12_297 k_355 ?_
      refine sm_ishr dX12_nowhere_36 ?_
      have hj37 : ∀ (v37_0 : Int32), v37_0 = (if (t29 >>> ((μ2z.1 355 27) &&& 31)) = 0 then (0 : Int32) else ((1 : Int32) <<< (x2 &&& 31))) → Sm (d + 1) mX12_nowhere 47 [some (av_r 355), none, some (av_i x2)] [av_i v37_0, av_i x1] μ2z (po_i r μr) := by
        intro v37_0 ev37_0
        subst ev37_0
        refine sm_ior dX12_nowhere_47 ?_
        refine sm_istore_n dX12_nowhere_48 rfl (Nat.le_of_ble_eq_true rfl) (pv_r rfl) ?_
        refine sm_iinc dX12_nowhere_49 rfl (congrArg (HAdd.hAdd x2) ic_1) (Nat.le_of_ble_eq_true rfl) (pv_i rfl) ?_
        refine sm_goto (tgt := 18) dX12_nowhere_52 (by decide) ?_
        exact Sm_weak (le_s rfl (le_s rfl (le_s rfl le_0))) (ih (x1 ||| (if (t29 >>> ((μ2z.1 355 27) &&& 31)) = 0 then (0 : Int32) else ((1 : Int32) <<< (x2 &&& 31)))) (x2 + 1) μ2z h)
      refine sm_if_eq (tgt := 46) dX12_nowhere_37 (by decide) (fun c37_0 => ?_) (fun c37_0 => ?_)
      · refine sm_iconst dX12_nowhere_46 ic_0 ?_
        exact Sm_weak (le_s rfl (le_n (le_s rfl le_0))) (hj37 _ (if_pos c37_0).symm)
      · refine sm_iconst dX12_nowhere_40 ic_1 ?_
        refine sm_iload_n dX12_nowhere_41 rfl rfl ?_
        refine sm_ishl dX12_nowhere_42 ?_
        refine sm_goto (tgt := 47) dX12_nowhere_43 (by decide) ?_
        exact Sm_weak (le_s rfl (le_n (le_s rfl le_0))) (hj37 _ (if_neg c37_0).symm)
set_option maxRecDepth 100000 in
set_option maxHeartbeats 4000000 in
theorem s_Mo_nowhere {D : Nat} (hD : 2 ≤ D) (N : Nat) {μ : MM} {r : Int32} {μr : MM} (h : f_Mo_nowhere N μ = some (r, μr)) : Cl D mX12_nowhere [av_r 355] μ (po_i r μr) := by
  obtain ⟨d, rfl⟩ : ∃ d, D = d + 1 := ⟨D - 1, by omega⟩
  refine Cl_of pn_X12 (Nat.le_of_ble_eq_true rfl) ?_
  show Sm (d + 1) mX12_nowhere 0 [some (av_r 355), none, none] [] μ (po_i r μr)
  unfold f_Mo_nowhere at h
  refine sm_aload_n dX12_nowhere_0 rfl rfl ?_
  refine sm_iconst dX12_nowhere_1 ic_0 ?_
  refine sm_putI dX12_nowhere_2 fp_RX12_91 k_355 ?_
  replace h := wr_some h
  refine sm_aload_n dX12_nowhere_5 rfl rfl ?_
  refine sm_getI dX12_nowhere_6 fg_RX12_297 k_355 ?_
  refine sm_if_ne (tgt := 14) dX12_nowhere_9 (by decide) (fun g1 => ?_) (fun g1 => ?_)
  · replace h := it_f g1 h
    refine sm_iconst dX12_nowhere_14 ic_0 ?_
    refine sm_istore_n dX12_nowhere_15 rfl (Nat.le_of_ble_eq_true rfl) (pv_r rfl) ?_
    refine sm_iconst dX12_nowhere_16 ic_0 ?_
    refine sm_istore_n dX12_nowhere_17 rfl (Nat.le_of_ble_eq_true rfl) (pv_i rfl) ?_
    exact Sm_weak (le_s rfl (le_s rfl (le_s rfl le_0))) (s_Mo_nowhere_L18 hD N N 0 0 (mm_I μ 355 0 0) h)
  · replace h := it_t g1 h
    refine sm_iconst dX12_nowhere_12 ic_m1 ?_
    cases h
    exact sm_ret_i (st := []) dX12_nowhere_13 rfl ⟨rfl, rfl⟩
set_option maxRecDepth 100000 in
set_option maxHeartbeats 4000000 in
theorem s_Mo_forged_B93 {D : Nat} (hD : 1 ≤ D) (N : Nat) {r : Int32} {μr : MM} {k18 : Int32 → Int32 → MM → Option (Int32 × MM)} (hk18 : ∀ (x1 : Int32) (x2 : Int32) (μ : MM), k18 x1 x2 μ = some (r, μr) → Sm D mX12_forged 18 [some (av_r 355), some (av_i x1), some (av_i x2), none, none, none] [] μ (po_i r μr)) {k34 : Int32 → Int32 → Int32 → Int32 → Int32 → MM → Option (Int32 × MM)} (hk34 : ∀ (x1 : Int32) (x2 : Int32) (x3 : Int32) (x4 : Int32) (x5 : Int32) (μ : MM), k34 x1 x2 x3 x4 x5 μ = some (r, μr) → Sm D mX12_forged 34 [some (av_r 355), some (av_i x1), some (av_i x2), some (av_i x3), some (av_i x4), some (av_i x5)] [] μ (po_i r μr)) (x1 : Int32) (x2 : Int32) (x4 : Int32) (x5 : Int32) (s0 : Int32) (s1 : Int32) (μ : MM) (h : f_Mo_forged_B93 N k18 k34 x1 x2 x4 x5 s0 s1 μ = some (r, μr)) : Sm D mX12_forged 93 [some (av_r 355), some (av_i x1), some (av_i x2), none, some (av_i x4), some (av_i x5)] [av_i s1, av_i s0] μ (po_i r μr) := by
  obtain ⟨d, rfl⟩ : ∃ d, D = d + 1 := ⟨D - 1, by omega⟩
  unfold f_Mo_forged_B93 at h
  refine sm_ior dX12_forged_93 ?_
  refine sm_istore_n dX12_forged_94 rfl (Nat.le_of_ble_eq_true rfl) (pv_i rfl) ?_
  refine sm_iload dX12_forged_95 rfl ?_
  refine sm_aload_n dX12_forged_97 rfl rfl ?_
  refine sm_getR dX12_forged_98 fg_RX12_61 k_355 (rf_12_32 k_355) ?_
  refine sm_iload_n dX12_forged_101 rfl rfl ?_
  refine sm_iload dX12_forged_102 rfl ?_
  obtain ⟨t104, μ5z, g9, h⟩ := ob_some h
  refine sm_callS dX12_forged_104 cs_X12_sortOf ml_RX12_317 (as := [av_r 368, av_i x2, av_i x5]) rfl (Nat.le_of_ble_eq_true rfl) rfl (s_Mo_sortOf (D := d) (by omega) N k_368 g9) (fun r9 μ9 hp => ?_)
  rw [hp.1, hp.2]
  clear hp r9 μ9
  refine sm_iconst dX12_forged_107 ic_1 ?_
  refine sm_icmp_ne (tgt := 126) dX12_forged_108 (by decide) (fun g10 => ?_) (fun g10 => ?_)
  · replace h := it_f g10 h
    refine sm_iconst dX12_forged_126 ic_0 ?_
    refine sm_ior dX12_forged_127 ?_
    refine sm_istore dX12_forged_128 (Nat.le_of_ble_eq_true rfl) (pv_i rfl) ?_
    refine sm_iinc dX12_forged_130 rfl (congrArg (HAdd.hAdd x5) ic_1) (Nat.le_of_ble_eq_true rfl) (pv_i rfl) ?_
    refine sm_goto (tgt := 34) dX12_forged_133 (by decide) ?_
    exact Sm_weak (le_s rfl (le_s rfl (le_s rfl (le_s rfl (le_s rfl (le_s rfl le_0)))))) (hk34 x1 x2 (s0 ||| s1) (x4 ||| 0) (x5 + 1) μ5z h)
  · replace h := it_t g10 h
    refine sm_iconst dX12_forged_111 ic_1 ?_
    refine sm_aload_n dX12_forged_112 rfl rfl ?_
    refine sm_getR dX12_forged_113 fg_RX12_61 k_355 (rf_12_32 k_355) ?_
    refine sm_iload_n dX12_forged_116 rfl rfl ?_
    refine sm_iload dX12_forged_117 rfl ?_
    obtain ⟨t119, μ6z, g11, h⟩ := ob_some h
    refine sm_callS dX12_forged_119 cs_X12_whatOf ml_RX12_313 (as := [av_r 368, av_i x2, av_i x5]) rfl (Nat.le_of_ble_eq_true rfl) rfl (s_Mo_whatOf (D := d) (by omega) N k_368 g11) (fun r9 μ9 hp => ?_)
    rw [hp.1, hp.2]
    clear hp r9 μ9
    refine sm_ishl dX12_forged_122 ?_
    refine sm_goto (tgt := 127) dX12_forged_123 (by decide) ?_
    refine sm_ior dX12_forged_127 ?_
    refine sm_istore dX12_forged_128 (Nat.le_of_ble_eq_true rfl) (pv_i rfl) ?_
    refine sm_iinc dX12_forged_130 rfl (congrArg (HAdd.hAdd x5) ic_1) (Nat.le_of_ble_eq_true rfl) (pv_i rfl) ?_
    refine sm_goto (tgt := 34) dX12_forged_133 (by decide) ?_
    exact Sm_weak (le_s rfl (le_s rfl (le_s rfl (le_s rfl (le_s rfl (le_s rfl le_0)))))) (hk34 x1 x2 (s0 ||| s1) (x4 ||| ((1 : Int32) <<< (t119 &&& 31))) (x5 + 1) μ6z h)
set_option maxRecDepth 100000 in
set_option maxHeartbeats 4000000 in
theorem s_Mo_forged_L34 {D : Nat} (hD : 1 ≤ D) (N : Nat) {r : Int32} {μr : MM} {k18 : Int32 → Int32 → MM → Option (Int32 × MM)} (hk18 : ∀ (x1 : Int32) (x2 : Int32) (μ : MM), k18 x1 x2 μ = some (r, μr) → Sm D mX12_forged 18 [some (av_r 355), some (av_i x1), some (av_i x2), none, none, none] [] μ (po_i r μr)) : ∀ (n : Nat) (x1 : Int32) (x2 : Int32) (x3 : Int32) (x4 : Int32) (x5 : Int32) (μ : MM), f_Mo_forged_L34 N k18 n x1 x2 x3 x4 x5 μ = some (r, μr) → Sm D mX12_forged 34 [some (av_r 355), some (av_i x1), some (av_i x2), some (av_i x3), some (av_i x4), some (av_i x5)] [] μ (po_i r μr) := by
  obtain ⟨d, rfl⟩ : ∃ d, D = d + 1 := ⟨D - 1, by omega⟩
  intro n
  induction n with
  | zero => intro x1 x2 x3 x4 x5 μ h; cases (show none = some (r, μr) from h)
  | succ n ih =>
    intro x1 x2 x3 x4 x5 μ h
    rw [f_Mo_forged_L34] at h
    refine sm_iload dX12_forged_34 rfl ?_
    refine sm_aload_n dX12_forged_36 rfl rfl ?_
    refine sm_getR dX12_forged_37 fg_RX12_61 k_355 (rf_12_32 k_355) ?_
    refine sm_iload_n dX12_forged_40 rfl rfl ?_
    obtain ⟨t41, μ2z, g3, h⟩ := ob_some h
    refine sm_callS dX12_forged_41 cs_X12_wordsOf ml_RX12_323 (as := [av_r 368, av_i x2]) rfl (Nat.le_of_ble_eq_true rfl) rfl (s_Mo_wordsOf (D := d) (by omega) N k_368 g3) (fun r9 μ9 hp => ?_)
    rw [hp.1, hp.2]
    clear hp r9 μ9
    refine sm_icmp_ge (tgt := 136) dX12_forged_44 (by decide) (fun g4 => ?_) (fun g4 => ?_)
    · replace h := it_t g4 h
      refine sm_iload_n dX12_forged_136 rfl rfl ?_
      refine sm_iload_n dX12_forged_137 rfl rfl ?_
      refine sm_iload dX12_forged_138 rfl ?_
      refine sm_iand dX12_forged_140 ?_
      have hj141 : ∀ (v141_0 : Int32), v141_0 = (if (x3 &&& x4) = 0 then (0 : Int32) else ((1 : Int32) <<< (x2 &&& 31))) → Sm (d + 1) mX12_forged 151 [some (av_r 355), none, some (av_i x2), none, none, none] [av_i v141_0, av_i x1] μ2z (po_i r μr) := by
        intro v141_0 ev141_0
        subst ev141_0
        refine sm_ior dX12_forged_151 ?_
        refine sm_istore_n dX12_forged_152 rfl (Nat.le_of_ble_eq_true rfl) (pv_r rfl) ?_
        refine sm_iinc dX12_forged_153 rfl (congrArg (HAdd.hAdd x2) ic_1) (Nat.le_of_ble_eq_true rfl) (pv_i rfl) ?_
        refine sm_goto (tgt := 18) dX12_forged_156 (by decide) ?_
        exact Sm_weak (le_s rfl (le_s rfl (le_s rfl (le_n (le_n (le_n le_0)))))) (hk18 (x1 ||| (if (x3 &&& x4) = 0 then (0 : Int32) else ((1 : Int32) <<< (x2 &&& 31)))) (x2 + 1) μ2z h)
      refine sm_if_eq (tgt := 150) dX12_forged_141 (by decide) (fun c141_0 => ?_) (fun c141_0 => ?_)
      · refine sm_iconst dX12_forged_150 ic_0 ?_
        exact Sm_weak (le_s rfl (le_n (le_s rfl (le_n (le_n (le_n le_0)))))) (hj141 _ (if_pos c141_0).symm)
      · refine sm_iconst dX12_forged_144 ic_1 ?_
        refine sm_iload_n dX12_forged_145 rfl rfl ?_
        refine sm_ishl dX12_forged_146 ?_
        refine sm_goto (tgt := 151) dX12_forged_147 (by decide) ?_
        exact Sm_weak (le_s rfl (le_n (le_s rfl (le_n (le_n (le_n le_0)))))) (hj141 _ (if_neg c141_0).symm)
    · replace h := it_f g4 h
      refine sm_aload_n dX12_forged_47 rfl rfl ?_
      refine sm_getR dX12_forged_48 fg_RX12_61 k_355 (rf_12_32 k_355) ?_
      refine sm_iload_n dX12_forged_51 rfl rfl ?_
      refine sm_iload dX12_forged_52 rfl ?_
      obtain ⟨t54, μ3z, g5, h⟩ := ob_some h
      refine sm_callS dX12_forged_54 cs_X12_inkOf ml_RX12_327 (as := [av_r 368, av_i x2, av_i x5]) rfl (Nat.le_of_ble_eq_true rfl) rfl (s_Mo_inkOf (D := d) (by omega) N k_368 g5) (fun r9 μ9 hp => ?_)
      rw [hp.1, hp.2]
      clear hp r9 μ9
      refine sm_if_ne (tgt := 63) dX12_forged_57 (by decide) (fun g6 => ?_) (fun g6 => ?_)
      · replace h := it_f g6 h
        refine sm_iload_n dX12_forged_63 rfl rfl ?_
        refine sm_aload_n dX12_forged_64 rfl rfl ?_
        refine sm_getR dX12_forged_65 fg_RX12_61 k_355 (rf_12_32 k_355) ?_
        refine sm_iload_n dX12_forged_68 rfl rfl ?_
        refine sm_iload dX12_forged_69 rfl ?_
        obtain ⟨t71, μ4z, g7, h⟩ := ob_some h
        refine sm_callS dX12_forged_71 cs_X12_sortOf ml_RX12_317 (as := [av_r 368, av_i x2, av_i x5]) rfl (Nat.le_of_ble_eq_true rfl) rfl (s_Mo_sortOf (D := d) (by omega) N k_368 g7) (fun r9 μ9 hp => ?_)
        rw [hp.1, hp.2]
        clear hp r9 μ9
        refine sm_if_ne (tgt := 92) dX12_forged_74 (by decide) (fun g8 => ?_) (fun g8 => ?_)
        · replace h := it_f g8 h
          refine sm_iconst dX12_forged_92 ic_0 ?_
          exact Sm_weak (le_s rfl (le_s rfl (le_s rfl (le_n (le_s rfl (le_s rfl le_0)))))) (s_Mo_forged_B93 hD N hk18 ih x1 x2 x4 x5 x3 0 μ4z h)
        · replace h := it_t g8 h
          refine sm_iconst dX12_forged_77 ic_1 ?_
          refine sm_aload_n dX12_forged_78 rfl rfl ?_
          refine sm_getR dX12_forged_79 fg_RX12_61 k_355 (rf_12_32 k_355) ?_
          refine sm_iload_n dX12_forged_82 rfl rfl ?_
          refine sm_iload dX12_forged_83 rfl ?_
          obtain ⟨t85, μ7z, g12, h⟩ := ob_some h
          refine sm_callS dX12_forged_85 cs_X12_whatOf ml_RX12_313 (as := [av_r 368, av_i x2, av_i x5]) rfl (Nat.le_of_ble_eq_true rfl) rfl (s_Mo_whatOf (D := d) (by omega) N k_368 g12) (fun r9 μ9 hp => ?_)
          rw [hp.1, hp.2]
          clear hp r9 μ9
          refine sm_ishl dX12_forged_88 ?_
          refine sm_goto (tgt := 93) dX12_forged_89 (by decide) ?_
          exact Sm_weak (le_s rfl (le_s rfl (le_s rfl (le_n (le_s rfl (le_s rfl le_0)))))) (s_Mo_forged_B93 hD N hk18 ih x1 x2 x4 x5 x3 ((1 : Int32) <<< (t85 &&& 31)) μ7z h)
      · replace h := it_t g6 h
        refine sm_goto (tgt := 130) dX12_forged_60 (by decide) ?_
        refine sm_iinc dX12_forged_130 rfl (congrArg (HAdd.hAdd x5) ic_1) (Nat.le_of_ble_eq_true rfl) (pv_i rfl) ?_
        refine sm_goto (tgt := 34) dX12_forged_133 (by decide) ?_
        exact Sm_weak (le_s rfl (le_s rfl (le_s rfl (le_s rfl (le_s rfl (le_s rfl le_0)))))) (ih x1 x2 x3 x4 (x5 + 1) μ3z h)
set_option maxRecDepth 100000 in
set_option maxHeartbeats 4000000 in
theorem s_Mo_forged_L18 {D : Nat} (hD : 1 ≤ D) (N : Nat) {r : Int32} {μr : MM} : ∀ (n : Nat) (x1 : Int32) (x2 : Int32) (μ : MM), f_Mo_forged_L18 N n x1 x2 μ = some (r, μr) → Sm D mX12_forged 18 [some (av_r 355), some (av_i x1), some (av_i x2), none, none, none] [] μ (po_i r μr) := by
  obtain ⟨d, rfl⟩ : ∃ d, D = d + 1 := ⟨D - 1, by omega⟩
  intro n
  induction n with
  | zero => intro x1 x2 μ h; cases (show none = some (r, μr) from h)
  | succ n ih =>
    intro x1 x2 μ h
    rw [f_Mo_forged_L18] at h
    refine sm_iload_n dX12_forged_18 rfl rfl ?_
    refine sm_aload_n dX12_forged_19 rfl rfl ?_
    refine sm_getI dX12_forged_20 fg_RX12_297 k_355 ?_
    refine sm_icmp_ge (tgt := 159) dX12_forged_23 (by decide) (fun g2 => ?_) (fun g2 => ?_)
    · replace h := it_t g2 h
      refine sm_iload_n dX12_forged_159 rfl rfl ?_
      cases h
      exact sm_ret_i (st := []) dX12_forged_160 rfl ⟨rfl, rfl⟩
    · replace h := it_f g2 h
      refine sm_iconst dX12_forged_26 ic_0 ?_
      refine sm_istore_n dX12_forged_27 rfl (Nat.le_of_ble_eq_true rfl) (pv_i rfl) ?_
      refine sm_iconst dX12_forged_28 ic_0 ?_
      refine sm_istore dX12_forged_29 (Nat.le_of_ble_eq_true rfl) (pv_i rfl) ?_
      refine sm_iconst dX12_forged_31 ic_0 ?_
      refine sm_istore dX12_forged_32 (Nat.le_of_ble_eq_true rfl) (pv_i rfl) ?_
      exact Sm_weak (le_s rfl (le_s rfl (le_s rfl (le_s rfl (le_s rfl (le_s rfl le_0)))))) (s_Mo_forged_L34 hD N ih N x1 x2 0 0 0 μ h)
set_option maxRecDepth 100000 in
set_option maxHeartbeats 4000000 in
theorem s_Mo_forged {D : Nat} (hD : 1 ≤ D) (N : Nat) {μ : MM} {r : Int32} {μr : MM} (h : f_Mo_forged N μ = some (r, μr)) : Cl D mX12_forged [av_r 355] μ (po_i r μr) := by
  obtain ⟨d, rfl⟩ : ∃ d, D = d + 1 := ⟨D - 1, by omega⟩
  refine Cl_of pn_X12 (Nat.le_of_ble_eq_true rfl) ?_
  show Sm (d + 1) mX12_forged 0 [some (av_r 355), none, none, none, none, none] [] μ (po_i r μr)
  unfold f_Mo_forged at h
  refine sm_aload_n dX12_forged_0 rfl rfl ?_
  refine sm_iconst dX12_forged_1 ic_0 ?_
  refine sm_putI dX12_forged_2 fp_RX12_91 k_355 ?_
  replace h := wr_some h
  refine sm_aload_n dX12_forged_5 rfl rfl ?_
  refine sm_getI dX12_forged_6 fg_RX12_297 k_355 ?_
  refine sm_if_ne (tgt := 14) dX12_forged_9 (by decide) (fun g1 => ?_) (fun g1 => ?_)
  · replace h := it_f g1 h
    refine sm_iconst dX12_forged_14 ic_0 ?_
    refine sm_istore_n dX12_forged_15 rfl (Nat.le_of_ble_eq_true rfl) (pv_r rfl) ?_
    refine sm_iconst dX12_forged_16 ic_0 ?_
    refine sm_istore_n dX12_forged_17 rfl (Nat.le_of_ble_eq_true rfl) (pv_i rfl) ?_
    exact Sm_weak (le_s rfl (le_s rfl (le_s rfl (le_n (le_n (le_n le_0)))))) (s_Mo_forged_L18 hD N N 0 0 (mm_I μ 355 0 0) h)
  · replace h := it_t g1 h
    refine sm_iconst dX12_forged_12 ic_m1 ?_
    cases h
    exact sm_ret_i (st := []) dX12_forged_13 rfl ⟨rfl, rfl⟩
set_option maxRecDepth 100000 in
set_option maxHeartbeats 4000000 in
theorem s_Mo_alone_L50 {D : Nat} (hD : 1 ≤ D) (N : Nat) {r : Int32} {μr : MM} {k19 : Int32 → Int32 → Int32 → MM → Option (Int32 × MM)} (hk19 : ∀ (x1 : Int32) (x2 : Int32) (x3 : Int32) (μ : MM), k19 x1 x2 x3 μ = some (r, μr) → Sm D mX12_alone 19 [some (av_r 355), some (av_i x1), some (av_i x2), some (av_i x3), none, none] [] μ (po_i r μr)) : ∀ (n : Nat) (x1 : Int32) (x2 : Int32) (x3 : Int32) (x4 : Int32) (x5 : Int32) (μ : MM), f_Mo_alone_L50 N k19 n x1 x2 x3 x4 x5 μ = some (r, μr) → Sm D mX12_alone 50 [some (av_r 355), some (av_i x1), some (av_i x2), some (av_i x3), some (av_i x4), some (av_i x5)] [] μ (po_i r μr) := by
  obtain ⟨d, rfl⟩ : ∃ d, D = d + 1 := ⟨D - 1, by omega⟩
  intro n
  induction n with
  | zero => intro x1 x2 x3 x4 x5 μ h; cases (show none = some (r, μr) from h)
  | succ n ih =>
    intro x1 x2 x3 x4 x5 μ h
    rw [f_Mo_alone_L50] at h
    refine sm_iload dX12_alone_50 rfl ?_
    refine sm_aload_n dX12_alone_52 rfl rfl ?_
    refine sm_getI dX12_alone_53 fg_RX12_294 k_355 ?_
    refine sm_icmp_ge (tgt := 100) dX12_alone_56 (by decide) (fun g5 => ?_) (fun g5 => ?_)
    · replace h := it_t g5 h
      refine sm_iload dX12_alone_100 rfl ?_
      have hj102 : ∀ (v102_0 : Int32), v102_0 = (if x4 = 0 then x2 else x3) → Sm (d + 1) mX12_alone 107 [some (av_r 355), some (av_i x1), some (av_i v102_0), some (av_i x3), none, none] [] μ (po_i r μr) := by
        intro v102_0 ev102_0
        subst ev102_0
        refine sm_iinc dX12_alone_107 rfl (congrArg (HAdd.hAdd x3) ic_1) (Nat.le_of_ble_eq_true rfl) (pv_i rfl) ?_
        refine sm_goto (tgt := 19) dX12_alone_110 (by decide) ?_
        exact Sm_weak (le_s rfl (le_s rfl (le_s rfl (le_s rfl (le_n (le_n le_0)))))) (hk19 x1 (if x4 = 0 then x2 else x3) (x3 + 1) μ h)
      refine sm_if_eq (tgt := 107) dX12_alone_102 (by decide) (fun c102_0 => ?_) (fun c102_0 => ?_)
      · exact Sm_weak (le_s rfl (le_s rfl (le_s rfl (le_s rfl (le_n (le_n le_0)))))) (hj102 _ (if_pos c102_0).symm)
      · refine sm_iload_n dX12_alone_105 rfl rfl ?_
        refine sm_istore_n dX12_alone_106 rfl (Nat.le_of_ble_eq_true rfl) (pv_i rfl) ?_
        exact Sm_weak (le_s rfl (le_s rfl (le_s rfl (le_s rfl (le_n (le_n le_0)))))) (hj102 _ (if_neg c102_0).symm)
    · replace h := it_f g5 h
      refine sm_iload dX12_alone_59 rfl ?_
      refine sm_if_eq (tgt := 91) dX12_alone_61 (by decide) (fun g6 => ?_) (fun g6 => ?_)
      · replace h := it_t g6 h
        refine sm_iconst dX12_alone_91 ic_0 ?_
        refine sm_istore dX12_alone_92 (Nat.le_of_ble_eq_true rfl) (pv_i rfl) ?_
        refine sm_iinc dX12_alone_94 rfl (congrArg (HAdd.hAdd x5) ic_1) (Nat.le_of_ble_eq_true rfl) (pv_i rfl) ?_
        refine sm_goto (tgt := 50) dX12_alone_97 (by decide) ?_
        exact Sm_weak (le_s rfl (le_s rfl (le_s rfl (le_s rfl (le_s rfl (le_s rfl le_0)))))) (ih x1 x2 x3 0 (x5 + 1) μ h)
      · replace h := it_f g6 h
        refine sm_iload dX12_alone_64 rfl ?_
        refine sm_iload_n dX12_alone_66 rfl rfl ?_
        refine sm_icmp_eq (tgt := 87) dX12_alone_67 (by decide) (fun g7 => ?_) (fun g7 => ?_)
        · replace h := it_t g7 h
          refine sm_iconst dX12_alone_87 ic_1 ?_
          refine sm_goto (tgt := 92) dX12_alone_88 (by decide) ?_
          refine sm_istore dX12_alone_92 (Nat.le_of_ble_eq_true rfl) (pv_i rfl) ?_
          refine sm_iinc dX12_alone_94 rfl (congrArg (HAdd.hAdd x5) ic_1) (Nat.le_of_ble_eq_true rfl) (pv_i rfl) ?_
          refine sm_goto (tgt := 50) dX12_alone_97 (by decide) ?_
          exact Sm_weak (le_s rfl (le_s rfl (le_s rfl (le_s rfl (le_s rfl (le_s rfl le_0)))))) (ih x1 x2 x3 1 (x5 + 1) μ h)
        · replace h := it_f g7 h
          refine sm_aload_n dX12_alone_70 rfl rfl ?_
          refine sm_iload dX12_alone_71 rfl ?_
          obtain ⟨t73, μ3z, g8, h⟩ := ob_some h
          refine sm_callV dX12_alone_73 cv_X12_marks ml_RX12_320 k_355 rfl rfl (by decide) (as := [av_i x5]) rfl (Nat.le_of_ble_eq_true rfl) rfl (s_Mo_marks (D := d) (by omega) N g8) (fun r9 μ9 hp => ?_)
          rw [hp.1, hp.2]
          clear hp r9 μ9
          refine sm_aload_n dX12_alone_76 rfl rfl ?_
          refine sm_iload_n dX12_alone_77 rfl rfl ?_
          obtain ⟨t78, μ4z, g9, h⟩ := ob_some h
          refine sm_callV dX12_alone_78 cv_X12_marks ml_RX12_320 k_355 rfl rfl (by decide) (as := [av_i x1]) rfl (Nat.le_of_ble_eq_true rfl) rfl (s_Mo_marks (D := d) (by omega) N g9) (fun r9 μ9 hp => ?_)
          rw [hp.1, hp.2]
          clear hp r9 μ9
          refine sm_ixor dX12_alone_81 ?_
          refine sm_iload_n dX12_alone_82 rfl rfl ?_
          refine sm_iand dX12_alone_83 ?_
          refine sm_if_eq (tgt := 91) dX12_alone_84 (by decide) (fun g10 => ?_) (fun g10 => ?_)
          · replace h := it_t g10 h
            refine sm_iconst dX12_alone_91 ic_0 ?_
            refine sm_istore dX12_alone_92 (Nat.le_of_ble_eq_true rfl) (pv_i rfl) ?_
            refine sm_iinc dX12_alone_94 rfl (congrArg (HAdd.hAdd x5) ic_1) (Nat.le_of_ble_eq_true rfl) (pv_i rfl) ?_
            refine sm_goto (tgt := 50) dX12_alone_97 (by decide) ?_
            exact Sm_weak (le_s rfl (le_s rfl (le_s rfl (le_s rfl (le_s rfl (le_s rfl le_0)))))) (ih x1 x2 x3 0 (x5 + 1) μ4z h)
          · replace h := it_f g10 h
            refine sm_iconst dX12_alone_87 ic_1 ?_
            refine sm_goto (tgt := 92) dX12_alone_88 (by decide) ?_
            refine sm_istore dX12_alone_92 (Nat.le_of_ble_eq_true rfl) (pv_i rfl) ?_
            refine sm_iinc dX12_alone_94 rfl (congrArg (HAdd.hAdd x5) ic_1) (Nat.le_of_ble_eq_true rfl) (pv_i rfl) ?_
            refine sm_goto (tgt := 50) dX12_alone_97 (by decide) ?_
            exact Sm_weak (le_s rfl (le_s rfl (le_s rfl (le_s rfl (le_s rfl (le_s rfl le_0)))))) (ih x1 x2 x3 1 (x5 + 1) μ4z h)
set_option maxRecDepth 100000 in
set_option maxHeartbeats 4000000 in
theorem s_Mo_alone_L19 {D : Nat} (hD : 1 ≤ D) (N : Nat) {r : Int32} {μr : MM} : ∀ (n : Nat) (x1 : Int32) (x2 : Int32) (x3 : Int32) (μ : MM), f_Mo_alone_L19 N n x1 x2 x3 μ = some (r, μr) → Sm D mX12_alone 19 [some (av_r 355), some (av_i x1), some (av_i x2), some (av_i x3), none, none] [] μ (po_i r μr) := by
  obtain ⟨d, rfl⟩ : ∃ d, D = d + 1 := ⟨D - 1, by omega⟩
  intro n
  induction n with
  | zero => intro x1 x2 x3 μ h; cases (show none = some (r, μr) from h)
  | succ n ih =>
    intro x1 x2 x3 μ h
    rw [f_Mo_alone_L19] at h
    refine sm_iload_n dX12_alone_19 rfl rfl ?_
    refine sm_bipush dX12_alone_20 bp_64 ?_
    refine sm_icmp_ge (tgt := 113) dX12_alone_22 (by decide) (fun g3 => ?_) (fun g3 => ?_)
    · replace h := it_t g3 h
      refine sm_iload_n dX12_alone_113 rfl rfl ?_
      cases h
      exact sm_ret_i (st := []) dX12_alone_114 rfl ⟨rfl, rfl⟩
    · replace h := it_f g3 h
      refine sm_iload_n dX12_alone_25 rfl rfl ?_
      refine sm_iconst dX12_alone_26 ic_m1 ?_
      refine sm_icmp_eq (tgt := 44) dX12_alone_27 (by decide) (fun g4 => ?_) (fun g4 => ?_)
      · replace h := it_t g4 h
        refine sm_iconst dX12_alone_44 ic_1 ?_
        refine sm_istore dX12_alone_45 (Nat.le_of_ble_eq_true rfl) (pv_i rfl) ?_
        refine sm_iconst dX12_alone_47 ic_0 ?_
        refine sm_istore dX12_alone_48 (Nat.le_of_ble_eq_true rfl) (pv_i rfl) ?_
        exact Sm_weak (le_s rfl (le_s rfl (le_s rfl (le_s rfl (le_s rfl (le_s rfl le_0)))))) (s_Mo_alone_L50 hD N ih N x1 x2 x3 1 0 μ h)
      · replace h := it_f g4 h
        refine sm_iload_n dX12_alone_30 rfl rfl ?_
        obtain ⟨t31, μ5z, g11, h⟩ := ob_some h
        refine sm_callS dX12_alone_31 cs_J6_bitCount_0f7a4 ml_RX12_422 (as := [av_i x3]) rfl (Nat.le_of_ble_eq_true rfl) rfl (s_In_bitCount_0f7a4 (D := d) (by omega) N g11) (fun r9 μ9 hp => ?_)
        rw [hp.1, hp.2]
        clear hp r9 μ9
        refine sm_iload_n dX12_alone_34 rfl rfl ?_
        obtain ⟨t35, μ6z, g12, h⟩ := ob_some h
        refine sm_callS dX12_alone_35 cs_J6_bitCount_0f7a4 ml_RX12_422 (as := [av_i x2]) rfl (Nat.le_of_ble_eq_true rfl) rfl (s_In_bitCount_0f7a4 (D := d) (by omega) N g12) (fun r9 μ9 hp => ?_)
        rw [hp.1, hp.2]
        clear hp r9 μ9
        refine sm_icmp_lt (tgt := 44) dX12_alone_38 (by decide) (fun g13 => ?_) (fun g13 => ?_)
        · replace h := it_t g13 h
          refine sm_iconst dX12_alone_44 ic_1 ?_
          refine sm_istore dX12_alone_45 (Nat.le_of_ble_eq_true rfl) (pv_i rfl) ?_
          refine sm_iconst dX12_alone_47 ic_0 ?_
          refine sm_istore dX12_alone_48 (Nat.le_of_ble_eq_true rfl) (pv_i rfl) ?_
          exact Sm_weak (le_s rfl (le_s rfl (le_s rfl (le_s rfl (le_s rfl (le_s rfl le_0)))))) (s_Mo_alone_L50 hD N ih N x1 x2 x3 1 0 μ6z h)
        · replace h := it_f g13 h
          refine sm_goto (tgt := 107) dX12_alone_41 (by decide) ?_
          refine sm_iinc dX12_alone_107 rfl (congrArg (HAdd.hAdd x3) ic_1) (Nat.le_of_ble_eq_true rfl) (pv_i rfl) ?_
          refine sm_goto (tgt := 19) dX12_alone_110 (by decide) ?_
          exact Sm_weak (le_s rfl (le_s rfl (le_s rfl (le_s rfl (le_n (le_n le_0)))))) (ih x1 x2 (x3 + 1) μ6z h)
set_option maxRecDepth 100000 in
set_option maxHeartbeats 4000000 in
theorem s_Mo_alone {D : Nat} (hD : 1 ≤ D) (N : Nat) {x1 : Int32} {μ : MM} {r : Int32} {μr : MM} (h : f_Mo_alone N x1 μ = some (r, μr)) : Cl D mX12_alone [av_r 355, av_i x1] μ (po_i r μr) := by
  obtain ⟨d, rfl⟩ : ∃ d, D = d + 1 := ⟨D - 1, by omega⟩
  refine Cl_of pn_X12 (Nat.le_of_ble_eq_true rfl) ?_
  show Sm (d + 1) mX12_alone 0 [some (av_r 355), some (av_i x1), none, none, none, none] [] μ (po_i r μr)
  unfold f_Mo_alone at h
  refine sm_aload_n dX12_alone_0 rfl rfl ?_
  refine sm_iconst dX12_alone_1 ic_0 ?_
  refine sm_putI dX12_alone_2 fp_RX12_91 k_355 ?_
  replace h := wr_some h
  refine sm_aload_n dX12_alone_5 rfl rfl ?_
  refine sm_iload_n dX12_alone_6 rfl rfl ?_
  obtain ⟨t7, μ2z, g1, h⟩ := ob_some h
  refine sm_callV dX12_alone_7 cv_X12_isThing ml_RX12_359 k_355 rfl rfl (by decide) (as := [av_i x1]) rfl (Nat.le_of_ble_eq_true rfl) rfl (s_Mo_isThing (D := d) (by omega) N g1) (fun r9 μ9 hp => ?_)
  rw [hp.1, hp.2]
  clear hp r9 μ9
  refine sm_if_ne (tgt := 15) dX12_alone_10 (by decide) (fun g2 => ?_) (fun g2 => ?_)
  · replace h := it_f g2 h
    refine sm_iconst dX12_alone_15 ic_m1 ?_
    refine sm_istore_n dX12_alone_16 rfl (Nat.le_of_ble_eq_true rfl) (pv_i rfl) ?_
    refine sm_iconst dX12_alone_17 ic_0 ?_
    refine sm_istore_n dX12_alone_18 rfl (Nat.le_of_ble_eq_true rfl) (pv_i rfl) ?_
    exact Sm_weak (le_s rfl (le_s rfl (le_s rfl (le_s rfl (le_n (le_n le_0)))))) (s_Mo_alone_L19 hD N N x1 (-1) 0 μ2z h)
  · replace h := it_t g2 h
    refine sm_iconst dX12_alone_13 ic_m1 ?_
    cases h
    exact sm_ret_i (st := []) dX12_alone_14 rfl ⟨rfl, rfl⟩
set_option maxRecDepth 100000 in
set_option maxHeartbeats 4000000 in
theorem s_Mo_suitsOf_L4 {D : Nat} (hD : 3 ≤ D) (N : Nat) {r : Int32} {μr : MM} : ∀ (n : Nat) (x1 : Int32) (x2 : Int32) (x3 : Int32) (μ : MM), f_Mo_suitsOf_L4 N n x1 x2 x3 μ = some (r, μr) → Sm D mX12_suitsOf 4 [some (av_r 355), some (av_i x1), some (av_i x2), some (av_i x3)] [] μ (po_i r μr) := by
  obtain ⟨d, rfl⟩ : ∃ d, D = d + 1 := ⟨D - 1, by omega⟩
  intro n
  induction n with
  | zero => intro x1 x2 x3 μ h; cases (show none = some (r, μr) from h)
  | succ n ih =>
    intro x1 x2 x3 μ h
    rw [f_Mo_suitsOf_L4] at h
    refine sm_iload_n dX12_suitsOf_4 rfl rfl ?_
    refine sm_aload_n dX12_suitsOf_5 rfl rfl ?_
    refine sm_getI dX12_suitsOf_6 fg_RX12_294 k_355 ?_
    refine sm_icmp_ge (tgt := 41) dX12_suitsOf_9 (by decide) (fun g1 => ?_) (fun g1 => ?_)
    · replace h := it_t g1 h
      refine sm_iload_n dX12_suitsOf_41 rfl rfl ?_
      cases h
      exact sm_ret_i (st := []) dX12_suitsOf_42 rfl ⟨rfl, rfl⟩
    · replace h := it_f g1 h
      refine sm_iload_n dX12_suitsOf_12 rfl rfl ?_
      refine sm_aload_n dX12_suitsOf_13 rfl rfl ?_
      refine sm_aload_n dX12_suitsOf_14 rfl rfl ?_
      refine sm_getR dX12_suitsOf_15 fg_RX12_61 k_355 (rf_12_32 k_355) ?_
      refine sm_iload_n dX12_suitsOf_18 rfl rfl ?_
      refine sm_iload_n dX12_suitsOf_19 rfl rfl ?_
      obtain ⟨t20, μ1z, g2, h⟩ := ob_some h
      refine sm_callV dX12_suitsOf_20 cv_X12_fitsIn ml_RX12_334 k_355 rfl rfl (by decide) (as := [av_r 368, av_i x1, av_i x3]) rfl (Nat.le_of_ble_eq_true rfl) rfl (s_Mo_fitsIn (D := d) (by omega) N k_368 g2) (fun r9 μ9 hp => ?_)
      rw [hp.1, hp.2]
      clear hp r9 μ9
      have hj23 : ∀ (v23_0 : Int32), v23_0 = (if t20 = 0 then (0 : Int32) else ((1 : Int32) <<< (x3 &&& 31))) → Sm (d + 1) mX12_suitsOf 33 [some (av_r 355), some (av_i x1), none, some (av_i x3)] [av_i v23_0, av_i x2] μ1z (po_i r μr) := by
        intro v23_0 ev23_0
        subst ev23_0
        refine sm_ior dX12_suitsOf_33 ?_
        refine sm_istore_n dX12_suitsOf_34 rfl (Nat.le_of_ble_eq_true rfl) (pv_i rfl) ?_
        refine sm_iinc dX12_suitsOf_35 rfl (congrArg (HAdd.hAdd x3) ic_1) (Nat.le_of_ble_eq_true rfl) (pv_i rfl) ?_
        refine sm_goto (tgt := 4) dX12_suitsOf_38 (by decide) ?_
        exact Sm_weak (le_s rfl (le_s rfl (le_s rfl (le_s rfl le_0)))) (ih x1 (x2 ||| (if t20 = 0 then (0 : Int32) else ((1 : Int32) <<< (x3 &&& 31)))) (x3 + 1) μ1z h)
      refine sm_if_eq (tgt := 32) dX12_suitsOf_23 (by decide) (fun c23_0 => ?_) (fun c23_0 => ?_)
      · refine sm_iconst dX12_suitsOf_32 ic_0 ?_
        exact Sm_weak (le_s rfl (le_s rfl (le_n (le_s rfl le_0)))) (hj23 _ (if_pos c23_0).symm)
      · refine sm_iconst dX12_suitsOf_26 ic_1 ?_
        refine sm_iload_n dX12_suitsOf_27 rfl rfl ?_
        refine sm_ishl dX12_suitsOf_28 ?_
        refine sm_goto (tgt := 33) dX12_suitsOf_29 (by decide) ?_
        exact Sm_weak (le_s rfl (le_s rfl (le_n (le_s rfl le_0)))) (hj23 _ (if_neg c23_0).symm)
set_option maxRecDepth 100000 in
set_option maxHeartbeats 4000000 in
theorem s_Mo_suitsOf {D : Nat} (hD : 3 ≤ D) (N : Nat) {x1 : Int32} {μ : MM} {r : Int32} {μr : MM} (h : f_Mo_suitsOf N x1 μ = some (r, μr)) : Cl D mX12_suitsOf [av_r 355, av_i x1] μ (po_i r μr) := by
  obtain ⟨d, rfl⟩ : ∃ d, D = d + 1 := ⟨D - 1, by omega⟩
  refine Cl_of pn_X12 (Nat.le_of_ble_eq_true rfl) ?_
  show Sm (d + 1) mX12_suitsOf 0 [some (av_r 355), some (av_i x1), none, none] [] μ (po_i r μr)
  unfold f_Mo_suitsOf at h
  refine sm_iconst dX12_suitsOf_0 ic_0 ?_
  refine sm_istore_n dX12_suitsOf_1 rfl (Nat.le_of_ble_eq_true rfl) (pv_i rfl) ?_
  refine sm_iconst dX12_suitsOf_2 ic_0 ?_
  refine sm_istore_n dX12_suitsOf_3 rfl (Nat.le_of_ble_eq_true rfl) (pv_i rfl) ?_
  exact Sm_weak (le_s rfl (le_s rfl (le_s rfl (le_s rfl le_0)))) (s_Mo_suitsOf_L4 hD N N x1 0 0 μ h)
