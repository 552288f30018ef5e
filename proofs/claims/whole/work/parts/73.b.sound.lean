set_option maxRecDepth 100000 in
set_option maxHeartbeats 4000000 in
theorem s_Gu_thingsFitting_L9 {D : Nat} (hD : 2 ≤ D) (N : Nat) {r : Int32} {μr : MM} : ∀ (n : Nat) (x2 : Int32) (x3 : Int32) (μ : MM), f_Gu_thingsFitting_L9 N n x2 x3 μ = some (r, μr) → Sm D mX2_thingsFitting 9 [some (av_r 341), none, some (av_i x2), some (av_i x3)] [] μ (po_i r μr) := by
  obtain ⟨d, rfl⟩ : ∃ d, D = d + 1 := ⟨D - 1, by omega⟩
  intro n
  induction n with
  | zero => intro x2 x3 μ h; cases (show none = some (r, μr) from h)
  | succ n ih =>
    intro x2 x3 μ h
    rw [f_Gu_thingsFitting_L9] at h
    refine sm_iload_n dX2_thingsFitting_9 rfl rfl ?_
    refine sm_aload_n dX2_thingsFitting_10 rfl rfl ?_
    refine sm_getR dX2_thingsFitting_11 fg_RX2_50 k_341 (rf_2_1 k_341) ?_
    refine sm_getI dX2_thingsFitting_14 fg_RX2_86 k_23 ?_
    refine sm_icmp_ge (tgt := 42) dX2_thingsFitting_17 (by decide) (fun g2 => ?_) (fun g2 => ?_)
    · replace h := it_t g2 h
      refine sm_iload_n dX2_thingsFitting_42 rfl rfl ?_
      cases h
      exact sm_ret_i (st := []) dX2_thingsFitting_43 rfl ⟨rfl, rfl⟩
    · replace h := it_f g2 h
      refine sm_iload_n dX2_thingsFitting_20 rfl rfl ?_
      refine sm_aload_n dX2_thingsFitting_21 rfl rfl ?_
      refine sm_iload_n dX2_thingsFitting_22 rfl rfl ?_
      obtain ⟨t23, μ2z, g3, h⟩ := ob_some h
      refine sm_callV dX2_thingsFitting_23 cv_X2_wouldFit ml_RX2_88 k_341 rfl rfl (by decide) (as := [av_i x3]) rfl (Nat.le_of_ble_eq_true rfl) rfl (s_Gu_wouldFit (D := d) (by omega) N g3) (fun r9 μ9 hp => ?_)
      rw [hp.1, hp.2]
      clear hp r9 μ9
      have hj26 : ∀ (v26_0 : Int32), v26_0 = (if t23 = 0 then (0 : Int32) else 1) → Sm (d + 1) mX2_thingsFitting 34 [some (av_r 341), none, none, some (av_i x3)] [av_i v26_0, av_i x2] μ2z (po_i r μr) := by
        intro v26_0 ev26_0
        subst ev26_0
        refine sm_iadd dX2_thingsFitting_34 ?_
        refine sm_istore_n dX2_thingsFitting_35 rfl (Nat.le_of_ble_eq_true rfl) (pv_n rfl) ?_
        refine sm_iinc dX2_thingsFitting_36 rfl (congrArg (HAdd.hAdd x3) ic_1) (Nat.le_of_ble_eq_true rfl) (pv_i rfl) ?_
        refine sm_goto (tgt := 9) dX2_thingsFitting_39 (by decide) ?_
        exact Sm_weak (le_s rfl (le_n (le_s rfl (le_s rfl le_0)))) (ih (x2 + (if t23 = 0 then (0 : Int32) else 1)) (x3 + 1) μ2z h)
      refine sm_if_eq (tgt := 33) dX2_thingsFitting_26 (by decide) (fun c26_0 => ?_) (fun c26_0 => ?_)
      · refine sm_iconst dX2_thingsFitting_33 ic_0 ?_
        exact Sm_weak (le_s rfl (le_n (le_n (le_s rfl le_0)))) (hj26 _ (if_pos c26_0).symm)
      · refine sm_iconst dX2_thingsFitting_29 ic_1 ?_
        refine sm_goto (tgt := 34) dX2_thingsFitting_30 (by decide) ?_
        exact Sm_weak (le_s rfl (le_n (le_n (le_s rfl le_0)))) (hj26 _ (if_neg c26_0).symm)
set_option maxRecDepth 100000 in
set_option maxHeartbeats 4000000 in
theorem s_Gu_thingsFitting {D : Nat} (hD : 2 ≤ D) (N : Nat) {x1 : Int32} {μ : MM} {r : Int32} {μr : MM} (h : f_Gu_thingsFitting N x1 μ = some (r, μr)) : Cl D mX2_thingsFitting [av_r 341, av_i x1] μ (po_i r μr) := by
  obtain ⟨d, rfl⟩ : ∃ d, D = d + 1 := ⟨D - 1, by omega⟩
  refine Cl_of pn_X2 (Nat.le_of_ble_eq_true rfl) ?_
  show Sm (d + 1) mX2_thingsFitting 0 [some (av_r 341), some (av_i x1), none, none] [] μ (po_i r μr)
  unfold f_Gu_thingsFitting at h
  refine sm_aload_n dX2_thingsFitting_0 rfl rfl ?_
  refine sm_iload_n dX2_thingsFitting_1 rfl rfl ?_
  obtain ⟨μ1z, g1, h⟩ := obv_some h
  refine sm_callV dX2_thingsFitting_2 cv_X2_layOut ml_RX2_99 k_341 rfl rfl (by decide) (as := [av_i x1]) rfl (Nat.le_of_ble_eq_true rfl) rfl (s_Gu_layOut (D := d) (by omega) N g1) (fun r9 μ9 hp => ?_)
  rw [hp.1, hp.2]
  clear hp r9 μ9
  refine sm_iconst dX2_thingsFitting_5 ic_0 ?_
  refine sm_istore_n dX2_thingsFitting_6 rfl (Nat.le_of_ble_eq_true rfl) (pv_i rfl) ?_
  refine sm_iconst dX2_thingsFitting_7 ic_0 ?_
  refine sm_istore_n dX2_thingsFitting_8 rfl (Nat.le_of_ble_eq_true rfl) (pv_i rfl) ?_
  exact Sm_weak (le_s rfl (le_n (le_s rfl (le_s rfl le_0)))) (s_Gu_thingsFitting_L9 hD N N 0 0 μ1z h)
set_option maxRecDepth 100000 in
set_option maxHeartbeats 4000000 in
theorem s_Gu_kindestRow_L6 {D : Nat} (hD : 3 ≤ D) (N : Nat) {r : Int32} {μr : MM} : ∀ (n : Nat) (x1 : Int32) (x2 : Int32) (x3 : Int32) (μ : MM), f_Gu_kindestRow_L6 N n x1 x2 x3 μ = some (r, μr) → Sm D mX2_kindestRow 6 [some (av_r 341), some (av_i x1), some (av_i x2), some (av_i x3), none] [] μ (po_i r μr) := by
  obtain ⟨d, rfl⟩ : ∃ d, D = d + 1 := ⟨D - 1, by omega⟩
  intro n
  induction n with
  | zero => intro x1 x2 x3 μ h; cases (show none = some (r, μr) from h)
  | succ n ih =>
    intro x1 x2 x3 μ h
    rw [f_Gu_kindestRow_L6] at h
    refine sm_iload_n dX2_kindestRow_6 rfl rfl ?_
    refine sm_aload_n dX2_kindestRow_7 rfl rfl ?_
    refine sm_getI dX2_kindestRow_8 fg_RX2_35 k_341 ?_
    refine sm_icmp_ge (tgt := 51) dX2_kindestRow_11 (by decide) (fun g1 => ?_) (fun g1 => ?_)
    · replace h := it_t g1 h
      refine sm_iload_n dX2_kindestRow_51 rfl rfl ?_
      cases h
      exact sm_ret_i (st := []) dX2_kindestRow_52 rfl ⟨rfl, rfl⟩
    · replace h := it_f g1 h
      refine sm_aload_n dX2_kindestRow_14 rfl rfl ?_
      refine sm_iload_n dX2_kindestRow_15 rfl rfl ?_
      obtain ⟨t16, μ1z, g2, h⟩ := ob_some h
      refine sm_callV dX2_kindestRow_16 cv_X2_isRow ml_RX2_83 k_341 rfl rfl (by decide) (as := [av_i x3]) rfl (Nat.le_of_ble_eq_true rfl) rfl (s_Gu_isRow (D := d) (by omega) N g2) (fun r9 μ9 hp => ?_)
      rw [hp.1, hp.2]
      clear hp r9 μ9
      refine sm_if_eq (tgt := 45) dX2_kindestRow_19 (by decide) (fun g3 => ?_) (fun g3 => ?_)
      · replace h := it_t g3 h
        refine sm_iinc dX2_kindestRow_45 rfl (congrArg (HAdd.hAdd x3) ic_1) (Nat.le_of_ble_eq_true rfl) (pv_i rfl) ?_
        refine sm_goto (tgt := 6) dX2_kindestRow_48 (by decide) ?_
        exact Sm_weak (le_s rfl (le_s rfl (le_s rfl (le_s rfl (le_n le_0))))) (ih x1 x2 (x3 + 1) μ1z h)
      · replace h := it_f g3 h
        refine sm_aload_n dX2_kindestRow_22 rfl rfl ?_
        refine sm_iload_n dX2_kindestRow_23 rfl rfl ?_
        obtain ⟨t24, μ2z, g4, h⟩ := ob_some h
        refine sm_callV dX2_kindestRow_24 cv_X2_thingsFitting ml_RX2_96 k_341 rfl rfl (by decide) (as := [av_i x3]) rfl (Nat.le_of_ble_eq_true rfl) rfl (s_Gu_thingsFitting (D := d) (by omega) N g4) (fun r9 μ9 hp => ?_)
        rw [hp.1, hp.2]
        clear hp r9 μ9
        refine sm_istore dX2_kindestRow_27 (Nat.le_of_ble_eq_true rfl) (pv_i rfl) ?_
        refine sm_iload_n dX2_kindestRow_29 rfl rfl ?_
        refine sm_iconst dX2_kindestRow_30 ic_m1 ?_
        refine sm_icmp_eq (tgt := 40) dX2_kindestRow_31 (by decide) (fun g5 => ?_) (fun g5 => ?_)
        · replace h := it_t g5 h
          refine sm_iload_n dX2_kindestRow_40 rfl rfl ?_
          refine sm_istore_n dX2_kindestRow_41 rfl (Nat.le_of_ble_eq_true rfl) (pv_r rfl) ?_
          refine sm_iload dX2_kindestRow_42 rfl ?_
          refine sm_istore_n dX2_kindestRow_44 rfl (Nat.le_of_ble_eq_true rfl) (pv_i rfl) ?_
          refine sm_iinc dX2_kindestRow_45 rfl (congrArg (HAdd.hAdd x3) ic_1) (Nat.le_of_ble_eq_true rfl) (pv_i rfl) ?_
          refine sm_goto (tgt := 6) dX2_kindestRow_48 (by decide) ?_
          exact Sm_weak (le_s rfl (le_s rfl (le_s rfl (le_s rfl (le_n le_0))))) (ih x3 t24 (x3 + 1) μ2z h)
        · replace h := it_f g5 h
          refine sm_iload dX2_kindestRow_34 rfl ?_
          refine sm_iload_n dX2_kindestRow_36 rfl rfl ?_
          refine sm_icmp_le (tgt := 45) dX2_kindestRow_37 (by decide) (fun g6 => ?_) (fun g6 => ?_)
          · replace h := it_t g6 h
            refine sm_iinc dX2_kindestRow_45 rfl (congrArg (HAdd.hAdd x3) ic_1) (Nat.le_of_ble_eq_true rfl) (pv_i rfl) ?_
            refine sm_goto (tgt := 6) dX2_kindestRow_48 (by decide) ?_
            exact Sm_weak (le_s rfl (le_s rfl (le_s rfl (le_s rfl (le_n le_0))))) (ih x1 x2 (x3 + 1) μ2z h)
          · replace h := it_f g6 h
            refine sm_iload_n dX2_kindestRow_40 rfl rfl ?_
            refine sm_istore_n dX2_kindestRow_41 rfl (Nat.le_of_ble_eq_true rfl) (pv_r rfl) ?_
            refine sm_iload dX2_kindestRow_42 rfl ?_
            refine sm_istore_n dX2_kindestRow_44 rfl (Nat.le_of_ble_eq_true rfl) (pv_i rfl) ?_
            refine sm_iinc dX2_kindestRow_45 rfl (congrArg (HAdd.hAdd x3) ic_1) (Nat.le_of_ble_eq_true rfl) (pv_i rfl) ?_
            refine sm_goto (tgt := 6) dX2_kindestRow_48 (by decide) ?_
            exact Sm_weak (le_s rfl (le_s rfl (le_s rfl (le_s rfl (le_n le_0))))) (ih x3 t24 (x3 + 1) μ2z h)
set_option maxRecDepth 100000 in
set_option maxHeartbeats 4000000 in
theorem s_Gu_kindestRow {D : Nat} (hD : 3 ≤ D) (N : Nat) {μ : MM} {r : Int32} {μr : MM} (h : f_Gu_kindestRow N μ = some (r, μr)) : Cl D mX2_kindestRow [av_r 341] μ (po_i r μr) := by
  obtain ⟨d, rfl⟩ : ∃ d, D = d + 1 := ⟨D - 1, by omega⟩
  refine Cl_of pn_X2 (Nat.le_of_ble_eq_true rfl) ?_
  show Sm (d + 1) mX2_kindestRow 0 [some (av_r 341), none, none, none, none] [] μ (po_i r μr)
  unfold f_Gu_kindestRow at h
  refine sm_iconst dX2_kindestRow_0 ic_m1 ?_
  refine sm_istore_n dX2_kindestRow_1 rfl (Nat.le_of_ble_eq_true rfl) (pv_r rfl) ?_
  refine sm_iconst dX2_kindestRow_2 ic_0 ?_
  refine sm_istore_n dX2_kindestRow_3 rfl (Nat.le_of_ble_eq_true rfl) (pv_i rfl) ?_
  refine sm_iconst dX2_kindestRow_4 ic_0 ?_
  refine sm_istore_n dX2_kindestRow_5 rfl (Nat.le_of_ble_eq_true rfl) (pv_i rfl) ?_
  exact Sm_weak (le_s rfl (le_s rfl (le_s rfl (le_s rfl (le_n le_0))))) (s_Gu_kindestRow_L6 hD N N (-1) 0 0 μ h)
set_option maxRecDepth 100000 in
set_option maxHeartbeats 4000000 in
theorem s_Hi_forget {D : Nat} (hD : 0 ≤ D) (N : Nat) {μ : MM} {μr : MM} (h : f_Hi_forget N μ = some μr) : Cl D mX3_forget [av_r 51] μ (po_v μr) := by
  refine Cl_of pn_X3 (Nat.le_of_ble_eq_true rfl) ?_
  show Sm D mX3_forget 0 [some (av_r 51)] [] μ (po_v μr)
  unfold f_Hi_forget at h
  refine sm_aload_n dX3_forget_0 rfl rfl ?_
  refine sm_iconst dX3_forget_1 ic_0 ?_
  refine sm_putI dX3_forget_2 fp_RX3_9 k_51 ?_
  replace h := wr_some h
  cases h
  exact sm_ret_v (st := []) dX3_forget_5 rfl ⟨rfl, rfl⟩
set_option maxRecDepth 100000 in
set_option maxHeartbeats 4000000 in
theorem s_Hi_keep {D : Nat} (hD : 3 ≤ D) (N : Nat) {q1 : Nat} (hk_q1 : sh_k q1 = 7) {μ : MM} {μr : MM} (h : f_Hi_keep N q1 μ = some μr) : Cl D mX3_keep [av_r 51, av_r q1] μ (po_v μr) := by
  obtain ⟨d, rfl⟩ : ∃ d, D = d + 1 := ⟨D - 1, by omega⟩
  refine Cl_of pn_X3 (Nat.le_of_ble_eq_true rfl) ?_
  show Sm (d + 1) mX3_keep 0 [some (av_r 51), some (av_r q1)] [] μ (po_v μr)
  unfold f_Hi_keep at h
  refine sm_aload_n dX3_keep_0 rfl rfl ?_
  refine sm_getR dX3_keep_1 fg_RX3_20 k_51 (rf_3_2 k_51) ?_
  refine sm_aload_n dX3_keep_4 rfl rfl ?_
  refine sm_getI dX3_keep_5 fg_RX3_15 k_51 ?_
  obtain ⟨g1, h⟩ := gd_some h
  refine sm_aaldS dX3_keep_8 k_52 (in_sz n_52 g1) (rf_24 k_52) ?_
  refine sm_aload_n dX3_keep_9 rfl rfl ?_
  obtain ⟨μ1z, g2, h⟩ := obv_some h
  refine sm_callV dX3_keep_10 cv_X7_takeAll ml_RX3_25 (kd_24 (in_vp g1)) rfl rfl (by decide) (as := [av_r q1]) rfl (Nat.le_of_ble_eq_true rfl) rfl (s_Sh_takeAll (D := d) (by omega) N (kd_24 (in_vp g1)) hk_q1 g2) (fun r9 μ9 hp => ?_)
  rw [hp.1, hp.2]
  clear hp r9 μ9
  refine sm_aload_n dX3_keep_13 rfl rfl ?_
  refine sm_aload_n dX3_keep_14 rfl rfl ?_
  refine sm_getI dX3_keep_15 fg_RX3_15 k_51 ?_
  refine sm_iconst dX3_keep_18 ic_1 ?_
  refine sm_iadd dX3_keep_19 ?_
  refine sm_bipush dX3_keep_20 bp_40 ?_
  refine sm_irem dX3_keep_22 (by decide) ?_
  refine sm_putI dX3_keep_23 fp_RX3_15 k_51 ?_
  replace h := wr_some h
  refine sm_aload_n dX3_keep_26 rfl rfl ?_
  refine sm_bipush dX3_keep_27 bp_40 ?_
  refine sm_aload_n dX3_keep_29 rfl rfl ?_
  refine sm_getI dX3_keep_30 fg_RX3_9 k_51 ?_
  refine sm_iconst dX3_keep_33 ic_1 ?_
  refine sm_iadd dX3_keep_34 ?_
  refine sm_min dX3_keep_35 ml_RX3_29 (Nat.le_of_ble_eq_true rfl) ?_
  refine sm_putI dX3_keep_38 fp_RX3_9 k_51 ?_
  replace h := wr_some h
  cases h
  exact sm_ret_v (st := []) dX3_keep_41 rfl ⟨rfl, rfl⟩
set_option maxRecDepth 100000 in
set_option maxHeartbeats 4000000 in
theorem s_Hi_undoInto {D : Nat} (hD : 3 ≤ D) (N : Nat) {q1 : Nat} (hk_q1 : sh_k q1 = 7) {μ : MM} {r : Int32} {μr : MM} (h : f_Hi_undoInto N q1 μ = some (r, μr)) : Cl D mX3_undoInto [av_r 51, av_r q1] μ (po_i r μr) := by
  obtain ⟨d, rfl⟩ : ∃ d, D = d + 1 := ⟨D - 1, by omega⟩
  refine Cl_of pn_X3 (Nat.le_of_ble_eq_true rfl) ?_
  show Sm (d + 1) mX3_undoInto 0 [some (av_r 51), some (av_r q1)] [] μ (po_i r μr)
  unfold f_Hi_undoInto at h
  refine sm_aload_n dX3_undoInto_0 rfl rfl ?_
  refine sm_getI dX3_undoInto_1 fg_RX3_9 k_51 ?_
  refine sm_if_ne (tgt := 9) dX3_undoInto_4 (by decide) (fun g1 => ?_) (fun g1 => ?_)
  · replace h := it_f g1 h
    refine sm_aload_n dX3_undoInto_9 rfl rfl ?_
    refine sm_aload_n dX3_undoInto_10 rfl rfl ?_
    refine sm_getI dX3_undoInto_11 fg_RX3_15 k_51 ?_
    refine sm_bipush dX3_undoInto_14 bp_40 ?_
    refine sm_iadd dX3_undoInto_16 ?_
    refine sm_iconst dX3_undoInto_17 ic_1 ?_
    refine sm_isub dX3_undoInto_18 ?_
    refine sm_bipush dX3_undoInto_19 bp_40 ?_
    refine sm_irem dX3_undoInto_21 (by decide) ?_
    refine sm_putI dX3_undoInto_22 fp_RX3_15 k_51 ?_
    replace h := wr_some h
    refine sm_aload_n dX3_undoInto_25 rfl rfl ?_
    refine sm_dup dX3_undoInto_26 rfl ?_
    refine sm_getI dX3_undoInto_27 fg_RX3_9 k_51 ?_
    refine sm_iconst dX3_undoInto_30 ic_1 ?_
    refine sm_isub dX3_undoInto_31 ?_
    refine sm_putI dX3_undoInto_32 fp_RX3_9 k_51 ?_
    replace h := wr_some h
    refine sm_aload_n dX3_undoInto_35 rfl rfl ?_
    refine sm_aload_n dX3_undoInto_36 rfl rfl ?_
    refine sm_getR dX3_undoInto_37 fg_RX3_20 k_51 (rf_3_2 k_51) ?_
    refine sm_aload_n dX3_undoInto_40 rfl rfl ?_
    refine sm_getI dX3_undoInto_41 fg_RX3_15 k_51 ?_
    obtain ⟨g2, h⟩ := gd_some h
    refine sm_aaldS dX3_undoInto_44 k_52 (in_sz n_52 g2) (rf_24 k_52) ?_
    obtain ⟨μ3z, g3, h⟩ := obv_some h
    refine sm_callV dX3_undoInto_45 cv_X7_takeAll ml_RX3_25 hk_q1 rfl rfl (by decide) (as := [av_r (53 + 7 * (Int32.toNatClampNeg ((mm_I (mm_I μ 51 1 ((((μ.1 51 1) + 40) - 1) - (((μ.1 51 1) + 40) - 1) / 40 * 40)) 51 0 (((mm_I μ 51 1 ((((μ.1 51 1) + 40) - 1) - (((μ.1 51 1) + 40) - 1) / 40 * 40)).1 51 0) - 1)).1 51 1)))]) rfl (Nat.le_of_ble_eq_true rfl) rfl (s_Sh_takeAll (D := d) (by omega) N hk_q1 (kd_24 (in_vp g2)) g3) (fun r9 μ9 hp => ?_)
    rw [hp.1, hp.2]
    clear hp r9 μ9
    refine sm_aload_n dX3_undoInto_48 rfl rfl ?_
    refine sm_getI dX3_undoInto_49 fg_RX3_9 k_51 ?_
    cases h
    exact sm_ret_i (st := []) dX3_undoInto_52 rfl ⟨rfl, rfl⟩
  · replace h := it_t g1 h
    refine sm_iconst dX3_undoInto_7 ic_m1 ?_
    cases h
    exact sm_ret_i (st := []) dX3_undoInto_8 rfl ⟨rfl, rfl⟩
set_option maxRecDepth 100000 in
set_option maxHeartbeats 4000000 in
theorem s_Ta_rewind {D : Nat} (hD : 0 ≤ D) (N : Nat) {μ : MM} {μr : MM} (h : f_Ta_rewind N μ = some μr) : Cl D mX8_rewind [av_r 1] μ (po_v μr) := by
  refine Cl_of pn_X8 (Nat.le_of_ble_eq_true rfl) ?_
  show Sm D mX8_rewind 0 [some (av_r 1)] [] μ (po_v μr)
  unfold f_Ta_rewind at h
  refine sm_aload_n dX8_rewind_0 rfl rfl ?_
  refine sm_iconst dX8_rewind_1 ic_0 ?_
  refine sm_putI dX8_rewind_2 fp_RX8_19 k_1 ?_
  replace h := wr_some h
  cases h
  exact sm_ret_v (st := []) dX8_rewind_5 rfl ⟨rfl, rfl⟩
set_option maxRecDepth 100000 in
set_option maxHeartbeats 4000000 in
theorem s_Ta_peek_B38 {D : Nat} (hD : 0 ≤ D) (N : Nat) {r : Int32} {μr : MM} (μ : MM) (h : f_Ta_peek_B38 N μ = some (r, μr)) : Sm D mX8_peek 38 [some (av_r 1)] [] μ (po_i r μr) := by
  unfold f_Ta_peek_B38 at h
  refine sm_aload_n dX8_peek_38 rfl rfl ?_
  refine sm_getI dX8_peek_39 fg_RX8_19 k_1 ?_
  refine sm_aload_n dX8_peek_42 rfl rfl ?_
  refine sm_getI dX8_peek_43 fg_RX8_15 k_1 ?_
  refine sm_icmp_ge (tgt := 61) dX8_peek_46 (by decide) (fun g2 => ?_) (fun g2 => ?_)
  · replace h := it_t g2 h
    refine sm_iconst dX8_peek_61 ic_m1 ?_
    cases h
    exact sm_ret_i (st := []) dX8_peek_62 rfl ⟨rfl, rfl⟩
  · replace h := it_f g2 h
    refine sm_aload_n dX8_peek_49 rfl rfl ?_
    refine sm_getR dX8_peek_50 fg_RX8_11 k_1 (rf_8_0 k_1) ?_
    refine sm_aload_n dX8_peek_53 rfl rfl ?_
    refine sm_getI dX8_peek_54 fg_RX8_19 k_1 ?_
    obtain ⟨g3, h⟩ := gd_some h
    refine sm_iald (j := (Int32.toNatClampNeg (μ.1 1 2))) dX8_peek_57 k_2 (in_sz n_2 g3) rfl ?_
    refine sm_goto (tgt := 62) dX8_peek_58 (by decide) ?_
    cases h
    exact sm_ret_i (st := []) dX8_peek_62 rfl ⟨rfl, rfl⟩
set_option maxRecDepth 100000 in
set_option maxHeartbeats 4000000 in
theorem s_Ta_peek_L0 {D : Nat} (hD : 0 ≤ D) (N : Nat) {r : Int32} {μr : MM} : ∀ (n : Nat) (μ : MM), f_Ta_peek_L0 N n μ = some (r, μr) → Sm D mX8_peek 0 [some (av_r 1)] [] μ (po_i r μr) := by
  intro n
  induction n with
  | zero => intro μ h; cases (show none = some (r, μr) from h)
  | succ n ih =>
    intro μ h
    rw [f_Ta_peek_L0] at h
    refine sm_aload_n dX8_peek_0 rfl rfl ?_
    refine sm_getI dX8_peek_1 fg_RX8_19 k_1 ?_
    refine sm_aload_n dX8_peek_4 rfl rfl ?_
    refine sm_getI dX8_peek_5 fg_RX8_15 k_1 ?_
    refine sm_icmp_ge (tgt := 38) dX8_peek_8 (by decide) (fun g1 => ?_) (fun g1 => ?_)
    · replace h := it_t g1 h
      exact Sm_weak (le_s rfl le_0) (s_Ta_peek_B38 hD N  μ h)
    · replace h := it_f g1 h
      refine sm_aload_n dX8_peek_11 rfl rfl ?_
      refine sm_getR dX8_peek_12 fg_RX8_11 k_1 (rf_8_0 k_1) ?_
      refine sm_aload_n dX8_peek_15 rfl rfl ?_
      refine sm_getI dX8_peek_16 fg_RX8_19 k_1 ?_
      obtain ⟨g4, h⟩ := gd_some h
      refine sm_iald (j := (Int32.toNatClampNeg (μ.1 1 2))) dX8_peek_19 k_2 (in_sz n_2 g4) rfl ?_
      refine sm_bipush dX8_peek_20 bp_32 ?_
      refine sm_icmp_ne (tgt := 38) dX8_peek_22 (by decide) (fun g5 => ?_) (fun g5 => ?_)
      · replace h := it_f g5 h
        exact Sm_weak (le_s rfl le_0) (s_Ta_peek_B38 hD N  μ h)
      · replace h := it_t g5 h
        refine sm_aload_n dX8_peek_25 rfl rfl ?_
        refine sm_dup dX8_peek_26 rfl ?_
        refine sm_getI dX8_peek_27 fg_RX8_19 k_1 ?_
        refine sm_iconst dX8_peek_30 ic_1 ?_
        refine sm_iadd dX8_peek_31 ?_
        refine sm_putI dX8_peek_32 fp_RX8_19 k_1 ?_
        replace h := wr_some h
        refine sm_goto (tgt := 0) dX8_peek_35 (by decide) ?_
        exact Sm_weak (le_s rfl le_0) (ih  (mm_I μ 1 2 ((μ.1 1 2) + 1)) h)
set_option maxRecDepth 100000 in
set_option maxHeartbeats 4000000 in
theorem s_Ta_peek {D : Nat} (hD : 0 ≤ D) (N : Nat) {μ : MM} {r : Int32} {μr : MM} (h : f_Ta_peek N μ = some (r, μr)) : Cl D mX8_peek [av_r 1] μ (po_i r μr) := by
  refine Cl_of pn_X8 (Nat.le_of_ble_eq_true rfl) ?_
  show Sm D mX8_peek 0 [some (av_r 1)] [] μ (po_i r μr)
  unfold f_Ta_peek at h
  exact Sm_weak (le_s rfl le_0) (s_Ta_peek_L0 hD N N  μ h)
set_option maxRecDepth 100000 in
set_option maxHeartbeats 4000000 in
theorem s_Ta_step {D : Nat} (hD : 0 ≤ D) (N : Nat) {μ : MM} {μr : MM} (h : f_Ta_step N μ = some μr) : Cl D mX8_step [av_r 1] μ (po_v μr) := by
  refine Cl_of pn_X8 (Nat.le_of_ble_eq_true rfl) ?_
  show Sm D mX8_step 0 [some (av_r 1)] [] μ (po_v μr)
  unfold f_Ta_step at h
  refine sm_aload_n dX8_step_0 rfl rfl ?_
  refine sm_getI dX8_step_1 fg_RX8_19 k_1 ?_
  refine sm_aload_n dX8_step_4 rfl rfl ?_
  refine sm_getI dX8_step_5 fg_RX8_15 k_1 ?_
  refine sm_icmp_ge (tgt := 21) dX8_step_8 (by decide) (fun g1 => ?_) (fun g1 => ?_)
  · replace h := it_t g1 h
    cases h
    exact sm_ret_v (st := []) dX8_step_21 rfl ⟨rfl, rfl⟩
  · replace h := it_f g1 h
    refine sm_aload_n dX8_step_11 rfl rfl ?_
    refine sm_dup dX8_step_12 rfl ?_
    refine sm_getI dX8_step_13 fg_RX8_19 k_1 ?_
    refine sm_iconst dX8_step_16 ic_1 ?_
    refine sm_iadd dX8_step_17 ?_
    refine sm_putI dX8_step_18 fp_RX8_19 k_1 ?_
    replace h := wr_some h
    cases h
    exact sm_ret_v (st := []) dX8_step_21 rfl ⟨rfl, rfl⟩
set_option maxRecDepth 100000 in
set_option maxHeartbeats 4000000 in
theorem s_Ta_accept {D : Nat} (hD : 1 ≤ D) (N : Nat) {x1 : Int32} {μ : MM} {r : Int32} {μr : MM} (h : f_Ta_accept N x1 μ = some (r, μr)) : Cl D mX8_accept [av_r 1, av_i x1] μ (po_i r μr) := by
  obtain ⟨d, rfl⟩ : ∃ d, D = d + 1 := ⟨D - 1, by omega⟩
  refine Cl_of pn_X8 (Nat.le_of_ble_eq_true rfl) ?_
  show Sm (d + 1) mX8_accept 0 [some (av_r 1), some (av_i x1)] [] μ (po_i r μr)
  unfold f_Ta_accept at h
  refine sm_aload_n dX8_accept_0 rfl rfl ?_
  obtain ⟨t1, μ1z, g1, h⟩ := ob_some h
  refine sm_callV dX8_accept_1 cv_X8_peek ml_RX8_22 k_1 rfl rfl (by decide) (as := []) rfl (Nat.le_of_ble_eq_true rfl) rfl (s_Ta_peek (D := d) (by omega) N g1) (fun r9 μ9 hp => ?_)
  rw [hp.1, hp.2]
  clear hp r9 μ9
  refine sm_iload_n dX8_accept_4 rfl rfl ?_
  refine sm_icmp_eq (tgt := 10) dX8_accept_5 (by decide) (fun g2 => ?_) (fun g2 => ?_)
  · replace h := it_t g2 h
    refine sm_aload_n dX8_accept_10 rfl rfl ?_
    obtain ⟨μ2z, g3, h⟩ := obv_some h
    refine sm_callV dX8_accept_11 cv_X8_step ml_RX8_26 k_1 rfl rfl (by decide) (as := []) rfl (Nat.le_of_ble_eq_true rfl) rfl (s_Ta_step (D := d) (by omega) N g3) (fun r9 μ9 hp => ?_)
    rw [hp.1, hp.2]
    clear hp r9 μ9
    refine sm_iconst dX8_accept_14 ic_1 ?_
    cases h
    exact sm_ret_z (st := []) dX8_accept_15 rfl rfl ⟨rfl, rfl⟩
  · replace h := it_f g2 h
    refine sm_iconst dX8_accept_8 ic_0 ?_
    cases h
    exact sm_ret_z (st := []) dX8_accept_9 rfl rfl ⟨rfl, rfl⟩
set_option maxRecDepth 100000 in
set_option maxHeartbeats 4000000 in
theorem s_St_isLatin1_aae02 {D : Nat} (hD : 0 ≤ D) (N : Nat) {sx : Nat} (hk_sx : sh_k sx = 42) {μ : MM} {r : Int32} {μr : MM} (h : f_St_isLatin1_aae02 N sx μ = some (r, μr)) : Cl D mJ0_isLatin1_aae02 [av_r sx] μ (po_i r μr) := by
  refine Cl_of pn_J0 (Nat.le_of_ble_eq_true rfl) ?_
  show Sm D mJ0_isLatin1_aae02 0 [some (av_r sx)] [] μ (po_i r μr)
  unfold f_St_isLatin1_aae02 at h
  refine sm_compact dJ0_isLatin1_aae02_0 cs_RJ0_38 ?_
  refine sm_if_eq (tgt := 17) dJ0_isLatin1_aae02_3 (by decide) (fun g1 => ?_) (fun g1 => ?_)
  · replace h := it_t g1 h
    refine sm_iconst dJ0_isLatin1_aae02_17 ic_0 ?_
    cases h
    exact sm_ret_z (st := []) dJ0_isLatin1_aae02_18 rfl rfl ⟨rfl, rfl⟩
  · replace h := it_f g1 h
    refine sm_aload_n dJ0_isLatin1_aae02_6 rfl rfl ?_
    refine sm_stcod dJ0_isLatin1_aae02_7 cs_RJ0_15 hk_sx ?_
    refine sm_if_ne (tgt := 17) dJ0_isLatin1_aae02_10 (by decide) (fun g2 => ?_) (fun g2 => ?_)
    · replace h := it_f g2 h
      refine sm_iconst dJ0_isLatin1_aae02_17 ic_0 ?_
      cases h
      exact sm_ret_z (st := []) dJ0_isLatin1_aae02_18 rfl rfl ⟨rfl, rfl⟩
    · replace h := it_t g2 h
      refine sm_iconst dJ0_isLatin1_aae02_13 ic_1 ?_
      refine sm_goto (tgt := 18) dJ0_isLatin1_aae02_14 (by decide) ?_
      cases h
      exact sm_ret_z (st := []) dJ0_isLatin1_aae02_18 rfl rfl ⟨rfl, rfl⟩
set_option maxRecDepth 100000 in
set_option maxHeartbeats 4000000 in
theorem s_St_coder_7d493 {D : Nat} (hD : 0 ≤ D) (N : Nat) {sx : Nat} (hk_sx : sh_k sx = 42) {μ : MM} {r : Int32} {μr : MM} (h : f_St_coder_7d493 N sx μ = some (r, μr)) : Cl D mJ0_coder_7d493 [av_r sx] μ (po_i r μr) := by
  refine Cl_of pn_J0 (Nat.le_of_ble_eq_true rfl) ?_
  show Sm D mJ0_coder_7d493 0 [some (av_r sx)] [] μ (po_i r μr)
  unfold f_St_coder_7d493 at h
  refine sm_compact dJ0_coder_7d493_0 cs_RJ0_38 ?_
  have hj3 : ∀ (v3_0 : Int32), v3_0 = (if (1 : Int32) = 0 then (1 : Int32) else 0) → Sm D mJ0_coder_7d493 14 [none] [av_i v3_0] μ (po_i r μr) := by
    intro v3_0 ev3_0
    subst ev3_0
    obtain ⟨g0, h⟩ := gd_some h
    cases h
    exact sm_ret_z (st := []) dJ0_coder_7d493_14 rfl (z8_nar g0) ⟨rfl, rfl⟩
  refine sm_if_eq (tgt := 13) dJ0_coder_7d493_3 (by decide) (fun c3_0 => ?_) (fun c3_0 => ?_)
  · refine sm_iconst dJ0_coder_7d493_13 ic_1 ?_
    exact Sm_weak (le_n le_0) (hj3 _ (if_pos c3_0).symm)
  · refine sm_aload_n dJ0_coder_7d493_6 rfl rfl ?_
    refine sm_stcod dJ0_coder_7d493_7 cs_RJ0_15 hk_sx ?_
    refine sm_goto (tgt := 14) dJ0_coder_7d493_10 (by decide) ?_
    exact Sm_weak (le_n le_0) (hj3 _ (if_neg c3_0).symm)
set_option maxRecDepth 100000 in
set_option maxHeartbeats 4000000 in
theorem s_St_length_8abf5 {D : Nat} (hD : 1 ≤ D) (N : Nat) {sx : Nat} (hk_sx : sh_k sx = 42) {μ : MM} {r : Int32} {μr : MM} (h : f_St_length_8abf5 N sx μ = some (r, μr)) : Cl D mJ0_length_8abf5 [av_r sx] μ (po_i r μr) := by
  obtain ⟨d, rfl⟩ : ∃ d, D = d + 1 := ⟨D - 1, by omega⟩
  refine Cl_of pn_J0 (Nat.le_of_ble_eq_true rfl) ?_
  show Sm (d + 1) mJ0_length_8abf5 0 [some (av_r sx)] [] μ (po_i r μr)
  unfold f_St_length_8abf5 at h
  refine sm_aload_n dJ0_length_8abf5_0 rfl rfl ?_
  refine sm_stval dJ0_length_8abf5_1 cs_RJ0_9 hk_sx ?_
  refine sm_stlen dJ0_length_8abf5_4 (kk_st hk_sx) ?_
  refine sm_aload_n dJ0_length_8abf5_5 rfl rfl ?_
  obtain ⟨t6, μ1z, g1, h⟩ := ob_some h
  refine sm_callT dJ0_length_8abf5_6 cv_J0_coder_7d493 ml_RJ0_335 hk_sx rfl (as := []) rfl (Nat.le_of_ble_eq_true rfl) rfl (s_St_coder_7d493 (D := d) (by omega) N hk_sx g1) (fun r9 μ9 hp => ?_)
  rw [hp.1, hp.2]
  clear hp r9 μ9
  refine sm_ishr dJ0_length_8abf5_9 ?_
  cases h
  exact sm_ret_i (st := []) dJ0_length_8abf5_10 rfl ⟨rfl, rfl⟩
set_option maxRecDepth 100000 in
set_option maxHeartbeats 4000000 in
theorem s_Sl_canEncode_9a6ad {D : Nat} (hD : 0 ≤ D) (N : Nat) {x0 : Int32} {μ : MM} {r : Int32} {μr : MM} (h : f_Sl_canEncode_9a6ad N x0 μ = some (r, μr)) : Cl D mJ1_canEncode_9a6ad [av_i x0] μ (po_i r μr) := by
  refine Cl_of pn_J1 (Nat.le_of_ble_eq_true rfl) ?_
  show Sm D mJ1_canEncode_9a6ad 0 [some (av_i x0)] [] μ (po_i r μr)
  unfold f_Sl_canEncode_9a6ad at h
  refine sm_iload_n dJ1_canEncode_9a6ad_0 rfl rfl ?_
  refine sm_if_lt (tgt := 15) dJ1_canEncode_9a6ad_1 (by decide) (fun g1 => ?_) (fun g1 => ?_)
  · replace h := it_t g1 h
    refine sm_iconst dJ1_canEncode_9a6ad_15 ic_0 ?_
    cases h
    exact sm_ret_z (st := []) dJ1_canEncode_9a6ad_16 rfl rfl ⟨rfl, rfl⟩
  · replace h := it_f g1 h
    refine sm_iload_n dJ1_canEncode_9a6ad_4 rfl rfl ?_
    refine sm_sipush dJ1_canEncode_9a6ad_5 sp_255 ?_
    refine sm_icmp_gt (tgt := 15) dJ1_canEncode_9a6ad_8 (by decide) (fun g2 => ?_) (fun g2 => ?_)
    · replace h := it_t g2 h
      refine sm_iconst dJ1_canEncode_9a6ad_15 ic_0 ?_
      cases h
      exact sm_ret_z (st := []) dJ1_canEncode_9a6ad_16 rfl rfl ⟨rfl, rfl⟩
    · replace h := it_f g2 h
      refine sm_iconst dJ1_canEncode_9a6ad_11 ic_1 ?_
      refine sm_goto (tgt := 16) dJ1_canEncode_9a6ad_12 (by decide) ?_
      cases h
      exact sm_ret_z (st := []) dJ1_canEncode_9a6ad_16 rfl rfl ⟨rfl, rfl⟩
set_option maxRecDepth 100000 in
set_option maxHeartbeats 4000000 in
theorem s_Sl_indexOfChar_4cfef_L7 {D : Nat} (hD : 0 ≤ D) (N : Nat) {q0 : Nat} (hk_q0 : sh_k q0 = 41) {r : Int32} {μr : MM} : ∀ (n : Nat) (x3 : Int32) (x4 : Int32) (x5 : Int32) (μ : MM), f_Sl_indexOfChar_4cfef_L7 N q0 n x3 x4 x5 μ = some (r, μr) → Sm D mJ1_indexOfChar_4cfef 7 [some (av_r q0), none, none, some (av_i x3), some (av_i x4), some (av_i x5)] [] μ (po_i r μr) := by
  intro n
  induction n with
  | zero => intro x3 x4 x5 μ h; cases (show none = some (r, μr) from h)
  | succ n ih =>
    intro x3 x4 x5 μ h
    rw [f_Sl_indexOfChar_4cfef_L7] at h
    refine sm_iload dJ1_indexOfChar_4cfef_7 rfl ?_
    refine sm_iload_n dJ1_indexOfChar_4cfef_9 rfl rfl ?_
    refine sm_icmp_ge (tgt := 31) dJ1_indexOfChar_4cfef_10 (by decide) (fun g1 => ?_) (fun g1 => ?_)
    · replace h := it_t g1 h
      refine sm_iconst dJ1_indexOfChar_4cfef_31 ic_m1 ?_
      cases h
      exact sm_ret_i (st := []) dJ1_indexOfChar_4cfef_32 rfl ⟨rfl, rfl⟩
    · replace h := it_f g1 h
      refine sm_aload_n dJ1_indexOfChar_4cfef_13 rfl rfl ?_
      refine sm_iload dJ1_indexOfChar_4cfef_14 rfl ?_
      obtain ⟨g2, h⟩ := gd_some h
      refine sm_stald (j := (Int32.toNatClampNeg x5)) dJ1_indexOfChar_4cfef_16 hk_q0 (in_sz rfl g2) rfl ?_
      refine sm_iload dJ1_indexOfChar_4cfef_17 rfl ?_
      refine sm_icmp_ne (tgt := 25) dJ1_indexOfChar_4cfef_19 (by decide) (fun g3 => ?_) (fun g3 => ?_)
      · replace h := it_f g3 h
        refine sm_iinc dJ1_indexOfChar_4cfef_25 rfl (congrArg (HAdd.hAdd x5) ic_1) (Nat.le_of_ble_eq_true rfl) (pv_i rfl) ?_
        refine sm_goto (tgt := 7) dJ1_indexOfChar_4cfef_28 (by decide) ?_
        exact Sm_weak (le_s rfl (le_n (le_n (le_s rfl (le_s rfl (le_s rfl le_0)))))) (ih x3 x4 (x5 + 1) μ h)
      · replace h := it_t g3 h
        refine sm_iload dJ1_indexOfChar_4cfef_22 rfl ?_
        cases h
        exact sm_ret_i (st := []) dJ1_indexOfChar_4cfef_24 rfl ⟨rfl, rfl⟩
set_option maxRecDepth 100000 in
set_option maxHeartbeats 4000000 in
theorem s_Sl_indexOfChar_4cfef {D : Nat} (hD : 0 ≤ D) (N : Nat) {q0 : Nat} (hk_q0 : sh_k q0 = 41) {x1 : Int32} {x2 : Int32} {x3 : Int32} {μ : MM} {r : Int32} {μr : MM} (h : f_Sl_indexOfChar_4cfef N q0 x1 x2 x3 μ = some (r, μr)) : Cl D mJ1_indexOfChar_4cfef [av_r q0, av_i x1, av_i x2, av_i x3] μ (po_i r μr) := by
  refine Cl_of pn_J1 (Nat.le_of_ble_eq_true rfl) ?_
  show Sm D mJ1_indexOfChar_4cfef 0 [some (av_r q0), some (av_i x1), some (av_i x2), some (av_i x3), none, none] [] μ (po_i r μr)
  unfold f_Sl_indexOfChar_4cfef at h
  refine sm_iload_n dJ1_indexOfChar_4cfef_0 rfl rfl ?_
  refine sm_i2b dJ1_indexOfChar_4cfef_1 ?_
  refine sm_istore dJ1_indexOfChar_4cfef_2 (Nat.le_of_ble_eq_true rfl) (pv_i rfl) ?_
  refine sm_iload_n dJ1_indexOfChar_4cfef_4 rfl rfl ?_
  refine sm_istore dJ1_indexOfChar_4cfef_5 (Nat.le_of_ble_eq_true rfl) (pv_i rfl) ?_
  exact Sm_weak (le_s rfl (le_n (le_n (le_s rfl (le_s rfl (le_s rfl le_0)))))) (s_Sl_indexOfChar_4cfef_L7 hD N hk_q0 N x3 ((Int32.toInt8 x1).toInt32) x2 μ h)
set_option maxRecDepth 100000 in
set_option maxHeartbeats 4000000 in
theorem s_Sl_indexOf_4cfef {D : Nat} (hD : 1 ≤ D) (N : Nat) {q0 : Nat} (hk_q0 : sh_k q0 = 41) {x1 : Int32} {x2 : Int32} {x3 : Int32} {μ : MM} {r : Int32} {μr : MM} (h : f_Sl_indexOf_4cfef N q0 x1 x2 x3 μ = some (r, μr)) : Cl D mJ1_indexOf_4cfef [av_r q0, av_i x1, av_i x2, av_i x3] μ (po_i r μr) := by
  obtain ⟨d, rfl⟩ : ∃ d, D = d + 1 := ⟨D - 1, by omega⟩
  refine Cl_of pn_J1 (Nat.le_of_ble_eq_true rfl) ?_
  show Sm (d + 1) mJ1_indexOf_4cfef 0 [some (av_r q0), some (av_i x1), some (av_i x2), some (av_i x3)] [] μ (po_i r μr)
  unfold f_Sl_indexOf_4cfef at h
  refine sm_iload_n dJ1_indexOf_4cfef_0 rfl rfl ?_
  obtain ⟨t1, μ1z, g1, h⟩ := ob_some h
  refine sm_callS dJ1_indexOf_4cfef_1 cs_J1_canEncode_9a6ad ml_RJ1_88 (as := [av_i x1]) rfl (Nat.le_of_ble_eq_true rfl) rfl (s_Sl_canEncode_9a6ad (D := d) (by omega) N g1) (fun r9 μ9 hp => ?_)
  rw [hp.1, hp.2]
  clear hp r9 μ9
  refine sm_if_ne (tgt := 9) dJ1_indexOf_4cfef_4 (by decide) (fun g2 => ?_) (fun g2 => ?_)
  · replace h := it_f g2 h
    refine sm_iload_n dJ1_indexOf_4cfef_9 rfl rfl ?_
    refine sm_iconst dJ1_indexOf_4cfef_10 ic_0 ?_
    refine sm_max dJ1_indexOf_4cfef_11 ml_RJ1_92 (Nat.le_of_ble_eq_true rfl) ?_
    refine sm_istore_n dJ1_indexOf_4cfef_14 rfl (Nat.le_of_ble_eq_true rfl) (pv_i rfl) ?_
    refine sm_iload_n dJ1_indexOf_4cfef_15 rfl rfl ?_
    refine sm_aload_n dJ1_indexOf_4cfef_16 rfl rfl ?_
    refine sm_stlen dJ1_indexOf_4cfef_17 hk_q0 ?_
    refine sm_min dJ1_indexOf_4cfef_18 ml_RJ1_38 (Nat.le_of_ble_eq_true rfl) ?_
    refine sm_istore_n dJ1_indexOf_4cfef_21 rfl (Nat.le_of_ble_eq_true rfl) (pv_i rfl) ?_
    refine sm_iload_n dJ1_indexOf_4cfef_22 rfl rfl ?_
    refine sm_iload_n dJ1_indexOf_4cfef_23 rfl rfl ?_
    refine sm_icmp_lt (tgt := 29) dJ1_indexOf_4cfef_24 (by decide) (fun g3 => ?_) (fun g3 => ?_)
    · replace h := it_t g3 h
      refine sm_aload_n dJ1_indexOf_4cfef_29 rfl rfl ?_
      refine sm_iload_n dJ1_indexOf_4cfef_30 rfl rfl ?_
      refine sm_iload_n dJ1_indexOf_4cfef_31 rfl rfl ?_
      refine sm_iload_n dJ1_indexOf_4cfef_32 rfl rfl ?_
      obtain ⟨t33, μ2z, g4, h⟩ := ob_some h
      refine sm_callS dJ1_indexOf_4cfef_33 cs_J1_indexOfChar_4cfef ml_RJ1_95 (as := [av_r q0, av_i x1, av_i (if x2 < (0 : Int32) then (0 : Int32) else x2), av_i (if (Int32.ofNat (sh_n q0)) < x3 then (Int32.ofNat (sh_n q0)) else x3)]) rfl (Nat.le_of_ble_eq_true rfl) rfl (s_Sl_indexOfChar_4cfef (D := d) (by omega) N hk_q0 g4) (fun r9 μ9 hp => ?_)
      rw [hp.1, hp.2]
      clear hp r9 μ9
      cases h
      exact sm_ret_i (st := []) dJ1_indexOf_4cfef_36 rfl ⟨rfl, rfl⟩
    · replace h := it_f g3 h
      refine sm_iconst dJ1_indexOf_4cfef_27 ic_m1 ?_
      cases h
      exact sm_ret_i (st := []) dJ1_indexOf_4cfef_28 rfl ⟨rfl, rfl⟩
  · replace h := it_t g2 h
    refine sm_iconst dJ1_indexOf_4cfef_7 ic_m1 ?_
    cases h
    exact sm_ret_i (st := []) dJ1_indexOf_4cfef_8 rfl ⟨rfl, rfl⟩
set_option maxRecDepth 100000 in
set_option maxHeartbeats 4000000 in
theorem s_St_indexOf_7cf53 {D : Nat} (hD : 2 ≤ D) (N : Nat) {sx : Nat} (hk_sx : sh_k sx = 42) {x1 : Int32} {x2 : Int32} {μ : MM} {r : Int32} {μr : MM} (h : f_St_indexOf_7cf53 N sx x1 x2 μ = some (r, μr)) : Cl D mJ0_indexOf_7cf53 [av_r sx, av_i x1, av_i x2] μ (po_i r μr) := by
  obtain ⟨d, rfl⟩ : ∃ d, D = d + 1 := ⟨D - 1, by omega⟩
  refine Cl_of pn_J0 (Nat.le_of_ble_eq_true rfl) ?_
  show Sm (d + 1) mJ0_indexOf_7cf53 0 [some (av_r sx), some (av_i x1), some (av_i x2)] [] μ (po_i r μr)
  unfold f_St_indexOf_7cf53 at h
  refine sm_aload_n dJ0_indexOf_7cf53_0 rfl rfl ?_
  obtain ⟨t1, μ1z, g1, h⟩ := ob_some h
  refine sm_callT dJ0_indexOf_7cf53_1 cv_J0_isLatin1_aae02 ml_RJ0_492 hk_sx rfl (as := []) rfl (Nat.le_of_ble_eq_true rfl) rfl (s_St_isLatin1_aae02 (D := d) (by omega) N hk_sx g1) (fun r9 μ9 hp => ?_)
  rw [hp.1, hp.2]
  clear hp r9 μ9
  refine sm_if_eq (tgt := 23) dJ0_indexOf_7cf53_4 (by decide) (fun g2 => ?_) (fun g2 => ?_)
  · replace h := it_t g2 h
    refine sm_aload_n dJ0_indexOf_7cf53_23 rfl rfl ?_
    refine sm_stval dJ0_indexOf_7cf53_24 cs_RJ0_9 hk_sx ?_
    refine sm_iload_n dJ0_indexOf_7cf53_27 rfl rfl ?_
    refine sm_iload_n dJ0_indexOf_7cf53_28 rfl rfl ?_
    refine sm_aload_n dJ0_indexOf_7cf53_29 rfl rfl ?_
    obtain ⟨t30, μ2z, g3, h⟩ := ob_some h
    refine sm_callT dJ0_indexOf_7cf53_30 cv_J0_length_8abf5 ml_RJ0_505 hk_sx rfl (as := []) rfl (Nat.le_of_ble_eq_true rfl) rfl (s_St_length_8abf5 (D := d) (by omega) N hk_sx g3) (fun r9 μ9 hp => ?_)
    rw [hp.1, hp.2]
    clear hp r9 μ9
    cases h
  · replace h := it_f g2 h
    refine sm_aload_n dJ0_indexOf_7cf53_7 rfl rfl ?_
    refine sm_stval dJ0_indexOf_7cf53_8 cs_RJ0_9 hk_sx ?_
    refine sm_iload_n dJ0_indexOf_7cf53_11 rfl rfl ?_
    refine sm_iload_n dJ0_indexOf_7cf53_12 rfl rfl ?_
    refine sm_aload_n dJ0_indexOf_7cf53_13 rfl rfl ?_
    obtain ⟨t14, μ3z, g4, h⟩ := ob_some h
    refine sm_callT dJ0_indexOf_7cf53_14 cv_J0_length_8abf5 ml_RJ0_505 hk_sx rfl (as := []) rfl (Nat.le_of_ble_eq_true rfl) rfl (s_St_length_8abf5 (D := d) (by omega) N hk_sx g4) (fun r9 μ9 hp => ?_)
    rw [hp.1, hp.2]
    clear hp r9 μ9
    obtain ⟨t17, μ4z, g5, h⟩ := ob_some h
    refine sm_callS dJ0_indexOf_7cf53_17 cs_J1_indexOf_4cfef ml_RJ0_637 (as := [av_r (sx + 1000), av_i x1, av_i x2, av_i t14]) rfl (Nat.le_of_ble_eq_true rfl) rfl (s_Sl_indexOf_4cfef (D := d) (by omega) N (kk_st hk_sx) g5) (fun r9 μ9 hp => ?_)
    rw [hp.1, hp.2]
    clear hp r9 μ9
    refine sm_goto (tgt := 36) dJ0_indexOf_7cf53_20 (by decide) ?_
    cases h
    exact sm_ret_i (st := []) dJ0_indexOf_7cf53_36 rfl ⟨rfl, rfl⟩
set_option maxRecDepth 100000 in
set_option maxHeartbeats 4000000 in
theorem s_St_indexOf_0f7a4 {D : Nat} (hD : 3 ≤ D) (N : Nat) {sx : Nat} (hk_sx : sh_k sx = 42) {x1 : Int32} {μ : MM} {r : Int32} {μr : MM} (h : f_St_indexOf_0f7a4 N sx x1 μ = some (r, μr)) : Cl D mJ0_indexOf_0f7a4 [av_r sx, av_i x1] μ (po_i r μr) := by
  obtain ⟨d, rfl⟩ : ∃ d, D = d + 1 := ⟨D - 1, by omega⟩
  refine Cl_of pn_J0 (Nat.le_of_ble_eq_true rfl) ?_
  show Sm (d + 1) mJ0_indexOf_0f7a4 0 [some (av_r sx), some (av_i x1)] [] μ (po_i r μr)
  unfold f_St_indexOf_0f7a4 at h
  refine sm_aload_n dJ0_indexOf_0f7a4_0 rfl rfl ?_
  refine sm_iload_n dJ0_indexOf_0f7a4_1 rfl rfl ?_
  refine sm_iconst dJ0_indexOf_0f7a4_2 ic_0 ?_
  obtain ⟨t3, μ1z, g1, h⟩ := ob_some h
  refine sm_callT dJ0_indexOf_0f7a4_3 cv_J0_indexOf_7cf53 ml_RJ0_633 hk_sx rfl (as := [av_i x1, av_i 0]) rfl (Nat.le_of_ble_eq_true rfl) rfl (s_St_indexOf_7cf53 (D := d) (by omega) N hk_sx g1) (fun r9 μ9 hp => ?_)
  rw [hp.1, hp.2]
  clear hp r9 μ9
  cases h
  exact sm_ret_i (st := []) dJ0_indexOf_0f7a4_6 rfl ⟨rfl, rfl⟩
set_option maxRecDepth 100000 in
set_option maxHeartbeats 4000000 in
theorem s_Lr_emit {D : Nat} (hD : 0 ≤ D) (N : Nat) {x1 : Int32} {μ : MM} {r : Int32} {μr : MM} (h : f_Lr_emit N x1 μ = some (r, μr)) : Cl D mX4_emit [av_r 21, av_i x1] μ (po_i r μr) := by
  refine Cl_of pn_X4 (Nat.le_of_ble_eq_true rfl) ?_
  show Sm D mX4_emit 0 [some (av_r 21), some (av_i x1)] [] μ (po_i r μr)
  unfold f_Lr_emit at h
  refine sm_aload_n dX4_emit_0 rfl rfl ?_
  refine sm_getI dX4_emit_1 fg_RX4_17 k_21 ?_
  refine sm_aload_n dX4_emit_4 rfl rfl ?_
  refine sm_getR dX4_emit_5 fg_RX4_11 k_21 (rf_4_1 k_21) ?_
  refine sm_alen dX4_emit_8 k_22 (by decide) (by decide) (al_eq (n_22) ?_)
  refine sm_icmp_lt (tgt := 14) dX4_emit_9 (by decide) (fun g1 => ?_) (fun g1 => ?_)
  · replace h := it_t g1 h
    refine sm_aload_n dX4_emit_14 rfl rfl ?_
    refine sm_getR dX4_emit_15 fg_RX4_11 k_21 (rf_4_1 k_21) ?_
    refine sm_aload_n dX4_emit_18 rfl rfl ?_
    refine sm_getI dX4_emit_19 fg_RX4_17 k_21 ?_
    refine sm_iload_n dX4_emit_22 rfl rfl ?_
    obtain ⟨g2, h⟩ := gd_some h
    refine sm_iast (j := (Int32.toNatClampNeg (μ.1 21 2))) dX4_emit_23 k_22 (in_sz n_22 g2) rfl ?_
    replace h := wr_some h
    refine sm_aload_n dX4_emit_24 rfl rfl ?_
    refine sm_dup dX4_emit_25 rfl ?_
    refine sm_getI dX4_emit_26 fg_RX4_17 k_21 ?_
    refine sm_iconst dX4_emit_29 ic_1 ?_
    refine sm_iadd dX4_emit_30 ?_
    refine sm_putI dX4_emit_31 fp_RX4_17 k_21 ?_
    replace h := wr_some h
    refine sm_iconst dX4_emit_34 ic_1 ?_
    cases h
    exact sm_ret_z (st := []) dX4_emit_35 rfl rfl ⟨rfl, rfl⟩
  · replace h := it_f g1 h
    refine sm_iconst dX4_emit_12 ic_0 ?_
    cases h
    exact sm_ret_z (st := []) dX4_emit_13 rfl rfl ⟨rfl, rfl⟩
set_option maxRecDepth 100000 in
set_option maxHeartbeats 4000000 in
theorem s_Ta_readNumber_B118 {D : Nat} (hD : 0 ≤ D) (N : Nat) {r : Int32} {μr : MM} (x4 : Int32) (x5 : Int32) (μ : MM) (h : f_Ta_readNumber_B118 N x4 x5 μ = some (r, μr)) : Sm D mX8_readNumber 118 [none, none, none, none, some (av_i x4), some (av_i x5)] [] μ (po_i r μr) := by
  unfold f_Ta_readNumber_B118 at h
  refine sm_iload dX8_readNumber_118 rfl ?_
  have hj120 : ∀ (v120_0 : Int32), v120_0 = (if x5 ≤ 0 then ((-1) : Int32) else x4) → Sm D mX8_readNumber 129 [none, none, none, none, none, none] [av_i v120_0] μ (po_i r μr) := by
    intro v120_0 ev120_0
    subst ev120_0
    cases h
    exact sm_ret_i (st := []) dX8_readNumber_129 rfl ⟨rfl, rfl⟩
  refine sm_if_le (tgt := 128) dX8_readNumber_120 (by decide) (fun c120_0 => ?_) (fun c120_0 => ?_)
  · refine sm_iconst dX8_readNumber_128 ic_m1 ?_
    exact Sm_weak (le_n (le_n (le_n (le_n (le_n (le_n le_0)))))) (hj120 _ (if_pos c120_0).symm)
  · refine sm_iload dX8_readNumber_123 rfl ?_
    refine sm_goto (tgt := 129) dX8_readNumber_125 (by decide) ?_
    exact Sm_weak (le_n (le_n (le_n (le_n (le_n (le_n le_0)))))) (hj120 _ (if_neg c120_0).symm)
set_option maxRecDepth 100000 in
set_option maxHeartbeats 4000000 in
theorem s_Ta_readNumber_B106 {D : Nat} (hD : 0 ≤ D) (N : Nat) {r : Int32} {μr : MM} (μ : MM) (h : f_Ta_readNumber_B106 N μ = some (r, μr)) : Sm D mX8_readNumber 106 [some (av_r 1), none, none, none, none, none] [] μ (po_i r μr) := by
  unfold f_Ta_readNumber_B106 at h
  refine sm_aload_n dX8_readNumber_106 rfl rfl ?_
  refine sm_dup dX8_readNumber_107 rfl ?_
  refine sm_getI dX8_readNumber_108 fg_RX8_19 k_1 ?_
  refine sm_iconst dX8_readNumber_111 ic_1 ?_
  refine sm_isub dX8_readNumber_112 ?_
  refine sm_putI dX8_readNumber_113 fp_RX8_19 k_1 ?_
  replace h := wr_some h
  refine sm_iconst dX8_readNumber_116 ic_m1 ?_
  cases h
  exact sm_ret_i (st := []) dX8_readNumber_117 rfl ⟨rfl, rfl⟩
set_option maxRecDepth 100000 in
set_option maxHeartbeats 4000000 in
theorem s_Ta_readNumber_B89 {D : Nat} (hD : 0 ≤ D) (N : Nat) {r : Int32} {μr : MM} (x2 : Int32) (x3 : Int32) (x4 : Int32) (x5 : Int32) (μ : MM) (h : f_Ta_readNumber_B89 N x2 x3 x4 x5 μ = some (r, μr)) : Sm D mX8_readNumber 89 [some (av_r 1), none, some (av_i x2), some (av_i x3), some (av_i x4), some (av_i x5)] [] μ (po_i r μr) := by
  unfold f_Ta_readNumber_B89 at h
  refine sm_iload dX8_readNumber_89 rfl ?_
  refine sm_if_le (tgt := 118) dX8_readNumber_91 (by decide) (fun g2 => ?_) (fun g2 => ?_)
  · replace h := it_t g2 h
    exact Sm_weak (le_n (le_n (le_n (le_n (le_s rfl (le_s rfl le_0)))))) (s_Ta_readNumber_B118 hD N x4 x5 μ h)
  · replace h := it_f g2 h
    refine sm_iload dX8_readNumber_94 rfl ?_
    refine sm_iload_n dX8_readNumber_96 rfl rfl ?_
    refine sm_icmp_lt (tgt := 106) dX8_readNumber_97 (by decide) (fun g3 => ?_) (fun g3 => ?_)
    · replace h := it_t g3 h
      exact Sm_weak (le_s rfl (le_n (le_n (le_n (le_n (le_n le_0)))))) (s_Ta_readNumber_B106 hD N  μ h)
    · replace h := it_f g3 h
      refine sm_iload dX8_readNumber_100 rfl ?_
      refine sm_iload_n dX8_readNumber_102 rfl rfl ?_
      refine sm_icmp_le (tgt := 118) dX8_readNumber_103 (by decide) (fun g4 => ?_) (fun g4 => ?_)
      · replace h := it_t g4 h
        exact Sm_weak (le_n (le_n (le_n (le_n (le_s rfl (le_s rfl le_0)))))) (s_Ta_readNumber_B118 hD N x4 x5 μ h)
      · replace h := it_f g4 h
        exact Sm_weak (le_s rfl (le_n (le_n (le_n (le_n (le_n le_0)))))) (s_Ta_readNumber_B106 hD N  μ h)
set_option maxRecDepth 100000 in
set_option maxHeartbeats 4000000 in
theorem s_Ta_readNumber_L6 {D : Nat} (hD : 0 ≤ D) (N : Nat) {r : Int32} {μr : MM} : ∀ (n : Nat) (x1 : Int32) (x2 : Int32) (x3 : Int32) (x4 : Int32) (x5 : Int32) (μ : MM), f_Ta_readNumber_L6 N n x1 x2 x3 x4 x5 μ = some (r, μr) → Sm D mX8_readNumber 6 [some (av_r 1), some (av_i x1), some (av_i x2), some (av_i x3), some (av_i x4), some (av_i x5)] [] μ (po_i r μr) := by
  intro n
  induction n with
  | zero => intro x1 x2 x3 x4 x5 μ h; cases (show none = some (r, μr) from h)
  | succ n ih =>
    intro x1 x2 x3 x4 x5 μ h
    rw [f_Ta_readNumber_L6] at h
    refine sm_aload_n dX8_readNumber_6 rfl rfl ?_
    refine sm_getI dX8_readNumber_7 fg_RX8_19 k_1 ?_
    refine sm_aload_n dX8_readNumber_10 rfl rfl ?_
    refine sm_getI dX8_readNumber_11 fg_RX8_15 k_1 ?_
    refine sm_icmp_ge (tgt := 89) dX8_readNumber_14 (by decide) (fun g1 => ?_) (fun g1 => ?_)
    · replace h := it_t g1 h
      exact Sm_weak (le_s rfl (le_n (le_s rfl (le_s rfl (le_s rfl (le_s rfl le_0)))))) (s_Ta_readNumber_B89 hD N x2 x3 x4 x5 μ h)
    · replace h := it_f g1 h
      refine sm_aload_n dX8_readNumber_17 rfl rfl ?_
      refine sm_getR dX8_readNumber_18 fg_RX8_11 k_1 (rf_8_0 k_1) ?_
      refine sm_aload_n dX8_readNumber_21 rfl rfl ?_
      refine sm_getI dX8_readNumber_22 fg_RX8_19 k_1 ?_
      obtain ⟨g5, h⟩ := gd_some h
      refine sm_iald (j := (Int32.toNatClampNeg (μ.1 1 2))) dX8_readNumber_25 k_2 (in_sz n_2 g5) rfl ?_
      refine sm_bipush dX8_readNumber_26 bp_48 ?_
      refine sm_icmp_lt (tgt := 89) dX8_readNumber_28 (by decide) (fun g6 => ?_) (fun g6 => ?_)
      · replace h := it_t g6 h
        exact Sm_weak (le_s rfl (le_n (le_s rfl (le_s rfl (le_s rfl (le_s rfl le_0)))))) (s_Ta_readNumber_B89 hD N x2 x3 x4 x5 μ h)
      · replace h := it_f g6 h
        refine sm_aload_n dX8_readNumber_31 rfl rfl ?_
        refine sm_getR dX8_readNumber_32 fg_RX8_11 k_1 (rf_8_0 k_1) ?_
        refine sm_aload_n dX8_readNumber_35 rfl rfl ?_
        refine sm_getI dX8_readNumber_36 fg_RX8_19 k_1 ?_
        obtain ⟨g7, h⟩ := gd_some h
        refine sm_iald (j := (Int32.toNatClampNeg (μ.1 1 2))) dX8_readNumber_39 k_2 (in_sz n_2 g7) rfl ?_
        refine sm_bipush dX8_readNumber_40 bp_57 ?_
        refine sm_icmp_gt (tgt := 89) dX8_readNumber_42 (by decide) (fun g8 => ?_) (fun g8 => ?_)
        · replace h := it_t g8 h
          exact Sm_weak (le_s rfl (le_n (le_s rfl (le_s rfl (le_s rfl (le_s rfl le_0)))))) (s_Ta_readNumber_B89 hD N x2 x3 x4 x5 μ h)
        · replace h := it_f g8 h
          refine sm_iload dX8_readNumber_45 rfl ?_
          refine sm_iload_n dX8_readNumber_47 rfl rfl ?_
          refine sm_icmp_ne (tgt := 53) dX8_readNumber_48 (by decide) (fun g9 => ?_) (fun g9 => ?_)
          · replace h := it_f g9 h
            refine sm_iload dX8_readNumber_53 rfl ?_
            refine sm_bipush dX8_readNumber_55 bp_10 ?_
            refine sm_imul dX8_readNumber_57 ?_
            refine sm_aload_n dX8_readNumber_58 rfl rfl ?_
            refine sm_getR dX8_readNumber_59 fg_RX8_11 k_1 (rf_8_0 k_1) ?_
            refine sm_aload_n dX8_readNumber_62 rfl rfl ?_
            refine sm_getI dX8_readNumber_63 fg_RX8_19 k_1 ?_
            obtain ⟨g10, h⟩ := gd_some h
            refine sm_iald (j := (Int32.toNatClampNeg (μ.1 1 2))) dX8_readNumber_66 k_2 (in_sz n_2 g10) rfl ?_
            refine sm_iadd dX8_readNumber_67 ?_
            refine sm_bipush dX8_readNumber_68 bp_48 ?_
            refine sm_isub dX8_readNumber_70 ?_
            refine sm_istore dX8_readNumber_71 (Nat.le_of_ble_eq_true rfl) (pv_i rfl) ?_
            refine sm_aload_n dX8_readNumber_73 rfl rfl ?_
            refine sm_dup dX8_readNumber_74 rfl ?_
            refine sm_getI dX8_readNumber_75 fg_RX8_19 k_1 ?_
            refine sm_iconst dX8_readNumber_78 ic_1 ?_
            refine sm_iadd dX8_readNumber_79 ?_
            refine sm_putI dX8_readNumber_80 fp_RX8_19 k_1 ?_
            replace h := wr_some h
            refine sm_iinc dX8_readNumber_83 rfl (congrArg (HAdd.hAdd x5) ic_1) (Nat.le_of_ble_eq_true rfl) (pv_i rfl) ?_
            refine sm_goto (tgt := 6) dX8_readNumber_86 (by decide) ?_
            exact Sm_weak (le_s rfl (le_s rfl (le_s rfl (le_s rfl (le_s rfl (le_s rfl le_0)))))) (ih x1 x2 x3 (((x4 * 10) + (μ.1 2 (Int32.toNatClampNeg (μ.1 1 2)))) - 48) (x5 + 1) (mm_I μ 1 2 ((μ.1 1 2) + 1)) h)
          · replace h := it_t g9 h
            refine sm_iconst dX8_readNumber_51 ic_m1 ?_
            cases h
            exact sm_ret_i (st := []) dX8_readNumber_52 rfl ⟨rfl, rfl⟩
set_option maxRecDepth 100000 in
set_option maxHeartbeats 4000000 in
theorem s_Ta_readNumber {D : Nat} (hD : 0 ≤ D) (N : Nat) {x1 : Int32} {x2 : Int32} {x3 : Int32} {μ : MM} {r : Int32} {μr : MM} (h : f_Ta_readNumber N x1 x2 x3 μ = some (r, μr)) : Cl D mX8_readNumber [av_r 1, av_i x1, av_i x2, av_i x3] μ (po_i r μr) := by
  refine Cl_of pn_X8 (Nat.le_of_ble_eq_true rfl) ?_
  show Sm D mX8_readNumber 0 [some (av_r 1), some (av_i x1), some (av_i x2), some (av_i x3), none, none] [] μ (po_i r μr)
  unfold f_Ta_readNumber at h
  refine sm_iconst dX8_readNumber_0 ic_0 ?_
  refine sm_istore dX8_readNumber_1 (Nat.le_of_ble_eq_true rfl) (pv_i rfl) ?_
  refine sm_iconst dX8_readNumber_3 ic_0 ?_
  refine sm_istore dX8_readNumber_4 (Nat.le_of_ble_eq_true rfl) (pv_i rfl) ?_
  exact Sm_weak (le_s rfl (le_s rfl (le_s rfl (le_s rfl (le_s rfl (le_s rfl le_0)))))) (s_Ta_readNumber_L6 hD N N x1 x2 x3 0 0 μ h)
set_option maxRecDepth 100000 in
set_option maxHeartbeats 4000000 in
theorem s_Lr_joining {D : Nat} (hD : 0 ≤ D) (N : Nat) {x1 : Int32} {μ : MM} {r : Int32} {μr : MM} (h : f_Lr_joining N x1 μ = some (r, μr)) : Cl D mX4_joining [av_r 21, av_i x1] μ (po_i r μr) := by
  refine Cl_of pn_X4 (Nat.le_of_ble_eq_true rfl) ?_
  show Sm D mX4_joining 0 [some (av_r 21), some (av_i x1)] [] μ (po_i r μr)
  unfold f_Lr_joining at h
  refine sm_iload_n dX4_joining_0 rfl rfl ?_
  by_cases g1 : x1 = 42
  · replace h := it_t g1 h
    refine sm_tsw_at (tgt := 46) dX4_joining_1 g1 (by decide) (by decide) trivial rfl (by decide) ?_
    refine sm_bipush dX4_joining_46 bp_m13 ?_
    cases h
    exact sm_ret_i (st := []) dX4_joining_48 rfl ⟨rfl, rfl⟩
  · replace h := it_f g1 h
    by_cases g2 : x1 = 43
    · replace h := it_t g2 h
      refine sm_tsw_at (tgt := 40) dX4_joining_1 g2 (by decide) (by decide) trivial rfl (by decide) ?_
      refine sm_bipush dX4_joining_40 bp_m11 ?_
      cases h
      exact sm_ret_i (st := []) dX4_joining_42 rfl ⟨rfl, rfl⟩
    · replace h := it_f g2 h
      by_cases g3 : x1 = 44
      · replace h := it_t g3 h
        refine sm_tsw_at (tgt := 52) dX4_joining_1 g3 (by decide) (by decide) trivial rfl (by decide) ?_
        refine sm_iconst dX4_joining_52 ic_0 ?_
        cases h
        exact sm_ret_i (st := []) dX4_joining_53 rfl ⟨rfl, rfl⟩
      · replace h := it_f g3 h
        by_cases g4 : x1 = 45
        · replace h := it_t g4 h
          refine sm_tsw_at (tgt := 43) dX4_joining_1 g4 (by decide) (by decide) trivial rfl (by decide) ?_
          refine sm_bipush dX4_joining_43 bp_m12 ?_
          cases h
          exact sm_ret_i (st := []) dX4_joining_45 rfl ⟨rfl, rfl⟩
        · replace h := it_f g4 h
          by_cases g5 : x1 = 46
          · replace h := it_t g5 h
            refine sm_tsw_at (tgt := 52) dX4_joining_1 g5 (by decide) (by decide) trivial rfl (by decide) ?_
            refine sm_iconst dX4_joining_52 ic_0 ?_
            cases h
            exact sm_ret_i (st := []) dX4_joining_53 rfl ⟨rfl, rfl⟩
          · replace h := it_f g5 h
            by_cases g6 : x1 = 47
            · replace h := it_t g6 h
              refine sm_tsw_at (tgt := 49) dX4_joining_1 g6 (by decide) (by decide) trivial rfl (by decide) ?_
              refine sm_bipush dX4_joining_49 bp_m14 ?_
              cases h
              exact sm_ret_i (st := []) dX4_joining_51 rfl ⟨rfl, rfl⟩
            · replace h := it_f g6 h
              have eg1 : Int32.toInt x1 ≠ 42 := fun q => g1 (Int32.toInt_inj.mp (q.trans (by decide)))
              have eg2 : Int32.toInt x1 ≠ 43 := fun q => g2 (Int32.toInt_inj.mp (q.trans (by decide)))
              have eg3 : Int32.toInt x1 ≠ 44 := fun q => g3 (Int32.toInt_inj.mp (q.trans (by decide)))
              have eg4 : Int32.toInt x1 ≠ 45 := fun q => g4 (Int32.toInt_inj.mp (q.trans (by decide)))
              have eg5 : Int32.toInt x1 ≠ 46 := fun q => g5 (Int32.toInt_inj.mp (q.trans (by decide)))
              have eg6 : Int32.toInt x1 ≠ 47 := fun q => g6 (Int32.toInt_inj.mp (q.trans (by decide)))
              refine sm_tsw_out (tgt := 52) dX4_joining_1 (by omega) (by decide) ?_
              refine sm_iconst dX4_joining_52 ic_0 ?_
              cases h
              exact sm_ret_i (st := []) dX4_joining_53 rfl ⟨rfl, rfl⟩
set_option maxRecDepth 100000 in
set_option maxHeartbeats 4000000 in
theorem s_Lr_readSum_B127 {D : Nat} (hD : 4 ≤ D) (N : Nat) {rc_X4_readSum : Int32 → MM → Option (Int32 × MM)} (hrc_X4_readSum : ∀ (x1 : Int32) (μ : MM) (r : Int32) (μr : MM), rc_X4_readSum x1 μ = some (r, μr) → Cl (D - 1) mX4_readSum [av_r 21, av_i x1] μ (po_i r μr)) {rc_X4_readAtom : Int32 → MM → Option (Int32 × MM)} (hrc_X4_readAtom : ∀ (x1 : Int32) (μ : MM) (r : Int32) (μr : MM), rc_X4_readAtom x1 μ = some (r, μr) → Cl (D - 1) mX4_readAtom [av_r 21, av_i x1] μ (po_i r μr)) {r : Int32} {μr : MM} (x2 : Int32) (μ : MM) (h : f_Lr_readSum_B127 N rc_X4_readSum rc_X4_readAtom x2 μ = some (r, μr)) : Sm D mX4_readSum 127 [some (av_r 21), none, some (av_i x2), none, none, none] [] μ (po_i r μr) := by
  obtain ⟨d, rfl⟩ : ∃ d, D = d + 1 := ⟨D - 1, by omega⟩
  unfold f_Lr_readSum_B127 at h
  refine sm_iload_n dX4_readSum_127 rfl rfl ?_
  refine sm_if_eq (tgt := 139) dX4_readSum_128 (by decide) (fun g4 => ?_) (fun g4 => ?_)
  · replace h := it_t g4 h
    refine sm_iconst dX4_readSum_139 ic_1 ?_
    refine sm_goto (tgt := 144) dX4_readSum_140 (by decide) ?_
    cases h
    exact sm_ret_z (st := []) dX4_readSum_144 rfl rfl ⟨rfl, rfl⟩
  · replace h := it_f g4 h
    refine sm_aload_n dX4_readSum_131 rfl rfl ?_
    refine sm_iload_n dX4_readSum_132 rfl rfl ?_
    obtain ⟨t133, μ2z, g5, h⟩ := ob_some h
    refine sm_callV dX4_readSum_133 cv_X4_emit ml_RX4_34 k_21 rfl rfl (by decide) (as := [av_i x2]) rfl (Nat.le_of_ble_eq_true rfl) rfl (s_Lr_emit (D := d) (by omega) N g5) (fun r9 μ9 hp => ?_)
    rw [hp.1, hp.2]
    clear hp r9 μ9
    refine sm_if_eq (tgt := 143) dX4_readSum_136 (by decide) (fun g6 => ?_) (fun g6 => ?_)
    · replace h := it_t g6 h
      refine sm_iconst dX4_readSum_143 ic_0 ?_
      cases h
      exact sm_ret_z (st := []) dX4_readSum_144 rfl rfl ⟨rfl, rfl⟩
    · replace h := it_f g6 h
      refine sm_iconst dX4_readSum_139 ic_1 ?_
      refine sm_goto (tgt := 144) dX4_readSum_140 (by decide) ?_
      cases h
      exact sm_ret_z (st := []) dX4_readSum_144 rfl rfl ⟨rfl, rfl⟩
set_option maxRecDepth 100000 in
set_option maxHeartbeats 4000000 in
theorem s_Lr_readSum_B113 {D : Nat} (hD : 4 ≤ D) (N : Nat) {rc_X4_readSum : Int32 → MM → Option (Int32 × MM)} (hrc_X4_readSum : ∀ (x1 : Int32) (μ : MM) (r : Int32) (μr : MM), rc_X4_readSum x1 μ = some (r, μr) → Cl (D - 1) mX4_readSum [av_r 21, av_i x1] μ (po_i r μr)) {rc_X4_readAtom : Int32 → MM → Option (Int32 × MM)} (hrc_X4_readAtom : ∀ (x1 : Int32) (μ : MM) (r : Int32) (μr : MM), rc_X4_readAtom x1 μ = some (r, μr) → Cl (D - 1) mX4_readAtom [av_r 21, av_i x1] μ (po_i r μr)) {r : Int32} {μr : MM} {k14 : Int32 → Int32 → Int32 → MM → Option (Int32 × MM)} (hk14 : ∀ (x1 : Int32) (x2 : Int32) (x3 : Int32) (μ : MM), k14 x1 x2 x3 μ = some (r, μr) → Sm D mX4_readSum 14 [some (av_r 21), some (av_i x1), some (av_i x2), some (av_i x3), none, none] [] μ (po_i r μr)) (x1 : Int32) (x2 : Int32) (x3 : Int32) (x4 : Int32) (x5 : Int32) (μ : MM) (h : f_Lr_readSum_B113 N rc_X4_readSum rc_X4_readAtom k14 x1 x2 x3 x4 x5 μ = some (r, μr)) : Sm D mX4_readSum 113 [some (av_r 21), some (av_i x1), some (av_i x2), some (av_i x3), some (av_i x4), some (av_i x5)] [] μ (po_i r μr) := by
  obtain ⟨d, rfl⟩ : ∃ d, D = d + 1 := ⟨D - 1, by omega⟩
  unfold f_Lr_readSum_B113 at h
  refine sm_iload dX4_readSum_113 rfl ?_
  have hj115 : ∀ (v115_0 : Int32), v115_0 = (if x5 = 0 then x2 else x4) → Sm (d + 1) mX4_readSum 121 [some (av_r 21), some (av_i x1), some (av_i v115_0), some (av_i x3), none, none] [] μ (po_i r μr) := by
    intro v115_0 ev115_0
    subst ev115_0
    refine sm_iinc dX4_readSum_121 rfl (congrArg (HAdd.hAdd x3) ic_1) (Nat.le_of_ble_eq_true rfl) (pv_i rfl) ?_
    refine sm_goto (tgt := 14) dX4_readSum_124 (by decide) ?_
    exact Sm_weak (le_s rfl (le_s rfl (le_s rfl (le_s rfl (le_n (le_n le_0)))))) (hk14 x1 (if x5 = 0 then x2 else x4) (x3 + 1) μ h)
  refine sm_if_eq (tgt := 121) dX4_readSum_115 (by decide) (fun c115_0 => ?_) (fun c115_0 => ?_)
  · exact Sm_weak (le_s rfl (le_s rfl (le_s rfl (le_s rfl (le_n (le_n le_0)))))) (hj115 _ (if_pos c115_0).symm)
  · refine sm_iload dX4_readSum_118 rfl ?_
    refine sm_istore_n dX4_readSum_120 rfl (Nat.le_of_ble_eq_true rfl) (pv_i rfl) ?_
    exact Sm_weak (le_s rfl (le_s rfl (le_s rfl (le_s rfl (le_n (le_n le_0)))))) (hj115 _ (if_neg c115_0).symm)
set_option maxRecDepth 100000 in
set_option maxHeartbeats 4000000 in
theorem s_Lr_readSum_B89 {D : Nat} (hD : 4 ≤ D) (N : Nat) {rc_X4_readSum : Int32 → MM → Option (Int32 × MM)} (hrc_X4_readSum : ∀ (x1 : Int32) (μ : MM) (r : Int32) (μr : MM), rc_X4_readSum x1 μ = some (r, μr) → Cl (D - 1) mX4_readSum [av_r 21, av_i x1] μ (po_i r μr)) {rc_X4_readAtom : Int32 → MM → Option (Int32 × MM)} (hrc_X4_readAtom : ∀ (x1 : Int32) (μ : MM) (r : Int32) (μr : MM), rc_X4_readAtom x1 μ = some (r, μr) → Cl (D - 1) mX4_readAtom [av_r 21, av_i x1] μ (po_i r μr)) {r : Int32} {μr : MM} {k14 : Int32 → Int32 → Int32 → MM → Option (Int32 × MM)} (hk14 : ∀ (x1 : Int32) (x2 : Int32) (x3 : Int32) (μ : MM), k14 x1 x2 x3 μ = some (r, μr) → Sm D mX4_readSum 14 [some (av_r 21), some (av_i x1), some (av_i x2), some (av_i x3), none, none] [] μ (po_i r μr)) (x1 : Int32) (x2 : Int32) (x3 : Int32) (x4 : Int32) (x5 : Int32) (μ : MM) (h : f_Lr_readSum_B89 N rc_X4_readSum rc_X4_readAtom k14 x1 x2 x3 x4 x5 μ = some (r, μr)) : Sm D mX4_readSum 89 [some (av_r 21), some (av_i x1), some (av_i x2), some (av_i x3), some (av_i x4), some (av_i x5)] [] μ (po_i r μr) := by
  obtain ⟨d, rfl⟩ : ∃ d, D = d + 1 := ⟨D - 1, by omega⟩
  unfold f_Lr_readSum_B89 at h
  refine sm_aload_n dX4_readSum_89 rfl rfl ?_
  refine sm_iload_n dX4_readSum_90 rfl rfl ?_
  obtain ⟨t91, μ6z, g13, h⟩ := ob_some h
  refine sm_callV dX4_readSum_91 cv_X4_readAtom ml_RX4_63 k_21 rfl rfl (by decide) (as := [av_i x1]) rfl (Nat.le_of_ble_eq_true rfl) rfl (hrc_X4_readAtom _ _ _ _ g13) (fun r9 μ9 hp => ?_)
  rw [hp.1, hp.2]
  clear hp r9 μ9
  refine sm_if_eq (tgt := 111) dX4_readSum_94 (by decide) (fun g14 => ?_) (fun g14 => ?_)
  · replace h := it_t g14 h
    refine sm_iconst dX4_readSum_111 ic_0 ?_
    cases h
    exact sm_ret_z (st := []) dX4_readSum_112 rfl rfl ⟨rfl, rfl⟩
  · replace h := it_f g14 h
    refine sm_iload dX4_readSum_97 rfl ?_
    refine sm_if_ne (tgt := 113) dX4_readSum_99 (by decide) (fun g15 => ?_) (fun g15 => ?_)
    · replace h := it_f g15 h
      exact Sm_weak (le_s rfl (le_s rfl (le_s rfl (le_s rfl (le_s rfl (le_s rfl le_0)))))) (s_Lr_readSum_B113 hD N hrc_X4_readSum hrc_X4_readAtom hk14 x1 x2 x3 x4 x5 μ6z h)
    · replace h := it_t g15 h
      refine sm_aload_n dX4_readSum_102 rfl rfl ?_
      refine sm_iload dX4_readSum_103 rfl ?_
      obtain ⟨t105, μ7z, g16, h⟩ := ob_some h
      refine sm_callV dX4_readSum_105 cv_X4_emit ml_RX4_34 k_21 rfl rfl (by decide) (as := [av_i x4]) rfl (Nat.le_of_ble_eq_true rfl) rfl (s_Lr_emit (D := d) (by omega) N g16) (fun r9 μ9 hp => ?_)
      rw [hp.1, hp.2]
      clear hp r9 μ9
      refine sm_if_ne (tgt := 113) dX4_readSum_108 (by decide) (fun g17 => ?_) (fun g17 => ?_)
      · replace h := it_f g17 h
        exact Sm_weak (le_s rfl (le_s rfl (le_s rfl (le_s rfl (le_s rfl (le_s rfl le_0)))))) (s_Lr_readSum_B113 hD N hrc_X4_readSum hrc_X4_readAtom hk14 x1 x2 x3 x4 x5 μ7z h)
      · replace h := it_t g17 h
        refine sm_iconst dX4_readSum_111 ic_0 ?_
        cases h
        exact sm_ret_z (st := []) dX4_readSum_112 rfl rfl ⟨rfl, rfl⟩
set_option maxRecDepth 100000 in
set_option maxHeartbeats 4000000 in
theorem s_Lr_readSum_B61 {D : Nat} (hD : 4 ≤ D) (N : Nat) {rc_X4_readSum : Int32 → MM → Option (Int32 × MM)} (hrc_X4_readSum : ∀ (x1 : Int32) (μ : MM) (r : Int32) (μr : MM), rc_X4_readSum x1 μ = some (r, μr) → Cl (D - 1) mX4_readSum [av_r 21, av_i x1] μ (po_i r μr)) {rc_X4_readAtom : Int32 → MM → Option (Int32 × MM)} (hrc_X4_readAtom : ∀ (x1 : Int32) (μ : MM) (r : Int32) (μr : MM), rc_X4_readAtom x1 μ = some (r, μr) → Cl (D - 1) mX4_readAtom [av_r 21, av_i x1] μ (po_i r μr)) {r : Int32} {μr : MM} {k14 : Int32 → Int32 → Int32 → MM → Option (Int32 × MM)} (hk14 : ∀ (x1 : Int32) (x2 : Int32) (x3 : Int32) (μ : MM), k14 x1 x2 x3 μ = some (r, μr) → Sm D mX4_readSum 14 [some (av_r 21), some (av_i x1), some (av_i x2), some (av_i x3), none, none] [] μ (po_i r μr)) (x1 : Int32) (x2 : Int32) (x3 : Int32) (x4 : Int32) (s0 : Int32) (μ : MM) (h : f_Lr_readSum_B61 N rc_X4_readSum rc_X4_readAtom k14 x1 x2 x3 x4 s0 μ = some (r, μr)) : Sm D mX4_readSum 61 [some (av_r 21), some (av_i x1), some (av_i x2), some (av_i x3), some (av_i x4), none] [av_i s0] μ (po_i r μr) := by
  obtain ⟨d, rfl⟩ : ∃ d, D = d + 1 := ⟨D - 1, by omega⟩
  unfold f_Lr_readSum_B61 at h
  refine sm_istore dX4_readSum_61 (Nat.le_of_ble_eq_true rfl) (pv_i rfl) ?_
  refine sm_aload_n dX4_readSum_63 rfl rfl ?_
  refine sm_getR dX4_readSum_64 fg_RX4_21 k_21 (rf_4_0 k_21) ?_
  obtain ⟨μ5z, g11, h⟩ := obv_some h
  refine sm_callV dX4_readSum_67 cv_X8_step ml_RX4_60 k_1 rfl rfl (by decide) (as := []) rfl (Nat.le_of_ble_eq_true rfl) rfl (s_Ta_step (D := d) (by omega) N g11) (fun r9 μ9 hp => ?_)
  rw [hp.1, hp.2]
  clear hp r9 μ9
  refine sm_iload dX4_readSum_70 rfl ?_
  refine sm_if_eq (tgt := 89) dX4_readSum_72 (by decide) (fun g12 => ?_) (fun g12 => ?_)
  · replace h := it_t g12 h
    exact Sm_weak (le_s rfl (le_s rfl (le_s rfl (le_s rfl (le_s rfl (le_s rfl le_0)))))) (s_Lr_readSum_B89 hD N hrc_X4_readSum hrc_X4_readAtom hk14 x1 x2 x3 x4 s0 μ5z h)
  · replace h := it_f g12 h
    refine sm_iload_n dX4_readSum_75 rfl rfl ?_
    refine sm_if_eq (tgt := 89) dX4_readSum_76 (by decide) (fun g18 => ?_) (fun g18 => ?_)
    · replace h := it_t g18 h
      exact Sm_weak (le_s rfl (le_s rfl (le_s rfl (le_s rfl (le_s rfl (le_s rfl le_0)))))) (s_Lr_readSum_B89 hD N hrc_X4_readSum hrc_X4_readAtom hk14 x1 x2 x3 x4 s0 μ5z h)
    · replace h := it_f g18 h
      refine sm_aload_n dX4_readSum_79 rfl rfl ?_
      refine sm_iload_n dX4_readSum_80 rfl rfl ?_
      obtain ⟨t81, μ8z, g19, h⟩ := ob_some h
      refine sm_callV dX4_readSum_81 cv_X4_emit ml_RX4_34 k_21 rfl rfl (by decide) (as := [av_i x2]) rfl (Nat.le_of_ble_eq_true rfl) rfl (s_Lr_emit (D := d) (by omega) N g19) (fun r9 μ9 hp => ?_)
      rw [hp.1, hp.2]
      clear hp r9 μ9
      refine sm_if_ne (tgt := 89) dX4_readSum_84 (by decide) (fun g20 => ?_) (fun g20 => ?_)
      · replace h := it_f g20 h
        exact Sm_weak (le_s rfl (le_s rfl (le_s rfl (le_s rfl (le_s rfl (le_s rfl le_0)))))) (s_Lr_readSum_B89 hD N hrc_X4_readSum hrc_X4_readAtom hk14 x1 x2 x3 x4 s0 μ8z h)
      · replace h := it_t g20 h
        refine sm_iconst dX4_readSum_87 ic_0 ?_
        cases h
        exact sm_ret_z (st := []) dX4_readSum_88 rfl rfl ⟨rfl, rfl⟩
set_option maxRecDepth 100000 in
set_option maxHeartbeats 4000000 in
theorem s_Lr_readSum_B56 {D : Nat} (hD : 4 ≤ D) (N : Nat) {rc_X4_readSum : Int32 → MM → Option (Int32 × MM)} (hrc_X4_readSum : ∀ (x1 : Int32) (μ : MM) (r : Int32) (μr : MM), rc_X4_readSum x1 μ = some (r, μr) → Cl (D - 1) mX4_readSum [av_r 21, av_i x1] μ (po_i r μr)) {rc_X4_readAtom : Int32 → MM → Option (Int32 × MM)} (hrc_X4_readAtom : ∀ (x1 : Int32) (μ : MM) (r : Int32) (μr : MM), rc_X4_readAtom x1 μ = some (r, μr) → Cl (D - 1) mX4_readAtom [av_r 21, av_i x1] μ (po_i r μr)) {r : Int32} {μr : MM} {k14 : Int32 → Int32 → Int32 → MM → Option (Int32 × MM)} (hk14 : ∀ (x1 : Int32) (x2 : Int32) (x3 : Int32) (μ : MM), k14 x1 x2 x3 μ = some (r, μr) → Sm D mX4_readSum 14 [some (av_r 21), some (av_i x1), some (av_i x2), some (av_i x3), none, none] [] μ (po_i r μr)) (x1 : Int32) (x2 : Int32) (x3 : Int32) (x4 : Int32) (μ : MM) (h : f_Lr_readSum_B56 N rc_X4_readSum rc_X4_readAtom k14 x1 x2 x3 x4 μ = some (r, μr)) : Sm D mX4_readSum 56 [some (av_r 21), some (av_i x1), some (av_i x2), some (av_i x3), some (av_i x4), none] [] μ (po_i r μr) := by
  obtain ⟨d, rfl⟩ : ∃ d, D = d + 1 := ⟨D - 1, by omega⟩
  unfold f_Lr_readSum_B56 at h
  refine sm_iconst dX4_readSum_56 ic_1 ?_
  refine sm_goto (tgt := 61) dX4_readSum_57 (by decide) ?_
  exact Sm_weak (le_s rfl (le_s rfl (le_s rfl (le_s rfl (le_s rfl (le_n le_0)))))) (s_Lr_readSum_B61 hD N hrc_X4_readSum hrc_X4_readAtom hk14 x1 x2 x3 x4 1 μ h)
set_option maxRecDepth 100000 in
set_option maxHeartbeats 4000000 in
theorem s_Lr_readSum_L14 {D : Nat} (hD : 4 ≤ D) (N : Nat) {rc_X4_readSum : Int32 → MM → Option (Int32 × MM)} (hrc_X4_readSum : ∀ (x1 : Int32) (μ : MM) (r : Int32) (μr : MM), rc_X4_readSum x1 μ = some (r, μr) → Cl (D - 1) mX4_readSum [av_r 21, av_i x1] μ (po_i r μr)) {rc_X4_readAtom : Int32 → MM → Option (Int32 × MM)} (hrc_X4_readAtom : ∀ (x1 : Int32) (μ : MM) (r : Int32) (μr : MM), rc_X4_readAtom x1 μ = some (r, μr) → Cl (D - 1) mX4_readAtom [av_r 21, av_i x1] μ (po_i r μr)) {r : Int32} {μr : MM} : ∀ (n : Nat) (x1 : Int32) (x2 : Int32) (x3 : Int32) (μ : MM), f_Lr_readSum_L14 N rc_X4_readSum rc_X4_readAtom n x1 x2 x3 μ = some (r, μr) → Sm D mX4_readSum 14 [some (av_r 21), some (av_i x1), some (av_i x2), some (av_i x3), none, none] [] μ (po_i r μr) := by
  obtain ⟨d, rfl⟩ : ∃ d, D = d + 1 := ⟨D - 1, by omega⟩
  intro n
  induction n with
  | zero => intro x1 x2 x3 μ h; cases (show none = some (r, μr) from h)
  | succ n ih =>
    intro x1 x2 x3 μ h
    rw [f_Lr_readSum_L14] at h
    refine sm_iload_n dX4_readSum_14 rfl rfl ?_
    refine sm_sipush dX4_readSum_15 sp_240 ?_
    refine sm_icmp_gt (tgt := 127) dX4_readSum_18 (by decide) (fun g3 => ?_) (fun g3 => ?_)
    · replace h := it_t g3 h
      exact Sm_weak (le_s rfl (le_n (le_s rfl (le_n (le_n (le_n le_0)))))) (s_Lr_readSum_B127 hD N hrc_X4_readSum hrc_X4_readAtom x2 μ h)
    · replace h := it_f g3 h
      refine sm_aload_n dX4_readSum_21 rfl rfl ?_
      refine sm_aload_n dX4_readSum_22 rfl rfl ?_
      refine sm_getR dX4_readSum_23 fg_RX4_21 k_21 (rf_4_0 k_21) ?_
      obtain ⟨t26, μ3z, g7, h⟩ := ob_some h
      refine sm_callV dX4_readSum_26 cv_X8_peek ml_RX4_41 k_1 rfl rfl (by decide) (as := []) rfl (Nat.le_of_ble_eq_true rfl) rfl (s_Ta_peek (D := d) (by omega) N g7) (fun r9 μ9 hp => ?_)
      rw [hp.1, hp.2]
      clear hp r9 μ9
      obtain ⟨t29, μ4z, g8, h⟩ := ob_some h
      refine sm_callV dX4_readSum_29 cv_X4_joining ml_RX4_66 k_21 rfl rfl (by decide) (as := [av_i t26]) rfl (Nat.le_of_ble_eq_true rfl) rfl (s_Lr_joining (D := d) (by omega) N g8) (fun r9 μ9 hp => ?_)
      rw [hp.1, hp.2]
      clear hp r9 μ9
      refine sm_istore dX4_readSum_32 (Nat.le_of_ble_eq_true rfl) (pv_i rfl) ?_
      refine sm_iload dX4_readSum_34 rfl ?_
      refine sm_if_ne (tgt := 42) dX4_readSum_36 (by decide) (fun g9 => ?_) (fun g9 => ?_)
      · replace h := it_f g9 h
        refine sm_iload dX4_readSum_42 rfl ?_
        refine sm_bipush dX4_readSum_44 bp_m11 ?_
        refine sm_icmp_eq (tgt := 56) dX4_readSum_46 (by decide) (fun g10 => ?_) (fun g10 => ?_)
        · replace h := it_t g10 h
          exact Sm_weak (le_s rfl (le_s rfl (le_s rfl (le_s rfl (le_s rfl (le_n le_0)))))) (s_Lr_readSum_B56 hD N hrc_X4_readSum hrc_X4_readAtom ih x1 x2 x3 t29 μ4z h)
        · replace h := it_f g10 h
          refine sm_iload dX4_readSum_49 rfl ?_
          refine sm_bipush dX4_readSum_51 bp_m12 ?_
          refine sm_icmp_ne (tgt := 60) dX4_readSum_53 (by decide) (fun g21 => ?_) (fun g21 => ?_)
          · replace h := it_f g21 h
            refine sm_iconst dX4_readSum_60 ic_0 ?_
            exact Sm_weak (le_s rfl (le_s rfl (le_s rfl (le_s rfl (le_s rfl (le_n le_0)))))) (s_Lr_readSum_B61 hD N hrc_X4_readSum hrc_X4_readAtom ih x1 x2 x3 t29 0 μ4z h)
          · replace h := it_t g21 h
            exact Sm_weak (le_s rfl (le_s rfl (le_s rfl (le_s rfl (le_s rfl (le_n le_0)))))) (s_Lr_readSum_B56 hD N hrc_X4_readSum hrc_X4_readAtom ih x1 x2 x3 t29 μ4z h)
      · replace h := it_t g9 h
        refine sm_goto (tgt := 127) dX4_readSum_39 (by decide) ?_
        exact Sm_weak (le_s rfl (le_n (le_s rfl (le_n (le_n (le_n le_0)))))) (s_Lr_readSum_B127 hD N hrc_X4_readSum hrc_X4_readAtom x2 μ4z h)
set_option maxRecDepth 100000 in
set_option maxHeartbeats 4000000 in
theorem s_Lr_readSum_body {D : Nat} (hD : 4 ≤ D) (N : Nat) {rc_X4_readSum : Int32 → MM → Option (Int32 × MM)} (hrc_X4_readSum : ∀ (x1 : Int32) (μ : MM) (r : Int32) (μr : MM), rc_X4_readSum x1 μ = some (r, μr) → Cl (D - 1) mX4_readSum [av_r 21, av_i x1] μ (po_i r μr)) {rc_X4_readAtom : Int32 → MM → Option (Int32 × MM)} (hrc_X4_readAtom : ∀ (x1 : Int32) (μ : MM) (r : Int32) (μr : MM), rc_X4_readAtom x1 μ = some (r, μr) → Cl (D - 1) mX4_readAtom [av_r 21, av_i x1] μ (po_i r μr)) {x1 : Int32} {μ : MM} {r : Int32} {μr : MM} (h : f_Lr_readSum_body N rc_X4_readSum rc_X4_readAtom x1 μ = some (r, μr)) : Cl D mX4_readSum [av_r 21, av_i x1] μ (po_i r μr) := by
  obtain ⟨d, rfl⟩ : ∃ d, D = d + 1 := ⟨D - 1, by omega⟩
  refine Cl_of pn_X4 (Nat.le_of_ble_eq_true rfl) ?_
  show Sm (d + 1) mX4_readSum 0 [some (av_r 21), some (av_i x1), none, none, none, none] [] μ (po_i r μr)
  unfold f_Lr_readSum_body at h
  refine sm_aload_n dX4_readSum_0 rfl rfl ?_
  refine sm_iload_n dX4_readSum_1 rfl rfl ?_
  obtain ⟨t2, μ1z, g1, h⟩ := ob_some h
  refine sm_callV dX4_readSum_2 cv_X4_readAtom ml_RX4_63 k_21 rfl rfl (by decide) (as := [av_i x1]) rfl (Nat.le_of_ble_eq_true rfl) rfl (hrc_X4_readAtom _ _ _ _ g1) (fun r9 μ9 hp => ?_)
  rw [hp.1, hp.2]
  clear hp r9 μ9
  refine sm_if_ne (tgt := 10) dX4_readSum_5 (by decide) (fun g2 => ?_) (fun g2 => ?_)
  · replace h := it_f g2 h
    refine sm_iconst dX4_readSum_10 ic_0 ?_
    refine sm_istore_n dX4_readSum_11 rfl (Nat.le_of_ble_eq_true rfl) (pv_i rfl) ?_
    refine sm_iconst dX4_readSum_12 ic_0 ?_
    refine sm_istore_n dX4_readSum_13 rfl (Nat.le_of_ble_eq_true rfl) (pv_i rfl) ?_
    exact Sm_weak (le_s rfl (le_s rfl (le_s rfl (le_s rfl (le_n (le_n le_0)))))) (s_Lr_readSum_L14 hD N hrc_X4_readSum hrc_X4_readAtom N x1 0 0 μ1z h)
  · replace h := it_t g2 h
    refine sm_iconst dX4_readSum_8 ic_0 ?_
    cases h
    exact sm_ret_z (st := []) dX4_readSum_9 rfl rfl ⟨rfl, rfl⟩
set_option maxRecDepth 100000 in
set_option maxHeartbeats 4000000 in
theorem s_Lr_readAtom_B78 {D : Nat} (hD : 4 ≤ D) (N : Nat) {rc_X4_readSum : Int32 → MM → Option (Int32 × MM)} (hrc_X4_readSum : ∀ (x1 : Int32) (μ : MM) (r : Int32) (μr : MM), rc_X4_readSum x1 μ = some (r, μr) → Cl (D - 1) mX4_readSum [av_r 21, av_i x1] μ (po_i r μr)) {rc_X4_readAtom : Int32 → MM → Option (Int32 × MM)} (hrc_X4_readAtom : ∀ (x1 : Int32) (μ : MM) (r : Int32) (μr : MM), rc_X4_readAtom x1 μ = some (r, μr) → Cl (D - 1) mX4_readAtom [av_r 21, av_i x1] μ (po_i r μr)) {r : Int32} {μr : MM} (s0 : Int32) (μ : MM) (h : f_Lr_readAtom_B78 N rc_X4_readSum rc_X4_readAtom s0 μ = some (r, μr)) : Sm D mX4_readAtom 78 [some (av_r 21), none, none, none, none] [av_i s0] μ (po_i r μr) := by
  obtain ⟨d, rfl⟩ : ∃ d, D = d + 1 := ⟨D - 1, by omega⟩
  unfold f_Lr_readAtom_B78 at h
  refine sm_istore_n dX4_readAtom_78 rfl (Nat.le_of_ble_eq_true rfl) (pv_n rfl) ?_
  refine sm_iload_n dX4_readAtom_79 rfl rfl ?_
  refine sm_if_lt (tgt := 98) dX4_readAtom_80 (by decide) (fun g5 => ?_) (fun g5 => ?_)
  · replace h := it_t g5 h
    refine sm_aload_n dX4_readAtom_98 rfl rfl ?_
    refine sm_getR dX4_readAtom_99 fg_RX4_21 k_21 (rf_4_0 k_21) ?_
    refine sm_iconst dX4_readAtom_102 ic_4 ?_
    refine sm_iconst dX4_readAtom_103 ic_0 ?_
    refine sm_sipush dX4_readAtom_104 sp_9999 ?_
    obtain ⟨t107, μ3z, g6, h⟩ := ob_some h
    refine sm_callV dX4_readAtom_107 cv_X8_readNumber ml_RX4_77 k_1 rfl rfl (by decide) (as := [av_i 4, av_i 0, av_i 9999]) rfl (Nat.le_of_ble_eq_true rfl) rfl (s_Ta_readNumber (D := d) (by omega) N g6) (fun r9 μ9 hp => ?_)
    rw [hp.1, hp.2]
    clear hp r9 μ9
    refine sm_istore dX4_readAtom_110 (Nat.le_of_ble_eq_true rfl) (pv_i rfl) ?_
    refine sm_iload dX4_readAtom_112 rfl ?_
    refine sm_iconst dX4_readAtom_114 ic_m1 ?_
    refine sm_icmp_eq (tgt := 131) dX4_readAtom_115 (by decide) (fun g7 => ?_) (fun g7 => ?_)
    · replace h := it_t g7 h
      refine sm_iconst dX4_readAtom_131 ic_0 ?_
      cases h
      exact sm_ret_z (st := []) dX4_readAtom_132 rfl rfl ⟨rfl, rfl⟩
    · replace h := it_f g7 h
      refine sm_aload_n dX4_readAtom_118 rfl rfl ?_
      refine sm_iload dX4_readAtom_119 rfl ?_
      obtain ⟨t121, μ4z, g8, h⟩ := ob_some h
      refine sm_callV dX4_readAtom_121 cv_X4_emit ml_RX4_34 k_21 rfl rfl (by decide) (as := [av_i t107]) rfl (Nat.le_of_ble_eq_true rfl) rfl (s_Lr_emit (D := d) (by omega) N g8) (fun r9 μ9 hp => ?_)
      rw [hp.1, hp.2]
      clear hp r9 μ9
      refine sm_if_eq (tgt := 131) dX4_readAtom_124 (by decide) (fun g9 => ?_) (fun g9 => ?_)
      · replace h := it_t g9 h
        refine sm_iconst dX4_readAtom_131 ic_0 ?_
        cases h
        exact sm_ret_z (st := []) dX4_readAtom_132 rfl rfl ⟨rfl, rfl⟩
      · replace h := it_f g9 h
        refine sm_iconst dX4_readAtom_127 ic_1 ?_
        refine sm_goto (tgt := 132) dX4_readAtom_128 (by decide) ?_
        cases h
        exact sm_ret_z (st := []) dX4_readAtom_132 rfl rfl ⟨rfl, rfl⟩
  · replace h := it_f g5 h
    refine sm_aload_n dX4_readAtom_83 rfl rfl ?_
    refine sm_getR dX4_readAtom_84 fg_RX4_21 k_21 (rf_4_0 k_21) ?_
    obtain ⟨μ5z, g10, h⟩ := obv_some h
    refine sm_callV dX4_readAtom_87 cv_X8_step ml_RX4_60 k_1 rfl rfl (by decide) (as := []) rfl (Nat.le_of_ble_eq_true rfl) rfl (s_Ta_step (D := d) (by omega) N g10) (fun r9 μ9 hp => ?_)
    rw [hp.1, hp.2]
    clear hp r9 μ9
    refine sm_aload_n dX4_readAtom_90 rfl rfl ?_
    refine sm_iconst dX4_readAtom_91 ic_m1 ?_
    refine sm_iload_n dX4_readAtom_92 rfl rfl ?_
    refine sm_isub dX4_readAtom_93 ?_
    obtain ⟨t94, μ6z, g11, h⟩ := ob_some h
    refine sm_callV dX4_readAtom_94 cv_X4_emit ml_RX4_34 k_21 rfl rfl (by decide) (as := [av_i ((-1) - s0)]) rfl (Nat.le_of_ble_eq_true rfl) rfl (s_Lr_emit (D := d) (by omega) N g11) (fun r9 μ9 hp => ?_)
    rw [hp.1, hp.2]
    clear hp r9 μ9
    obtain ⟨g12, h⟩ := gd_some h
    cases h
    exact sm_ret_z (st := []) dX4_readAtom_97 rfl (zb_nar g12) ⟨rfl, rfl⟩
set_option maxRecDepth 100000 in
set_option maxHeartbeats 4000000 in
theorem s_Lr_readAtom_body {D : Nat} (hD : 4 ≤ D) (N : Nat) {rc_X4_readSum : Int32 → MM → Option (Int32 × MM)} (hrc_X4_readSum : ∀ (x1 : Int32) (μ : MM) (r : Int32) (μr : MM), rc_X4_readSum x1 μ = some (r, μr) → Cl (D - 1) mX4_readSum [av_r 21, av_i x1] μ (po_i r μr)) {rc_X4_readAtom : Int32 → MM → Option (Int32 × MM)} (hrc_X4_readAtom : ∀ (x1 : Int32) (μ : MM) (r : Int32) (μr : MM), rc_X4_readAtom x1 μ = some (r, μr) → Cl (D - 1) mX4_readAtom [av_r 21, av_i x1] μ (po_i r μr)) {x1 : Int32} {μ : MM} {r : Int32} {μr : MM} (h : f_Lr_readAtom_body N rc_X4_readSum rc_X4_readAtom x1 μ = some (r, μr)) : Cl D mX4_readAtom [av_r 21, av_i x1] μ (po_i r μr) := by
  obtain ⟨d, rfl⟩ : ∃ d, D = d + 1 := ⟨D - 1, by omega⟩
  refine Cl_of pn_X4 (Nat.le_of_ble_eq_true rfl) ?_
  show Sm (d + 1) mX4_readAtom 0 [some (av_r 21), some (av_i x1), none, none, none] [] μ (po_i r μr)
  unfold f_Lr_readAtom_body at h
  refine sm_aload_n dX4_readAtom_0 rfl rfl ?_
  refine sm_getR dX4_readAtom_1 fg_RX4_21 k_21 (rf_4_0 k_21) ?_
  obtain ⟨t4, μ1z, g1, h⟩ := ob_some h
  refine sm_callV dX4_readAtom_4 cv_X8_peek ml_RX4_41 k_1 rfl rfl (by decide) (as := []) rfl (Nat.le_of_ble_eq_true rfl) rfl (s_Ta_peek (D := d) (by omega) N g1) (fun r9 μ9 hp => ?_)
  rw [hp.1, hp.2]
  clear hp r9 μ9
  refine sm_istore_n dX4_readAtom_7 rfl (Nat.le_of_ble_eq_true rfl) (pv_i rfl) ?_
  refine sm_iload_n dX4_readAtom_8 rfl rfl ?_
  refine sm_bipush dX4_readAtom_9 bp_91 ?_
  refine sm_icmp_ne (tgt := 62) dX4_readAtom_11 (by decide) (fun g2 => ?_) (fun g2 => ?_)
  · replace h := it_f g2 h
    refine sm_iload_n dX4_readAtom_62 rfl rfl ?_
    refine sm_iconst dX4_readAtom_63 ic_m1 ?_
    refine sm_icmp_ne (tgt := 71) dX4_readAtom_64 (by decide) (fun g3 => ?_) (fun g3 => ?_)
    · replace h := it_f g3 h
      refine sm_ldcS dX4_readAtom_71 (i := 0) (by decide) rfl ?_
      refine sm_iload_n dX4_readAtom_73 rfl rfl ?_
      refine sm_i2c dX4_readAtom_74 ?_
      obtain ⟨t75, μ2z, g4, h⟩ := ob_some h
      refine sm_callT dX4_readAtom_75 cv_J0_indexOf_0f7a4 ml_RX4_72 k_2000 rfl (as := [av_i ((Int32.toUInt32 t4 % 65536).toInt32)]) rfl (Nat.le_of_ble_eq_true rfl) rfl (s_St_indexOf_0f7a4 (D := d) (by omega) N k_2000 g4) (fun r9 μ9 hp => ?_)
      rw [hp.1, hp.2]
      clear hp r9 μ9
      exact Sm_weak (le_s rfl (le_n (le_n (le_n (le_n le_0))))) (s_Lr_readAtom_B78 hD N hrc_X4_readSum hrc_X4_readAtom t75 μ2z h)
    · replace h := it_t g3 h
      refine sm_iconst dX4_readAtom_67 ic_m1 ?_
      refine sm_goto (tgt := 78) dX4_readAtom_68 (by decide) ?_
      exact Sm_weak (le_s rfl (le_n (le_n (le_n (le_n le_0))))) (s_Lr_readAtom_B78 hD N hrc_X4_readSum hrc_X4_readAtom (-1) μ1z h)
  · replace h := it_t g2 h
    refine sm_iload_n dX4_readAtom_14 rfl rfl ?_
    refine sm_bipush dX4_readAtom_15 bp_6 ?_
    refine sm_icmp_lt (tgt := 22) dX4_readAtom_17 (by decide) (fun g13 => ?_) (fun g13 => ?_)
    · replace h := it_t g13 h
      refine sm_aload_n dX4_readAtom_22 rfl rfl ?_
      refine sm_getR dX4_readAtom_23 fg_RX4_21 k_21 (rf_4_0 k_21) ?_
      obtain ⟨μ7z, g14, h⟩ := obv_some h
      refine sm_callV dX4_readAtom_26 cv_X8_step ml_RX4_60 k_1 rfl rfl (by decide) (as := []) rfl (Nat.le_of_ble_eq_true rfl) rfl (s_Ta_step (D := d) (by omega) N g14) (fun r9 μ9 hp => ?_)
      rw [hp.1, hp.2]
      clear hp r9 μ9
      refine sm_aload_n dX4_readAtom_29 rfl rfl ?_
      refine sm_iload_n dX4_readAtom_30 rfl rfl ?_
      refine sm_iconst dX4_readAtom_31 ic_1 ?_
      refine sm_iadd dX4_readAtom_32 ?_
      obtain ⟨t33, μ8z, g15, h⟩ := ob_some h
      refine sm_callV dX4_readAtom_33 cv_X4_readSum ml_RX4_45 k_21 rfl rfl (by decide) (as := [av_i (x1 + 1)]) rfl (Nat.le_of_ble_eq_true rfl) rfl (hrc_X4_readSum _ _ _ _ g15) (fun r9 μ9 hp => ?_)
      rw [hp.1, hp.2]
      clear hp r9 μ9
      refine sm_if_eq (tgt := 51) dX4_readAtom_36 (by decide) (fun g16 => ?_) (fun g16 => ?_)
      · replace h := it_t g16 h
        refine sm_iconst dX4_readAtom_51 ic_0 ?_
        cases h
        exact sm_ret_z (st := []) dX4_readAtom_52 rfl rfl ⟨rfl, rfl⟩
      · replace h := it_f g16 h
        refine sm_aload_n dX4_readAtom_39 rfl rfl ?_
        refine sm_getR dX4_readAtom_40 fg_RX4_21 k_21 (rf_4_0 k_21) ?_
        obtain ⟨t43, μ9z, g17, h⟩ := ob_some h
        refine sm_callV dX4_readAtom_43 cv_X8_peek ml_RX4_41 k_1 rfl rfl (by decide) (as := []) rfl (Nat.le_of_ble_eq_true rfl) rfl (s_Ta_peek (D := d) (by omega) N g17) (fun r9 μ9 hp => ?_)
        rw [hp.1, hp.2]
        clear hp r9 μ9
        refine sm_bipush dX4_readAtom_46 bp_93 ?_
        refine sm_icmp_eq (tgt := 53) dX4_readAtom_48 (by decide) (fun g18 => ?_) (fun g18 => ?_)
        · replace h := it_t g18 h
          refine sm_aload_n dX4_readAtom_53 rfl rfl ?_
          refine sm_getR dX4_readAtom_54 fg_RX4_21 k_21 (rf_4_0 k_21) ?_
          obtain ⟨μ10z, g19, h⟩ := obv_some h
          refine sm_callV dX4_readAtom_57 cv_X8_step ml_RX4_60 k_1 rfl rfl (by decide) (as := []) rfl (Nat.le_of_ble_eq_true rfl) rfl (s_Ta_step (D := d) (by omega) N g19) (fun r9 μ9 hp => ?_)
          rw [hp.1, hp.2]
          clear hp r9 μ9
          refine sm_iconst dX4_readAtom_60 ic_1 ?_
          cases h
          exact sm_ret_z (st := []) dX4_readAtom_61 rfl rfl ⟨rfl, rfl⟩
        · replace h := it_f g18 h
          refine sm_iconst dX4_readAtom_51 ic_0 ?_
          cases h
          exact sm_ret_z (st := []) dX4_readAtom_52 rfl rfl ⟨rfl, rfl⟩
    · replace h := it_f g13 h
      refine sm_iconst dX4_readAtom_20 ic_0 ?_
      cases h
      exact sm_ret_z (st := []) dX4_readAtom_21 rfl rfl ⟨rfl, rfl⟩
set_option maxRecDepth 100000 in
set_option maxHeartbeats 4000000 in
theorem s_cl_Lr_readSum (N : Nat) : ∀ (t : Nat) {D : Nat} (hD : 4 + t ≤ D) (g : Nat) (a0 : Int32) (μ : MM) (r : Int32) (μr : MM) (h : f_cl_Lr_readSum N t g a0 μ = some (r, μr)), (g = 0 → Cl D mX4_readSum [av_r 21, av_i a0] μ (po_i r μr)) ∧ (g = 1 → Cl D mX4_readAtom [av_r 21, av_i a0] μ (po_i r μr)) := by
  intro t
  induction t with
  | zero => intro D hD g a0 μ r μr h; cases (show none = some (r, μr) from h)
  | succ t ih =>
    intro D hD g a0 μ r μr h
    rw [f_cl_Lr_readSum] at h
    refine ⟨?_, ?_⟩
    · intro e; subst e; rw [if_pos rfl] at h; exact s_Lr_readSum_body (by omega) N (fun x1 μ r μr hh => (ih (D := D - 1) (by omega) 0 x1 μ r μr hh).1 rfl) (fun x1 μ r μr hh => (ih (D := D - 1) (by omega) 1 x1 μ r μr hh).2 rfl) h
    · intro e; subst e; rw [if_neg (by omega)] at h; exact s_Lr_readAtom_body (by omega) N (fun x1 μ r μr hh => (ih (D := D - 1) (by omega) 0 x1 μ r μr hh).1 rfl) (fun x1 μ r μr hh => (ih (D := D - 1) (by omega) 1 x1 μ r μr hh).2 rfl) h
set_option maxRecDepth 100000 in
set_option maxHeartbeats 4000000 in
theorem s_Lr_readSum {D : Nat} (hD : 44 ≤ D) (N : Nat) {x1 : Int32} {μ : MM} {r : Int32} {μr : MM} (h : f_Lr_readSum N x1 μ = some (r, μr)) : Cl D mX4_readSum [av_r 21, av_i x1] μ (po_i r μr) := (s_cl_Lr_readSum N 40 (by omega) 0 _ μ r μr h).1 rfl
set_option maxRecDepth 100000 in
set_option maxHeartbeats 4000000 in
theorem s_Lr_readAtom {D : Nat} (hD : 44 ≤ D) (N : Nat) {x1 : Int32} {μ : MM} {r : Int32} {μr : MM} (h : f_Lr_readAtom N x1 μ = some (r, μr)) : Cl D mX4_readAtom [av_r 21, av_i x1] μ (po_i r μr) := (s_cl_Lr_readSum N 40 (by omega) 1 _ μ r μr h).2 rfl
set_option maxRecDepth 100000 in
set_option maxHeartbeats 4000000 in
theorem s_Lr_isComparing {D : Nat} (hD : 0 ≤ D) (N : Nat) {x1 : Int32} {μ : MM} {r : Int32} {μr : MM} (h : f_Lr_isComparing N x1 μ = some (r, μr)) : Cl D mX4_isComparing [av_r 21, av_i x1] μ (po_i r μr) := by
  refine Cl_of pn_X4 (Nat.le_of_ble_eq_true rfl) ?_
  show Sm D mX4_isComparing 0 [some (av_r 21), some (av_i x1)] [] μ (po_i r μr)
  unfold f_Lr_isComparing at h
  refine sm_iload_n dX4_isComparing_0 rfl rfl ?_
  refine sm_bipush dX4_isComparing_1 bp_61 ?_
  refine sm_icmp_eq (tgt := 18) dX4_isComparing_3 (by decide) (fun g1 => ?_) (fun g1 => ?_)
  · replace h := it_t g1 h
    refine sm_iconst dX4_isComparing_18 ic_1 ?_
    refine sm_goto (tgt := 23) dX4_isComparing_19 (by decide) ?_
    cases h
    exact sm_ret_z (st := []) dX4_isComparing_23 rfl rfl ⟨rfl, rfl⟩
  · replace h := it_f g1 h
    refine sm_iload_n dX4_isComparing_6 rfl rfl ?_
    refine sm_bipush dX4_isComparing_7 bp_60 ?_
    refine sm_icmp_eq (tgt := 18) dX4_isComparing_9 (by decide) (fun g2 => ?_) (fun g2 => ?_)
    · replace h := it_t g2 h
      refine sm_iconst dX4_isComparing_18 ic_1 ?_
      refine sm_goto (tgt := 23) dX4_isComparing_19 (by decide) ?_
      cases h
      exact sm_ret_z (st := []) dX4_isComparing_23 rfl rfl ⟨rfl, rfl⟩
    · replace h := it_f g2 h
      refine sm_iload_n dX4_isComparing_12 rfl rfl ?_
      refine sm_bipush dX4_isComparing_13 bp_62 ?_
      refine sm_icmp_ne (tgt := 22) dX4_isComparing_15 (by decide) (fun g3 => ?_) (fun g3 => ?_)
      · replace h := it_f g3 h
        refine sm_iconst dX4_isComparing_22 ic_0 ?_
        cases h
        exact sm_ret_z (st := []) dX4_isComparing_23 rfl rfl ⟨rfl, rfl⟩
      · replace h := it_t g3 h
        refine sm_iconst dX4_isComparing_18 ic_1 ?_
        refine sm_goto (tgt := 23) dX4_isComparing_19 (by decide) ?_
        cases h
        exact sm_ret_z (st := []) dX4_isComparing_23 rfl rfl ⟨rfl, rfl⟩
set_option maxRecDepth 100000 in
set_option maxHeartbeats 4000000 in
theorem s_Lr_readComparison_B49 {D : Nat} (hD : 45 ≤ D) (N : Nat) {r : Int32} {μr : MM} (x1 : Int32) (s0 : Int32) (μ : MM) (h : f_Lr_readComparison_B49 N x1 s0 μ = some (r, μr)) : Sm D mX4_readComparison 49 [some (av_r 21), some (av_i x1), none, none] [av_i s0] μ (po_i r μr) := by
  obtain ⟨d, rfl⟩ : ∃ d, D = d + 1 := ⟨D - 1, by omega⟩
  unfold f_Lr_readComparison_B49 at h
  refine sm_istore_n dX4_readComparison_49 rfl (Nat.le_of_ble_eq_true rfl) (pv_n rfl) ?_
  refine sm_aload_n dX4_readComparison_50 rfl rfl ?_
  refine sm_iload_n dX4_readComparison_51 rfl rfl ?_
  obtain ⟨t52, μ4z, g5, h⟩ := ob_some h
  refine sm_callV dX4_readComparison_52 cv_X4_readSum ml_RX4_45 k_21 rfl rfl (by decide) (as := [av_i x1]) rfl (Nat.le_of_ble_eq_true rfl) rfl (s_Lr_readSum (D := d) (by omega) N g5) (fun r9 μ9 hp => ?_)
  rw [hp.1, hp.2]
  clear hp r9 μ9
  refine sm_if_eq (tgt := 70) dX4_readComparison_55 (by decide) (fun g6 => ?_) (fun g6 => ?_)
  · replace h := it_t g6 h
    refine sm_iconst dX4_readComparison_70 ic_0 ?_
    cases h
    exact sm_ret_z (st := []) dX4_readComparison_71 rfl rfl ⟨rfl, rfl⟩
  · replace h := it_f g6 h
    refine sm_aload_n dX4_readComparison_58 rfl rfl ?_
    refine sm_iload_n dX4_readComparison_59 rfl rfl ?_
    obtain ⟨t60, μ5z, g7, h⟩ := ob_some h
    refine sm_callV dX4_readComparison_60 cv_X4_emit ml_RX4_34 k_21 rfl rfl (by decide) (as := [av_i s0]) rfl (Nat.le_of_ble_eq_true rfl) rfl (s_Lr_emit (D := d) (by omega) N g7) (fun r9 μ9 hp => ?_)
    rw [hp.1, hp.2]
    clear hp r9 μ9
    refine sm_if_eq (tgt := 70) dX4_readComparison_63 (by decide) (fun g8 => ?_) (fun g8 => ?_)
    · replace h := it_t g8 h
      refine sm_iconst dX4_readComparison_70 ic_0 ?_
      cases h
      exact sm_ret_z (st := []) dX4_readComparison_71 rfl rfl ⟨rfl, rfl⟩
    · replace h := it_f g8 h
      refine sm_iconst dX4_readComparison_66 ic_1 ?_
      refine sm_goto (tgt := 71) dX4_readComparison_67 (by decide) ?_
      cases h
      exact sm_ret_z (st := []) dX4_readComparison_71 rfl rfl ⟨rfl, rfl⟩
set_option maxRecDepth 100000 in
set_option maxHeartbeats 4000000 in
theorem s_Lr_readComparison {D : Nat} (hD : 45 ≤ D) (N : Nat) {x1 : Int32} {μ : MM} {r : Int32} {μr : MM} (h : f_Lr_readComparison N x1 μ = some (r, μr)) : Cl D mX4_readComparison [av_r 21, av_i x1] μ (po_i r μr) := by
  obtain ⟨d, rfl⟩ : ∃ d, D = d + 1 := ⟨D - 1, by omega⟩
  refine Cl_of pn_X4 (Nat.le_of_ble_eq_true rfl) ?_
  show Sm (d + 1) mX4_readComparison 0 [some (av_r 21), some (av_i x1), none, none] [] μ (po_i r μr)
  unfold f_Lr_readComparison at h
  refine sm_aload_n dX4_readComparison_0 rfl rfl ?_
  refine sm_getR dX4_readComparison_1 fg_RX4_21 k_21 (rf_4_0 k_21) ?_
  obtain ⟨t4, μ1z, g1, h⟩ := ob_some h
  refine sm_callV dX4_readComparison_4 cv_X8_peek ml_RX4_41 k_1 rfl rfl (by decide) (as := []) rfl (Nat.le_of_ble_eq_true rfl) rfl (s_Ta_peek (D := d) (by omega) N g1) (fun r9 μ9 hp => ?_)
  rw [hp.1, hp.2]
  clear hp r9 μ9
  refine sm_istore_n dX4_readComparison_7 rfl (Nat.le_of_ble_eq_true rfl) (pv_i rfl) ?_
  refine sm_aload_n dX4_readComparison_8 rfl rfl ?_
  refine sm_iload_n dX4_readComparison_9 rfl rfl ?_
  obtain ⟨t10, μ2z, g2, h⟩ := ob_some h
  refine sm_callV dX4_readComparison_10 cv_X4_isComparing ml_RX4_48 k_21 rfl rfl (by decide) (as := [av_i t4]) rfl (Nat.le_of_ble_eq_true rfl) rfl (s_Lr_isComparing (D := d) (by omega) N g2) (fun r9 μ9 hp => ?_)
  rw [hp.1, hp.2]
  clear hp r9 μ9
  refine sm_if_ne (tgt := 18) dX4_readComparison_13 (by decide) (fun g3 => ?_) (fun g3 => ?_)
  · replace h := it_f g3 h
    refine sm_aload_n dX4_readComparison_18 rfl rfl ?_
    refine sm_getR dX4_readComparison_19 fg_RX4_21 k_21 (rf_4_0 k_21) ?_
    obtain ⟨μ3z, g4, h⟩ := obv_some h
    refine sm_callV dX4_readComparison_22 cv_X8_step ml_RX4_60 k_1 rfl rfl (by decide) (as := []) rfl (Nat.le_of_ble_eq_true rfl) rfl (s_Ta_step (D := d) (by omega) N g4) (fun r9 μ9 hp => ?_)
    rw [hp.1, hp.2]
    clear hp r9 μ9
    refine sm_iload_n dX4_readComparison_25 rfl rfl ?_
    refine sm_bipush dX4_readComparison_26 bp_61 ?_
    have hj28 : ∀ (v28_0 : Int32), v28_0 = (if t4 = 61 then ((-15) : Int32) else (if t4 = 60 then ((-16) : Int32) else (-17))) → Sm (d + 1) mX4_readComparison 49 [some (av_r 21), some (av_i x1), none, none] [av_i v28_0] μ3z (po_i r μr) := by
      intro v28_0 ev28_0
      subst ev28_0
      exact Sm_weak (le_s rfl (le_s rfl (le_n (le_n le_0)))) (s_Lr_readComparison_B49 hD N x1 (if t4 = 61 then ((-15) : Int32) else (if t4 = 60 then ((-16) : Int32) else (-17))) μ3z h)
    refine sm_icmp_ne (tgt := 36) dX4_readComparison_28 (by decide) (fun c28_0 => ?_) (fun c28_0 => ?_)
    · refine sm_iload_n dX4_readComparison_36 rfl rfl ?_
      refine sm_bipush dX4_readComparison_37 bp_60 ?_
      refine sm_icmp_ne (tgt := 47) dX4_readComparison_39 (by decide) (fun c39_1 => ?_) (fun c39_1 => ?_)
      · refine sm_bipush dX4_readComparison_47 bp_m17 ?_
        exact Sm_weak (le_s rfl (le_s rfl (le_n (le_n le_0)))) (hj28 _ ((if_neg c28_0).trans (if_neg c39_1)).symm)
      · refine sm_bipush dX4_readComparison_42 bp_m16 ?_
        refine sm_goto (tgt := 49) dX4_readComparison_44 (by decide) ?_
        exact Sm_weak (le_s rfl (le_s rfl (le_n (le_n le_0)))) (hj28 _ ((if_neg c28_0).trans (if_pos c39_1)).symm)
    · refine sm_bipush dX4_readComparison_31 bp_m15 ?_
      refine sm_goto (tgt := 49) dX4_readComparison_33 (by decide) ?_
      exact Sm_weak (le_s rfl (le_s rfl (le_n (le_n le_0)))) (hj28 _ (if_pos c28_0).symm)
  · replace h := it_t g3 h
    refine sm_iconst dX4_readComparison_16 ic_0 ?_
    cases h
    exact sm_ret_z (st := []) dX4_readComparison_17 rfl rfl ⟨rfl, rfl⟩
set_option maxRecDepth 100000 in
set_option maxHeartbeats 4000000 in
theorem s_Lr_readUnit_B42 {D : Nat} (hD : 46 ≤ D) (N : Nat) {rc_X4_readUnit : Int32 → MM → Option (Int32 × MM)} (hrc_X4_readUnit : ∀ (x1 : Int32) (μ : MM) (r : Int32) (μr : MM), rc_X4_readUnit x1 μ = some (r, μr) → Cl (D - 1) mX4_readUnit [av_r 21, av_i x1] μ (po_i r μr)) {rc_X4_readMoreUnits : Int32 → MM → Option (Int32 × MM)} (hrc_X4_readMoreUnits : ∀ (x1 : Int32) (μ : MM) (r : Int32) (μr : MM), rc_X4_readMoreUnits x1 μ = some (r, μr) → Cl (D - 1) mX4_readMoreUnits [av_r 21, av_i x1] μ (po_i r μr)) {r : Int32} {μr : MM} (x1 : Int32) (x2 : Int32) (μ : MM) (h : f_Lr_readUnit_B42 N rc_X4_readUnit rc_X4_readMoreUnits x1 x2 μ = some (r, μr)) : Sm D mX4_readUnit 42 [some (av_r 21), some (av_i x1), some (av_i x2)] [] μ (po_i r μr) := by
  obtain ⟨d, rfl⟩ : ∃ d, D = d + 1 := ⟨D - 1, by omega⟩
  unfold f_Lr_readUnit_B42 at h
  refine sm_iload_n dX4_readUnit_42 rfl rfl ?_
  refine sm_bipush dX4_readUnit_43 bp_6 ?_
  refine sm_icmp_lt (tgt := 50) dX4_readUnit_45 (by decide) (fun g3 => ?_) (fun g3 => ?_)
  · replace h := it_t g3 h
    refine sm_aload_n dX4_readUnit_50 rfl rfl ?_
    refine sm_getR dX4_readUnit_51 fg_RX4_21 k_21 (rf_4_0 k_21) ?_
    obtain ⟨μ2z, g4, h⟩ := obv_some h
    refine sm_callV dX4_readUnit_54 cv_X8_step ml_RX4_60 k_1 rfl rfl (by decide) (as := []) rfl (Nat.le_of_ble_eq_true rfl) rfl (s_Ta_step (D := d) (by omega) N g4) (fun r9 μ9 hp => ?_)
    rw [hp.1, hp.2]
    clear hp r9 μ9
    refine sm_iload_n dX4_readUnit_57 rfl rfl ?_
    refine sm_bipush dX4_readUnit_58 bp_33 ?_
    refine sm_icmp_ne (tgt := 88) dX4_readUnit_60 (by decide) (fun g5 => ?_) (fun g5 => ?_)
    · replace h := it_f g5 h
      refine sm_aload_n dX4_readUnit_88 rfl rfl ?_
      refine sm_iload_n dX4_readUnit_89 rfl rfl ?_
      refine sm_iconst dX4_readUnit_90 ic_1 ?_
      refine sm_iadd dX4_readUnit_91 ?_
      obtain ⟨t92, μ3z, g6, h⟩ := ob_some h
      refine sm_callV dX4_readUnit_92 cv_X4_readUnit ml_RX4_51 k_21 rfl rfl (by decide) (as := [av_i (x1 + 1)]) rfl (Nat.le_of_ble_eq_true rfl) rfl (hrc_X4_readUnit _ _ _ _ g6) (fun r9 μ9 hp => ?_)
      rw [hp.1, hp.2]
      clear hp r9 μ9
      refine sm_if_eq (tgt := 124) dX4_readUnit_95 (by decide) (fun g7 => ?_) (fun g7 => ?_)
      · replace h := it_t g7 h
        refine sm_iconst dX4_readUnit_124 ic_0 ?_
        cases h
        exact sm_ret_z (st := []) dX4_readUnit_125 rfl rfl ⟨rfl, rfl⟩
      · replace h := it_f g7 h
        refine sm_aload_n dX4_readUnit_98 rfl rfl ?_
        refine sm_iload_n dX4_readUnit_99 rfl rfl ?_
        refine sm_iconst dX4_readUnit_100 ic_1 ?_
        refine sm_iadd dX4_readUnit_101 ?_
        obtain ⟨t102, μ4z, g8, h⟩ := ob_some h
        refine sm_callV dX4_readUnit_102 cv_X4_readMoreUnits ml_RX4_57 k_21 rfl rfl (by decide) (as := [av_i (x1 + 1)]) rfl (Nat.le_of_ble_eq_true rfl) rfl (hrc_X4_readMoreUnits _ _ _ _ g8) (fun r9 μ9 hp => ?_)
        rw [hp.1, hp.2]
        clear hp r9 μ9
        refine sm_if_eq (tgt := 124) dX4_readUnit_105 (by decide) (fun g9 => ?_) (fun g9 => ?_)
        · replace h := it_t g9 h
          refine sm_iconst dX4_readUnit_124 ic_0 ?_
          cases h
          exact sm_ret_z (st := []) dX4_readUnit_125 rfl rfl ⟨rfl, rfl⟩
        · replace h := it_f g9 h
          refine sm_aload_n dX4_readUnit_108 rfl rfl ?_
          refine sm_getR dX4_readUnit_109 fg_RX4_21 k_21 (rf_4_0 k_21) ?_
          refine sm_bipush dX4_readUnit_112 bp_41 ?_
          obtain ⟨t114, μ5z, g10, h⟩ := ob_some h
          refine sm_callV dX4_readUnit_114 cv_X8_accept ml_RX4_38 k_1 rfl rfl (by decide) (as := [av_i 41]) rfl (Nat.le_of_ble_eq_true rfl) rfl (s_Ta_accept (D := d) (by omega) N g10) (fun r9 μ9 hp => ?_)
          rw [hp.1, hp.2]
          clear hp r9 μ9
          refine sm_if_eq (tgt := 124) dX4_readUnit_117 (by decide) (fun g11 => ?_) (fun g11 => ?_)
          · replace h := it_t g11 h
            refine sm_iconst dX4_readUnit_124 ic_0 ?_
            cases h
            exact sm_ret_z (st := []) dX4_readUnit_125 rfl rfl ⟨rfl, rfl⟩
          · replace h := it_f g11 h
            refine sm_iconst dX4_readUnit_120 ic_1 ?_
            refine sm_goto (tgt := 125) dX4_readUnit_121 (by decide) ?_
            cases h
            exact sm_ret_z (st := []) dX4_readUnit_125 rfl rfl ⟨rfl, rfl⟩
    · replace h := it_t g5 h
      refine sm_aload_n dX4_readUnit_63 rfl rfl ?_
      refine sm_iload_n dX4_readUnit_64 rfl rfl ?_
      refine sm_iconst dX4_readUnit_65 ic_1 ?_
      refine sm_iadd dX4_readUnit_66 ?_
      obtain ⟨t67, μ6z, g12, h⟩ := ob_some h
      refine sm_callV dX4_readUnit_67 cv_X4_readUnit ml_RX4_51 k_21 rfl rfl (by decide) (as := [av_i (x1 + 1)]) rfl (Nat.le_of_ble_eq_true rfl) rfl (hrc_X4_readUnit _ _ _ _ g12) (fun r9 μ9 hp => ?_)
      rw [hp.1, hp.2]
      clear hp r9 μ9
      refine sm_if_eq (tgt := 86) dX4_readUnit_70 (by decide) (fun g13 => ?_) (fun g13 => ?_)
      · replace h := it_t g13 h
        refine sm_iconst dX4_readUnit_86 ic_0 ?_
        cases h
        exact sm_ret_z (st := []) dX4_readUnit_87 rfl rfl ⟨rfl, rfl⟩
      · replace h := it_f g13 h
        refine sm_aload_n dX4_readUnit_73 rfl rfl ?_
        refine sm_bipush dX4_readUnit_74 bp_m20 ?_
        obtain ⟨t76, μ7z, g14, h⟩ := ob_some h
        refine sm_callV dX4_readUnit_76 cv_X4_emit ml_RX4_34 k_21 rfl rfl (by decide) (as := [av_i (-20)]) rfl (Nat.le_of_ble_eq_true rfl) rfl (s_Lr_emit (D := d) (by omega) N g14) (fun r9 μ9 hp => ?_)
        rw [hp.1, hp.2]
        clear hp r9 μ9
        refine sm_if_eq (tgt := 86) dX4_readUnit_79 (by decide) (fun g15 => ?_) (fun g15 => ?_)
        · replace h := it_t g15 h
          refine sm_iconst dX4_readUnit_86 ic_0 ?_
          cases h
          exact sm_ret_z (st := []) dX4_readUnit_87 rfl rfl ⟨rfl, rfl⟩
        · replace h := it_f g15 h
          refine sm_iconst dX4_readUnit_82 ic_1 ?_
          refine sm_goto (tgt := 87) dX4_readUnit_83 (by decide) ?_
          cases h
          exact sm_ret_z (st := []) dX4_readUnit_87 rfl rfl ⟨rfl, rfl⟩
  · replace h := it_f g3 h
    refine sm_iconst dX4_readUnit_48 ic_0 ?_
    cases h
    exact sm_ret_z (st := []) dX4_readUnit_49 rfl rfl ⟨rfl, rfl⟩
set_option maxRecDepth 100000 in
set_option maxHeartbeats 4000000 in
theorem s_Lr_readUnit_body {D : Nat} (hD : 46 ≤ D) (N : Nat) {rc_X4_readUnit : Int32 → MM → Option (Int32 × MM)} (hrc_X4_readUnit : ∀ (x1 : Int32) (μ : MM) (r : Int32) (μr : MM), rc_X4_readUnit x1 μ = some (r, μr) → Cl (D - 1) mX4_readUnit [av_r 21, av_i x1] μ (po_i r μr)) {rc_X4_readMoreUnits : Int32 → MM → Option (Int32 × MM)} (hrc_X4_readMoreUnits : ∀ (x1 : Int32) (μ : MM) (r : Int32) (μr : MM), rc_X4_readMoreUnits x1 μ = some (r, μr) → Cl (D - 1) mX4_readMoreUnits [av_r 21, av_i x1] μ (po_i r μr)) {x1 : Int32} {μ : MM} {r : Int32} {μr : MM} (h : f_Lr_readUnit_body N rc_X4_readUnit rc_X4_readMoreUnits x1 μ = some (r, μr)) : Cl D mX4_readUnit [av_r 21, av_i x1] μ (po_i r μr) := by
  obtain ⟨d, rfl⟩ : ∃ d, D = d + 1 := ⟨D - 1, by omega⟩
  refine Cl_of pn_X4 (Nat.le_of_ble_eq_true rfl) ?_
  show Sm (d + 1) mX4_readUnit 0 [some (av_r 21), some (av_i x1), none] [] μ (po_i r μr)
  unfold f_Lr_readUnit_body at h
  refine sm_aload_n dX4_readUnit_0 rfl rfl ?_
  refine sm_getR dX4_readUnit_1 fg_RX4_21 k_21 (rf_4_0 k_21) ?_
  obtain ⟨t4, μ1z, g1, h⟩ := ob_some h
  refine sm_callV dX4_readUnit_4 cv_X8_peek ml_RX4_41 k_1 rfl rfl (by decide) (as := []) rfl (Nat.le_of_ble_eq_true rfl) rfl (s_Ta_peek (D := d) (by omega) N g1) (fun r9 μ9 hp => ?_)
  rw [hp.1, hp.2]
  clear hp r9 μ9
  refine sm_istore_n dX4_readUnit_7 rfl (Nat.le_of_ble_eq_true rfl) (pv_i rfl) ?_
  refine sm_iload_n dX4_readUnit_8 rfl rfl ?_
  refine sm_bipush dX4_readUnit_9 bp_33 ?_
  refine sm_icmp_eq (tgt := 42) dX4_readUnit_11 (by decide) (fun g2 => ?_) (fun g2 => ?_)
  · replace h := it_t g2 h
    exact Sm_weak (le_s rfl (le_s rfl (le_s rfl le_0))) (s_Lr_readUnit_B42 hD N hrc_X4_readUnit hrc_X4_readMoreUnits x1 t4 μ1z h)
  · replace h := it_f g2 h
    refine sm_iload_n dX4_readUnit_14 rfl rfl ?_
    refine sm_bipush dX4_readUnit_15 bp_40 ?_
    refine sm_icmp_eq (tgt := 42) dX4_readUnit_17 (by decide) (fun g16 => ?_) (fun g16 => ?_)
    · replace h := it_t g16 h
      exact Sm_weak (le_s rfl (le_s rfl (le_s rfl le_0))) (s_Lr_readUnit_B42 hD N hrc_X4_readUnit hrc_X4_readMoreUnits x1 t4 μ1z h)
    · replace h := it_f g16 h
      refine sm_aload_n dX4_readUnit_20 rfl rfl ?_
      refine sm_iload_n dX4_readUnit_21 rfl rfl ?_
      obtain ⟨t22, μ8z, g17, h⟩ := ob_some h
      refine sm_callV dX4_readUnit_22 cv_X4_readSum ml_RX4_45 k_21 rfl rfl (by decide) (as := [av_i x1]) rfl (Nat.le_of_ble_eq_true rfl) rfl (s_Lr_readSum (D := d) (by omega) N g17) (fun r9 μ9 hp => ?_)
      rw [hp.1, hp.2]
      clear hp r9 μ9
      refine sm_if_eq (tgt := 40) dX4_readUnit_25 (by decide) (fun g18 => ?_) (fun g18 => ?_)
      · replace h := it_t g18 h
        refine sm_iconst dX4_readUnit_40 ic_0 ?_
        cases h
        exact sm_ret_z (st := []) dX4_readUnit_41 rfl rfl ⟨rfl, rfl⟩
      · replace h := it_f g18 h
        refine sm_aload_n dX4_readUnit_28 rfl rfl ?_
        refine sm_iload_n dX4_readUnit_29 rfl rfl ?_
        obtain ⟨t30, μ9z, g19, h⟩ := ob_some h
        refine sm_callV dX4_readUnit_30 cv_X4_readComparison ml_RX4_54 k_21 rfl rfl (by decide) (as := [av_i x1]) rfl (Nat.le_of_ble_eq_true rfl) rfl (s_Lr_readComparison (D := d) (by omega) N g19) (fun r9 μ9 hp => ?_)
        rw [hp.1, hp.2]
        clear hp r9 μ9
        refine sm_if_eq (tgt := 40) dX4_readUnit_33 (by decide) (fun g20 => ?_) (fun g20 => ?_)
        · replace h := it_t g20 h
          refine sm_iconst dX4_readUnit_40 ic_0 ?_
          cases h
          exact sm_ret_z (st := []) dX4_readUnit_41 rfl rfl ⟨rfl, rfl⟩
        · replace h := it_f g20 h
          refine sm_iconst dX4_readUnit_36 ic_1 ?_
          refine sm_goto (tgt := 41) dX4_readUnit_37 (by decide) ?_
          cases h
          exact sm_ret_z (st := []) dX4_readUnit_41 rfl rfl ⟨rfl, rfl⟩
set_option maxRecDepth 100000 in
set_option maxHeartbeats 4000000 in
theorem s_Lr_readMoreUnits_B100 {D : Nat} (hD : 46 ≤ D) (N : Nat) {rc_X4_readUnit : Int32 → MM → Option (Int32 × MM)} (hrc_X4_readUnit : ∀ (x1 : Int32) (μ : MM) (r : Int32) (μr : MM), rc_X4_readUnit x1 μ = some (r, μr) → Cl (D - 1) mX4_readUnit [av_r 21, av_i x1] μ (po_i r μr)) {rc_X4_readMoreUnits : Int32 → MM → Option (Int32 × MM)} (hrc_X4_readMoreUnits : ∀ (x1 : Int32) (μ : MM) (r : Int32) (μr : MM), rc_X4_readMoreUnits x1 μ = some (r, μr) → Cl (D - 1) mX4_readMoreUnits [av_r 21, av_i x1] μ (po_i r μr)) {r : Int32} {μr : MM} (x2 : Int32) (μ : MM) (h : f_Lr_readMoreUnits_B100 N rc_X4_readUnit rc_X4_readMoreUnits x2 μ = some (r, μr)) : Sm D mX4_readMoreUnits 100 [some (av_r 21), none, some (av_i x2), none, none] [] μ (po_i r μr) := by
  obtain ⟨d, rfl⟩ : ∃ d, D = d + 1 := ⟨D - 1, by omega⟩
  unfold f_Lr_readMoreUnits_B100 at h
  refine sm_iload_n dX4_readMoreUnits_100 rfl rfl ?_
  refine sm_if_eq (tgt := 113) dX4_readMoreUnits_101 (by decide) (fun g2 => ?_) (fun g2 => ?_)
  · replace h := it_t g2 h
    refine sm_iconst dX4_readMoreUnits_113 ic_1 ?_
    refine sm_goto (tgt := 118) dX4_readMoreUnits_114 (by decide) ?_
    cases h
    exact sm_ret_z (st := []) dX4_readMoreUnits_118 rfl rfl ⟨rfl, rfl⟩
  · replace h := it_f g2 h
    refine sm_aload_n dX4_readMoreUnits_104 rfl rfl ?_
    refine sm_bipush dX4_readMoreUnits_105 bp_m19 ?_
    obtain ⟨t107, μ1z, g3, h⟩ := ob_some h
    refine sm_callV dX4_readMoreUnits_107 cv_X4_emit ml_RX4_34 k_21 rfl rfl (by decide) (as := [av_i (-19)]) rfl (Nat.le_of_ble_eq_true rfl) rfl (s_Lr_emit (D := d) (by omega) N g3) (fun r9 μ9 hp => ?_)
    rw [hp.1, hp.2]
    clear hp r9 μ9
    refine sm_if_eq (tgt := 117) dX4_readMoreUnits_110 (by decide) (fun g4 => ?_) (fun g4 => ?_)
    · replace h := it_t g4 h
      refine sm_iconst dX4_readMoreUnits_117 ic_0 ?_
      cases h
      exact sm_ret_z (st := []) dX4_readMoreUnits_118 rfl rfl ⟨rfl, rfl⟩
    · replace h := it_f g4 h
      refine sm_iconst dX4_readMoreUnits_113 ic_1 ?_
      refine sm_goto (tgt := 118) dX4_readMoreUnits_114 (by decide) ?_
      cases h
      exact sm_ret_z (st := []) dX4_readMoreUnits_118 rfl rfl ⟨rfl, rfl⟩
set_option maxRecDepth 100000 in
set_option maxHeartbeats 4000000 in
theorem s_Lr_readMoreUnits_B68 {D : Nat} (hD : 46 ≤ D) (N : Nat) {rc_X4_readUnit : Int32 → MM → Option (Int32 × MM)} (hrc_X4_readUnit : ∀ (x1 : Int32) (μ : MM) (r : Int32) (μr : MM), rc_X4_readUnit x1 μ = some (r, μr) → Cl (D - 1) mX4_readUnit [av_r 21, av_i x1] μ (po_i r μr)) {rc_X4_readMoreUnits : Int32 → MM → Option (Int32 × MM)} (hrc_X4_readMoreUnits : ∀ (x1 : Int32) (μ : MM) (r : Int32) (μr : MM), rc_X4_readMoreUnits x1 μ = some (r, μr) → Cl (D - 1) mX4_readMoreUnits [av_r 21, av_i x1] μ (po_i r μr)) {r : Int32} {μr : MM} {k4 : Int32 → Int32 → Int32 → MM → Option (Int32 × MM)} (hk4 : ∀ (x1 : Int32) (x2 : Int32) (x3 : Int32) (μ : MM), k4 x1 x2 x3 μ = some (r, μr) → Sm D mX4_readMoreUnits 4 [some (av_r 21), some (av_i x1), some (av_i x2), some (av_i x3), none] [] μ (po_i r μr)) (x1 : Int32) (x2 : Int32) (x3 : Int32) (x4 : Int32) (μ : MM) (h : f_Lr_readMoreUnits_B68 N rc_X4_readUnit rc_X4_readMoreUnits k4 x1 x2 x3 x4 μ = some (r, μr)) : Sm D mX4_readMoreUnits 68 [some (av_r 21), some (av_i x1), some (av_i x2), some (av_i x3), some (av_i x4)] [] μ (po_i r μr) := by
  obtain ⟨d, rfl⟩ : ∃ d, D = d + 1 := ⟨D - 1, by omega⟩
  unfold f_Lr_readMoreUnits_B68 at h
  refine sm_aload_n dX4_readMoreUnits_68 rfl rfl ?_
  refine sm_iload_n dX4_readMoreUnits_69 rfl rfl ?_
  obtain ⟨t70, μ4z, g9, h⟩ := ob_some h
  refine sm_callV dX4_readMoreUnits_70 cv_X4_readUnit ml_RX4_51 k_21 rfl rfl (by decide) (as := [av_i x1]) rfl (Nat.le_of_ble_eq_true rfl) rfl (hrc_X4_readUnit _ _ _ _ g9) (fun r9 μ9 hp => ?_)
  rw [hp.1, hp.2]
  clear hp r9 μ9
  refine sm_if_eq (tgt := 92) dX4_readMoreUnits_73 (by decide) (fun g10 => ?_) (fun g10 => ?_)
  · replace h := it_t g10 h
    refine sm_iconst dX4_readMoreUnits_92 ic_0 ?_
    cases h
    exact sm_ret_z (st := []) dX4_readMoreUnits_93 rfl rfl ⟨rfl, rfl⟩
  · replace h := it_f g10 h
    refine sm_iload dX4_readMoreUnits_76 rfl ?_
    refine sm_bipush dX4_readMoreUnits_78 bp_38 ?_
    refine sm_icmp_ne (tgt := 94) dX4_readMoreUnits_80 (by decide) (fun g11 => ?_) (fun g11 => ?_)
    · replace h := it_f g11 h
      refine sm_iinc dX4_readMoreUnits_94 rfl (congrArg (HAdd.hAdd x3) ic_1) (Nat.le_of_ble_eq_true rfl) (pv_i rfl) ?_
      refine sm_goto (tgt := 4) dX4_readMoreUnits_97 (by decide) ?_
      exact Sm_weak (le_s rfl (le_s rfl (le_s rfl (le_s rfl (le_n le_0))))) (hk4 x1 x2 (x3 + 1) μ4z h)
    · replace h := it_t g11 h
      refine sm_aload_n dX4_readMoreUnits_83 rfl rfl ?_
      refine sm_bipush dX4_readMoreUnits_84 bp_m18 ?_
      obtain ⟨t86, μ5z, g12, h⟩ := ob_some h
      refine sm_callV dX4_readMoreUnits_86 cv_X4_emit ml_RX4_34 k_21 rfl rfl (by decide) (as := [av_i (-18)]) rfl (Nat.le_of_ble_eq_true rfl) rfl (s_Lr_emit (D := d) (by omega) N g12) (fun r9 μ9 hp => ?_)
      rw [hp.1, hp.2]
      clear hp r9 μ9
      refine sm_if_ne (tgt := 94) dX4_readMoreUnits_89 (by decide) (fun g13 => ?_) (fun g13 => ?_)
      · replace h := it_f g13 h
        refine sm_iinc dX4_readMoreUnits_94 rfl (congrArg (HAdd.hAdd x3) ic_1) (Nat.le_of_ble_eq_true rfl) (pv_i rfl) ?_
        refine sm_goto (tgt := 4) dX4_readMoreUnits_97 (by decide) ?_
        exact Sm_weak (le_s rfl (le_s rfl (le_s rfl (le_s rfl (le_n le_0))))) (hk4 x1 x2 (x3 + 1) μ5z h)
      · replace h := it_t g13 h
        refine sm_iconst dX4_readMoreUnits_92 ic_0 ?_
        cases h
        exact sm_ret_z (st := []) dX4_readMoreUnits_93 rfl rfl ⟨rfl, rfl⟩
set_option maxRecDepth 100000 in
set_option maxHeartbeats 4000000 in
theorem s_Lr_readMoreUnits_B66 {D : Nat} (hD : 46 ≤ D) (N : Nat) {rc_X4_readUnit : Int32 → MM → Option (Int32 × MM)} (hrc_X4_readUnit : ∀ (x1 : Int32) (μ : MM) (r : Int32) (μr : MM), rc_X4_readUnit x1 μ = some (r, μr) → Cl (D - 1) mX4_readUnit [av_r 21, av_i x1] μ (po_i r μr)) {rc_X4_readMoreUnits : Int32 → MM → Option (Int32 × MM)} (hrc_X4_readMoreUnits : ∀ (x1 : Int32) (μ : MM) (r : Int32) (μr : MM), rc_X4_readMoreUnits x1 μ = some (r, μr) → Cl (D - 1) mX4_readMoreUnits [av_r 21, av_i x1] μ (po_i r μr)) {r : Int32} {μr : MM} {k4 : Int32 → Int32 → Int32 → MM → Option (Int32 × MM)} (hk4 : ∀ (x1 : Int32) (x2 : Int32) (x3 : Int32) (μ : MM), k4 x1 x2 x3 μ = some (r, μr) → Sm D mX4_readMoreUnits 4 [some (av_r 21), some (av_i x1), some (av_i x2), some (av_i x3), none] [] μ (po_i r μr)) (x1 : Int32) (x3 : Int32) (x4 : Int32) (μ : MM) (h : f_Lr_readMoreUnits_B66 N rc_X4_readUnit rc_X4_readMoreUnits k4 x1 x3 x4 μ = some (r, μr)) : Sm D mX4_readMoreUnits 66 [some (av_r 21), some (av_i x1), none, some (av_i x3), some (av_i x4)] [] μ (po_i r μr) := by
  obtain ⟨d, rfl⟩ : ∃ d, D = d + 1 := ⟨D - 1, by omega⟩
  unfold f_Lr_readMoreUnits_B66 at h
  refine sm_iconst dX4_readMoreUnits_66 ic_1 ?_
  refine sm_istore_n dX4_readMoreUnits_67 rfl (Nat.le_of_ble_eq_true rfl) (pv_i rfl) ?_
  exact Sm_weak (le_s rfl (le_s rfl (le_s rfl (le_s rfl (le_s rfl le_0))))) (s_Lr_readMoreUnits_B68 hD N hrc_X4_readUnit hrc_X4_readMoreUnits hk4 x1 1 x3 x4 μ h)
set_option maxRecDepth 100000 in
set_option maxHeartbeats 4000000 in
theorem s_Lr_readMoreUnits_B37 {D : Nat} (hD : 46 ≤ D) (N : Nat) {rc_X4_readUnit : Int32 → MM → Option (Int32 × MM)} (hrc_X4_readUnit : ∀ (x1 : Int32) (μ : MM) (r : Int32) (μr : MM), rc_X4_readUnit x1 μ = some (r, μr) → Cl (D - 1) mX4_readUnit [av_r 21, av_i x1] μ (po_i r μr)) {rc_X4_readMoreUnits : Int32 → MM → Option (Int32 × MM)} (hrc_X4_readMoreUnits : ∀ (x1 : Int32) (μ : MM) (r : Int32) (μr : MM), rc_X4_readMoreUnits x1 μ = some (r, μr) → Cl (D - 1) mX4_readMoreUnits [av_r 21, av_i x1] μ (po_i r μr)) {r : Int32} {μr : MM} {k4 : Int32 → Int32 → Int32 → MM → Option (Int32 × MM)} (hk4 : ∀ (x1 : Int32) (x2 : Int32) (x3 : Int32) (μ : MM), k4 x1 x2 x3 μ = some (r, μr) → Sm D mX4_readMoreUnits 4 [some (av_r 21), some (av_i x1), some (av_i x2), some (av_i x3), none] [] μ (po_i r μr)) (x1 : Int32) (x2 : Int32) (x3 : Int32) (x4 : Int32) (μ : MM) (h : f_Lr_readMoreUnits_B37 N rc_X4_readUnit rc_X4_readMoreUnits k4 x1 x2 x3 x4 μ = some (r, μr)) : Sm D mX4_readMoreUnits 37 [some (av_r 21), some (av_i x1), some (av_i x2), some (av_i x3), some (av_i x4)] [] μ (po_i r μr) := by
  obtain ⟨d, rfl⟩ : ∃ d, D = d + 1 := ⟨D - 1, by omega⟩
  unfold f_Lr_readMoreUnits_B37 at h
  refine sm_aload_n dX4_readMoreUnits_37 rfl rfl ?_
  refine sm_getR dX4_readMoreUnits_38 fg_RX4_21 k_21 (rf_4_0 k_21) ?_
  obtain ⟨μ3z, g7, h⟩ := obv_some h
  refine sm_callV dX4_readMoreUnits_41 cv_X8_step ml_RX4_60 k_1 rfl rfl (by decide) (as := []) rfl (Nat.le_of_ble_eq_true rfl) rfl (s_Ta_step (D := d) (by omega) N g7) (fun r9 μ9 hp => ?_)
  rw [hp.1, hp.2]
  clear hp r9 μ9
  refine sm_iload dX4_readMoreUnits_44 rfl ?_
  refine sm_bipush dX4_readMoreUnits_46 bp_124 ?_
  refine sm_icmp_ne (tgt := 68) dX4_readMoreUnits_48 (by decide) (fun g8 => ?_) (fun g8 => ?_)
  · replace h := it_f g8 h
    exact Sm_weak (le_s rfl (le_s rfl (le_s rfl (le_s rfl (le_s rfl le_0))))) (s_Lr_readMoreUnits_B68 hD N hrc_X4_readUnit hrc_X4_readMoreUnits hk4 x1 x2 x3 x4 μ3z h)
  · replace h := it_t g8 h
    refine sm_iload_n dX4_readMoreUnits_51 rfl rfl ?_
    refine sm_if_eq (tgt := 66) dX4_readMoreUnits_52 (by decide) (fun g14 => ?_) (fun g14 => ?_)
    · replace h := it_t g14 h
      exact Sm_weak (le_s rfl (le_s rfl (le_n (le_s rfl (le_s rfl le_0))))) (s_Lr_readMoreUnits_B66 hD N hrc_X4_readUnit hrc_X4_readMoreUnits hk4 x1 x3 x4 μ3z h)
    · replace h := it_f g14 h
      refine sm_aload_n dX4_readMoreUnits_55 rfl rfl ?_
      refine sm_bipush dX4_readMoreUnits_56 bp_m19 ?_
      obtain ⟨t58, μ6z, g15, h⟩ := ob_some h
      refine sm_callV dX4_readMoreUnits_58 cv_X4_emit ml_RX4_34 k_21 rfl rfl (by decide) (as := [av_i (-19)]) rfl (Nat.le_of_ble_eq_true rfl) rfl (s_Lr_emit (D := d) (by omega) N g15) (fun r9 μ9 hp => ?_)
      rw [hp.1, hp.2]
      clear hp r9 μ9
      refine sm_if_ne (tgt := 66) dX4_readMoreUnits_61 (by decide) (fun g16 => ?_) (fun g16 => ?_)
      · replace h := it_f g16 h
        exact Sm_weak (le_s rfl (le_s rfl (le_n (le_s rfl (le_s rfl le_0))))) (s_Lr_readMoreUnits_B66 hD N hrc_X4_readUnit hrc_X4_readMoreUnits hk4 x1 x3 x4 μ6z h)
      · replace h := it_t g16 h
        refine sm_iconst dX4_readMoreUnits_64 ic_0 ?_
        cases h
        exact sm_ret_z (st := []) dX4_readMoreUnits_65 rfl rfl ⟨rfl, rfl⟩
set_option maxRecDepth 100000 in
set_option maxHeartbeats 4000000 in
theorem s_Lr_readMoreUnits_L4 {D : Nat} (hD : 46 ≤ D) (N : Nat) {rc_X4_readUnit : Int32 → MM → Option (Int32 × MM)} (hrc_X4_readUnit : ∀ (x1 : Int32) (μ : MM) (r : Int32) (μr : MM), rc_X4_readUnit x1 μ = some (r, μr) → Cl (D - 1) mX4_readUnit [av_r 21, av_i x1] μ (po_i r μr)) {rc_X4_readMoreUnits : Int32 → MM → Option (Int32 × MM)} (hrc_X4_readMoreUnits : ∀ (x1 : Int32) (μ : MM) (r : Int32) (μr : MM), rc_X4_readMoreUnits x1 μ = some (r, μr) → Cl (D - 1) mX4_readMoreUnits [av_r 21, av_i x1] μ (po_i r μr)) {r : Int32} {μr : MM} : ∀ (n : Nat) (x1 : Int32) (x2 : Int32) (x3 : Int32) (μ : MM), f_Lr_readMoreUnits_L4 N rc_X4_readUnit rc_X4_readMoreUnits n x1 x2 x3 μ = some (r, μr) → Sm D mX4_readMoreUnits 4 [some (av_r 21), some (av_i x1), some (av_i x2), some (av_i x3), none] [] μ (po_i r μr) := by
  obtain ⟨d, rfl⟩ : ∃ d, D = d + 1 := ⟨D - 1, by omega⟩
  intro n
  induction n with
  | zero => intro x1 x2 x3 μ h; cases (show none = some (r, μr) from h)
  | succ n ih =>
    intro x1 x2 x3 μ h
    rw [f_Lr_readMoreUnits_L4] at h
    refine sm_iload_n dX4_readMoreUnits_4 rfl rfl ?_
    refine sm_sipush dX4_readMoreUnits_5 sp_240 ?_
    refine sm_icmp_gt (tgt := 100) dX4_readMoreUnits_8 (by decide) (fun g1 => ?_) (fun g1 => ?_)
    · replace h := it_t g1 h
      exact Sm_weak (le_s rfl (le_n (le_s rfl (le_n (le_n le_0))))) (s_Lr_readMoreUnits_B100 hD N hrc_X4_readUnit hrc_X4_readMoreUnits x2 μ h)
    · replace h := it_f g1 h
      refine sm_aload_n dX4_readMoreUnits_11 rfl rfl ?_
      refine sm_getR dX4_readMoreUnits_12 fg_RX4_21 k_21 (rf_4_0 k_21) ?_
      obtain ⟨t15, μ2z, g5, h⟩ := ob_some h
      refine sm_callV dX4_readMoreUnits_15 cv_X8_peek ml_RX4_41 k_1 rfl rfl (by decide) (as := []) rfl (Nat.le_of_ble_eq_true rfl) rfl (s_Ta_peek (D := d) (by omega) N g5) (fun r9 μ9 hp => ?_)
      rw [hp.1, hp.2]
      clear hp r9 μ9
      refine sm_istore dX4_readMoreUnits_18 (Nat.le_of_ble_eq_true rfl) (pv_i rfl) ?_
      refine sm_iload dX4_readMoreUnits_20 rfl ?_
      refine sm_bipush dX4_readMoreUnits_22 bp_38 ?_
      refine sm_icmp_eq (tgt := 37) dX4_readMoreUnits_24 (by decide) (fun g6 => ?_) (fun g6 => ?_)
      · replace h := it_t g6 h
        exact Sm_weak (le_s rfl (le_s rfl (le_s rfl (le_s rfl (le_s rfl le_0))))) (s_Lr_readMoreUnits_B37 hD N hrc_X4_readUnit hrc_X4_readMoreUnits ih x1 x2 x3 t15 μ2z h)
      · replace h := it_f g6 h
        refine sm_iload dX4_readMoreUnits_27 rfl ?_
        refine sm_bipush dX4_readMoreUnits_29 bp_124 ?_
        refine sm_icmp_eq (tgt := 37) dX4_readMoreUnits_31 (by decide) (fun g17 => ?_) (fun g17 => ?_)
        · replace h := it_t g17 h
          exact Sm_weak (le_s rfl (le_s rfl (le_s rfl (le_s rfl (le_s rfl le_0))))) (s_Lr_readMoreUnits_B37 hD N hrc_X4_readUnit hrc_X4_readMoreUnits ih x1 x2 x3 t15 μ2z h)
        · replace h := it_f g17 h
          refine sm_goto (tgt := 100) dX4_readMoreUnits_34 (by decide) ?_
          exact Sm_weak (le_s rfl (le_n (le_s rfl (le_n (le_n le_0))))) (s_Lr_readMoreUnits_B100 hD N hrc_X4_readUnit hrc_X4_readMoreUnits x2 μ2z h)
set_option maxRecDepth 100000 in
set_option maxHeartbeats 4000000 in
theorem s_Lr_readMoreUnits_body {D : Nat} (hD : 46 ≤ D) (N : Nat) {rc_X4_readUnit : Int32 → MM → Option (Int32 × MM)} (hrc_X4_readUnit : ∀ (x1 : Int32) (μ : MM) (r : Int32) (μr : MM), rc_X4_readUnit x1 μ = some (r, μr) → Cl (D - 1) mX4_readUnit [av_r 21, av_i x1] μ (po_i r μr)) {rc_X4_readMoreUnits : Int32 → MM → Option (Int32 × MM)} (hrc_X4_readMoreUnits : ∀ (x1 : Int32) (μ : MM) (r : Int32) (μr : MM), rc_X4_readMoreUnits x1 μ = some (r, μr) → Cl (D - 1) mX4_readMoreUnits [av_r 21, av_i x1] μ (po_i r μr)) {x1 : Int32} {μ : MM} {r : Int32} {μr : MM} (h : f_Lr_readMoreUnits_body N rc_X4_readUnit rc_X4_readMoreUnits x1 μ = some (r, μr)) : Cl D mX4_readMoreUnits [av_r 21, av_i x1] μ (po_i r μr) := by
  obtain ⟨d, rfl⟩ : ∃ d, D = d + 1 := ⟨D - 1, by omega⟩
  refine Cl_of pn_X4 (Nat.le_of_ble_eq_true rfl) ?_
  show Sm (d + 1) mX4_readMoreUnits 0 [some (av_r 21), some (av_i x1), none, none, none] [] μ (po_i r μr)
  unfold f_Lr_readMoreUnits_body at h
  refine sm_iconst dX4_readMoreUnits_0 ic_0 ?_
  refine sm_istore_n dX4_readMoreUnits_1 rfl (Nat.le_of_ble_eq_true rfl) (pv_i rfl) ?_
  refine sm_iconst dX4_readMoreUnits_2 ic_0 ?_
  refine sm_istore_n dX4_readMoreUnits_3 rfl (Nat.le_of_ble_eq_true rfl) (pv_i rfl) ?_
  exact Sm_weak (le_s rfl (le_s rfl (le_s rfl (le_s rfl (le_n le_0))))) (s_Lr_readMoreUnits_L4 hD N hrc_X4_readUnit hrc_X4_readMoreUnits N x1 0 0 μ h)
set_option maxRecDepth 100000 in
set_option maxHeartbeats 4000000 in
theorem s_cl_Lr_readUnit (N : Nat) : ∀ (t : Nat) {D : Nat} (hD : 46 + t ≤ D) (g : Nat) (a0 : Int32) (μ : MM) (r : Int32) (μr : MM) (h : f_cl_Lr_readUnit N t g a0 μ = some (r, μr)), (g = 0 → Cl D mX4_readUnit [av_r 21, av_i a0] μ (po_i r μr)) ∧ (g = 1 → Cl D mX4_readMoreUnits [av_r 21, av_i a0] μ (po_i r μr)) := by
  intro t
  induction t with
  | zero => intro D hD g a0 μ r μr h; cases (show none = some (r, μr) from h)
  | succ t ih =>
    intro D hD g a0 μ r μr h
    rw [f_cl_Lr_readUnit] at h
    refine ⟨?_, ?_⟩
    · intro e; subst e; rw [if_pos rfl] at h; exact s_Lr_readUnit_body (by omega) N (fun x1 μ r μr hh => (ih (D := D - 1) (by omega) 0 x1 μ r μr hh).1 rfl) (fun x1 μ r μr hh => (ih (D := D - 1) (by omega) 1 x1 μ r μr hh).2 rfl) h
    · intro e; subst e; rw [if_neg (by omega)] at h; exact s_Lr_readMoreUnits_body (by omega) N (fun x1 μ r μr hh => (ih (D := D - 1) (by omega) 0 x1 μ r μr hh).1 rfl) (fun x1 μ r μr hh => (ih (D := D - 1) (by omega) 1 x1 μ r μr hh).2 rfl) h
set_option maxRecDepth 100000 in
set_option maxHeartbeats 4000000 in
theorem s_Lr_readUnit {D : Nat} (hD : 86 ≤ D) (N : Nat) {x1 : Int32} {μ : MM} {r : Int32} {μr : MM} (h : f_Lr_readUnit N x1 μ = some (r, μr)) : Cl D mX4_readUnit [av_r 21, av_i x1] μ (po_i r μr) := (s_cl_Lr_readUnit N 40 (by omega) 0 _ μ r μr h).1 rfl
set_option maxRecDepth 100000 in
set_option maxHeartbeats 4000000 in
theorem s_Lr_readMoreUnits {D : Nat} (hD : 86 ≤ D) (N : Nat) {x1 : Int32} {μ : MM} {r : Int32} {μr : MM} (h : f_Lr_readMoreUnits N x1 μ = some (r, μr)) : Cl D mX4_readMoreUnits [av_r 21, av_i x1] μ (po_i r μr) := (s_cl_Lr_readUnit N 40 (by omega) 1 _ μ r μr h).2 rfl
set_option maxRecDepth 100000 in
set_option maxHeartbeats 4000000 in
theorem s_Lr_readClause_B99 {D : Nat} (hD : 87 ≤ D) (N : Nat) {r : Int32} {μr : MM} (s0 : Int32) (μ : MM) (h : f_Lr_readClause_B99 N s0 μ = some (r, μr)) : Sm D mX4_readClause 99 [some (av_r 21), none, none, none] [av_i s0] μ (po_i r μr) := by
  obtain ⟨d, rfl⟩ : ∃ d, D = d + 1 := ⟨D - 1, by omega⟩
  unfold f_Lr_readClause_B99 at h
  refine sm_istore_n dX4_readClause_99 rfl (Nat.le_of_ble_eq_true rfl) (pv_n rfl) ?_
  refine sm_iload_n dX4_readClause_100 rfl rfl ?_
  refine sm_if_eq (tgt := 145) dX4_readClause_101 (by decide) (fun g10 => ?_) (fun g10 => ?_)
  · replace h := it_t g10 h
    refine sm_iconst dX4_readClause_145 ic_0 ?_
    cases h
    exact sm_ret_z (st := []) dX4_readClause_146 rfl rfl ⟨rfl, rfl⟩
  · replace h := it_f g10 h
    refine sm_aload_n dX4_readClause_104 rfl rfl ?_
    refine sm_iconst dX4_readClause_105 ic_0 ?_
    obtain ⟨t106, μ5z, g11, h⟩ := ob_some h
    refine sm_callV dX4_readClause_106 cv_X4_readMoreUnits ml_RX4_57 k_21 rfl rfl (by decide) (as := [av_i 0]) rfl (Nat.le_of_ble_eq_true rfl) rfl (s_Lr_readMoreUnits (D := d) (by omega) N g11) (fun r9 μ9 hp => ?_)
    rw [hp.1, hp.2]
    clear hp r9 μ9
    refine sm_if_eq (tgt := 145) dX4_readClause_109 (by decide) (fun g12 => ?_) (fun g12 => ?_)
    · replace h := it_t g12 h
      refine sm_iconst dX4_readClause_145 ic_0 ?_
      cases h
      exact sm_ret_z (st := []) dX4_readClause_146 rfl rfl ⟨rfl, rfl⟩
    · replace h := it_f g12 h
      refine sm_aload_n dX4_readClause_112 rfl rfl ?_
      refine sm_getR dX4_readClause_113 fg_RX4_21 k_21 (rf_4_0 k_21) ?_
      refine sm_bipush dX4_readClause_116 bp_63 ?_
      obtain ⟨t118, μ6z, g13, h⟩ := ob_some h
      refine sm_callV dX4_readClause_118 cv_X8_accept ml_RX4_38 k_1 rfl rfl (by decide) (as := [av_i 63]) rfl (Nat.le_of_ble_eq_true rfl) rfl (s_Ta_accept (D := d) (by omega) N g13) (fun r9 μ9 hp => ?_)
      rw [hp.1, hp.2]
      clear hp r9 μ9
      refine sm_if_eq (tgt := 145) dX4_readClause_121 (by decide) (fun g14 => ?_) (fun g14 => ?_)
      · replace h := it_t g14 h
        refine sm_iconst dX4_readClause_145 ic_0 ?_
        cases h
        exact sm_ret_z (st := []) dX4_readClause_146 rfl rfl ⟨rfl, rfl⟩
      · replace h := it_f g14 h
        refine sm_aload_n dX4_readClause_124 rfl rfl ?_
        refine sm_bipush dX4_readClause_125 bp_m21 ?_
        obtain ⟨t127, μ7z, g15, h⟩ := ob_some h
        refine sm_callV dX4_readClause_127 cv_X4_emit ml_RX4_34 k_21 rfl rfl (by decide) (as := [av_i (-21)]) rfl (Nat.le_of_ble_eq_true rfl) rfl (s_Lr_emit (D := d) (by omega) N g15) (fun r9 μ9 hp => ?_)
        rw [hp.1, hp.2]
        clear hp r9 μ9
        refine sm_if_eq (tgt := 145) dX4_readClause_130 (by decide) (fun g16 => ?_) (fun g16 => ?_)
        · replace h := it_t g16 h
          refine sm_iconst dX4_readClause_145 ic_0 ?_
          cases h
          exact sm_ret_z (st := []) dX4_readClause_146 rfl rfl ⟨rfl, rfl⟩
        · replace h := it_f g16 h
          refine sm_aload_n dX4_readClause_133 rfl rfl ?_
          refine sm_iconst dX4_readClause_134 ic_0 ?_
          obtain ⟨t135, μ8z, g17, h⟩ := ob_some h
          refine sm_callV dX4_readClause_135 cv_X4_readSum ml_RX4_45 k_21 rfl rfl (by decide) (as := [av_i 0]) rfl (Nat.le_of_ble_eq_true rfl) rfl (s_Lr_readSum (D := d) (by omega) N g17) (fun r9 μ9 hp => ?_)
          rw [hp.1, hp.2]
          clear hp r9 μ9
          refine sm_if_eq (tgt := 145) dX4_readClause_138 (by decide) (fun g18 => ?_) (fun g18 => ?_)
          · replace h := it_t g18 h
            refine sm_iconst dX4_readClause_145 ic_0 ?_
            cases h
            exact sm_ret_z (st := []) dX4_readClause_146 rfl rfl ⟨rfl, rfl⟩
          · replace h := it_f g18 h
            refine sm_iconst dX4_readClause_141 ic_1 ?_
            refine sm_goto (tgt := 146) dX4_readClause_142 (by decide) ?_
            cases h
            exact sm_ret_z (st := []) dX4_readClause_146 rfl rfl ⟨rfl, rfl⟩
set_option maxRecDepth 100000 in
set_option maxHeartbeats 4000000 in
theorem s_Lr_readClause_B82 {D : Nat} (hD : 87 ≤ D) (N : Nat) {r : Int32} {μr : MM} (x2 : Int32) (μ : MM) (h : f_Lr_readClause_B82 N x2 μ = some (r, μr)) : Sm D mX4_readClause 82 [some (av_r 21), none, some (av_i x2), none] [] μ (po_i r μr) := by
  obtain ⟨d, rfl⟩ : ∃ d, D = d + 1 := ⟨D - 1, by omega⟩
  unfold f_Lr_readClause_B82 at h
  refine sm_iload_n dX4_readClause_82 rfl rfl ?_
  refine sm_if_eq (tgt := 94) dX4_readClause_83 (by decide) (fun g8 => ?_) (fun g8 => ?_)
  · replace h := it_t g8 h
    refine sm_aload_n dX4_readClause_94 rfl rfl ?_
    refine sm_iconst dX4_readClause_95 ic_0 ?_
    obtain ⟨t96, μ4z, g9, h⟩ := ob_some h
    refine sm_callV dX4_readClause_96 cv_X4_readComparison ml_RX4_54 k_21 rfl rfl (by decide) (as := [av_i 0]) rfl (Nat.le_of_ble_eq_true rfl) rfl (s_Lr_readComparison (D := d) (by omega) N g9) (fun r9 μ9 hp => ?_)
    rw [hp.1, hp.2]
    clear hp r9 μ9
    exact Sm_weak (le_s rfl (le_n (le_n (le_n le_0)))) (s_Lr_readClause_B99 hD N t96 μ4z h)
  · replace h := it_f g8 h
    refine sm_aload_n dX4_readClause_86 rfl rfl ?_
    refine sm_iconst dX4_readClause_87 ic_0 ?_
    obtain ⟨t88, μ9z, g19, h⟩ := ob_some h
    refine sm_callV dX4_readClause_88 cv_X4_readUnit ml_RX4_51 k_21 rfl rfl (by decide) (as := [av_i 0]) rfl (Nat.le_of_ble_eq_true rfl) rfl (s_Lr_readUnit (D := d) (by omega) N g19) (fun r9 μ9 hp => ?_)
    rw [hp.1, hp.2]
    clear hp r9 μ9
    refine sm_goto (tgt := 99) dX4_readClause_91 (by decide) ?_
    exact Sm_weak (le_s rfl (le_n (le_n (le_n le_0)))) (s_Lr_readClause_B99 hD N t88 μ9z h)
set_option maxRecDepth 100000 in
set_option maxHeartbeats 4000000 in
theorem s_Lr_readClause_B51 {D : Nat} (hD : 87 ≤ D) (N : Nat) {r : Int32} {μr : MM} (s0 : Int32) (μ : MM) (h : f_Lr_readClause_B51 N s0 μ = some (r, μr)) : Sm D mX4_readClause 51 [some (av_r 21), none, none, none] [av_i s0] μ (po_i r μr) := by
  obtain ⟨d, rfl⟩ : ∃ d, D = d + 1 := ⟨D - 1, by omega⟩
  unfold f_Lr_readClause_B51 at h
  refine sm_istore_n dX4_readClause_51 rfl (Nat.le_of_ble_eq_true rfl) (pv_n rfl) ?_
  refine sm_iload_n dX4_readClause_52 rfl rfl ?_
  refine sm_if_ne (tgt := 82) dX4_readClause_53 (by decide) (fun g7 => ?_) (fun g7 => ?_)
  · replace h := it_f g7 h
    exact Sm_weak (le_s rfl (le_n (le_s rfl (le_n le_0)))) (s_Lr_readClause_B82 hD N s0 μ h)
  · replace h := it_t g7 h
    refine sm_aload_n dX4_readClause_56 rfl rfl ?_
    refine sm_iconst dX4_readClause_57 ic_0 ?_
    obtain ⟨t58, μ10z, g20, h⟩ := ob_some h
    refine sm_callV dX4_readClause_58 cv_X4_readSum ml_RX4_45 k_21 rfl rfl (by decide) (as := [av_i 0]) rfl (Nat.le_of_ble_eq_true rfl) rfl (s_Lr_readSum (D := d) (by omega) N g20) (fun r9 μ9 hp => ?_)
    rw [hp.1, hp.2]
    clear hp r9 μ9
    refine sm_if_ne (tgt := 66) dX4_readClause_61 (by decide) (fun g21 => ?_) (fun g21 => ?_)
    · replace h := it_f g21 h
      refine sm_aload_n dX4_readClause_66 rfl rfl ?_
      refine sm_aload_n dX4_readClause_67 rfl rfl ?_
      refine sm_getR dX4_readClause_68 fg_RX4_21 k_21 (rf_4_0 k_21) ?_
      obtain ⟨t71, μ11z, g22, h⟩ := ob_some h
      refine sm_callV dX4_readClause_71 cv_X8_peek ml_RX4_41 k_1 rfl rfl (by decide) (as := []) rfl (Nat.le_of_ble_eq_true rfl) rfl (s_Ta_peek (D := d) (by omega) N g22) (fun r9 μ9 hp => ?_)
      rw [hp.1, hp.2]
      clear hp r9 μ9
      obtain ⟨t74, μ12z, g23, h⟩ := ob_some h
      refine sm_callV dX4_readClause_74 cv_X4_isComparing ml_RX4_48 k_21 rfl rfl (by decide) (as := [av_i t71]) rfl (Nat.le_of_ble_eq_true rfl) rfl (s_Lr_isComparing (D := d) (by omega) N g23) (fun r9 μ9 hp => ?_)
      rw [hp.1, hp.2]
      clear hp r9 μ9
      refine sm_if_ne (tgt := 82) dX4_readClause_77 (by decide) (fun g24 => ?_) (fun g24 => ?_)
      · replace h := it_f g24 h
        exact Sm_weak (le_s rfl (le_n (le_s rfl (le_n le_0)))) (s_Lr_readClause_B82 hD N s0 μ12z h)
      · replace h := it_t g24 h
        refine sm_iconst dX4_readClause_80 ic_1 ?_
        cases h
        exact sm_ret_z (st := []) dX4_readClause_81 rfl rfl ⟨rfl, rfl⟩
    · replace h := it_t g21 h
      refine sm_iconst dX4_readClause_64 ic_0 ?_
      cases h
      exact sm_ret_z (st := []) dX4_readClause_65 rfl rfl ⟨rfl, rfl⟩
set_option maxRecDepth 100000 in
set_option maxHeartbeats 4000000 in
theorem s_Lr_readClause_B46 {D : Nat} (hD : 87 ≤ D) (N : Nat) {r : Int32} {μr : MM} (μ : MM) (h : f_Lr_readClause_B46 N μ = some (r, μr)) : Sm D mX4_readClause 46 [some (av_r 21), none, none, none] [] μ (po_i r μr) := by
  obtain ⟨d, rfl⟩ : ∃ d, D = d + 1 := ⟨D - 1, by omega⟩
  unfold f_Lr_readClause_B46 at h
  refine sm_iconst dX4_readClause_46 ic_1 ?_
  refine sm_goto (tgt := 51) dX4_readClause_47 (by decide) ?_
  exact Sm_weak (le_s rfl (le_n (le_n (le_n le_0)))) (s_Lr_readClause_B51 hD N 1 μ h)
set_option maxRecDepth 100000 in
set_option maxHeartbeats 4000000 in
theorem s_Lr_readClause {D : Nat} (hD : 87 ≤ D) (N : Nat) {μ : MM} {r : Int32} {μr : MM} (h : f_Lr_readClause N μ = some (r, μr)) : Cl D mX4_readClause [av_r 21] μ (po_i r μr) := by
  obtain ⟨d, rfl⟩ : ∃ d, D = d + 1 := ⟨D - 1, by omega⟩
  refine Cl_of pn_X4 (Nat.le_of_ble_eq_true rfl) ?_
  show Sm (d + 1) mX4_readClause 0 [some (av_r 21), none, none, none] [] μ (po_i r μr)
  unfold f_Lr_readClause at h
  refine sm_aload_n dX4_readClause_0 rfl rfl ?_
  refine sm_getR dX4_readClause_1 fg_RX4_21 k_21 (rf_4_0 k_21) ?_
  refine sm_bipush dX4_readClause_4 bp_121 ?_
  obtain ⟨t6, μ1z, g1, h⟩ := ob_some h
  refine sm_callV dX4_readClause_6 cv_X8_accept ml_RX4_38 k_1 rfl rfl (by decide) (as := [av_i 121]) rfl (Nat.le_of_ble_eq_true rfl) rfl (s_Ta_accept (D := d) (by omega) N g1) (fun r9 μ9 hp => ?_)
  rw [hp.1, hp.2]
  clear hp r9 μ9
  refine sm_if_eq (tgt := 24) dX4_readClause_9 (by decide) (fun g2 => ?_) (fun g2 => ?_)
  · replace h := it_t g2 h
    refine sm_iconst dX4_readClause_24 ic_0 ?_
    cases h
    exact sm_ret_z (st := []) dX4_readClause_25 rfl rfl ⟨rfl, rfl⟩
  · replace h := it_f g2 h
    refine sm_aload_n dX4_readClause_12 rfl rfl ?_
    refine sm_getR dX4_readClause_13 fg_RX4_21 k_21 (rf_4_0 k_21) ?_
    refine sm_bipush dX4_readClause_16 bp_58 ?_
    obtain ⟨t18, μ2z, g3, h⟩ := ob_some h
    refine sm_callV dX4_readClause_18 cv_X8_accept ml_RX4_38 k_1 rfl rfl (by decide) (as := [av_i 58]) rfl (Nat.le_of_ble_eq_true rfl) rfl (s_Ta_accept (D := d) (by omega) N g3) (fun r9 μ9 hp => ?_)
    rw [hp.1, hp.2]
    clear hp r9 μ9
    refine sm_if_ne (tgt := 26) dX4_readClause_21 (by decide) (fun g4 => ?_) (fun g4 => ?_)
    · replace h := it_f g4 h
      refine sm_aload_n dX4_readClause_26 rfl rfl ?_
      refine sm_getR dX4_readClause_27 fg_RX4_21 k_21 (rf_4_0 k_21) ?_
      obtain ⟨t30, μ3z, g5, h⟩ := ob_some h
      refine sm_callV dX4_readClause_30 cv_X8_peek ml_RX4_41 k_1 rfl rfl (by decide) (as := []) rfl (Nat.le_of_ble_eq_true rfl) rfl (s_Ta_peek (D := d) (by omega) N g5) (fun r9 μ9 hp => ?_)
      rw [hp.1, hp.2]
      clear hp r9 μ9
      refine sm_istore_n dX4_readClause_33 rfl (Nat.le_of_ble_eq_true rfl) (pv_r rfl) ?_
      refine sm_iload_n dX4_readClause_34 rfl rfl ?_
      refine sm_bipush dX4_readClause_35 bp_33 ?_
      refine sm_icmp_eq (tgt := 46) dX4_readClause_37 (by decide) (fun g6 => ?_) (fun g6 => ?_)
      · replace h := it_t g6 h
        exact Sm_weak (le_s rfl (le_n (le_n (le_n le_0)))) (s_Lr_readClause_B46 hD N  μ3z h)
      · replace h := it_f g6 h
        refine sm_iload_n dX4_readClause_40 rfl rfl ?_
        refine sm_bipush dX4_readClause_41 bp_40 ?_
        refine sm_icmp_ne (tgt := 50) dX4_readClause_43 (by decide) (fun g25 => ?_) (fun g25 => ?_)
        · replace h := it_f g25 h
          refine sm_iconst dX4_readClause_50 ic_0 ?_
          exact Sm_weak (le_s rfl (le_n (le_n (le_n le_0)))) (s_Lr_readClause_B51 hD N 0 μ3z h)
        · replace h := it_t g25 h
          exact Sm_weak (le_s rfl (le_n (le_n (le_n le_0)))) (s_Lr_readClause_B46 hD N  μ3z h)
    · replace h := it_t g4 h
      refine sm_iconst dX4_readClause_24 ic_0 ?_
      cases h
      exact sm_ret_z (st := []) dX4_readClause_25 rfl rfl ⟨rfl, rfl⟩
set_option maxRecDepth 100000 in
set_option maxHeartbeats 4000000 in
theorem s_Lr_readLaw_L14 {D : Nat} (hD : 88 ≤ D) (N : Nat) {r : Int32} {μr : MM} : ∀ (n : Nat) (x1 : Int32) (μ : MM), f_Lr_readLaw_L14 N n x1 μ = some (r, μr) → Sm D mX4_readLaw 14 [some (av_r 21), some (av_i x1)] [] μ (po_i r μr) := by
  obtain ⟨d, rfl⟩ : ∃ d, D = d + 1 := ⟨D - 1, by omega⟩
  intro n
  induction n with
  | zero => intro x1 μ h; cases (show none = some (r, μr) from h)
  | succ n ih =>
    intro x1 μ h
    rw [f_Lr_readLaw_L14] at h
    refine sm_iload_n dX4_readLaw_14 rfl rfl ?_
    refine sm_sipush dX4_readLaw_15 sp_240 ?_
    refine sm_icmp_gt (tgt := 74) dX4_readLaw_18 (by decide) (fun g2 => ?_) (fun g2 => ?_)
    · replace h := it_t g2 h
      refine sm_iconst dX4_readLaw_74 ic_0 ?_
      cases h
      exact sm_ret_z (st := []) dX4_readLaw_75 rfl rfl ⟨rfl, rfl⟩
    · replace h := it_f g2 h
      refine sm_aload_n dX4_readLaw_21 rfl rfl ?_
      obtain ⟨t22, μ3z, g3, h⟩ := ob_some h
      refine sm_callV dX4_readLaw_22 cv_X4_readClause ml_RX4_28 k_21 rfl rfl (by decide) (as := []) rfl (Nat.le_of_ble_eq_true rfl) rfl (s_Lr_readClause (D := d) (by omega) N g3) (fun r9 μ9 hp => ?_)
      rw [hp.1, hp.2]
      clear hp r9 μ9
      refine sm_if_eq (tgt := 37) dX4_readLaw_25 (by decide) (fun g4 => ?_) (fun g4 => ?_)
      · replace h := it_t g4 h
        refine sm_iconst dX4_readLaw_37 ic_0 ?_
        cases h
        exact sm_ret_z (st := []) dX4_readLaw_38 rfl rfl ⟨rfl, rfl⟩
      · replace h := it_f g4 h
        refine sm_aload_n dX4_readLaw_28 rfl rfl ?_
        refine sm_bipush dX4_readLaw_29 bp_m22 ?_
        obtain ⟨t31, μ4z, g5, h⟩ := ob_some h
        refine sm_callV dX4_readLaw_31 cv_X4_emit ml_RX4_34 k_21 rfl rfl (by decide) (as := [av_i (-22)]) rfl (Nat.le_of_ble_eq_true rfl) rfl (s_Lr_emit (D := d) (by omega) N g5) (fun r9 μ9 hp => ?_)
        rw [hp.1, hp.2]
        clear hp r9 μ9
        refine sm_if_ne (tgt := 39) dX4_readLaw_34 (by decide) (fun g6 => ?_) (fun g6 => ?_)
        · replace h := it_f g6 h
          refine sm_aload_n dX4_readLaw_39 rfl rfl ?_
          refine sm_getR dX4_readLaw_40 fg_RX4_21 k_21 (rf_4_0 k_21) ?_
          refine sm_bipush dX4_readLaw_43 bp_59 ?_
          obtain ⟨t45, μ5z, g7, h⟩ := ob_some h
          refine sm_callV dX4_readLaw_45 cv_X8_accept ml_RX4_38 k_1 rfl rfl (by decide) (as := [av_i 59]) rfl (Nat.le_of_ble_eq_true rfl) rfl (s_Ta_accept (D := d) (by omega) N g7) (fun r9 μ9 hp => ?_)
          rw [hp.1, hp.2]
          clear hp r9 μ9
          refine sm_if_ne (tgt := 68) dX4_readLaw_48 (by decide) (fun g8 => ?_) (fun g8 => ?_)
          · replace h := it_f g8 h
            refine sm_iinc dX4_readLaw_68 rfl (congrArg (HAdd.hAdd x1) ic_1) (Nat.le_of_ble_eq_true rfl) (pv_r rfl) ?_
            refine sm_goto (tgt := 14) dX4_readLaw_71 (by decide) ?_
            exact Sm_weak (le_s rfl (le_s rfl le_0)) (ih (x1 + 1) μ5z h)
          · replace h := it_t g8 h
            refine sm_aload_n dX4_readLaw_51 rfl rfl ?_
            refine sm_getR dX4_readLaw_52 fg_RX4_21 k_21 (rf_4_0 k_21) ?_
            obtain ⟨t55, μ6z, g9, h⟩ := ob_some h
            refine sm_callV dX4_readLaw_55 cv_X8_peek ml_RX4_41 k_1 rfl rfl (by decide) (as := []) rfl (Nat.le_of_ble_eq_true rfl) rfl (s_Ta_peek (D := d) (by omega) N g9) (fun r9 μ9 hp => ?_)
            rw [hp.1, hp.2]
            clear hp r9 μ9
            refine sm_iconst dX4_readLaw_58 ic_m1 ?_
            have hj59 : ∀ (v59_0 : Int32), v59_0 = (if t55 = (-1) then (1 : Int32) else 0) → Sm (d + 1) mX4_readLaw 67 [none, none] [av_i v59_0] μ6z (po_i r μr) := by
              intro v59_0 ev59_0
              subst ev59_0
              obtain ⟨g10, h⟩ := gd_some h
              cases h
              exact sm_ret_z (st := []) dX4_readLaw_67 rfl (zb_nar g10) ⟨rfl, rfl⟩
            refine sm_icmp_ne (tgt := 66) dX4_readLaw_59 (by decide) (fun c59_0 => ?_) (fun c59_0 => ?_)
            · refine sm_iconst dX4_readLaw_66 ic_0 ?_
              exact Sm_weak (le_n (le_n le_0)) (hj59 _ (if_neg c59_0).symm)
            · refine sm_iconst dX4_readLaw_62 ic_1 ?_
              refine sm_goto (tgt := 67) dX4_readLaw_63 (by decide) ?_
              exact Sm_weak (le_n (le_n le_0)) (hj59 _ (if_pos c59_0).symm)
        · replace h := it_t g6 h
          refine sm_iconst dX4_readLaw_37 ic_0 ?_
          cases h
          exact sm_ret_z (st := []) dX4_readLaw_38 rfl rfl ⟨rfl, rfl⟩
set_option maxRecDepth 100000 in
set_option maxHeartbeats 4000000 in
theorem s_Lr_readLaw {D : Nat} (hD : 88 ≤ D) (N : Nat) {μ : MM} {r : Int32} {μr : MM} (h : f_Lr_readLaw N μ = some (r, μr)) : Cl D mX4_readLaw [av_r 21] μ (po_i r μr) := by
  obtain ⟨d, rfl⟩ : ∃ d, D = d + 1 := ⟨D - 1, by omega⟩
  refine Cl_of pn_X4 (Nat.le_of_ble_eq_true rfl) ?_
  show Sm (d + 1) mX4_readLaw 0 [some (av_r 21), none] [] μ (po_i r μr)
  unfold f_Lr_readLaw at h
  refine sm_aload_n dX4_readLaw_0 rfl rfl ?_
  refine sm_getR dX4_readLaw_1 fg_RX4_21 k_21 (rf_4_0 k_21) ?_
  obtain ⟨μ1z, g1, h⟩ := obv_some h
  refine sm_callV dX4_readLaw_4 cv_X8_rewind ml_RX4_25 k_1 rfl rfl (by decide) (as := []) rfl (Nat.le_of_ble_eq_true rfl) rfl (s_Ta_rewind (D := d) (by omega) N g1) (fun r9 μ9 hp => ?_)
  rw [hp.1, hp.2]
  clear hp r9 μ9
  refine sm_aload_n dX4_readLaw_7 rfl rfl ?_
  refine sm_iconst dX4_readLaw_8 ic_0 ?_
  refine sm_putI dX4_readLaw_9 fp_RX4_17 k_21 ?_
  replace h := wr_some h
  refine sm_iconst dX4_readLaw_12 ic_0 ?_
  refine sm_istore_n dX4_readLaw_13 rfl (Nat.le_of_ble_eq_true rfl) (pv_r rfl) ?_
  exact Sm_weak (le_s rfl (le_s rfl le_0)) (s_Lr_readLaw_L14 hD N N 0 (mm_I μ1z 21 2 0) h)
set_option maxRecDepth 100000 in
set_option maxHeartbeats 4000000 in
theorem s_La_keepNext {D : Nat} (hD : 1 ≤ D) (N : Nat) {q1 : Nat} (hk_q1 : sh_k q1 = 20) {x2 : Int32} {μ : MM} {r : Int32} {μr : MM} (h : f_La_keepNext N q1 x2 μ = some (r, μr)) : Cl D mX5_keepNext [av_r 34, av_r q1, av_i x2] μ (po_i r μr) := by
  obtain ⟨d, rfl⟩ : ∃ d, D = d + 1 := ⟨D - 1, by omega⟩
  refine Cl_of pn_X5 (Nat.le_of_ble_eq_true rfl) ?_
  show Sm (d + 1) mX5_keepNext 0 [some (av_r 34), some (av_r q1), some (av_i x2)] [] μ (po_i r μr)
  unfold f_La_keepNext at h
  refine sm_aload_n dX5_keepNext_0 rfl rfl ?_
  refine sm_getI dX5_keepNext_1 fg_RX5_9 k_34 ?_
  refine sm_iconst dX5_keepNext_4 ic_4 ?_
  refine sm_icmp_ge (tgt := 25) dX5_keepNext_5 (by decide) (fun g1 => ?_) (fun g1 => ?_)
  · replace h := it_t g1 h
    refine sm_iconst dX5_keepNext_25 ic_m1 ?_
    cases h
    exact sm_ret_i (st := []) dX5_keepNext_26 rfl ⟨rfl, rfl⟩
  · replace h := it_f g1 h
    refine sm_iload_n dX5_keepNext_8 rfl rfl ?_
    refine sm_if_lt (tgt := 25) dX5_keepNext_9 (by decide) (fun g2 => ?_) (fun g2 => ?_)
    · replace h := it_t g2 h
      refine sm_iconst dX5_keepNext_25 ic_m1 ?_
      cases h
      exact sm_ret_i (st := []) dX5_keepNext_26 rfl ⟨rfl, rfl⟩
    · replace h := it_f g2 h
      refine sm_iload_n dX5_keepNext_12 rfl rfl ?_
      refine sm_sipush dX5_keepNext_13 sp_240 ?_
      refine sm_icmp_gt (tgt := 25) dX5_keepNext_16 (by decide) (fun g3 => ?_) (fun g3 => ?_)
      · replace h := it_t g3 h
        refine sm_iconst dX5_keepNext_25 ic_m1 ?_
        cases h
        exact sm_ret_i (st := []) dX5_keepNext_26 rfl ⟨rfl, rfl⟩
      · replace h := it_f g3 h
        refine sm_iload_n dX5_keepNext_19 rfl rfl ?_
        refine sm_aload_n dX5_keepNext_20 rfl rfl ?_
        refine sm_alen dX5_keepNext_21 hk_q1 (by decide) (by decide) ?_
        refine sm_icmp_le (tgt := 27) dX5_keepNext_22 (by decide) (fun g4 => ?_) (fun g4 => ?_)
        · replace h := it_t g4 h
          refine sm_aload_n dX5_keepNext_27 rfl rfl ?_
          refine sm_iconst dX5_keepNext_28 ic_0 ?_
          refine sm_aload_n dX5_keepNext_29 rfl rfl ?_
          refine sm_getR dX5_keepNext_30 fg_RX5_26 k_34 (rf_5_3 k_34) ?_
          refine sm_aload_n dX5_keepNext_33 rfl rfl ?_
          refine sm_getI dX5_keepNext_34 fg_RX5_9 k_34 ?_
          obtain ⟨g5, h⟩ := gd_some h
          refine sm_aaldI dX5_keepNext_37 k_36 (in_sz n_36 g5) (rf_25 k_36) ?_
          refine sm_iconst dX5_keepNext_38 ic_0 ?_
          refine sm_iload_n dX5_keepNext_39 rfl rfl ?_
          obtain ⟨g6, h⟩ := gd_some h
          obtain ⟨g6_1, g6_2, g6_3, g6_4, g6_5⟩ := cpb_ok rfl (nd_25 (in_vp g5)) g6
          refine sm_copyI dX5_keepNext_40 ml_RX5_35 hk_q1 (kd_25 (in_vp g5)) g6_1 g6_2 g6_3 g6_4 g6_5 (Nat.le_of_ble_eq_true rfl) ?_
          replace h := wr_some h
          refine sm_aload_n dX5_keepNext_43 rfl rfl ?_
          refine sm_getR dX5_keepNext_44 fg_RX5_29 k_34 (rf_5_4 k_34) ?_
          refine sm_aload_n dX5_keepNext_47 rfl rfl ?_
          refine sm_getI dX5_keepNext_48 fg_RX5_9 k_34 ?_
          refine sm_iload_n dX5_keepNext_51 rfl rfl ?_
          obtain ⟨g7, h⟩ := gd_some h
          refine sm_iast (j := (Int32.toNatClampNeg ((mm_F μ (37 + (Int32.toNatClampNeg (μ.1 34 0))) (va_cpy (μ.1 q1) (μ.1 (37 + (Int32.toNatClampNeg (μ.1 34 0)))) (Int32.toNatClampNeg 0) (Int32.toNatClampNeg 0) (Int32.toNatClampNeg x2))).1 34 0))) dX5_keepNext_52 k_41 (in_sz n_41 g7) rfl ?_
          replace h := wr_some h
          refine sm_aload_n dX5_keepNext_53 rfl rfl ?_
          refine sm_dup dX5_keepNext_54 rfl ?_
          refine sm_getI dX5_keepNext_55 fg_RX5_9 k_34 ?_
          refine sm_iconst dX5_keepNext_58 ic_1 ?_
          refine sm_iadd dX5_keepNext_59 ?_
          refine sm_putI dX5_keepNext_60 fp_RX5_9 k_34 ?_
          replace h := wr_some h
          refine sm_aload_n dX5_keepNext_63 rfl rfl ?_
          refine sm_getI dX5_keepNext_64 fg_RX5_9 k_34 ?_
          refine sm_iconst dX5_keepNext_67 ic_1 ?_
          refine sm_isub dX5_keepNext_68 ?_
          cases h
          exact sm_ret_i (st := []) dX5_keepNext_69 rfl ⟨rfl, rfl⟩
        · replace h := it_f g4 h
          refine sm_iconst dX5_keepNext_25 ic_m1 ?_
          cases h
          exact sm_ret_i (st := []) dX5_keepNext_26 rfl ⟨rfl, rfl⟩
set_option maxRecDepth 100000 in
set_option maxHeartbeats 4000000 in
theorem s_Ma_alikeThings_L4 {D : Nat} (hD : 0 ≤ D) (N : Nat) {r : Int32} {μr : MM} : ∀ (n : Nat) (x1 : Int32) (x2 : Int32) (x3 : Int32) (μ : MM), f_Ma_alikeThings_L4 N n x1 x2 x3 μ = some (r, μr) → Sm D mX6_alikeThings 4 [some (av_r 333), some (av_i x1), some (av_i x2), some (av_i x3)] [] μ (po_i r μr) := by
  intro n
  induction n with
  | zero => intro x1 x2 x3 μ h; cases (show none = some (r, μr) from h)
  | succ n ih =>
    intro x1 x2 x3 μ h
    rw [f_Ma_alikeThings_L4] at h
    refine sm_iload_n dX6_alikeThings_4 rfl rfl ?_
    refine sm_aload_n dX6_alikeThings_5 rfl rfl ?_
    refine sm_getR dX6_alikeThings_6 fg_RX6_43 k_333 (rf_6_3 k_333) ?_
    refine sm_getI dX6_alikeThings_9 fg_RX6_69 k_23 ?_
    refine sm_icmp_ge (tgt := 54) dX6_alikeThings_12 (by decide) (fun g1 => ?_) (fun g1 => ?_)
    · replace h := it_t g1 h
      refine sm_iload_n dX6_alikeThings_54 rfl rfl ?_
      cases h
      exact sm_ret_i (st := []) dX6_alikeThings_55 rfl ⟨rfl, rfl⟩
    · replace h := it_f g1 h
      refine sm_iload_n dX6_alikeThings_15 rfl rfl ?_
      refine sm_iload_n dX6_alikeThings_16 rfl rfl ?_
      refine sm_icmp_eq (tgt := 48) dX6_alikeThings_17 (by decide) (fun g2 => ?_) (fun g2 => ?_)
      · replace h := it_t g2 h
        refine sm_iinc dX6_alikeThings_48 rfl (congrArg (HAdd.hAdd x3) ic_1) (Nat.le_of_ble_eq_true rfl) (pv_i rfl) ?_
        refine sm_goto (tgt := 4) dX6_alikeThings_51 (by decide) ?_
        exact Sm_weak (le_s rfl (le_s rfl (le_s rfl (le_s rfl le_0)))) (ih x1 x2 (x3 + 1) μ h)
      · replace h := it_f g2 h
        refine sm_aload_n dX6_alikeThings_20 rfl rfl ?_
        refine sm_getR dX6_alikeThings_21 fg_RX6_43 k_333 (rf_6_3 k_333) ?_
        refine sm_getR dX6_alikeThings_24 fg_RX6_105 k_23 (rf_1_3 k_23) ?_
        refine sm_iload_n dX6_alikeThings_27 rfl rfl ?_
        obtain ⟨g3, h⟩ := gd_some h
        refine sm_iald (j := (Int32.toNatClampNeg x1)) dX6_alikeThings_28 k_25 (in_sz n_25 g3) rfl ?_
        refine sm_aload_n dX6_alikeThings_29 rfl rfl ?_
        refine sm_getR dX6_alikeThings_30 fg_RX6_43 k_333 (rf_6_3 k_333) ?_
        refine sm_getR dX6_alikeThings_33 fg_RX6_105 k_23 (rf_1_3 k_23) ?_
        refine sm_iload_n dX6_alikeThings_36 rfl rfl ?_
        obtain ⟨g4, h⟩ := gd_some h
        refine sm_iald (j := (Int32.toNatClampNeg x3)) dX6_alikeThings_37 k_25 (in_sz n_25 g4) rfl ?_
        refine sm_iand dX6_alikeThings_38 ?_
        have hj39 : ∀ (v39_0 : Int32), v39_0 = (if ((μ.1 25 (Int32.toNatClampNeg x1)) &&& (μ.1 25 (Int32.toNatClampNeg x3))) = 0 then x2 else (x2 ||| ((1 : Int32) <<< (x3 &&& 31)))) → Sm D mX6_alikeThings 48 [some (av_r 333), some (av_i x1), some (av_i v39_0), some (av_i x3)] [] μ (po_i r μr) := by
          intro v39_0 ev39_0
          subst ev39_0
          refine sm_iinc dX6_alikeThings_48 rfl (congrArg (HAdd.hAdd x3) ic_1) (Nat.le_of_ble_eq_true rfl) (pv_i rfl) ?_
          refine sm_goto (tgt := 4) dX6_alikeThings_51 (by decide) ?_
          exact Sm_weak (le_s rfl (le_s rfl (le_s rfl (le_s rfl le_0)))) (ih x1 (if ((μ.1 25 (Int32.toNatClampNeg x1)) &&& (μ.1 25 (Int32.toNatClampNeg x3))) = 0 then x2 else (x2 ||| ((1 : Int32) <<< (x3 &&& 31)))) (x3 + 1) μ h)
        refine sm_if_eq (tgt := 48) dX6_alikeThings_39 (by decide) (fun c39_0 => ?_) (fun c39_0 => ?_)
        · exact Sm_weak (le_s rfl (le_s rfl (le_s rfl (le_s rfl le_0)))) (hj39 _ (if_pos c39_0).symm)
        · refine sm_iload_n dX6_alikeThings_42 rfl rfl ?_
          refine sm_iconst dX6_alikeThings_43 ic_1 ?_
          refine sm_iload_n dX6_alikeThings_44 rfl rfl ?_
          refine sm_ishl dX6_alikeThings_45 ?_
          refine sm_ior dX6_alikeThings_46 ?_
          refine sm_istore_n dX6_alikeThings_47 rfl (Nat.le_of_ble_eq_true rfl) (pv_i rfl) ?_
          exact Sm_weak (le_s rfl (le_s rfl (le_s rfl (le_s rfl le_0)))) (hj39 _ (if_neg c39_0).symm)
set_option maxRecDepth 100000 in
set_option maxHeartbeats 4000000 in
theorem s_Ma_alikeThings {D : Nat} (hD : 0 ≤ D) (N : Nat) {x1 : Int32} {μ : MM} {r : Int32} {μr : MM} (h : f_Ma_alikeThings N x1 μ = some (r, μr)) : Cl D mX6_alikeThings [av_r 333, av_i x1] μ (po_i r μr) := by
  refine Cl_of pn_X6 (Nat.le_of_ble_eq_true rfl) ?_
  show Sm D mX6_alikeThings 0 [some (av_r 333), some (av_i x1), none, none] [] μ (po_i r μr)
  unfold f_Ma_alikeThings at h
  refine sm_iconst dX6_alikeThings_0 ic_0 ?_
  refine sm_istore_n dX6_alikeThings_1 rfl (Nat.le_of_ble_eq_true rfl) (pv_i rfl) ?_
  refine sm_iconst dX6_alikeThings_2 ic_0 ?_
  refine sm_istore_n dX6_alikeThings_3 rfl (Nat.le_of_ble_eq_true rfl) (pv_i rfl) ?_
  exact Sm_weak (le_s rfl (le_s rfl (le_s rfl (le_s rfl le_0)))) (s_Ma_alikeThings_L4 hD N N x1 0 0 μ h)
set_option maxRecDepth 100000 in
set_option maxHeartbeats 4000000 in
theorem s_Ma_sortByPrice_B67 {D : Nat} (hD : 0 ≤ D) (N : Nat) {μr : MM} {k2 : Int32 → MM → Option MM} (hk2 : ∀ (x1 : Int32) (μ : MM), k2 x1 μ = some μr → Sm D mX6_sortByPrice 2 [some (av_r 333), some (av_i x1), none] [] μ (po_v μr)) (x1 : Int32) (x2 : Int32) (μ : MM) (h : f_Ma_sortByPrice_B67 N k2 x1 x2 μ = some μr) : Sm D mX6_sortByPrice 67 [some (av_r 333), some (av_i x1), some (av_i x2)] [] μ (po_v μr) := by
  unfold f_Ma_sortByPrice_B67 at h
  refine sm_aload_n dX6_sortByPrice_67 rfl rfl ?_
  refine sm_getR dX6_sortByPrice_68 fg_RX6_25 k_333 (rf_6_5 k_333) ?_
  refine sm_iload_n dX6_sortByPrice_71 rfl rfl ?_
  refine sm_iload_n dX6_sortByPrice_72 rfl rfl ?_
  obtain ⟨g3, h⟩ := gd_some h
  refine sm_iast (j := (Int32.toNatClampNeg x2)) dX6_sortByPrice_73 k_335 (in_sz n_335 g3) rfl ?_
  replace h := wr_some h
  refine sm_iinc dX6_sortByPrice_74 rfl (congrArg (HAdd.hAdd x1) ic_1) (Nat.le_of_ble_eq_true rfl) (pv_r rfl) ?_
  refine sm_goto (tgt := 2) dX6_sortByPrice_77 (by decide) ?_
  exact Sm_weak (le_s rfl (le_s rfl (le_n le_0))) (hk2 (x1 + 1) (mm_I μ 335 (Int32.toNatClampNeg x2) x1) h)
set_option maxRecDepth 100000 in
set_option maxHeartbeats 4000000 in
theorem s_Ma_sortByPrice_L15 {D : Nat} (hD : 0 ≤ D) (N : Nat) {μr : MM} {k2 : Int32 → MM → Option MM} (hk2 : ∀ (x1 : Int32) (μ : MM), k2 x1 μ = some μr → Sm D mX6_sortByPrice 2 [some (av_r 333), some (av_i x1), none] [] μ (po_v μr)) : ∀ (n : Nat) (x1 : Int32) (x2 : Int32) (μ : MM), f_Ma_sortByPrice_L15 N k2 n x1 x2 μ = some μr → Sm D mX6_sortByPrice 15 [some (av_r 333), some (av_i x1), some (av_i x2)] [] μ (po_v μr) := by
  intro n
  induction n with
  | zero => intro x1 x2 μ h; cases (show none = some μr from h)
  | succ n ih =>
    intro x1 x2 μ h
    rw [f_Ma_sortByPrice_L15] at h
    refine sm_iload_n dX6_sortByPrice_15 rfl rfl ?_
    refine sm_if_le (tgt := 67) dX6_sortByPrice_16 (by decide) (fun g2 => ?_) (fun g2 => ?_)
    · replace h := it_t g2 h
      exact Sm_weak (le_s rfl (le_s rfl (le_s rfl le_0))) (s_Ma_sortByPrice_B67 hD N hk2 x1 x2 μ h)
    · replace h := it_f g2 h
      refine sm_aload_n dX6_sortByPrice_19 rfl rfl ?_
      refine sm_getR dX6_sortByPrice_20 fg_RX6_43 k_333 (rf_6_3 k_333) ?_
      refine sm_getR dX6_sortByPrice_23 fg_RX6_108 k_23 (rf_1_2 k_23) ?_
      refine sm_aload_n dX6_sortByPrice_26 rfl rfl ?_
      refine sm_getR dX6_sortByPrice_27 fg_RX6_25 k_333 (rf_6_5 k_333) ?_
      refine sm_iload_n dX6_sortByPrice_30 rfl rfl ?_
      refine sm_iconst dX6_sortByPrice_31 ic_1 ?_
      refine sm_isub dX6_sortByPrice_32 ?_
      obtain ⟨g4, h⟩ := gd_some h
      refine sm_iald (j := (Int32.toNatClampNeg (x2 - 1))) dX6_sortByPrice_33 k_335 (in_sz n_335 g4) rfl ?_
      obtain ⟨g5, h⟩ := gd_some h
      refine sm_iald (j := (Int32.toNatClampNeg (μ.1 335 (Int32.toNatClampNeg (x2 - 1))))) dX6_sortByPrice_34 k_24 (in_sz n_24 g5) rfl ?_
      refine sm_aload_n dX6_sortByPrice_35 rfl rfl ?_
      refine sm_getR dX6_sortByPrice_36 fg_RX6_43 k_333 (rf_6_3 k_333) ?_
      refine sm_getR dX6_sortByPrice_39 fg_RX6_108 k_23 (rf_1_2 k_23) ?_
      refine sm_iload_n dX6_sortByPrice_42 rfl rfl ?_
      obtain ⟨g6, h⟩ := gd_some h
      refine sm_iald (j := (Int32.toNatClampNeg x1)) dX6_sortByPrice_43 k_24 (in_sz n_24 g6) rfl ?_
      refine sm_icmp_le (tgt := 67) dX6_sortByPrice_44 (by decide) (fun g7 => ?_) (fun g7 => ?_)
      · replace h := it_t g7 h
        exact Sm_weak (le_s rfl (le_s rfl (le_s rfl le_0))) (s_Ma_sortByPrice_B67 hD N hk2 x1 x2 μ h)
      · replace h := it_f g7 h
        refine sm_aload_n dX6_sortByPrice_47 rfl rfl ?_
        refine sm_getR dX6_sortByPrice_48 fg_RX6_25 k_333 (rf_6_5 k_333) ?_
        refine sm_iload_n dX6_sortByPrice_51 rfl rfl ?_
        refine sm_aload_n dX6_sortByPrice_52 rfl rfl ?_
        refine sm_getR dX6_sortByPrice_53 fg_RX6_25 k_333 (rf_6_5 k_333) ?_
        refine sm_iload_n dX6_sortByPrice_56 rfl rfl ?_
        refine sm_iconst dX6_sortByPrice_57 ic_1 ?_
        refine sm_isub dX6_sortByPrice_58 ?_
        obtain ⟨g8, h⟩ := gd_some h
        refine sm_iald (j := (Int32.toNatClampNeg (x2 - 1))) dX6_sortByPrice_59 k_335 (in_sz n_335 g8) rfl ?_
        obtain ⟨g9, h⟩ := gd_some h
        refine sm_iast (j := (Int32.toNatClampNeg x2)) dX6_sortByPrice_60 k_335 (in_sz n_335 g9) rfl ?_
        replace h := wr_some h
        refine sm_iinc dX6_sortByPrice_61 rfl (congrArg (HAdd.hAdd x2) ic_m1) (Nat.le_of_ble_eq_true rfl) (pv_i rfl) ?_
        refine sm_goto (tgt := 15) dX6_sortByPrice_64 (by decide) ?_
        exact Sm_weak (le_s rfl (le_s rfl (le_s rfl le_0))) (ih x1 (x2 + (-1)) (mm_I μ 335 (Int32.toNatClampNeg x2) (μ.1 335 (Int32.toNatClampNeg (x2 - 1)))) h)
set_option maxRecDepth 100000 in
set_option maxHeartbeats 4000000 in
theorem s_Ma_sortByPrice_L2 {D : Nat} (hD : 0 ≤ D) (N : Nat) {μr : MM} : ∀ (n : Nat) (x1 : Int32) (μ : MM), f_Ma_sortByPrice_L2 N n x1 μ = some μr → Sm D mX6_sortByPrice 2 [some (av_r 333), some (av_i x1), none] [] μ (po_v μr) := by
  intro n
  induction n with
  | zero => intro x1 μ h; cases (show none = some μr from h)
  | succ n ih =>
    intro x1 μ h
    rw [f_Ma_sortByPrice_L2] at h
    refine sm_iload_n dX6_sortByPrice_2 rfl rfl ?_
    refine sm_aload_n dX6_sortByPrice_3 rfl rfl ?_
    refine sm_getR dX6_sortByPrice_4 fg_RX6_43 k_333 (rf_6_3 k_333) ?_
    refine sm_getI dX6_sortByPrice_7 fg_RX6_69 k_23 ?_
    refine sm_icmp_ge (tgt := 80) dX6_sortByPrice_10 (by decide) (fun g1 => ?_) (fun g1 => ?_)
    · replace h := it_t g1 h
      cases h
      exact sm_ret_v (st := []) dX6_sortByPrice_80 rfl ⟨rfl, rfl⟩
    · replace h := it_f g1 h
      refine sm_iload_n dX6_sortByPrice_13 rfl rfl ?_
      refine sm_istore_n dX6_sortByPrice_14 rfl (Nat.le_of_ble_eq_true rfl) (pv_i rfl) ?_
      exact Sm_weak (le_s rfl (le_s rfl (le_s rfl le_0))) (s_Ma_sortByPrice_L15 hD N ih N x1 x1 μ h)
set_option maxRecDepth 100000 in
set_option maxHeartbeats 4000000 in
theorem s_Ma_sortByPrice {D : Nat} (hD : 0 ≤ D) (N : Nat) {μ : MM} {μr : MM} (h : f_Ma_sortByPrice N μ = some μr) : Cl D mX6_sortByPrice [av_r 333] μ (po_v μr) := by
  refine Cl_of pn_X6 (Nat.le_of_ble_eq_true rfl) ?_
  show Sm D mX6_sortByPrice 0 [some (av_r 333), none, none] [] μ (po_v μr)
  unfold f_Ma_sortByPrice at h
  refine sm_iconst dX6_sortByPrice_0 ic_0 ?_
  refine sm_istore_n dX6_sortByPrice_1 rfl (Nat.le_of_ble_eq_true rfl) (pv_r rfl) ?_
  exact Sm_weak (le_s rfl (le_s rfl (le_n le_0))) (s_Ma_sortByPrice_L2 hD N N 0 μ h)
set_option maxRecDepth 100000 in
set_option maxHeartbeats 4000000 in
theorem s_Ma_ableThings_B88 {D : Nat} (hD : 1 ≤ D) (N : Nat) {r : Int32} {μr : MM} {k39 : Int32 → Int32 → Int32 → Int32 → Int32 → MM → Option (Int32 × MM)} (hk39 : ∀ (x2 : Int32) (x3 : Int32) (x4 : Int32) (x5 : Int32) (x6 : Int32) (μ : MM), k39 x2 x3 x4 x5 x6 μ = some (r, μr) → Sm D mX6_ableThings 39 [some (av_r 333), none, some (av_i x2), some (av_i x3), some (av_i x4), some (av_i x5), some (av_i x6), none] [] μ (po_i r μr)) (x2 : Int32) (x3 : Int32) (x4 : Int32) (x5 : Int32) (x6 : Int32) (μ : MM) (h : f_Ma_ableThings_B88 N k39 x2 x3 x4 x5 x6 μ = some (r, μr)) : Sm D mX6_ableThings 88 [some (av_r 333), none, some (av_i x2), some (av_i x3), some (av_i x4), some (av_i x5), some (av_i x6), none] [] μ (po_i r μr) := by
  obtain ⟨d, rfl⟩ : ∃ d, D = d + 1 := ⟨D - 1, by omega⟩
  unfold f_Ma_ableThings_B88 at h
  refine sm_iload dX6_ableThings_88 rfl ?_
  refine sm_iconst dX6_ableThings_90 ic_1 ?_
  refine sm_iload dX6_ableThings_91 rfl ?_
  refine sm_ishl dX6_ableThings_93 ?_
  refine sm_ior dX6_ableThings_94 ?_
  refine sm_istore dX6_ableThings_95 (Nat.le_of_ble_eq_true rfl) (pv_i rfl) ?_
  refine sm_iinc dX6_ableThings_97 rfl (congrArg (HAdd.hAdd x6) ic_1) (Nat.le_of_ble_eq_true rfl) (pv_i rfl) ?_
  refine sm_goto (tgt := 39) dX6_ableThings_100 (by decide) ?_
  exact Sm_weak (le_s rfl (le_n (le_s rfl (le_s rfl (le_s rfl (le_s rfl (le_s rfl (le_n le_0)))))))) (hk39 x2 x3 x4 (x5 ||| ((1 : Int32) <<< (x6 &&& 31))) (x6 + 1) μ h)
set_option maxRecDepth 100000 in
set_option maxHeartbeats 4000000 in
theorem s_Ma_ableThings_L39 {D : Nat} (hD : 1 ≤ D) (N : Nat) {r : Int32} {μr : MM} : ∀ (n : Nat) (x2 : Int32) (x3 : Int32) (x4 : Int32) (x5 : Int32) (x6 : Int32) (μ : MM), f_Ma_ableThings_L39 N n x2 x3 x4 x5 x6 μ = some (r, μr) → Sm D mX6_ableThings 39 [some (av_r 333), none, some (av_i x2), some (av_i x3), some (av_i x4), some (av_i x5), some (av_i x6), none] [] μ (po_i r μr) := by
  obtain ⟨d, rfl⟩ : ∃ d, D = d + 1 := ⟨D - 1, by omega⟩
  intro n
  induction n with
  | zero => intro x2 x3 x4 x5 x6 μ h; cases (show none = some (r, μr) from h)
  | succ n ih =>
    intro x2 x3 x4 x5 x6 μ h
    rw [f_Ma_ableThings_L39] at h
    refine sm_iload dX6_ableThings_39 rfl ?_
    refine sm_aload_n dX6_ableThings_41 rfl rfl ?_
    refine sm_getR dX6_ableThings_42 fg_RX6_43 k_333 (rf_6_3 k_333) ?_
    refine sm_getI dX6_ableThings_45 fg_RX6_69 k_23 ?_
    refine sm_icmp_ge (tgt := 103) dX6_ableThings_48 (by decide) (fun g3 => ?_) (fun g3 => ?_)
    · replace h := it_t g3 h
      refine sm_iload dX6_ableThings_103 rfl ?_
      cases h
      exact sm_ret_i (st := []) dX6_ableThings_105 rfl ⟨rfl, rfl⟩
    · replace h := it_f g3 h
      refine sm_aload_n dX6_ableThings_51 rfl rfl ?_
      refine sm_getR dX6_ableThings_52 fg_RX6_43 k_333 (rf_6_3 k_333) ?_
      refine sm_getR dX6_ableThings_55 fg_RX6_105 k_23 (rf_1_3 k_23) ?_
      refine sm_iload dX6_ableThings_58 rfl ?_
      obtain ⟨g4, h⟩ := gd_some h
      refine sm_iald (j := (Int32.toNatClampNeg x6)) dX6_ableThings_60 k_25 (in_sz n_25 g4) rfl ?_
      refine sm_istore dX6_ableThings_61 (Nat.le_of_ble_eq_true rfl) (pv_i rfl) ?_
      refine sm_iload dX6_ableThings_63 rfl ?_
      refine sm_iload_n dX6_ableThings_65 rfl rfl ?_
      refine sm_iand dX6_ableThings_66 ?_
      refine sm_iload_n dX6_ableThings_67 rfl rfl ?_
      refine sm_icmp_ne (tgt := 97) dX6_ableThings_68 (by decide) (fun g5 => ?_) (fun g5 => ?_)
      · replace h := it_f g5 h
        refine sm_iinc dX6_ableThings_97 rfl (congrArg (HAdd.hAdd x6) ic_1) (Nat.le_of_ble_eq_true rfl) (pv_i rfl) ?_
        refine sm_goto (tgt := 39) dX6_ableThings_100 (by decide) ?_
        exact Sm_weak (le_s rfl (le_n (le_s rfl (le_s rfl (le_s rfl (le_s rfl (le_s rfl (le_n le_0)))))))) (ih x2 x3 x4 x5 (x6 + 1) μ h)
      · replace h := it_t g5 h
        refine sm_iload dX6_ableThings_71 rfl ?_
        refine sm_iload dX6_ableThings_73 rfl ?_
        refine sm_iand dX6_ableThings_75 ?_
        refine sm_if_ne (tgt := 97) dX6_ableThings_76 (by decide) (fun g6 => ?_) (fun g6 => ?_)
        · replace h := it_f g6 h
          refine sm_iinc dX6_ableThings_97 rfl (congrArg (HAdd.hAdd x6) ic_1) (Nat.le_of_ble_eq_true rfl) (pv_i rfl) ?_
          refine sm_goto (tgt := 39) dX6_ableThings_100 (by decide) ?_
          exact Sm_weak (le_s rfl (le_n (le_s rfl (le_s rfl (le_s rfl (le_s rfl (le_s rfl (le_n le_0)))))))) (ih x2 x3 x4 x5 (x6 + 1) μ h)
        · replace h := it_t g6 h
          refine sm_iload_n dX6_ableThings_79 rfl rfl ?_
          refine sm_if_eq (tgt := 88) dX6_ableThings_80 (by decide) (fun g7 => ?_) (fun g7 => ?_)
          · replace h := it_t g7 h
            exact Sm_weak (le_s rfl (le_n (le_s rfl (le_s rfl (le_s rfl (le_s rfl (le_s rfl (le_n le_0)))))))) (s_Ma_ableThings_B88 hD N ih x2 x3 x4 x5 x6 μ h)
          · replace h := it_f g7 h
            refine sm_iload dX6_ableThings_83 rfl ?_
            refine sm_if_eq (tgt := 97) dX6_ableThings_85 (by decide) (fun g8 => ?_) (fun g8 => ?_)
            · replace h := it_t g8 h
              refine sm_iinc dX6_ableThings_97 rfl (congrArg (HAdd.hAdd x6) ic_1) (Nat.le_of_ble_eq_true rfl) (pv_i rfl) ?_
              refine sm_goto (tgt := 39) dX6_ableThings_100 (by decide) ?_
              exact Sm_weak (le_s rfl (le_n (le_s rfl (le_s rfl (le_s rfl (le_s rfl (le_s rfl (le_n le_0)))))))) (ih x2 x3 x4 x5 (x6 + 1) μ h)
            · replace h := it_f g8 h
              exact Sm_weak (le_s rfl (le_n (le_s rfl (le_s rfl (le_s rfl (le_s rfl (le_s rfl (le_n le_0)))))))) (s_Ma_ableThings_B88 hD N ih x2 x3 x4 x5 x6 μ h)
set_option maxRecDepth 100000 in
set_option maxHeartbeats 4000000 in
theorem s_Ma_ableThings {D : Nat} (hD : 1 ≤ D) (N : Nat) {x1 : Int32} {x2 : Int32} {μ : MM} {r : Int32} {μr : MM} (h : f_Ma_ableThings N x1 x2 μ = some (r, μr)) : Cl D mX6_ableThings [av_r 333, av_i x1, av_i x2] μ (po_i r μr) := by
  obtain ⟨d, rfl⟩ : ∃ d, D = d + 1 := ⟨D - 1, by omega⟩
  refine Cl_of pn_X6 (Nat.le_of_ble_eq_true rfl) ?_
  show Sm (d + 1) mX6_ableThings 0 [some (av_r 333), some (av_i x1), some (av_i x2), none, none, none, none, none] [] μ (po_i r μr)
  unfold f_Ma_ableThings at h
  refine sm_aload_n dX6_ableThings_0 rfl rfl ?_
  refine sm_getR dX6_ableThings_1 fg_RX6_43 k_333 (rf_6_3 k_333) ?_
  refine sm_getR dX6_ableThings_4 fg_RX6_78 k_23 (rf_1_5 k_23) ?_
  refine sm_getR dX6_ableThings_7 fg_RX6_82 k_27 (rf_7_0 k_27) ?_
  refine sm_iload_n dX6_ableThings_10 rfl rfl ?_
  refine sm_iconst dX6_ableThings_11 ic_0 ?_
  obtain ⟨t12, μ1z, g1, h⟩ := ob_some h
  refine sm_callV dX6_ableThings_12 cv_X10_named ml_RX6_88 k_28 rfl rfl (by decide) (as := [av_i x1, av_i 0]) rfl (Nat.le_of_ble_eq_true rfl) rfl (s_Wo_named (D := d) (by omega) N k_28 g1) (fun r9 μ9 hp => ?_)
  rw [hp.1, hp.2]
  clear hp r9 μ9
  refine sm_istore_n dX6_ableThings_15 rfl (Nat.le_of_ble_eq_true rfl) (pv_i rfl) ?_
  refine sm_aload_n dX6_ableThings_16 rfl rfl ?_
  refine sm_getR dX6_ableThings_17 fg_RX6_43 k_333 (rf_6_3 k_333) ?_
  refine sm_getR dX6_ableThings_20 fg_RX6_78 k_23 (rf_1_5 k_23) ?_
  refine sm_getR dX6_ableThings_23 fg_RX6_82 k_27 (rf_7_0 k_27) ?_
  refine sm_iload_n dX6_ableThings_26 rfl rfl ?_
  refine sm_iconst dX6_ableThings_27 ic_1 ?_
  obtain ⟨t28, μ2z, g2, h⟩ := ob_some h
  refine sm_callV dX6_ableThings_28 cv_X10_named ml_RX6_88 k_28 rfl rfl (by decide) (as := [av_i x1, av_i 1]) rfl (Nat.le_of_ble_eq_true rfl) rfl (s_Wo_named (D := d) (by omega) N k_28 g2) (fun r9 μ9 hp => ?_)
  rw [hp.1, hp.2]
  clear hp r9 μ9
  refine sm_istore dX6_ableThings_31 (Nat.le_of_ble_eq_true rfl) (pv_i rfl) ?_
  refine sm_iconst dX6_ableThings_33 ic_0 ?_
  refine sm_istore dX6_ableThings_34 (Nat.le_of_ble_eq_true rfl) (pv_i rfl) ?_
  refine sm_iconst dX6_ableThings_36 ic_0 ?_
  refine sm_istore dX6_ableThings_37 (Nat.le_of_ble_eq_true rfl) (pv_i rfl) ?_
  exact Sm_weak (le_s rfl (le_n (le_s rfl (le_s rfl (le_s rfl (le_s rfl (le_s rfl (le_n le_0)))))))) (s_Ma_ableThings_L39 hD N N x2 t12 t28 0 0 μ2z h)
set_option maxRecDepth 100000 in
set_option maxHeartbeats 4000000 in
theorem s_Ma_narrow_L29 {D : Nat} (hD : 0 ≤ D) (N : Nat) {μr : MM} {k2 : Int32 → Int32 → MM → Option MM} (hk2 : ∀ (x1 : Int32) (x2 : Int32) (μ : MM), k2 x1 x2 μ = some μr → Sm D mX6_narrow 2 [some (av_r 333), some (av_i x1), some (av_i x2), none] [] μ (po_v μr)) : ∀ (n : Nat) (x1 : Int32) (x2 : Int32) (x3 : Int32) (μ : MM), f_Ma_narrow_L29 N k2 n x1 x2 x3 μ = some μr → Sm D mX6_narrow 29 [some (av_r 333), some (av_i x1), some (av_i x2), some (av_i x3)] [] μ (po_v μr) := by
  intro n
  induction n with
  | zero => intro x1 x2 x3 μ h; cases (show none = some μr from h)
  | succ n ih =>
    intro x1 x2 x3 μ h
    rw [f_Ma_narrow_L29] at h
    refine sm_iload_n dX6_narrow_29 rfl rfl ?_
    refine sm_aload_n dX6_narrow_30 rfl rfl ?_
    refine sm_getR dX6_narrow_31 fg_RX6_43 k_333 (rf_6_3 k_333) ?_
    refine sm_getI dX6_narrow_34 fg_RX6_69 k_23 ?_
    refine sm_icmp_ge (tgt := 76) dX6_narrow_37 (by decide) (fun g4 => ?_) (fun g4 => ?_)
    · replace h := it_t g4 h
      refine sm_iinc dX6_narrow_76 rfl (congrArg (HAdd.hAdd x2) ic_1) (Nat.le_of_ble_eq_true rfl) (pv_i rfl) ?_
      refine sm_goto (tgt := 2) dX6_narrow_79 (by decide) ?_
      exact Sm_weak (le_s rfl (le_s rfl (le_s rfl (le_n le_0)))) (hk2 x1 (x2 + 1) μ h)
    · replace h := it_f g4 h
      refine sm_aload_n dX6_narrow_40 rfl rfl ?_
      refine sm_getR dX6_narrow_41 fg_RX6_21 k_333 (rf_6_4 k_333) ?_
      refine sm_iload_n dX6_narrow_44 rfl rfl ?_
      obtain ⟨g5, h⟩ := gd_some h
      refine sm_iald (j := (Int32.toNatClampNeg x3)) dX6_narrow_45 k_334 (in_sz n_334 g5) rfl ?_
      refine sm_aload_n dX6_narrow_46 rfl rfl ?_
      refine sm_getR dX6_narrow_47 fg_RX6_34 k_333 (rf_6_8 k_333) ?_
      refine sm_iload_n dX6_narrow_50 rfl rfl ?_
      obtain ⟨g6, h⟩ := gd_some h
      refine sm_iald (j := (Int32.toNatClampNeg x2)) dX6_narrow_51 k_338 (in_sz n_338 g6) rfl ?_
      refine sm_iand dX6_narrow_52 ?_
      refine sm_if_ne (tgt := 70) dX6_narrow_53 (by decide) (fun g7 => ?_) (fun g7 => ?_)
      · replace h := it_f g7 h
        refine sm_iinc dX6_narrow_70 rfl (congrArg (HAdd.hAdd x3) ic_1) (Nat.le_of_ble_eq_true rfl) (pv_i rfl) ?_
        refine sm_goto (tgt := 29) dX6_narrow_73 (by decide) ?_
        exact Sm_weak (le_s rfl (le_s rfl (le_s rfl (le_s rfl le_0)))) (ih x1 x2 (x3 + 1) μ h)
      · replace h := it_t g7 h
        refine sm_aload_n dX6_narrow_56 rfl rfl ?_
        refine sm_getR dX6_narrow_57 fg_RX6_34 k_333 (rf_6_8 k_333) ?_
        refine sm_iload_n dX6_narrow_60 rfl rfl ?_
        refine sm_dup2 dX6_narrow_61 rfl rfl ?_
        obtain ⟨g8, h⟩ := gd_some h
        refine sm_iald (j := (Int32.toNatClampNeg x1)) dX6_narrow_62 k_338 (in_sz n_338 g8) rfl ?_
        refine sm_iconst dX6_narrow_63 ic_1 ?_
        refine sm_iload_n dX6_narrow_64 rfl rfl ?_
        refine sm_ishl dX6_narrow_65 ?_
        refine sm_iconst dX6_narrow_66 ic_m1 ?_
        refine sm_ixor dX6_narrow_67 ?_
        refine sm_iand dX6_narrow_68 ?_
        obtain ⟨g9, h⟩ := gd_some h
        refine sm_iast (j := (Int32.toNatClampNeg x1)) dX6_narrow_69 k_338 (in_sz n_338 g9) rfl ?_
        replace h := wr_some h
        refine sm_iinc dX6_narrow_70 rfl (congrArg (HAdd.hAdd x3) ic_1) (Nat.le_of_ble_eq_true rfl) (pv_i rfl) ?_
        refine sm_goto (tgt := 29) dX6_narrow_73 (by decide) ?_
        exact Sm_weak (le_s rfl (le_s rfl (le_s rfl (le_s rfl le_0)))) (ih x1 x2 (x3 + 1) (mm_I μ 338 (Int32.toNatClampNeg x1) ((μ.1 338 (Int32.toNatClampNeg x1)) &&& (((1 : Int32) <<< (x3 &&& 31)) ^^^ (-1)))) h)
set_option maxRecDepth 100000 in
set_option maxHeartbeats 4000000 in
theorem s_Ma_narrow_L2 {D : Nat} (hD : 0 ≤ D) (N : Nat) {μr : MM} : ∀ (n : Nat) (x1 : Int32) (x2 : Int32) (μ : MM), f_Ma_narrow_L2 N n x1 x2 μ = some μr → Sm D mX6_narrow 2 [some (av_r 333), some (av_i x1), some (av_i x2), none] [] μ (po_v μr) := by
  intro n
  induction n with
  | zero => intro x1 x2 μ h; cases (show none = some μr from h)
  | succ n ih =>
    intro x1 x2 μ h
    rw [f_Ma_narrow_L2] at h
    refine sm_iload_n dX6_narrow_2 rfl rfl ?_
    refine sm_aload_n dX6_narrow_3 rfl rfl ?_
    refine sm_getR dX6_narrow_4 fg_RX6_43 k_333 (rf_6_3 k_333) ?_
    refine sm_getI dX6_narrow_7 fg_RX6_54 k_23 ?_
    refine sm_icmp_ge (tgt := 82) dX6_narrow_10 (by decide) (fun g1 => ?_) (fun g1 => ?_)
    · replace h := it_t g1 h
      cases h
      exact sm_ret_v (st := []) dX6_narrow_82 rfl ⟨rfl, rfl⟩
    · replace h := it_f g1 h
      refine sm_aload_n dX6_narrow_13 rfl rfl ?_
      refine sm_getR dX6_narrow_14 fg_RX6_28 k_333 (rf_6_6 k_333) ?_
      refine sm_iload_n dX6_narrow_17 rfl rfl ?_
      obtain ⟨g2, h⟩ := gd_some h
      refine sm_iald (j := (Int32.toNatClampNeg x1)) dX6_narrow_18 k_336 (in_sz n_336 g2) rfl ?_
      refine sm_iload_n dX6_narrow_19 rfl rfl ?_
      refine sm_ishr dX6_narrow_20 ?_
      refine sm_iconst dX6_narrow_21 ic_1 ?_
      refine sm_iand dX6_narrow_22 ?_
      refine sm_iconst dX6_narrow_23 ic_1 ?_
      refine sm_icmp_ne (tgt := 76) dX6_narrow_24 (by decide) (fun g3 => ?_) (fun g3 => ?_)
      · replace h := it_f g3 h
        refine sm_iinc dX6_narrow_76 rfl (congrArg (HAdd.hAdd x2) ic_1) (Nat.le_of_ble_eq_true rfl) (pv_i rfl) ?_
        refine sm_goto (tgt := 2) dX6_narrow_79 (by decide) ?_
        exact Sm_weak (le_s rfl (le_s rfl (le_s rfl (le_n le_0)))) (ih x1 (x2 + 1) μ h)
      · replace h := it_t g3 h
        refine sm_iconst dX6_narrow_27 ic_0 ?_
        refine sm_istore_n dX6_narrow_28 rfl (Nat.le_of_ble_eq_true rfl) (pv_i rfl) ?_
        exact Sm_weak (le_s rfl (le_s rfl (le_s rfl (le_s rfl le_0)))) (s_Ma_narrow_L29 hD N ih N x1 x2 0 μ h)
set_option maxRecDepth 100000 in
set_option maxHeartbeats 4000000 in
theorem s_Ma_narrow {D : Nat} (hD : 0 ≤ D) (N : Nat) {x1 : Int32} {μ : MM} {μr : MM} (h : f_Ma_narrow N x1 μ = some μr) : Cl D mX6_narrow [av_r 333, av_i x1] μ (po_v μr) := by
  refine Cl_of pn_X6 (Nat.le_of_ble_eq_true rfl) ?_
  show Sm D mX6_narrow 0 [some (av_r 333), some (av_i x1), none, none] [] μ (po_v μr)
  unfold f_Ma_narrow at h
  refine sm_iconst dX6_narrow_0 ic_0 ?_
  refine sm_istore_n dX6_narrow_1 rfl (Nat.le_of_ble_eq_true rfl) (pv_i rfl) ?_
  exact Sm_weak (le_s rfl (le_s rfl (le_s rfl (le_n le_0)))) (s_Ma_narrow_L2 hD N N x1 0 μ h)
set_option maxRecDepth 100000 in
set_option maxHeartbeats 4000000 in
theorem s_Ma_linkedAhead_B37 {D : Nat} (hD : 0 ≤ D) (N : Nat) {r : Int32} {μr : MM} {k4 : Int32 → Int32 → Int32 → MM → Option (Int32 × MM)} (hk4 : ∀ (x1 : Int32) (x2 : Int32) (x3 : Int32) (μ : MM), k4 x1 x2 x3 μ = some (r, μr) → Sm D mX6_linkedAhead 4 [some (av_r 333), some (av_i x1), some (av_i x2), some (av_i x3)] [] μ (po_i r μr)) (x1 : Int32) (x2 : Int32) (x3 : Int32) (μ : MM) (h : f_Ma_linkedAhead_B37 N k4 x1 x2 x3 μ = some (r, μr)) : Sm D mX6_linkedAhead 37 [some (av_r 333), some (av_i x1), some (av_i x2), some (av_i x3)] [] μ (po_i r μr) := by
  unfold f_Ma_linkedAhead_B37 at h
  refine sm_iload_n dX6_linkedAhead_37 rfl rfl ?_
  refine sm_iconst dX6_linkedAhead_38 ic_1 ?_
  refine sm_iload_n dX6_linkedAhead_39 rfl rfl ?_
  refine sm_ishl dX6_linkedAhead_40 ?_
  refine sm_ior dX6_linkedAhead_41 ?_
  refine sm_istore_n dX6_linkedAhead_42 rfl (Nat.le_of_ble_eq_true rfl) (pv_i rfl) ?_
  refine sm_iinc dX6_linkedAhead_43 rfl (congrArg (HAdd.hAdd x3) ic_1) (Nat.le_of_ble_eq_true rfl) (pv_i rfl) ?_
  refine sm_goto (tgt := 4) dX6_linkedAhead_46 (by decide) ?_
  exact Sm_weak (le_s rfl (le_s rfl (le_s rfl (le_s rfl le_0)))) (hk4 x1 (x2 ||| ((1 : Int32) <<< (x3 &&& 31))) (x3 + 1) μ h)
set_option maxRecDepth 100000 in
set_option maxHeartbeats 4000000 in
theorem s_Ma_linkedAhead_L4 {D : Nat} (hD : 0 ≤ D) (N : Nat) {r : Int32} {μr : MM} : ∀ (n : Nat) (x1 : Int32) (x2 : Int32) (x3 : Int32) (μ : MM), f_Ma_linkedAhead_L4 N n x1 x2 x3 μ = some (r, μr) → Sm D mX6_linkedAhead 4 [some (av_r 333), some (av_i x1), some (av_i x2), some (av_i x3)] [] μ (po_i r μr) := by
  intro n
  induction n with
  | zero => intro x1 x2 x3 μ h; cases (show none = some (r, μr) from h)
  | succ n ih =>
    intro x1 x2 x3 μ h
    rw [f_Ma_linkedAhead_L4] at h
    refine sm_iload_n dX6_linkedAhead_4 rfl rfl ?_
    refine sm_iload_n dX6_linkedAhead_5 rfl rfl ?_
    refine sm_icmp_ge (tgt := 49) dX6_linkedAhead_6 (by decide) (fun g1 => ?_) (fun g1 => ?_)
    · replace h := it_t g1 h
      refine sm_iload_n dX6_linkedAhead_49 rfl rfl ?_
      cases h
      exact sm_ret_i (st := []) dX6_linkedAhead_50 rfl ⟨rfl, rfl⟩
    · replace h := it_f g1 h
      refine sm_aload_n dX6_linkedAhead_9 rfl rfl ?_
      refine sm_getR dX6_linkedAhead_10 fg_RX6_28 k_333 (rf_6_6 k_333) ?_
      refine sm_iload_n dX6_linkedAhead_13 rfl rfl ?_
      obtain ⟨g2, h⟩ := gd_some h
      refine sm_iald (j := (Int32.toNatClampNeg x1)) dX6_linkedAhead_14 k_336 (in_sz n_336 g2) rfl ?_
      refine sm_iload_n dX6_linkedAhead_15 rfl rfl ?_
      refine sm_ishr dX6_linkedAhead_16 ?_
      refine sm_iconst dX6_linkedAhead_17 ic_1 ?_
      refine sm_iand dX6_linkedAhead_18 ?_
      refine sm_iconst dX6_linkedAhead_19 ic_1 ?_
      refine sm_icmp_eq (tgt := 37) dX6_linkedAhead_20 (by decide) (fun g3 => ?_) (fun g3 => ?_)
      · replace h := it_t g3 h
        exact Sm_weak (le_s rfl (le_s rfl (le_s rfl (le_s rfl le_0)))) (s_Ma_linkedAhead_B37 hD N ih x1 x2 x3 μ h)
      · replace h := it_f g3 h
        refine sm_aload_n dX6_linkedAhead_23 rfl rfl ?_
        refine sm_getR dX6_linkedAhead_24 fg_RX6_28 k_333 (rf_6_6 k_333) ?_
        refine sm_iload_n dX6_linkedAhead_27 rfl rfl ?_
        obtain ⟨g4, h⟩ := gd_some h
        refine sm_iald (j := (Int32.toNatClampNeg x3)) dX6_linkedAhead_28 k_336 (in_sz n_336 g4) rfl ?_
        refine sm_iload_n dX6_linkedAhead_29 rfl rfl ?_
        refine sm_ishr dX6_linkedAhead_30 ?_
        refine sm_iconst dX6_linkedAhead_31 ic_1 ?_
        refine sm_iand dX6_linkedAhead_32 ?_
        refine sm_iconst dX6_linkedAhead_33 ic_1 ?_
        refine sm_icmp_ne (tgt := 43) dX6_linkedAhead_34 (by decide) (fun g5 => ?_) (fun g5 => ?_)
        · replace h := it_f g5 h
          refine sm_iinc dX6_linkedAhead_43 rfl (congrArg (HAdd.hAdd x3) ic_1) (Nat.le_of_ble_eq_true rfl) (pv_i rfl) ?_
          refine sm_goto (tgt := 4) dX6_linkedAhead_46 (by decide) ?_
          exact Sm_weak (le_s rfl (le_s rfl (le_s rfl (le_s rfl le_0)))) (ih x1 x2 (x3 + 1) μ h)
        · replace h := it_t g5 h
          exact Sm_weak (le_s rfl (le_s rfl (le_s rfl (le_s rfl le_0)))) (s_Ma_linkedAhead_B37 hD N ih x1 x2 x3 μ h)
set_option maxRecDepth 100000 in
set_option maxHeartbeats 4000000 in
theorem s_Ma_linkedAhead {D : Nat} (hD : 0 ≤ D) (N : Nat) {x1 : Int32} {μ : MM} {r : Int32} {μr : MM} (h : f_Ma_linkedAhead N x1 μ = some (r, μr)) : Cl D mX6_linkedAhead [av_r 333, av_i x1] μ (po_i r μr) := by
  refine Cl_of pn_X6 (Nat.le_of_ble_eq_true rfl) ?_
  show Sm D mX6_linkedAhead 0 [some (av_r 333), some (av_i x1), none, none] [] μ (po_i r μr)
  unfold f_Ma_linkedAhead at h
  refine sm_iconst dX6_linkedAhead_0 ic_0 ?_
  refine sm_istore_n dX6_linkedAhead_1 rfl (Nat.le_of_ble_eq_true rfl) (pv_i rfl) ?_
  refine sm_iconst dX6_linkedAhead_2 ic_0 ?_
  refine sm_istore_n dX6_linkedAhead_3 rfl (Nat.le_of_ble_eq_true rfl) (pv_i rfl) ?_
  exact Sm_weak (le_s rfl (le_s rfl (le_s rfl (le_s rfl le_0)))) (s_Ma_linkedAhead_L4 hD N N x1 0 0 μ h)
set_option maxRecDepth 100000 in
set_option maxHeartbeats 4000000 in
theorem s_Ma_prepare_B254 {D : Nat} (hD : 2 ≤ D) (N : Nat) {μr : MM} {k212 : Int32 → MM → Option MM} (hk212 : ∀ (x2 : Int32) (μ : MM), k212 x2 μ = some μr → Sm D mX6_prepare 212 [some (av_r 333), none, some (av_i x2), none, none] [] μ (po_v μr)) (x2 : Int32) (s1 : Int32) (s2 : Int32) (s3 : Int32) (μ : MM) (h : f_Ma_prepare_B254 N k212 x2 s1 s2 s3 μ = some μr) : Sm D mX6_prepare 254 [some (av_r 333), none, some (av_i x2), none, none] [av_i s3, av_i s2, av_i s1, av_r 339] μ (po_v μr) := by
  obtain ⟨d, rfl⟩ : ∃ d, D = d + 1 := ⟨D - 1, by omega⟩
  unfold f_Ma_prepare_B254 at h
  refine sm_iadd dX6_prepare_254 ?_
  obtain ⟨g11, h⟩ := gd_some h
  refine sm_iast (j := (Int32.toNatClampNeg s1)) dX6_prepare_255 k_339 (in_sz n_339 g11) rfl ?_
  replace h := wr_some h
  refine sm_iinc dX6_prepare_256 rfl (congrArg (HAdd.hAdd x2) ic_m1) (Nat.le_of_ble_eq_true rfl) (pv_n rfl) ?_
  refine sm_goto (tgt := 212) dX6_prepare_259 (by decide) ?_
  exact Sm_weak (le_s rfl (le_n (le_s rfl (le_n (le_n le_0))))) (hk212 (x2 + (-1)) (mm_I μ 339 (Int32.toNatClampNeg s1) (s2 + s3)) h)
set_option maxRecDepth 100000 in
set_option maxHeartbeats 4000000 in
theorem s_Ma_prepare_L212 {D : Nat} (hD : 2 ≤ D) (N : Nat) {μr : MM} : ∀ (n : Nat) (x2 : Int32) (μ : MM), f_Ma_prepare_L212 N n x2 μ = some μr → Sm D mX6_prepare 212 [some (av_r 333), none, some (av_i x2), none, none] [] μ (po_v μr) := by
  obtain ⟨d, rfl⟩ : ∃ d, D = d + 1 := ⟨D - 1, by omega⟩
  intro n
  induction n with
  | zero => intro x2 μ h; cases (show none = some μr from h)
  | succ n ih =>
    intro x2 μ h
    rw [f_Ma_prepare_L212] at h
    refine sm_iload_n dX6_prepare_212 rfl rfl ?_
    refine sm_if_lt (tgt := 262) dX6_prepare_213 (by decide) (fun g6 => ?_) (fun g6 => ?_)
    · replace h := it_t g6 h
      cases h
      exact sm_ret_v (st := []) dX6_prepare_262 rfl ⟨rfl, rfl⟩
    · replace h := it_f g6 h
      refine sm_aload_n dX6_prepare_216 rfl rfl ?_
      refine sm_getR dX6_prepare_217 fg_RX6_31 k_333 (rf_6_7 k_333) ?_
      refine sm_iload_n dX6_prepare_220 rfl rfl ?_
      refine sm_aload_n dX6_prepare_221 rfl rfl ?_
      refine sm_iload_n dX6_prepare_222 rfl rfl ?_
      obtain ⟨t223, μ3z, g7, h⟩ := ob_some h
      refine sm_callV dX6_prepare_223 cv_X6_linkedAhead ml_RX6_102 k_333 rfl rfl (by decide) (as := [av_i x2]) rfl (Nat.le_of_ble_eq_true rfl) rfl (s_Ma_linkedAhead (D := d) (by omega) N g7) (fun r9 μ9 hp => ?_)
      rw [hp.1, hp.2]
      clear hp r9 μ9
      obtain ⟨g8, h⟩ := gd_some h
      refine sm_iast (j := (Int32.toNatClampNeg x2)) dX6_prepare_226 k_337 (in_sz n_337 g8) rfl ?_
      replace h := wr_some h
      refine sm_aload_n dX6_prepare_227 rfl rfl ?_
      refine sm_getR dX6_prepare_228 fg_RX6_37 k_333 (rf_6_9 k_333) ?_
      refine sm_iload_n dX6_prepare_231 rfl rfl ?_
      refine sm_aload_n dX6_prepare_232 rfl rfl ?_
      refine sm_getR dX6_prepare_233 fg_RX6_37 k_333 (rf_6_9 k_333) ?_
      refine sm_iload_n dX6_prepare_236 rfl rfl ?_
      refine sm_iconst dX6_prepare_237 ic_1 ?_
      refine sm_iadd dX6_prepare_238 ?_
      obtain ⟨g9, h⟩ := gd_some h
      refine sm_iald (j := (Int32.toNatClampNeg (x2 + 1))) dX6_prepare_239 k_339 (in_sz n_339 g9) rfl ?_
      refine sm_aload_n dX6_prepare_240 rfl rfl ?_
      refine sm_getR dX6_prepare_241 fg_RX6_34 k_333 (rf_6_8 k_333) ?_
      refine sm_iload_n dX6_prepare_244 rfl rfl ?_
      obtain ⟨g10, h⟩ := gd_some h
      refine sm_iald (j := (Int32.toNatClampNeg x2)) dX6_prepare_245 k_338 (in_sz n_338 g10) rfl ?_
      have hj246 : ∀ (v246_0 : Int32), v246_0 = (if ((mm_I μ3z 337 (Int32.toNatClampNeg x2) t223).1 338 (Int32.toNatClampNeg x2)) = 0 then (0 : Int32) else 1) → Sm (d + 1) mX6_prepare 254 [some (av_r 333), none, some (av_i x2), none, none] [av_i v246_0, av_i ((mm_I μ3z 337 (Int32.toNatClampNeg x2) t223).1 339 (Int32.toNatClampNeg (x2 + 1))), av_i x2, av_r 339] (mm_I μ3z 337 (Int32.toNatClampNeg x2) t223) (po_v μr) := by
        intro v246_0 ev246_0
        subst ev246_0
        exact Sm_weak (le_s rfl (le_n (le_s rfl (le_n (le_n le_0))))) (s_Ma_prepare_B254 hD N ih x2 x2 ((mm_I μ3z 337 (Int32.toNatClampNeg x2) t223).1 339 (Int32.toNatClampNeg (x2 + 1))) (if ((mm_I μ3z 337 (Int32.toNatClampNeg x2) t223).1 338 (Int32.toNatClampNeg x2)) = 0 then (0 : Int32) else 1) (mm_I μ3z 337 (Int32.toNatClampNeg x2) t223) h)
      refine sm_if_ne (tgt := 253) dX6_prepare_246 (by decide) (fun c246_0 => ?_) (fun c246_0 => ?_)
      · refine sm_iconst dX6_prepare_253 ic_1 ?_
        exact Sm_weak (le_s rfl (le_n (le_s rfl (le_n (le_n le_0))))) (hj246 _ (if_neg c246_0).symm)
      · refine sm_iconst dX6_prepare_249 ic_0 ?_
        refine sm_goto (tgt := 254) dX6_prepare_250 (by decide) ?_
        exact Sm_weak (le_s rfl (le_n (le_s rfl (le_n (le_n le_0))))) (hj246 _ (if_pos c246_0).symm)
set_option maxRecDepth 100000 in
set_option maxHeartbeats 4000000 in
theorem s_Ma_prepare_L161 {D : Nat} (hD : 2 ≤ D) (N : Nat) {μr : MM} {k148 : Int32 → MM → Option MM} (hk148 : ∀ (x2 : Int32) (μ : MM), k148 x2 μ = some μr → Sm D mX6_prepare 148 [some (av_r 333), none, some (av_i x2), none, none] [] μ (po_v μr)) : ∀ (n : Nat) (x2 : Int32) (x3 : Int32) (μ : MM), f_Ma_prepare_L161 N k148 n x2 x3 μ = some μr → Sm D mX6_prepare 161 [some (av_r 333), none, some (av_i x2), some (av_i x3), none] [] μ (po_v μr) := by
  obtain ⟨d, rfl⟩ : ∃ d, D = d + 1 := ⟨D - 1, by omega⟩
  intro n
  induction n with
  | zero => intro x2 x3 μ h; cases (show none = some μr from h)
  | succ n ih =>
    intro x2 x3 μ h
    rw [f_Ma_prepare_L161] at h
    refine sm_iload_n dX6_prepare_161 rfl rfl ?_
    refine sm_aload_n dX6_prepare_162 rfl rfl ?_
    refine sm_getR dX6_prepare_163 fg_RX6_43 k_333 (rf_6_3 k_333) ?_
    refine sm_getI dX6_prepare_166 fg_RX6_54 k_23 ?_
    refine sm_icmp_ge (tgt := 183) dX6_prepare_169 (by decide) (fun g12 => ?_) (fun g12 => ?_)
    · replace h := it_t g12 h
      refine sm_iinc dX6_prepare_183 rfl (congrArg (HAdd.hAdd x2) ic_1) (Nat.le_of_ble_eq_true rfl) (pv_n rfl) ?_
      refine sm_goto (tgt := 148) dX6_prepare_186 (by decide) ?_
      exact Sm_weak (le_s rfl (le_n (le_s rfl (le_n (le_n le_0))))) (hk148 (x2 + 1) μ h)
    · replace h := it_f g12 h
      refine sm_aload_n dX6_prepare_172 rfl rfl ?_
      refine sm_iload_n dX6_prepare_173 rfl rfl ?_
      obtain ⟨μ6z, g13, h⟩ := obv_some h
      refine sm_callV dX6_prepare_174 cv_X6_narrow ml_RX6_98 k_333 rfl rfl (by decide) (as := [av_i x3]) rfl (Nat.le_of_ble_eq_true rfl) rfl (s_Ma_narrow (D := d) (by omega) N g13) (fun r9 μ9 hp => ?_)
      rw [hp.1, hp.2]
      clear hp r9 μ9
      refine sm_iinc dX6_prepare_177 rfl (congrArg (HAdd.hAdd x3) ic_1) (Nat.le_of_ble_eq_true rfl) (pv_i rfl) ?_
      refine sm_goto (tgt := 161) dX6_prepare_180 (by decide) ?_
      exact Sm_weak (le_s rfl (le_n (le_s rfl (le_s rfl (le_n le_0))))) (ih x2 (x3 + 1) μ6z h)
set_option maxRecDepth 100000 in
set_option maxHeartbeats 4000000 in
theorem s_Ma_prepare_L148 {D : Nat} (hD : 2 ≤ D) (N : Nat) {μr : MM} : ∀ (n : Nat) (x2 : Int32) (μ : MM), f_Ma_prepare_L148 N n x2 μ = some μr → Sm D mX6_prepare 148 [some (av_r 333), none, some (av_i x2), none, none] [] μ (po_v μr) := by
  obtain ⟨d, rfl⟩ : ∃ d, D = d + 1 := ⟨D - 1, by omega⟩
  intro n
  induction n with
  | zero => intro x2 μ h; cases (show none = some μr from h)
  | succ n ih =>
    intro x2 μ h
    rw [f_Ma_prepare_L148] at h
    refine sm_iload_n dX6_prepare_148 rfl rfl ?_
    refine sm_aload_n dX6_prepare_149 rfl rfl ?_
    refine sm_getR dX6_prepare_150 fg_RX6_43 k_333 (rf_6_3 k_333) ?_
    refine sm_getI dX6_prepare_153 fg_RX6_54 k_23 ?_
    refine sm_icmp_ge (tgt := 189) dX6_prepare_156 (by decide) (fun g4 => ?_) (fun g4 => ?_)
    · replace h := it_t g4 h
      refine sm_aload_n dX6_prepare_189 rfl rfl ?_
      refine sm_getR dX6_prepare_190 fg_RX6_37 k_333 (rf_6_9 k_333) ?_
      refine sm_aload_n dX6_prepare_193 rfl rfl ?_
      refine sm_getR dX6_prepare_194 fg_RX6_43 k_333 (rf_6_3 k_333) ?_
      refine sm_getI dX6_prepare_197 fg_RX6_54 k_23 ?_
      refine sm_iconst dX6_prepare_200 ic_0 ?_
      obtain ⟨g5, h⟩ := gd_some h
      refine sm_iast (j := (Int32.toNatClampNeg (μ.1 23 1))) dX6_prepare_201 k_339 (in_sz n_339 g5) rfl ?_
      replace h := wr_some h
      refine sm_aload_n dX6_prepare_202 rfl rfl ?_
      refine sm_getR dX6_prepare_203 fg_RX6_43 k_333 (rf_6_3 k_333) ?_
      refine sm_getI dX6_prepare_206 fg_RX6_54 k_23 ?_
      refine sm_iconst dX6_prepare_209 ic_1 ?_
      refine sm_isub dX6_prepare_210 ?_
      refine sm_istore_n dX6_prepare_211 rfl (Nat.le_of_ble_eq_true rfl) (pv_n rfl) ?_
      exact Sm_weak (le_s rfl (le_n (le_s rfl (le_n (le_n le_0))))) (s_Ma_prepare_L212 hD N N (((mm_I μ 339 (Int32.toNatClampNeg (μ.1 23 1)) 0).1 23 1) - 1) (mm_I μ 339 (Int32.toNatClampNeg (μ.1 23 1)) 0) h)
    · replace h := it_f g4 h
      refine sm_iconst dX6_prepare_159 ic_0 ?_
      refine sm_istore_n dX6_prepare_160 rfl (Nat.le_of_ble_eq_true rfl) (pv_i rfl) ?_
      exact Sm_weak (le_s rfl (le_n (le_s rfl (le_s rfl (le_n le_0))))) (s_Ma_prepare_L161 hD N ih N x2 0 μ h)
set_option maxRecDepth 100000 in
set_option maxHeartbeats 4000000 in
theorem s_Ma_prepare_B139 {D : Nat} (hD : 2 ≤ D) (N : Nat) {μr : MM} {k47 : Int32 → MM → Option MM} (hk47 : ∀ (x2 : Int32) (μ : MM), k47 x2 μ = some μr → Sm D mX6_prepare 47 [some (av_r 333), some (av_r 28), some (av_i x2), none, none] [] μ (po_v μr)) (x2 : Int32) (s1 : Int32) (s2 : Int32) (μ : MM) (h : f_Ma_prepare_B139 N k47 x2 s1 s2 μ = some μr) : Sm D mX6_prepare 139 [some (av_r 333), some (av_r 28), some (av_i x2), none, none] [av_i s2, av_i s1, av_r 338] μ (po_v μr) := by
  obtain ⟨d, rfl⟩ : ∃ d, D = d + 1 := ⟨D - 1, by omega⟩
  unfold f_Ma_prepare_B139 at h
  obtain ⟨g18, h⟩ := gd_some h
  refine sm_iast (j := (Int32.toNatClampNeg s1)) dX6_prepare_139 k_338 (in_sz n_338 g18) rfl ?_
  replace h := wr_some h
  refine sm_iinc dX6_prepare_140 rfl (congrArg (HAdd.hAdd x2) ic_1) (Nat.le_of_ble_eq_true rfl) (pv_r rfl) ?_
  refine sm_goto (tgt := 47) dX6_prepare_143 (by decide) ?_
  exact Sm_weak (le_s rfl (le_s rfl (le_s rfl (le_n (le_n le_0))))) (hk47 (x2 + 1) (mm_I μ 338 (Int32.toNatClampNeg s1) s2) h)
set_option maxRecDepth 100000 in
set_option maxHeartbeats 4000000 in
theorem s_Ma_prepare_B136 {D : Nat} (hD : 2 ≤ D) (N : Nat) {μr : MM} {k47 : Int32 → MM → Option MM} (hk47 : ∀ (x2 : Int32) (μ : MM), k47 x2 μ = some μr → Sm D mX6_prepare 47 [some (av_r 333), some (av_r 28), some (av_i x2), none, none] [] μ (po_v μr)) (x2 : Int32) (s1 : Int32) (s3 : Int32) (s4 : Int32) (μ : MM) (h : f_Ma_prepare_B136 N k47 x2 s1 s3 s4 μ = some μr) : Sm D mX6_prepare 136 [some (av_r 333), some (av_r 28), some (av_i x2), none, none] [av_i s4, av_i s3, av_r 333, av_i s1, av_r 338] μ (po_v μr) := by
  obtain ⟨d, rfl⟩ : ∃ d, D = d + 1 := ⟨D - 1, by omega⟩
  unfold f_Ma_prepare_B136 at h
  obtain ⟨t136, μ9z, g17, h⟩ := ob_some h
  refine sm_callV dX6_prepare_136 cv_X6_ableThings ml_RX6_94 k_333 rfl rfl (by decide) (as := [av_i s3, av_i s4]) rfl (Nat.le_of_ble_eq_true rfl) rfl (s_Ma_ableThings (D := d) (by omega) N g17) (fun r9 μ9 hp => ?_)
  rw [hp.1, hp.2]
  clear hp r9 μ9
  exact Sm_weak (le_s rfl (le_s rfl (le_s rfl (le_n (le_n le_0))))) (s_Ma_prepare_B139 hD N hk47 x2 s1 t136 μ9z h)
set_option maxRecDepth 100000 in
set_option maxHeartbeats 4000000 in
theorem s_Ma_prepare_B105 {D : Nat} (hD : 2 ≤ D) (N : Nat) {μr : MM} {k47 : Int32 → MM → Option MM} (hk47 : ∀ (x2 : Int32) (μ : MM), k47 x2 μ = some μr → Sm D mX6_prepare 47 [some (av_r 333), some (av_r 28), some (av_i x2), none, none] [] μ (po_v μr)) (x2 : Int32) (x3 : Int32) (x4 : Int32) (s1 : Int32) (s2 : Int32) (μ : MM) (h : f_Ma_prepare_B105 N k47 x2 x3 x4 s1 s2 μ = some μr) : Sm D mX6_prepare 105 [some (av_r 333), some (av_r 28), some (av_i x2), some (av_i x3), some (av_i x4)] [av_i s2, av_i s1, av_r 336] μ (po_v μr) := by
  obtain ⟨d, rfl⟩ : ∃ d, D = d + 1 := ⟨D - 1, by omega⟩
  unfold f_Ma_prepare_B105 at h
  obtain ⟨g15, h⟩ := gd_some h
  refine sm_iast (j := (Int32.toNatClampNeg s1)) dX6_prepare_105 k_336 (in_sz n_336 g15) rfl ?_
  replace h := wr_some h
  refine sm_aload_n dX6_prepare_106 rfl rfl ?_
  refine sm_getR dX6_prepare_107 fg_RX6_34 k_333 (rf_6_8 k_333) ?_
  refine sm_iload_n dX6_prepare_110 rfl rfl ?_
  refine sm_iload dX6_prepare_111 rfl ?_
  refine sm_if_eq (tgt := 120) dX6_prepare_113 (by decide) (fun g16 => ?_) (fun g16 => ?_)
  · replace h := it_t g16 h
    refine sm_aload_n dX6_prepare_120 rfl rfl ?_
    refine sm_iload_n dX6_prepare_121 rfl rfl ?_
    refine sm_iload_n dX6_prepare_122 rfl rfl ?_
    refine sm_iload_n dX6_prepare_123 rfl rfl ?_
    refine sm_ishr dX6_prepare_124 ?_
    refine sm_iconst dX6_prepare_125 ic_1 ?_
    refine sm_iand dX6_prepare_126 ?_
    refine sm_iconst dX6_prepare_127 ic_1 ?_
    have hj128 : ∀ (v128_0 : Int32), v128_0 = (if ((x3 >>> (x2 &&& 31)) &&& 1) = 1 then (1 : Int32) else 0) → Sm (d + 1) mX6_prepare 136 [some (av_r 333), some (av_r 28), some (av_i x2), none, none] [av_i v128_0, av_i x2, av_r 333, av_i x2, av_r 338] (mm_I μ 336 (Int32.toNatClampNeg s1) s2) (po_v μr) := by
      intro v128_0 ev128_0
      subst ev128_0
      exact Sm_weak (le_s rfl (le_s rfl (le_s rfl (le_n (le_n le_0))))) (s_Ma_prepare_B136 hD N hk47 x2 x2 x2 (if ((x3 >>> (x2 &&& 31)) &&& 1) = 1 then (1 : Int32) else 0) (mm_I μ 336 (Int32.toNatClampNeg s1) s2) h)
    refine sm_icmp_ne (tgt := 135) dX6_prepare_128 (by decide) (fun c128_0 => ?_) (fun c128_0 => ?_)
    · refine sm_iconst dX6_prepare_135 ic_0 ?_
      exact Sm_weak (le_s rfl (le_s rfl (le_s rfl (le_n (le_n le_0))))) (hj128 _ (if_neg c128_0).symm)
    · refine sm_iconst dX6_prepare_131 ic_1 ?_
      refine sm_goto (tgt := 136) dX6_prepare_132 (by decide) ?_
      exact Sm_weak (le_s rfl (le_s rfl (le_s rfl (le_n (le_n le_0))))) (hj128 _ (if_pos c128_0).symm)
  · replace h := it_f g16 h
    refine sm_iconst dX6_prepare_116 ic_0 ?_
    refine sm_goto (tgt := 139) dX6_prepare_117 (by decide) ?_
    exact Sm_weak (le_s rfl (le_s rfl (le_s rfl (le_n (le_n le_0))))) (s_Ma_prepare_B139 hD N hk47 x2 x2 0 (mm_I μ 336 (Int32.toNatClampNeg s1) s2) h)
set_option maxRecDepth 100000 in
set_option maxHeartbeats 4000000 in
theorem s_Ma_prepare_B82 {D : Nat} (hD : 2 ≤ D) (N : Nat) {μr : MM} {k47 : Int32 → MM → Option MM} (hk47 : ∀ (x2 : Int32) (μ : MM), k47 x2 μ = some μr → Sm D mX6_prepare 47 [some (av_r 333), some (av_r 28), some (av_i x2), none, none] [] μ (po_v μr)) (x2 : Int32) (x3 : Int32) (s0 : Int32) (μ : MM) (h : f_Ma_prepare_B82 N k47 x2 x3 s0 μ = some μr) : Sm D mX6_prepare 82 [some (av_r 333), some (av_r 28), some (av_i x2), some (av_i x3), none] [av_i s0] μ (po_v μr) := by
  obtain ⟨d, rfl⟩ : ∃ d, D = d + 1 := ⟨D - 1, by omega⟩
  unfold f_Ma_prepare_B82 at h
  refine sm_istore dX6_prepare_82 (Nat.le_of_ble_eq_true rfl) (pv_i rfl) ?_
  refine sm_aload_n dX6_prepare_84 rfl rfl ?_
  refine sm_getR dX6_prepare_85 fg_RX6_28 k_333 (rf_6_6 k_333) ?_
  refine sm_iload_n dX6_prepare_88 rfl rfl ?_
  refine sm_iload dX6_prepare_89 rfl ?_
  have hj91 : ∀ (v91_0 : Int32), v91_0 = (if s0 = 0 then (x3 &&& (((1 : Int32) <<< (x2 &&& 31)) ^^^ (-1))) else 0) → Sm (d + 1) mX6_prepare 105 [some (av_r 333), some (av_r 28), some (av_i x2), some (av_i x3), some (av_i s0)] [av_i v91_0, av_i x2, av_r 336] μ (po_v μr) := by
    intro v91_0 ev91_0
    subst ev91_0
    exact Sm_weak (le_s rfl (le_s rfl (le_s rfl (le_s rfl (le_s rfl le_0))))) (s_Ma_prepare_B105 hD N hk47 x2 x3 s0 x2 (if s0 = 0 then (x3 &&& (((1 : Int32) <<< (x2 &&& 31)) ^^^ (-1))) else 0) μ h)
  refine sm_if_eq (tgt := 98) dX6_prepare_91 (by decide) (fun c91_0 => ?_) (fun c91_0 => ?_)
  · refine sm_iload_n dX6_prepare_98 rfl rfl ?_
    refine sm_iconst dX6_prepare_99 ic_1 ?_
    refine sm_iload_n dX6_prepare_100 rfl rfl ?_
    refine sm_ishl dX6_prepare_101 ?_
    refine sm_iconst dX6_prepare_102 ic_m1 ?_
    refine sm_ixor dX6_prepare_103 ?_
    refine sm_iand dX6_prepare_104 ?_
    exact Sm_weak (le_s rfl (le_s rfl (le_s rfl (le_s rfl (le_s rfl le_0))))) (hj91 _ (if_pos c91_0).symm)
  · refine sm_iconst dX6_prepare_94 ic_0 ?_
    refine sm_goto (tgt := 105) dX6_prepare_95 (by decide) ?_
    exact Sm_weak (le_s rfl (le_s rfl (le_s rfl (le_s rfl (le_s rfl le_0))))) (hj91 _ (if_neg c91_0).symm)
set_option maxRecDepth 100000 in
set_option maxHeartbeats 4000000 in
theorem s_Ma_prepare_L47 {D : Nat} (hD : 2 ≤ D) (N : Nat) {μr : MM} : ∀ (n : Nat) (x2 : Int32) (μ : MM), f_Ma_prepare_L47 N n x2 μ = some μr → Sm D mX6_prepare 47 [some (av_r 333), some (av_r 28), some (av_i x2), none, none] [] μ (po_v μr) := by
  obtain ⟨d, rfl⟩ : ∃ d, D = d + 1 := ⟨D - 1, by omega⟩
  intro n
  induction n with
  | zero => intro x2 μ h; cases (show none = some μr from h)
  | succ n ih =>
    intro x2 μ h
    rw [f_Ma_prepare_L47] at h
    refine sm_iload_n dX6_prepare_47 rfl rfl ?_
    refine sm_aload_n dX6_prepare_48 rfl rfl ?_
    refine sm_getR dX6_prepare_49 fg_RX6_43 k_333 (rf_6_3 k_333) ?_
    refine sm_getI dX6_prepare_52 fg_RX6_54 k_23 ?_
    refine sm_icmp_ge (tgt := 146) dX6_prepare_55 (by decide) (fun g3 => ?_) (fun g3 => ?_)
    · replace h := it_t g3 h
      refine sm_iconst dX6_prepare_146 ic_0 ?_
      refine sm_istore_n dX6_prepare_147 rfl (Nat.le_of_ble_eq_true rfl) (pv_r rfl) ?_
      exact Sm_weak (le_s rfl (le_n (le_s rfl (le_n (le_n le_0))))) (s_Ma_prepare_L148 hD N N 0 μ h)
    · replace h := it_f g3 h
      refine sm_aload_n dX6_prepare_58 rfl rfl ?_
      refine sm_iload_n dX6_prepare_59 rfl rfl ?_
      refine sm_iconst dX6_prepare_60 ic_2 ?_
      obtain ⟨t61, μ7z, g14, h⟩ := ob_some h
      refine sm_callV dX6_prepare_61 cv_X10_named ml_RX6_88 k_28 rfl rfl (by decide) (as := [av_i x2, av_i 2]) rfl (Nat.le_of_ble_eq_true rfl) rfl (s_Wo_named (D := d) (by omega) N k_28 g14) (fun r9 μ9 hp => ?_)
      rw [hp.1, hp.2]
      clear hp r9 μ9
      refine sm_istore_n dX6_prepare_64 rfl (Nat.le_of_ble_eq_true rfl) (pv_i rfl) ?_
      refine sm_iload_n dX6_prepare_65 rfl rfl ?_
      refine sm_aload_n dX6_prepare_66 rfl rfl ?_
      refine sm_getR dX6_prepare_67 fg_RX6_43 k_333 (rf_6_3 k_333) ?_
      refine sm_getI dX6_prepare_70 fg_RX6_54 k_23 ?_
      refine sm_ishr dX6_prepare_73 ?_
      have hj74 : ∀ (v74_0 : Int32), v74_0 = (if (t61 >>> ((μ7z.1 23 1) &&& 31)) = 0 then (0 : Int32) else 1) → Sm (d + 1) mX6_prepare 82 [some (av_r 333), some (av_r 28), some (av_i x2), some (av_i t61), none] [av_i v74_0] μ7z (po_v μr) := by
        intro v74_0 ev74_0
        subst ev74_0
        exact Sm_weak (le_s rfl (le_s rfl (le_s rfl (le_s rfl (le_n le_0))))) (s_Ma_prepare_B82 hD N ih x2 t61 (if (t61 >>> ((μ7z.1 23 1) &&& 31)) = 0 then (0 : Int32) else 1) μ7z h)
      refine sm_if_eq (tgt := 81) dX6_prepare_74 (by decide) (fun c74_0 => ?_) (fun c74_0 => ?_)
      · refine sm_iconst dX6_prepare_81 ic_0 ?_
        exact Sm_weak (le_s rfl (le_s rfl (le_s rfl (le_s rfl (le_n le_0))))) (hj74 _ (if_pos c74_0).symm)
      · refine sm_iconst dX6_prepare_77 ic_1 ?_
        refine sm_goto (tgt := 82) dX6_prepare_78 (by decide) ?_
        exact Sm_weak (le_s rfl (le_s rfl (le_s rfl (le_s rfl (le_n le_0))))) (hj74 _ (if_neg c74_0).symm)
set_option maxRecDepth 100000 in
set_option maxHeartbeats 4000000 in
theorem s_Ma_prepare_L2 {D : Nat} (hD : 2 ≤ D) (N : Nat) {μr : MM} : ∀ (n : Nat) (x1 : Int32) (μ : MM), f_Ma_prepare_L2 N n x1 μ = some μr → Sm D mX6_prepare 2 [some (av_r 333), some (av_i x1), none, none, none] [] μ (po_v μr) := by
  obtain ⟨d, rfl⟩ : ∃ d, D = d + 1 := ⟨D - 1, by omega⟩
  intro n
  induction n with
  | zero => intro x1 μ h; cases (show none = some μr from h)
  | succ n ih =>
    intro x1 μ h
    rw [f_Ma_prepare_L2] at h
    refine sm_iload_n dX6_prepare_2 rfl rfl ?_
    refine sm_aload_n dX6_prepare_3 rfl rfl ?_
    refine sm_getR dX6_prepare_4 fg_RX6_43 k_333 (rf_6_3 k_333) ?_
    refine sm_getI dX6_prepare_7 fg_RX6_69 k_23 ?_
    refine sm_icmp_ge (tgt := 30) dX6_prepare_10 (by decide) (fun g1 => ?_) (fun g1 => ?_)
    · replace h := it_t g1 h
      refine sm_aload_n dX6_prepare_30 rfl rfl ?_
      obtain ⟨μ1z, g2, h⟩ := obv_some h
      refine sm_callV dX6_prepare_31 cv_X6_sortByPrice ml_RX6_75 k_333 rfl rfl (by decide) (as := []) rfl (Nat.le_of_ble_eq_true rfl) rfl (s_Ma_sortByPrice (D := d) (by omega) N g2) (fun r9 μ9 hp => ?_)
      rw [hp.1, hp.2]
      clear hp r9 μ9
      refine sm_aload_n dX6_prepare_34 rfl rfl ?_
      refine sm_getR dX6_prepare_35 fg_RX6_43 k_333 (rf_6_3 k_333) ?_
      refine sm_getR dX6_prepare_38 fg_RX6_78 k_23 (rf_1_5 k_23) ?_
      refine sm_getR dX6_prepare_41 fg_RX6_82 k_27 (rf_7_0 k_27) ?_
      refine sm_astore_n dX6_prepare_44 rfl (Nat.le_of_ble_eq_true rfl) (pv_r rfl) ?_
      refine sm_iconst dX6_prepare_45 ic_0 ?_
      refine sm_istore_n dX6_prepare_46 rfl (Nat.le_of_ble_eq_true rfl) (pv_r rfl) ?_
      exact Sm_weak (le_s rfl (le_s rfl (le_s rfl (le_n (le_n le_0))))) (s_Ma_prepare_L47 hD N N 0 μ1z h)
    · replace h := it_f g1 h
      refine sm_aload_n dX6_prepare_13 rfl rfl ?_
      refine sm_getR dX6_prepare_14 fg_RX6_21 k_333 (rf_6_4 k_333) ?_
      refine sm_iload_n dX6_prepare_17 rfl rfl ?_
      refine sm_aload_n dX6_prepare_18 rfl rfl ?_
      refine sm_iload_n dX6_prepare_19 rfl rfl ?_
      obtain ⟨t20, μ11z, g19, h⟩ := ob_some h
      refine sm_callV dX6_prepare_20 cv_X6_alikeThings ml_RX6_72 k_333 rfl rfl (by decide) (as := [av_i x1]) rfl (Nat.le_of_ble_eq_true rfl) rfl (s_Ma_alikeThings (D := d) (by omega) N g19) (fun r9 μ9 hp => ?_)
      rw [hp.1, hp.2]
      clear hp r9 μ9
      obtain ⟨g20, h⟩ := gd_some h
      refine sm_iast (j := (Int32.toNatClampNeg x1)) dX6_prepare_23 k_334 (in_sz n_334 g20) rfl ?_
      replace h := wr_some h
      refine sm_iinc dX6_prepare_24 rfl (congrArg (HAdd.hAdd x1) ic_1) (Nat.le_of_ble_eq_true rfl) (pv_r rfl) ?_
      refine sm_goto (tgt := 2) dX6_prepare_27 (by decide) ?_
      exact Sm_weak (le_s rfl (le_s rfl (le_n (le_n (le_n le_0))))) (ih (x1 + 1) (mm_I μ11z 334 (Int32.toNatClampNeg x1) t20) h)
set_option maxRecDepth 100000 in
set_option maxHeartbeats 4000000 in
theorem s_Ma_prepare {D : Nat} (hD : 2 ≤ D) (N : Nat) {μ : MM} {μr : MM} (h : f_Ma_prepare N μ = some μr) : Cl D mX6_prepare [av_r 333] μ (po_v μr) := by
  obtain ⟨d, rfl⟩ : ∃ d, D = d + 1 := ⟨D - 1, by omega⟩
  refine Cl_of pn_X6 (Nat.le_of_ble_eq_true rfl) ?_
  show Sm (d + 1) mX6_prepare 0 [some (av_r 333), none, none, none, none] [] μ (po_v μr)
  unfold f_Ma_prepare at h
  refine sm_iconst dX6_prepare_0 ic_0 ?_
  refine sm_istore_n dX6_prepare_1 rfl (Nat.le_of_ble_eq_true rfl) (pv_r rfl) ?_
  exact Sm_weak (le_s rfl (le_s rfl (le_n (le_n (le_n le_0))))) (s_Ma_prepare_L2 hD N N 0 μ h)
