set_option maxRecDepth 100000 in
set_option maxHeartbeats 4000000 in
theorem s_Wo_leftIn_L19 {D : Nat} (hD : 0 ≤ D) (N : Nat) {w : Nat} (hk_w : sh_k w = 10) {r : Int32} {μr : MM} : ∀ (n : Nat) (x1 : Int32) (x2 : Int32) (x3 : Int32) (μ : MM), f_Wo_leftIn_L19 N w n x1 x2 x3 μ = some (r, μr) → Sm D mX10_leftIn 19 [some (av_r w), some (av_i x1), some (av_i x2), some (av_i x3)] [] μ (po_i r μr) := by
  intro n
  induction n with
  | zero => intro x1 x2 x3 μ h; cases (show none = some (r, μr) from h)
  | succ n ih =>
    intro x1 x2 x3 μ h
    rw [f_Wo_leftIn_L19] at h
    refine sm_iload_n dX10_leftIn_19 rfl rfl ?_
    refine sm_aload_n dX10_leftIn_20 rfl rfl ?_
    refine sm_getR dX10_leftIn_21 fg_RX10_18 hk_w (rf_10_0 hk_w) ?_
    refine sm_iload_n dX10_leftIn_24 rfl rfl ?_
    obtain ⟨g3, h⟩ := gd_some h
    refine sm_iald (j := (Int32.toNatClampNeg x1)) dX10_leftIn_25 (kk_10_0 hk_w) (in_sz rfl g3) rfl ?_
    refine sm_icmp_ge (tgt := 52) dX10_leftIn_26 (by decide) (fun g4 => ?_) (fun g4 => ?_)
    · replace h := it_t g4 h
      refine sm_iload_n dX10_leftIn_52 rfl rfl ?_
      cases h
      exact sm_ret_i (st := []) dX10_leftIn_53 rfl ⟨rfl, rfl⟩
    · replace h := it_f g4 h
      refine sm_aload_n dX10_leftIn_29 rfl rfl ?_
      refine sm_getR dX10_leftIn_30 fg_RX10_30 hk_w (rf_10_3 hk_w) ?_
      refine sm_iload_n dX10_leftIn_33 rfl rfl ?_
      refine sm_bipush dX10_leftIn_34 bp_6 ?_
      refine sm_imul dX10_leftIn_36 ?_
      refine sm_iload_n dX10_leftIn_37 rfl rfl ?_
      refine sm_iadd dX10_leftIn_38 ?_
      obtain ⟨g5, h⟩ := gd_some h
      refine sm_iald (j := (Int32.toNatClampNeg ((x1 * 6) + x3))) dX10_leftIn_39 (kk_10_3 hk_w) (in_sz rfl g5) rfl ?_
      have hj40 : ∀ (v40_0 : Int32), v40_0 = (if (μ.1 (w + 4) (Int32.toNatClampNeg ((x1 * 6) + x3))) ≤ 0 then x2 else (x2 + 1)) → Sm D mX10_leftIn 46 [some (av_r w), some (av_i x1), some (av_i v40_0), some (av_i x3)] [] μ (po_i r μr) := by
        intro v40_0 ev40_0
        subst ev40_0
        refine sm_iinc dX10_leftIn_46 rfl (congrArg (HAdd.hAdd x3) ic_1) (Nat.le_of_ble_eq_true rfl) (pv_i rfl) ?_
        refine sm_goto (tgt := 19) dX10_leftIn_49 (by decide) ?_
        exact Sm_weak (le_s rfl (le_s rfl (le_s rfl (le_s rfl le_0)))) (ih x1 (if (μ.1 (w + 4) (Int32.toNatClampNeg ((x1 * 6) + x3))) ≤ 0 then x2 else (x2 + 1)) (x3 + 1) μ h)
      refine sm_if_le (tgt := 46) dX10_leftIn_40 (by decide) (fun c40_0 => ?_) (fun c40_0 => ?_)
      · exact Sm_weak (le_s rfl (le_s rfl (le_s rfl (le_s rfl le_0)))) (hj40 _ (if_pos c40_0).symm)
      · refine sm_iinc dX10_leftIn_43 rfl (congrArg (HAdd.hAdd x2) ic_1) (Nat.le_of_ble_eq_true rfl) (pv_i rfl) ?_
        exact Sm_weak (le_s rfl (le_s rfl (le_s rfl (le_s rfl le_0)))) (hj40 _ (if_neg c40_0).symm)
set_option maxRecDepth 100000 in
set_option maxHeartbeats 4000000 in
theorem s_Wo_leftIn {D : Nat} (hD : 0 ≤ D) (N : Nat) {w : Nat} (hk_w : sh_k w = 10) {x1 : Int32} {μ : MM} {r : Int32} {μr : MM} (h : f_Wo_leftIn N w x1 μ = some (r, μr)) : Cl D mX10_leftIn [av_r w, av_i x1] μ (po_i r μr) := by
  refine Cl_of pn_X10 (Nat.le_of_ble_eq_true rfl) ?_
  show Sm D mX10_leftIn 0 [some (av_r w), some (av_i x1), none, none] [] μ (po_i r μr)
  unfold f_Wo_leftIn at h
  refine sm_iload_n dX10_leftIn_0 rfl rfl ?_
  refine sm_if_lt (tgt := 13) dX10_leftIn_1 (by decide) (fun g1 => ?_) (fun g1 => ?_)
  · replace h := it_t g1 h
    refine sm_iconst dX10_leftIn_13 ic_0 ?_
    cases h
    exact sm_ret_i (st := []) dX10_leftIn_14 rfl ⟨rfl, rfl⟩
  · replace h := it_f g1 h
    refine sm_iload_n dX10_leftIn_4 rfl rfl ?_
    refine sm_aload_n dX10_leftIn_5 rfl rfl ?_
    refine sm_getR dX10_leftIn_6 fg_RX10_18 hk_w (rf_10_0 hk_w) ?_
    refine sm_alen dX10_leftIn_9 (kk_10_0 hk_w) (by decide) (by decide) ?_
    refine sm_icmp_lt (tgt := 15) dX10_leftIn_10 (by decide) (fun g2 => ?_) (fun g2 => ?_)
    · replace h := it_t g2 h
      refine sm_iconst dX10_leftIn_15 ic_0 ?_
      refine sm_istore_n dX10_leftIn_16 rfl (Nat.le_of_ble_eq_true rfl) (pv_i rfl) ?_
      refine sm_iconst dX10_leftIn_17 ic_0 ?_
      refine sm_istore_n dX10_leftIn_18 rfl (Nat.le_of_ble_eq_true rfl) (pv_i rfl) ?_
      exact Sm_weak (le_s rfl (le_s rfl (le_s rfl (le_s rfl le_0)))) (s_Wo_leftIn_L19 hD N hk_w N x1 0 0 μ h)
    · replace h := it_f g2 h
      refine sm_iconst dX10_leftIn_13 ic_0 ?_
      cases h
      exact sm_ret_i (st := []) dX10_leftIn_14 rfl ⟨rfl, rfl⟩
set_option maxRecDepth 100000 in
set_option maxHeartbeats 4000000 in
theorem s_Co_goneWords_L4 {D : Nat} (hD : 1 ≤ D) (N : Nat) {c : Nat} (hk_c : sh_k c = 1) {r : Int32} {μr : MM} : ∀ (n : Nat) (x1 : Int32) (x2 : Int32) (μ : MM), f_Co_goneWords_L4 N c n x1 x2 μ = some (r, μr) → Sm D mX1_goneWords 4 [some (av_r c), some (av_i x1), some (av_i x2)] [] μ (po_i r μr) := by
  obtain ⟨d, rfl⟩ : ∃ d, D = d + 1 := ⟨D - 1, by omega⟩
  intro n
  induction n with
  | zero => intro x1 x2 μ h; cases (show none = some (r, μr) from h)
  | succ n ih =>
    intro x1 x2 μ h
    rw [f_Co_goneWords_L4] at h
    refine sm_iload_n dX1_goneWords_4 rfl rfl ?_
    refine sm_aload_n dX1_goneWords_5 rfl rfl ?_
    refine sm_getI dX1_goneWords_6 fg_RX1_15 hk_c ?_
    refine sm_icmp_ge (tgt := 45) dX1_goneWords_9 (by decide) (fun g1 => ?_) (fun g1 => ?_)
    · replace h := it_t g1 h
      refine sm_iload_n dX1_goneWords_45 rfl rfl ?_
      cases h
      exact sm_ret_i (st := []) dX1_goneWords_46 rfl ⟨rfl, rfl⟩
    · replace h := it_f g1 h
      refine sm_iload_n dX1_goneWords_12 rfl rfl ?_
      refine sm_aload_n dX1_goneWords_13 rfl rfl ?_
      refine sm_getR dX1_goneWords_14 fg_RX1_31 hk_c (rf_1_5 hk_c) ?_
      refine sm_getR dX1_goneWords_17 fg_RX1_55 (kk_1_5 hk_c) (rf_7_0 (kk_1_5 hk_c)) ?_
      refine sm_getR dX1_goneWords_20 fg_RX1_59 (kk_7_0 (kk_1_5 hk_c)) (rf_10_0 (kk_7_0 (kk_1_5 hk_c))) ?_
      refine sm_iload_n dX1_goneWords_23 rfl rfl ?_
      obtain ⟨g2, h⟩ := gd_some h
      refine sm_iald (j := (Int32.toNatClampNeg x2)) dX1_goneWords_24 (kk_10_0 (kk_7_0 (kk_1_5 hk_c))) (in_sz rfl g2) rfl ?_
      refine sm_aload_n dX1_goneWords_25 rfl rfl ?_
      refine sm_getR dX1_goneWords_26 fg_RX1_31 hk_c (rf_1_5 hk_c) ?_
      refine sm_getR dX1_goneWords_29 fg_RX1_55 (kk_1_5 hk_c) (rf_7_0 (kk_1_5 hk_c)) ?_
      refine sm_iload_n dX1_goneWords_32 rfl rfl ?_
      obtain ⟨t33, μ1z, g3, h⟩ := ob_some h
      refine sm_callV dX1_goneWords_33 cv_X10_leftIn ml_RX1_91 (kk_7_0 (kk_1_5 hk_c)) rfl rfl (by decide) (as := [av_i x2]) rfl (Nat.le_of_ble_eq_true rfl) rfl (s_Wo_leftIn (D := d) (by omega) N (kk_7_0 (kk_1_5 hk_c)) g3) (fun r9 μ9 hp => ?_)
      rw [hp.1, hp.2]
      clear hp r9 μ9
      refine sm_isub dX1_goneWords_36 ?_
      refine sm_iadd dX1_goneWords_37 ?_
      refine sm_istore_n dX1_goneWords_38 rfl (Nat.le_of_ble_eq_true rfl) (pv_r rfl) ?_
      refine sm_iinc dX1_goneWords_39 rfl (congrArg (HAdd.hAdd x2) ic_1) (Nat.le_of_ble_eq_true rfl) (pv_i rfl) ?_
      refine sm_goto (tgt := 4) dX1_goneWords_42 (by decide) ?_
      exact Sm_weak (le_s rfl (le_s rfl (le_s rfl le_0))) (ih (x1 + ((μ.1 (c + 4 + 1 + 1) (Int32.toNatClampNeg x2)) - t33)) (x2 + 1) μ1z h)
set_option maxRecDepth 100000 in
set_option maxHeartbeats 4000000 in
theorem s_Co_goneWords {D : Nat} (hD : 1 ≤ D) (N : Nat) {c : Nat} (hk_c : sh_k c = 1) {μ : MM} {r : Int32} {μr : MM} (h : f_Co_goneWords N c μ = some (r, μr)) : Cl D mX1_goneWords [av_r c] μ (po_i r μr) := by
  obtain ⟨d, rfl⟩ : ∃ d, D = d + 1 := ⟨D - 1, by omega⟩
  refine Cl_of pn_X1 (Nat.le_of_ble_eq_true rfl) ?_
  show Sm (d + 1) mX1_goneWords 0 [some (av_r c), none, none] [] μ (po_i r μr)
  unfold f_Co_goneWords at h
  refine sm_iconst dX1_goneWords_0 ic_0 ?_
  refine sm_istore_n dX1_goneWords_1 rfl (Nat.le_of_ble_eq_true rfl) (pv_r rfl) ?_
  refine sm_iconst dX1_goneWords_2 ic_0 ?_
  refine sm_istore_n dX1_goneWords_3 rfl (Nat.le_of_ble_eq_true rfl) (pv_i rfl) ?_
  exact Sm_weak (le_s rfl (le_s rfl (le_s rfl le_0))) (s_Co_goneWords_L4 hD N hk_c N 0 0 μ h)
set_option maxRecDepth 100000 in
set_option maxHeartbeats 4000000 in
theorem s_La_clauseEnd_L2 {D : Nat} (hD : 0 ≤ D) (N : Nat) {r : Int32} {μr : MM} : ∀ (n : Nat) (x2 : Int32) (μ : MM), f_La_clauseEnd_L2 N n x2 μ = some (r, μr) → Sm D mX5_clauseEnd 2 [some (av_r 34), none, some (av_i x2)] [] μ (po_i r μr) := by
  intro n
  induction n with
  | zero => intro x2 μ h; cases (show none = some (r, μr) from h)
  | succ n ih =>
    intro x2 μ h
    rw [f_La_clauseEnd_L2] at h
    refine sm_iload_n dX5_clauseEnd_2 rfl rfl ?_
    refine sm_aload_n dX5_clauseEnd_3 rfl rfl ?_
    refine sm_getR dX5_clauseEnd_4 fg_RX5_29 k_34 (rf_5_4 k_34) ?_
    refine sm_aload_n dX5_clauseEnd_7 rfl rfl ?_
    refine sm_getI dX5_clauseEnd_8 fg_RX5_15 k_34 ?_
    obtain ⟨g1, h⟩ := gd_some h
    refine sm_iald (j := (Int32.toNatClampNeg (μ.1 34 1))) dX5_clauseEnd_11 k_41 (in_sz n_41 g1) rfl ?_
    refine sm_icmp_ge (tgt := 37) dX5_clauseEnd_12 (by decide) (fun g2 => ?_) (fun g2 => ?_)
    · replace h := it_t g2 h
      refine sm_iload_n dX5_clauseEnd_37 rfl rfl ?_
      cases h
      exact sm_ret_i (st := []) dX5_clauseEnd_38 rfl ⟨rfl, rfl⟩
    · replace h := it_f g2 h
      refine sm_aload_n dX5_clauseEnd_15 rfl rfl ?_
      refine sm_getR dX5_clauseEnd_16 fg_RX5_26 k_34 (rf_5_3 k_34) ?_
      refine sm_aload_n dX5_clauseEnd_19 rfl rfl ?_
      refine sm_getI dX5_clauseEnd_20 fg_RX5_15 k_34 ?_
      obtain ⟨g3, h⟩ := gd_some h
      refine sm_aaldI dX5_clauseEnd_23 k_36 (in_sz n_36 g3) (rf_25 k_36) ?_
      refine sm_iload_n dX5_clauseEnd_24 rfl rfl ?_
      obtain ⟨g4, h⟩ := gd_some h
      refine sm_iald (j := (Int32.toNatClampNeg x2)) dX5_clauseEnd_25 (kd_25 (in_vp g3)) (in_sz (nd_25 (in_vp g3)) g4) rfl ?_
      refine sm_bipush dX5_clauseEnd_26 bp_m22 ?_
      refine sm_icmp_eq (tgt := 37) dX5_clauseEnd_28 (by decide) (fun g5 => ?_) (fun g5 => ?_)
      · replace h := it_t g5 h
        refine sm_iload_n dX5_clauseEnd_37 rfl rfl ?_
        cases h
        exact sm_ret_i (st := []) dX5_clauseEnd_38 rfl ⟨rfl, rfl⟩
      · replace h := it_f g5 h
        refine sm_iinc dX5_clauseEnd_31 rfl (congrArg (HAdd.hAdd x2) ic_1) (Nat.le_of_ble_eq_true rfl) (pv_n rfl) ?_
        refine sm_goto (tgt := 2) dX5_clauseEnd_34 (by decide) ?_
        exact Sm_weak (le_s rfl (le_n (le_s rfl le_0))) (ih (x2 + 1) μ h)
set_option maxRecDepth 100000 in
set_option maxHeartbeats 4000000 in
theorem s_La_clauseEnd {D : Nat} (hD : 0 ≤ D) (N : Nat) {x1 : Int32} {μ : MM} {r : Int32} {μr : MM} (h : f_La_clauseEnd N x1 μ = some (r, μr)) : Cl D mX5_clauseEnd [av_r 34, av_i x1] μ (po_i r μr) := by
  refine Cl_of pn_X5 (Nat.le_of_ble_eq_true rfl) ?_
  show Sm D mX5_clauseEnd 0 [some (av_r 34), some (av_i x1), none] [] μ (po_i r μr)
  unfold f_La_clauseEnd at h
  refine sm_iload_n dX5_clauseEnd_0 rfl rfl ?_
  refine sm_istore_n dX5_clauseEnd_1 rfl (Nat.le_of_ble_eq_true rfl) (pv_i rfl) ?_
  exact Sm_weak (le_s rfl (le_n (le_s rfl le_0))) (s_La_clauseEnd_L2 hD N N x1 μ h)
set_option maxRecDepth 100000 in
set_option maxHeartbeats 4000000 in
theorem s_La_within {D : Nat} (hD : 1 ≤ D) (N : Nat) {y1 : Int64} {μ : MM} {r : Int32} {μr : MM} (h : f_La_within N y1 μ = some (r, μr)) : Cl D mX5_within [av_r 34, av_l y1] μ (po_i r μr) := by
  obtain ⟨d, rfl⟩ : ∃ d, D = d + 1 := ⟨D - 1, by omega⟩
  refine Cl_of pn_X5 (Nat.le_of_ble_eq_true rfl) ?_
  show Sm (d + 1) mX5_within 0 [some (av_r 34), some (av_l y1), none] [] μ (po_i r μr)
  unfold f_La_within at h
  refine sm_ldc2 dX5_within_0 cs_RX5_53 ?_
  refine sm_ldc2 dX5_within_3 cs_RX5_55 ?_
  refine sm_lload_n dX5_within_6 rfl rfl ?_
  refine sm_minl dX5_within_7 ml_RX5_57 (Nat.le_of_ble_eq_true rfl) ?_
  refine sm_maxl dX5_within_10 ml_RX5_63 (Nat.le_of_ble_eq_true rfl) ?_
  refine sm_l2i dX5_within_13 ?_
  cases h
  exact sm_ret_i (st := []) dX5_within_14 rfl ⟨rfl, rfl⟩
set_option maxRecDepth 100000 in
set_option maxHeartbeats 4000000 in
theorem s_La_join {D : Nat} (hD : 2 ≤ D) (N : Nat) {x1 : Int32} {x2 : Int32} {x3 : Int32} {μ : MM} {r : Int32} {μr : MM} (h : f_La_join N x1 x2 x3 μ = some (r, μr)) : Cl D mX5_join [av_r 34, av_i x1, av_i x2, av_i x3] μ (po_i r μr) := by
  obtain ⟨d, rfl⟩ : ∃ d, D = d + 1 := ⟨D - 1, by omega⟩
  refine Cl_of pn_X5 (Nat.le_of_ble_eq_true rfl) ?_
  show Sm (d + 1) mX5_join 0 [some (av_r 34), some (av_i x1), some (av_i x2), some (av_i x3)] [] μ (po_i r μr)
  unfold f_La_join at h
  refine sm_iload_n dX5_join_0 rfl rfl ?_
  by_cases g1 : x1 = (-18)
  · replace h := it_t g1 h
    refine sm_tsw_at (tgt := 126) dX5_join_1 g1 (by decide) (by decide) trivial rfl (by decide) ?_
    refine sm_iload_n dX5_join_126 rfl rfl ?_
    refine sm_iload_n dX5_join_127 rfl rfl ?_
    refine sm_iand dX5_join_128 ?_
    cases h
    exact sm_ret_i (st := []) dX5_join_129 rfl ⟨rfl, rfl⟩
  · replace h := it_f g1 h
    by_cases g2 : x1 = (-17)
    · replace h := it_t g2 h
      refine sm_tsw_at (tgt := 115) dX5_join_1 g2 (by decide) (by decide) trivial rfl (by decide) ?_
      refine sm_iload_n dX5_join_115 rfl rfl ?_
      refine sm_iload_n dX5_join_116 rfl rfl ?_
      have hj117 : ∀ (v117_0 : Int32), v117_0 = (if x2 ≤ x3 then (0 : Int32) else 1) → Sm (d + 1) mX5_join 125 [none, none, none, none] [av_i v117_0] μ (po_i r μr) := by
        intro v117_0 ev117_0
        subst ev117_0
        cases h
        exact sm_ret_i (st := []) dX5_join_125 rfl ⟨rfl, rfl⟩
      refine sm_icmp_le (tgt := 124) dX5_join_117 (by decide) (fun c117_0 => ?_) (fun c117_0 => ?_)
      · refine sm_iconst dX5_join_124 ic_0 ?_
        exact Sm_weak (le_n (le_n (le_n (le_n le_0)))) (hj117 _ (if_pos c117_0).symm)
      · refine sm_iconst dX5_join_120 ic_1 ?_
        refine sm_goto (tgt := 125) dX5_join_121 (by decide) ?_
        exact Sm_weak (le_n (le_n (le_n (le_n le_0)))) (hj117 _ (if_neg c117_0).symm)
    · replace h := it_f g2 h
      by_cases g3 : x1 = (-16)
      · replace h := it_t g3 h
        refine sm_tsw_at (tgt := 104) dX5_join_1 g3 (by decide) (by decide) trivial rfl (by decide) ?_
        refine sm_iload_n dX5_join_104 rfl rfl ?_
        refine sm_iload_n dX5_join_105 rfl rfl ?_
        have hj106 : ∀ (v106_0 : Int32), v106_0 = (if x3 ≤ x2 then (0 : Int32) else 1) → Sm (d + 1) mX5_join 114 [none, none, none, none] [av_i v106_0] μ (po_i r μr) := by
          intro v106_0 ev106_0
          subst ev106_0
          cases h
          exact sm_ret_i (st := []) dX5_join_114 rfl ⟨rfl, rfl⟩
        refine sm_icmp_ge (tgt := 113) dX5_join_106 (by decide) (fun c106_0 => ?_) (fun c106_0 => ?_)
        · refine sm_iconst dX5_join_113 ic_0 ?_
          exact Sm_weak (le_n (le_n (le_n (le_n le_0)))) (hj106 _ (if_pos c106_0).symm)
        · refine sm_iconst dX5_join_109 ic_1 ?_
          refine sm_goto (tgt := 114) dX5_join_110 (by decide) ?_
          exact Sm_weak (le_n (le_n (le_n (le_n le_0)))) (hj106 _ (if_neg c106_0).symm)
      · replace h := it_f g3 h
        by_cases g4 : x1 = (-15)
        · replace h := it_t g4 h
          refine sm_tsw_at (tgt := 93) dX5_join_1 g4 (by decide) (by decide) trivial rfl (by decide) ?_
          refine sm_iload_n dX5_join_93 rfl rfl ?_
          refine sm_iload_n dX5_join_94 rfl rfl ?_
          have hj95 : ∀ (v95_0 : Int32), v95_0 = (if x2 = x3 then (1 : Int32) else 0) → Sm (d + 1) mX5_join 103 [none, none, none, none] [av_i v95_0] μ (po_i r μr) := by
            intro v95_0 ev95_0
            subst ev95_0
            cases h
            exact sm_ret_i (st := []) dX5_join_103 rfl ⟨rfl, rfl⟩
          refine sm_icmp_ne (tgt := 102) dX5_join_95 (by decide) (fun c95_0 => ?_) (fun c95_0 => ?_)
          · refine sm_iconst dX5_join_102 ic_0 ?_
            exact Sm_weak (le_n (le_n (le_n (le_n le_0)))) (hj95 _ (if_neg c95_0).symm)
          · refine sm_iconst dX5_join_98 ic_1 ?_
            refine sm_goto (tgt := 103) dX5_join_99 (by decide) ?_
            exact Sm_weak (le_n (le_n (le_n (le_n le_0)))) (hj95 _ (if_pos c95_0).symm)
        · replace h := it_f g4 h
          by_cases g5 : x1 = (-14)
          · replace h := it_t g5 h
            refine sm_tsw_at (tgt := 76) dX5_join_1 g5 (by decide) (by decide) trivial rfl (by decide) ?_
            refine sm_iload_n dX5_join_76 rfl rfl ?_
            refine sm_if_ne (tgt := 84) dX5_join_77 (by decide) (fun g6 => ?_) (fun g6 => ?_)
            · replace h := it_f g6 h
              refine sm_aload_n dX5_join_84 rfl rfl ?_
              refine sm_iload_n dX5_join_85 rfl rfl ?_
              refine sm_iload_n dX5_join_86 rfl rfl ?_
              obtain ⟨g7, h⟩ := gd_some h
              refine sm_idiv dX5_join_87 (nzi_ne g7) ?_
              refine sm_i2l dX5_join_88 ?_
              obtain ⟨t89, μ1z, g8, h⟩ := ob_some h
              refine sm_callV dX5_join_89 cv_X5_within ml_RX5_49 k_34 rfl rfl (by decide) (as := [av_l (Int32.toInt64 (x2 / x3))]) rfl (Nat.le_of_ble_eq_true rfl) rfl (s_La_within (D := d) (by omega) N g8) (fun r9 μ9 hp => ?_)
              rw [hp.1, hp.2]
              clear hp r9 μ9
              cases h
              exact sm_ret_i (st := []) dX5_join_92 rfl ⟨rfl, rfl⟩
            · replace h := it_t g6 h
              refine sm_iconst dX5_join_80 ic_0 ?_
              refine sm_goto (tgt := 92) dX5_join_81 (by decide) ?_
              cases h
              exact sm_ret_i (st := []) dX5_join_92 rfl ⟨rfl, rfl⟩
          · replace h := it_f g5 h
            by_cases g9 : x1 = (-13)
            · replace h := it_t g9 h
              refine sm_tsw_at (tgt := 66) dX5_join_1 g9 (by decide) (by decide) trivial rfl (by decide) ?_
              refine sm_aload_n dX5_join_66 rfl rfl ?_
              refine sm_iload_n dX5_join_67 rfl rfl ?_
              refine sm_i2l dX5_join_68 ?_
              refine sm_iload_n dX5_join_69 rfl rfl ?_
              refine sm_i2l dX5_join_70 ?_
              refine sm_lmul dX5_join_71 ?_
              obtain ⟨t72, μ2z, g10, h⟩ := ob_some h
              refine sm_callV dX5_join_72 cv_X5_within ml_RX5_49 k_34 rfl rfl (by decide) (as := [av_l ((Int32.toInt64 x2) * (Int32.toInt64 x3))]) rfl (Nat.le_of_ble_eq_true rfl) rfl (s_La_within (D := d) (by omega) N g10) (fun r9 μ9 hp => ?_)
              rw [hp.1, hp.2]
              clear hp r9 μ9
              cases h
              exact sm_ret_i (st := []) dX5_join_75 rfl ⟨rfl, rfl⟩
            · replace h := it_f g9 h
              by_cases g11 : x1 = (-12)
              · replace h := it_t g11 h
                refine sm_tsw_at (tgt := 57) dX5_join_1 g11 (by decide) (by decide) trivial rfl (by decide) ?_
                refine sm_aload_n dX5_join_57 rfl rfl ?_
                refine sm_iload_n dX5_join_58 rfl rfl ?_
                refine sm_iload_n dX5_join_59 rfl rfl ?_
                refine sm_isub dX5_join_60 ?_
                refine sm_i2l dX5_join_61 ?_
                obtain ⟨t62, μ3z, g12, h⟩ := ob_some h
                refine sm_callV dX5_join_62 cv_X5_within ml_RX5_49 k_34 rfl rfl (by decide) (as := [av_l (Int32.toInt64 (x2 - x3))]) rfl (Nat.le_of_ble_eq_true rfl) rfl (s_La_within (D := d) (by omega) N g12) (fun r9 μ9 hp => ?_)
                rw [hp.1, hp.2]
                clear hp r9 μ9
                cases h
                exact sm_ret_i (st := []) dX5_join_65 rfl ⟨rfl, rfl⟩
              · replace h := it_f g11 h
                by_cases g13 : x1 = (-11)
                · replace h := it_t g13 h
                  refine sm_tsw_at (tgt := 48) dX5_join_1 g13 (by decide) (by decide) trivial rfl (by decide) ?_
                  refine sm_aload_n dX5_join_48 rfl rfl ?_
                  refine sm_iload_n dX5_join_49 rfl rfl ?_
                  refine sm_iload_n dX5_join_50 rfl rfl ?_
                  refine sm_iadd dX5_join_51 ?_
                  refine sm_i2l dX5_join_52 ?_
                  obtain ⟨t53, μ4z, g14, h⟩ := ob_some h
                  refine sm_callV dX5_join_53 cv_X5_within ml_RX5_49 k_34 rfl rfl (by decide) (as := [av_l (Int32.toInt64 (x2 + x3))]) rfl (Nat.le_of_ble_eq_true rfl) rfl (s_La_within (D := d) (by omega) N g14) (fun r9 μ9 hp => ?_)
                  rw [hp.1, hp.2]
                  clear hp r9 μ9
                  cases h
                  exact sm_ret_i (st := []) dX5_join_56 rfl ⟨rfl, rfl⟩
                · replace h := it_f g13 h
                  have eg1 : Int32.toInt x1 ≠ -18 := fun q => g1 (Int32.toInt_inj.mp (q.trans (by decide)))
                  have eg2 : Int32.toInt x1 ≠ -17 := fun q => g2 (Int32.toInt_inj.mp (q.trans (by decide)))
                  have eg3 : Int32.toInt x1 ≠ -16 := fun q => g3 (Int32.toInt_inj.mp (q.trans (by decide)))
                  have eg4 : Int32.toInt x1 ≠ -15 := fun q => g4 (Int32.toInt_inj.mp (q.trans (by decide)))
                  have eg5 : Int32.toInt x1 ≠ -14 := fun q => g5 (Int32.toInt_inj.mp (q.trans (by decide)))
                  have eg9 : Int32.toInt x1 ≠ -13 := fun q => g9 (Int32.toInt_inj.mp (q.trans (by decide)))
                  have eg11 : Int32.toInt x1 ≠ -12 := fun q => g11 (Int32.toInt_inj.mp (q.trans (by decide)))
                  have eg13 : Int32.toInt x1 ≠ -11 := fun q => g13 (Int32.toInt_inj.mp (q.trans (by decide)))
                  refine sm_tsw_out (tgt := 130) dX5_join_1 (by omega) (by decide) ?_
                  refine sm_iload_n dX5_join_130 rfl rfl ?_
                  refine sm_iload_n dX5_join_131 rfl rfl ?_
                  refine sm_ior dX5_join_132 ?_
                  cases h
                  exact sm_ret_i (st := []) dX5_join_133 rfl ⟨rfl, rfl⟩
set_option maxRecDepth 100000 in
set_option maxHeartbeats 4000000 in
theorem s_La_worth_B135 {D : Nat} (hD : 3 ≤ D) (N : Nat) {r : Int32} {μr : MM} {k34 : Nat → Int32 → Int32 → MM → Option (Int32 × MM)} (hk34 : ∀ (r1 : Nat) (x2 : Int32) (x3 : Int32) (μ : MM), sh_k r1 = 20 → sh_n r1 = 240 → k34 r1 x2 x3 μ = some (r, μr) → Sm D mX5_worth 34 [some (av_r 34), some (av_r r1), some (av_i x2), some (av_i x3), none] [] μ (po_i r μr)) (r1 : Nat) (x2 : Int32) (x3 : Int32) (s1 : Int32) (s2 : Int32) (μ : MM) (hk_r1 : sh_k r1 = 20) (hn_r1 : sh_n r1 = 240) (h : f_La_worth_B135 N k34 r1 x2 x3 s1 s2 μ = some (r, μr)) : Sm D mX5_worth 135 [some (av_r 34), some (av_r r1), some (av_i x2), some (av_i x3), none] [av_i s2, av_i s1, av_r 42] μ (po_i r μr) := by
  obtain ⟨d, rfl⟩ : ∃ d, D = d + 1 := ⟨D - 1, by omega⟩
  unfold f_La_worth_B135 at h
  obtain ⟨g22, h⟩ := gd_some h
  refine sm_iast (j := (Int32.toNatClampNeg s1)) dX5_worth_135 k_42 (in_sz n_42 g22) rfl ?_
  replace h := wr_some h
  refine sm_iinc dX5_worth_136 rfl (congrArg (HAdd.hAdd x2) ic_1) (Nat.le_of_ble_eq_true rfl) (pv_r rfl) ?_
  refine sm_goto (tgt := 215) dX5_worth_139 (by decide) ?_
  refine sm_iinc dX5_worth_215 rfl (congrArg (HAdd.hAdd x3) ic_1) (Nat.le_of_ble_eq_true rfl) (pv_i rfl) ?_
  refine sm_goto (tgt := 34) dX5_worth_218 (by decide) ?_
  exact Sm_weak (le_s rfl (le_s rfl (le_s rfl (le_s rfl (le_n le_0))))) (hk34 r1 (x2 + 1) (x3 + 1) (mm_I μ 42 (Int32.toNatClampNeg s1) s2) hk_r1 hn_r1 h)
set_option maxRecDepth 100000 in
set_option maxHeartbeats 4000000 in
theorem s_La_worth_L34 {D : Nat} (hD : 3 ≤ D) (N : Nat) {r : Int32} {μr : MM} : ∀ (n : Nat) (r1 : Nat) (x2 : Int32) (x3 : Int32) (μ : MM), sh_k r1 = 20 → sh_n r1 = 240 → f_La_worth_L34 N n r1 x2 x3 μ = some (r, μr) → Sm D mX5_worth 34 [some (av_r 34), some (av_r r1), some (av_i x2), some (av_i x3), none] [] μ (po_i r μr) := by
  obtain ⟨d, rfl⟩ : ∃ d, D = d + 1 := ⟨D - 1, by omega⟩
  intro n
  induction n with
  | zero => intro r1 x2 x3 μ hk_r1 hn_r1 h; cases (show none = some (r, μr) from h)
  | succ n ih =>
    intro r1 x2 x3 μ hk_r1 hn_r1 h
    rw [f_La_worth_L34] at h
    refine sm_iload_n dX5_worth_34 rfl rfl ?_
    refine sm_aload_n dX5_worth_35 rfl rfl ?_
    refine sm_getR dX5_worth_36 fg_RX5_29 k_34 (rf_5_4 k_34) ?_
    refine sm_aload_n dX5_worth_39 rfl rfl ?_
    refine sm_getI dX5_worth_40 fg_RX5_15 k_34 ?_
    obtain ⟨g4, h⟩ := gd_some h
    refine sm_iald (j := (Int32.toNatClampNeg (μ.1 34 1))) dX5_worth_43 k_41 (in_sz n_41 g4) rfl ?_
    refine sm_icmp_ge (tgt := 221) dX5_worth_44 (by decide) (fun g5 => ?_) (fun g5 => ?_)
    · replace h := it_t g5 h
      refine sm_iconst dX5_worth_221 ic_0 ?_
      cases h
      exact sm_ret_i (st := []) dX5_worth_222 rfl ⟨rfl, rfl⟩
    · replace h := it_f g5 h
      refine sm_aload_n dX5_worth_47 rfl rfl ?_
      refine sm_iload_n dX5_worth_48 rfl rfl ?_
      obtain ⟨g6, h⟩ := gd_some h
      refine sm_iald (j := (Int32.toNatClampNeg x3)) dX5_worth_49 hk_r1 (in_sz hn_r1 g6) rfl ?_
      refine sm_istore dX5_worth_50 (Nat.le_of_ble_eq_true rfl) (pv_i rfl) ?_
      refine sm_iload dX5_worth_52 rfl ?_
      refine sm_bipush dX5_worth_54 bp_m22 ?_
      refine sm_icmp_ne (tgt := 66) dX5_worth_56 (by decide) (fun g7 => ?_) (fun g7 => ?_)
      · replace h := it_f g7 h
        refine sm_iload dX5_worth_66 rfl ?_
        refine sm_bipush dX5_worth_68 bp_m21 ?_
        refine sm_icmp_ne (tgt := 93) dX5_worth_70 (by decide) (fun g8 => ?_) (fun g8 => ?_)
        · replace h := it_f g8 h
          refine sm_iload dX5_worth_93 rfl ?_
          refine sm_bipush dX5_worth_95 bp_m6 ?_
          refine sm_icmp_lt (tgt := 142) dX5_worth_97 (by decide) (fun g9 => ?_) (fun g9 => ?_)
          · replace h := it_t g9 h
            refine sm_iload dX5_worth_142 rfl ?_
            refine sm_bipush dX5_worth_144 bp_m20 ?_
            refine sm_icmp_ne (tgt := 177) dX5_worth_146 (by decide) (fun g10 => ?_) (fun g10 => ?_)
            · replace h := it_f g10 h
              refine sm_iload_n dX5_worth_177 rfl rfl ?_
              refine sm_iconst dX5_worth_178 ic_2 ?_
              refine sm_icmp_ge (tgt := 184) dX5_worth_179 (by decide) (fun g11 => ?_) (fun g11 => ?_)
              · replace h := it_t g11 h
                refine sm_iinc dX5_worth_184 rfl (congrArg (HAdd.hAdd x2) ic_m1) (Nat.le_of_ble_eq_true rfl) (pv_r rfl) ?_
                refine sm_aload_n dX5_worth_187 rfl rfl ?_
                refine sm_getR dX5_worth_188 fg_RX5_32 k_34 (rf_5_5 k_34) ?_
                refine sm_iload_n dX5_worth_191 rfl rfl ?_
                refine sm_iconst dX5_worth_192 ic_1 ?_
                refine sm_isub dX5_worth_193 ?_
                refine sm_aload_n dX5_worth_194 rfl rfl ?_
                refine sm_iload dX5_worth_195 rfl ?_
                refine sm_aload_n dX5_worth_197 rfl rfl ?_
                refine sm_getR dX5_worth_198 fg_RX5_32 k_34 (rf_5_5 k_34) ?_
                refine sm_iload_n dX5_worth_201 rfl rfl ?_
                refine sm_iconst dX5_worth_202 ic_1 ?_
                refine sm_isub dX5_worth_203 ?_
                obtain ⟨g12, h⟩ := gd_some h
                refine sm_iald (j := (Int32.toNatClampNeg ((x2 + (-1)) - 1))) dX5_worth_204 k_42 (in_sz n_42 g12) rfl ?_
                refine sm_aload_n dX5_worth_205 rfl rfl ?_
                refine sm_getR dX5_worth_206 fg_RX5_32 k_34 (rf_5_5 k_34) ?_
                refine sm_iload_n dX5_worth_209 rfl rfl ?_
                obtain ⟨g13, h⟩ := gd_some h
                refine sm_iald (j := (Int32.toNatClampNeg (x2 + (-1)))) dX5_worth_210 k_42 (in_sz n_42 g13) rfl ?_
                obtain ⟨t211, μ1z, g14, h⟩ := ob_some h
                refine sm_callV dX5_worth_211 cv_X5_join ml_RX5_45 k_34 rfl rfl (by decide) (as := [av_i (μ.1 r1 (Int32.toNatClampNeg x3)), av_i (μ.1 42 (Int32.toNatClampNeg ((x2 + (-1)) - 1))), av_i (μ.1 42 (Int32.toNatClampNeg (x2 + (-1))))]) rfl (Nat.le_of_ble_eq_true rfl) rfl (s_La_join (D := d) (by omega) N g14) (fun r9 μ9 hp => ?_)
                rw [hp.1, hp.2]
                clear hp r9 μ9
                obtain ⟨g15, h⟩ := gd_some h
                refine sm_iast (j := (Int32.toNatClampNeg ((x2 + (-1)) - 1))) dX5_worth_214 k_42 (in_sz n_42 g15) rfl ?_
                replace h := wr_some h
                refine sm_iinc dX5_worth_215 rfl (congrArg (HAdd.hAdd x3) ic_1) (Nat.le_of_ble_eq_true rfl) (pv_i rfl) ?_
                refine sm_goto (tgt := 34) dX5_worth_218 (by decide) ?_
                exact Sm_weak (le_s rfl (le_s rfl (le_s rfl (le_s rfl (le_n le_0))))) (ih r1 (x2 + (-1)) (x3 + 1) (mm_I μ1z 42 (Int32.toNatClampNeg ((x2 + (-1)) - 1)) t211) hk_r1 hn_r1 h)
              · replace h := it_f g11 h
                refine sm_iconst dX5_worth_182 ic_0 ?_
                cases h
                exact sm_ret_i (st := []) dX5_worth_183 rfl ⟨rfl, rfl⟩
            · replace h := it_t g10 h
              refine sm_iload_n dX5_worth_149 rfl rfl ?_
              refine sm_iconst dX5_worth_150 ic_1 ?_
              refine sm_icmp_ge (tgt := 156) dX5_worth_151 (by decide) (fun g16 => ?_) (fun g16 => ?_)
              · replace h := it_t g16 h
                refine sm_aload_n dX5_worth_156 rfl rfl ?_
                refine sm_getR dX5_worth_157 fg_RX5_32 k_34 (rf_5_5 k_34) ?_
                refine sm_iload_n dX5_worth_160 rfl rfl ?_
                refine sm_iconst dX5_worth_161 ic_1 ?_
                refine sm_isub dX5_worth_162 ?_
                refine sm_iconst dX5_worth_163 ic_1 ?_
                refine sm_aload_n dX5_worth_164 rfl rfl ?_
                refine sm_getR dX5_worth_165 fg_RX5_32 k_34 (rf_5_5 k_34) ?_
                refine sm_iload_n dX5_worth_168 rfl rfl ?_
                refine sm_iconst dX5_worth_169 ic_1 ?_
                refine sm_isub dX5_worth_170 ?_
                obtain ⟨g17, h⟩ := gd_some h
                refine sm_iald (j := (Int32.toNatClampNeg (x2 - 1))) dX5_worth_171 k_42 (in_sz n_42 g17) rfl ?_
                refine sm_isub dX5_worth_172 ?_
                obtain ⟨g18, h⟩ := gd_some h
                refine sm_iast (j := (Int32.toNatClampNeg (x2 - 1))) dX5_worth_173 k_42 (in_sz n_42 g18) rfl ?_
                replace h := wr_some h
                refine sm_goto (tgt := 215) dX5_worth_174 (by decide) ?_
                refine sm_iinc dX5_worth_215 rfl (congrArg (HAdd.hAdd x3) ic_1) (Nat.le_of_ble_eq_true rfl) (pv_i rfl) ?_
                refine sm_goto (tgt := 34) dX5_worth_218 (by decide) ?_
                exact Sm_weak (le_s rfl (le_s rfl (le_s rfl (le_s rfl (le_n le_0))))) (ih r1 x2 (x3 + 1) (mm_I μ 42 (Int32.toNatClampNeg (x2 - 1)) (1 - (μ.1 42 (Int32.toNatClampNeg (x2 - 1))))) hk_r1 hn_r1 h)
              · replace h := it_f g16 h
                refine sm_iconst dX5_worth_154 ic_0 ?_
                cases h
                exact sm_ret_i (st := []) dX5_worth_155 rfl ⟨rfl, rfl⟩
          · replace h := it_f g9 h
            refine sm_iload_n dX5_worth_100 rfl rfl ?_
            refine sm_aload_n dX5_worth_101 rfl rfl ?_
            refine sm_getR dX5_worth_102 fg_RX5_32 k_34 (rf_5_5 k_34) ?_
            refine sm_alen dX5_worth_105 k_42 (by decide) (by decide) (al_eq (n_42) ?_)
            refine sm_icmp_lt (tgt := 111) dX5_worth_106 (by decide) (fun g19 => ?_) (fun g19 => ?_)
            · replace h := it_t g19 h
              refine sm_aload_n dX5_worth_111 rfl rfl ?_
              refine sm_getR dX5_worth_112 fg_RX5_32 k_34 (rf_5_5 k_34) ?_
              refine sm_iload_n dX5_worth_115 rfl rfl ?_
              refine sm_iload dX5_worth_116 rfl ?_
              refine sm_if_lt (tgt := 126) dX5_worth_118 (by decide) (fun g20 => ?_) (fun g20 => ?_)
              · replace h := it_t g20 h
                refine sm_aload_n dX5_worth_126 rfl rfl ?_
                refine sm_getR dX5_worth_127 fg_RX5_18 k_34 (rf_5_2 k_34) ?_
                refine sm_iconst dX5_worth_130 ic_m1 ?_
                refine sm_iload dX5_worth_131 rfl ?_
                refine sm_isub dX5_worth_133 ?_
                obtain ⟨g21, h⟩ := gd_some h
                refine sm_iald (j := (Int32.toNatClampNeg ((-1) - (μ.1 r1 (Int32.toNatClampNeg x3))))) dX5_worth_134 k_35 (in_sz n_35 g21) rfl ?_
                exact Sm_weak (le_s rfl (le_s rfl (le_s rfl (le_s rfl (le_n le_0))))) (s_La_worth_B135 hD N ih r1 x2 x3 x2 (μ.1 35 (Int32.toNatClampNeg ((-1) - (μ.1 r1 (Int32.toNatClampNeg x3))))) μ hk_r1 hn_r1 h)
              · replace h := it_f g20 h
                refine sm_iload dX5_worth_121 rfl ?_
                refine sm_goto (tgt := 135) dX5_worth_123 (by decide) ?_
                exact Sm_weak (le_s rfl (le_s rfl (le_s rfl (le_s rfl (le_n le_0))))) (s_La_worth_B135 hD N ih r1 x2 x3 x2 (μ.1 r1 (Int32.toNatClampNeg x3)) μ hk_r1 hn_r1 h)
            · replace h := it_f g19 h
              refine sm_iconst dX5_worth_109 ic_0 ?_
              cases h
              exact sm_ret_i (st := []) dX5_worth_110 rfl ⟨rfl, rfl⟩
        · replace h := it_t g8 h
          refine sm_iconst dX5_worth_73 ic_0 ?_
          refine sm_istore_n dX5_worth_74 rfl (Nat.le_of_ble_eq_true rfl) (pv_r rfl) ?_
          refine sm_aload_n dX5_worth_75 rfl rfl ?_
          refine sm_getR dX5_worth_76 fg_RX5_32 k_34 (rf_5_5 k_34) ?_
          refine sm_iconst dX5_worth_79 ic_0 ?_
          refine sm_iald (j := 0) dX5_worth_80 k_42 (in_sz n_42 (by decide)) (by decide) ?_
          refine sm_if_ne (tgt := 215) dX5_worth_81 (by decide) (fun g24 => ?_) (fun g24 => ?_)
          · replace h := it_f g24 h
            refine sm_iinc dX5_worth_215 rfl (congrArg (HAdd.hAdd x3) ic_1) (Nat.le_of_ble_eq_true rfl) (pv_i rfl) ?_
            refine sm_goto (tgt := 34) dX5_worth_218 (by decide) ?_
            exact Sm_weak (le_s rfl (le_s rfl (le_s rfl (le_s rfl (le_n le_0))))) (ih r1 0 (x3 + 1) μ hk_r1 hn_r1 h)
          · replace h := it_t g24 h
            refine sm_aload_n dX5_worth_84 rfl rfl ?_
            refine sm_iload_n dX5_worth_85 rfl rfl ?_
            obtain ⟨t86, μ5z, g25, h⟩ := ob_some h
            refine sm_callV dX5_worth_86 cv_X5_clauseEnd ml_RX5_41 k_34 rfl rfl (by decide) (as := [av_i x3]) rfl (Nat.le_of_ble_eq_true rfl) rfl (s_La_clauseEnd (D := d) (by omega) N g25) (fun r9 μ9 hp => ?_)
            rw [hp.1, hp.2]
            clear hp r9 μ9
            refine sm_istore_n dX5_worth_89 rfl (Nat.le_of_ble_eq_true rfl) (pv_i rfl) ?_
            refine sm_goto (tgt := 215) dX5_worth_90 (by decide) ?_
            refine sm_iinc dX5_worth_215 rfl (congrArg (HAdd.hAdd t86) ic_1) (Nat.le_of_ble_eq_true rfl) (pv_i rfl) ?_
            refine sm_goto (tgt := 34) dX5_worth_218 (by decide) ?_
            exact Sm_weak (le_s rfl (le_s rfl (le_s rfl (le_s rfl (le_n le_0))))) (ih r1 0 (t86 + 1) μ5z hk_r1 hn_r1 h)
      · replace h := it_t g7 h
        refine sm_aload_n dX5_worth_59 rfl rfl ?_
        refine sm_getR dX5_worth_60 fg_RX5_32 k_34 (rf_5_5 k_34) ?_
        refine sm_iconst dX5_worth_63 ic_0 ?_
        refine sm_iald (j := 0) dX5_worth_64 k_42 (in_sz n_42 (by decide)) (by decide) ?_
        cases h
        exact sm_ret_i (st := []) dX5_worth_65 rfl ⟨rfl, rfl⟩
set_option maxRecDepth 100000 in
set_option maxHeartbeats 4000000 in
theorem s_La_worth {D : Nat} (hD : 3 ≤ D) (N : Nat) {μ : MM} {r : Int32} {μr : MM} (h : f_La_worth N μ = some (r, μr)) : Cl D mX5_worth [av_r 34] μ (po_i r μr) := by
  obtain ⟨d, rfl⟩ : ∃ d, D = d + 1 := ⟨D - 1, by omega⟩
  refine Cl_of pn_X5 (Nat.le_of_ble_eq_true rfl) ?_
  show Sm (d + 1) mX5_worth 0 [some (av_r 34), none, none, none, none] [] μ (po_i r μr)
  unfold f_La_worth at h
  refine sm_aload_n dX5_worth_0 rfl rfl ?_
  refine sm_getI dX5_worth_1 fg_RX5_15 k_34 ?_
  refine sm_if_lt (tgt := 18) dX5_worth_4 (by decide) (fun g1 => ?_) (fun g1 => ?_)
  · replace h := it_t g1 h
    refine sm_iconst dX5_worth_18 ic_0 ?_
    cases h
    exact sm_ret_i (st := []) dX5_worth_19 rfl ⟨rfl, rfl⟩
  · replace h := it_f g1 h
    refine sm_aload_n dX5_worth_7 rfl rfl ?_
    refine sm_getI dX5_worth_8 fg_RX5_15 k_34 ?_
    refine sm_aload_n dX5_worth_11 rfl rfl ?_
    refine sm_getI dX5_worth_12 fg_RX5_9 k_34 ?_
    refine sm_icmp_lt (tgt := 20) dX5_worth_15 (by decide) (fun g2 => ?_) (fun g2 => ?_)
    · replace h := it_t g2 h
      refine sm_aload_n dX5_worth_20 rfl rfl ?_
      refine sm_getR dX5_worth_21 fg_RX5_26 k_34 (rf_5_3 k_34) ?_
      refine sm_aload_n dX5_worth_24 rfl rfl ?_
      refine sm_getI dX5_worth_25 fg_RX5_15 k_34 ?_
      obtain ⟨g3, h⟩ := gd_some h
      refine sm_aaldI dX5_worth_28 k_36 (in_sz n_36 g3) (rf_25 k_36) ?_
      refine sm_astore_n dX5_worth_29 rfl (Nat.le_of_ble_eq_true rfl) (pv_r rfl) ?_
      refine sm_iconst dX5_worth_30 ic_0 ?_
      refine sm_istore_n dX5_worth_31 rfl (Nat.le_of_ble_eq_true rfl) (pv_r rfl) ?_
      refine sm_iconst dX5_worth_32 ic_0 ?_
      refine sm_istore_n dX5_worth_33 rfl (Nat.le_of_ble_eq_true rfl) (pv_i rfl) ?_
      exact Sm_weak (le_s rfl (le_s rfl (le_s rfl (le_s rfl (le_n le_0))))) (s_La_worth_L34 hD N N (37 + (Int32.toNatClampNeg (μ.1 34 1))) 0 0 μ (kd_25 (in_vp g3)) (nd_25 (in_vp g3)) h)
    · replace h := it_f g2 h
      refine sm_iconst dX5_worth_18 ic_0 ?_
      cases h
      exact sm_ret_i (st := []) dX5_worth_19 rfl ⟨rfl, rfl⟩
set_option maxRecDepth 100000 in
set_option maxHeartbeats 4000000 in
theorem s_Ag_inkAfter_B151 {D : Nat} (hD : 4 ≤ D) (N : Nat) {r : Int32} {μr : MM} (x3 : Int32) (x5 : Int32) (μ : MM) (h : f_Ag_inkAfter_B151 N x3 x5 μ = some (r, μr)) : Sm D mX0_inkAfter 151 [none, none, none, some (av_i x3), none, some (av_i x5)] [] μ (po_i r μr) := by
  obtain ⟨d, rfl⟩ : ∃ d, D = d + 1 := ⟨D - 1, by omega⟩
  unfold f_Ag_inkAfter_B151 at h
  refine sm_iconst dX0_inkAfter_151 ic_0 ?_
  refine sm_iload_n dX0_inkAfter_152 rfl rfl ?_
  refine sm_iconst dX0_inkAfter_153 ic_0 ?_
  refine sm_bipush dX0_inkAfter_154 bp_9 ?_
  refine sm_iload dX0_inkAfter_156 rfl ?_
  refine sm_min dX0_inkAfter_158 ml_RX0_91 (Nat.le_of_ble_eq_true rfl) ?_
  refine sm_max dX0_inkAfter_161 ml_RX0_97 (Nat.le_of_ble_eq_true rfl) ?_
  refine sm_isub dX0_inkAfter_164 ?_
  refine sm_max dX0_inkAfter_165 ml_RX0_97 (Nat.le_of_ble_eq_true rfl) ?_
  cases h
  exact sm_ret_i (st := []) dX0_inkAfter_168 rfl ⟨rfl, rfl⟩
set_option maxRecDepth 100000 in
set_option maxHeartbeats 4000000 in
theorem s_Ag_inkAfter_B32 {D : Nat} (hD : 4 ≤ D) (N : Nat) {r : Int32} {μr : MM} (x1 : Int32) (x2 : Int32) (x3 : Int32) (x4 : Int32) (s0 : Int32) (μ : MM) (h : f_Ag_inkAfter_B32 N x1 x2 x3 x4 s0 μ = some (r, μr)) : Sm D mX0_inkAfter 32 [some (av_r 48), some (av_i x1), some (av_i x2), some (av_i x3), some (av_i x4), none] [av_i s0] μ (po_i r μr) := by
  obtain ⟨d, rfl⟩ : ∃ d, D = d + 1 := ⟨D - 1, by omega⟩
  unfold f_Ag_inkAfter_B32 at h
  refine sm_istore dX0_inkAfter_32 (Nat.le_of_ble_eq_true rfl) (pv_i rfl) ?_
  refine sm_aload_n dX0_inkAfter_34 rfl rfl ?_
  refine sm_getR dX0_inkAfter_35 fg_RX0_22 k_48 (rf_0_2 k_48) ?_
  refine sm_getI dX0_inkAfter_38 fg_RX0_77 k_34 ?_
  refine sm_iconst dX0_inkAfter_41 ic_m1 ?_
  refine sm_icmp_eq (tgt := 151) dX0_inkAfter_42 (by decide) (fun g3 => ?_) (fun g3 => ?_)
  · replace h := it_t g3 h
    exact Sm_weak (le_n (le_n (le_n (le_s rfl (le_n (le_s rfl le_0)))))) (s_Ag_inkAfter_B151 hD N x3 s0 μ h)
  · replace h := it_f g3 h
    refine sm_aload_n dX0_inkAfter_45 rfl rfl ?_
    refine sm_getR dX0_inkAfter_46 fg_RX0_22 k_48 (rf_0_2 k_48) ?_
    refine sm_getR dX0_inkAfter_49 fg_RX0_82 k_34 (rf_5_2 k_34) ?_
    refine sm_iconst dX0_inkAfter_52 ic_0 ?_
    refine sm_iload_n dX0_inkAfter_53 rfl rfl ?_
    refine sm_iast (j := 0) dX0_inkAfter_54 k_35 (in_sz n_35 (by decide)) (by decide) ?_
    replace h := wr_some h
    refine sm_aload_n dX0_inkAfter_55 rfl rfl ?_
    refine sm_getR dX0_inkAfter_56 fg_RX0_22 k_48 (rf_0_2 k_48) ?_
    refine sm_getR dX0_inkAfter_59 fg_RX0_82 k_34 (rf_5_2 k_34) ?_
    refine sm_iconst dX0_inkAfter_62 ic_1 ?_
    refine sm_aload_n dX0_inkAfter_63 rfl rfl ?_
    refine sm_getR dX0_inkAfter_64 fg_RX0_18 k_48 (rf_0_1 k_48) ?_
    refine sm_getR dX0_inkAfter_67 fg_RX0_74 k_23 (rf_1_4 k_23) ?_
    refine sm_iload_n dX0_inkAfter_70 rfl rfl ?_
    obtain ⟨g5, h⟩ := gd_some h
    refine sm_iald (j := (Int32.toNatClampNeg x1)) dX0_inkAfter_71 k_26 (in_sz n_26 g5) rfl ?_
    refine sm_iast (j := 1) dX0_inkAfter_72 k_35 (in_sz n_35 (by decide)) (by decide) ?_
    replace h := wr_some h
    refine sm_aload_n dX0_inkAfter_73 rfl rfl ?_
    refine sm_getR dX0_inkAfter_74 fg_RX0_22 k_48 (rf_0_2 k_48) ?_
    refine sm_getR dX0_inkAfter_77 fg_RX0_82 k_34 (rf_5_2 k_34) ?_
    refine sm_iconst dX0_inkAfter_80 ic_2 ?_
    refine sm_aload_n dX0_inkAfter_81 rfl rfl ?_
    refine sm_getR dX0_inkAfter_82 fg_RX0_18 k_48 (rf_0_1 k_48) ?_
    refine sm_getR dX0_inkAfter_85 fg_RX0_26 k_23 (rf_1_5 k_23) ?_
    refine sm_getI dX0_inkAfter_88 fg_RX0_71 k_27 ?_
    refine sm_iast (j := 2) dX0_inkAfter_91 k_35 (in_sz n_35 (by decide)) (by decide) ?_
    replace h := wr_some h
    refine sm_aload_n dX0_inkAfter_92 rfl rfl ?_
    refine sm_getR dX0_inkAfter_93 fg_RX0_22 k_48 (rf_0_2 k_48) ?_
    refine sm_getR dX0_inkAfter_96 fg_RX0_82 k_34 (rf_5_2 k_34) ?_
    refine sm_iconst dX0_inkAfter_99 ic_3 ?_
    refine sm_iload_n dX0_inkAfter_100 rfl rfl ?_
    refine sm_iast (j := 3) dX0_inkAfter_101 k_35 (in_sz n_35 (by decide)) (by decide) ?_
    replace h := wr_some h
    refine sm_aload_n dX0_inkAfter_102 rfl rfl ?_
    refine sm_getR dX0_inkAfter_103 fg_RX0_22 k_48 (rf_0_2 k_48) ?_
    refine sm_getR dX0_inkAfter_106 fg_RX0_82 k_34 (rf_5_2 k_34) ?_
    refine sm_iconst dX0_inkAfter_109 ic_4 ?_
    refine sm_aload_n dX0_inkAfter_110 rfl rfl ?_
    refine sm_getR dX0_inkAfter_111 fg_RX0_18 k_48 (rf_0_1 k_48) ?_
    refine sm_getR dX0_inkAfter_114 fg_RX0_26 k_23 (rf_1_5 k_23) ?_
    refine sm_getR dX0_inkAfter_117 fg_RX0_55 k_27 (rf_7_0 k_27) ?_
    refine sm_getR dX0_inkAfter_120 fg_RX0_85 k_28 (rf_10_1 k_28) ?_
    refine sm_iload_n dX0_inkAfter_123 rfl rfl ?_
    refine sm_bipush dX0_inkAfter_124 bp_6 ?_
    refine sm_imul dX0_inkAfter_126 ?_
    refine sm_iload_n dX0_inkAfter_127 rfl rfl ?_
    refine sm_iadd dX0_inkAfter_128 ?_
    obtain ⟨g9, h⟩ := gd_some h
    refine sm_iald (j := (Int32.toNatClampNeg ((x1 * 6) + x2))) dX0_inkAfter_129 k_30 (in_sz n_30 g9) rfl ?_
    refine sm_iast (j := 4) dX0_inkAfter_130 k_35 (in_sz n_35 (by decide)) (by decide) ?_
    replace h := wr_some h
    refine sm_aload_n dX0_inkAfter_131 rfl rfl ?_
    refine sm_getR dX0_inkAfter_132 fg_RX0_22 k_48 (rf_0_2 k_48) ?_
    refine sm_getR dX0_inkAfter_135 fg_RX0_82 k_34 (rf_5_2 k_34) ?_
    refine sm_iconst dX0_inkAfter_138 ic_5 ?_
    refine sm_iload dX0_inkAfter_139 rfl ?_
    refine sm_iast (j := 5) dX0_inkAfter_141 k_35 (in_sz n_35 (by decide)) (by decide) ?_
    replace h := wr_some h
    refine sm_aload_n dX0_inkAfter_142 rfl rfl ?_
    refine sm_getR dX0_inkAfter_143 fg_RX0_22 k_48 (rf_0_2 k_48) ?_
    obtain ⟨t146, μ7z, g12, h⟩ := ob_some h
    refine sm_callV dX0_inkAfter_146 cv_X5_worth ml_RX0_88 k_34 rfl rfl (by decide) (as := []) rfl (Nat.le_of_ble_eq_true rfl) rfl (s_La_worth (D := d) (by omega) N g12) (fun r9 μ9 hp => ?_)
    rw [hp.1, hp.2]
    clear hp r9 μ9
    refine sm_istore dX0_inkAfter_149 (Nat.le_of_ble_eq_true rfl) (pv_i rfl) ?_
    exact Sm_weak (le_n (le_n (le_n (le_s rfl (le_n (le_s rfl le_0)))))) (s_Ag_inkAfter_B151 hD N x3 t146 μ7z h)
set_option maxRecDepth 100000 in
set_option maxHeartbeats 4000000 in
theorem s_Ag_inkAfter {D : Nat} (hD : 4 ≤ D) (N : Nat) {x1 : Int32} {x2 : Int32} {x3 : Int32} {x4 : Int32} {μ : MM} {r : Int32} {μr : MM} (h : f_Ag_inkAfter N x1 x2 x3 x4 μ = some (r, μr)) : Cl D mX0_inkAfter [av_r 48, av_i x1, av_i x2, av_i x3, av_i x4] μ (po_i r μr) := by
  obtain ⟨d, rfl⟩ : ∃ d, D = d + 1 := ⟨D - 1, by omega⟩
  refine Cl_of pn_X0 (Nat.le_of_ble_eq_true rfl) ?_
  show Sm (d + 1) mX0_inkAfter 0 [some (av_r 48), some (av_i x1), some (av_i x2), some (av_i x3), some (av_i x4), none] [] μ (po_i r μr)
  unfold f_Ag_inkAfter at h
  refine sm_iload_n dX0_inkAfter_0 rfl rfl ?_
  refine sm_if_gt (tgt := 6) dX0_inkAfter_1 (by decide) (fun g1 => ?_) (fun g1 => ?_)
  · replace h := it_t g1 h
    refine sm_aload_n dX0_inkAfter_6 rfl rfl ?_
    refine sm_getR dX0_inkAfter_7 fg_RX0_18 k_48 (rf_0_1 k_48) ?_
    refine sm_getR dX0_inkAfter_10 fg_RX0_26 k_23 (rf_1_5 k_23) ?_
    refine sm_getI dX0_inkAfter_13 fg_RX0_71 k_27 ?_
    refine sm_if_le (tgt := 31) dX0_inkAfter_16 (by decide) (fun g2 => ?_) (fun g2 => ?_)
    · replace h := it_t g2 h
      refine sm_iconst dX0_inkAfter_31 ic_0 ?_
      exact Sm_weak (le_s rfl (le_s rfl (le_s rfl (le_s rfl (le_s rfl (le_n le_0)))))) (s_Ag_inkAfter_B32 hD N x1 x2 x3 x4 0 μ h)
    · replace h := it_f g2 h
      refine sm_aload_n dX0_inkAfter_19 rfl rfl ?_
      refine sm_getR dX0_inkAfter_20 fg_RX0_18 k_48 (rf_0_1 k_48) ?_
      refine sm_getR dX0_inkAfter_23 fg_RX0_74 k_23 (rf_1_4 k_23) ?_
      refine sm_iload_n dX0_inkAfter_26 rfl rfl ?_
      obtain ⟨g13, h⟩ := gd_some h
      refine sm_iald (j := (Int32.toNatClampNeg x1)) dX0_inkAfter_27 k_26 (in_sz n_26 g13) rfl ?_
      refine sm_goto (tgt := 32) dX0_inkAfter_28 (by decide) ?_
      exact Sm_weak (le_s rfl (le_s rfl (le_s rfl (le_s rfl (le_s rfl (le_n le_0)))))) (s_Ag_inkAfter_B32 hD N x1 x2 x3 x4 (μ.1 26 (Int32.toNatClampNeg x1)) μ h)
  · replace h := it_f g1 h
    refine sm_iconst dX0_inkAfter_4 ic_0 ?_
    cases h
    exact sm_ret_i (st := []) dX0_inkAfter_5 rfl ⟨rfl, rfl⟩
set_option maxRecDepth 100000 in
set_option maxHeartbeats 4000000 in
theorem s_Ag_fadeCard_L13 {D : Nat} (hD : 5 ≤ D) (N : Nat) {μr : MM} : ∀ (n : Nat) (x1 : Int32) (x3 : Int32) (μ : MM), f_Ag_fadeCard_L13 N n x1 x3 μ = some μr → Sm D mX0_fadeCard 13 [some (av_r 48), some (av_i x1), some (av_r 28), some (av_i x3), none] [] μ (po_v μr) := by
  obtain ⟨d, rfl⟩ : ∃ d, D = d + 1 := ⟨D - 1, by omega⟩
  intro n
  induction n with
  | zero => intro x1 x3 μ h; cases (show none = some μr from h)
  | succ n ih =>
    intro x1 x3 μ h
    rw [f_Ag_fadeCard_L13] at h
    refine sm_iload_n dX0_fadeCard_13 rfl rfl ?_
    refine sm_aload_n dX0_fadeCard_14 rfl rfl ?_
    refine sm_getR dX0_fadeCard_15 fg_RX0_59 k_28 (rf_10_0 k_28) ?_
    refine sm_iload_n dX0_fadeCard_18 rfl rfl ?_
    obtain ⟨g1, h⟩ := gd_some h
    refine sm_iald (j := (Int32.toNatClampNeg x1)) dX0_fadeCard_19 k_29 (in_sz n_29 g1) rfl ?_
    refine sm_icmp_ge (tgt := 67) dX0_fadeCard_20 (by decide) (fun g2 => ?_) (fun g2 => ?_)
    · replace h := it_t g2 h
      cases h
      exact sm_ret_v (st := []) dX0_fadeCard_67 rfl ⟨rfl, rfl⟩
    · replace h := it_f g2 h
      refine sm_iload_n dX0_fadeCard_23 rfl rfl ?_
      refine sm_bipush dX0_fadeCard_24 bp_6 ?_
      refine sm_imul dX0_fadeCard_26 ?_
      refine sm_iload_n dX0_fadeCard_27 rfl rfl ?_
      refine sm_iadd dX0_fadeCard_28 ?_
      refine sm_istore dX0_fadeCard_29 (Nat.le_of_ble_eq_true rfl) (pv_i rfl) ?_
      refine sm_aload_n dX0_fadeCard_31 rfl rfl ?_
      refine sm_getR dX0_fadeCard_32 fg_RX0_64 k_28 (rf_10_3 k_28) ?_
      refine sm_iload dX0_fadeCard_35 rfl ?_
      refine sm_aload_n dX0_fadeCard_37 rfl rfl ?_
      refine sm_iload_n dX0_fadeCard_38 rfl rfl ?_
      refine sm_iload_n dX0_fadeCard_39 rfl rfl ?_
      refine sm_aload_n dX0_fadeCard_40 rfl rfl ?_
      refine sm_getR dX0_fadeCard_41 fg_RX0_64 k_28 (rf_10_3 k_28) ?_
      refine sm_iload dX0_fadeCard_44 rfl ?_
      obtain ⟨g3, h⟩ := gd_some h
      refine sm_iald (j := (Int32.toNatClampNeg ((x1 * 6) + x3))) dX0_fadeCard_46 k_32 (in_sz n_32 g3) rfl ?_
      refine sm_aload_n dX0_fadeCard_47 rfl rfl ?_
      refine sm_getR dX0_fadeCard_48 fg_RX0_18 k_48 (rf_0_1 k_48) ?_
      refine sm_getR dX0_fadeCard_51 fg_RX0_26 k_23 (rf_1_5 k_23) ?_
      refine sm_getI dX0_fadeCard_54 fg_RX0_44 k_27 ?_
      obtain ⟨t57, μ1z, g4, h⟩ := ob_some h
      refine sm_callV dX0_fadeCard_57 cv_X0_inkAfter ml_RX0_67 k_48 rfl rfl (by decide) (as := [av_i x1, av_i x3, av_i (μ.1 32 (Int32.toNatClampNeg ((x1 * 6) + x3))), av_i (μ.1 27 4)]) rfl (Nat.le_of_ble_eq_true rfl) rfl (s_Ag_inkAfter (D := d) (by omega) N g4) (fun r9 μ9 hp => ?_)
      rw [hp.1, hp.2]
      clear hp r9 μ9
      obtain ⟨g5, h⟩ := gd_some h
      refine sm_iast (j := (Int32.toNatClampNeg ((x1 * 6) + x3))) dX0_fadeCard_60 k_32 (in_sz n_32 g5) rfl ?_
      replace h := wr_some h
      refine sm_iinc dX0_fadeCard_61 rfl (congrArg (HAdd.hAdd x3) ic_1) (Nat.le_of_ble_eq_true rfl) (pv_r rfl) ?_
      refine sm_goto (tgt := 13) dX0_fadeCard_64 (by decide) ?_
      exact Sm_weak (le_s rfl (le_s rfl (le_s rfl (le_s rfl (le_n le_0))))) (ih x1 (x3 + 1) (mm_I μ1z 32 (Int32.toNatClampNeg ((x1 * 6) + x3)) t57) h)
set_option maxRecDepth 100000 in
set_option maxHeartbeats 4000000 in
theorem s_Ag_fadeCard {D : Nat} (hD : 5 ≤ D) (N : Nat) {x1 : Int32} {μ : MM} {μr : MM} (h : f_Ag_fadeCard N x1 μ = some μr) : Cl D mX0_fadeCard [av_r 48, av_i x1] μ (po_v μr) := by
  obtain ⟨d, rfl⟩ : ∃ d, D = d + 1 := ⟨D - 1, by omega⟩
  refine Cl_of pn_X0 (Nat.le_of_ble_eq_true rfl) ?_
  show Sm (d + 1) mX0_fadeCard 0 [some (av_r 48), some (av_i x1), none, none, none] [] μ (po_v μr)
  unfold f_Ag_fadeCard at h
  refine sm_aload_n dX0_fadeCard_0 rfl rfl ?_
  refine sm_getR dX0_fadeCard_1 fg_RX0_18 k_48 (rf_0_1 k_48) ?_
  refine sm_getR dX0_fadeCard_4 fg_RX0_26 k_23 (rf_1_5 k_23) ?_
  refine sm_getR dX0_fadeCard_7 fg_RX0_55 k_27 (rf_7_0 k_27) ?_
  refine sm_astore_n dX0_fadeCard_10 rfl (Nat.le_of_ble_eq_true rfl) (pv_i rfl) ?_
  refine sm_iconst dX0_fadeCard_11 ic_0 ?_
  refine sm_istore_n dX0_fadeCard_12 rfl (Nat.le_of_ble_eq_true rfl) (pv_r rfl) ?_
  exact Sm_weak (le_s rfl (le_s rfl (le_s rfl (le_s rfl (le_n le_0))))) (s_Ag_fadeCard_L13 hD N N x1 0 μ h)
set_option maxRecDepth 100000 in
set_option maxHeartbeats 4000000 in
theorem s_Co_isCard {D : Nat} (hD : 0 ≤ D) (N : Nat) {c : Nat} (hk_c : sh_k c = 1) {x1 : Int32} {μ : MM} {r : Int32} {μr : MM} (h : f_Co_isCard N c x1 μ = some (r, μr)) : Cl D mX1_isCard [av_r c, av_i x1] μ (po_i r μr) := by
  refine Cl_of pn_X1 (Nat.le_of_ble_eq_true rfl) ?_
  show Sm D mX1_isCard 0 [some (av_r c), some (av_i x1)] [] μ (po_i r μr)
  unfold f_Co_isCard at h
  refine sm_iload_n dX1_isCard_0 rfl rfl ?_
  refine sm_if_lt (tgt := 22) dX1_isCard_1 (by decide) (fun g1 => ?_) (fun g1 => ?_)
  · replace h := it_t g1 h
    refine sm_iconst dX1_isCard_22 ic_0 ?_
    cases h
    exact sm_ret_z (st := []) dX1_isCard_23 rfl rfl ⟨rfl, rfl⟩
  · replace h := it_f g1 h
    refine sm_iload_n dX1_isCard_4 rfl rfl ?_
    refine sm_aload_n dX1_isCard_5 rfl rfl ?_
    refine sm_getI dX1_isCard_6 fg_RX1_15 hk_c ?_
    refine sm_icmp_ge (tgt := 22) dX1_isCard_9 (by decide) (fun g2 => ?_) (fun g2 => ?_)
    · replace h := it_t g2 h
      refine sm_iconst dX1_isCard_22 ic_0 ?_
      cases h
      exact sm_ret_z (st := []) dX1_isCard_23 rfl rfl ⟨rfl, rfl⟩
    · replace h := it_f g2 h
      refine sm_iload_n dX1_isCard_12 rfl rfl ?_
      refine sm_bipush dX1_isCard_13 bp_6 ?_
      refine sm_icmp_ge (tgt := 22) dX1_isCard_15 (by decide) (fun g3 => ?_) (fun g3 => ?_)
      · replace h := it_t g3 h
        refine sm_iconst dX1_isCard_22 ic_0 ?_
        cases h
        exact sm_ret_z (st := []) dX1_isCard_23 rfl rfl ⟨rfl, rfl⟩
      · replace h := it_f g3 h
        refine sm_iconst dX1_isCard_18 ic_1 ?_
        refine sm_goto (tgt := 23) dX1_isCard_19 (by decide) ?_
        cases h
        exact sm_ret_z (st := []) dX1_isCard_23 rfl rfl ⟨rfl, rfl⟩
set_option maxRecDepth 100000 in
set_option maxHeartbeats 4000000 in
theorem s_Co_isThing {D : Nat} (hD : 0 ≤ D) (N : Nat) {c : Nat} (hk_c : sh_k c = 1) {x1 : Int32} {μ : MM} {r : Int32} {μr : MM} (h : f_Co_isThing N c x1 μ = some (r, μr)) : Cl D mX1_isThing [av_r c, av_i x1] μ (po_i r μr) := by
  refine Cl_of pn_X1 (Nat.le_of_ble_eq_true rfl) ?_
  show Sm D mX1_isThing 0 [some (av_r c), some (av_i x1)] [] μ (po_i r μr)
  unfold f_Co_isThing at h
  refine sm_iload_n dX1_isThing_0 rfl rfl ?_
  refine sm_if_lt (tgt := 22) dX1_isThing_1 (by decide) (fun g1 => ?_) (fun g1 => ?_)
  · replace h := it_t g1 h
    refine sm_iconst dX1_isThing_22 ic_0 ?_
    cases h
    exact sm_ret_z (st := []) dX1_isThing_23 rfl rfl ⟨rfl, rfl⟩
  · replace h := it_f g1 h
    refine sm_iload_n dX1_isThing_4 rfl rfl ?_
    refine sm_aload_n dX1_isThing_5 rfl rfl ?_
    refine sm_getI dX1_isThing_6 fg_RX1_9 hk_c ?_
    refine sm_icmp_ge (tgt := 22) dX1_isThing_9 (by decide) (fun g2 => ?_) (fun g2 => ?_)
    · replace h := it_t g2 h
      refine sm_iconst dX1_isThing_22 ic_0 ?_
      cases h
      exact sm_ret_z (st := []) dX1_isThing_23 rfl rfl ⟨rfl, rfl⟩
    · replace h := it_f g2 h
      refine sm_iload_n dX1_isThing_12 rfl rfl ?_
      refine sm_bipush dX1_isThing_13 bp_8 ?_
      refine sm_icmp_ge (tgt := 22) dX1_isThing_15 (by decide) (fun g3 => ?_) (fun g3 => ?_)
      · replace h := it_t g3 h
        refine sm_iconst dX1_isThing_22 ic_0 ?_
        cases h
        exact sm_ret_z (st := []) dX1_isThing_23 rfl rfl ⟨rfl, rfl⟩
      · replace h := it_f g3 h
        refine sm_iconst dX1_isThing_18 ic_1 ?_
        refine sm_goto (tgt := 23) dX1_isThing_19 (by decide) ?_
        cases h
        exact sm_ret_z (st := []) dX1_isThing_23 rfl rfl ⟨rfl, rfl⟩
set_option maxRecDepth 100000 in
set_option maxHeartbeats 4000000 in
theorem s_Co_marksUnder {D : Nat} (hD : 0 ≤ D) (N : Nat) {c : Nat} (hk_c : sh_k c = 1) {x1 : Int32} {μ : MM} {r : Int32} {μr : MM} (h : f_Co_marksUnder N c x1 μ = some (r, μr)) : Cl D mX1_marksUnder [av_r c, av_i x1] μ (po_i r μr) := by
  refine Cl_of pn_X1 (Nat.le_of_ble_eq_true rfl) ?_
  show Sm D mX1_marksUnder 0 [some (av_r c), some (av_i x1), none] [] μ (po_i r μr)
  unfold f_Co_marksUnder at h
  refine sm_iload_n dX1_marksUnder_0 rfl rfl ?_
  refine sm_if_lt (tgt := 12) dX1_marksUnder_1 (by decide) (fun g1 => ?_) (fun g1 => ?_)
  · replace h := it_t g1 h
    refine sm_iconst dX1_marksUnder_12 ic_0 ?_
    cases h
    exact sm_ret_i (st := []) dX1_marksUnder_13 rfl ⟨rfl, rfl⟩
  · replace h := it_f g1 h
    refine sm_iload_n dX1_marksUnder_4 rfl rfl ?_
    refine sm_aload_n dX1_marksUnder_5 rfl rfl ?_
    refine sm_getI dX1_marksUnder_6 fg_RX1_15 hk_c ?_
    refine sm_icmp_lt (tgt := 14) dX1_marksUnder_9 (by decide) (fun g2 => ?_) (fun g2 => ?_)
    · replace h := it_t g2 h
      refine sm_aload_n dX1_marksUnder_14 rfl rfl ?_
      refine sm_getR dX1_marksUnder_15 fg_RX1_31 hk_c (rf_1_5 hk_c) ?_
      refine sm_getR dX1_marksUnder_18 fg_RX1_45 (kk_1_5 hk_c) (rf_7_1 (kk_1_5 hk_c)) ?_
      refine sm_iload_n dX1_marksUnder_21 rfl rfl ?_
      obtain ⟨g3, h⟩ := gd_some h
      refine sm_iald (j := (Int32.toNatClampNeg x1)) dX1_marksUnder_22 (kk_7_1 (kk_1_5 hk_c)) (in_sz (kn_7_1 (kk_1_5 hk_c)) g3) rfl ?_
      refine sm_istore_n dX1_marksUnder_23 rfl (Nat.le_of_ble_eq_true rfl) (pv_i rfl) ?_
      refine sm_iload_n dX1_marksUnder_24 rfl rfl ?_
      refine sm_if_lt (tgt := 36) dX1_marksUnder_25 (by decide) (fun g4 => ?_) (fun g4 => ?_)
      · replace h := it_t g4 h
        refine sm_iconst dX1_marksUnder_36 ic_0 ?_
        refine sm_goto (tgt := 46) dX1_marksUnder_37 (by decide) ?_
        cases h
        exact sm_ret_i (st := []) dX1_marksUnder_46 rfl ⟨rfl, rfl⟩
      · replace h := it_f g4 h
        refine sm_iload_n dX1_marksUnder_28 rfl rfl ?_
        refine sm_aload_n dX1_marksUnder_29 rfl rfl ?_
        refine sm_getI dX1_marksUnder_30 fg_RX1_9 hk_c ?_
        refine sm_icmp_lt (tgt := 40) dX1_marksUnder_33 (by decide) (fun g5 => ?_) (fun g5 => ?_)
        · replace h := it_t g5 h
          refine sm_aload_n dX1_marksUnder_40 rfl rfl ?_
          refine sm_getR dX1_marksUnder_41 fg_RX1_22 hk_c (rf_1_3 hk_c) ?_
          refine sm_iload_n dX1_marksUnder_44 rfl rfl ?_
          obtain ⟨g6, h⟩ := gd_some h
          refine sm_iald (j := (Int32.toNatClampNeg (μ.1 (c + 4 + 6) (Int32.toNatClampNeg x1)))) dX1_marksUnder_45 (kk_1_3 hk_c) (in_sz (kn_1_3 hk_c) g6) rfl ?_
          cases h
          exact sm_ret_i (st := []) dX1_marksUnder_46 rfl ⟨rfl, rfl⟩
        · replace h := it_f g5 h
          refine sm_iconst dX1_marksUnder_36 ic_0 ?_
          refine sm_goto (tgt := 46) dX1_marksUnder_37 (by decide) ?_
          cases h
          exact sm_ret_i (st := []) dX1_marksUnder_46 rfl ⟨rfl, rfl⟩
    · replace h := it_f g2 h
      refine sm_iconst dX1_marksUnder_12 ic_0 ?_
      cases h
      exact sm_ret_i (st := []) dX1_marksUnder_13 rfl ⟨rfl, rfl⟩
set_option maxRecDepth 100000 in
set_option maxHeartbeats 4000000 in
theorem s_Co_isTrue {D : Nat} (hD : 1 ≤ D) (N : Nat) {c : Nat} (hk_c : sh_k c = 1) {x1 : Int32} {x2 : Int32} {x3 : Int32} {μ : MM} {r : Int32} {μr : MM} (h : f_Co_isTrue N c x1 x2 x3 μ = some (r, μr)) : Cl D mX1_isTrue [av_r c, av_i x1, av_i x2, av_i x3] μ (po_i r μr) := by
  obtain ⟨d, rfl⟩ : ∃ d, D = d + 1 := ⟨D - 1, by omega⟩
  refine Cl_of pn_X1 (Nat.le_of_ble_eq_true rfl) ?_
  show Sm (d + 1) mX1_isTrue 0 [some (av_r c), some (av_i x1), some (av_i x2), some (av_i x3), none] [] μ (po_i r μr)
  unfold f_Co_isTrue at h
  refine sm_aload_n dX1_isTrue_0 rfl rfl ?_
  refine sm_getR dX1_isTrue_1 fg_RX1_31 hk_c (rf_1_5 hk_c) ?_
  refine sm_getR dX1_isTrue_4 fg_RX1_55 (kk_1_5 hk_c) (rf_7_0 (kk_1_5 hk_c)) ?_
  refine sm_getR dX1_isTrue_7 fg_RX1_71 (kk_7_0 (kk_1_5 hk_c)) (rf_10_2 (kk_7_0 (kk_1_5 hk_c))) ?_
  refine sm_iload_n dX1_isTrue_10 rfl rfl ?_
  obtain ⟨g1, h⟩ := gd_some h
  refine sm_iald (j := (Int32.toNatClampNeg x1)) dX1_isTrue_11 (kk_10_2 (kk_7_0 (kk_1_5 hk_c))) (in_sz rfl g1) rfl ?_
  refine sm_istore dX1_isTrue_12 (Nat.le_of_ble_eq_true rfl) (pv_i rfl) ?_
  refine sm_aload_n dX1_isTrue_14 rfl rfl ?_
  refine sm_getR dX1_isTrue_15 fg_RX1_31 hk_c (rf_1_5 hk_c) ?_
  refine sm_getR dX1_isTrue_18 fg_RX1_55 (kk_1_5 hk_c) (rf_7_0 (kk_1_5 hk_c)) ?_
  refine sm_getR dX1_isTrue_21 fg_RX1_74 (kk_7_0 (kk_1_5 hk_c)) (rf_10_1 (kk_7_0 (kk_1_5 hk_c))) ?_
  refine sm_iload_n dX1_isTrue_24 rfl rfl ?_
  obtain ⟨g2, h⟩ := gd_some h
  refine sm_iald (j := (Int32.toNatClampNeg x1)) dX1_isTrue_25 (kk_10_1 (kk_7_0 (kk_1_5 hk_c))) (in_sz rfl g2) rfl ?_
  by_cases g3 : (μ.1 (c + 4 + 1 + 2) (Int32.toNatClampNeg x1)) = 0
  · replace h := it_t g3 h
    refine sm_lsw_at (tgt := 52) dX1_isTrue_26 (by decide) g3 rfl (by decide) ?_
    refine sm_iload_n dX1_isTrue_52 rfl rfl ?_
    refine sm_iload dX1_isTrue_53 rfl ?_
    refine sm_ishr dX1_isTrue_55 ?_
    refine sm_iconst dX1_isTrue_56 ic_1 ?_
    refine sm_iand dX1_isTrue_57 ?_
    refine sm_iconst dX1_isTrue_58 ic_1 ?_
    have hj59 : ∀ (v59_0 : Int32), v59_0 = (if ((x3 >>> ((μ.1 (c + 4 + 1 + 3) (Int32.toNatClampNeg x1)) &&& 31)) &&& 1) = 1 then (1 : Int32) else 0) → Sm (d + 1) mX1_isTrue 67 [none, none, none, none, none] [av_i v59_0] μ (po_i r μr) := by
      intro v59_0 ev59_0
      subst ev59_0
      obtain ⟨g4, h⟩ := gd_some h
      cases h
      exact sm_ret_z (st := []) dX1_isTrue_67 rfl (zb_nar g4) ⟨rfl, rfl⟩
    refine sm_icmp_ne (tgt := 66) dX1_isTrue_59 (by decide) (fun c59_0 => ?_) (fun c59_0 => ?_)
    · refine sm_iconst dX1_isTrue_66 ic_0 ?_
      exact Sm_weak (le_n (le_n (le_n (le_n (le_n le_0))))) (hj59 _ (if_neg c59_0).symm)
    · refine sm_iconst dX1_isTrue_62 ic_1 ?_
      refine sm_goto (tgt := 67) dX1_isTrue_63 (by decide) ?_
      exact Sm_weak (le_n (le_n (le_n (le_n (le_n le_0))))) (hj59 _ (if_pos c59_0).symm)
  · replace h := it_f g3 h
    by_cases g5 : (μ.1 (c + 4 + 1 + 2) (Int32.toNatClampNeg x1)) = 1
    · replace h := it_t g5 h
      refine sm_lsw_at (tgt := 68) dX1_isTrue_26 (by decide) g5 rfl (by decide) ?_
      refine sm_iload_n dX1_isTrue_68 rfl rfl ?_
      refine sm_iload dX1_isTrue_69 rfl ?_
      refine sm_ishr dX1_isTrue_71 ?_
      refine sm_iconst dX1_isTrue_72 ic_1 ?_
      refine sm_iand dX1_isTrue_73 ?_
      have hj74 : ∀ (v74_0 : Int32), v74_0 = (if ((x3 >>> ((μ.1 (c + 4 + 1 + 3) (Int32.toNatClampNeg x1)) &&& 31)) &&& 1) = 0 then (1 : Int32) else 0) → Sm (d + 1) mX1_isTrue 82 [none, none, none, none, none] [av_i v74_0] μ (po_i r μr) := by
        intro v74_0 ev74_0
        subst ev74_0
        obtain ⟨g6, h⟩ := gd_some h
        cases h
        exact sm_ret_z (st := []) dX1_isTrue_82 rfl (zb_nar g6) ⟨rfl, rfl⟩
      refine sm_if_ne (tgt := 81) dX1_isTrue_74 (by decide) (fun c74_0 => ?_) (fun c74_0 => ?_)
      · refine sm_iconst dX1_isTrue_81 ic_0 ?_
        exact Sm_weak (le_n (le_n (le_n (le_n (le_n le_0))))) (hj74 _ (if_neg c74_0).symm)
      · refine sm_iconst dX1_isTrue_77 ic_1 ?_
        refine sm_goto (tgt := 82) dX1_isTrue_78 (by decide) ?_
        exact Sm_weak (le_n (le_n (le_n (le_n (le_n le_0))))) (hj74 _ (if_pos c74_0).symm)
    · replace h := it_f g5 h
      have eg3 : Int32.toInt (μ.1 (c + 4 + 1 + 2) (Int32.toNatClampNeg x1)) ≠ 0 := fun q => g3 (Int32.toInt_inj.mp (q.trans (by decide)))
      have eg5 : Int32.toInt (μ.1 (c + 4 + 1 + 2) (Int32.toNatClampNeg x1)) ≠ 1 := fun q => g5 (Int32.toInt_inj.mp (q.trans (by decide)))
      refine sm_lsw (tgt := 83) (off := 57) dX1_isTrue_26 (by decide) ((lv_osw g3 (by decide)).trans ((lv_osw g5 (by decide)).trans rfl)) (by decide) ?_
      refine sm_iload dX1_isTrue_83 rfl ?_
      refine sm_iload_n dX1_isTrue_85 rfl rfl ?_
      refine sm_icmp_ne (tgt := 101) dX1_isTrue_86 (by decide) (fun g7 => ?_) (fun g7 => ?_)
      · replace h := it_f g7 h
        refine sm_aload_n dX1_isTrue_101 rfl rfl ?_
        refine sm_iload dX1_isTrue_102 rfl ?_
        obtain ⟨t104, μ1z, g8, h⟩ := ob_some h
        refine sm_callV dX1_isTrue_104 cv_X1_marksUnder ml_RX1_77 hk_c rfl rfl (by decide) (as := [av_i (μ.1 (c + 4 + 1 + 3) (Int32.toNatClampNeg x1))]) rfl (Nat.le_of_ble_eq_true rfl) rfl (s_Co_marksUnder (D := d) (by omega) N hk_c g8) (fun r9 μ9 hp => ?_)
        rw [hp.1, hp.2]
        clear hp r9 μ9
        refine sm_iload_n dX1_isTrue_107 rfl rfl ?_
        refine sm_iand dX1_isTrue_108 ?_
        have hj109 : ∀ (v109_0 : Int32), v109_0 = (if (t104 &&& x3) = 0 then (0 : Int32) else 1) → Sm (d + 1) mX1_isTrue 117 [none, none, none, none, none] [av_i v109_0] μ1z (po_i r μr) := by
          intro v109_0 ev109_0
          subst ev109_0
          obtain ⟨g9, h⟩ := gd_some h
          cases h
          exact sm_ret_z (st := []) dX1_isTrue_117 rfl (zb_nar g9) ⟨rfl, rfl⟩
        refine sm_if_eq (tgt := 116) dX1_isTrue_109 (by decide) (fun c109_0 => ?_) (fun c109_0 => ?_)
        · refine sm_iconst dX1_isTrue_116 ic_0 ?_
          exact Sm_weak (le_n (le_n (le_n (le_n (le_n le_0))))) (hj109 _ (if_pos c109_0).symm)
        · refine sm_iconst dX1_isTrue_112 ic_1 ?_
          refine sm_goto (tgt := 117) dX1_isTrue_113 (by decide) ?_
          exact Sm_weak (le_n (le_n (le_n (le_n (le_n le_0))))) (hj109 _ (if_neg c109_0).symm)
      · replace h := it_t g7 h
        refine sm_iload_n dX1_isTrue_89 rfl rfl ?_
        have hj90 : ∀ (v90_0 : Int32), v90_0 = (if x3 = 0 then (0 : Int32) else 1) → Sm (d + 1) mX1_isTrue 117 [none, none, none, none, none] [av_i v90_0] μ (po_i r μr) := by
          intro v90_0 ev90_0
          subst ev90_0
          obtain ⟨g10, h⟩ := gd_some h
          cases h
          exact sm_ret_z (st := []) dX1_isTrue_117 rfl (zb_nar g10) ⟨rfl, rfl⟩
        refine sm_if_eq (tgt := 97) dX1_isTrue_90 (by decide) (fun c90_0 => ?_) (fun c90_0 => ?_)
        · refine sm_iconst dX1_isTrue_97 ic_0 ?_
          refine sm_goto (tgt := 117) dX1_isTrue_98 (by decide) ?_
          exact Sm_weak (le_n (le_n (le_n (le_n (le_n le_0))))) (hj90 _ (if_pos c90_0).symm)
        · refine sm_iconst dX1_isTrue_93 ic_1 ?_
          refine sm_goto (tgt := 117) dX1_isTrue_94 (by decide) ?_
          exact Sm_weak (le_n (le_n (le_n (le_n (le_n le_0))))) (hj90 _ (if_neg c90_0).symm)
set_option maxRecDepth 100000 in
set_option maxHeartbeats 4000000 in
theorem s_Co_isFit_L28 {D : Nat} (hD : 2 ≤ D) (N : Nat) {c : Nat} (hk_c : sh_k c = 1) {r : Int32} {μr : MM} : ∀ (n : Nat) (x1 : Int32) (x3 : Int32) (x4 : Int32) (μ : MM), f_Co_isFit_L28 N c n x1 x3 x4 μ = some (r, μr) → Sm D mX1_isFit 28 [some (av_r c), some (av_i x1), none, some (av_i x3), some (av_i x4), none] [] μ (po_i r μr) := by
  obtain ⟨d, rfl⟩ : ∃ d, D = d + 1 := ⟨D - 1, by omega⟩
  intro n
  induction n with
  | zero => intro x1 x3 x4 μ h; cases (show none = some (r, μr) from h)
  | succ n ih =>
    intro x1 x3 x4 μ h
    rw [f_Co_isFit_L28] at h
    refine sm_iload dX1_isFit_28 rfl ?_
    refine sm_aload_n dX1_isFit_30 rfl rfl ?_
    refine sm_getR dX1_isFit_31 fg_RX1_31 hk_c (rf_1_5 hk_c) ?_
    refine sm_getR dX1_isFit_34 fg_RX1_55 (kk_1_5 hk_c) (rf_7_0 (kk_1_5 hk_c)) ?_
    refine sm_getR dX1_isFit_37 fg_RX1_59 (kk_7_0 (kk_1_5 hk_c)) (rf_10_0 (kk_7_0 (kk_1_5 hk_c))) ?_
    refine sm_iload_n dX1_isFit_40 rfl rfl ?_
    obtain ⟨g6, h⟩ := gd_some h
    refine sm_iald (j := (Int32.toNatClampNeg x1)) dX1_isFit_41 (kk_10_0 (kk_7_0 (kk_1_5 hk_c))) (in_sz rfl g6) rfl ?_
    refine sm_icmp_ge (tgt := 89) dX1_isFit_42 (by decide) (fun g7 => ?_) (fun g7 => ?_)
    · replace h := it_t g7 h
      refine sm_iconst dX1_isFit_89 ic_1 ?_
      cases h
      exact sm_ret_z (st := []) dX1_isFit_90 rfl rfl ⟨rfl, rfl⟩
    · replace h := it_f g7 h
      refine sm_iload_n dX1_isFit_45 rfl rfl ?_
      refine sm_bipush dX1_isFit_46 bp_6 ?_
      refine sm_imul dX1_isFit_48 ?_
      refine sm_iload dX1_isFit_49 rfl ?_
      refine sm_iadd dX1_isFit_51 ?_
      refine sm_istore dX1_isFit_52 (Nat.le_of_ble_eq_true rfl) (pv_i rfl) ?_
      refine sm_aload_n dX1_isFit_54 rfl rfl ?_
      refine sm_getR dX1_isFit_55 fg_RX1_31 hk_c (rf_1_5 hk_c) ?_
      refine sm_getR dX1_isFit_58 fg_RX1_55 (kk_1_5 hk_c) (rf_7_0 (kk_1_5 hk_c)) ?_
      refine sm_getR dX1_isFit_61 fg_RX1_64 (kk_7_0 (kk_1_5 hk_c)) (rf_10_3 (kk_7_0 (kk_1_5 hk_c))) ?_
      refine sm_iload dX1_isFit_64 rfl ?_
      obtain ⟨g8, h⟩ := gd_some h
      refine sm_iald (j := (Int32.toNatClampNeg ((x1 * 6) + x4))) dX1_isFit_66 (kk_10_3 (kk_7_0 (kk_1_5 hk_c))) (in_sz rfl g8) rfl ?_
      refine sm_if_le (tgt := 83) dX1_isFit_67 (by decide) (fun g9 => ?_) (fun g9 => ?_)
      · replace h := it_t g9 h
        refine sm_iinc dX1_isFit_83 rfl (congrArg (HAdd.hAdd x4) ic_1) (Nat.le_of_ble_eq_true rfl) (pv_i rfl) ?_
        refine sm_goto (tgt := 28) dX1_isFit_86 (by decide) ?_
        exact Sm_weak (le_s rfl (le_s rfl (le_n (le_s rfl (le_s rfl (le_n le_0)))))) (ih x1 x3 (x4 + 1) μ h)
      · replace h := it_f g9 h
        refine sm_aload_n dX1_isFit_70 rfl rfl ?_
        refine sm_iload dX1_isFit_71 rfl ?_
        refine sm_iload_n dX1_isFit_73 rfl rfl ?_
        refine sm_iload_n dX1_isFit_74 rfl rfl ?_
        obtain ⟨t75, μ3z, g10, h⟩ := ob_some h
        refine sm_callV dX1_isFit_75 cv_X1_isTrue ml_RX1_67 hk_c rfl rfl (by decide) (as := [av_i ((x1 * 6) + x4), av_i x1, av_i x3]) rfl (Nat.le_of_ble_eq_true rfl) rfl (s_Co_isTrue (D := d) (by omega) N hk_c g10) (fun r9 μ9 hp => ?_)
        rw [hp.1, hp.2]
        clear hp r9 μ9
        refine sm_if_ne (tgt := 83) dX1_isFit_78 (by decide) (fun g11 => ?_) (fun g11 => ?_)
        · replace h := it_f g11 h
          refine sm_iinc dX1_isFit_83 rfl (congrArg (HAdd.hAdd x4) ic_1) (Nat.le_of_ble_eq_true rfl) (pv_i rfl) ?_
          refine sm_goto (tgt := 28) dX1_isFit_86 (by decide) ?_
          exact Sm_weak (le_s rfl (le_s rfl (le_n (le_s rfl (le_s rfl (le_n le_0)))))) (ih x1 x3 (x4 + 1) μ3z h)
        · replace h := it_t g11 h
          refine sm_iconst dX1_isFit_81 ic_0 ?_
          cases h
          exact sm_ret_z (st := []) dX1_isFit_82 rfl rfl ⟨rfl, rfl⟩
set_option maxRecDepth 100000 in
set_option maxHeartbeats 4000000 in
theorem s_Co_isFit {D : Nat} (hD : 2 ≤ D) (N : Nat) {c : Nat} (hk_c : sh_k c = 1) {x1 : Int32} {x2 : Int32} {μ : MM} {r : Int32} {μr : MM} (h : f_Co_isFit N c x1 x2 μ = some (r, μr)) : Cl D mX1_isFit [av_r c, av_i x1, av_i x2] μ (po_i r μr) := by
  obtain ⟨d, rfl⟩ : ∃ d, D = d + 1 := ⟨D - 1, by omega⟩
  refine Cl_of pn_X1 (Nat.le_of_ble_eq_true rfl) ?_
  show Sm (d + 1) mX1_isFit 0 [some (av_r c), some (av_i x1), some (av_i x2), none, none, none] [] μ (po_i r μr)
  unfold f_Co_isFit at h
  refine sm_aload_n dX1_isFit_0 rfl rfl ?_
  refine sm_iload_n dX1_isFit_1 rfl rfl ?_
  obtain ⟨t2, μ1z, g1, h⟩ := ob_some h
  refine sm_callV dX1_isFit_2 cv_X1_isCard ml_RX1_48 hk_c rfl rfl (by decide) (as := [av_i x1]) rfl (Nat.le_of_ble_eq_true rfl) rfl (s_Co_isCard (D := d) (by omega) N hk_c g1) (fun r9 μ9 hp => ?_)
  rw [hp.1, hp.2]
  clear hp r9 μ9
  refine sm_if_eq (tgt := 16) dX1_isFit_5 (by decide) (fun g2 => ?_) (fun g2 => ?_)
  · replace h := it_t g2 h
    refine sm_iconst dX1_isFit_16 ic_0 ?_
    cases h
    exact sm_ret_z (st := []) dX1_isFit_17 rfl rfl ⟨rfl, rfl⟩
  · replace h := it_f g2 h
    refine sm_aload_n dX1_isFit_8 rfl rfl ?_
    refine sm_iload_n dX1_isFit_9 rfl rfl ?_
    obtain ⟨t10, μ2z, g3, h⟩ := ob_some h
    refine sm_callV dX1_isFit_10 cv_X1_isThing ml_RX1_52 hk_c rfl rfl (by decide) (as := [av_i x2]) rfl (Nat.le_of_ble_eq_true rfl) rfl (s_Co_isThing (D := d) (by omega) N hk_c g3) (fun r9 μ9 hp => ?_)
    rw [hp.1, hp.2]
    clear hp r9 μ9
    refine sm_if_ne (tgt := 18) dX1_isFit_13 (by decide) (fun g4 => ?_) (fun g4 => ?_)
    · replace h := it_f g4 h
      refine sm_aload_n dX1_isFit_18 rfl rfl ?_
      refine sm_getR dX1_isFit_19 fg_RX1_22 hk_c (rf_1_3 hk_c) ?_
      refine sm_iload_n dX1_isFit_22 rfl rfl ?_
      obtain ⟨g5, h⟩ := gd_some h
      refine sm_iald (j := (Int32.toNatClampNeg x2)) dX1_isFit_23 (kk_1_3 hk_c) (in_sz (kn_1_3 hk_c) g5) rfl ?_
      refine sm_istore_n dX1_isFit_24 rfl (Nat.le_of_ble_eq_true rfl) (pv_i rfl) ?_
      refine sm_iconst dX1_isFit_25 ic_0 ?_
      refine sm_istore dX1_isFit_26 (Nat.le_of_ble_eq_true rfl) (pv_i rfl) ?_
      exact Sm_weak (le_s rfl (le_s rfl (le_n (le_s rfl (le_s rfl (le_n le_0)))))) (s_Co_isFit_L28 hD N hk_c N x1 (μ2z.1 (c + 2) (Int32.toNatClampNeg x2)) 0 μ2z h)
    · replace h := it_t g4 h
      refine sm_iconst dX1_isFit_16 ic_0 ?_
      cases h
      exact sm_ret_z (st := []) dX1_isFit_17 rfl rfl ⟨rfl, rfl⟩
set_option maxRecDepth 100000 in
set_option maxHeartbeats 4000000 in
theorem s_Co_isRight {D : Nat} (hD : 3 ≤ D) (N : Nat) {c : Nat} (hk_c : sh_k c = 1) {x1 : Int32} {μ : MM} {r : Int32} {μr : MM} (h : f_Co_isRight N c x1 μ = some (r, μr)) : Cl D mX1_isRight [av_r c, av_i x1] μ (po_i r μr) := by
  obtain ⟨d, rfl⟩ : ∃ d, D = d + 1 := ⟨D - 1, by omega⟩
  refine Cl_of pn_X1 (Nat.le_of_ble_eq_true rfl) ?_
  show Sm (d + 1) mX1_isRight 0 [some (av_r c), some (av_i x1)] [] μ (po_i r μr)
  unfold f_Co_isRight at h
  refine sm_aload_n dX1_isRight_0 rfl rfl ?_
  refine sm_iload_n dX1_isRight_1 rfl rfl ?_
  obtain ⟨t2, μ1z, g1, h⟩ := ob_some h
  refine sm_callV dX1_isRight_2 cv_X1_isCard ml_RX1_48 hk_c rfl rfl (by decide) (as := [av_i x1]) rfl (Nat.le_of_ble_eq_true rfl) rfl (s_Co_isCard (D := d) (by omega) N hk_c g1) (fun r9 μ9 hp => ?_)
  rw [hp.1, hp.2]
  clear hp r9 μ9
  refine sm_if_eq (tgt := 29) dX1_isRight_5 (by decide) (fun g2 => ?_) (fun g2 => ?_)
  · replace h := it_t g2 h
    refine sm_iconst dX1_isRight_29 ic_0 ?_
    cases h
    exact sm_ret_z (st := []) dX1_isRight_30 rfl rfl ⟨rfl, rfl⟩
  · replace h := it_f g2 h
    refine sm_aload_n dX1_isRight_8 rfl rfl ?_
    refine sm_iload_n dX1_isRight_9 rfl rfl ?_
    refine sm_aload_n dX1_isRight_10 rfl rfl ?_
    refine sm_getR dX1_isRight_11 fg_RX1_31 hk_c (rf_1_5 hk_c) ?_
    refine sm_getR dX1_isRight_14 fg_RX1_45 (kk_1_5 hk_c) (rf_7_1 (kk_1_5 hk_c)) ?_
    refine sm_iload_n dX1_isRight_17 rfl rfl ?_
    obtain ⟨g3, h⟩ := gd_some h
    refine sm_iald (j := (Int32.toNatClampNeg x1)) dX1_isRight_18 (kk_7_1 (kk_1_5 hk_c)) (in_sz (kn_7_1 (kk_1_5 hk_c)) g3) rfl ?_
    obtain ⟨t19, μ2z, g4, h⟩ := ob_some h
    refine sm_callV dX1_isRight_19 cv_X1_isFit ml_RX1_81 hk_c rfl rfl (by decide) (as := [av_i x1, av_i (μ1z.1 (c + 4 + 6) (Int32.toNatClampNeg x1))]) rfl (Nat.le_of_ble_eq_true rfl) rfl (s_Co_isFit (D := d) (by omega) N hk_c g4) (fun r9 μ9 hp => ?_)
    rw [hp.1, hp.2]
    clear hp r9 μ9
    refine sm_if_eq (tgt := 29) dX1_isRight_22 (by decide) (fun g5 => ?_) (fun g5 => ?_)
    · replace h := it_t g5 h
      refine sm_iconst dX1_isRight_29 ic_0 ?_
      cases h
      exact sm_ret_z (st := []) dX1_isRight_30 rfl rfl ⟨rfl, rfl⟩
    · replace h := it_f g5 h
      refine sm_iconst dX1_isRight_25 ic_1 ?_
      refine sm_goto (tgt := 30) dX1_isRight_26 (by decide) ?_
      cases h
      exact sm_ret_z (st := []) dX1_isRight_30 rfl rfl ⟨rfl, rfl⟩
set_option maxRecDepth 100000 in
set_option maxHeartbeats 4000000 in
theorem s_Co_cardOver_L2 {D : Nat} (hD : 0 ≤ D) (N : Nat) {c : Nat} (hk_c : sh_k c = 1) {r : Int32} {μr : MM} : ∀ (n : Nat) (x1 : Int32) (x2 : Int32) (μ : MM), f_Co_cardOver_L2 N c n x1 x2 μ = some (r, μr) → Sm D mX1_cardOver 2 [some (av_r c), some (av_i x1), some (av_i x2)] [] μ (po_i r μr) := by
  intro n
  induction n with
  | zero => intro x1 x2 μ h; cases (show none = some (r, μr) from h)
  | succ n ih =>
    intro x1 x2 μ h
    rw [f_Co_cardOver_L2] at h
    refine sm_iload_n dX1_cardOver_2 rfl rfl ?_
    refine sm_aload_n dX1_cardOver_3 rfl rfl ?_
    refine sm_getI dX1_cardOver_4 fg_RX1_15 hk_c ?_
    refine sm_icmp_ge (tgt := 31) dX1_cardOver_7 (by decide) (fun g1 => ?_) (fun g1 => ?_)
    · replace h := it_t g1 h
      refine sm_iconst dX1_cardOver_31 ic_m1 ?_
      cases h
      exact sm_ret_i (st := []) dX1_cardOver_32 rfl ⟨rfl, rfl⟩
    · replace h := it_f g1 h
      refine sm_aload_n dX1_cardOver_10 rfl rfl ?_
      refine sm_getR dX1_cardOver_11 fg_RX1_31 hk_c (rf_1_5 hk_c) ?_
      refine sm_getR dX1_cardOver_14 fg_RX1_45 (kk_1_5 hk_c) (rf_7_1 (kk_1_5 hk_c)) ?_
      refine sm_iload_n dX1_cardOver_17 rfl rfl ?_
      obtain ⟨g2, h⟩ := gd_some h
      refine sm_iald (j := (Int32.toNatClampNeg x2)) dX1_cardOver_18 (kk_7_1 (kk_1_5 hk_c)) (in_sz (kn_7_1 (kk_1_5 hk_c)) g2) rfl ?_
      refine sm_iload_n dX1_cardOver_19 rfl rfl ?_
      refine sm_icmp_ne (tgt := 25) dX1_cardOver_20 (by decide) (fun g3 => ?_) (fun g3 => ?_)
      · replace h := it_f g3 h
        refine sm_iinc dX1_cardOver_25 rfl (congrArg (HAdd.hAdd x2) ic_1) (Nat.le_of_ble_eq_true rfl) (pv_i rfl) ?_
        refine sm_goto (tgt := 2) dX1_cardOver_28 (by decide) ?_
        exact Sm_weak (le_s rfl (le_s rfl (le_s rfl le_0))) (ih x1 (x2 + 1) μ h)
      · replace h := it_t g3 h
        refine sm_iload_n dX1_cardOver_23 rfl rfl ?_
        cases h
        exact sm_ret_i (st := []) dX1_cardOver_24 rfl ⟨rfl, rfl⟩
set_option maxRecDepth 100000 in
set_option maxHeartbeats 4000000 in
theorem s_Co_cardOver {D : Nat} (hD : 0 ≤ D) (N : Nat) {c : Nat} (hk_c : sh_k c = 1) {x1 : Int32} {μ : MM} {r : Int32} {μr : MM} (h : f_Co_cardOver N c x1 μ = some (r, μr)) : Cl D mX1_cardOver [av_r c, av_i x1] μ (po_i r μr) := by
  refine Cl_of pn_X1 (Nat.le_of_ble_eq_true rfl) ?_
  show Sm D mX1_cardOver 0 [some (av_r c), some (av_i x1), none] [] μ (po_i r μr)
  unfold f_Co_cardOver at h
  refine sm_iconst dX1_cardOver_0 ic_0 ?_
  refine sm_istore_n dX1_cardOver_1 rfl (Nat.le_of_ble_eq_true rfl) (pv_i rfl) ?_
  exact Sm_weak (le_s rfl (le_s rfl (le_s rfl le_0))) (s_Co_cardOver_L2 hD N hk_c N x1 0 μ h)
set_option maxRecDepth 100000 in
set_option maxHeartbeats 4000000 in
theorem s_Co_cheapestFor_B48 {D : Nat} (hD : 3 ≤ D) (N : Nat) {c : Nat} (hk_c : sh_k c = 1) {r : Int32} {μr : MM} {k4 : Int32 → Int32 → Int32 → MM → Option (Int32 × MM)} (hk4 : ∀ (x1 : Int32) (x2 : Int32) (x3 : Int32) (μ : MM), k4 x1 x2 x3 μ = some (r, μr) → Sm D mX1_cheapestFor 4 [some (av_r c), some (av_i x1), some (av_i x2), some (av_i x3)] [] μ (po_i r μr)) (x1 : Int32) (x2 : Int32) (x3 : Int32) (μ : MM) (h : f_Co_cheapestFor_B48 N c k4 x1 x2 x3 μ = some (r, μr)) : Sm D mX1_cheapestFor 48 [some (av_r c), some (av_i x1), some (av_i x2), some (av_i x3)] [] μ (po_i r μr) := by
  obtain ⟨d, rfl⟩ : ∃ d, D = d + 1 := ⟨D - 1, by omega⟩
  unfold f_Co_cheapestFor_B48 at h
  refine sm_aload_n dX1_cheapestFor_48 rfl rfl ?_
  refine sm_iload_n dX1_cheapestFor_49 rfl rfl ?_
  obtain ⟨t50, μ1z, g5, h⟩ := ob_some h
  refine sm_callV dX1_cheapestFor_50 cv_X1_cardOver ml_RX1_88 hk_c rfl rfl (by decide) (as := [av_i x3]) rfl (Nat.le_of_ble_eq_true rfl) rfl (s_Co_cardOver (D := d) (by omega) N hk_c g5) (fun r9 μ9 hp => ?_)
  rw [hp.1, hp.2]
  clear hp r9 μ9
  refine sm_iconst dX1_cheapestFor_53 ic_m1 ?_
  refine sm_icmp_ne (tgt := 68) dX1_cheapestFor_54 (by decide) (fun g6 => ?_) (fun g6 => ?_)
  · replace h := it_f g6 h
    refine sm_iinc dX1_cheapestFor_68 rfl (congrArg (HAdd.hAdd x3) ic_1) (Nat.le_of_ble_eq_true rfl) (pv_i rfl) ?_
    refine sm_goto (tgt := 4) dX1_cheapestFor_71 (by decide) ?_
    exact Sm_weak (le_s rfl (le_s rfl (le_s rfl (le_s rfl le_0)))) (hk4 x1 x2 (x3 + 1) μ1z h)
  · replace h := it_t g6 h
    refine sm_aload_n dX1_cheapestFor_57 rfl rfl ?_
    refine sm_iload_n dX1_cheapestFor_58 rfl rfl ?_
    refine sm_iload_n dX1_cheapestFor_59 rfl rfl ?_
    obtain ⟨t60, μ2z, g7, h⟩ := ob_some h
    refine sm_callV dX1_cheapestFor_60 cv_X1_isFit ml_RX1_81 hk_c rfl rfl (by decide) (as := [av_i x1, av_i x3]) rfl (Nat.le_of_ble_eq_true rfl) rfl (s_Co_isFit (D := d) (by omega) N hk_c g7) (fun r9 μ9 hp => ?_)
    rw [hp.1, hp.2]
    clear hp r9 μ9
    have hj63 : ∀ (v63_0 : Int32), v63_0 = (if t60 = 0 then x2 else x3) → Sm (d + 1) mX1_cheapestFor 68 [some (av_r c), some (av_i x1), some (av_i v63_0), some (av_i x3)] [] μ2z (po_i r μr) := by
      intro v63_0 ev63_0
      subst ev63_0
      refine sm_iinc dX1_cheapestFor_68 rfl (congrArg (HAdd.hAdd x3) ic_1) (Nat.le_of_ble_eq_true rfl) (pv_i rfl) ?_
      refine sm_goto (tgt := 4) dX1_cheapestFor_71 (by decide) ?_
      exact Sm_weak (le_s rfl (le_s rfl (le_s rfl (le_s rfl le_0)))) (hk4 x1 (if t60 = 0 then x2 else x3) (x3 + 1) μ2z h)
    refine sm_if_eq (tgt := 68) dX1_cheapestFor_63 (by decide) (fun c63_0 => ?_) (fun c63_0 => ?_)
    · exact Sm_weak (le_s rfl (le_s rfl (le_s rfl (le_s rfl le_0)))) (hj63 _ (if_pos c63_0).symm)
    · refine sm_iload_n dX1_cheapestFor_66 rfl rfl ?_
      refine sm_istore_n dX1_cheapestFor_67 rfl (Nat.le_of_ble_eq_true rfl) (pv_i rfl) ?_
      exact Sm_weak (le_s rfl (le_s rfl (le_s rfl (le_s rfl le_0)))) (hj63 _ (if_neg c63_0).symm)
set_option maxRecDepth 100000 in
set_option maxHeartbeats 4000000 in
theorem s_Co_cheapestFor_L4 {D : Nat} (hD : 3 ≤ D) (N : Nat) {c : Nat} (hk_c : sh_k c = 1) {r : Int32} {μr : MM} : ∀ (n : Nat) (x1 : Int32) (x2 : Int32) (x3 : Int32) (μ : MM), f_Co_cheapestFor_L4 N c n x1 x2 x3 μ = some (r, μr) → Sm D mX1_cheapestFor 4 [some (av_r c), some (av_i x1), some (av_i x2), some (av_i x3)] [] μ (po_i r μr) := by
  obtain ⟨d, rfl⟩ : ∃ d, D = d + 1 := ⟨D - 1, by omega⟩
  intro n
  induction n with
  | zero => intro x1 x2 x3 μ h; cases (show none = some (r, μr) from h)
  | succ n ih =>
    intro x1 x2 x3 μ h
    rw [f_Co_cheapestFor_L4] at h
    refine sm_iload_n dX1_cheapestFor_4 rfl rfl ?_
    refine sm_aload_n dX1_cheapestFor_5 rfl rfl ?_
    refine sm_getI dX1_cheapestFor_6 fg_RX1_9 hk_c ?_
    refine sm_icmp_ge (tgt := 74) dX1_cheapestFor_9 (by decide) (fun g1 => ?_) (fun g1 => ?_)
    · replace h := it_t g1 h
      refine sm_iload_n dX1_cheapestFor_74 rfl rfl ?_
      cases h
      exact sm_ret_i (st := []) dX1_cheapestFor_75 rfl ⟨rfl, rfl⟩
    · replace h := it_f g1 h
      refine sm_aload_n dX1_cheapestFor_12 rfl rfl ?_
      refine sm_getR dX1_cheapestFor_13 fg_RX1_18 hk_c (rf_1_2 hk_c) ?_
      refine sm_iload_n dX1_cheapestFor_16 rfl rfl ?_
      obtain ⟨g2, h⟩ := gd_some h
      refine sm_iald (j := (Int32.toNatClampNeg x3)) dX1_cheapestFor_17 (kk_1_2 hk_c) (in_sz (kn_1_2 hk_c) g2) rfl ?_
      refine sm_aload_n dX1_cheapestFor_18 rfl rfl ?_
      refine sm_getR dX1_cheapestFor_19 fg_RX1_31 hk_c (rf_1_5 hk_c) ?_
      refine sm_getI dX1_cheapestFor_22 fg_RX1_85 (kk_1_5 hk_c) ?_
      refine sm_icmp_gt (tgt := 68) dX1_cheapestFor_25 (by decide) (fun g3 => ?_) (fun g3 => ?_)
      · replace h := it_t g3 h
        refine sm_iinc dX1_cheapestFor_68 rfl (congrArg (HAdd.hAdd x3) ic_1) (Nat.le_of_ble_eq_true rfl) (pv_i rfl) ?_
        refine sm_goto (tgt := 4) dX1_cheapestFor_71 (by decide) ?_
        exact Sm_weak (le_s rfl (le_s rfl (le_s rfl (le_s rfl le_0)))) (ih x1 x2 (x3 + 1) μ h)
      · replace h := it_f g3 h
        refine sm_iload_n dX1_cheapestFor_28 rfl rfl ?_
        refine sm_iconst dX1_cheapestFor_29 ic_m1 ?_
        refine sm_icmp_eq (tgt := 48) dX1_cheapestFor_30 (by decide) (fun g4 => ?_) (fun g4 => ?_)
        · replace h := it_t g4 h
          exact Sm_weak (le_s rfl (le_s rfl (le_s rfl (le_s rfl le_0)))) (s_Co_cheapestFor_B48 hD N hk_c ih x1 x2 x3 μ h)
        · replace h := it_f g4 h
          refine sm_aload_n dX1_cheapestFor_33 rfl rfl ?_
          refine sm_getR dX1_cheapestFor_34 fg_RX1_18 hk_c (rf_1_2 hk_c) ?_
          refine sm_iload_n dX1_cheapestFor_37 rfl rfl ?_
          obtain ⟨g8, h⟩ := gd_some h
          refine sm_iald (j := (Int32.toNatClampNeg x3)) dX1_cheapestFor_38 (kk_1_2 hk_c) (in_sz (kn_1_2 hk_c) g8) rfl ?_
          refine sm_aload_n dX1_cheapestFor_39 rfl rfl ?_
          refine sm_getR dX1_cheapestFor_40 fg_RX1_18 hk_c (rf_1_2 hk_c) ?_
          refine sm_iload_n dX1_cheapestFor_43 rfl rfl ?_
          obtain ⟨g9, h⟩ := gd_some h
          refine sm_iald (j := (Int32.toNatClampNeg x2)) dX1_cheapestFor_44 (kk_1_2 hk_c) (in_sz (kn_1_2 hk_c) g9) rfl ?_
          refine sm_icmp_ge (tgt := 68) dX1_cheapestFor_45 (by decide) (fun g10 => ?_) (fun g10 => ?_)
          · replace h := it_t g10 h
            refine sm_iinc dX1_cheapestFor_68 rfl (congrArg (HAdd.hAdd x3) ic_1) (Nat.le_of_ble_eq_true rfl) (pv_i rfl) ?_
            refine sm_goto (tgt := 4) dX1_cheapestFor_71 (by decide) ?_
            exact Sm_weak (le_s rfl (le_s rfl (le_s rfl (le_s rfl le_0)))) (ih x1 x2 (x3 + 1) μ h)
          · replace h := it_f g10 h
            exact Sm_weak (le_s rfl (le_s rfl (le_s rfl (le_s rfl le_0)))) (s_Co_cheapestFor_B48 hD N hk_c ih x1 x2 x3 μ h)
set_option maxRecDepth 100000 in
set_option maxHeartbeats 4000000 in
theorem s_Co_cheapestFor {D : Nat} (hD : 3 ≤ D) (N : Nat) {c : Nat} (hk_c : sh_k c = 1) {x1 : Int32} {μ : MM} {r : Int32} {μr : MM} (h : f_Co_cheapestFor N c x1 μ = some (r, μr)) : Cl D mX1_cheapestFor [av_r c, av_i x1] μ (po_i r μr) := by
  obtain ⟨d, rfl⟩ : ∃ d, D = d + 1 := ⟨D - 1, by omega⟩
  refine Cl_of pn_X1 (Nat.le_of_ble_eq_true rfl) ?_
  show Sm (d + 1) mX1_cheapestFor 0 [some (av_r c), some (av_i x1), none, none] [] μ (po_i r μr)
  unfold f_Co_cheapestFor at h
  refine sm_iconst dX1_cheapestFor_0 ic_m1 ?_
  refine sm_istore_n dX1_cheapestFor_1 rfl (Nat.le_of_ble_eq_true rfl) (pv_i rfl) ?_
  refine sm_iconst dX1_cheapestFor_2 ic_0 ?_
  refine sm_istore_n dX1_cheapestFor_3 rfl (Nat.le_of_ble_eq_true rfl) (pv_i rfl) ?_
  exact Sm_weak (le_s rfl (le_s rfl (le_s rfl (le_s rfl le_0)))) (s_Co_cheapestFor_L4 hD N hk_c N x1 (-1) 0 μ h)
set_option maxRecDepth 100000 in
set_option maxHeartbeats 4000000 in
theorem s_Ag_changeThings_L4 {D : Nat} (hD : 4 ≤ D) (N : Nat) {r : Int32} {μr : MM} : ∀ (n : Nat) (x1 : Int32) (x2 : Int32) (μ : MM), f_Ag_changeThings_L4 N n x1 x2 μ = some (r, μr) → Sm D mX0_changeThings 4 [some (av_r 48), some (av_i x1), some (av_i x2), none] [] μ (po_i r μr) := by
  obtain ⟨d, rfl⟩ : ∃ d, D = d + 1 := ⟨D - 1, by omega⟩
  intro n
  induction n with
  | zero => intro x1 x2 μ h; cases (show none = some (r, μr) from h)
  | succ n ih =>
    intro x1 x2 μ h
    rw [f_Ag_changeThings_L4] at h
    refine sm_iload_n dX0_changeThings_4 rfl rfl ?_
    refine sm_aload_n dX0_changeThings_5 rfl rfl ?_
    refine sm_getR dX0_changeThings_6 fg_RX0_18 k_48 (rf_0_1 k_48) ?_
    refine sm_getI dX0_changeThings_9 fg_RX0_36 k_23 ?_
    refine sm_icmp_ge (tgt := 86) dX0_changeThings_12 (by decide) (fun g1 => ?_) (fun g1 => ?_)
    · replace h := it_t g1 h
      refine sm_iload_n dX0_changeThings_86 rfl rfl ?_
      cases h
      exact sm_ret_i (st := []) dX0_changeThings_87 rfl ⟨rfl, rfl⟩
    · replace h := it_f g1 h
      refine sm_aload_n dX0_changeThings_15 rfl rfl ?_
      refine sm_getR dX0_changeThings_16 fg_RX0_18 k_48 (rf_0_1 k_48) ?_
      refine sm_iload_n dX0_changeThings_19 rfl rfl ?_
      obtain ⟨t20, μ1z, g2, h⟩ := ob_some h
      refine sm_callV dX0_changeThings_20 cv_X1_isRight ml_RX0_100 k_23 rfl rfl (by decide) (as := [av_i x2]) rfl (Nat.le_of_ble_eq_true rfl) rfl (s_Co_isRight (D := d) (by omega) N k_23 g2) (fun r9 μ9 hp => ?_)
      rw [hp.1, hp.2]
      clear hp r9 μ9
      refine sm_if_ne (tgt := 80) dX0_changeThings_23 (by decide) (fun g3 => ?_) (fun g3 => ?_)
      · replace h := it_f g3 h
        refine sm_iinc dX0_changeThings_80 rfl (congrArg (HAdd.hAdd x2) ic_1) (Nat.le_of_ble_eq_true rfl) (pv_i rfl) ?_
        refine sm_goto (tgt := 4) dX0_changeThings_83 (by decide) ?_
        exact Sm_weak (le_s rfl (le_s rfl (le_s rfl (le_n le_0)))) (ih x1 (x2 + 1) μ1z h)
      · replace h := it_t g3 h
        refine sm_aload_n dX0_changeThings_26 rfl rfl ?_
        refine sm_getR dX0_changeThings_27 fg_RX0_18 k_48 (rf_0_1 k_48) ?_
        refine sm_iload_n dX0_changeThings_30 rfl rfl ?_
        obtain ⟨t31, μ2z, g4, h⟩ := ob_some h
        refine sm_callV dX0_changeThings_31 cv_X1_cheapestFor ml_RX0_104 k_23 rfl rfl (by decide) (as := [av_i x2]) rfl (Nat.le_of_ble_eq_true rfl) rfl (s_Co_cheapestFor (D := d) (by omega) N k_23 g4) (fun r9 μ9 hp => ?_)
        rw [hp.1, hp.2]
        clear hp r9 μ9
        refine sm_istore_n dX0_changeThings_34 rfl (Nat.le_of_ble_eq_true rfl) (pv_i rfl) ?_
        refine sm_iload_n dX0_changeThings_35 rfl rfl ?_
        refine sm_iconst dX0_changeThings_36 ic_m1 ?_
        refine sm_icmp_eq (tgt := 80) dX0_changeThings_37 (by decide) (fun g5 => ?_) (fun g5 => ?_)
        · replace h := it_t g5 h
          refine sm_iinc dX0_changeThings_80 rfl (congrArg (HAdd.hAdd x2) ic_1) (Nat.le_of_ble_eq_true rfl) (pv_i rfl) ?_
          refine sm_goto (tgt := 4) dX0_changeThings_83 (by decide) ?_
          exact Sm_weak (le_s rfl (le_s rfl (le_s rfl (le_n le_0)))) (ih x1 (x2 + 1) μ2z h)
        · replace h := it_f g5 h
          refine sm_aload_n dX0_changeThings_40 rfl rfl ?_
          refine sm_getR dX0_changeThings_41 fg_RX0_18 k_48 (rf_0_1 k_48) ?_
          refine sm_getR dX0_changeThings_44 fg_RX0_26 k_23 (rf_1_5 k_23) ?_
          refine sm_getR dX0_changeThings_47 fg_RX0_108 k_27 (rf_7_1 k_27) ?_
          refine sm_iload_n dX0_changeThings_50 rfl rfl ?_
          refine sm_iload_n dX0_changeThings_51 rfl rfl ?_
          obtain ⟨g6, h⟩ := gd_some h
          refine sm_iast (j := (Int32.toNatClampNeg x2)) dX0_changeThings_52 k_33 (in_sz n_33 g6) rfl ?_
          replace h := wr_some h
          refine sm_aload_n dX0_changeThings_53 rfl rfl ?_
          refine sm_getR dX0_changeThings_54 fg_RX0_18 k_48 (rf_0_1 k_48) ?_
          refine sm_getR dX0_changeThings_57 fg_RX0_26 k_23 (rf_1_5 k_23) ?_
          refine sm_dup dX0_changeThings_60 rfl ?_
          refine sm_getI dX0_changeThings_61 fg_RX0_111 k_27 ?_
          refine sm_aload_n dX0_changeThings_64 rfl rfl ?_
          refine sm_getR dX0_changeThings_65 fg_RX0_18 k_48 (rf_0_1 k_48) ?_
          refine sm_getR dX0_changeThings_68 fg_RX0_114 k_23 (rf_1_2 k_23) ?_
          refine sm_iload_n dX0_changeThings_71 rfl rfl ?_
          obtain ⟨g7, h⟩ := gd_some h
          refine sm_iald (j := (Int32.toNatClampNeg t31)) dX0_changeThings_72 k_24 (in_sz n_24 g7) rfl ?_
          refine sm_isub dX0_changeThings_73 ?_
          refine sm_putI dX0_changeThings_74 fp_RX0_111 k_27 ?_
          replace h := wr_some h
          refine sm_iinc dX0_changeThings_77 rfl (congrArg (HAdd.hAdd x1) ic_1) (Nat.le_of_ble_eq_true rfl) (pv_r rfl) ?_
          refine sm_iinc dX0_changeThings_80 rfl (congrArg (HAdd.hAdd x2) ic_1) (Nat.le_of_ble_eq_true rfl) (pv_i rfl) ?_
          refine sm_goto (tgt := 4) dX0_changeThings_83 (by decide) ?_
          exact Sm_weak (le_s rfl (le_s rfl (le_s rfl (le_n le_0)))) (ih (x1 + 1) (x2 + 1) (mm_I (mm_I μ2z 33 (Int32.toNatClampNeg x2) t31) 27 3 (((mm_I μ2z 33 (Int32.toNatClampNeg x2) t31).1 27 3) - ((mm_I μ2z 33 (Int32.toNatClampNeg x2) t31).1 24 (Int32.toNatClampNeg t31)))) h)
set_option maxRecDepth 100000 in
set_option maxHeartbeats 4000000 in
theorem s_Ag_changeThings {D : Nat} (hD : 4 ≤ D) (N : Nat) {μ : MM} {r : Int32} {μr : MM} (h : f_Ag_changeThings N μ = some (r, μr)) : Cl D mX0_changeThings [av_r 48] μ (po_i r μr) := by
  obtain ⟨d, rfl⟩ : ∃ d, D = d + 1 := ⟨D - 1, by omega⟩
  refine Cl_of pn_X0 (Nat.le_of_ble_eq_true rfl) ?_
  show Sm (d + 1) mX0_changeThings 0 [some (av_r 48), none, none, none] [] μ (po_i r μr)
  unfold f_Ag_changeThings at h
  refine sm_iconst dX0_changeThings_0 ic_0 ?_
  refine sm_istore_n dX0_changeThings_1 rfl (Nat.le_of_ble_eq_true rfl) (pv_r rfl) ?_
  refine sm_iconst dX0_changeThings_2 ic_0 ?_
  refine sm_istore_n dX0_changeThings_3 rfl (Nat.le_of_ble_eq_true rfl) (pv_i rfl) ?_
  exact Sm_weak (le_s rfl (le_s rfl (le_s rfl (le_n le_0)))) (s_Ag_changeThings_L4 hD N N 0 0 μ h)
set_option maxRecDepth 100000 in
set_option maxHeartbeats 4000000 in
theorem s_Co_wrongCards_L4 {D : Nat} (hD : 4 ≤ D) (N : Nat) {c : Nat} (hk_c : sh_k c = 1) {r : Int32} {μr : MM} : ∀ (n : Nat) (x1 : Int32) (x2 : Int32) (μ : MM), f_Co_wrongCards_L4 N c n x1 x2 μ = some (r, μr) → Sm D mX1_wrongCards 4 [some (av_r c), some (av_i x1), some (av_i x2)] [] μ (po_i r μr) := by
  obtain ⟨d, rfl⟩ : ∃ d, D = d + 1 := ⟨D - 1, by omega⟩
  intro n
  induction n with
  | zero => intro x1 x2 μ h; cases (show none = some (r, μr) from h)
  | succ n ih =>
    intro x1 x2 μ h
    rw [f_Co_wrongCards_L4] at h
    refine sm_iload_n dX1_wrongCards_4 rfl rfl ?_
    refine sm_aload_n dX1_wrongCards_5 rfl rfl ?_
    refine sm_getI dX1_wrongCards_6 fg_RX1_15 hk_c ?_
    refine sm_icmp_ge (tgt := 29) dX1_wrongCards_9 (by decide) (fun g1 => ?_) (fun g1 => ?_)
    · replace h := it_t g1 h
      refine sm_iload_n dX1_wrongCards_29 rfl rfl ?_
      cases h
      exact sm_ret_i (st := []) dX1_wrongCards_30 rfl ⟨rfl, rfl⟩
    · replace h := it_f g1 h
      refine sm_aload_n dX1_wrongCards_12 rfl rfl ?_
      refine sm_iload_n dX1_wrongCards_13 rfl rfl ?_
      obtain ⟨t14, μ1z, g2, h⟩ := ob_some h
      refine sm_callV dX1_wrongCards_14 cv_X1_isRight ml_RX1_94 hk_c rfl rfl (by decide) (as := [av_i x2]) rfl (Nat.le_of_ble_eq_true rfl) rfl (s_Co_isRight (D := d) (by omega) N hk_c g2) (fun r9 μ9 hp => ?_)
      rw [hp.1, hp.2]
      clear hp r9 μ9
      have hj17 : ∀ (v17_0 : Int32), v17_0 = (if t14 = 0 then (x1 + 1) else x1) → Sm (d + 1) mX1_wrongCards 23 [some (av_r c), some (av_i v17_0), some (av_i x2)] [] μ1z (po_i r μr) := by
        intro v17_0 ev17_0
        subst ev17_0
        refine sm_iinc dX1_wrongCards_23 rfl (congrArg (HAdd.hAdd x2) ic_1) (Nat.le_of_ble_eq_true rfl) (pv_i rfl) ?_
        refine sm_goto (tgt := 4) dX1_wrongCards_26 (by decide) ?_
        exact Sm_weak (le_s rfl (le_s rfl (le_s rfl le_0))) (ih (if t14 = 0 then (x1 + 1) else x1) (x2 + 1) μ1z h)
      refine sm_if_ne (tgt := 23) dX1_wrongCards_17 (by decide) (fun c17_0 => ?_) (fun c17_0 => ?_)
      · exact Sm_weak (le_s rfl (le_s rfl (le_s rfl le_0))) (hj17 _ (if_neg c17_0).symm)
      · refine sm_iinc dX1_wrongCards_20 rfl (congrArg (HAdd.hAdd x1) ic_1) (Nat.le_of_ble_eq_true rfl) (pv_r rfl) ?_
        exact Sm_weak (le_s rfl (le_s rfl (le_s rfl le_0))) (hj17 _ (if_pos c17_0).symm)
set_option maxRecDepth 100000 in
set_option maxHeartbeats 4000000 in
theorem s_Co_wrongCards {D : Nat} (hD : 4 ≤ D) (N : Nat) {c : Nat} (hk_c : sh_k c = 1) {μ : MM} {r : Int32} {μr : MM} (h : f_Co_wrongCards N c μ = some (r, μr)) : Cl D mX1_wrongCards [av_r c] μ (po_i r μr) := by
  obtain ⟨d, rfl⟩ : ∃ d, D = d + 1 := ⟨D - 1, by omega⟩
  refine Cl_of pn_X1 (Nat.le_of_ble_eq_true rfl) ?_
  show Sm (d + 1) mX1_wrongCards 0 [some (av_r c), none, none] [] μ (po_i r μr)
  unfold f_Co_wrongCards at h
  refine sm_iconst dX1_wrongCards_0 ic_0 ?_
  refine sm_istore_n dX1_wrongCards_1 rfl (Nat.le_of_ble_eq_true rfl) (pv_r rfl) ?_
  refine sm_iconst dX1_wrongCards_2 ic_0 ?_
  refine sm_istore_n dX1_wrongCards_3 rfl (Nat.le_of_ble_eq_true rfl) (pv_i rfl) ?_
  exact Sm_weak (le_s rfl (le_s rfl (le_s rfl le_0))) (s_Co_wrongCards_L4 hD N hk_c N 0 0 μ h)
set_option maxRecDepth 100000 in
set_option maxHeartbeats 4000000 in
theorem s_Ag_passDay_L18 {D : Nat} (hD : 6 ≤ D) (N : Nat) {μr : MM} : ∀ (n : Nat) (x2 : Int32) (x3 : Int32) (μ : MM), f_Ag_passDay_L18 N n x2 x3 μ = some μr → Sm D mX0_passDay 18 [some (av_r 48), some (av_r 27), some (av_i x2), some (av_i x3), none, none] [] μ (po_v μr) := by
  obtain ⟨d, rfl⟩ : ∃ d, D = d + 1 := ⟨D - 1, by omega⟩
  intro n
  induction n with
  | zero => intro x2 x3 μ h; cases (show none = some μr from h)
  | succ n ih =>
    intro x2 x3 μ h
    rw [f_Ag_passDay_L18] at h
    refine sm_iload_n dX0_passDay_18 rfl rfl ?_
    refine sm_aload_n dX0_passDay_19 rfl rfl ?_
    refine sm_getR dX0_passDay_20 fg_RX0_18 k_48 (rf_0_1 k_48) ?_
    refine sm_getI dX0_passDay_23 fg_RX0_36 k_23 ?_
    refine sm_icmp_ge (tgt := 40) dX0_passDay_26 (by decide) (fun g2 => ?_) (fun g2 => ?_)
    · replace h := it_t g2 h
      refine sm_aload_n dX0_passDay_40 rfl rfl ?_
      refine sm_getR dX0_passDay_41 fg_RX0_18 k_48 (rf_0_1 k_48) ?_
      obtain ⟨t44, μ2z, g3, h⟩ := ob_some h
      refine sm_callV dX0_passDay_44 cv_X1_goneWords ml_RX0_32 k_23 rfl rfl (by decide) (as := []) rfl (Nat.le_of_ble_eq_true rfl) rfl (s_Co_goneWords (D := d) (by omega) N k_23 g3) (fun r9 μ9 hp => ?_)
      rw [hp.1, hp.2]
      clear hp r9 μ9
      refine sm_iload_n dX0_passDay_47 rfl rfl ?_
      refine sm_isub dX0_passDay_48 ?_
      refine sm_istore_n dX0_passDay_49 rfl (Nat.le_of_ble_eq_true rfl) (pv_i rfl) ?_
      refine sm_aload_n dX0_passDay_50 rfl rfl ?_
      refine sm_getI dX0_passDay_51 fg_RX0_44 k_27 ?_
      refine sm_istore dX0_passDay_54 (Nat.le_of_ble_eq_true rfl) (pv_i rfl) ?_
      refine sm_aload_n dX0_passDay_56 rfl rfl ?_
      refine sm_dup dX0_passDay_57 rfl ?_
      refine sm_getI dX0_passDay_58 fg_RX0_44 k_27 ?_
      refine sm_iconst dX0_passDay_61 ic_1 ?_
      refine sm_iadd dX0_passDay_62 ?_
      refine sm_putI dX0_passDay_63 fp_RX0_44 k_27 ?_
      replace h := wr_some h
      refine sm_aload_n dX0_passDay_66 rfl rfl ?_
      obtain ⟨t67, μ4z, g4, h⟩ := ob_some h
      refine sm_callV dX0_passDay_67 cv_X0_changeThings ml_RX0_49 k_48 rfl rfl (by decide) (as := []) rfl (Nat.le_of_ble_eq_true rfl) rfl (s_Ag_changeThings (D := d) (by omega) N g4) (fun r9 μ9 hp => ?_)
      rw [hp.1, hp.2]
      clear hp r9 μ9
      refine sm_istore dX0_passDay_70 (Nat.le_of_ble_eq_true rfl) (pv_i rfl) ?_
      refine sm_aload_n dX0_passDay_72 rfl rfl ?_
      refine sm_getR dX0_passDay_73 fg_RX0_11 k_48 (rf_0_0 k_48) ?_
      refine sm_iload dX0_passDay_76 rfl ?_
      refine sm_bipush dX0_passDay_78 bp_127 ?_
      refine sm_iand dX0_passDay_80 ?_
      refine sm_iload dX0_passDay_81 rfl ?_
      refine sm_bipush dX0_passDay_83 bp_16 ?_
      refine sm_aload_n dX0_passDay_85 rfl rfl ?_
      refine sm_getR dX0_passDay_86 fg_RX0_18 k_48 (rf_0_1 k_48) ?_
      obtain ⟨t89, μ5z, g5, h⟩ := ob_some h
      refine sm_callV dX0_passDay_89 cv_X1_wrongCards ml_RX0_52 k_23 rfl rfl (by decide) (as := []) rfl (Nat.le_of_ble_eq_true rfl) rfl (s_Co_wrongCards (D := d) (by omega) N k_23 g5) (fun r9 μ9 hp => ?_)
      rw [hp.1, hp.2]
      clear hp r9 μ9
      refine sm_imul dX0_passDay_92 ?_
      refine sm_iadd dX0_passDay_93 ?_
      refine sm_sipush dX0_passDay_94 sp_256 ?_
      refine sm_iload_n dX0_passDay_97 rfl rfl ?_
      refine sm_imul dX0_passDay_98 ?_
      refine sm_iadd dX0_passDay_99 ?_
      obtain ⟨g6, h⟩ := gd_some h
      refine sm_iast (j := (Int32.toNatClampNeg ((μ2z.1 27 4) &&& 127))) dX0_passDay_100 k_49 (in_sz n_49 g6) rfl ?_
      replace h := wr_some h
      cases h
      exact sm_ret_v (st := []) dX0_passDay_101 rfl ⟨rfl, rfl⟩
    · replace h := it_f g2 h
      refine sm_aload_n dX0_passDay_29 rfl rfl ?_
      refine sm_iload_n dX0_passDay_30 rfl rfl ?_
      obtain ⟨μ7z, g7, h⟩ := obv_some h
      refine sm_callV dX0_passDay_31 cv_X0_fadeCard ml_RX0_40 k_48 rfl rfl (by decide) (as := [av_i x3]) rfl (Nat.le_of_ble_eq_true rfl) rfl (s_Ag_fadeCard (D := d) (by omega) N g7) (fun r9 μ9 hp => ?_)
      rw [hp.1, hp.2]
      clear hp r9 μ9
      refine sm_iinc dX0_passDay_34 rfl (congrArg (HAdd.hAdd x3) ic_1) (Nat.le_of_ble_eq_true rfl) (pv_i rfl) ?_
      refine sm_goto (tgt := 18) dX0_passDay_37 (by decide) ?_
      exact Sm_weak (le_s rfl (le_s rfl (le_s rfl (le_s rfl (le_n (le_n le_0)))))) (ih x2 (x3 + 1) μ7z h)
set_option maxRecDepth 100000 in
set_option maxHeartbeats 4000000 in
theorem s_Ag_passDay {D : Nat} (hD : 6 ≤ D) (N : Nat) {μ : MM} {μr : MM} (h : f_Ag_passDay N μ = some μr) : Cl D mX0_passDay [av_r 48] μ (po_v μr) := by
  obtain ⟨d, rfl⟩ : ∃ d, D = d + 1 := ⟨D - 1, by omega⟩
  refine Cl_of pn_X0 (Nat.le_of_ble_eq_true rfl) ?_
  show Sm (d + 1) mX0_passDay 0 [some (av_r 48), none, none, none, none, none] [] μ (po_v μr)
  unfold f_Ag_passDay at h
  refine sm_aload_n dX0_passDay_0 rfl rfl ?_
  refine sm_getR dX0_passDay_1 fg_RX0_18 k_48 (rf_0_1 k_48) ?_
  refine sm_getR dX0_passDay_4 fg_RX0_26 k_23 (rf_1_5 k_23) ?_
  refine sm_astore_n dX0_passDay_7 rfl (Nat.le_of_ble_eq_true rfl) (pv_r rfl) ?_
  refine sm_aload_n dX0_passDay_8 rfl rfl ?_
  refine sm_getR dX0_passDay_9 fg_RX0_18 k_48 (rf_0_1 k_48) ?_
  obtain ⟨t12, μ1z, g1, h⟩ := ob_some h
  refine sm_callV dX0_passDay_12 cv_X1_goneWords ml_RX0_32 k_23 rfl rfl (by decide) (as := []) rfl (Nat.le_of_ble_eq_true rfl) rfl (s_Co_goneWords (D := d) (by omega) N k_23 g1) (fun r9 μ9 hp => ?_)
  rw [hp.1, hp.2]
  clear hp r9 μ9
  refine sm_istore_n dX0_passDay_15 rfl (Nat.le_of_ble_eq_true rfl) (pv_r rfl) ?_
  refine sm_iconst dX0_passDay_16 ic_0 ?_
  refine sm_istore_n dX0_passDay_17 rfl (Nat.le_of_ble_eq_true rfl) (pv_i rfl) ?_
  exact Sm_weak (le_s rfl (le_s rfl (le_s rfl (le_s rfl (le_n (le_n le_0)))))) (s_Ag_passDay_L18 hD N N t12 0 μ1z h)
set_option maxRecDepth 100000 in
set_option maxHeartbeats 4000000 in
theorem s_Ag_logLength {D : Nat} (hD : 1 ≤ D) (N : Nat) {μ : MM} {r : Int32} {μr : MM} (h : f_Ag_logLength N μ = some (r, μr)) : Cl D mX0_logLength [av_r 48] μ (po_i r μr) := by
  obtain ⟨d, rfl⟩ : ∃ d, D = d + 1 := ⟨D - 1, by omega⟩
  refine Cl_of pn_X0 (Nat.le_of_ble_eq_true rfl) ?_
  show Sm (d + 1) mX0_logLength 0 [some (av_r 48)] [] μ (po_i r μr)
  unfold f_Ag_logLength at h
  refine sm_bipush dX0_logLength_0 bp_60 ?_
  refine sm_aload_n dX0_logLength_2 rfl rfl ?_
  refine sm_getR dX0_logLength_3 fg_RX0_18 k_48 (rf_0_1 k_48) ?_
  refine sm_getR dX0_logLength_6 fg_RX0_26 k_23 (rf_1_5 k_23) ?_
  refine sm_getI dX0_logLength_9 fg_RX0_44 k_27 ?_
  refine sm_min dX0_logLength_12 ml_RX0_91 (Nat.le_of_ble_eq_true rfl) ?_
  cases h
  exact sm_ret_i (st := []) dX0_logLength_15 rfl ⟨rfl, rfl⟩
set_option maxRecDepth 100000 in
set_option maxHeartbeats 4000000 in
theorem s_Ag_logged {D : Nat} (hD : 2 ≤ D) (N : Nat) {x1 : Int32} {x2 : Int32} {μ : MM} {r : Int32} {μr : MM} (h : f_Ag_logged N x1 x2 μ = some (r, μr)) : Cl D mX0_logged [av_r 48, av_i x1, av_i x2] μ (po_i r μr) := by
  obtain ⟨d, rfl⟩ : ∃ d, D = d + 1 := ⟨D - 1, by omega⟩
  refine Cl_of pn_X0 (Nat.le_of_ble_eq_true rfl) ?_
  show Sm (d + 1) mX0_logged 0 [some (av_r 48), some (av_i x1), some (av_i x2), none] [] μ (po_i r μr)
  unfold f_Ag_logged at h
  refine sm_iload_n dX0_logged_0 rfl rfl ?_
  refine sm_if_lt (tgt := 21) dX0_logged_1 (by decide) (fun g1 => ?_) (fun g1 => ?_)
  · replace h := it_t g1 h
    refine sm_iconst dX0_logged_21 ic_m1 ?_
    cases h
    exact sm_ret_i (st := []) dX0_logged_22 rfl ⟨rfl, rfl⟩
  · replace h := it_f g1 h
    refine sm_iload_n dX0_logged_4 rfl rfl ?_
    refine sm_aload_n dX0_logged_5 rfl rfl ?_
    obtain ⟨t6, μ1z, g2, h⟩ := ob_some h
    refine sm_callV dX0_logged_6 cv_X0_logLength ml_RX0_117 k_48 rfl rfl (by decide) (as := []) rfl (Nat.le_of_ble_eq_true rfl) rfl (s_Ag_logLength (D := d) (by omega) N g2) (fun r9 μ9 hp => ?_)
    rw [hp.1, hp.2]
    clear hp r9 μ9
    refine sm_icmp_ge (tgt := 21) dX0_logged_9 (by decide) (fun g3 => ?_) (fun g3 => ?_)
    · replace h := it_t g3 h
      refine sm_iconst dX0_logged_21 ic_m1 ?_
      cases h
      exact sm_ret_i (st := []) dX0_logged_22 rfl ⟨rfl, rfl⟩
    · replace h := it_f g3 h
      refine sm_iload_n dX0_logged_12 rfl rfl ?_
      refine sm_if_lt (tgt := 21) dX0_logged_13 (by decide) (fun g4 => ?_) (fun g4 => ?_)
      · replace h := it_t g4 h
        refine sm_iconst dX0_logged_21 ic_m1 ?_
        cases h
        exact sm_ret_i (st := []) dX0_logged_22 rfl ⟨rfl, rfl⟩
      · replace h := it_f g4 h
        refine sm_iload_n dX0_logged_16 rfl rfl ?_
        refine sm_iconst dX0_logged_17 ic_2 ?_
        refine sm_icmp_le (tgt := 23) dX0_logged_18 (by decide) (fun g5 => ?_) (fun g5 => ?_)
        · replace h := it_t g5 h
          refine sm_aload_n dX0_logged_23 rfl rfl ?_
          refine sm_getR dX0_logged_24 fg_RX0_11 k_48 (rf_0_0 k_48) ?_
          refine sm_aload_n dX0_logged_27 rfl rfl ?_
          refine sm_getR dX0_logged_28 fg_RX0_18 k_48 (rf_0_1 k_48) ?_
          refine sm_getR dX0_logged_31 fg_RX0_26 k_23 (rf_1_5 k_23) ?_
          refine sm_getI dX0_logged_34 fg_RX0_44 k_27 ?_
          refine sm_iconst dX0_logged_37 ic_1 ?_
          refine sm_isub dX0_logged_38 ?_
          refine sm_iload_n dX0_logged_39 rfl rfl ?_
          refine sm_isub dX0_logged_40 ?_
          refine sm_bipush dX0_logged_41 bp_127 ?_
          refine sm_iand dX0_logged_43 ?_
          obtain ⟨g6, h⟩ := gd_some h
          refine sm_iald (j := (Int32.toNatClampNeg ((((μ1z.1 27 4) - 1) - x1) &&& 127))) dX0_logged_44 k_49 (in_sz n_49 g6) rfl ?_
          refine sm_istore_n dX0_logged_45 rfl (Nat.le_of_ble_eq_true rfl) (pv_i rfl) ?_
          refine sm_iload_n dX0_logged_46 rfl rfl ?_
          refine sm_if_ne (tgt := 55) dX0_logged_47 (by decide) (fun g7 => ?_) (fun g7 => ?_)
          · replace h := it_f g7 h
            refine sm_iload_n dX0_logged_55 rfl rfl ?_
            refine sm_iconst dX0_logged_56 ic_1 ?_
            have hj57 : ∀ (v57_0 : Int32), v57_0 = (if x2 = 1 then (((μ1z.1 49 (Int32.toNatClampNeg ((((μ1z.1 27 4) - 1) - x1) &&& 127))) >>> ((4 : Int32) &&& 31)) &&& 15) else ((μ1z.1 49 (Int32.toNatClampNeg ((((μ1z.1 27 4) - 1) - x1) &&& 127))) >>> ((8 : Int32) &&& 31))) → Sm (d + 1) mX0_logged 73 [none, none, none, none] [av_i v57_0] μ1z (po_i r μr) := by
              intro v57_0 ev57_0
              subst ev57_0
              cases h
              exact sm_ret_i (st := []) dX0_logged_73 rfl ⟨rfl, rfl⟩
            refine sm_icmp_ne (tgt := 69) dX0_logged_57 (by decide) (fun c57_0 => ?_) (fun c57_0 => ?_)
            · refine sm_iload_n dX0_logged_69 rfl rfl ?_
              refine sm_bipush dX0_logged_70 bp_8 ?_
              refine sm_ishr dX0_logged_72 ?_
              exact Sm_weak (le_n (le_n (le_n (le_n le_0)))) (hj57 _ (if_neg c57_0).symm)
            · refine sm_iload_n dX0_logged_60 rfl rfl ?_
              refine sm_iconst dX0_logged_61 ic_4 ?_
              refine sm_ishr dX0_logged_62 ?_
              refine sm_bipush dX0_logged_63 bp_15 ?_
              refine sm_iand dX0_logged_65 ?_
              refine sm_goto (tgt := 73) dX0_logged_66 (by decide) ?_
              exact Sm_weak (le_n (le_n (le_n (le_n le_0)))) (hj57 _ (if_pos c57_0).symm)
          · replace h := it_t g7 h
            refine sm_iload_n dX0_logged_50 rfl rfl ?_
            refine sm_bipush dX0_logged_51 bp_15 ?_
            refine sm_iand dX0_logged_53 ?_
            cases h
            exact sm_ret_i (st := []) dX0_logged_54 rfl ⟨rfl, rfl⟩
        · replace h := it_f g5 h
          refine sm_iconst dX0_logged_21 ic_m1 ?_
          cases h
          exact sm_ret_i (st := []) dX0_logged_22 rfl ⟨rfl, rfl⟩
set_option maxRecDepth 100000 in
set_option maxHeartbeats 4000000 in
theorem s_Ag_daysTillBlank_L71 {D : Nat} (hD : 5 ≤ D) (N : Nat) {r : Int32} {μr : MM} {k58 : Int32 → Int32 → Int32 → MM → Option (Int32 × MM)} (hk58 : ∀ (x1 : Int32) (x3 : Int32) (x4 : Int32) (μ : MM), k58 x1 x3 x4 μ = some (r, μr) → Sm D mX0_daysTillBlank 58 [some (av_r 48), some (av_i x1), some (av_r 27), some (av_i x3), some (av_i x4), none, none] [] μ (po_i r μr)) : ∀ (n : Nat) (x1 : Int32) (x3 : Int32) (x4 : Int32) (x5 : Int32) (x6 : Int32) (μ : MM), f_Ag_daysTillBlank_L71 N k58 n x1 x3 x4 x5 x6 μ = some (r, μr) → Sm D mX0_daysTillBlank 71 [some (av_r 48), some (av_i x1), some (av_r 27), some (av_i x3), some (av_i x4), some (av_i x5), some (av_i x6)] [] μ (po_i r μr) := by
  obtain ⟨d, rfl⟩ : ∃ d, D = d + 1 := ⟨D - 1, by omega⟩
  intro n
  induction n with
  | zero => intro x1 x3 x4 x5 x6 μ h; cases (show none = some (r, μr) from h)
  | succ n ih =>
    intro x1 x3 x4 x5 x6 μ h
    rw [f_Ag_daysTillBlank_L71] at h
    refine sm_iload dX0_daysTillBlank_71 rfl ?_
    refine sm_iload_n dX0_daysTillBlank_73 rfl rfl ?_
    refine sm_icmp_ge (tgt := 123) dX0_daysTillBlank_74 (by decide) (fun g4 => ?_) (fun g4 => ?_)
    · replace h := it_t g4 h
      refine sm_iload dX0_daysTillBlank_123 rfl ?_
      refine sm_if_ne (tgt := 131) dX0_daysTillBlank_125 (by decide) (fun g5 => ?_) (fun g5 => ?_)
      · replace h := it_f g5 h
        refine sm_iinc dX0_daysTillBlank_131 rfl (congrArg (HAdd.hAdd x4) ic_1) (Nat.le_of_ble_eq_true rfl) (pv_i rfl) ?_
        refine sm_goto (tgt := 58) dX0_daysTillBlank_134 (by decide) ?_
        exact Sm_weak (le_s rfl (le_s rfl (le_s rfl (le_s rfl (le_s rfl (le_n (le_n le_0))))))) (hk58 x1 x3 (x4 + 1) μ h)
      · replace h := it_t g5 h
        refine sm_iload dX0_daysTillBlank_128 rfl ?_
        cases h
        exact sm_ret_i (st := []) dX0_daysTillBlank_130 rfl ⟨rfl, rfl⟩
    · replace h := it_f g4 h
      refine sm_iload dX0_daysTillBlank_77 rfl ?_
      refine sm_aload_n dX0_daysTillBlank_79 rfl rfl ?_
      refine sm_getR dX0_daysTillBlank_80 fg_RX0_15 k_48 (rf_0_3 k_48) ?_
      refine sm_iload dX0_daysTillBlank_83 rfl ?_
      obtain ⟨g6, h⟩ := gd_some h
      refine sm_iald (j := (Int32.toNatClampNeg x6)) dX0_daysTillBlank_85 k_50 (in_sz n_50 g6) rfl ?_
      refine sm_iadd dX0_daysTillBlank_86 ?_
      refine sm_istore dX0_daysTillBlank_87 (Nat.le_of_ble_eq_true rfl) (pv_i rfl) ?_
      refine sm_aload_n dX0_daysTillBlank_89 rfl rfl ?_
      refine sm_getR dX0_daysTillBlank_90 fg_RX0_15 k_48 (rf_0_3 k_48) ?_
      refine sm_iload dX0_daysTillBlank_93 rfl ?_
      refine sm_aload_n dX0_daysTillBlank_95 rfl rfl ?_
      refine sm_iload_n dX0_daysTillBlank_96 rfl rfl ?_
      refine sm_iload dX0_daysTillBlank_97 rfl ?_
      refine sm_aload_n dX0_daysTillBlank_99 rfl rfl ?_
      refine sm_getR dX0_daysTillBlank_100 fg_RX0_15 k_48 (rf_0_3 k_48) ?_
      refine sm_iload dX0_daysTillBlank_103 rfl ?_
      obtain ⟨g7, h⟩ := gd_some h
      refine sm_iald (j := (Int32.toNatClampNeg x6)) dX0_daysTillBlank_105 k_50 (in_sz n_50 g7) rfl ?_
      refine sm_aload_n dX0_daysTillBlank_106 rfl rfl ?_
      refine sm_getI dX0_daysTillBlank_107 fg_RX0_44 k_27 ?_
      refine sm_iload dX0_daysTillBlank_110 rfl ?_
      refine sm_iadd dX0_daysTillBlank_112 ?_
      obtain ⟨t113, μ1z, g8, h⟩ := ob_some h
      refine sm_callV dX0_daysTillBlank_113 cv_X0_inkAfter ml_RX0_67 k_48 rfl rfl (by decide) (as := [av_i x1, av_i x6, av_i (μ.1 50 (Int32.toNatClampNeg x6)), av_i ((μ.1 27 4) + x4)]) rfl (Nat.le_of_ble_eq_true rfl) rfl (s_Ag_inkAfter (D := d) (by omega) N g8) (fun r9 μ9 hp => ?_)
      rw [hp.1, hp.2]
      clear hp r9 μ9
      obtain ⟨g9, h⟩ := gd_some h
      refine sm_iast (j := (Int32.toNatClampNeg x6)) dX0_daysTillBlank_116 k_50 (in_sz n_50 g9) rfl ?_
      replace h := wr_some h
      refine sm_iinc dX0_daysTillBlank_117 rfl (congrArg (HAdd.hAdd x6) ic_1) (Nat.le_of_ble_eq_true rfl) (pv_i rfl) ?_
      refine sm_goto (tgt := 71) dX0_daysTillBlank_120 (by decide) ?_
      exact Sm_weak (le_s rfl (le_s rfl (le_s rfl (le_s rfl (le_s rfl (le_s rfl (le_s rfl le_0))))))) (ih x1 x3 x4 (x5 + (μ.1 50 (Int32.toNatClampNeg x6))) (x6 + 1) (mm_I μ1z 50 (Int32.toNatClampNeg x6) t113) h)
set_option maxRecDepth 100000 in
set_option maxHeartbeats 4000000 in
theorem s_Ag_daysTillBlank_L58 {D : Nat} (hD : 5 ≤ D) (N : Nat) {r : Int32} {μr : MM} : ∀ (n : Nat) (x1 : Int32) (x3 : Int32) (x4 : Int32) (μ : MM), f_Ag_daysTillBlank_L58 N n x1 x3 x4 μ = some (r, μr) → Sm D mX0_daysTillBlank 58 [some (av_r 48), some (av_i x1), some (av_r 27), some (av_i x3), some (av_i x4), none, none] [] μ (po_i r μr) := by
  obtain ⟨d, rfl⟩ : ∃ d, D = d + 1 := ⟨D - 1, by omega⟩
  intro n
  induction n with
  | zero => intro x1 x3 x4 μ h; cases (show none = some (r, μr) from h)
  | succ n ih =>
    intro x1 x3 x4 μ h
    rw [f_Ag_daysTillBlank_L58] at h
    refine sm_iload dX0_daysTillBlank_58 rfl ?_
    refine sm_bipush dX0_daysTillBlank_60 bp_99 ?_
    refine sm_icmp_gt (tgt := 137) dX0_daysTillBlank_62 (by decide) (fun g3 => ?_) (fun g3 => ?_)
    · replace h := it_t g3 h
      refine sm_iconst dX0_daysTillBlank_137 ic_m1 ?_
      cases h
      exact sm_ret_i (st := []) dX0_daysTillBlank_138 rfl ⟨rfl, rfl⟩
    · replace h := it_f g3 h
      refine sm_iconst dX0_daysTillBlank_65 ic_0 ?_
      refine sm_istore dX0_daysTillBlank_66 (Nat.le_of_ble_eq_true rfl) (pv_i rfl) ?_
      refine sm_iconst dX0_daysTillBlank_68 ic_0 ?_
      refine sm_istore dX0_daysTillBlank_69 (Nat.le_of_ble_eq_true rfl) (pv_i rfl) ?_
      exact Sm_weak (le_s rfl (le_s rfl (le_s rfl (le_s rfl (le_s rfl (le_s rfl (le_s rfl le_0))))))) (s_Ag_daysTillBlank_L71 hD N ih N x1 x3 x4 0 0 μ h)
set_option maxRecDepth 100000 in
set_option maxHeartbeats 4000000 in
theorem s_Ag_daysTillBlank_L21 {D : Nat} (hD : 5 ≤ D) (N : Nat) {r : Int32} {μr : MM} : ∀ (n : Nat) (x1 : Int32) (x3 : Int32) (x4 : Int32) (μ : MM), f_Ag_daysTillBlank_L21 N n x1 x3 x4 μ = some (r, μr) → Sm D mX0_daysTillBlank 21 [some (av_r 48), some (av_i x1), some (av_r 27), some (av_i x3), some (av_i x4), none, none] [] μ (po_i r μr) := by
  obtain ⟨d, rfl⟩ : ∃ d, D = d + 1 := ⟨D - 1, by omega⟩
  intro n
  induction n with
  | zero => intro x1 x3 x4 μ h; cases (show none = some (r, μr) from h)
  | succ n ih =>
    intro x1 x3 x4 μ h
    rw [f_Ag_daysTillBlank_L21] at h
    refine sm_iload dX0_daysTillBlank_21 rfl ?_
    refine sm_iload_n dX0_daysTillBlank_23 rfl rfl ?_
    refine sm_icmp_ge (tgt := 55) dX0_daysTillBlank_24 (by decide) (fun g2 => ?_) (fun g2 => ?_)
    · replace h := it_t g2 h
      refine sm_iconst dX0_daysTillBlank_55 ic_0 ?_
      refine sm_istore dX0_daysTillBlank_56 (Nat.le_of_ble_eq_true rfl) (pv_i rfl) ?_
      exact Sm_weak (le_s rfl (le_s rfl (le_s rfl (le_s rfl (le_s rfl (le_n (le_n le_0))))))) (s_Ag_daysTillBlank_L58 hD N N x1 x3 0 μ h)
    · replace h := it_f g2 h
      refine sm_aload_n dX0_daysTillBlank_27 rfl rfl ?_
      refine sm_getR dX0_daysTillBlank_28 fg_RX0_15 k_48 (rf_0_3 k_48) ?_
      refine sm_iload dX0_daysTillBlank_31 rfl ?_
      refine sm_aload_n dX0_daysTillBlank_33 rfl rfl ?_
      refine sm_getR dX0_daysTillBlank_34 fg_RX0_55 k_27 (rf_7_0 k_27) ?_
      refine sm_getR dX0_daysTillBlank_37 fg_RX0_64 k_28 (rf_10_3 k_28) ?_
      refine sm_iload_n dX0_daysTillBlank_40 rfl rfl ?_
      refine sm_bipush dX0_daysTillBlank_41 bp_6 ?_
      refine sm_imul dX0_daysTillBlank_43 ?_
      refine sm_iload dX0_daysTillBlank_44 rfl ?_
      refine sm_iadd dX0_daysTillBlank_46 ?_
      obtain ⟨g10, h⟩ := gd_some h
      refine sm_iald (j := (Int32.toNatClampNeg ((x1 * 6) + x4))) dX0_daysTillBlank_47 k_32 (in_sz n_32 g10) rfl ?_
      obtain ⟨g11, h⟩ := gd_some h
      refine sm_iast (j := (Int32.toNatClampNeg x4)) dX0_daysTillBlank_48 k_50 (in_sz n_50 g11) rfl ?_
      replace h := wr_some h
      refine sm_iinc dX0_daysTillBlank_49 rfl (congrArg (HAdd.hAdd x4) ic_1) (Nat.le_of_ble_eq_true rfl) (pv_i rfl) ?_
      refine sm_goto (tgt := 21) dX0_daysTillBlank_52 (by decide) ?_
      exact Sm_weak (le_s rfl (le_s rfl (le_s rfl (le_s rfl (le_s rfl (le_n (le_n le_0))))))) (ih x1 x3 (x4 + 1) (mm_I μ 50 (Int32.toNatClampNeg x4) (μ.1 32 (Int32.toNatClampNeg ((x1 * 6) + x4)))) h)
set_option maxRecDepth 100000 in
set_option maxHeartbeats 4000000 in
theorem s_Ag_daysTillBlank {D : Nat} (hD : 5 ≤ D) (N : Nat) {x1 : Int32} {μ : MM} {r : Int32} {μr : MM} (h : f_Ag_daysTillBlank N x1 μ = some (r, μr)) : Cl D mX0_daysTillBlank [av_r 48, av_i x1] μ (po_i r μr) := by
  obtain ⟨d, rfl⟩ : ∃ d, D = d + 1 := ⟨D - 1, by omega⟩
  refine Cl_of pn_X0 (Nat.le_of_ble_eq_true rfl) ?_
  show Sm (d + 1) mX0_daysTillBlank 0 [some (av_r 48), some (av_i x1), none, none, none, none, none] [] μ (po_i r μr)
  unfold f_Ag_daysTillBlank at h
  refine sm_aload_n dX0_daysTillBlank_0 rfl rfl ?_
  refine sm_getR dX0_daysTillBlank_1 fg_RX0_18 k_48 (rf_0_1 k_48) ?_
  refine sm_getR dX0_daysTillBlank_4 fg_RX0_26 k_23 (rf_1_5 k_23) ?_
  refine sm_astore_n dX0_daysTillBlank_7 rfl (Nat.le_of_ble_eq_true rfl) (pv_i rfl) ?_
  refine sm_aload_n dX0_daysTillBlank_8 rfl rfl ?_
  refine sm_getR dX0_daysTillBlank_9 fg_RX0_55 k_27 (rf_7_0 k_27) ?_
  refine sm_getR dX0_daysTillBlank_12 fg_RX0_59 k_28 (rf_10_0 k_28) ?_
  refine sm_iload_n dX0_daysTillBlank_15 rfl rfl ?_
  obtain ⟨g1, h⟩ := gd_some h
  refine sm_iald (j := (Int32.toNatClampNeg x1)) dX0_daysTillBlank_16 k_29 (in_sz n_29 g1) rfl ?_
  refine sm_istore_n dX0_daysTillBlank_17 rfl (Nat.le_of_ble_eq_true rfl) (pv_r rfl) ?_
  refine sm_iconst dX0_daysTillBlank_18 ic_0 ?_
  refine sm_istore dX0_daysTillBlank_19 (Nat.le_of_ble_eq_true rfl) (pv_i rfl) ?_
  exact Sm_weak (le_s rfl (le_s rfl (le_s rfl (le_s rfl (le_s rfl (le_n (le_n le_0))))))) (s_Ag_daysTillBlank_L21 hD N N x1 (μ.1 29 (Int32.toNatClampNeg x1)) 0 μ h)
set_option maxRecDepth 100000 in
set_option maxHeartbeats 4000000 in
theorem s_Wo_takeAll {D : Nat} (hD : 1 ≤ D) (N : Nat) {w : Nat} (hk_w : sh_k w = 10) {q1 : Nat} (hk_q1 : sh_k q1 = 10) {μ : MM} {μr : MM} (h : f_Wo_takeAll N w q1 μ = some μr) : Cl D mX10_takeAll [av_r w, av_r q1] μ (po_v μr) := by
  obtain ⟨d, rfl⟩ : ∃ d, D = d + 1 := ⟨D - 1, by omega⟩
  refine Cl_of pn_X10 (Nat.le_of_ble_eq_true rfl) ?_
  show Sm (d + 1) mX10_takeAll 0 [some (av_r w), some (av_r q1), none] [] μ (po_v μr)
  unfold f_Wo_takeAll at h
  refine sm_aload_n dX10_takeAll_0 rfl rfl ?_
  refine sm_getR dX10_takeAll_1 fg_RX10_18 hk_w (rf_10_0 hk_w) ?_
  refine sm_alen dX10_takeAll_4 (kk_10_0 hk_w) (by decide) (by decide) ?_
  refine sm_aload_n dX10_takeAll_5 rfl rfl ?_
  refine sm_getR dX10_takeAll_6 fg_RX10_18 hk_q1 (rf_10_0 hk_q1) ?_
  refine sm_alen dX10_takeAll_9 (kk_10_0 hk_q1) (by decide) (by decide) ?_
  refine sm_min dX10_takeAll_10 ml_RX10_9 (Nat.le_of_ble_eq_true rfl) ?_
  refine sm_istore_n dX10_takeAll_13 rfl (Nat.le_of_ble_eq_true rfl) (pv_r rfl) ?_
  refine sm_aload_n dX10_takeAll_14 rfl rfl ?_
  refine sm_getR dX10_takeAll_15 fg_RX10_18 hk_q1 (rf_10_0 hk_q1) ?_
  refine sm_iconst dX10_takeAll_18 ic_0 ?_
  refine sm_aload_n dX10_takeAll_19 rfl rfl ?_
  refine sm_getR dX10_takeAll_20 fg_RX10_18 hk_w (rf_10_0 hk_w) ?_
  refine sm_iconst dX10_takeAll_23 ic_0 ?_
  refine sm_iload_n dX10_takeAll_24 rfl rfl ?_
  obtain ⟨g1, h⟩ := gd_some h
  obtain ⟨g1_1, g1_2, g1_3, g1_4, g1_5⟩ := cpb_ok rfl rfl g1
  refine sm_copyI dX10_takeAll_25 ml_RX10_33 (kk_10_0 hk_q1) (kk_10_0 hk_w) g1_1 g1_2 g1_3 g1_4 g1_5 (Nat.le_of_ble_eq_true rfl) ?_
  replace h := wr_some h
  refine sm_aload_n dX10_takeAll_28 rfl rfl ?_
  refine sm_getR dX10_takeAll_29 fg_RX10_24 hk_q1 (rf_10_1 hk_q1) ?_
  refine sm_iconst dX10_takeAll_32 ic_0 ?_
  refine sm_aload_n dX10_takeAll_33 rfl rfl ?_
  refine sm_getR dX10_takeAll_34 fg_RX10_24 hk_w (rf_10_1 hk_w) ?_
  refine sm_iconst dX10_takeAll_37 ic_0 ?_
  refine sm_iload_n dX10_takeAll_38 rfl rfl ?_
  refine sm_bipush dX10_takeAll_39 bp_6 ?_
  refine sm_imul dX10_takeAll_41 ?_
  obtain ⟨g2, h⟩ := gd_some h
  obtain ⟨g2_1, g2_2, g2_3, g2_4, g2_5⟩ := cpb_ok rfl rfl g2
  refine sm_copyI dX10_takeAll_42 ml_RX10_33 (kk_10_1 hk_q1) (kk_10_1 hk_w) g2_1 g2_2 g2_3 g2_4 g2_5 (Nat.le_of_ble_eq_true rfl) ?_
  replace h := wr_some h
  refine sm_aload_n dX10_takeAll_45 rfl rfl ?_
  refine sm_getR dX10_takeAll_46 fg_RX10_27 hk_q1 (rf_10_2 hk_q1) ?_
  refine sm_iconst dX10_takeAll_49 ic_0 ?_
  refine sm_aload_n dX10_takeAll_50 rfl rfl ?_
  refine sm_getR dX10_takeAll_51 fg_RX10_27 hk_w (rf_10_2 hk_w) ?_
  refine sm_iconst dX10_takeAll_54 ic_0 ?_
  refine sm_iload_n dX10_takeAll_55 rfl rfl ?_
  refine sm_bipush dX10_takeAll_56 bp_6 ?_
  refine sm_imul dX10_takeAll_58 ?_
  obtain ⟨g3, h⟩ := gd_some h
  obtain ⟨g3_1, g3_2, g3_3, g3_4, g3_5⟩ := cpb_ok rfl rfl g3
  refine sm_copyI dX10_takeAll_59 ml_RX10_33 (kk_10_2 hk_q1) (kk_10_2 hk_w) g3_1 g3_2 g3_3 g3_4 g3_5 (Nat.le_of_ble_eq_true rfl) ?_
  replace h := wr_some h
  refine sm_aload_n dX10_takeAll_62 rfl rfl ?_
  refine sm_getR dX10_takeAll_63 fg_RX10_30 hk_q1 (rf_10_3 hk_q1) ?_
  refine sm_iconst dX10_takeAll_66 ic_0 ?_
  refine sm_aload_n dX10_takeAll_67 rfl rfl ?_
  refine sm_getR dX10_takeAll_68 fg_RX10_30 hk_w (rf_10_3 hk_w) ?_
  refine sm_iconst dX10_takeAll_71 ic_0 ?_
  refine sm_iload_n dX10_takeAll_72 rfl rfl ?_
  refine sm_bipush dX10_takeAll_73 bp_6 ?_
  refine sm_imul dX10_takeAll_75 ?_
  obtain ⟨g4, h⟩ := gd_some h
  obtain ⟨g4_1, g4_2, g4_3, g4_4, g4_5⟩ := cpb_ok rfl rfl g4
  refine sm_copyI dX10_takeAll_76 ml_RX10_33 (kk_10_3 hk_q1) (kk_10_3 hk_w) g4_1 g4_2 g4_3 g4_4 g4_5 (Nat.le_of_ble_eq_true rfl) ?_
  replace h := wr_some h
  cases h
  exact sm_ret_v (st := []) dX10_takeAll_79 rfl ⟨rfl, rfl⟩
set_option maxRecDepth 100000 in
set_option maxHeartbeats 4000000 in
theorem s_Sh_takeAll {D : Nat} (hD : 2 ≤ D) (N : Nat) {s : Nat} (hk_s : sh_k s = 7) {q1 : Nat} (hk_q1 : sh_k q1 = 7) {μ : MM} {μr : MM} (h : f_Sh_takeAll N s q1 μ = some μr) : Cl D mX7_takeAll [av_r s, av_r q1] μ (po_v μr) := by
  obtain ⟨d, rfl⟩ : ∃ d, D = d + 1 := ⟨D - 1, by omega⟩
  refine Cl_of pn_X7 (Nat.le_of_ble_eq_true rfl) ?_
  show Sm (d + 1) mX7_takeAll 0 [some (av_r s), some (av_r q1)] [] μ (po_v μr)
  unfold f_Sh_takeAll at h
  refine sm_aload_n dX7_takeAll_0 rfl rfl ?_
  refine sm_getR dX7_takeAll_1 fg_RX7_14 hk_s (rf_7_0 hk_s) ?_
  refine sm_aload_n dX7_takeAll_4 rfl rfl ?_
  refine sm_getR dX7_takeAll_5 fg_RX7_14 hk_q1 (rf_7_0 hk_q1) ?_
  obtain ⟨μ1z, g1, h⟩ := obv_some h
  refine sm_callV dX7_takeAll_8 cv_X10_takeAll ml_RX7_34 (kk_7_0 hk_s) rfl rfl (by decide) (as := [av_r (q1 + 1)]) rfl (Nat.le_of_ble_eq_true rfl) rfl (s_Wo_takeAll (D := d) (by omega) N (kk_7_0 hk_s) (kk_7_0 hk_q1) g1) (fun r9 μ9 hp => ?_)
  rw [hp.1, hp.2]
  clear hp r9 μ9
  refine sm_aload_n dX7_takeAll_11 rfl rfl ?_
  refine sm_getR dX7_takeAll_12 fg_RX7_20 hk_q1 (rf_7_1 hk_q1) ?_
  refine sm_iconst dX7_takeAll_15 ic_0 ?_
  refine sm_aload_n dX7_takeAll_16 rfl rfl ?_
  refine sm_getR dX7_takeAll_17 fg_RX7_20 hk_s (rf_7_1 hk_s) ?_
  refine sm_iconst dX7_takeAll_20 ic_0 ?_
  refine sm_bipush dX7_takeAll_21 bp_6 ?_
  obtain ⟨g2, h⟩ := gd_some h
  obtain ⟨g2_1, g2_2, g2_3, g2_4, g2_5⟩ := cpb_ok (kn_7_1 hk_q1) (kn_7_1 hk_s) g2
  refine sm_copyI dX7_takeAll_23 ml_RX7_38 (kk_7_1 hk_q1) (kk_7_1 hk_s) g2_1 g2_2 g2_3 g2_4 g2_5 (Nat.le_of_ble_eq_true rfl) ?_
  replace h := wr_some h
  refine sm_aload_n dX7_takeAll_26 rfl rfl ?_
  refine sm_aload_n dX7_takeAll_27 rfl rfl ?_
  refine sm_getI dX7_takeAll_28 fg_RX7_24 hk_q1 ?_
  refine sm_putI dX7_takeAll_31 fp_RX7_24 hk_s ?_
  replace h := wr_some h
  refine sm_aload_n dX7_takeAll_34 rfl rfl ?_
  refine sm_aload_n dX7_takeAll_35 rfl rfl ?_
  refine sm_getI dX7_takeAll_36 fg_RX7_28 hk_q1 ?_
  refine sm_putI dX7_takeAll_39 fp_RX7_28 hk_s ?_
  replace h := wr_some h
  refine sm_aload_n dX7_takeAll_42 rfl rfl ?_
  refine sm_aload_n dX7_takeAll_43 rfl rfl ?_
  refine sm_getI dX7_takeAll_44 fg_RX7_31 hk_q1 ?_
  refine sm_putI dX7_takeAll_47 fp_RX7_31 hk_s ?_
  replace h := wr_some h
  cases h
  exact sm_ret_v (st := []) dX7_takeAll_50 rfl ⟨rfl, rfl⟩
set_option maxRecDepth 100000 in
set_option maxHeartbeats 4000000 in
theorem s_Co_takeAll {D : Nat} (hD : 3 ≤ D) (N : Nat) {c : Nat} (hk_c : sh_k c = 1) {q1 : Nat} (hk_q1 : sh_k q1 = 1) {μ : MM} {μr : MM} (h : f_Co_takeAll N c q1 μ = some μr) : Cl D mX1_takeAll [av_r c, av_r q1] μ (po_v μr) := by
  obtain ⟨d, rfl⟩ : ∃ d, D = d + 1 := ⟨D - 1, by omega⟩
  refine Cl_of pn_X1 (Nat.le_of_ble_eq_true rfl) ?_
  show Sm (d + 1) mX1_takeAll 0 [some (av_r c), some (av_r q1)] [] μ (po_v μr)
  unfold f_Co_takeAll at h
  refine sm_aload_n dX1_takeAll_0 rfl rfl ?_
  refine sm_aload_n dX1_takeAll_1 rfl rfl ?_
  refine sm_getI dX1_takeAll_2 fg_RX1_9 hk_q1 ?_
  refine sm_putI dX1_takeAll_5 fp_RX1_9 hk_c ?_
  replace h := wr_some h
  refine sm_aload_n dX1_takeAll_8 rfl rfl ?_
  refine sm_aload_n dX1_takeAll_9 rfl rfl ?_
  refine sm_getI dX1_takeAll_10 fg_RX1_15 hk_q1 ?_
  refine sm_putI dX1_takeAll_13 fp_RX1_15 hk_c ?_
  replace h := wr_some h
  refine sm_aload_n dX1_takeAll_16 rfl rfl ?_
  refine sm_getR dX1_takeAll_17 fg_RX1_18 hk_q1 (rf_1_2 hk_q1) ?_
  refine sm_iconst dX1_takeAll_20 ic_0 ?_
  refine sm_aload_n dX1_takeAll_21 rfl rfl ?_
  refine sm_getR dX1_takeAll_22 fg_RX1_18 hk_c (rf_1_2 hk_c) ?_
  refine sm_iconst dX1_takeAll_25 ic_0 ?_
  refine sm_bipush dX1_takeAll_26 bp_8 ?_
  obtain ⟨g1, h⟩ := gd_some h
  obtain ⟨g1_1, g1_2, g1_3, g1_4, g1_5⟩ := cpb_ok (kn_1_2 hk_q1) (kn_1_2 hk_c) g1
  refine sm_copyI dX1_takeAll_28 ml_RX1_35 (kk_1_2 hk_q1) (kk_1_2 hk_c) g1_1 g1_2 g1_3 g1_4 g1_5 (Nat.le_of_ble_eq_true rfl) ?_
  replace h := wr_some h
  refine sm_aload_n dX1_takeAll_31 rfl rfl ?_
  refine sm_getR dX1_takeAll_32 fg_RX1_22 hk_q1 (rf_1_3 hk_q1) ?_
  refine sm_iconst dX1_takeAll_35 ic_0 ?_
  refine sm_aload_n dX1_takeAll_36 rfl rfl ?_
  refine sm_getR dX1_takeAll_37 fg_RX1_22 hk_c (rf_1_3 hk_c) ?_
  refine sm_iconst dX1_takeAll_40 ic_0 ?_
  refine sm_bipush dX1_takeAll_41 bp_8 ?_
  obtain ⟨g2, h⟩ := gd_some h
  obtain ⟨g2_1, g2_2, g2_3, g2_4, g2_5⟩ := cpb_ok (kn_1_3 hk_q1) (kn_1_3 hk_c) g2
  refine sm_copyI dX1_takeAll_43 ml_RX1_35 (kk_1_3 hk_q1) (kk_1_3 hk_c) g2_1 g2_2 g2_3 g2_4 g2_5 (Nat.le_of_ble_eq_true rfl) ?_
  replace h := wr_some h
  refine sm_aload_n dX1_takeAll_46 rfl rfl ?_
  refine sm_getR dX1_takeAll_47 fg_RX1_25 hk_q1 (rf_1_4 hk_q1) ?_
  refine sm_iconst dX1_takeAll_50 ic_0 ?_
  refine sm_aload_n dX1_takeAll_51 rfl rfl ?_
  refine sm_getR dX1_takeAll_52 fg_RX1_25 hk_c (rf_1_4 hk_c) ?_
  refine sm_iconst dX1_takeAll_55 ic_0 ?_
  refine sm_bipush dX1_takeAll_56 bp_6 ?_
  obtain ⟨g3, h⟩ := gd_some h
  obtain ⟨g3_1, g3_2, g3_3, g3_4, g3_5⟩ := cpb_ok (kn_1_4 hk_q1) (kn_1_4 hk_c) g3
  refine sm_copyI dX1_takeAll_58 ml_RX1_35 (kk_1_4 hk_q1) (kk_1_4 hk_c) g3_1 g3_2 g3_3 g3_4 g3_5 (Nat.le_of_ble_eq_true rfl) ?_
  replace h := wr_some h
  refine sm_aload_n dX1_takeAll_61 rfl rfl ?_
  refine sm_getR dX1_takeAll_62 fg_RX1_31 hk_c (rf_1_5 hk_c) ?_
  refine sm_aload_n dX1_takeAll_65 rfl rfl ?_
  refine sm_getR dX1_takeAll_66 fg_RX1_31 hk_q1 (rf_1_5 hk_q1) ?_
  obtain ⟨μ6z, g4, h⟩ := obv_some h
  refine sm_callV dX1_takeAll_69 cv_X7_takeAll ml_RX1_41 (kk_1_5 hk_c) rfl rfl (by decide) (as := [av_r (q1 + 4)]) rfl (Nat.le_of_ble_eq_true rfl) rfl (s_Sh_takeAll (D := d) (by omega) N (kk_1_5 hk_c) (kk_1_5 hk_q1) g4) (fun r9 μ9 hp => ?_)
  rw [hp.1, hp.2]
  clear hp r9 μ9
  cases h
  exact sm_ret_v (st := []) dX1_takeAll_72 rfl ⟨rfl, rfl⟩
set_option maxRecDepth 100000 in
set_option maxHeartbeats 4000000 in
theorem s_Co_isNone {D : Nat} (hD : 0 ≤ D) (N : Nat) {c : Nat} (hk_c : sh_k c = 1) {μ : MM} {r : Int32} {μr : MM} (h : f_Co_isNone N c μ = some (r, μr)) : Cl D mX1_isNone [av_r c] μ (po_i r μr) := by
  refine Cl_of pn_X1 (Nat.le_of_ble_eq_true rfl) ?_
  show Sm D mX1_isNone 0 [some (av_r c)] [] μ (po_i r μr)
  unfold f_Co_isNone at h
  refine sm_aload_n dX1_isNone_0 rfl rfl ?_
  refine sm_getI dX1_isNone_1 fg_RX1_15 hk_c ?_
  have hj4 : ∀ (v4_0 : Int32), v4_0 = (if (μ.1 c 1) = 0 then (1 : Int32) else 0) → Sm D mX1_isNone 12 [none] [av_i v4_0] μ (po_i r μr) := by
    intro v4_0 ev4_0
    subst ev4_0
    obtain ⟨g1, h⟩ := gd_some h
    cases h
    exact sm_ret_z (st := []) dX1_isNone_12 rfl (zb_nar g1) ⟨rfl, rfl⟩
  refine sm_if_ne (tgt := 11) dX1_isNone_4 (by decide) (fun c4_0 => ?_) (fun c4_0 => ?_)
  · refine sm_iconst dX1_isNone_11 ic_0 ?_
    exact Sm_weak (le_n le_0) (hj4 _ (if_neg c4_0).symm)
  · refine sm_iconst dX1_isNone_7 ic_1 ?_
    refine sm_goto (tgt := 12) dX1_isNone_8 (by decide) ?_
    exact Sm_weak (le_n le_0) (hj4 _ (if_pos c4_0).symm)
set_option maxRecDepth 100000 in
set_option maxHeartbeats 4000000 in
theorem s_Co_suitedThings_L4 {D : Nat} (hD : 3 ≤ D) (N : Nat) {c : Nat} (hk_c : sh_k c = 1) {r : Int32} {μr : MM} : ∀ (n : Nat) (x1 : Int32) (x2 : Int32) (x3 : Int32) (μ : MM), f_Co_suitedThings_L4 N c n x1 x2 x3 μ = some (r, μr) → Sm D mX1_suitedThings 4 [some (av_r c), some (av_i x1), some (av_i x2), some (av_i x3)] [] μ (po_i r μr) := by
  obtain ⟨d, rfl⟩ : ∃ d, D = d + 1 := ⟨D - 1, by omega⟩
  intro n
  induction n with
  | zero => intro x1 x2 x3 μ h; cases (show none = some (r, μr) from h)
  | succ n ih =>
    intro x1 x2 x3 μ h
    rw [f_Co_suitedThings_L4] at h
    refine sm_iload_n dX1_suitedThings_4 rfl rfl ?_
    refine sm_aload_n dX1_suitedThings_5 rfl rfl ?_
    refine sm_getI dX1_suitedThings_6 fg_RX1_9 hk_c ?_
    refine sm_icmp_ge (tgt := 33) dX1_suitedThings_9 (by decide) (fun g1 => ?_) (fun g1 => ?_)
    · replace h := it_t g1 h
      refine sm_iload_n dX1_suitedThings_33 rfl rfl ?_
      cases h
      exact sm_ret_i (st := []) dX1_suitedThings_34 rfl ⟨rfl, rfl⟩
    · replace h := it_f g1 h
      refine sm_aload_n dX1_suitedThings_12 rfl rfl ?_
      refine sm_iload_n dX1_suitedThings_13 rfl rfl ?_
      refine sm_iload_n dX1_suitedThings_14 rfl rfl ?_
      obtain ⟨t15, μ1z, g2, h⟩ := ob_some h
      refine sm_callV dX1_suitedThings_15 cv_X1_isFit ml_RX1_81 hk_c rfl rfl (by decide) (as := [av_i x1, av_i x3]) rfl (Nat.le_of_ble_eq_true rfl) rfl (s_Co_isFit (D := d) (by omega) N hk_c g2) (fun r9 μ9 hp => ?_)
      rw [hp.1, hp.2]
      clear hp r9 μ9
      have hj18 : ∀ (v18_0 : Int32), v18_0 = (if t15 = 0 then x2 else (x2 ||| ((1 : Int32) <<< (x3 &&& 31)))) → Sm (d + 1) mX1_suitedThings 27 [some (av_r c), some (av_i x1), some (av_i v18_0), some (av_i x3)] [] μ1z (po_i r μr) := by
        intro v18_0 ev18_0
        subst ev18_0
        refine sm_iinc dX1_suitedThings_27 rfl (congrArg (HAdd.hAdd x3) ic_1) (Nat.le_of_ble_eq_true rfl) (pv_i rfl) ?_
        refine sm_goto (tgt := 4) dX1_suitedThings_30 (by decide) ?_
        exact Sm_weak (le_s rfl (le_s rfl (le_s rfl (le_s rfl le_0)))) (ih x1 (if t15 = 0 then x2 else (x2 ||| ((1 : Int32) <<< (x3 &&& 31)))) (x3 + 1) μ1z h)
      refine sm_if_eq (tgt := 27) dX1_suitedThings_18 (by decide) (fun c18_0 => ?_) (fun c18_0 => ?_)
      · exact Sm_weak (le_s rfl (le_s rfl (le_s rfl (le_s rfl le_0)))) (hj18 _ (if_pos c18_0).symm)
      · refine sm_iload_n dX1_suitedThings_21 rfl rfl ?_
        refine sm_iconst dX1_suitedThings_22 ic_1 ?_
        refine sm_iload_n dX1_suitedThings_23 rfl rfl ?_
        refine sm_ishl dX1_suitedThings_24 ?_
        refine sm_ior dX1_suitedThings_25 ?_
        refine sm_istore_n dX1_suitedThings_26 rfl (Nat.le_of_ble_eq_true rfl) (pv_i rfl) ?_
        exact Sm_weak (le_s rfl (le_s rfl (le_s rfl (le_s rfl le_0)))) (hj18 _ (if_neg c18_0).symm)
set_option maxRecDepth 100000 in
set_option maxHeartbeats 4000000 in
theorem s_Co_suitedThings {D : Nat} (hD : 3 ≤ D) (N : Nat) {c : Nat} (hk_c : sh_k c = 1) {x1 : Int32} {μ : MM} {r : Int32} {μr : MM} (h : f_Co_suitedThings N c x1 μ = some (r, μr)) : Cl D mX1_suitedThings [av_r c, av_i x1] μ (po_i r μr) := by
  obtain ⟨d, rfl⟩ : ∃ d, D = d + 1 := ⟨D - 1, by omega⟩
  refine Cl_of pn_X1 (Nat.le_of_ble_eq_true rfl) ?_
  show Sm (d + 1) mX1_suitedThings 0 [some (av_r c), some (av_i x1), none, none] [] μ (po_i r μr)
  unfold f_Co_suitedThings at h
  refine sm_iconst dX1_suitedThings_0 ic_0 ?_
  refine sm_istore_n dX1_suitedThings_1 rfl (Nat.le_of_ble_eq_true rfl) (pv_i rfl) ?_
  refine sm_iconst dX1_suitedThings_2 ic_0 ?_
  refine sm_istore_n dX1_suitedThings_3 rfl (Nat.le_of_ble_eq_true rfl) (pv_i rfl) ?_
  exact Sm_weak (le_s rfl (le_s rfl (le_s rfl (le_s rfl le_0)))) (s_Co_suitedThings_L4 hD N hk_c N x1 0 0 μ h)
set_option maxRecDepth 100000 in
set_option maxHeartbeats 4000000 in
theorem s_Wo_named_L20 {D : Nat} (hD : 0 ≤ D) (N : Nat) {w : Nat} (hk_w : sh_k w = 10) {r : Int32} {μr : MM} : ∀ (n : Nat) (x1 : Int32) (x2 : Int32) (x3 : Int32) (x4 : Int32) (μ : MM), f_Wo_named_L20 N w n x1 x2 x3 x4 μ = some (r, μr) → Sm D mX10_named 20 [some (av_r w), some (av_i x1), some (av_i x2), some (av_i x3), some (av_i x4), none] [] μ (po_i r μr) := by
  intro n
  induction n with
  | zero => intro x1 x2 x3 x4 μ h; cases (show none = some (r, μr) from h)
  | succ n ih =>
    intro x1 x2 x3 x4 μ h
    rw [f_Wo_named_L20] at h
    refine sm_iload dX10_named_20 rfl ?_
    refine sm_aload_n dX10_named_22 rfl rfl ?_
    refine sm_getR dX10_named_23 fg_RX10_18 hk_w (rf_10_0 hk_w) ?_
    refine sm_iload_n dX10_named_26 rfl rfl ?_
    obtain ⟨g3, h⟩ := gd_some h
    refine sm_iald (j := (Int32.toNatClampNeg x1)) dX10_named_27 (kk_10_0 hk_w) (in_sz rfl g3) rfl ?_
    refine sm_icmp_ge (tgt := 79) dX10_named_28 (by decide) (fun g4 => ?_) (fun g4 => ?_)
    · replace h := it_t g4 h
      refine sm_iload_n dX10_named_79 rfl rfl ?_
      cases h
      exact sm_ret_i (st := []) dX10_named_80 rfl ⟨rfl, rfl⟩
    · replace h := it_f g4 h
      refine sm_iload_n dX10_named_31 rfl rfl ?_
      refine sm_bipush dX10_named_32 bp_6 ?_
      refine sm_imul dX10_named_34 ?_
      refine sm_iload dX10_named_35 rfl ?_
      refine sm_iadd dX10_named_37 ?_
      refine sm_istore dX10_named_38 (Nat.le_of_ble_eq_true rfl) (pv_i rfl) ?_
      refine sm_aload_n dX10_named_40 rfl rfl ?_
      refine sm_getR dX10_named_41 fg_RX10_30 hk_w (rf_10_3 hk_w) ?_
      refine sm_iload dX10_named_44 rfl ?_
      obtain ⟨g5, h⟩ := gd_some h
      refine sm_iald (j := (Int32.toNatClampNeg ((x1 * 6) + x4))) dX10_named_46 (kk_10_3 hk_w) (in_sz rfl g5) rfl ?_
      refine sm_if_le (tgt := 73) dX10_named_47 (by decide) (fun g6 => ?_) (fun g6 => ?_)
      · replace h := it_t g6 h
        refine sm_iinc dX10_named_73 rfl (congrArg (HAdd.hAdd x4) ic_1) (Nat.le_of_ble_eq_true rfl) (pv_i rfl) ?_
        refine sm_goto (tgt := 20) dX10_named_76 (by decide) ?_
        exact Sm_weak (le_s rfl (le_s rfl (le_s rfl (le_s rfl (le_s rfl (le_n le_0)))))) (ih x1 x2 x3 (x4 + 1) μ h)
      · replace h := it_f g6 h
        refine sm_aload_n dX10_named_50 rfl rfl ?_
        refine sm_getR dX10_named_51 fg_RX10_24 hk_w (rf_10_1 hk_w) ?_
        refine sm_iload dX10_named_54 rfl ?_
        obtain ⟨g7, h⟩ := gd_some h
        refine sm_iald (j := (Int32.toNatClampNeg ((x1 * 6) + x4))) dX10_named_56 (kk_10_1 hk_w) (in_sz rfl g7) rfl ?_
        refine sm_iload_n dX10_named_57 rfl rfl ?_
        refine sm_icmp_ne (tgt := 73) dX10_named_58 (by decide) (fun g8 => ?_) (fun g8 => ?_)
        · replace h := it_f g8 h
          refine sm_iinc dX10_named_73 rfl (congrArg (HAdd.hAdd x4) ic_1) (Nat.le_of_ble_eq_true rfl) (pv_i rfl) ?_
          refine sm_goto (tgt := 20) dX10_named_76 (by decide) ?_
          exact Sm_weak (le_s rfl (le_s rfl (le_s rfl (le_s rfl (le_s rfl (le_n le_0)))))) (ih x1 x2 x3 (x4 + 1) μ h)
        · replace h := it_t g8 h
          refine sm_iload_n dX10_named_61 rfl rfl ?_
          refine sm_iconst dX10_named_62 ic_1 ?_
          refine sm_aload_n dX10_named_63 rfl rfl ?_
          refine sm_getR dX10_named_64 fg_RX10_27 hk_w (rf_10_2 hk_w) ?_
          refine sm_iload dX10_named_67 rfl ?_
          obtain ⟨g9, h⟩ := gd_some h
          refine sm_iald (j := (Int32.toNatClampNeg ((x1 * 6) + x4))) dX10_named_69 (kk_10_2 hk_w) (in_sz rfl g9) rfl ?_
          refine sm_ishl dX10_named_70 ?_
          refine sm_ior dX10_named_71 ?_
          refine sm_istore_n dX10_named_72 rfl (Nat.le_of_ble_eq_true rfl) (pv_i rfl) ?_
          refine sm_iinc dX10_named_73 rfl (congrArg (HAdd.hAdd x4) ic_1) (Nat.le_of_ble_eq_true rfl) (pv_i rfl) ?_
          refine sm_goto (tgt := 20) dX10_named_76 (by decide) ?_
          exact Sm_weak (le_s rfl (le_s rfl (le_s rfl (le_s rfl (le_s rfl (le_n le_0)))))) (ih x1 x2 (x3 ||| ((1 : Int32) <<< ((μ.1 (w + 3) (Int32.toNatClampNeg ((x1 * 6) + x4))) &&& 31))) (x4 + 1) μ h)
set_option maxRecDepth 100000 in
set_option maxHeartbeats 4000000 in
theorem s_Wo_named {D : Nat} (hD : 0 ≤ D) (N : Nat) {w : Nat} (hk_w : sh_k w = 10) {x1 : Int32} {x2 : Int32} {μ : MM} {r : Int32} {μr : MM} (h : f_Wo_named N w x1 x2 μ = some (r, μr)) : Cl D mX10_named [av_r w, av_i x1, av_i x2] μ (po_i r μr) := by
  refine Cl_of pn_X10 (Nat.le_of_ble_eq_true rfl) ?_
  show Sm D mX10_named 0 [some (av_r w), some (av_i x1), some (av_i x2), none, none, none] [] μ (po_i r μr)
  unfold f_Wo_named at h
  refine sm_iload_n dX10_named_0 rfl rfl ?_
  refine sm_if_lt (tgt := 13) dX10_named_1 (by decide) (fun g1 => ?_) (fun g1 => ?_)
  · replace h := it_t g1 h
    refine sm_iconst dX10_named_13 ic_0 ?_
    cases h
    exact sm_ret_i (st := []) dX10_named_14 rfl ⟨rfl, rfl⟩
  · replace h := it_f g1 h
    refine sm_iload_n dX10_named_4 rfl rfl ?_
    refine sm_aload_n dX10_named_5 rfl rfl ?_
    refine sm_getR dX10_named_6 fg_RX10_18 hk_w (rf_10_0 hk_w) ?_
    refine sm_alen dX10_named_9 (kk_10_0 hk_w) (by decide) (by decide) ?_
    refine sm_icmp_lt (tgt := 15) dX10_named_10 (by decide) (fun g2 => ?_) (fun g2 => ?_)
    · replace h := it_t g2 h
      refine sm_iconst dX10_named_15 ic_0 ?_
      refine sm_istore_n dX10_named_16 rfl (Nat.le_of_ble_eq_true rfl) (pv_i rfl) ?_
      refine sm_iconst dX10_named_17 ic_0 ?_
      refine sm_istore dX10_named_18 (Nat.le_of_ble_eq_true rfl) (pv_i rfl) ?_
      exact Sm_weak (le_s rfl (le_s rfl (le_s rfl (le_s rfl (le_s rfl (le_n le_0)))))) (s_Wo_named_L20 hD N hk_w N x1 x2 0 0 μ h)
    · replace h := it_f g2 h
      refine sm_iconst dX10_named_13 ic_0 ?_
      cases h
      exact sm_ret_i (st := []) dX10_named_14 rfl ⟨rfl, rfl⟩
set_option maxRecDepth 100000 in
set_option maxHeartbeats 4000000 in
theorem s_Co_reachedFrom_L26 {D : Nat} (hD : 1 ≤ D) (N : Nat) {c : Nat} (hk_c : sh_k c = 1) {r : Int32} {μr : MM} {k15 : Int32 → Int32 → MM → Option (Int32 × MM)} (hk15 : ∀ (x2 : Int32) (x3 : Int32) (μ : MM), k15 x2 x3 μ = some (r, μr) → Sm D mX1_reachedFrom 15 [some (av_r c), none, some (av_i x2), some (av_i x3), none] [] μ (po_i r μr)) : ∀ (n : Nat) (x2 : Int32) (x3 : Int32) (x4 : Int32) (μ : MM), f_Co_reachedFrom_L26 N c k15 n x2 x3 x4 μ = some (r, μr) → Sm D mX1_reachedFrom 26 [some (av_r c), none, some (av_i x2), some (av_i x3), some (av_i x4)] [] μ (po_i r μr) := by
  obtain ⟨d, rfl⟩ : ∃ d, D = d + 1 := ⟨D - 1, by omega⟩
  intro n
  induction n with
  | zero => intro x2 x3 x4 μ h; cases (show none = some (r, μr) from h)
  | succ n ih =>
    intro x2 x3 x4 μ h
    rw [f_Co_reachedFrom_L26] at h
    refine sm_iload dX1_reachedFrom_26 rfl ?_
    refine sm_aload_n dX1_reachedFrom_28 rfl rfl ?_
    refine sm_getI dX1_reachedFrom_29 fg_RX1_15 hk_c ?_
    refine sm_icmp_ge (tgt := 67) dX1_reachedFrom_32 (by decide) (fun g3 => ?_) (fun g3 => ?_)
    · replace h := it_t g3 h
      refine sm_iinc dX1_reachedFrom_67 rfl (congrArg (HAdd.hAdd x3) ic_1) (Nat.le_of_ble_eq_true rfl) (pv_i rfl) ?_
      refine sm_goto (tgt := 15) dX1_reachedFrom_70 (by decide) ?_
      exact Sm_weak (le_s rfl (le_n (le_s rfl (le_s rfl (le_n le_0))))) (hk15 x2 (x3 + 1) μ h)
    · replace h := it_f g3 h
      refine sm_iload_n dX1_reachedFrom_35 rfl rfl ?_
      refine sm_iload dX1_reachedFrom_36 rfl ?_
      refine sm_ishr dX1_reachedFrom_38 ?_
      refine sm_iconst dX1_reachedFrom_39 ic_1 ?_
      refine sm_iand dX1_reachedFrom_40 ?_
      refine sm_iconst dX1_reachedFrom_41 ic_1 ?_
      refine sm_icmp_ne (tgt := 61) dX1_reachedFrom_42 (by decide) (fun g4 => ?_) (fun g4 => ?_)
      · replace h := it_f g4 h
        refine sm_iinc dX1_reachedFrom_61 rfl (congrArg (HAdd.hAdd x4) ic_1) (Nat.le_of_ble_eq_true rfl) (pv_i rfl) ?_
        refine sm_goto (tgt := 26) dX1_reachedFrom_64 (by decide) ?_
        exact Sm_weak (le_s rfl (le_n (le_s rfl (le_s rfl (le_s rfl le_0))))) (ih x2 x3 (x4 + 1) μ h)
      · replace h := it_t g4 h
        refine sm_iload_n dX1_reachedFrom_45 rfl rfl ?_
        refine sm_aload_n dX1_reachedFrom_46 rfl rfl ?_
        refine sm_getR dX1_reachedFrom_47 fg_RX1_31 hk_c (rf_1_5 hk_c) ?_
        refine sm_getR dX1_reachedFrom_50 fg_RX1_55 (kk_1_5 hk_c) (rf_7_0 (kk_1_5 hk_c)) ?_
        refine sm_iload dX1_reachedFrom_53 rfl ?_
        refine sm_iconst dX1_reachedFrom_55 ic_2 ?_
        obtain ⟨t56, μ2z, g5, h⟩ := ob_some h
        refine sm_callV dX1_reachedFrom_56 cv_X10_named ml_RX1_97 (kk_7_0 (kk_1_5 hk_c)) rfl rfl (by decide) (as := [av_i x4, av_i 2]) rfl (Nat.le_of_ble_eq_true rfl) rfl (s_Wo_named (D := d) (by omega) N (kk_7_0 (kk_1_5 hk_c)) g5) (fun r9 μ9 hp => ?_)
        rw [hp.1, hp.2]
        clear hp r9 μ9
        refine sm_ior dX1_reachedFrom_59 ?_
        refine sm_istore_n dX1_reachedFrom_60 rfl (Nat.le_of_ble_eq_true rfl) (pv_n rfl) ?_
        refine sm_iinc dX1_reachedFrom_61 rfl (congrArg (HAdd.hAdd x4) ic_1) (Nat.le_of_ble_eq_true rfl) (pv_i rfl) ?_
        refine sm_goto (tgt := 26) dX1_reachedFrom_64 (by decide) ?_
        exact Sm_weak (le_s rfl (le_n (le_s rfl (le_s rfl (le_s rfl le_0))))) (ih (x2 ||| t56) x3 (x4 + 1) μ2z h)
set_option maxRecDepth 100000 in
set_option maxHeartbeats 4000000 in
theorem s_Co_reachedFrom_L15 {D : Nat} (hD : 1 ≤ D) (N : Nat) {c : Nat} (hk_c : sh_k c = 1) {r : Int32} {μr : MM} : ∀ (n : Nat) (x2 : Int32) (x3 : Int32) (μ : MM), f_Co_reachedFrom_L15 N c n x2 x3 μ = some (r, μr) → Sm D mX1_reachedFrom 15 [some (av_r c), none, some (av_i x2), some (av_i x3), none] [] μ (po_i r μr) := by
  obtain ⟨d, rfl⟩ : ∃ d, D = d + 1 := ⟨D - 1, by omega⟩
  intro n
  induction n with
  | zero => intro x2 x3 μ h; cases (show none = some (r, μr) from h)
  | succ n ih =>
    intro x2 x3 μ h
    rw [f_Co_reachedFrom_L15] at h
    refine sm_iload_n dX1_reachedFrom_15 rfl rfl ?_
    refine sm_aload_n dX1_reachedFrom_16 rfl rfl ?_
    refine sm_getI dX1_reachedFrom_17 fg_RX1_15 hk_c ?_
    refine sm_icmp_ge (tgt := 73) dX1_reachedFrom_20 (by decide) (fun g2 => ?_) (fun g2 => ?_)
    · replace h := it_t g2 h
      refine sm_iload_n dX1_reachedFrom_73 rfl rfl ?_
      cases h
      exact sm_ret_i (st := []) dX1_reachedFrom_74 rfl ⟨rfl, rfl⟩
    · replace h := it_f g2 h
      refine sm_iconst dX1_reachedFrom_23 ic_0 ?_
      refine sm_istore dX1_reachedFrom_24 (Nat.le_of_ble_eq_true rfl) (pv_i rfl) ?_
      exact Sm_weak (le_s rfl (le_n (le_s rfl (le_s rfl (le_s rfl le_0))))) (s_Co_reachedFrom_L26 hD N hk_c ih N x2 x3 0 μ h)
set_option maxRecDepth 100000 in
set_option maxHeartbeats 4000000 in
theorem s_Co_reachedFrom {D : Nat} (hD : 1 ≤ D) (N : Nat) {c : Nat} (hk_c : sh_k c = 1) {x1 : Int32} {μ : MM} {r : Int32} {μr : MM} (h : f_Co_reachedFrom N c x1 μ = some (r, μr)) : Cl D mX1_reachedFrom [av_r c, av_i x1] μ (po_i r μr) := by
  obtain ⟨d, rfl⟩ : ∃ d, D = d + 1 := ⟨D - 1, by omega⟩
  refine Cl_of pn_X1 (Nat.le_of_ble_eq_true rfl) ?_
  show Sm (d + 1) mX1_reachedFrom 0 [some (av_r c), some (av_i x1), none, none, none] [] μ (po_i r μr)
  unfold f_Co_reachedFrom at h
  refine sm_aload_n dX1_reachedFrom_0 rfl rfl ?_
  refine sm_getR dX1_reachedFrom_1 fg_RX1_31 hk_c (rf_1_5 hk_c) ?_
  refine sm_getR dX1_reachedFrom_4 fg_RX1_55 (kk_1_5 hk_c) (rf_7_0 (kk_1_5 hk_c)) ?_
  refine sm_iload_n dX1_reachedFrom_7 rfl rfl ?_
  refine sm_iconst dX1_reachedFrom_8 ic_2 ?_
  obtain ⟨t9, μ1z, g1, h⟩ := ob_some h
  refine sm_callV dX1_reachedFrom_9 cv_X10_named ml_RX1_97 (kk_7_0 (kk_1_5 hk_c)) rfl rfl (by decide) (as := [av_i x1, av_i 2]) rfl (Nat.le_of_ble_eq_true rfl) rfl (s_Wo_named (D := d) (by omega) N (kk_7_0 (kk_1_5 hk_c)) g1) (fun r9 μ9 hp => ?_)
  rw [hp.1, hp.2]
  clear hp r9 μ9
  refine sm_istore_n dX1_reachedFrom_12 rfl (Nat.le_of_ble_eq_true rfl) (pv_i rfl) ?_
  refine sm_iconst dX1_reachedFrom_13 ic_0 ?_
  refine sm_istore_n dX1_reachedFrom_14 rfl (Nat.le_of_ble_eq_true rfl) (pv_i rfl) ?_
  exact Sm_weak (le_s rfl (le_n (le_s rfl (le_s rfl (le_n le_0))))) (s_Co_reachedFrom_L15 hD N hk_c N t9 0 μ1z h)
set_option maxRecDepth 100000 in
set_option maxHeartbeats 4000000 in
theorem s_Co_isToldAlone_L2 {D : Nat} (hD : 0 ≤ D) (N : Nat) {c : Nat} (hk_c : sh_k c = 1) {r : Int32} {μr : MM} : ∀ (n : Nat) (x1 : Int32) (x2 : Int32) (x3 : Int32) (μ : MM), f_Co_isToldAlone_L2 N c n x1 x2 x3 μ = some (r, μr) → Sm D mX1_isToldAlone 2 [some (av_r c), some (av_i x1), some (av_i x2), some (av_i x3)] [] μ (po_i r μr) := by
  intro n
  induction n with
  | zero => intro x1 x2 x3 μ h; cases (show none = some (r, μr) from h)
  | succ n ih =>
    intro x1 x2 x3 μ h
    rw [f_Co_isToldAlone_L2] at h
    refine sm_iload_n dX1_isToldAlone_2 rfl rfl ?_
    refine sm_aload_n dX1_isToldAlone_3 rfl rfl ?_
    refine sm_getI dX1_isToldAlone_4 fg_RX1_9 hk_c ?_
    refine sm_icmp_ge (tgt := 41) dX1_isToldAlone_7 (by decide) (fun g1 => ?_) (fun g1 => ?_)
    · replace h := it_t g1 h
      refine sm_iconst dX1_isToldAlone_41 ic_1 ?_
      cases h
      exact sm_ret_z (st := []) dX1_isToldAlone_42 rfl rfl ⟨rfl, rfl⟩
    · replace h := it_f g1 h
      refine sm_iload_n dX1_isToldAlone_10 rfl rfl ?_
      refine sm_iload_n dX1_isToldAlone_11 rfl rfl ?_
      refine sm_icmp_eq (tgt := 35) dX1_isToldAlone_12 (by decide) (fun g2 => ?_) (fun g2 => ?_)
      · replace h := it_t g2 h
        refine sm_iinc dX1_isToldAlone_35 rfl (congrArg (HAdd.hAdd x3) ic_1) (Nat.le_of_ble_eq_true rfl) (pv_i rfl) ?_
        refine sm_goto (tgt := 2) dX1_isToldAlone_38 (by decide) ?_
        exact Sm_weak (le_s rfl (le_s rfl (le_s rfl (le_s rfl le_0)))) (ih x1 x2 (x3 + 1) μ h)
      · replace h := it_f g2 h
        refine sm_aload_n dX1_isToldAlone_15 rfl rfl ?_
        refine sm_getR dX1_isToldAlone_16 fg_RX1_22 hk_c (rf_1_3 hk_c) ?_
        refine sm_iload_n dX1_isToldAlone_19 rfl rfl ?_
        obtain ⟨g3, h⟩ := gd_some h
        refine sm_iald (j := (Int32.toNatClampNeg x1)) dX1_isToldAlone_20 (kk_1_3 hk_c) (in_sz (kn_1_3 hk_c) g3) rfl ?_
        refine sm_aload_n dX1_isToldAlone_21 rfl rfl ?_
        refine sm_getR dX1_isToldAlone_22 fg_RX1_22 hk_c (rf_1_3 hk_c) ?_
        refine sm_iload_n dX1_isToldAlone_25 rfl rfl ?_
        obtain ⟨g4, h⟩ := gd_some h
        refine sm_iald (j := (Int32.toNatClampNeg x3)) dX1_isToldAlone_26 (kk_1_3 hk_c) (in_sz (kn_1_3 hk_c) g4) rfl ?_
        refine sm_ixor dX1_isToldAlone_27 ?_
        refine sm_iload_n dX1_isToldAlone_28 rfl rfl ?_
        refine sm_iand dX1_isToldAlone_29 ?_
        refine sm_if_ne (tgt := 35) dX1_isToldAlone_30 (by decide) (fun g5 => ?_) (fun g5 => ?_)
        · replace h := it_f g5 h
          refine sm_iinc dX1_isToldAlone_35 rfl (congrArg (HAdd.hAdd x3) ic_1) (Nat.le_of_ble_eq_true rfl) (pv_i rfl) ?_
          refine sm_goto (tgt := 2) dX1_isToldAlone_38 (by decide) ?_
          exact Sm_weak (le_s rfl (le_s rfl (le_s rfl (le_s rfl le_0)))) (ih x1 x2 (x3 + 1) μ h)
        · replace h := it_t g5 h
          refine sm_iconst dX1_isToldAlone_33 ic_0 ?_
          cases h
          exact sm_ret_z (st := []) dX1_isToldAlone_34 rfl rfl ⟨rfl, rfl⟩
set_option maxRecDepth 100000 in
set_option maxHeartbeats 4000000 in
theorem s_Co_isToldAlone {D : Nat} (hD : 0 ≤ D) (N : Nat) {c : Nat} (hk_c : sh_k c = 1) {x1 : Int32} {x2 : Int32} {μ : MM} {r : Int32} {μr : MM} (h : f_Co_isToldAlone N c x1 x2 μ = some (r, μr)) : Cl D mX1_isToldAlone [av_r c, av_i x1, av_i x2] μ (po_i r μr) := by
  refine Cl_of pn_X1 (Nat.le_of_ble_eq_true rfl) ?_
  show Sm D mX1_isToldAlone 0 [some (av_r c), some (av_i x1), some (av_i x2), none] [] μ (po_i r μr)
  unfold f_Co_isToldAlone at h
  refine sm_iconst dX1_isToldAlone_0 ic_0 ?_
  refine sm_istore_n dX1_isToldAlone_1 rfl (Nat.le_of_ble_eq_true rfl) (pv_i rfl) ?_
  exact Sm_weak (le_s rfl (le_s rfl (le_s rfl (le_s rfl le_0)))) (s_Co_isToldAlone_L2 hD N hk_c N x1 x2 0 μ h)
set_option maxRecDepth 100000 in
set_option maxHeartbeats 4000000 in
theorem s_Gu_forget {D : Nat} (hD : 0 ≤ D) (N : Nat) {μ : MM} {μr : MM} (h : f_Gu_forget N μ = some μr) : Cl D mX2_forget [av_r 341] μ (po_v μr) := by
  refine Cl_of pn_X2 (Nat.le_of_ble_eq_true rfl) ?_
  show Sm D mX2_forget 0 [some (av_r 341)] [] μ (po_v μr)
  unfold f_Gu_forget at h
  refine sm_aload_n dX2_forget_0 rfl rfl ?_
  refine sm_iconst dX2_forget_1 ic_0 ?_
  refine sm_putI dX2_forget_2 fp_RX2_9 k_341 ?_
  replace h := wr_some h
  cases h
  exact sm_ret_v (st := []) dX2_forget_5 rfl ⟨rfl, rfl⟩
set_option maxRecDepth 100000 in
set_option maxHeartbeats 4000000 in
theorem s_Gu_note {D : Nat} (hD : 0 ≤ D) (N : Nat) {x1 : Int32} {x2 : Int32} {x3 : Int32} {μ : MM} {r : Int32} {μr : MM} (h : f_Gu_note N x1 x2 x3 μ = some (r, μr)) : Cl D mX2_note [av_r 341, av_i x1, av_i x2, av_i x3] μ (po_i r μr) := by
  refine Cl_of pn_X2 (Nat.le_of_ble_eq_true rfl) ?_
  show Sm D mX2_note 0 [some (av_r 341), some (av_i x1), some (av_i x2), some (av_i x3)] [] μ (po_i r μr)
  unfold f_Gu_note at h
  refine sm_aload_n dX2_note_0 rfl rfl ?_
  refine sm_getI dX2_note_1 fg_RX2_9 k_341 ?_
  refine sm_bipush dX2_note_4 bp_10 ?_
  refine sm_icmp_lt (tgt := 11) dX2_note_6 (by decide) (fun g1 => ?_) (fun g1 => ?_)
  · replace h := it_t g1 h
    refine sm_aload_n dX2_note_11 rfl rfl ?_
    refine sm_getR dX2_note_12 fg_RX2_15 k_341 (rf_2_2 k_341) ?_
    refine sm_aload_n dX2_note_15 rfl rfl ?_
    refine sm_getI dX2_note_16 fg_RX2_9 k_341 ?_
    refine sm_iload_n dX2_note_19 rfl rfl ?_
    obtain ⟨g2, h⟩ := gd_some h
    refine sm_iast (j := (Int32.toNatClampNeg (μ.1 341 0))) dX2_note_20 k_342 (in_sz n_342 g2) rfl ?_
    replace h := wr_some h
    refine sm_aload_n dX2_note_21 rfl rfl ?_
    refine sm_getR dX2_note_22 fg_RX2_19 k_341 (rf_2_3 k_341) ?_
    refine sm_aload_n dX2_note_25 rfl rfl ?_
    refine sm_getI dX2_note_26 fg_RX2_9 k_341 ?_
    refine sm_iload_n dX2_note_29 rfl rfl ?_
    obtain ⟨g3, h⟩ := gd_some h
    refine sm_iast (j := (Int32.toNatClampNeg ((mm_I μ 342 (Int32.toNatClampNeg (μ.1 341 0)) x1).1 341 0))) dX2_note_30 k_343 (in_sz n_343 g3) rfl ?_
    replace h := wr_some h
    refine sm_aload_n dX2_note_31 rfl rfl ?_
    refine sm_getR dX2_note_32 fg_RX2_22 k_341 (rf_2_4 k_341) ?_
    refine sm_aload_n dX2_note_35 rfl rfl ?_
    refine sm_getI dX2_note_36 fg_RX2_9 k_341 ?_
    refine sm_iload_n dX2_note_39 rfl rfl ?_
    obtain ⟨g4, h⟩ := gd_some h
    refine sm_zast (j := (Int32.toNatClampNeg ((mm_I (mm_I μ 342 (Int32.toNatClampNeg (μ.1 341 0)) x1) 343 (Int32.toNatClampNeg ((mm_I μ 342 (Int32.toNatClampNeg (μ.1 341 0)) x1).1 341 0)) x2).1 341 0))) dX2_note_40 k_344 (in_sz n_344 g4) rfl ?_
    replace h := wr_some h
    refine sm_aload_n dX2_note_41 rfl rfl ?_
    refine sm_dup dX2_note_42 rfl ?_
    refine sm_getI dX2_note_43 fg_RX2_9 k_341 ?_
    refine sm_iconst dX2_note_46 ic_1 ?_
    refine sm_iadd dX2_note_47 ?_
    refine sm_putI dX2_note_48 fp_RX2_9 k_341 ?_
    replace h := wr_some h
    refine sm_aload_n dX2_note_51 rfl rfl ?_
    refine sm_getI dX2_note_52 fg_RX2_9 k_341 ?_
    cases h
    exact sm_ret_i (st := []) dX2_note_55 rfl ⟨rfl, rfl⟩
  · replace h := it_f g1 h
    refine sm_iconst dX2_note_9 ic_m1 ?_
    cases h
    exact sm_ret_i (st := []) dX2_note_10 rfl ⟨rfl, rfl⟩
set_option maxRecDepth 100000 in
set_option maxHeartbeats 4000000 in
theorem s_Gu_aim_L82 {D : Nat} (hD : 1 ≤ D) (N : Nat) {r : Int32} {μr : MM} : ∀ (n : Nat) (x3 : Int32) (μ : MM), f_Gu_aim_L82 N n x3 μ = some (r, μr) → Sm D mX2_aim 82 [some (av_r 341), none, none, some (av_i x3)] [] μ (po_i r μr) := by
  obtain ⟨d, rfl⟩ : ∃ d, D = d + 1 := ⟨D - 1, by omega⟩
  intro n
  induction n with
  | zero => intro x3 μ h; cases (show none = some (r, μr) from h)
  | succ n ih =>
    intro x3 μ h
    rw [f_Gu_aim_L82] at h
    refine sm_iload_n dX2_aim_82 rfl rfl ?_
    refine sm_aload_n dX2_aim_83 rfl rfl ?_
    refine sm_getI dX2_aim_84 fg_RX2_32 k_341 ?_
    refine sm_icmp_ge (tgt := 107) dX2_aim_87 (by decide) (fun g8 => ?_) (fun g8 => ?_)
    · replace h := it_t g8 h
      refine sm_iconst dX2_aim_107 ic_1 ?_
      cases h
      exact sm_ret_z (st := []) dX2_aim_108 rfl rfl ⟨rfl, rfl⟩
    · replace h := it_f g8 h
      refine sm_aload_n dX2_aim_90 rfl rfl ?_
      refine sm_dup dX2_aim_91 rfl ?_
      refine sm_getI dX2_aim_92 fg_RX2_35 k_341 ?_
      refine sm_bipush dX2_aim_95 bp_12 ?_
      refine sm_imul dX2_aim_97 ?_
      refine sm_putI dX2_aim_98 fp_RX2_35 k_341 ?_
      replace h := wr_some h
      refine sm_iinc dX2_aim_101 rfl (congrArg (HAdd.hAdd x3) ic_1) (Nat.le_of_ble_eq_true rfl) (pv_n rfl) ?_
      refine sm_goto (tgt := 82) dX2_aim_104 (by decide) ?_
      exact Sm_weak (le_s rfl (le_n (le_n (le_s rfl le_0)))) (ih (x3 + 1) (mm_I μ 341 8 ((μ.1 341 8) * 12)) h)
set_option maxRecDepth 100000 in
set_option maxHeartbeats 4000000 in
theorem s_Gu_aim {D : Nat} (hD : 1 ≤ D) (N : Nat) {x1 : Int32} {μ : MM} {r : Int32} {μr : MM} (h : f_Gu_aim N x1 μ = some (r, μr)) : Cl D mX2_aim [av_r 341, av_i x1] μ (po_i r μr) := by
  obtain ⟨d, rfl⟩ : ∃ d, D = d + 1 := ⟨D - 1, by omega⟩
  refine Cl_of pn_X2 (Nat.le_of_ble_eq_true rfl) ?_
  show Sm (d + 1) mX2_aim 0 [some (av_r 341), some (av_i x1), none, none] [] μ (po_i r μr)
  unfold f_Gu_aim at h
  refine sm_aload_n dX2_aim_0 rfl rfl ?_
  refine sm_getR dX2_aim_1 fg_RX2_50 k_341 (rf_2_1 k_341) ?_
  refine sm_iload_n dX2_aim_4 rfl rfl ?_
  obtain ⟨t5, μ1z, g1, h⟩ := ob_some h
  refine sm_callV dX2_aim_5 cv_X1_isCard ml_RX2_54 k_23 rfl rfl (by decide) (as := [av_i x1]) rfl (Nat.le_of_ble_eq_true rfl) rfl (s_Co_isCard (D := d) (by omega) N k_23 g1) (fun r9 μ9 hp => ?_)
  rw [hp.1, hp.2]
  clear hp r9 μ9
  refine sm_if_ne (tgt := 13) dX2_aim_8 (by decide) (fun g2 => ?_) (fun g2 => ?_)
  · replace h := it_f g2 h
    refine sm_aload_n dX2_aim_13 rfl rfl ?_
    refine sm_getR dX2_aim_14 fg_RX2_50 k_341 (rf_2_1 k_341) ?_
    refine sm_getR dX2_aim_17 fg_RX2_60 k_23 (rf_1_5 k_23) ?_
    refine sm_getR dX2_aim_20 fg_RX2_64 k_27 (rf_7_0 k_27) ?_
    refine sm_astore_n dX2_aim_23 rfl (Nat.le_of_ble_eq_true rfl) (pv_i rfl) ?_
    refine sm_aload_n dX2_aim_24 rfl rfl ?_
    refine sm_aload_n dX2_aim_25 rfl rfl ?_
    refine sm_getR dX2_aim_26 fg_RX2_70 k_28 (rf_10_0 k_28) ?_
    refine sm_iload_n dX2_aim_29 rfl rfl ?_
    obtain ⟨g3, h⟩ := gd_some h
    refine sm_iald (j := (Int32.toNatClampNeg x1)) dX2_aim_30 k_29 (in_sz n_29 g3) rfl ?_
    refine sm_aload_n dX2_aim_31 rfl rfl ?_
    refine sm_iload_n dX2_aim_32 rfl rfl ?_
    obtain ⟨t33, μ2z, g4, h⟩ := ob_some h
    refine sm_callV dX2_aim_33 cv_X10_leftIn ml_RX2_75 k_28 rfl rfl (by decide) (as := [av_i x1]) rfl (Nat.le_of_ble_eq_true rfl) rfl (s_Wo_leftIn (D := d) (by omega) N k_28 g4) (fun r9 μ9 hp => ?_)
    rw [hp.1, hp.2]
    clear hp r9 μ9
    refine sm_isub dX2_aim_36 ?_
    refine sm_putI dX2_aim_37 fp_RX2_32 k_341 ?_
    replace h := wr_some h
    refine sm_aload_n dX2_aim_40 rfl rfl ?_
    refine sm_getI dX2_aim_41 fg_RX2_32 k_341 ?_
    refine sm_iconst dX2_aim_44 ic_3 ?_
    refine sm_icmp_le (tgt := 50) dX2_aim_45 (by decide) (fun g5 => ?_) (fun g5 => ?_)
    · replace h := it_t g5 h
      refine sm_aload_n dX2_aim_50 rfl rfl ?_
      refine sm_iload_n dX2_aim_51 rfl rfl ?_
      refine sm_putI dX2_aim_52 fp_RX2_29 k_341 ?_
      replace h := wr_some h
      refine sm_aload_n dX2_aim_55 rfl rfl ?_
      refine sm_aload_n dX2_aim_56 rfl rfl ?_
      refine sm_iload_n dX2_aim_57 rfl rfl ?_
      refine sm_iconst dX2_aim_58 ic_0 ?_
      obtain ⟨t59, μ5z, g6, h⟩ := ob_some h
      refine sm_callV dX2_aim_59 cv_X10_named ml_RX2_79 k_28 rfl rfl (by decide) (as := [av_i x1, av_i 0]) rfl (Nat.le_of_ble_eq_true rfl) rfl (s_Wo_named (D := d) (by omega) N k_28 g6) (fun r9 μ9 hp => ?_)
      rw [hp.1, hp.2]
      clear hp r9 μ9
      refine sm_putI dX2_aim_62 fp_RX2_38 k_341 ?_
      replace h := wr_some h
      refine sm_aload_n dX2_aim_65 rfl rfl ?_
      refine sm_aload_n dX2_aim_66 rfl rfl ?_
      refine sm_iload_n dX2_aim_67 rfl rfl ?_
      refine sm_iconst dX2_aim_68 ic_1 ?_
      obtain ⟨t69, μ7z, g7, h⟩ := ob_some h
      refine sm_callV dX2_aim_69 cv_X10_named ml_RX2_79 k_28 rfl rfl (by decide) (as := [av_i x1, av_i 1]) rfl (Nat.le_of_ble_eq_true rfl) rfl (s_Wo_named (D := d) (by omega) N k_28 g7) (fun r9 μ9 hp => ?_)
      rw [hp.1, hp.2]
      clear hp r9 μ9
      refine sm_putI dX2_aim_72 fp_RX2_41 k_341 ?_
      replace h := wr_some h
      refine sm_aload_n dX2_aim_75 rfl rfl ?_
      refine sm_iconst dX2_aim_76 ic_1 ?_
      refine sm_putI dX2_aim_77 fp_RX2_35 k_341 ?_
      replace h := wr_some h
      refine sm_iconst dX2_aim_80 ic_0 ?_
      refine sm_istore_n dX2_aim_81 rfl (Nat.le_of_ble_eq_true rfl) (pv_r rfl) ?_
      exact Sm_weak (le_s rfl (le_n (le_n (le_s rfl le_0)))) (s_Gu_aim_L82 hD N N 0 (mm_I (mm_I μ7z 341 10 t69) 341 8 1) h)
    · replace h := it_f g5 h
      refine sm_iconst dX2_aim_48 ic_0 ?_
      cases h
      exact sm_ret_z (st := []) dX2_aim_49 rfl rfl ⟨rfl, rfl⟩
  · replace h := it_t g2 h
    refine sm_iconst dX2_aim_11 ic_0 ?_
    cases h
    exact sm_ret_z (st := []) dX2_aim_12 rfl rfl ⟨rfl, rfl⟩
set_option maxRecDepth 100000 in
set_option maxHeartbeats 4000000 in
theorem s_Gu_layOut_L20 {D : Nat} (hD : 0 ≤ D) (N : Nat) {μr : MM} : ∀ (n : Nat) (x2 : Int32) (x3 : Int32) (μ : MM), f_Gu_layOut_L20 N n x2 x3 μ = some μr → Sm D mX2_layOut 20 [some (av_r 341), none, some (av_i x2), some (av_i x3), none] [] μ (po_v μr) := by
  intro n
  induction n with
  | zero => intro x2 x3 μ h; cases (show none = some μr from h)
  | succ n ih =>
    intro x2 x3 μ h
    rw [f_Gu_layOut_L20] at h
    refine sm_iload_n dX2_layOut_20 rfl rfl ?_
    refine sm_aload_n dX2_layOut_21 rfl rfl ?_
    refine sm_getI dX2_layOut_22 fg_RX2_32 k_341 ?_
    refine sm_icmp_ge (tgt := 84) dX2_layOut_25 (by decide) (fun g1 => ?_) (fun g1 => ?_)
    · replace h := it_t g1 h
      cases h
      exact sm_ret_v (st := []) dX2_layOut_84 rfl ⟨rfl, rfl⟩
    · replace h := it_f g1 h
      refine sm_iload_n dX2_layOut_28 rfl rfl ?_
      refine sm_bipush dX2_layOut_29 bp_12 ?_
      refine sm_irem dX2_layOut_31 (by decide) ?_
      refine sm_istore dX2_layOut_32 (Nat.le_of_ble_eq_true rfl) (pv_i rfl) ?_
      refine sm_iload_n dX2_layOut_34 rfl rfl ?_
      refine sm_bipush dX2_layOut_35 bp_12 ?_
      refine sm_idiv dX2_layOut_37 (by decide) ?_
      refine sm_istore_n dX2_layOut_38 rfl (Nat.le_of_ble_eq_true rfl) (pv_n rfl) ?_
      refine sm_iload dX2_layOut_39 rfl ?_
      refine sm_bipush dX2_layOut_41 bp_6 ?_
      refine sm_icmp_ge (tgt := 62) dX2_layOut_43 (by decide) (fun g2 => ?_) (fun g2 => ?_)
      · replace h := it_t g2 h
        refine sm_aload_n dX2_layOut_62 rfl rfl ?_
        refine sm_dup dX2_layOut_63 rfl ?_
        refine sm_getI dX2_layOut_64 fg_RX2_47 k_341 ?_
        refine sm_iconst dX2_layOut_67 ic_1 ?_
        refine sm_iload dX2_layOut_68 rfl ?_
        refine sm_bipush dX2_layOut_70 bp_6 ?_
        refine sm_isub dX2_layOut_72 ?_
        refine sm_ishl dX2_layOut_73 ?_
        refine sm_ior dX2_layOut_74 ?_
        refine sm_putI dX2_layOut_75 fp_RX2_47 k_341 ?_
        replace h := wr_some h
        refine sm_iinc dX2_layOut_78 rfl (congrArg (HAdd.hAdd x3) ic_1) (Nat.le_of_ble_eq_true rfl) (pv_i rfl) ?_
        refine sm_goto (tgt := 20) dX2_layOut_81 (by decide) ?_
        exact Sm_weak (le_s rfl (le_n (le_s rfl (le_s rfl (le_n le_0))))) (ih (x2 / 12) (x3 + 1) (mm_I μ 341 12 ((μ.1 341 12) ||| ((1 : Int32) <<< (((x2 - x2 / 12 * 12) - 6) &&& 31)))) h)
      · replace h := it_f g2 h
        refine sm_aload_n dX2_layOut_46 rfl rfl ?_
        refine sm_dup dX2_layOut_47 rfl ?_
        refine sm_getI dX2_layOut_48 fg_RX2_44 k_341 ?_
        refine sm_iconst dX2_layOut_51 ic_1 ?_
        refine sm_iload dX2_layOut_52 rfl ?_
        refine sm_ishl dX2_layOut_54 ?_
        refine sm_ior dX2_layOut_55 ?_
        refine sm_putI dX2_layOut_56 fp_RX2_44 k_341 ?_
        replace h := wr_some h
        refine sm_goto (tgt := 78) dX2_layOut_59 (by decide) ?_
        refine sm_iinc dX2_layOut_78 rfl (congrArg (HAdd.hAdd x3) ic_1) (Nat.le_of_ble_eq_true rfl) (pv_i rfl) ?_
        refine sm_goto (tgt := 20) dX2_layOut_81 (by decide) ?_
        exact Sm_weak (le_s rfl (le_n (le_s rfl (le_s rfl (le_n le_0))))) (ih (x2 / 12) (x3 + 1) (mm_I μ 341 11 ((μ.1 341 11) ||| ((1 : Int32) <<< ((x2 - x2 / 12 * 12) &&& 31)))) h)
set_option maxRecDepth 100000 in
set_option maxHeartbeats 4000000 in
theorem s_Gu_layOut {D : Nat} (hD : 0 ≤ D) (N : Nat) {x1 : Int32} {μ : MM} {μr : MM} (h : f_Gu_layOut N x1 μ = some μr) : Cl D mX2_layOut [av_r 341, av_i x1] μ (po_v μr) := by
  refine Cl_of pn_X2 (Nat.le_of_ble_eq_true rfl) ?_
  show Sm D mX2_layOut 0 [some (av_r 341), some (av_i x1), none, none, none] [] μ (po_v μr)
  unfold f_Gu_layOut at h
  refine sm_aload_n dX2_layOut_0 rfl rfl ?_
  refine sm_aload_n dX2_layOut_1 rfl rfl ?_
  refine sm_getI dX2_layOut_2 fg_RX2_38 k_341 ?_
  refine sm_putI dX2_layOut_5 fp_RX2_44 k_341 ?_
  replace h := wr_some h
  refine sm_aload_n dX2_layOut_8 rfl rfl ?_
  refine sm_aload_n dX2_layOut_9 rfl rfl ?_
  refine sm_getI dX2_layOut_10 fg_RX2_41 k_341 ?_
  refine sm_putI dX2_layOut_13 fp_RX2_47 k_341 ?_
  replace h := wr_some h
  refine sm_iload_n dX2_layOut_16 rfl rfl ?_
  refine sm_istore_n dX2_layOut_17 rfl (Nat.le_of_ble_eq_true rfl) (pv_i rfl) ?_
  refine sm_iconst dX2_layOut_18 ic_0 ?_
  refine sm_istore_n dX2_layOut_19 rfl (Nat.le_of_ble_eq_true rfl) (pv_i rfl) ?_
  exact Sm_weak (le_s rfl (le_n (le_s rfl (le_s rfl (le_n le_0))))) (s_Gu_layOut_L20 hD N N x1 0 (mm_I (mm_I μ 341 11 (μ.1 341 9)) 341 12 ((mm_I μ 341 11 (μ.1 341 9)).1 341 10)) h)
set_option maxRecDepth 100000 in
set_option maxHeartbeats 4000000 in
theorem s_Gu_wouldFit {D : Nat} (hD : 1 ≤ D) (N : Nat) {x1 : Int32} {μ : MM} {r : Int32} {μr : MM} (h : f_Gu_wouldFit N x1 μ = some (r, μr)) : Cl D mX2_wouldFit [av_r 341, av_i x1] μ (po_i r μr) := by
  obtain ⟨d, rfl⟩ : ∃ d, D = d + 1 := ⟨D - 1, by omega⟩
  refine Cl_of pn_X2 (Nat.le_of_ble_eq_true rfl) ?_
  show Sm (d + 1) mX2_wouldFit 0 [some (av_r 341), some (av_i x1), none] [] μ (po_i r μr)
  unfold f_Gu_wouldFit at h
  refine sm_aload_n dX2_wouldFit_0 rfl rfl ?_
  refine sm_getR dX2_wouldFit_1 fg_RX2_50 k_341 (rf_2_1 k_341) ?_
  refine sm_iload_n dX2_wouldFit_4 rfl rfl ?_
  obtain ⟨t5, μ1z, g1, h⟩ := ob_some h
  refine sm_callV dX2_wouldFit_5 cv_X1_isThing ml_RX2_103 k_23 rfl rfl (by decide) (as := [av_i x1]) rfl (Nat.le_of_ble_eq_true rfl) rfl (s_Co_isThing (D := d) (by omega) N k_23 g1) (fun r9 μ9 hp => ?_)
  rw [hp.1, hp.2]
  clear hp r9 μ9
  refine sm_if_ne (tgt := 13) dX2_wouldFit_8 (by decide) (fun g2 => ?_) (fun g2 => ?_)
  · replace h := it_f g2 h
    refine sm_aload_n dX2_wouldFit_13 rfl rfl ?_
    refine sm_getR dX2_wouldFit_14 fg_RX2_50 k_341 (rf_2_1 k_341) ?_
    refine sm_getR dX2_wouldFit_17 fg_RX2_106 k_23 (rf_1_3 k_23) ?_
    refine sm_iload_n dX2_wouldFit_20 rfl rfl ?_
    obtain ⟨g3, h⟩ := gd_some h
    refine sm_iald (j := (Int32.toNatClampNeg x1)) dX2_wouldFit_21 k_25 (in_sz n_25 g3) rfl ?_
    refine sm_istore_n dX2_wouldFit_22 rfl (Nat.le_of_ble_eq_true rfl) (pv_i rfl) ?_
    refine sm_iload_n dX2_wouldFit_23 rfl rfl ?_
    refine sm_aload_n dX2_wouldFit_24 rfl rfl ?_
    refine sm_getI dX2_wouldFit_25 fg_RX2_44 k_341 ?_
    refine sm_iand dX2_wouldFit_28 ?_
    refine sm_aload_n dX2_wouldFit_29 rfl rfl ?_
    refine sm_getI dX2_wouldFit_30 fg_RX2_44 k_341 ?_
    refine sm_icmp_ne (tgt := 49) dX2_wouldFit_33 (by decide) (fun g4 => ?_) (fun g4 => ?_)
    · replace h := it_f g4 h
      refine sm_iconst dX2_wouldFit_49 ic_0 ?_
      cases h
      exact sm_ret_z (st := []) dX2_wouldFit_50 rfl rfl ⟨rfl, rfl⟩
    · replace h := it_t g4 h
      refine sm_iload_n dX2_wouldFit_36 rfl rfl ?_
      refine sm_aload_n dX2_wouldFit_37 rfl rfl ?_
      refine sm_getI dX2_wouldFit_38 fg_RX2_47 k_341 ?_
      refine sm_iand dX2_wouldFit_41 ?_
      refine sm_if_ne (tgt := 49) dX2_wouldFit_42 (by decide) (fun g5 => ?_) (fun g5 => ?_)
      · replace h := it_f g5 h
        refine sm_iconst dX2_wouldFit_49 ic_0 ?_
        cases h
        exact sm_ret_z (st := []) dX2_wouldFit_50 rfl rfl ⟨rfl, rfl⟩
      · replace h := it_t g5 h
        refine sm_iconst dX2_wouldFit_45 ic_1 ?_
        refine sm_goto (tgt := 50) dX2_wouldFit_46 (by decide) ?_
        cases h
        exact sm_ret_z (st := []) dX2_wouldFit_50 rfl rfl ⟨rfl, rfl⟩
  · replace h := it_t g2 h
    refine sm_iconst dX2_wouldFit_11 ic_0 ?_
    cases h
    exact sm_ret_z (st := []) dX2_wouldFit_12 rfl rfl ⟨rfl, rfl⟩
set_option maxRecDepth 100000 in
set_option maxHeartbeats 4000000 in
theorem s_Gu_isRow_L7 {D : Nat} (hD : 2 ≤ D) (N : Nat) {r : Int32} {μr : MM} : ∀ (n : Nat) (x2 : Int32) (μ : MM), f_Gu_isRow_L7 N n x2 μ = some (r, μr) → Sm D mX2_isRow 7 [some (av_r 341), none, some (av_i x2)] [] μ (po_i r μr) := by
  obtain ⟨d, rfl⟩ : ∃ d, D = d + 1 := ⟨D - 1, by omega⟩
  intro n
  induction n with
  | zero => intro x2 μ h; cases (show none = some (r, μr) from h)
  | succ n ih =>
    intro x2 μ h
    rw [f_Gu_isRow_L7] at h
    refine sm_iload_n dX2_isRow_7 rfl rfl ?_
    refine sm_aload_n dX2_isRow_8 rfl rfl ?_
    refine sm_getI dX2_isRow_9 fg_RX2_9 k_341 ?_
    refine sm_icmp_ge (tgt := 55) dX2_isRow_12 (by decide) (fun g2 => ?_) (fun g2 => ?_)
    · replace h := it_t g2 h
      refine sm_iconst dX2_isRow_55 ic_1 ?_
      cases h
      exact sm_ret_z (st := []) dX2_isRow_56 rfl rfl ⟨rfl, rfl⟩
    · replace h := it_f g2 h
      refine sm_aload_n dX2_isRow_15 rfl rfl ?_
      refine sm_getR dX2_isRow_16 fg_RX2_19 k_341 (rf_2_3 k_341) ?_
      refine sm_iload_n dX2_isRow_19 rfl rfl ?_
      obtain ⟨g3, h⟩ := gd_some h
      refine sm_iald (j := (Int32.toNatClampNeg x2)) dX2_isRow_20 k_343 (in_sz n_343 g3) rfl ?_
      refine sm_aload_n dX2_isRow_21 rfl rfl ?_
      refine sm_getI dX2_isRow_22 fg_RX2_29 k_341 ?_
      refine sm_icmp_ne (tgt := 49) dX2_isRow_25 (by decide) (fun g4 => ?_) (fun g4 => ?_)
      · replace h := it_f g4 h
        refine sm_iinc dX2_isRow_49 rfl (congrArg (HAdd.hAdd x2) ic_1) (Nat.le_of_ble_eq_true rfl) (pv_n rfl) ?_
        refine sm_goto (tgt := 7) dX2_isRow_52 (by decide) ?_
        exact Sm_weak (le_s rfl (le_n (le_s rfl le_0))) (ih (x2 + 1) μ h)
      · replace h := it_t g4 h
        refine sm_aload_n dX2_isRow_28 rfl rfl ?_
        refine sm_aload_n dX2_isRow_29 rfl rfl ?_
        refine sm_getR dX2_isRow_30 fg_RX2_15 k_341 (rf_2_2 k_341) ?_
        refine sm_iload_n dX2_isRow_33 rfl rfl ?_
        obtain ⟨g5, h⟩ := gd_some h
        refine sm_iald (j := (Int32.toNatClampNeg x2)) dX2_isRow_34 k_342 (in_sz n_342 g5) rfl ?_
        obtain ⟨t35, μ2z, g6, h⟩ := ob_some h
        refine sm_callV dX2_isRow_35 cv_X2_wouldFit ml_RX2_88 k_341 rfl rfl (by decide) (as := [av_i (μ.1 342 (Int32.toNatClampNeg x2))]) rfl (Nat.le_of_ble_eq_true rfl) rfl (s_Gu_wouldFit (D := d) (by omega) N g6) (fun r9 μ9 hp => ?_)
        rw [hp.1, hp.2]
        clear hp r9 μ9
        refine sm_aload_n dX2_isRow_38 rfl rfl ?_
        refine sm_getR dX2_isRow_39 fg_RX2_22 k_341 (rf_2_4 k_341) ?_
        refine sm_iload_n dX2_isRow_42 rfl rfl ?_
        obtain ⟨g7, h⟩ := gd_some h
        refine sm_zald (j := (Int32.toNatClampNeg x2)) dX2_isRow_43 k_344 (in_sz n_344 g7) rfl ?_
        refine sm_icmp_eq (tgt := 49) dX2_isRow_44 (by decide) (fun g8 => ?_) (fun g8 => ?_)
        · replace h := it_t g8 h
          refine sm_iinc dX2_isRow_49 rfl (congrArg (HAdd.hAdd x2) ic_1) (Nat.le_of_ble_eq_true rfl) (pv_n rfl) ?_
          refine sm_goto (tgt := 7) dX2_isRow_52 (by decide) ?_
          exact Sm_weak (le_s rfl (le_n (le_s rfl le_0))) (ih (x2 + 1) μ2z h)
        · replace h := it_f g8 h
          refine sm_iconst dX2_isRow_47 ic_0 ?_
          cases h
          exact sm_ret_z (st := []) dX2_isRow_48 rfl rfl ⟨rfl, rfl⟩
set_option maxRecDepth 100000 in
set_option maxHeartbeats 4000000 in
theorem s_Gu_isRow {D : Nat} (hD : 2 ≤ D) (N : Nat) {x1 : Int32} {μ : MM} {r : Int32} {μr : MM} (h : f_Gu_isRow N x1 μ = some (r, μr)) : Cl D mX2_isRow [av_r 341, av_i x1] μ (po_i r μr) := by
  obtain ⟨d, rfl⟩ : ∃ d, D = d + 1 := ⟨D - 1, by omega⟩
  refine Cl_of pn_X2 (Nat.le_of_ble_eq_true rfl) ?_
  show Sm (d + 1) mX2_isRow 0 [some (av_r 341), some (av_i x1), none] [] μ (po_i r μr)
  unfold f_Gu_isRow at h
  refine sm_aload_n dX2_isRow_0 rfl rfl ?_
  refine sm_iload_n dX2_isRow_1 rfl rfl ?_
  obtain ⟨μ1z, g1, h⟩ := obv_some h
  refine sm_callV dX2_isRow_2 cv_X2_layOut ml_RX2_99 k_341 rfl rfl (by decide) (as := [av_i x1]) rfl (Nat.le_of_ble_eq_true rfl) rfl (s_Gu_layOut (D := d) (by omega) N g1) (fun r9 μ9 hp => ?_)
  rw [hp.1, hp.2]
  clear hp r9 μ9
  refine sm_iconst dX2_isRow_5 ic_0 ?_
  refine sm_istore_n dX2_isRow_6 rfl (Nat.le_of_ble_eq_true rfl) (pv_i rfl) ?_
  exact Sm_weak (le_s rfl (le_n (le_s rfl le_0))) (s_Gu_isRow_L7 hD N N 0 μ1z h)
set_option maxRecDepth 100000 in
set_option maxHeartbeats 4000000 in
theorem s_Gu_countRows_L4 {D : Nat} (hD : 3 ≤ D) (N : Nat) {r : Int32} {μr : MM} : ∀ (n : Nat) (x1 : Int32) (x2 : Int32) (μ : MM), f_Gu_countRows_L4 N n x1 x2 μ = some (r, μr) → Sm D mX2_countRows 4 [some (av_r 341), some (av_i x1), some (av_i x2)] [] μ (po_i r μr) := by
  obtain ⟨d, rfl⟩ : ∃ d, D = d + 1 := ⟨D - 1, by omega⟩
  intro n
  induction n with
  | zero => intro x1 x2 μ h; cases (show none = some (r, μr) from h)
  | succ n ih =>
    intro x1 x2 μ h
    rw [f_Gu_countRows_L4] at h
    refine sm_iload_n dX2_countRows_4 rfl rfl ?_
    refine sm_aload_n dX2_countRows_5 rfl rfl ?_
    refine sm_getI dX2_countRows_6 fg_RX2_35 k_341 ?_
    refine sm_icmp_ge (tgt := 29) dX2_countRows_9 (by decide) (fun g1 => ?_) (fun g1 => ?_)
    · replace h := it_t g1 h
      refine sm_iload_n dX2_countRows_29 rfl rfl ?_
      cases h
      exact sm_ret_i (st := []) dX2_countRows_30 rfl ⟨rfl, rfl⟩
    · replace h := it_f g1 h
      refine sm_aload_n dX2_countRows_12 rfl rfl ?_
      refine sm_iload_n dX2_countRows_13 rfl rfl ?_
      obtain ⟨t14, μ1z, g2, h⟩ := ob_some h
      refine sm_callV dX2_countRows_14 cv_X2_isRow ml_RX2_83 k_341 rfl rfl (by decide) (as := [av_i x2]) rfl (Nat.le_of_ble_eq_true rfl) rfl (s_Gu_isRow (D := d) (by omega) N g2) (fun r9 μ9 hp => ?_)
      rw [hp.1, hp.2]
      clear hp r9 μ9
      have hj17 : ∀ (v17_0 : Int32), v17_0 = (if t14 = 0 then x1 else (x1 + 1)) → Sm (d + 1) mX2_countRows 23 [some (av_r 341), some (av_i v17_0), some (av_i x2)] [] μ1z (po_i r μr) := by
        intro v17_0 ev17_0
        subst ev17_0
        refine sm_iinc dX2_countRows_23 rfl (congrArg (HAdd.hAdd x2) ic_1) (Nat.le_of_ble_eq_true rfl) (pv_i rfl) ?_
        refine sm_goto (tgt := 4) dX2_countRows_26 (by decide) ?_
        exact Sm_weak (le_s rfl (le_s rfl (le_s rfl le_0))) (ih (if t14 = 0 then x1 else (x1 + 1)) (x2 + 1) μ1z h)
      refine sm_if_eq (tgt := 23) dX2_countRows_17 (by decide) (fun c17_0 => ?_) (fun c17_0 => ?_)
      · exact Sm_weak (le_s rfl (le_s rfl (le_s rfl le_0))) (hj17 _ (if_pos c17_0).symm)
      · refine sm_iinc dX2_countRows_20 rfl (congrArg (HAdd.hAdd x1) ic_1) (Nat.le_of_ble_eq_true rfl) (pv_r rfl) ?_
        exact Sm_weak (le_s rfl (le_s rfl (le_s rfl le_0))) (hj17 _ (if_neg c17_0).symm)
set_option maxRecDepth 100000 in
set_option maxHeartbeats 4000000 in
theorem s_Gu_countRows {D : Nat} (hD : 3 ≤ D) (N : Nat) {μ : MM} {r : Int32} {μr : MM} (h : f_Gu_countRows N μ = some (r, μr)) : Cl D mX2_countRows [av_r 341] μ (po_i r μr) := by
  obtain ⟨d, rfl⟩ : ∃ d, D = d + 1 := ⟨D - 1, by omega⟩
  refine Cl_of pn_X2 (Nat.le_of_ble_eq_true rfl) ?_
  show Sm (d + 1) mX2_countRows 0 [some (av_r 341), none, none] [] μ (po_i r μr)
  unfold f_Gu_countRows at h
  refine sm_iconst dX2_countRows_0 ic_0 ?_
  refine sm_istore_n dX2_countRows_1 rfl (Nat.le_of_ble_eq_true rfl) (pv_r rfl) ?_
  refine sm_iconst dX2_countRows_2 ic_0 ?_
  refine sm_istore_n dX2_countRows_3 rfl (Nat.le_of_ble_eq_true rfl) (pv_i rfl) ?_
  exact Sm_weak (le_s rfl (le_s rfl (le_s rfl le_0))) (s_Gu_countRows_L4 hD N N 0 0 μ h)
set_option maxRecDepth 100000 in
set_option maxHeartbeats 4000000 in
theorem s_Gu_findRow_L4 {D : Nat} (hD : 3 ≤ D) (N : Nat) {r : Int32} {μr : MM} : ∀ (n : Nat) (x1 : Int32) (x2 : Int32) (x3 : Int32) (μ : MM), f_Gu_findRow_L4 N n x1 x2 x3 μ = some (r, μr) → Sm D mX2_findRow 4 [some (av_r 341), some (av_i x1), some (av_i x2), some (av_i x3)] [] μ (po_i r μr) := by
  obtain ⟨d, rfl⟩ : ∃ d, D = d + 1 := ⟨D - 1, by omega⟩
  intro n
  induction n with
  | zero => intro x1 x2 x3 μ h; cases (show none = some (r, μr) from h)
  | succ n ih =>
    intro x1 x2 x3 μ h
    rw [f_Gu_findRow_L4] at h
    refine sm_iload_n dX2_findRow_4 rfl rfl ?_
    refine sm_aload_n dX2_findRow_5 rfl rfl ?_
    refine sm_getI dX2_findRow_6 fg_RX2_35 k_341 ?_
    refine sm_icmp_ge (tgt := 36) dX2_findRow_9 (by decide) (fun g1 => ?_) (fun g1 => ?_)
    · replace h := it_t g1 h
      refine sm_iconst dX2_findRow_36 ic_m1 ?_
      cases h
      exact sm_ret_i (st := []) dX2_findRow_37 rfl ⟨rfl, rfl⟩
    · replace h := it_f g1 h
      refine sm_aload_n dX2_findRow_12 rfl rfl ?_
      refine sm_iload_n dX2_findRow_13 rfl rfl ?_
      obtain ⟨t14, μ1z, g2, h⟩ := ob_some h
      refine sm_callV dX2_findRow_14 cv_X2_isRow ml_RX2_83 k_341 rfl rfl (by decide) (as := [av_i x3]) rfl (Nat.le_of_ble_eq_true rfl) rfl (s_Gu_isRow (D := d) (by omega) N g2) (fun r9 μ9 hp => ?_)
      rw [hp.1, hp.2]
      clear hp r9 μ9
      refine sm_if_eq (tgt := 30) dX2_findRow_17 (by decide) (fun g3 => ?_) (fun g3 => ?_)
      · replace h := it_t g3 h
        refine sm_iinc dX2_findRow_30 rfl (congrArg (HAdd.hAdd x3) ic_1) (Nat.le_of_ble_eq_true rfl) (pv_i rfl) ?_
        refine sm_goto (tgt := 4) dX2_findRow_33 (by decide) ?_
        exact Sm_weak (le_s rfl (le_s rfl (le_s rfl (le_s rfl le_0)))) (ih x1 x2 (x3 + 1) μ1z h)
      · replace h := it_f g3 h
        refine sm_iload_n dX2_findRow_20 rfl rfl ?_
        refine sm_iload_n dX2_findRow_21 rfl rfl ?_
        refine sm_icmp_ne (tgt := 27) dX2_findRow_22 (by decide) (fun g4 => ?_) (fun g4 => ?_)
        · replace h := it_f g4 h
          refine sm_iinc dX2_findRow_27 rfl (congrArg (HAdd.hAdd x2) ic_1) (Nat.le_of_ble_eq_true rfl) (pv_i rfl) ?_
          refine sm_iinc dX2_findRow_30 rfl (congrArg (HAdd.hAdd x3) ic_1) (Nat.le_of_ble_eq_true rfl) (pv_i rfl) ?_
          refine sm_goto (tgt := 4) dX2_findRow_33 (by decide) ?_
          exact Sm_weak (le_s rfl (le_s rfl (le_s rfl (le_s rfl le_0)))) (ih x1 (x2 + 1) (x3 + 1) μ1z h)
        · replace h := it_t g4 h
          refine sm_iload_n dX2_findRow_25 rfl rfl ?_
          cases h
          exact sm_ret_i (st := []) dX2_findRow_26 rfl ⟨rfl, rfl⟩
set_option maxRecDepth 100000 in
set_option maxHeartbeats 4000000 in
theorem s_Gu_findRow {D : Nat} (hD : 3 ≤ D) (N : Nat) {x1 : Int32} {μ : MM} {r : Int32} {μr : MM} (h : f_Gu_findRow N x1 μ = some (r, μr)) : Cl D mX2_findRow [av_r 341, av_i x1] μ (po_i r μr) := by
  obtain ⟨d, rfl⟩ : ∃ d, D = d + 1 := ⟨D - 1, by omega⟩
  refine Cl_of pn_X2 (Nat.le_of_ble_eq_true rfl) ?_
  show Sm (d + 1) mX2_findRow 0 [some (av_r 341), some (av_i x1), none, none] [] μ (po_i r μr)
  unfold f_Gu_findRow at h
  refine sm_iconst dX2_findRow_0 ic_0 ?_
  refine sm_istore_n dX2_findRow_1 rfl (Nat.le_of_ble_eq_true rfl) (pv_i rfl) ?_
  refine sm_iconst dX2_findRow_2 ic_0 ?_
  refine sm_istore_n dX2_findRow_3 rfl (Nat.le_of_ble_eq_true rfl) (pv_i rfl) ?_
  exact Sm_weak (le_s rfl (le_s rfl (le_s rfl (le_s rfl le_0)))) (s_Gu_findRow_L4 hD N N x1 0 0 μ h)
set_option maxRecDepth 100000 in
set_option maxHeartbeats 4000000 in
theorem s_Gu_evenThing_L98 {D : Nat} (hD : 3 ≤ D) (N : Nat) {r : Int32} {μr : MM} : ∀ (n : Nat) (x1 : Int32) (x2 : Int32) (x3 : Int32) (x4 : Int32) (μ : MM), f_Gu_evenThing_L98 N n x1 x2 x3 x4 μ = some (r, μr) → Sm D mX2_evenThing 98 [some (av_r 341), some (av_i x1), some (av_i x2), some (av_i x3), some (av_i x4), none] [] μ (po_i r μr) := by
  obtain ⟨d, rfl⟩ : ∃ d, D = d + 1 := ⟨D - 1, by omega⟩
  intro n
  induction n with
  | zero => intro x1 x2 x3 x4 μ h; cases (show none = some (r, μr) from h)
  | succ n ih =>
    intro x1 x2 x3 x4 μ h
    rw [f_Gu_evenThing_L98] at h
    refine sm_iload dX2_evenThing_98 rfl ?_
    refine sm_aload_n dX2_evenThing_100 rfl rfl ?_
    refine sm_getR dX2_evenThing_101 fg_RX2_50 k_341 (rf_2_1 k_341) ?_
    refine sm_getI dX2_evenThing_104 fg_RX2_86 k_23 ?_
    refine sm_icmp_ge (tgt := 153) dX2_evenThing_107 (by decide) (fun g3 => ?_) (fun g3 => ?_)
    · replace h := it_t g3 h
      refine sm_iload_n dX2_evenThing_153 rfl rfl ?_
      cases h
      exact sm_ret_i (st := []) dX2_evenThing_154 rfl ⟨rfl, rfl⟩
    · replace h := it_f g3 h
      refine sm_iload_n dX2_evenThing_110 rfl rfl ?_
      refine sm_if_le (tgt := 153) dX2_evenThing_111 (by decide) (fun g4 => ?_) (fun g4 => ?_)
      · replace h := it_t g4 h
        refine sm_iload_n dX2_evenThing_153 rfl rfl ?_
        cases h
        exact sm_ret_i (st := []) dX2_evenThing_154 rfl ⟨rfl, rfl⟩
      · replace h := it_f g4 h
        refine sm_iconst dX2_evenThing_114 ic_2 ?_
        refine sm_aload_n dX2_evenThing_115 rfl rfl ?_
        refine sm_getR dX2_evenThing_116 fg_RX2_26 k_341 (rf_2_5 k_341) ?_
        refine sm_iload dX2_evenThing_119 rfl ?_
        obtain ⟨g5, h⟩ := gd_some h
        refine sm_iald (j := (Int32.toNatClampNeg x4)) dX2_evenThing_121 k_345 (in_sz n_345 g5) rfl ?_
        refine sm_imul dX2_evenThing_122 ?_
        refine sm_iload_n dX2_evenThing_123 rfl rfl ?_
        refine sm_isub dX2_evenThing_124 ?_
        refine sm_abs dX2_evenThing_125 ml_RX2_91 (Nat.le_of_ble_eq_true rfl) ?_
        refine sm_istore dX2_evenThing_128 (Nat.le_of_ble_eq_true rfl) (pv_i rfl) ?_
        refine sm_iload_n dX2_evenThing_130 rfl rfl ?_
        refine sm_iconst dX2_evenThing_131 ic_m1 ?_
        refine sm_icmp_eq (tgt := 141) dX2_evenThing_132 (by decide) (fun g6 => ?_) (fun g6 => ?_)
        · replace h := it_t g6 h
          refine sm_iload dX2_evenThing_141 rfl ?_
          refine sm_istore_n dX2_evenThing_143 rfl (Nat.le_of_ble_eq_true rfl) (pv_i rfl) ?_
          refine sm_iload dX2_evenThing_144 rfl ?_
          refine sm_istore_n dX2_evenThing_146 rfl (Nat.le_of_ble_eq_true rfl) (pv_i rfl) ?_
          refine sm_iinc dX2_evenThing_147 rfl (congrArg (HAdd.hAdd x4) ic_1) (Nat.le_of_ble_eq_true rfl) (pv_i rfl) ?_
          refine sm_goto (tgt := 98) dX2_evenThing_150 (by decide) ?_
          exact Sm_weak (le_s rfl (le_s rfl (le_s rfl (le_s rfl (le_s rfl (le_n le_0)))))) (ih x1 x4 (if 0 ≤ ((2 * (μ.1 345 (Int32.toNatClampNeg x4))) - x1) then ((2 * (μ.1 345 (Int32.toNatClampNeg x4))) - x1) else 0 - ((2 * (μ.1 345 (Int32.toNatClampNeg x4))) - x1)) (x4 + 1) μ h)
        · replace h := it_f g6 h
          refine sm_iload dX2_evenThing_135 rfl ?_
          refine sm_iload_n dX2_evenThing_137 rfl rfl ?_
          refine sm_icmp_ge (tgt := 147) dX2_evenThing_138 (by decide) (fun g7 => ?_) (fun g7 => ?_)
          · replace h := it_t g7 h
            refine sm_iinc dX2_evenThing_147 rfl (congrArg (HAdd.hAdd x4) ic_1) (Nat.le_of_ble_eq_true rfl) (pv_i rfl) ?_
            refine sm_goto (tgt := 98) dX2_evenThing_150 (by decide) ?_
            exact Sm_weak (le_s rfl (le_s rfl (le_s rfl (le_s rfl (le_s rfl (le_n le_0)))))) (ih x1 x2 x3 (x4 + 1) μ h)
          · replace h := it_f g7 h
            refine sm_iload dX2_evenThing_141 rfl ?_
            refine sm_istore_n dX2_evenThing_143 rfl (Nat.le_of_ble_eq_true rfl) (pv_i rfl) ?_
            refine sm_iload dX2_evenThing_144 rfl ?_
            refine sm_istore_n dX2_evenThing_146 rfl (Nat.le_of_ble_eq_true rfl) (pv_i rfl) ?_
            refine sm_iinc dX2_evenThing_147 rfl (congrArg (HAdd.hAdd x4) ic_1) (Nat.le_of_ble_eq_true rfl) (pv_i rfl) ?_
            refine sm_goto (tgt := 98) dX2_evenThing_150 (by decide) ?_
            exact Sm_weak (le_s rfl (le_s rfl (le_s rfl (le_s rfl (le_s rfl (le_n le_0)))))) (ih x1 x4 (if 0 ≤ ((2 * (μ.1 345 (Int32.toNatClampNeg x4))) - x1) then ((2 * (μ.1 345 (Int32.toNatClampNeg x4))) - x1) else 0 - ((2 * (μ.1 345 (Int32.toNatClampNeg x4))) - x1)) (x4 + 1) μ h)
set_option maxRecDepth 100000 in
set_option maxHeartbeats 4000000 in
theorem s_Gu_evenThing_B77 {D : Nat} (hD : 3 ≤ D) (N : Nat) {r : Int32} {μr : MM} {k25 : Int32 → Int32 → MM → Option (Int32 × MM)} (hk25 : ∀ (x1 : Int32) (x2 : Int32) (μ : MM), k25 x1 x2 μ = some (r, μr) → Sm D mX2_evenThing 25 [some (av_r 341), some (av_i x1), some (av_i x2), none, none, none] [] μ (po_i r μr)) {k46 : Int32 → Int32 → Int32 → MM → Option (Int32 × MM)} (hk46 : ∀ (x1 : Int32) (x2 : Int32) (x3 : Int32) (μ : MM), k46 x1 x2 x3 μ = some (r, μr) → Sm D mX2_evenThing 46 [some (av_r 341), some (av_i x1), some (av_i x2), some (av_i x3), none, none] [] μ (po_i r μr)) (x1 : Int32) (x2 : Int32) (x3 : Int32) (s1 : Int32) (s2 : Int32) (s3 : Int32) (μ : MM) (h : f_Gu_evenThing_B77 N k25 k46 x1 x2 x3 s1 s2 s3 μ = some (r, μr)) : Sm D mX2_evenThing 77 [some (av_r 341), some (av_i x1), some (av_i x2), some (av_i x3), none, none] [av_i s3, av_i s2, av_i s1, av_r 345] μ (po_i r μr) := by
  obtain ⟨d, rfl⟩ : ∃ d, D = d + 1 := ⟨D - 1, by omega⟩
  unfold f_Gu_evenThing_B77 at h
  refine sm_iadd dX2_evenThing_77 ?_
  obtain ⟨g13, h⟩ := gd_some h
  refine sm_iast (j := (Int32.toNatClampNeg s1)) dX2_evenThing_78 k_345 (in_sz n_345 g13) rfl ?_
  replace h := wr_some h
  refine sm_iinc dX2_evenThing_79 rfl (congrArg (HAdd.hAdd x3) ic_1) (Nat.le_of_ble_eq_true rfl) (pv_i rfl) ?_
  refine sm_goto (tgt := 46) dX2_evenThing_82 (by decide) ?_
  exact Sm_weak (le_s rfl (le_s rfl (le_s rfl (le_s rfl (le_n (le_n le_0)))))) (hk46 x1 x2 (x3 + 1) (mm_I μ 345 (Int32.toNatClampNeg s1) (s2 + s3)) h)
set_option maxRecDepth 100000 in
set_option maxHeartbeats 4000000 in
theorem s_Gu_evenThing_L46 {D : Nat} (hD : 3 ≤ D) (N : Nat) {r : Int32} {μr : MM} {k25 : Int32 → Int32 → MM → Option (Int32 × MM)} (hk25 : ∀ (x1 : Int32) (x2 : Int32) (μ : MM), k25 x1 x2 μ = some (r, μr) → Sm D mX2_evenThing 25 [some (av_r 341), some (av_i x1), some (av_i x2), none, none, none] [] μ (po_i r μr)) : ∀ (n : Nat) (x1 : Int32) (x2 : Int32) (x3 : Int32) (μ : MM), f_Gu_evenThing_L46 N k25 n x1 x2 x3 μ = some (r, μr) → Sm D mX2_evenThing 46 [some (av_r 341), some (av_i x1), some (av_i x2), some (av_i x3), none, none] [] μ (po_i r μr) := by
  obtain ⟨d, rfl⟩ : ∃ d, D = d + 1 := ⟨D - 1, by omega⟩
  intro n
  induction n with
  | zero => intro x1 x2 x3 μ h; cases (show none = some (r, μr) from h)
  | succ n ih =>
    intro x1 x2 x3 μ h
    rw [f_Gu_evenThing_L46] at h
    refine sm_iload_n dX2_evenThing_46 rfl rfl ?_
    refine sm_aload_n dX2_evenThing_47 rfl rfl ?_
    refine sm_getR dX2_evenThing_48 fg_RX2_50 k_341 (rf_2_1 k_341) ?_
    refine sm_getI dX2_evenThing_51 fg_RX2_86 k_23 ?_
    refine sm_icmp_ge (tgt := 85) dX2_evenThing_54 (by decide) (fun g10 => ?_) (fun g10 => ?_)
    · replace h := it_t g10 h
      refine sm_iinc dX2_evenThing_85 rfl (congrArg (HAdd.hAdd x2) ic_1) (Nat.le_of_ble_eq_true rfl) (pv_i rfl) ?_
      refine sm_goto (tgt := 25) dX2_evenThing_88 (by decide) ?_
      exact Sm_weak (le_s rfl (le_s rfl (le_s rfl (le_n (le_n (le_n le_0)))))) (hk25 x1 (x2 + 1) μ h)
    · replace h := it_f g10 h
      refine sm_aload_n dX2_evenThing_57 rfl rfl ?_
      refine sm_getR dX2_evenThing_58 fg_RX2_26 k_341 (rf_2_5 k_341) ?_
      refine sm_iload_n dX2_evenThing_61 rfl rfl ?_
      refine sm_dup2 dX2_evenThing_62 rfl rfl ?_
      obtain ⟨g11, h⟩ := gd_some h
      refine sm_iald (j := (Int32.toNatClampNeg x3)) dX2_evenThing_63 k_345 (in_sz n_345 g11) rfl ?_
      refine sm_aload_n dX2_evenThing_64 rfl rfl ?_
      refine sm_iload_n dX2_evenThing_65 rfl rfl ?_
      obtain ⟨t66, μ2z, g12, h⟩ := ob_some h
      refine sm_callV dX2_evenThing_66 cv_X2_wouldFit ml_RX2_88 k_341 rfl rfl (by decide) (as := [av_i x3]) rfl (Nat.le_of_ble_eq_true rfl) rfl (s_Gu_wouldFit (D := d) (by omega) N g12) (fun r9 μ9 hp => ?_)
      rw [hp.1, hp.2]
      clear hp r9 μ9
      have hj69 : ∀ (v69_0 : Int32), v69_0 = (if t66 = 0 then (0 : Int32) else 1) → Sm (d + 1) mX2_evenThing 77 [some (av_r 341), some (av_i x1), some (av_i x2), some (av_i x3), none, none] [av_i v69_0, av_i (μ.1 345 (Int32.toNatClampNeg x3)), av_i x3, av_r 345] μ2z (po_i r μr) := by
        intro v69_0 ev69_0
        subst ev69_0
        exact Sm_weak (le_s rfl (le_s rfl (le_s rfl (le_s rfl (le_n (le_n le_0)))))) (s_Gu_evenThing_B77 hD N hk25 ih x1 x2 x3 x3 (μ.1 345 (Int32.toNatClampNeg x3)) (if t66 = 0 then (0 : Int32) else 1) μ2z h)
      refine sm_if_eq (tgt := 76) dX2_evenThing_69 (by decide) (fun c69_0 => ?_) (fun c69_0 => ?_)
      · refine sm_iconst dX2_evenThing_76 ic_0 ?_
        exact Sm_weak (le_s rfl (le_s rfl (le_s rfl (le_s rfl (le_n (le_n le_0)))))) (hj69 _ (if_pos c69_0).symm)
      · refine sm_iconst dX2_evenThing_72 ic_1 ?_
        refine sm_goto (tgt := 77) dX2_evenThing_73 (by decide) ?_
        exact Sm_weak (le_s rfl (le_s rfl (le_s rfl (le_s rfl (le_n (le_n le_0)))))) (hj69 _ (if_neg c69_0).symm)
set_option maxRecDepth 100000 in
set_option maxHeartbeats 4000000 in
theorem s_Gu_evenThing_L25 {D : Nat} (hD : 3 ≤ D) (N : Nat) {r : Int32} {μr : MM} : ∀ (n : Nat) (x1 : Int32) (x2 : Int32) (μ : MM), f_Gu_evenThing_L25 N n x1 x2 μ = some (r, μr) → Sm D mX2_evenThing 25 [some (av_r 341), some (av_i x1), some (av_i x2), none, none, none] [] μ (po_i r μr) := by
  obtain ⟨d, rfl⟩ : ∃ d, D = d + 1 := ⟨D - 1, by omega⟩
  intro n
  induction n with
  | zero => intro x1 x2 μ h; cases (show none = some (r, μr) from h)
  | succ n ih =>
    intro x1 x2 μ h
    rw [f_Gu_evenThing_L25] at h
    refine sm_iload_n dX2_evenThing_25 rfl rfl ?_
    refine sm_aload_n dX2_evenThing_26 rfl rfl ?_
    refine sm_getI dX2_evenThing_27 fg_RX2_35 k_341 ?_
    refine sm_icmp_ge (tgt := 91) dX2_evenThing_30 (by decide) (fun g2 => ?_) (fun g2 => ?_)
    · replace h := it_t g2 h
      refine sm_iconst dX2_evenThing_91 ic_m1 ?_
      refine sm_istore_n dX2_evenThing_92 rfl (Nat.le_of_ble_eq_true rfl) (pv_i rfl) ?_
      refine sm_iconst dX2_evenThing_93 ic_0 ?_
      refine sm_istore_n dX2_evenThing_94 rfl (Nat.le_of_ble_eq_true rfl) (pv_i rfl) ?_
      refine sm_iconst dX2_evenThing_95 ic_0 ?_
      refine sm_istore dX2_evenThing_96 (Nat.le_of_ble_eq_true rfl) (pv_i rfl) ?_
      exact Sm_weak (le_s rfl (le_s rfl (le_s rfl (le_s rfl (le_s rfl (le_n le_0)))))) (s_Gu_evenThing_L98 hD N N x1 (-1) 0 0 μ h)
    · replace h := it_f g2 h
      refine sm_aload_n dX2_evenThing_33 rfl rfl ?_
      refine sm_iload_n dX2_evenThing_34 rfl rfl ?_
      obtain ⟨t35, μ1z, g8, h⟩ := ob_some h
      refine sm_callV dX2_evenThing_35 cv_X2_isRow ml_RX2_83 k_341 rfl rfl (by decide) (as := [av_i x2]) rfl (Nat.le_of_ble_eq_true rfl) rfl (s_Gu_isRow (D := d) (by omega) N g8) (fun r9 μ9 hp => ?_)
      rw [hp.1, hp.2]
      clear hp r9 μ9
      refine sm_if_eq (tgt := 85) dX2_evenThing_38 (by decide) (fun g9 => ?_) (fun g9 => ?_)
      · replace h := it_t g9 h
        refine sm_iinc dX2_evenThing_85 rfl (congrArg (HAdd.hAdd x2) ic_1) (Nat.le_of_ble_eq_true rfl) (pv_i rfl) ?_
        refine sm_goto (tgt := 25) dX2_evenThing_88 (by decide) ?_
        exact Sm_weak (le_s rfl (le_s rfl (le_s rfl (le_n (le_n (le_n le_0)))))) (ih x1 (x2 + 1) μ1z h)
      · replace h := it_f g9 h
        refine sm_iinc dX2_evenThing_41 rfl (congrArg (HAdd.hAdd x1) ic_1) (Nat.le_of_ble_eq_true rfl) (pv_r rfl) ?_
        refine sm_iconst dX2_evenThing_44 ic_0 ?_
        refine sm_istore_n dX2_evenThing_45 rfl (Nat.le_of_ble_eq_true rfl) (pv_i rfl) ?_
        exact Sm_weak (le_s rfl (le_s rfl (le_s rfl (le_s rfl (le_n (le_n le_0)))))) (s_Gu_evenThing_L46 hD N ih N (x1 + 1) x2 0 μ1z h)
set_option maxRecDepth 100000 in
set_option maxHeartbeats 4000000 in
theorem s_Gu_evenThing_L2 {D : Nat} (hD : 3 ≤ D) (N : Nat) {r : Int32} {μr : MM} : ∀ (n : Nat) (x1 : Int32) (μ : MM), f_Gu_evenThing_L2 N n x1 μ = some (r, μr) → Sm D mX2_evenThing 2 [some (av_r 341), some (av_i x1), none, none, none, none] [] μ (po_i r μr) := by
  obtain ⟨d, rfl⟩ : ∃ d, D = d + 1 := ⟨D - 1, by omega⟩
  intro n
  induction n with
  | zero => intro x1 μ h; cases (show none = some (r, μr) from h)
  | succ n ih =>
    intro x1 μ h
    rw [f_Gu_evenThing_L2] at h
    refine sm_iload_n dX2_evenThing_2 rfl rfl ?_
    refine sm_bipush dX2_evenThing_3 bp_8 ?_
    refine sm_icmp_ge (tgt := 21) dX2_evenThing_5 (by decide) (fun g1 => ?_) (fun g1 => ?_)
    · replace h := it_t g1 h
      refine sm_iconst dX2_evenThing_21 ic_0 ?_
      refine sm_istore_n dX2_evenThing_22 rfl (Nat.le_of_ble_eq_true rfl) (pv_r rfl) ?_
      refine sm_iconst dX2_evenThing_23 ic_0 ?_
      refine sm_istore_n dX2_evenThing_24 rfl (Nat.le_of_ble_eq_true rfl) (pv_i rfl) ?_
      exact Sm_weak (le_s rfl (le_s rfl (le_s rfl (le_n (le_n (le_n le_0)))))) (s_Gu_evenThing_L25 hD N N 0 0 μ h)
    · replace h := it_f g1 h
      refine sm_aload_n dX2_evenThing_8 rfl rfl ?_
      refine sm_getR dX2_evenThing_9 fg_RX2_26 k_341 (rf_2_5 k_341) ?_
      refine sm_iload_n dX2_evenThing_12 rfl rfl ?_
      refine sm_iconst dX2_evenThing_13 ic_0 ?_
      obtain ⟨g14, h⟩ := gd_some h
      refine sm_iast (j := (Int32.toNatClampNeg x1)) dX2_evenThing_14 k_345 (in_sz n_345 g14) rfl ?_
      replace h := wr_some h
      refine sm_iinc dX2_evenThing_15 rfl (congrArg (HAdd.hAdd x1) ic_1) (Nat.le_of_ble_eq_true rfl) (pv_r rfl) ?_
      refine sm_goto (tgt := 2) dX2_evenThing_18 (by decide) ?_
      exact Sm_weak (le_s rfl (le_s rfl (le_n (le_n (le_n (le_n le_0)))))) (ih (x1 + 1) (mm_I μ 345 (Int32.toNatClampNeg x1) 0) h)
set_option maxRecDepth 100000 in
set_option maxHeartbeats 4000000 in
theorem s_Gu_evenThing {D : Nat} (hD : 3 ≤ D) (N : Nat) {μ : MM} {r : Int32} {μr : MM} (h : f_Gu_evenThing N μ = some (r, μr)) : Cl D mX2_evenThing [av_r 341] μ (po_i r μr) := by
  obtain ⟨d, rfl⟩ : ∃ d, D = d + 1 := ⟨D - 1, by omega⟩
  refine Cl_of pn_X2 (Nat.le_of_ble_eq_true rfl) ?_
  show Sm (d + 1) mX2_evenThing 0 [some (av_r 341), none, none, none, none, none] [] μ (po_i r μr)
  unfold f_Gu_evenThing at h
  refine sm_iconst dX2_evenThing_0 ic_0 ?_
  refine sm_istore_n dX2_evenThing_1 rfl (Nat.le_of_ble_eq_true rfl) (pv_r rfl) ?_
  exact Sm_weak (le_s rfl (le_s rfl (le_n (le_n (le_n (le_n le_0)))))) (s_Gu_evenThing_L2 hD N N 0 μ h)
