set_option maxRecDepth 100000 in
set_option maxHeartbeats 4000000 in
theorem s_Mo_isWhole_L4 {D : Nat} (hD : 1 ≤ D) (N : Nat) {r : Int32} {μr : MM} : ∀ (n : Nat) (x1 : Int32) (x2 : Int32) (μ : MM), f_Mo_isWhole_L4 N n x1 x2 μ = some (r, μr) → Sm D mX12_isWhole 4 [some (av_r 355), some (av_i x1), some (av_i x2), none] [] μ (po_i r μr) := by
  obtain ⟨d, rfl⟩ : ∃ d, D = d + 1 := ⟨D - 1, by omega⟩
  intro n
  induction n with
  | zero => intro x1 x2 μ h; cases (show none = some (r, μr) from h)
  | succ n ih =>
    intro x1 x2 μ h
    rw [f_Mo_isWhole_L4] at h
    refine sm_iload_n dX12_isWhole_4 rfl rfl ?_
    refine sm_aload_n dX12_isWhole_5 rfl rfl ?_
    refine sm_getI dX12_isWhole_6 fg_RX12_250 k_355 ?_
    refine sm_icmp_ge (tgt := 63) dX12_isWhole_9 (by decide) (fun g1 => ?_) (fun g1 => ?_)
    · replace h := it_t g1 h
      refine sm_aload_n dX12_isWhole_63 rfl rfl ?_
      refine sm_getI dX12_isWhole_64 fg_RX12_247 k_355 ?_
      refine sm_if_le (tgt := 81) dX12_isWhole_67 (by decide) (fun g2 => ?_) (fun g2 => ?_)
      · replace h := it_t g2 h
        refine sm_iconst dX12_isWhole_81 ic_0 ?_
        cases h
        exact sm_ret_z (st := []) dX12_isWhole_82 rfl rfl ⟨rfl, rfl⟩
      · replace h := it_f g2 h
        refine sm_aload_n dX12_isWhole_70 rfl rfl ?_
        refine sm_getI dX12_isWhole_71 fg_RX12_250 k_355 ?_
        refine sm_if_le (tgt := 81) dX12_isWhole_74 (by decide) (fun g3 => ?_) (fun g3 => ?_)
        · replace h := it_t g3 h
          refine sm_iconst dX12_isWhole_81 ic_0 ?_
          cases h
          exact sm_ret_z (st := []) dX12_isWhole_82 rfl rfl ⟨rfl, rfl⟩
        · replace h := it_f g3 h
          refine sm_iconst dX12_isWhole_77 ic_1 ?_
          refine sm_goto (tgt := 82) dX12_isWhole_78 (by decide) ?_
          cases h
          exact sm_ret_z (st := []) dX12_isWhole_82 rfl rfl ⟨rfl, rfl⟩
    · replace h := it_f g1 h
      refine sm_aload_n dX12_isWhole_12 rfl rfl ?_
      refine sm_getR dX12_isWhole_13 fg_RX12_55 k_355 (rf_12_24 k_355) ?_
      refine sm_bipush dX12_isWhole_16 bp_16 ?_
      refine sm_iload_n dX12_isWhole_18 rfl rfl ?_
      refine sm_imul dX12_isWhole_19 ?_
      refine sm_iconst dX12_isWhole_20 ic_2 ?_
      refine sm_iadd dX12_isWhole_21 ?_
      obtain ⟨g4, h⟩ := gd_some h
      refine sm_iald (j := (Int32.toNatClampNeg ((16 * x2) + 2))) dX12_isWhole_22 k_366 (in_sz n_366 g4) rfl ?_
      refine sm_istore_n dX12_isWhole_23 rfl (Nat.le_of_ble_eq_true rfl) (pv_i rfl) ?_
      refine sm_iload_n dX12_isWhole_24 rfl rfl ?_
      refine sm_bipush dX12_isWhole_25 bp_8 ?_
      refine sm_icmp_ne (tgt := 33) dX12_isWhole_27 (by decide) (fun g5 => ?_) (fun g5 => ?_)
      · replace h := it_f g5 h
        refine sm_iload_n dX12_isWhole_33 rfl rfl ?_
        refine sm_aload_n dX12_isWhole_34 rfl rfl ?_
        refine sm_getI dX12_isWhole_35 fg_RX12_247 k_355 ?_
        refine sm_icmp_ge (tgt := 49) dX12_isWhole_38 (by decide) (fun g6 => ?_) (fun g6 => ?_)
        · replace h := it_t g6 h
          refine sm_iconst dX12_isWhole_49 ic_0 ?_
          cases h
          exact sm_ret_z (st := []) dX12_isWhole_50 rfl rfl ⟨rfl, rfl⟩
        · replace h := it_f g6 h
          refine sm_iload_n dX12_isWhole_41 rfl rfl ?_
          refine sm_iload_n dX12_isWhole_42 rfl rfl ?_
          obtain ⟨t43, μ1z, g7, h⟩ := ob_some h
          refine sm_callS dX12_isWhole_43 cs_X12_has ml_RX12_224 (as := [av_i x1, av_i (μ.1 366 (Int32.toNatClampNeg ((16 * x2) + 2)))]) rfl (Nat.le_of_ble_eq_true rfl) rfl (s_Mo_has (D := d) (by omega) N g7) (fun r9 μ9 hp => ?_)
          rw [hp.1, hp.2]
          clear hp r9 μ9
          refine sm_if_eq (tgt := 51) dX12_isWhole_46 (by decide) (fun g8 => ?_) (fun g8 => ?_)
          · replace h := it_t g8 h
            refine sm_iload_n dX12_isWhole_51 rfl rfl ?_
            refine sm_iconst dX12_isWhole_52 ic_1 ?_
            refine sm_iload_n dX12_isWhole_53 rfl rfl ?_
            refine sm_ishl dX12_isWhole_54 ?_
            refine sm_ior dX12_isWhole_55 ?_
            refine sm_istore_n dX12_isWhole_56 rfl (Nat.le_of_ble_eq_true rfl) (pv_r rfl) ?_
            refine sm_iinc dX12_isWhole_57 rfl (congrArg (HAdd.hAdd x2) ic_1) (Nat.le_of_ble_eq_true rfl) (pv_i rfl) ?_
            refine sm_goto (tgt := 4) dX12_isWhole_60 (by decide) ?_
            exact Sm_weak (le_s rfl (le_s rfl (le_s rfl (le_n le_0)))) (ih (x1 ||| ((1 : Int32) <<< ((μ.1 366 (Int32.toNatClampNeg ((16 * x2) + 2))) &&& 31))) (x2 + 1) μ1z h)
          · replace h := it_f g8 h
            refine sm_iconst dX12_isWhole_49 ic_0 ?_
            cases h
            exact sm_ret_z (st := []) dX12_isWhole_50 rfl rfl ⟨rfl, rfl⟩
      · replace h := it_t g5 h
        refine sm_goto (tgt := 57) dX12_isWhole_30 (by decide) ?_
        refine sm_iinc dX12_isWhole_57 rfl (congrArg (HAdd.hAdd x2) ic_1) (Nat.le_of_ble_eq_true rfl) (pv_i rfl) ?_
        refine sm_goto (tgt := 4) dX12_isWhole_60 (by decide) ?_
        exact Sm_weak (le_s rfl (le_s rfl (le_s rfl (le_n le_0)))) (ih x1 (x2 + 1) μ h)
set_option maxRecDepth 100000 in
set_option maxHeartbeats 4000000 in
theorem s_Mo_isWhole {D : Nat} (hD : 1 ≤ D) (N : Nat) {μ : MM} {r : Int32} {μr : MM} (h : f_Mo_isWhole N μ = some (r, μr)) : Cl D mX12_isWhole [av_r 355] μ (po_i r μr) := by
  obtain ⟨d, rfl⟩ : ∃ d, D = d + 1 := ⟨D - 1, by omega⟩
  refine Cl_of pn_X12 (Nat.le_of_ble_eq_true rfl) ?_
  show Sm (d + 1) mX12_isWhole 0 [some (av_r 355), none, none, none] [] μ (po_i r μr)
  unfold f_Mo_isWhole at h
  refine sm_iconst dX12_isWhole_0 ic_0 ?_
  refine sm_istore_n dX12_isWhole_1 rfl (Nat.le_of_ble_eq_true rfl) (pv_r rfl) ?_
  refine sm_iconst dX12_isWhole_2 ic_0 ?_
  refine sm_istore_n dX12_isWhole_3 rfl (Nat.le_of_ble_eq_true rfl) (pv_i rfl) ?_
  exact Sm_weak (le_s rfl (le_s rfl (le_s rfl (le_n le_0)))) (s_Mo_isWhole_L4 hD N N 0 0 μ h)
set_option maxRecDepth 100000 in
set_option maxHeartbeats 4000000 in
theorem s_Mo_readCollection_B134 {D : Nat} (hD : 8 ≤ D) (N : Nat) {μr : MM} (μ : MM) (h : f_Mo_readCollection_B134 N μ = some μr) : Sm D mX12_readCollection 134 [some (av_r 355), none] [] μ (po_v μr) := by
  obtain ⟨d, rfl⟩ : ∃ d, D = d + 1 := ⟨D - 1, by omega⟩
  unfold f_Mo_readCollection_B134 at h
  refine sm_aload_n dX12_readCollection_134 rfl rfl ?_
  obtain ⟨t135, μ6z, g7, h⟩ := ob_some h
  refine sm_callV dX12_readCollection_135 cv_X12_fails ml_RX12_129 k_355 rfl rfl (by decide) (as := []) rfl (Nat.le_of_ble_eq_true rfl) rfl (s_Mo_fails (D := d) (by omega) N g7) (fun r9 μ9 hp => ?_)
  rw [hp.1, hp.2]
  clear hp r9 μ9
  refine sm_pop dX12_readCollection_138 rfl ?_
  cases h
  exact sm_ret_v (st := []) dX12_readCollection_139 rfl ⟨rfl, rfl⟩
set_option maxRecDepth 100000 in
set_option maxHeartbeats 4000000 in
theorem s_Mo_readCollection_B111 {D : Nat} (hD : 8 ≤ D) (N : Nat) {μr : MM} (μ : MM) (h : f_Mo_readCollection_B111 N μ = some μr) : Sm D mX12_readCollection 111 [some (av_r 355), none] [] μ (po_v μr) := by
  obtain ⟨d, rfl⟩ : ∃ d, D = d + 1 := ⟨D - 1, by omega⟩
  unfold f_Mo_readCollection_B111 at h
  refine sm_aload_n dX12_readCollection_111 rfl rfl ?_
  refine sm_getI dX12_readCollection_112 fg_RX12_123 k_355 ?_
  refine sm_iconst dX12_readCollection_115 ic_m1 ?_
  refine sm_icmp_ne (tgt := 139) dX12_readCollection_116 (by decide) (fun g4 => ?_) (fun g4 => ?_)
  · replace h := it_f g4 h
    cases h
    exact sm_ret_v (st := []) dX12_readCollection_139 rfl ⟨rfl, rfl⟩
  · replace h := it_t g4 h
    refine sm_aload_n dX12_readCollection_119 rfl rfl ?_
    obtain ⟨t120, μ5z, g5, h⟩ := ob_some h
    refine sm_callV dX12_readCollection_120 cv_X12_look ml_RX12_133 k_355 rfl rfl (by decide) (as := []) rfl (Nat.le_of_ble_eq_true rfl) rfl (s_Mo_look (D := d) (by omega) N g5) (fun r9 μ9 hp => ?_)
    rw [hp.1, hp.2]
    clear hp r9 μ9
    refine sm_iconst dX12_readCollection_123 ic_m1 ?_
    refine sm_icmp_ne (tgt := 134) dX12_readCollection_124 (by decide) (fun g6 => ?_) (fun g6 => ?_)
    · replace h := it_f g6 h
      exact Sm_weak (le_s rfl (le_n le_0)) (s_Mo_readCollection_B134 hD N  μ5z h)
    · replace h := it_t g6 h
      refine sm_aload_n dX12_readCollection_127 rfl rfl ?_
      obtain ⟨t128, μ7z, g8, h⟩ := ob_some h
      refine sm_callV dX12_readCollection_128 cv_X12_isWhole ml_RX12_275 k_355 rfl rfl (by decide) (as := []) rfl (Nat.le_of_ble_eq_true rfl) rfl (s_Mo_isWhole (D := d) (by omega) N g8) (fun r9 μ9 hp => ?_)
      rw [hp.1, hp.2]
      clear hp r9 μ9
      refine sm_if_ne (tgt := 139) dX12_readCollection_131 (by decide) (fun g9 => ?_) (fun g9 => ?_)
      · replace h := it_f g9 h
        cases h
        exact sm_ret_v (st := []) dX12_readCollection_139 rfl ⟨rfl, rfl⟩
      · replace h := it_t g9 h
        exact Sm_weak (le_s rfl (le_n le_0)) (s_Mo_readCollection_B134 hD N  μ7z h)
set_option maxRecDepth 100000 in
set_option maxHeartbeats 4000000 in
theorem s_Mo_readCollection_B93 {D : Nat} (hD : 8 ≤ D) (N : Nat) {μr : MM} {k55 : Int32 → MM → Option MM} (hk55 : ∀ (x1 : Int32) (μ : MM), k55 x1 μ = some μr → Sm D mX12_readCollection 55 [some (av_r 355), some (av_i x1)] [] μ (po_v μr)) (s0 : Int32) (μ : MM) (h : f_Mo_readCollection_B93 N k55 s0 μ = some μr) : Sm D mX12_readCollection 93 [some (av_r 355), none] [av_i s0] μ (po_v μr) := by
  obtain ⟨d, rfl⟩ : ∃ d, D = d + 1 := ⟨D - 1, by omega⟩
  unfold f_Mo_readCollection_B93 at h
  refine sm_istore_n dX12_readCollection_93 rfl (Nat.le_of_ble_eq_true rfl) (pv_r rfl) ?_
  refine sm_iload_n dX12_readCollection_94 rfl rfl ?_
  refine sm_if_eq (tgt := 55) dX12_readCollection_95 (by decide) (fun g13 => ?_) (fun g13 => ?_)
  · replace h := it_t g13 h
    exact Sm_weak (le_s rfl (le_s rfl le_0)) (hk55 s0 μ h)
  · replace h := it_f g13 h
    refine sm_aload_n dX12_readCollection_98 rfl rfl ?_
    refine sm_dup dX12_readCollection_99 rfl ?_
    refine sm_getI dX12_readCollection_100 fg_RX12_114 k_355 ?_
    refine sm_iconst dX12_readCollection_103 ic_1 ?_
    refine sm_iadd dX12_readCollection_104 ?_
    refine sm_putI dX12_readCollection_105 fp_RX12_114 k_355 ?_
    replace h := wr_some h
    refine sm_goto (tgt := 55) dX12_readCollection_108 (by decide) ?_
    exact Sm_weak (le_s rfl (le_s rfl le_0)) (hk55 s0 (mm_I μ 355 10 ((μ.1 355 10) + 1)) h)
set_option maxRecDepth 100000 in
set_option maxHeartbeats 4000000 in
theorem s_Mo_readCollection_B92 {D : Nat} (hD : 8 ≤ D) (N : Nat) {μr : MM} {k55 : Int32 → MM → Option MM} (hk55 : ∀ (x1 : Int32) (μ : MM), k55 x1 μ = some μr → Sm D mX12_readCollection 55 [some (av_r 355), some (av_i x1)] [] μ (po_v μr)) (μ : MM) (h : f_Mo_readCollection_B92 N k55 μ = some μr) : Sm D mX12_readCollection 92 [some (av_r 355), none] [] μ (po_v μr) := by
  obtain ⟨d, rfl⟩ : ∃ d, D = d + 1 := ⟨D - 1, by omega⟩
  unfold f_Mo_readCollection_B92 at h
  refine sm_iconst dX12_readCollection_92 ic_0 ?_
  exact Sm_weak (le_s rfl (le_n le_0)) (s_Mo_readCollection_B93 hD N hk55 0 μ h)
set_option maxRecDepth 100000 in
set_option maxHeartbeats 4000000 in
theorem s_Mo_readCollection_L55 {D : Nat} (hD : 8 ≤ D) (N : Nat) {μr : MM} : ∀ (n : Nat) (x1 : Int32) (μ : MM), f_Mo_readCollection_L55 N n x1 μ = some μr → Sm D mX12_readCollection 55 [some (av_r 355), some (av_i x1)] [] μ (po_v μr) := by
  obtain ⟨d, rfl⟩ : ∃ d, D = d + 1 := ⟨D - 1, by omega⟩
  intro n
  induction n with
  | zero => intro x1 μ h; cases (show none = some μr from h)
  | succ n ih =>
    intro x1 μ h
    rw [f_Mo_readCollection_L55] at h
    refine sm_iload_n dX12_readCollection_55 rfl rfl ?_
    refine sm_if_eq (tgt := 111) dX12_readCollection_56 (by decide) (fun g3 => ?_) (fun g3 => ?_)
    · replace h := it_t g3 h
      exact Sm_weak (le_s rfl (le_n le_0)) (s_Mo_readCollection_B111 hD N  μ h)
    · replace h := it_f g3 h
      refine sm_aload_n dX12_readCollection_59 rfl rfl ?_
      refine sm_getI dX12_readCollection_60 fg_RX12_123 k_355 ?_
      refine sm_iconst dX12_readCollection_63 ic_m1 ?_
      refine sm_icmp_ne (tgt := 111) dX12_readCollection_64 (by decide) (fun g10 => ?_) (fun g10 => ?_)
      · replace h := it_f g10 h
        exact Sm_weak (le_s rfl (le_n le_0)) (s_Mo_readCollection_B111 hD N  μ h)
      · replace h := it_t g10 h
        refine sm_aload_n dX12_readCollection_67 rfl rfl ?_
        obtain ⟨μ8z, g11, h⟩ := obv_some h
        refine sm_callV dX12_readCollection_68 cv_X12_readClause ml_RX12_272 k_355 rfl rfl (by decide) (as := []) rfl (Nat.le_of_ble_eq_true rfl) rfl (s_Mo_readClause (D := d) (by omega) N g11) (fun r9 μ9 hp => ?_)
        rw [hp.1, hp.2]
        clear hp r9 μ9
        refine sm_aload_n dX12_readCollection_71 rfl rfl ?_
        refine sm_getI dX12_readCollection_72 fg_RX12_123 k_355 ?_
        refine sm_iconst dX12_readCollection_75 ic_m1 ?_
        refine sm_icmp_ne (tgt := 92) dX12_readCollection_76 (by decide) (fun g12 => ?_) (fun g12 => ?_)
        · replace h := it_f g12 h
          exact Sm_weak (le_s rfl (le_n le_0)) (s_Mo_readCollection_B92 hD N ih  μ8z h)
        · replace h := it_t g12 h
          refine sm_aload_n dX12_readCollection_79 rfl rfl ?_
          obtain ⟨t80, μ10z, g14, h⟩ := ob_some h
          refine sm_callV dX12_readCollection_80 cv_X12_look ml_RX12_133 k_355 rfl rfl (by decide) (as := []) rfl (Nat.le_of_ble_eq_true rfl) rfl (s_Mo_look (D := d) (by omega) N g14) (fun r9 μ9 hp => ?_)
          rw [hp.1, hp.2]
          clear hp r9 μ9
          refine sm_bipush dX12_readCollection_83 bp_59 ?_
          refine sm_icmp_ne (tgt := 92) dX12_readCollection_85 (by decide) (fun g15 => ?_) (fun g15 => ?_)
          · replace h := it_f g15 h
            exact Sm_weak (le_s rfl (le_n le_0)) (s_Mo_readCollection_B92 hD N ih  μ10z h)
          · replace h := it_t g15 h
            refine sm_iconst dX12_readCollection_88 ic_1 ?_
            refine sm_goto (tgt := 93) dX12_readCollection_89 (by decide) ?_
            exact Sm_weak (le_s rfl (le_n le_0)) (s_Mo_readCollection_B93 hD N ih 1 μ10z h)
set_option maxRecDepth 100000 in
set_option maxHeartbeats 4000000 in
theorem s_Mo_readCollection_L30 {D : Nat} (hD : 8 ≤ D) (N : Nat) {μr : MM} : ∀ (n : Nat) (x1 : Int32) (μ : MM), f_Mo_readCollection_L30 N n x1 μ = some μr → Sm D mX12_readCollection 30 [some (av_r 355), some (av_i x1)] [] μ (po_v μr) := by
  obtain ⟨d, rfl⟩ : ∃ d, D = d + 1 := ⟨D - 1, by omega⟩
  intro n
  induction n with
  | zero => intro x1 μ h; cases (show none = some μr from h)
  | succ n ih =>
    intro x1 μ h
    rw [f_Mo_readCollection_L30] at h
    refine sm_iload_n dX12_readCollection_30 rfl rfl ?_
    refine sm_iconst dX12_readCollection_31 ic_2 ?_
    refine sm_icmp_ge (tgt := 53) dX12_readCollection_32 (by decide) (fun g2 => ?_) (fun g2 => ?_)
    · replace h := it_t g2 h
      refine sm_iconst dX12_readCollection_53 ic_1 ?_
      refine sm_istore_n dX12_readCollection_54 rfl (Nat.le_of_ble_eq_true rfl) (pv_r rfl) ?_
      exact Sm_weak (le_s rfl (le_s rfl le_0)) (s_Mo_readCollection_L55 hD N N 1 μ h)
    · replace h := it_f g2 h
      refine sm_aload_n dX12_readCollection_35 rfl rfl ?_
      refine sm_getR dX12_readCollection_36 fg_RX12_40 k_355 (rf_12_19 k_355) ?_
      refine sm_iload_n dX12_readCollection_39 rfl rfl ?_
      refine sm_bipush dX12_readCollection_40 bp_115 ?_
      refine sm_iload_n dX12_readCollection_42 rfl rfl ?_
      obtain ⟨t43, μ11z, g16, h⟩ := ob_some h
      refine sm_callS dX12_readCollection_43 cs_X12_usual ml_RX12_216 (as := [av_i 115, av_i x1]) rfl (Nat.le_of_ble_eq_true rfl) rfl (s_Mo_usual (D := d) (by omega) N g16) (fun r9 μ9 hp => ?_)
      rw [hp.1, hp.2]
      clear hp r9 μ9
      obtain ⟨g17, h⟩ := gd_some h
      refine sm_iast (j := (Int32.toNatClampNeg x1)) dX12_readCollection_46 k_361 (in_sz n_361 g17) rfl ?_
      replace h := wr_some h
      refine sm_iinc dX12_readCollection_47 rfl (congrArg (HAdd.hAdd x1) ic_1) (Nat.le_of_ble_eq_true rfl) (pv_r rfl) ?_
      refine sm_goto (tgt := 30) dX12_readCollection_50 (by decide) ?_
      exact Sm_weak (le_s rfl (le_s rfl le_0)) (ih (x1 + 1) (mm_I μ11z 361 (Int32.toNatClampNeg x1) t43) h)
set_option maxRecDepth 100000 in
set_option maxHeartbeats 4000000 in
theorem s_Mo_readCollection {D : Nat} (hD : 8 ≤ D) (N : Nat) {μ : MM} {μr : MM} (h : f_Mo_readCollection N μ = some μr) : Cl D mX12_readCollection [av_r 355] μ (po_v μr) := by
  obtain ⟨d, rfl⟩ : ∃ d, D = d + 1 := ⟨D - 1, by omega⟩
  refine Cl_of pn_X12 (Nat.le_of_ble_eq_true rfl) ?_
  show Sm (d + 1) mX12_readCollection 0 [some (av_r 355), none] [] μ (po_v μr)
  unfold f_Mo_readCollection at h
  refine sm_aload_n dX12_readCollection_0 rfl rfl ?_
  refine sm_aload_n dX12_readCollection_1 rfl rfl ?_
  refine sm_getR dX12_readCollection_2 fg_RX12_9 k_355 (rf_12_1 k_355) ?_
  refine sm_iconst dX12_readCollection_5 ic_0 ?_
  refine sm_aload_n dX12_readCollection_6 rfl rfl ?_
  refine sm_getI dX12_readCollection_7 fg_RX12_104 k_355 ?_
  obtain ⟨μ1z, g1, h⟩ := obv_some h
  refine sm_callV dX12_readCollection_10 cv_X12_starts ml_RX12_202 k_355 rfl rfl (by decide) (as := [av_r 356, av_i 0, av_i (μ.1 355 6)]) rfl (Nat.le_of_ble_eq_true rfl) rfl (s_Mo_starts (D := d) (by omega) N k_356 g1) (fun r9 μ9 hp => ?_)
  rw [hp.1, hp.2]
  clear hp r9 μ9
  refine sm_aload_n dX12_readCollection_13 rfl rfl ?_
  refine sm_iconst dX12_readCollection_14 ic_0 ?_
  refine sm_putI dX12_readCollection_15 fp_RX12_247 k_355 ?_
  replace h := wr_some h
  refine sm_aload_n dX12_readCollection_18 rfl rfl ?_
  refine sm_iconst dX12_readCollection_19 ic_0 ?_
  refine sm_putI dX12_readCollection_20 fp_RX12_250 k_355 ?_
  replace h := wr_some h
  refine sm_aload_n dX12_readCollection_23 rfl rfl ?_
  refine sm_iconst dX12_readCollection_24 ic_0 ?_
  refine sm_putZ dX12_readCollection_25 fp_RX12_244 k_355 (Or.inl rfl) ?_
  replace h := wr_some h
  refine sm_iconst dX12_readCollection_28 ic_0 ?_
  refine sm_istore_n dX12_readCollection_29 rfl (Nat.le_of_ble_eq_true rfl) (pv_r rfl) ?_
  exact Sm_weak (le_s rfl (le_s rfl le_0)) (s_Mo_readCollection_L30 hD N N 0 (mm_I (mm_I (mm_I μ1z 355 28 0) 355 29 0) 355 31 0) h)
set_option maxRecDepth 100000 in
set_option maxHeartbeats 4000000 in
theorem s_Mo_fault_B46 {D : Nat} (hD : 90 ≤ D) (N : Nat) {r : Int32} {μr : MM} (x1 : Int32) (μ : MM) (h : f_Mo_fault_B46 N x1 μ = some (r, μr)) : Sm D mX12_fault 46 [some (av_r 355), some (av_i x1)] [] μ (po_i r μr) := by
  obtain ⟨d, rfl⟩ : ∃ d, D = d + 1 := ⟨D - 1, by omega⟩
  unfold f_Mo_fault_B46 at h
  refine sm_iload_n dX12_fault_46 rfl rfl ?_
  refine sm_iconst dX12_fault_47 ic_2 ?_
  refine sm_icmp_ne (tgt := 95) dX12_fault_48 (by decide) (fun g5 => ?_) (fun g5 => ?_)
  · replace h := it_f g5 h
    refine sm_aload_n dX12_fault_95 rfl rfl ?_
    refine sm_getI dX12_fault_96 fg_RX12_123 k_355 ?_
    cases h
    exact sm_ret_i (st := []) dX12_fault_99 rfl ⟨rfl, rfl⟩
  · replace h := it_t g5 h
    refine sm_aload_n dX12_fault_51 rfl rfl ?_
    refine sm_aload_n dX12_fault_52 rfl rfl ?_
    refine sm_getR dX12_fault_53 fg_RX12_9 k_355 (rf_12_1 k_355) ?_
    refine sm_iconst dX12_fault_56 ic_0 ?_
    refine sm_aload_n dX12_fault_57 rfl rfl ?_
    refine sm_getI dX12_fault_58 fg_RX12_104 k_355 ?_
    obtain ⟨μ3z, g6, h⟩ := obv_some h
    refine sm_callV dX12_fault_61 cv_X12_starts ml_RX12_202 k_355 rfl rfl (by decide) (as := [av_r 356, av_i 0, av_i (μ.1 355 6)]) rfl (Nat.le_of_ble_eq_true rfl) rfl (s_Mo_starts (D := d) (by omega) N k_356 g6) (fun r9 μ9 hp => ?_)
    rw [hp.1, hp.2]
    clear hp r9 μ9
    refine sm_aload_n dX12_fault_64 rfl rfl ?_
    refine sm_aload_n dX12_fault_65 rfl rfl ?_
    refine sm_getR dX12_fault_66 fg_RX12_58 k_355 (rf_12_25 k_355) ?_
    refine sm_bipush dX12_fault_69 bp_52 ?_
    obtain ⟨μ4z, g7, h⟩ := obv_some h
    refine sm_callV dX12_fault_71 cv_X12_readWords ml_RX12_269 k_355 rfl rfl (by decide) (as := [av_r 367, av_i 52]) rfl (Nat.le_of_ble_eq_true rfl) rfl (s_Mo_readWords (D := d) (by omega) N k_367 g7) (fun r9 μ9 hp => ?_)
    rw [hp.1, hp.2]
    clear hp r9 μ9
    refine sm_aload_n dX12_fault_74 rfl rfl ?_
    refine sm_getI dX12_fault_75 fg_RX12_123 k_355 ?_
    refine sm_iconst dX12_fault_78 ic_m1 ?_
    refine sm_icmp_ne (tgt := 95) dX12_fault_79 (by decide) (fun g8 => ?_) (fun g8 => ?_)
    · replace h := it_f g8 h
      refine sm_aload_n dX12_fault_95 rfl rfl ?_
      refine sm_getI dX12_fault_96 fg_RX12_123 k_355 ?_
      cases h
      exact sm_ret_i (st := []) dX12_fault_99 rfl ⟨rfl, rfl⟩
    · replace h := it_t g8 h
      refine sm_aload_n dX12_fault_82 rfl rfl ?_
      obtain ⟨t83, μ5z, g9, h⟩ := ob_some h
      refine sm_callV dX12_fault_83 cv_X12_look ml_RX12_133 k_355 rfl rfl (by decide) (as := []) rfl (Nat.le_of_ble_eq_true rfl) rfl (s_Mo_look (D := d) (by omega) N g9) (fun r9 μ9 hp => ?_)
      rw [hp.1, hp.2]
      clear hp r9 μ9
      refine sm_iconst dX12_fault_86 ic_m1 ?_
      refine sm_icmp_eq (tgt := 95) dX12_fault_87 (by decide) (fun g10 => ?_) (fun g10 => ?_)
      · replace h := it_t g10 h
        refine sm_aload_n dX12_fault_95 rfl rfl ?_
        refine sm_getI dX12_fault_96 fg_RX12_123 k_355 ?_
        cases h
        exact sm_ret_i (st := []) dX12_fault_99 rfl ⟨rfl, rfl⟩
      · replace h := it_f g10 h
        refine sm_aload_n dX12_fault_90 rfl rfl ?_
        obtain ⟨t91, μ6z, g11, h⟩ := ob_some h
        refine sm_callV dX12_fault_91 cv_X12_fails ml_RX12_129 k_355 rfl rfl (by decide) (as := []) rfl (Nat.le_of_ble_eq_true rfl) rfl (s_Mo_fails (D := d) (by omega) N g11) (fun r9 μ9 hp => ?_)
        rw [hp.1, hp.2]
        clear hp r9 μ9
        refine sm_pop dX12_fault_94 rfl ?_
        refine sm_aload_n dX12_fault_95 rfl rfl ?_
        refine sm_getI dX12_fault_96 fg_RX12_123 k_355 ?_
        cases h
        exact sm_ret_i (st := []) dX12_fault_99 rfl ⟨rfl, rfl⟩
set_option maxRecDepth 100000 in
set_option maxHeartbeats 4000000 in
theorem s_Mo_fault_B28 {D : Nat} (hD : 90 ≤ D) (N : Nat) {r : Int32} {μr : MM} (x1 : Int32) (μ : MM) (h : f_Mo_fault_B28 N x1 μ = some (r, μr)) : Sm D mX12_fault 28 [some (av_r 355), some (av_i x1)] [] μ (po_i r μr) := by
  obtain ⟨d, rfl⟩ : ∃ d, D = d + 1 := ⟨D - 1, by omega⟩
  unfold f_Mo_fault_B28 at h
  refine sm_iload_n dX12_fault_28 rfl rfl ?_
  refine sm_iconst dX12_fault_29 ic_1 ?_
  refine sm_icmp_ne (tgt := 46) dX12_fault_30 (by decide) (fun g4 => ?_) (fun g4 => ?_)
  · replace h := it_f g4 h
    exact Sm_weak (le_s rfl (le_s rfl le_0)) (s_Mo_fault_B46 hD N x1 μ h)
  · replace h := it_t g4 h
    refine sm_aload_n dX12_fault_33 rfl rfl ?_
    refine sm_aload_n dX12_fault_34 rfl rfl ?_
    refine sm_getR dX12_fault_35 fg_RX12_9 k_355 (rf_12_1 k_355) ?_
    refine sm_iconst dX12_fault_38 ic_0 ?_
    refine sm_aload_n dX12_fault_39 rfl rfl ?_
    refine sm_getI dX12_fault_40 fg_RX12_104 k_355 ?_
    obtain ⟨μ7z, g12, h⟩ := obv_some h
    refine sm_callV dX12_fault_43 cv_X12_goThrough ml_RX12_283 k_355 rfl rfl (by decide) (as := [av_r 356, av_i 0, av_i (μ.1 355 6)]) rfl (Nat.le_of_ble_eq_true rfl) rfl (s_Mo_goThrough (D := d) (by omega) N k_356 g12) (fun r9 μ9 hp => ?_)
    rw [hp.1, hp.2]
    clear hp r9 μ9
    exact Sm_weak (le_s rfl (le_s rfl le_0)) (s_Mo_fault_B46 hD N x1 μ7z h)
set_option maxRecDepth 100000 in
set_option maxHeartbeats 4000000 in
theorem s_Mo_fault {D : Nat} (hD : 90 ≤ D) (N : Nat) {x1 : Int32} {μ : MM} {r : Int32} {μr : MM} (h : f_Mo_fault N x1 μ = some (r, μr)) : Cl D mX12_fault [av_r 355, av_i x1] μ (po_i r μr) := by
  obtain ⟨d, rfl⟩ : ∃ d, D = d + 1 := ⟨D - 1, by omega⟩
  refine Cl_of pn_X12 (Nat.le_of_ble_eq_true rfl) ?_
  show Sm (d + 1) mX12_fault 0 [some (av_r 355), some (av_i x1)] [] μ (po_i r μr)
  unfold f_Mo_fault at h
  refine sm_aload_n dX12_fault_0 rfl rfl ?_
  refine sm_iconst dX12_fault_1 ic_0 ?_
  refine sm_putI dX12_fault_2 fp_RX12_91 k_355 ?_
  replace h := wr_some h
  refine sm_iload_n dX12_fault_5 rfl rfl ?_
  refine sm_i2l dX12_fault_6 ?_
  refine sm_lconst dX12_fault_7 lc_0 ?_
  refine sm_ldc2 dX12_fault_8 cs_RX12_278 ?_
  obtain ⟨t11, μ2z, g1, h⟩ := ob_some h
  refine sm_callS dX12_fault_11 cs_X12_isIn ml_RX12_212 (as := [av_l (Int32.toInt64 x1), av_l 0, av_l 2]) rfl (Nat.le_of_ble_eq_true rfl) rfl (s_Mo_isIn (D := d) (by omega) N g1) (fun r9 μ9 hp => ?_)
  rw [hp.1, hp.2]
  clear hp r9 μ9
  refine sm_if_ne (tgt := 20) dX12_fault_14 (by decide) (fun g2 => ?_) (fun g2 => ?_)
  · replace h := it_f g2 h
    refine sm_iload_n dX12_fault_20 rfl rfl ?_
    refine sm_if_ne (tgt := 28) dX12_fault_21 (by decide) (fun g3 => ?_) (fun g3 => ?_)
    · replace h := it_f g3 h
      exact Sm_weak (le_s rfl (le_s rfl le_0)) (s_Mo_fault_B28 hD N x1 μ2z h)
    · replace h := it_t g3 h
      refine sm_aload_n dX12_fault_24 rfl rfl ?_
      obtain ⟨μ8z, g13, h⟩ := obv_some h
      refine sm_callV dX12_fault_25 cv_X12_readCollection ml_RX12_280 k_355 rfl rfl (by decide) (as := []) rfl (Nat.le_of_ble_eq_true rfl) rfl (s_Mo_readCollection (D := d) (by omega) N g13) (fun r9 μ9 hp => ?_)
      rw [hp.1, hp.2]
      clear hp r9 μ9
      exact Sm_weak (le_s rfl (le_s rfl le_0)) (s_Mo_fault_B28 hD N x1 μ8z h)
  · replace h := it_t g2 h
    refine sm_bipush dX12_fault_17 bp_m2 ?_
    cases h
    exact sm_ret_i (st := []) dX12_fault_19 rfl ⟨rfl, rfl⟩
set_option maxRecDepth 100000 in
set_option maxHeartbeats 4000000 in
theorem s_Mo_lays_L18 {D : Nat} (hD : 0 ≤ D) (N : Nat) {q0 : Nat} (hk_q0 : sh_k q0 = 20) {q2 : Nat} (hk_q2 : sh_k q2 = 20) {μr : MM} : ∀ (n : Nat) (x1 : Int32) (x3 : Int32) (x4 : Int32) (x5 : Int32) (x6 : Int32) (μ : MM), f_Mo_lays_L18 N q0 q2 n x1 x3 x4 x5 x6 μ = some μr → Sm D mX12_lays 18 [some (av_r q0), some (av_i x1), some (av_r q2), some (av_i x3), some (av_i x4), some (av_i x5), some (av_i x6)] [] μ (po_v μr) := by
  intro n
  induction n with
  | zero => intro x1 x3 x4 x5 x6 μ h; cases (show none = some μr from h)
  | succ n ih =>
    intro x1 x3 x4 x5 x6 μ h
    rw [f_Mo_lays_L18] at h
    refine sm_iload dX12_lays_18 rfl ?_
    refine sm_iload dX12_lays_20 rfl ?_
    refine sm_icmp_ge (tgt := 92) dX12_lays_22 (by decide) (fun g3 => ?_) (fun g3 => ?_)
    · replace h := it_t g3 h
      cases h
      exact sm_ret_v (st := []) dX12_lays_92 rfl ⟨rfl, rfl⟩
    · replace h := it_f g3 h
      refine sm_aload_n dX12_lays_25 rfl rfl ?_
      refine sm_bipush dX12_lays_26 bp_20 ?_
      refine sm_iload_n dX12_lays_28 rfl rfl ?_
      refine sm_imul dX12_lays_29 ?_
      refine sm_iconst dX12_lays_30 ic_2 ?_
      refine sm_iadd dX12_lays_31 ?_
      refine sm_iconst dX12_lays_32 ic_3 ?_
      refine sm_iload dX12_lays_33 rfl ?_
      refine sm_imul dX12_lays_35 ?_
      refine sm_iadd dX12_lays_36 ?_
      refine sm_aload_n dX12_lays_37 rfl rfl ?_
      refine sm_iload_n dX12_lays_38 rfl rfl ?_
      refine sm_iconst dX12_lays_39 ic_1 ?_
      refine sm_iadd dX12_lays_40 ?_
      refine sm_iconst dX12_lays_41 ic_2 ?_
      refine sm_iload dX12_lays_42 rfl ?_
      refine sm_imul dX12_lays_44 ?_
      refine sm_iadd dX12_lays_45 ?_
      obtain ⟨g4, h⟩ := gd_some h
      refine sm_iald (j := (Int32.toNatClampNeg ((x3 + 1) + (2 * x6)))) dX12_lays_46 hk_q2 (in_sz rfl g4) rfl ?_
      obtain ⟨g5, h⟩ := gd_some h
      refine sm_iast (j := (Int32.toNatClampNeg (((20 * x1) + 2) + (3 * x6)))) dX12_lays_47 hk_q0 (in_sz rfl g5) rfl ?_
      replace h := wr_some h
      refine sm_aload_n dX12_lays_48 rfl rfl ?_
      refine sm_bipush dX12_lays_49 bp_20 ?_
      refine sm_iload_n dX12_lays_51 rfl rfl ?_
      refine sm_imul dX12_lays_52 ?_
      refine sm_iconst dX12_lays_53 ic_3 ?_
      refine sm_iadd dX12_lays_54 ?_
      refine sm_iconst dX12_lays_55 ic_3 ?_
      refine sm_iload dX12_lays_56 rfl ?_
      refine sm_imul dX12_lays_58 ?_
      refine sm_iadd dX12_lays_59 ?_
      refine sm_aload_n dX12_lays_60 rfl rfl ?_
      refine sm_iload_n dX12_lays_61 rfl rfl ?_
      refine sm_iconst dX12_lays_62 ic_2 ?_
      refine sm_iadd dX12_lays_63 ?_
      refine sm_iconst dX12_lays_64 ic_2 ?_
      refine sm_iload dX12_lays_65 rfl ?_
      refine sm_imul dX12_lays_67 ?_
      refine sm_iadd dX12_lays_68 ?_
      obtain ⟨g6, h⟩ := gd_some h
      refine sm_iald (j := (Int32.toNatClampNeg ((x3 + 2) + (2 * x6)))) dX12_lays_69 hk_q2 (in_sz rfl g6) rfl ?_
      obtain ⟨g7, h⟩ := gd_some h
      refine sm_iast (j := (Int32.toNatClampNeg (((20 * x1) + 3) + (3 * x6)))) dX12_lays_70 hk_q0 (in_sz rfl g7) rfl ?_
      replace h := wr_some h
      refine sm_aload_n dX12_lays_71 rfl rfl ?_
      refine sm_bipush dX12_lays_72 bp_20 ?_
      refine sm_iload_n dX12_lays_74 rfl rfl ?_
      refine sm_imul dX12_lays_75 ?_
      refine sm_iconst dX12_lays_76 ic_4 ?_
      refine sm_iadd dX12_lays_77 ?_
      refine sm_iconst dX12_lays_78 ic_3 ?_
      refine sm_iload dX12_lays_79 rfl ?_
      refine sm_imul dX12_lays_81 ?_
      refine sm_iadd dX12_lays_82 ?_
      refine sm_iload dX12_lays_83 rfl ?_
      obtain ⟨g8, h⟩ := gd_some h
      refine sm_iast (j := (Int32.toNatClampNeg (((20 * x1) + 4) + (3 * x6)))) dX12_lays_85 hk_q0 (in_sz rfl g8) rfl ?_
      replace h := wr_some h
      refine sm_iinc dX12_lays_86 rfl (congrArg (HAdd.hAdd x6) ic_1) (Nat.le_of_ble_eq_true rfl) (pv_i rfl) ?_
      refine sm_goto (tgt := 18) dX12_lays_89 (by decide) ?_
      exact Sm_weak (le_s rfl (le_s rfl (le_s rfl (le_s rfl (le_s rfl (le_s rfl (le_s rfl le_0))))))) (ih x1 x3 x4 x5 (x6 + 1) (mm_I (mm_I (mm_I μ q0 (Int32.toNatClampNeg (((20 * x1) + 2) + (3 * x6))) (μ.1 q2 (Int32.toNatClampNeg ((x3 + 1) + (2 * x6))))) q0 (Int32.toNatClampNeg (((20 * x1) + 3) + (3 * x6))) ((mm_I μ q0 (Int32.toNatClampNeg (((20 * x1) + 2) + (3 * x6))) (μ.1 q2 (Int32.toNatClampNeg ((x3 + 1) + (2 * x6))))).1 q2 (Int32.toNatClampNeg ((x3 + 2) + (2 * x6))))) q0 (Int32.toNatClampNeg (((20 * x1) + 4) + (3 * x6))) x4) h)
set_option maxRecDepth 100000 in
set_option maxHeartbeats 4000000 in
theorem s_Mo_lays {D : Nat} (hD : 0 ≤ D) (N : Nat) {q0 : Nat} (hk_q0 : sh_k q0 = 20) {q2 : Nat} (hk_q2 : sh_k q2 = 20) {x1 : Int32} {x3 : Int32} {x4 : Int32} {μ : MM} {μr : MM} (h : f_Mo_lays N q0 q2 x1 x3 x4 μ = some μr) : Cl D mX12_lays [av_r q0, av_i x1, av_r q2, av_i x3, av_i x4] μ (po_v μr) := by
  refine Cl_of pn_X12 (Nat.le_of_ble_eq_true rfl) ?_
  show Sm D mX12_lays 0 [some (av_r q0), some (av_i x1), some (av_r q2), some (av_i x3), some (av_i x4), none, none] [] μ (po_v μr)
  unfold f_Mo_lays at h
  refine sm_aload_n dX12_lays_0 rfl rfl ?_
  refine sm_iload_n dX12_lays_1 rfl rfl ?_
  obtain ⟨g1, h⟩ := gd_some h
  refine sm_iald (j := (Int32.toNatClampNeg x3)) dX12_lays_2 hk_q2 (in_sz rfl g1) rfl ?_
  refine sm_istore dX12_lays_3 (Nat.le_of_ble_eq_true rfl) (pv_i rfl) ?_
  refine sm_aload_n dX12_lays_5 rfl rfl ?_
  refine sm_bipush dX12_lays_6 bp_20 ?_
  refine sm_iload_n dX12_lays_8 rfl rfl ?_
  refine sm_imul dX12_lays_9 ?_
  refine sm_iconst dX12_lays_10 ic_1 ?_
  refine sm_iadd dX12_lays_11 ?_
  refine sm_iload dX12_lays_12 rfl ?_
  obtain ⟨g2, h⟩ := gd_some h
  refine sm_iast (j := (Int32.toNatClampNeg ((20 * x1) + 1))) dX12_lays_14 hk_q0 (in_sz rfl g2) rfl ?_
  replace h := wr_some h
  refine sm_iconst dX12_lays_15 ic_0 ?_
  refine sm_istore dX12_lays_16 (Nat.le_of_ble_eq_true rfl) (pv_i rfl) ?_
  exact Sm_weak (le_s rfl (le_s rfl (le_s rfl (le_s rfl (le_s rfl (le_s rfl (le_s rfl le_0))))))) (s_Mo_lays_L18 hD N hk_q0 hk_q2 N x1 x3 x4 (μ.1 q2 (Int32.toNatClampNeg x3)) 0 (mm_I μ q0 (Int32.toNatClampNeg ((20 * x1) + 1)) (μ.1 q2 (Int32.toNatClampNeg x3))) h)
set_option maxRecDepth 100000 in
set_option maxHeartbeats 4000000 in
theorem s_Mo_text_B353 {D : Nat} (hD : 91 ≤ D) (N : Nat) {r : Int32} {μr : MM} {k306 : Int32 → MM → Option (Int32 × MM)} (hk306 : ∀ (x3 : Int32) (μ : MM), k306 x3 μ = some (r, μr) → Sm D mX12_text 306 [some (av_r 355), none, none, some (av_i x3)] [] μ (po_i r μr)) (x3 : Int32) (s1 : Int32) (s2 : Int32) (μ : MM) (h : f_Mo_text_B353 N k306 x3 s1 s2 μ = some (r, μr)) : Sm D mX12_text 353 [some (av_r 355), none, none, some (av_i x3)] [av_i s2, av_i s1, av_r 368] μ (po_i r μr) := by
  obtain ⟨d, rfl⟩ : ∃ d, D = d + 1 := ⟨D - 1, by omega⟩
  unfold f_Mo_text_B353 at h
  obtain ⟨g21, h⟩ := gd_some h
  refine sm_iast (j := (Int32.toNatClampNeg s1)) dX12_text_353 k_368 (in_sz n_368 g21) rfl ?_
  replace h := wr_some h
  refine sm_aload_n dX12_text_354 rfl rfl ?_
  refine sm_getR dX12_text_355 fg_RX12_61 k_355 (rf_12_32 k_355) ?_
  refine sm_iload_n dX12_text_358 rfl rfl ?_
  refine sm_aload_n dX12_text_359 rfl rfl ?_
  refine sm_getR dX12_text_360 fg_RX12_52 k_355 (rf_12_23 k_355) ?_
  refine sm_bipush dX12_text_363 bp_16 ?_
  refine sm_iload_n dX12_text_365 rfl rfl ?_
  refine sm_imul dX12_text_366 ?_
  refine sm_iconst dX12_text_367 ic_3 ?_
  refine sm_iadd dX12_text_368 ?_
  refine sm_aload_n dX12_text_369 rfl rfl ?_
  refine sm_getR dX12_text_370 fg_RX12_52 k_355 (rf_12_23 k_355) ?_
  refine sm_bipush dX12_text_373 bp_16 ?_
  refine sm_iload_n dX12_text_375 rfl rfl ?_
  refine sm_imul dX12_text_376 ?_
  obtain ⟨g22, h⟩ := gd_some h
  refine sm_iald (j := (Int32.toNatClampNeg (16 * x3))) dX12_text_377 k_365 (in_sz n_365 g22) rfl ?_
  obtain ⟨μ13z, g23, h⟩ := obv_some h
  refine sm_callS dX12_text_378 cs_X12_lays ml_RX12_300 (as := [av_r 368, av_i x3, av_r 365, av_i ((16 * x3) + 3), av_i ((mm_I μ 368 (Int32.toNatClampNeg s1) s2).1 365 (Int32.toNatClampNeg (16 * x3)))]) rfl (Nat.le_of_ble_eq_true rfl) rfl (s_Mo_lays (D := d) (by omega) N k_368 k_365 g23) (fun r9 μ9 hp => ?_)
  rw [hp.1, hp.2]
  clear hp r9 μ9
  refine sm_iinc dX12_text_381 rfl (congrArg (HAdd.hAdd x3) ic_1) (Nat.le_of_ble_eq_true rfl) (pv_n rfl) ?_
  refine sm_goto (tgt := 306) dX12_text_384 (by decide) ?_
  exact Sm_weak (le_s rfl (le_n (le_n (le_s rfl le_0)))) (hk306 (x3 + 1) μ13z h)
set_option maxRecDepth 100000 in
set_option maxHeartbeats 4000000 in
theorem s_Mo_text_L306 {D : Nat} (hD : 91 ≤ D) (N : Nat) {r : Int32} {μr : MM} : ∀ (n : Nat) (x3 : Int32) (μ : MM), f_Mo_text_L306 N n x3 μ = some (r, μr) → Sm D mX12_text 306 [some (av_r 355), none, none, some (av_i x3)] [] μ (po_i r μr) := by
  obtain ⟨d, rfl⟩ : ∃ d, D = d + 1 := ⟨D - 1, by omega⟩
  intro n
  induction n with
  | zero => intro x3 μ h; cases (show none = some (r, μr) from h)
  | succ n ih =>
    intro x3 μ h
    rw [f_Mo_text_L306] at h
    refine sm_iload_n dX12_text_306 rfl rfl ?_
    refine sm_aload_n dX12_text_307 rfl rfl ?_
    refine sm_getI dX12_text_308 fg_RX12_297 k_355 ?_
    refine sm_icmp_ge (tgt := 387) dX12_text_311 (by decide) (fun g13 => ?_) (fun g13 => ?_)
    · replace h := it_t g13 h
      refine sm_aload_n dX12_text_387 rfl rfl ?_
      refine sm_getR dX12_text_388 fg_RX12_61 k_355 (rf_12_32 k_355) ?_
      refine sm_bipush dX12_text_391 bp_120 ?_
      refine sm_aload_n dX12_text_393 rfl rfl ?_
      refine sm_getR dX12_text_394 fg_RX12_37 k_355 (rf_12_18 k_355) ?_
      refine sm_iconst dX12_text_397 ic_0 ?_
      refine sm_iald (j := 0) dX12_text_398 k_360 (in_sz n_360 (by decide)) (by decide) ?_
      refine sm_iast (j := 120) dX12_text_399 k_368 (in_sz n_368 (by decide)) (by decide) ?_
      replace h := wr_some h
      refine sm_aload_n dX12_text_400 rfl rfl ?_
      refine sm_getR dX12_text_401 fg_RX12_61 k_355 (rf_12_32 k_355) ?_
      refine sm_bipush dX12_text_404 bp_121 ?_
      refine sm_aload_n dX12_text_406 rfl rfl ?_
      refine sm_getR dX12_text_407 fg_RX12_37 k_355 (rf_12_18 k_355) ?_
      refine sm_iconst dX12_text_410 ic_1 ?_
      refine sm_iald (j := 1) dX12_text_411 k_360 (in_sz n_360 (by decide)) (by decide) ?_
      refine sm_iast (j := 121) dX12_text_412 k_368 (in_sz n_368 (by decide)) (by decide) ?_
      replace h := wr_some h
      refine sm_aload_n dX12_text_413 rfl rfl ?_
      refine sm_iconst dX12_text_414 ic_0 ?_
      refine sm_putI dX12_text_415 fp_RX12_304 k_355 ?_
      replace h := wr_some h
      refine sm_aload_n dX12_text_418 rfl rfl ?_
      refine sm_iconst dX12_text_419 ic_0 ?_
      refine sm_putI dX12_text_420 fp_RX12_307 k_355 ?_
      replace h := wr_some h
      refine sm_aload_n dX12_text_423 rfl rfl ?_
      refine sm_iconst dX12_text_424 ic_0 ?_
      refine sm_putZ dX12_text_425 fp_RX12_310 k_355 (Or.inl rfl) ?_
      replace h := wr_some h
      refine sm_aload_n dX12_text_428 rfl rfl ?_
      refine sm_getI dX12_text_429 fg_RX12_297 k_355 ?_
      cases h
      exact sm_ret_i (st := []) dX12_text_432 rfl ⟨rfl, rfl⟩
    · replace h := it_f g13 h
      refine sm_aload_n dX12_text_314 rfl rfl ?_
      refine sm_getR dX12_text_315 fg_RX12_61 k_355 (rf_12_32 k_355) ?_
      refine sm_bipush dX12_text_318 bp_20 ?_
      refine sm_iload_n dX12_text_320 rfl rfl ?_
      refine sm_imul dX12_text_321 ?_
      refine sm_aload_n dX12_text_322 rfl rfl ?_
      refine sm_getR dX12_text_323 fg_RX12_52 k_355 (rf_12_23 k_355) ?_
      refine sm_bipush dX12_text_326 bp_16 ?_
      refine sm_iload_n dX12_text_328 rfl rfl ?_
      refine sm_imul dX12_text_329 ?_
      refine sm_iconst dX12_text_330 ic_2 ?_
      refine sm_iadd dX12_text_331 ?_
      obtain ⟨g18, h⟩ := gd_some h
      refine sm_iald (j := (Int32.toNatClampNeg ((16 * x3) + 2))) dX12_text_332 k_365 (in_sz n_365 g18) rfl ?_
      refine sm_bipush dX12_text_333 bp_8 ?_
      refine sm_icmp_ne (tgt := 342) dX12_text_335 (by decide) (fun g19 => ?_) (fun g19 => ?_)
      · replace h := it_f g19 h
        refine sm_aload_n dX12_text_342 rfl rfl ?_
        refine sm_getR dX12_text_343 fg_RX12_52 k_355 (rf_12_23 k_355) ?_
        refine sm_bipush dX12_text_346 bp_16 ?_
        refine sm_iload_n dX12_text_348 rfl rfl ?_
        refine sm_imul dX12_text_349 ?_
        refine sm_iconst dX12_text_350 ic_2 ?_
        refine sm_iadd dX12_text_351 ?_
        obtain ⟨g20, h⟩ := gd_some h
        refine sm_iald (j := (Int32.toNatClampNeg ((16 * x3) + 2))) dX12_text_352 k_365 (in_sz n_365 g20) rfl ?_
        exact Sm_weak (le_s rfl (le_n (le_n (le_s rfl le_0)))) (s_Mo_text_B353 hD N ih x3 (20 * x3) (μ.1 365 (Int32.toNatClampNeg ((16 * x3) + 2))) μ h)
      · replace h := it_t g19 h
        refine sm_iconst dX12_text_338 ic_m1 ?_
        refine sm_goto (tgt := 353) dX12_text_339 (by decide) ?_
        exact Sm_weak (le_s rfl (le_n (le_n (le_s rfl le_0)))) (s_Mo_text_B353 hD N ih x3 (20 * x3) (-1) μ h)
set_option maxRecDepth 100000 in
set_option maxHeartbeats 4000000 in
theorem s_Mo_text_L284 {D : Nat} (hD : 91 ≤ D) (N : Nat) {r : Int32} {μr : MM} : ∀ (n : Nat) (x3 : Int32) (μ : MM), f_Mo_text_L284 N n x3 μ = some (r, μr) → Sm D mX12_text 284 [some (av_r 355), none, none, some (av_i x3)] [] μ (po_i r μr) := by
  obtain ⟨d, rfl⟩ : ∃ d, D = d + 1 := ⟨D - 1, by omega⟩
  intro n
  induction n with
  | zero => intro x3 μ h; cases (show none = some (r, μr) from h)
  | succ n ih =>
    intro x3 μ h
    rw [f_Mo_text_L284] at h
    refine sm_iload_n dX12_text_284 rfl rfl ?_
    refine sm_sipush dX12_text_285 sp_304 ?_
    refine sm_icmp_ge (tgt := 304) dX12_text_288 (by decide) (fun g12 => ?_) (fun g12 => ?_)
    · replace h := it_t g12 h
      refine sm_iconst dX12_text_304 ic_0 ?_
      refine sm_istore_n dX12_text_305 rfl (Nat.le_of_ble_eq_true rfl) (pv_n rfl) ?_
      exact Sm_weak (le_s rfl (le_n (le_n (le_s rfl le_0)))) (s_Mo_text_L306 hD N N 0 μ h)
    · replace h := it_f g12 h
      refine sm_aload_n dX12_text_291 rfl rfl ?_
      refine sm_getR dX12_text_292 fg_RX12_61 k_355 (rf_12_32 k_355) ?_
      refine sm_iload_n dX12_text_295 rfl rfl ?_
      refine sm_iconst dX12_text_296 ic_0 ?_
      obtain ⟨g24, h⟩ := gd_some h
      refine sm_iast (j := (Int32.toNatClampNeg x3)) dX12_text_297 k_368 (in_sz n_368 g24) rfl ?_
      replace h := wr_some h
      refine sm_iinc dX12_text_298 rfl (congrArg (HAdd.hAdd x3) ic_1) (Nat.le_of_ble_eq_true rfl) (pv_n rfl) ?_
      refine sm_goto (tgt := 284) dX12_text_301 (by decide) ?_
      exact Sm_weak (le_s rfl (le_n (le_n (le_s rfl le_0)))) (ih (x3 + 1) (mm_I μ 368 (Int32.toNatClampNeg x3) 0) h)
set_option maxRecDepth 100000 in
set_option maxHeartbeats 4000000 in
theorem s_Mo_text_L258 {D : Nat} (hD : 91 ≤ D) (N : Nat) {r : Int32} {μr : MM} : ∀ (n : Nat) (x3 : Int32) (μ : MM), f_Mo_text_L258 N n x3 μ = some (r, μr) → Sm D mX12_text 258 [some (av_r 355), none, none, some (av_i x3)] [] μ (po_i r μr) := by
  obtain ⟨d, rfl⟩ : ∃ d, D = d + 1 := ⟨D - 1, by omega⟩
  intro n
  induction n with
  | zero => intro x3 μ h; cases (show none = some (r, μr) from h)
  | succ n ih =>
    intro x3 μ h
    rw [f_Mo_text_L258] at h
    refine sm_iload_n dX12_text_258 rfl rfl ?_
    refine sm_bipush dX12_text_259 bp_96 ?_
    refine sm_icmp_ge (tgt := 282) dX12_text_261 (by decide) (fun g11 => ?_) (fun g11 => ?_)
    · replace h := it_t g11 h
      refine sm_iconst dX12_text_282 ic_0 ?_
      refine sm_istore_n dX12_text_283 rfl (Nat.le_of_ble_eq_true rfl) (pv_n rfl) ?_
      exact Sm_weak (le_s rfl (le_n (le_n (le_s rfl le_0)))) (s_Mo_text_L284 hD N N 0 μ h)
    · replace h := it_f g11 h
      refine sm_aload_n dX12_text_264 rfl rfl ?_
      refine sm_getR dX12_text_265 fg_RX12_52 k_355 (rf_12_23 k_355) ?_
      refine sm_iload_n dX12_text_268 rfl rfl ?_
      refine sm_aload_n dX12_text_269 rfl rfl ?_
      refine sm_getR dX12_text_270 fg_RX12_55 k_355 (rf_12_24 k_355) ?_
      refine sm_iload_n dX12_text_273 rfl rfl ?_
      obtain ⟨g25, h⟩ := gd_some h
      refine sm_iald (j := (Int32.toNatClampNeg x3)) dX12_text_274 k_366 (in_sz n_366 g25) rfl ?_
      obtain ⟨g26, h⟩ := gd_some h
      refine sm_iast (j := (Int32.toNatClampNeg x3)) dX12_text_275 k_365 (in_sz n_365 g26) rfl ?_
      replace h := wr_some h
      refine sm_iinc dX12_text_276 rfl (congrArg (HAdd.hAdd x3) ic_1) (Nat.le_of_ble_eq_true rfl) (pv_n rfl) ?_
      refine sm_goto (tgt := 258) dX12_text_279 (by decide) ?_
      exact Sm_weak (le_s rfl (le_n (le_n (le_s rfl le_0)))) (ih (x3 + 1) (mm_I μ 365 (Int32.toNatClampNeg x3) (μ.1 366 (Int32.toNatClampNeg x3))) h)
set_option maxRecDepth 100000 in
set_option maxHeartbeats 4000000 in
theorem s_Mo_text_L232 {D : Nat} (hD : 91 ≤ D) (N : Nat) {r : Int32} {μr : MM} : ∀ (n : Nat) (x3 : Int32) (μ : MM), f_Mo_text_L232 N n x3 μ = some (r, μr) → Sm D mX12_text 232 [some (av_r 355), none, none, some (av_i x3)] [] μ (po_i r μr) := by
  obtain ⟨d, rfl⟩ : ∃ d, D = d + 1 := ⟨D - 1, by omega⟩
  intro n
  induction n with
  | zero => intro x3 μ h; cases (show none = some (r, μr) from h)
  | succ n ih =>
    intro x3 μ h
    rw [f_Mo_text_L232] at h
    refine sm_iload_n dX12_text_232 rfl rfl ?_
    refine sm_bipush dX12_text_233 bp_16 ?_
    refine sm_icmp_ge (tgt := 256) dX12_text_235 (by decide) (fun g10 => ?_) (fun g10 => ?_)
    · replace h := it_t g10 h
      refine sm_iconst dX12_text_256 ic_0 ?_
      refine sm_istore_n dX12_text_257 rfl (Nat.le_of_ble_eq_true rfl) (pv_n rfl) ?_
      exact Sm_weak (le_s rfl (le_n (le_n (le_s rfl le_0)))) (s_Mo_text_L258 hD N N 0 μ h)
    · replace h := it_f g10 h
      refine sm_aload_n dX12_text_238 rfl rfl ?_
      refine sm_getR dX12_text_239 fg_RX12_43 k_355 (rf_12_20 k_355) ?_
      refine sm_iload_n dX12_text_242 rfl rfl ?_
      refine sm_aload_n dX12_text_243 rfl rfl ?_
      refine sm_getR dX12_text_244 fg_RX12_46 k_355 (rf_12_21 k_355) ?_
      refine sm_iload_n dX12_text_247 rfl rfl ?_
      obtain ⟨g27, h⟩ := gd_some h
      refine sm_iald (j := (Int32.toNatClampNeg x3)) dX12_text_248 k_363 (in_sz n_363 g27) rfl ?_
      obtain ⟨g28, h⟩ := gd_some h
      refine sm_iast (j := (Int32.toNatClampNeg x3)) dX12_text_249 k_362 (in_sz n_362 g28) rfl ?_
      replace h := wr_some h
      refine sm_iinc dX12_text_250 rfl (congrArg (HAdd.hAdd x3) ic_1) (Nat.le_of_ble_eq_true rfl) (pv_n rfl) ?_
      refine sm_goto (tgt := 232) dX12_text_253 (by decide) ?_
      exact Sm_weak (le_s rfl (le_n (le_n (le_s rfl le_0)))) (ih (x3 + 1) (mm_I μ 362 (Int32.toNatClampNeg x3) (μ.1 363 (Int32.toNatClampNeg x3))) h)
set_option maxRecDepth 100000 in
set_option maxHeartbeats 4000000 in
theorem s_Mo_text_L207 {D : Nat} (hD : 91 ≤ D) (N : Nat) {r : Int32} {μr : MM} : ∀ (n : Nat) (x3 : Int32) (μ : MM), f_Mo_text_L207 N n x3 μ = some (r, μr) → Sm D mX12_text 207 [some (av_r 355), none, none, some (av_i x3)] [] μ (po_i r μr) := by
  obtain ⟨d, rfl⟩ : ∃ d, D = d + 1 := ⟨D - 1, by omega⟩
  intro n
  induction n with
  | zero => intro x3 μ h; cases (show none = some (r, μr) from h)
  | succ n ih =>
    intro x3 μ h
    rw [f_Mo_text_L207] at h
    refine sm_iload_n dX12_text_207 rfl rfl ?_
    refine sm_iconst dX12_text_208 ic_2 ?_
    refine sm_icmp_ge (tgt := 230) dX12_text_209 (by decide) (fun g9 => ?_) (fun g9 => ?_)
    · replace h := it_t g9 h
      refine sm_iconst dX12_text_230 ic_0 ?_
      refine sm_istore_n dX12_text_231 rfl (Nat.le_of_ble_eq_true rfl) (pv_n rfl) ?_
      exact Sm_weak (le_s rfl (le_n (le_n (le_s rfl le_0)))) (s_Mo_text_L232 hD N N 0 μ h)
    · replace h := it_f g9 h
      refine sm_aload_n dX12_text_212 rfl rfl ?_
      refine sm_getR dX12_text_213 fg_RX12_37 k_355 (rf_12_18 k_355) ?_
      refine sm_iload_n dX12_text_216 rfl rfl ?_
      refine sm_aload_n dX12_text_217 rfl rfl ?_
      refine sm_getR dX12_text_218 fg_RX12_40 k_355 (rf_12_19 k_355) ?_
      refine sm_iload_n dX12_text_221 rfl rfl ?_
      obtain ⟨g29, h⟩ := gd_some h
      refine sm_iald (j := (Int32.toNatClampNeg x3)) dX12_text_222 k_361 (in_sz n_361 g29) rfl ?_
      obtain ⟨g30, h⟩ := gd_some h
      refine sm_iast (j := (Int32.toNatClampNeg x3)) dX12_text_223 k_360 (in_sz n_360 g30) rfl ?_
      replace h := wr_some h
      refine sm_iinc dX12_text_224 rfl (congrArg (HAdd.hAdd x3) ic_1) (Nat.le_of_ble_eq_true rfl) (pv_n rfl) ?_
      refine sm_goto (tgt := 207) dX12_text_227 (by decide) ?_
      exact Sm_weak (le_s rfl (le_n (le_n (le_s rfl le_0)))) (ih (x3 + 1) (mm_I μ 360 (Int32.toNatClampNeg x3) (μ.1 361 (Int32.toNatClampNeg x3))) h)
set_option maxRecDepth 100000 in
set_option maxHeartbeats 4000000 in
theorem s_Mo_text_L137 {D : Nat} (hD : 91 ≤ D) (N : Nat) {r : Int32} {μr : MM} : ∀ (n : Nat) (x3 : Int32) (μ : MM), f_Mo_text_L137 N n x3 μ = some (r, μr) → Sm D mX12_text 137 [some (av_r 355), none, none, some (av_i x3)] [] μ (po_i r μr) := by
  obtain ⟨d, rfl⟩ : ∃ d, D = d + 1 := ⟨D - 1, by omega⟩
  intro n
  induction n with
  | zero => intro x3 μ h; cases (show none = some (r, μr) from h)
  | succ n ih =>
    intro x3 μ h
    rw [f_Mo_text_L137] at h
    refine sm_iload_n dX12_text_137 rfl rfl ?_
    refine sm_bipush dX12_text_138 bp_12 ?_
    refine sm_icmp_gt (tgt := 172) dX12_text_140 (by decide) (fun g31 => ?_) (fun g31 => ?_)
    · replace h := it_t g31 h
      refine sm_aload_n dX12_text_172 rfl rfl ?_
      refine sm_dup dX12_text_173 rfl ?_
      refine sm_getI dX12_text_174 fg_RX12_289 k_355 ?_
      refine sm_iconst dX12_text_177 ic_1 ?_
      refine sm_iadd dX12_text_178 ?_
      refine sm_putI dX12_text_179 fp_RX12_289 k_355 ?_
      replace h := wr_some h
      refine sm_aload_n dX12_text_182 rfl rfl ?_
      refine sm_getI dX12_text_183 fg_RX12_289 k_355 ?_
      refine sm_iconst dX12_text_186 ic_1 ?_
      refine sm_isub dX12_text_187 ?_
      cases h
      exact sm_ret_i (st := []) dX12_text_188 rfl ⟨rfl, rfl⟩
    · replace h := it_f g31 h
      refine sm_aload_n dX12_text_143 rfl rfl ?_
      refine sm_getR dX12_text_144 fg_RX12_58 k_355 (rf_12_25 k_355) ?_
      refine sm_bipush dX12_text_147 bp_13 ?_
      refine sm_aload_n dX12_text_149 rfl rfl ?_
      refine sm_getI dX12_text_150 fg_RX12_289 k_355 ?_
      refine sm_imul dX12_text_153 ?_
      refine sm_iload_n dX12_text_154 rfl rfl ?_
      refine sm_iadd dX12_text_155 ?_
      refine sm_aload_n dX12_text_156 rfl rfl ?_
      refine sm_getR dX12_text_157 fg_RX12_58 k_355 (rf_12_25 k_355) ?_
      refine sm_bipush dX12_text_160 bp_52 ?_
      refine sm_iload_n dX12_text_162 rfl rfl ?_
      refine sm_iadd dX12_text_163 ?_
      obtain ⟨g32, h⟩ := gd_some h
      refine sm_iald (j := (Int32.toNatClampNeg (52 + x3))) dX12_text_164 k_367 (in_sz n_367 g32) rfl ?_
      obtain ⟨g33, h⟩ := gd_some h
      refine sm_iast (j := (Int32.toNatClampNeg ((13 * (μ.1 355 30)) + x3))) dX12_text_165 k_367 (in_sz n_367 g33) rfl ?_
      replace h := wr_some h
      refine sm_iinc dX12_text_166 rfl (congrArg (HAdd.hAdd x3) ic_1) (Nat.le_of_ble_eq_true rfl) (pv_n rfl) ?_
      refine sm_goto (tgt := 137) dX12_text_169 (by decide) ?_
      exact Sm_weak (le_s rfl (le_n (le_n (le_s rfl le_0)))) (ih (x3 + 1) (mm_I μ 367 (Int32.toNatClampNeg ((13 * (μ.1 355 30)) + x3)) (μ.1 367 (Int32.toNatClampNeg (52 + x3)))) h)
set_option maxRecDepth 100000 in
set_option maxHeartbeats 4000000 in
theorem s_Mo_text_L71 {D : Nat} (hD : 91 ≤ D) (N : Nat) {r : Int32} {μr : MM} : ∀ (n : Nat) (x2 : Int32) (x3 : Int32) (μ : MM), f_Mo_text_L71 N n x2 x3 μ = some (r, μr) → Sm D mX12_text 71 [some (av_r 355), none, some (av_i x2), some (av_i x3)] [] μ (po_i r μr) := by
  obtain ⟨d, rfl⟩ : ∃ d, D = d + 1 := ⟨D - 1, by omega⟩
  intro n
  induction n with
  | zero => intro x2 x3 μ h; cases (show none = some (r, μr) from h)
  | succ n ih =>
    intro x2 x3 μ h
    rw [f_Mo_text_L71] at h
    refine sm_iload_n dX12_text_71 rfl rfl ?_
    refine sm_iload_n dX12_text_72 rfl rfl ?_
    refine sm_icmp_ge (tgt := 103) dX12_text_73 (by decide) (fun g34 => ?_) (fun g34 => ?_)
    · replace h := it_t g34 h
      refine sm_aload_n dX12_text_103 rfl rfl ?_
      refine sm_getR dX12_text_104 fg_RX12_16 k_355 (rf_12_3 k_355) ?_
      refine sm_aload_n dX12_text_107 rfl rfl ?_
      refine sm_getI dX12_text_108 fg_RX12_286 k_355 ?_
      refine sm_iload_n dX12_text_111 rfl rfl ?_
      obtain ⟨g35, h⟩ := gd_some h
      refine sm_iast (j := (Int32.toNatClampNeg (μ.1 355 7))) dX12_text_112 k_358 (in_sz n_358 g35) rfl ?_
      replace h := wr_some h
      refine sm_aload_n dX12_text_113 rfl rfl ?_
      refine sm_dup dX12_text_114 rfl ?_
      refine sm_getI dX12_text_115 fg_RX12_286 k_355 ?_
      refine sm_iconst dX12_text_118 ic_1 ?_
      refine sm_iadd dX12_text_119 ?_
      refine sm_putI dX12_text_120 fp_RX12_286 k_355 ?_
      replace h := wr_some h
      refine sm_aload_n dX12_text_123 rfl rfl ?_
      refine sm_getI dX12_text_124 fg_RX12_286 k_355 ?_
      refine sm_iconst dX12_text_127 ic_1 ?_
      refine sm_isub dX12_text_128 ?_
      cases h
      exact sm_ret_i (st := []) dX12_text_129 rfl ⟨rfl, rfl⟩
    · replace h := it_f g34 h
      refine sm_aload_n dX12_text_76 rfl rfl ?_
      refine sm_getR dX12_text_77 fg_RX12_13 k_355 (rf_12_2 k_355) ?_
      refine sm_sipush dX12_text_80 sp_240 ?_
      refine sm_aload_n dX12_text_83 rfl rfl ?_
      refine sm_getI dX12_text_84 fg_RX12_286 k_355 ?_
      refine sm_imul dX12_text_87 ?_
      refine sm_iload_n dX12_text_88 rfl rfl ?_
      refine sm_iadd dX12_text_89 ?_
      refine sm_aload_n dX12_text_90 rfl rfl ?_
      refine sm_getR dX12_text_91 fg_RX12_9 k_355 (rf_12_1 k_355) ?_
      refine sm_iload_n dX12_text_94 rfl rfl ?_
      obtain ⟨g36, h⟩ := gd_some h
      refine sm_bald (j := (Int32.toNatClampNeg x3)) dX12_text_95 k_356 (in_sz n_356 g36) rfl ?_
      obtain ⟨g37, h⟩ := gd_some h
      refine sm_bast (j := (Int32.toNatClampNeg ((240 * (μ.1 355 7)) + x3))) dX12_text_96 k_357 (in_sz n_357 g37) rfl ?_
      replace h := wr_some h
      refine sm_iinc dX12_text_97 rfl (congrArg (HAdd.hAdd x3) ic_1) (Nat.le_of_ble_eq_true rfl) (pv_i rfl) ?_
      refine sm_goto (tgt := 71) dX12_text_100 (by decide) ?_
      exact Sm_weak (le_s rfl (le_n (le_s rfl (le_s rfl le_0)))) (ih x2 (x3 + 1) (mm_I μ 357 (Int32.toNatClampNeg ((240 * (μ.1 355 7)) + x3)) (vp_nar .byte (μ.1 356 (Int32.toNatClampNeg x3)))) h)
set_option maxRecDepth 100000 in
set_option maxHeartbeats 4000000 in
theorem s_Mo_text_B43 {D : Nat} (hD : 91 ≤ D) (N : Nat) {r : Int32} {μr : MM} (x1 : Int32) (μ : MM) (h : f_Mo_text_B43 N x1 μ = some (r, μr)) : Sm D mX12_text 43 [some (av_r 355), some (av_i x1), none, none] [] μ (po_i r μr) := by
  obtain ⟨d, rfl⟩ : ∃ d, D = d + 1 := ⟨D - 1, by omega⟩
  unfold f_Mo_text_B43 at h
  refine sm_aload_n dX12_text_43 rfl rfl ?_
  refine sm_iload_n dX12_text_44 rfl rfl ?_
  obtain ⟨t45, μ3z, g5, h⟩ := ob_some h
  refine sm_callV dX12_text_45 cv_X12_fault ml_RX12_292 k_355 rfl rfl (by decide) (as := [av_i x1]) rfl (Nat.le_of_ble_eq_true rfl) rfl (s_Mo_fault (D := d) (by omega) N g5) (fun r9 μ9 hp => ?_)
  rw [hp.1, hp.2]
  clear hp r9 μ9
  refine sm_iconst dX12_text_48 ic_m1 ?_
  refine sm_icmp_eq (tgt := 54) dX12_text_49 (by decide) (fun g6 => ?_) (fun g6 => ?_)
  · replace h := it_t g6 h
    refine sm_aload_n dX12_text_54 rfl rfl ?_
    refine sm_getI dX12_text_55 fg_RX12_104 k_355 ?_
    refine sm_istore_n dX12_text_58 rfl (Nat.le_of_ble_eq_true rfl) (pv_i rfl) ?_
    refine sm_aload_n dX12_text_59 rfl rfl ?_
    refine sm_iconst dX12_text_60 ic_0 ?_
    refine sm_putI dX12_text_61 fp_RX12_104 k_355 ?_
    replace h := wr_some h
    refine sm_iload_n dX12_text_64 rfl rfl ?_
    refine sm_iconst dX12_text_65 ic_1 ?_
    refine sm_icmp_ne (tgt := 130) dX12_text_66 (by decide) (fun g7 => ?_) (fun g7 => ?_)
    · replace h := it_f g7 h
      refine sm_iload_n dX12_text_130 rfl rfl ?_
      refine sm_iconst dX12_text_131 ic_2 ?_
      refine sm_icmp_ne (tgt := 189) dX12_text_132 (by decide) (fun g8 => ?_) (fun g8 => ?_)
      · replace h := it_f g8 h
        refine sm_aload_n dX12_text_189 rfl rfl ?_
        refine sm_aload_n dX12_text_190 rfl rfl ?_
        refine sm_getI dX12_text_191 fg_RX12_247 k_355 ?_
        refine sm_putI dX12_text_194 fp_RX12_294 k_355 ?_
        replace h := wr_some h
        refine sm_aload_n dX12_text_197 rfl rfl ?_
        refine sm_aload_n dX12_text_198 rfl rfl ?_
        refine sm_getI dX12_text_199 fg_RX12_250 k_355 ?_
        refine sm_putI dX12_text_202 fp_RX12_297 k_355 ?_
        replace h := wr_some h
        refine sm_iconst dX12_text_205 ic_0 ?_
        refine sm_istore_n dX12_text_206 rfl (Nat.le_of_ble_eq_true rfl) (pv_i rfl) ?_
        exact Sm_weak (le_s rfl (le_n (le_n (le_s rfl le_0)))) (s_Mo_text_L207 hD N N 0 (mm_I (mm_I (mm_I μ3z 355 6 0) 355 26 ((mm_I μ3z 355 6 0).1 355 28)) 355 27 ((mm_I (mm_I μ3z 355 6 0) 355 26 ((mm_I μ3z 355 6 0).1 355 28)).1 355 29)) h)
      · replace h := it_t g8 h
        refine sm_iconst dX12_text_135 ic_0 ?_
        refine sm_istore_n dX12_text_136 rfl (Nat.le_of_ble_eq_true rfl) (pv_i rfl) ?_
        exact Sm_weak (le_s rfl (le_n (le_n (le_s rfl le_0)))) (s_Mo_text_L137 hD N N 0 (mm_I μ3z 355 6 0) h)
    · replace h := it_t g7 h
      refine sm_iconst dX12_text_69 ic_0 ?_
      refine sm_istore_n dX12_text_70 rfl (Nat.le_of_ble_eq_true rfl) (pv_i rfl) ?_
      exact Sm_weak (le_s rfl (le_n (le_s rfl (le_s rfl le_0)))) (s_Mo_text_L71 hD N N (μ3z.1 355 6) 0 (mm_I μ3z 355 6 0) h)
  · replace h := it_f g6 h
    refine sm_iconst dX12_text_52 ic_m1 ?_
    cases h
    exact sm_ret_i (st := []) dX12_text_53 rfl ⟨rfl, rfl⟩
set_option maxRecDepth 100000 in
set_option maxHeartbeats 4000000 in
theorem s_Mo_text_B30 {D : Nat} (hD : 91 ≤ D) (N : Nat) {r : Int32} {μr : MM} (x1 : Int32) (μ : MM) (h : f_Mo_text_B30 N x1 μ = some (r, μr)) : Sm D mX12_text 30 [some (av_r 355), some (av_i x1), none, none] [] μ (po_i r μr) := by
  obtain ⟨d, rfl⟩ : ∃ d, D = d + 1 := ⟨D - 1, by omega⟩
  unfold f_Mo_text_B30 at h
  refine sm_iload_n dX12_text_30 rfl rfl ?_
  refine sm_iconst dX12_text_31 ic_2 ?_
  refine sm_icmp_ne (tgt := 43) dX12_text_32 (by decide) (fun g4 => ?_) (fun g4 => ?_)
  · replace h := it_f g4 h
    exact Sm_weak (le_s rfl (le_s rfl (le_n (le_n le_0)))) (s_Mo_text_B43 hD N x1 μ h)
  · replace h := it_t g4 h
    refine sm_aload_n dX12_text_35 rfl rfl ?_
    refine sm_getI dX12_text_36 fg_RX12_289 k_355 ?_
    refine sm_iconst dX12_text_39 ic_4 ?_
    refine sm_icmp_eq (tgt := 52) dX12_text_40 (by decide) (fun g38 => ?_) (fun g38 => ?_)
    · replace h := it_t g38 h
      refine sm_iconst dX12_text_52 ic_m1 ?_
      cases h
      exact sm_ret_i (st := []) dX12_text_53 rfl ⟨rfl, rfl⟩
    · replace h := it_f g38 h
      exact Sm_weak (le_s rfl (le_s rfl (le_n (le_n le_0)))) (s_Mo_text_B43 hD N x1 μ h)
set_option maxRecDepth 100000 in
set_option maxHeartbeats 4000000 in
theorem s_Mo_text {D : Nat} (hD : 91 ≤ D) (N : Nat) {x1 : Int32} {μ : MM} {r : Int32} {μr : MM} (h : f_Mo_text N x1 μ = some (r, μr)) : Cl D mX12_text [av_r 355, av_i x1] μ (po_i r μr) := by
  obtain ⟨d, rfl⟩ : ∃ d, D = d + 1 := ⟨D - 1, by omega⟩
  refine Cl_of pn_X12 (Nat.le_of_ble_eq_true rfl) ?_
  show Sm (d + 1) mX12_text 0 [some (av_r 355), some (av_i x1), none, none] [] μ (po_i r μr)
  unfold f_Mo_text at h
  refine sm_aload_n dX12_text_0 rfl rfl ?_
  refine sm_iconst dX12_text_1 ic_0 ?_
  refine sm_putI dX12_text_2 fp_RX12_91 k_355 ?_
  replace h := wr_some h
  refine sm_iload_n dX12_text_5 rfl rfl ?_
  refine sm_i2l dX12_text_6 ?_
  refine sm_lconst dX12_text_7 lc_0 ?_
  refine sm_ldc2 dX12_text_8 cs_RX12_278 ?_
  obtain ⟨t11, μ2z, g1, h⟩ := ob_some h
  refine sm_callS dX12_text_11 cs_X12_isIn ml_RX12_212 (as := [av_l (Int32.toInt64 x1), av_l 0, av_l 2]) rfl (Nat.le_of_ble_eq_true rfl) rfl (s_Mo_isIn (D := d) (by omega) N g1) (fun r9 μ9 hp => ?_)
  rw [hp.1, hp.2]
  clear hp r9 μ9
  refine sm_if_eq (tgt := 52) dX12_text_14 (by decide) (fun g2 => ?_) (fun g2 => ?_)
  · replace h := it_t g2 h
    refine sm_iconst dX12_text_52 ic_m1 ?_
    cases h
    exact sm_ret_i (st := []) dX12_text_53 rfl ⟨rfl, rfl⟩
  · replace h := it_f g2 h
    refine sm_iload_n dX12_text_17 rfl rfl ?_
    refine sm_iconst dX12_text_18 ic_1 ?_
    refine sm_icmp_ne (tgt := 30) dX12_text_19 (by decide) (fun g3 => ?_) (fun g3 => ?_)
    · replace h := it_f g3 h
      exact Sm_weak (le_s rfl (le_s rfl (le_n (le_n le_0)))) (s_Mo_text_B30 hD N x1 μ2z h)
    · replace h := it_t g3 h
      refine sm_aload_n dX12_text_22 rfl rfl ?_
      refine sm_getI dX12_text_23 fg_RX12_286 k_355 ?_
      refine sm_iconst dX12_text_26 ic_4 ?_
      refine sm_icmp_eq (tgt := 52) dX12_text_27 (by decide) (fun g39 => ?_) (fun g39 => ?_)
      · replace h := it_t g39 h
        refine sm_iconst dX12_text_52 ic_m1 ?_
        cases h
        exact sm_ret_i (st := []) dX12_text_53 rfl ⟨rfl, rfl⟩
      · replace h := it_f g39 h
        exact Sm_weak (le_s rfl (le_s rfl (le_n (le_n le_0)))) (s_Mo_text_B30 hD N x1 μ2z h)
set_option maxRecDepth 100000 in
set_option maxHeartbeats 4000000 in
theorem s_Mo_copies_L2 {D : Nat} (hD : 0 ≤ D) (N : Nat) {q0 : Nat} (hk_q0 : sh_k q0 = 20) {q1 : Nat} (hk_q1 : sh_k q1 = 20) {μr : MM} : ∀ (n : Nat) (x2 : Int32) (μ : MM), f_Mo_copies_L2 N q0 q1 n x2 μ = some μr → Sm D mX12_copies 2 [some (av_r q0), some (av_r q1), some (av_i x2)] [] μ (po_v μr) := by
  intro n
  induction n with
  | zero => intro x2 μ h; cases (show none = some μr from h)
  | succ n ih =>
    intro x2 μ h
    rw [f_Mo_copies_L2] at h
    refine sm_iload_n dX12_copies_2 rfl rfl ?_
    refine sm_sipush dX12_copies_3 sp_304 ?_
    refine sm_icmp_ge (tgt := 21) dX12_copies_6 (by decide) (fun g1 => ?_) (fun g1 => ?_)
    · replace h := it_t g1 h
      cases h
      exact sm_ret_v (st := []) dX12_copies_21 rfl ⟨rfl, rfl⟩
    · replace h := it_f g1 h
      refine sm_aload_n dX12_copies_9 rfl rfl ?_
      refine sm_iload_n dX12_copies_10 rfl rfl ?_
      refine sm_aload_n dX12_copies_11 rfl rfl ?_
      refine sm_iload_n dX12_copies_12 rfl rfl ?_
      obtain ⟨g2, h⟩ := gd_some h
      refine sm_iald (j := (Int32.toNatClampNeg x2)) dX12_copies_13 hk_q0 (in_sz rfl g2) rfl ?_
      obtain ⟨g3, h⟩ := gd_some h
      refine sm_iast (j := (Int32.toNatClampNeg x2)) dX12_copies_14 hk_q1 (in_sz rfl g3) rfl ?_
      replace h := wr_some h
      refine sm_iinc dX12_copies_15 rfl (congrArg (HAdd.hAdd x2) ic_1) (Nat.le_of_ble_eq_true rfl) (pv_r rfl) ?_
      refine sm_goto (tgt := 2) dX12_copies_18 (by decide) ?_
      exact Sm_weak (le_s rfl (le_s rfl (le_s rfl le_0))) (ih (x2 + 1) (mm_I μ q1 (Int32.toNatClampNeg x2) (μ.1 q0 (Int32.toNatClampNeg x2))) h)
set_option maxRecDepth 100000 in
set_option maxHeartbeats 4000000 in
theorem s_Mo_copies {D : Nat} (hD : 0 ≤ D) (N : Nat) {q0 : Nat} (hk_q0 : sh_k q0 = 20) {q1 : Nat} (hk_q1 : sh_k q1 = 20) {μ : MM} {μr : MM} (h : f_Mo_copies N q0 q1 μ = some μr) : Cl D mX12_copies [av_r q0, av_r q1] μ (po_v μr) := by
  refine Cl_of pn_X12 (Nat.le_of_ble_eq_true rfl) ?_
  show Sm D mX12_copies 0 [some (av_r q0), some (av_r q1), none] [] μ (po_v μr)
  unfold f_Mo_copies at h
  refine sm_iconst dX12_copies_0 ic_0 ?_
  refine sm_istore_n dX12_copies_1 rfl (Nat.le_of_ble_eq_true rfl) (pv_r rfl) ?_
  exact Sm_weak (le_s rfl (le_s rfl (le_s rfl le_0))) (s_Mo_copies_L2 hD N hk_q0 hk_q1 N 0 μ h)
set_option maxRecDepth 100000 in
set_option maxHeartbeats 4000000 in
theorem s_Mo_isThing {D : Nat} (hD : 0 ≤ D) (N : Nat) {x1 : Int32} {μ : MM} {r : Int32} {μr : MM} (h : f_Mo_isThing N x1 μ = some (r, μr)) : Cl D mX12_isThing [av_r 355, av_i x1] μ (po_i r μr) := by
  refine Cl_of pn_X12 (Nat.le_of_ble_eq_true rfl) ?_
  show Sm D mX12_isThing 0 [some (av_r 355), some (av_i x1)] [] μ (po_i r μr)
  unfold f_Mo_isThing at h
  refine sm_iload_n dX12_isThing_0 rfl rfl ?_
  refine sm_if_lt (tgt := 16) dX12_isThing_1 (by decide) (fun g1 => ?_) (fun g1 => ?_)
  · replace h := it_t g1 h
    refine sm_iconst dX12_isThing_16 ic_0 ?_
    cases h
    exact sm_ret_z (st := []) dX12_isThing_17 rfl rfl ⟨rfl, rfl⟩
  · replace h := it_f g1 h
    refine sm_iload_n dX12_isThing_4 rfl rfl ?_
    refine sm_aload_n dX12_isThing_5 rfl rfl ?_
    refine sm_getI dX12_isThing_6 fg_RX12_294 k_355 ?_
    refine sm_icmp_ge (tgt := 16) dX12_isThing_9 (by decide) (fun g2 => ?_) (fun g2 => ?_)
    · replace h := it_t g2 h
      refine sm_iconst dX12_isThing_16 ic_0 ?_
      cases h
      exact sm_ret_z (st := []) dX12_isThing_17 rfl rfl ⟨rfl, rfl⟩
    · replace h := it_f g2 h
      refine sm_iconst dX12_isThing_12 ic_1 ?_
      refine sm_goto (tgt := 17) dX12_isThing_13 (by decide) ?_
      cases h
      exact sm_ret_z (st := []) dX12_isThing_17 rfl rfl ⟨rfl, rfl⟩
set_option maxRecDepth 100000 in
set_option maxHeartbeats 4000000 in
theorem s_Mo_isCard {D : Nat} (hD : 0 ≤ D) (N : Nat) {x1 : Int32} {μ : MM} {r : Int32} {μr : MM} (h : f_Mo_isCard N x1 μ = some (r, μr)) : Cl D mX12_isCard [av_r 355, av_i x1] μ (po_i r μr) := by
  refine Cl_of pn_X12 (Nat.le_of_ble_eq_true rfl) ?_
  show Sm D mX12_isCard 0 [some (av_r 355), some (av_i x1)] [] μ (po_i r μr)
  unfold f_Mo_isCard at h
  refine sm_iload_n dX12_isCard_0 rfl rfl ?_
  refine sm_if_lt (tgt := 16) dX12_isCard_1 (by decide) (fun g1 => ?_) (fun g1 => ?_)
  · replace h := it_t g1 h
    refine sm_iconst dX12_isCard_16 ic_0 ?_
    cases h
    exact sm_ret_z (st := []) dX12_isCard_17 rfl rfl ⟨rfl, rfl⟩
  · replace h := it_f g1 h
    refine sm_iload_n dX12_isCard_4 rfl rfl ?_
    refine sm_aload_n dX12_isCard_5 rfl rfl ?_
    refine sm_getI dX12_isCard_6 fg_RX12_297 k_355 ?_
    refine sm_icmp_ge (tgt := 16) dX12_isCard_9 (by decide) (fun g2 => ?_) (fun g2 => ?_)
    · replace h := it_t g2 h
      refine sm_iconst dX12_isCard_16 ic_0 ?_
      cases h
      exact sm_ret_z (st := []) dX12_isCard_17 rfl rfl ⟨rfl, rfl⟩
    · replace h := it_f g2 h
      refine sm_iconst dX12_isCard_12 ic_1 ?_
      refine sm_goto (tgt := 17) dX12_isCard_13 (by decide) ?_
      cases h
      exact sm_ret_z (st := []) dX12_isCard_17 rfl rfl ⟨rfl, rfl⟩
set_option maxRecDepth 100000 in
set_option maxHeartbeats 4000000 in
theorem s_Mo_wordsOf {D : Nat} (hD : 0 ≤ D) (N : Nat) {q0 : Nat} (hk_q0 : sh_k q0 = 20) {x1 : Int32} {μ : MM} {r : Int32} {μr : MM} (h : f_Mo_wordsOf N q0 x1 μ = some (r, μr)) : Cl D mX12_wordsOf [av_r q0, av_i x1] μ (po_i r μr) := by
  refine Cl_of pn_X12 (Nat.le_of_ble_eq_true rfl) ?_
  show Sm D mX12_wordsOf 0 [some (av_r q0), some (av_i x1)] [] μ (po_i r μr)
  unfold f_Mo_wordsOf at h
  refine sm_aload_n dX12_wordsOf_0 rfl rfl ?_
  refine sm_bipush dX12_wordsOf_1 bp_20 ?_
  refine sm_iload_n dX12_wordsOf_3 rfl rfl ?_
  refine sm_imul dX12_wordsOf_4 ?_
  refine sm_iconst dX12_wordsOf_5 ic_1 ?_
  refine sm_iadd dX12_wordsOf_6 ?_
  obtain ⟨g1, h⟩ := gd_some h
  refine sm_iald (j := (Int32.toNatClampNeg ((20 * x1) + 1))) dX12_wordsOf_7 hk_q0 (in_sz rfl g1) rfl ?_
  cases h
  exact sm_ret_i (st := []) dX12_wordsOf_8 rfl ⟨rfl, rfl⟩
set_option maxRecDepth 100000 in
set_option maxHeartbeats 4000000 in
theorem s_Mo_sortOf {D : Nat} (hD : 0 ≤ D) (N : Nat) {q0 : Nat} (hk_q0 : sh_k q0 = 20) {x1 : Int32} {x2 : Int32} {μ : MM} {r : Int32} {μr : MM} (h : f_Mo_sortOf N q0 x1 x2 μ = some (r, μr)) : Cl D mX12_sortOf [av_r q0, av_i x1, av_i x2] μ (po_i r μr) := by
  refine Cl_of pn_X12 (Nat.le_of_ble_eq_true rfl) ?_
  show Sm D mX12_sortOf 0 [some (av_r q0), some (av_i x1), some (av_i x2)] [] μ (po_i r μr)
  unfold f_Mo_sortOf at h
  refine sm_aload_n dX12_sortOf_0 rfl rfl ?_
  refine sm_bipush dX12_sortOf_1 bp_20 ?_
  refine sm_iload_n dX12_sortOf_3 rfl rfl ?_
  refine sm_imul dX12_sortOf_4 ?_
  refine sm_iconst dX12_sortOf_5 ic_2 ?_
  refine sm_iadd dX12_sortOf_6 ?_
  refine sm_iconst dX12_sortOf_7 ic_3 ?_
  refine sm_iload_n dX12_sortOf_8 rfl rfl ?_
  refine sm_imul dX12_sortOf_9 ?_
  refine sm_iadd dX12_sortOf_10 ?_
  obtain ⟨g1, h⟩ := gd_some h
  refine sm_iald (j := (Int32.toNatClampNeg (((20 * x1) + 2) + (3 * x2)))) dX12_sortOf_11 hk_q0 (in_sz rfl g1) rfl ?_
  cases h
  exact sm_ret_i (st := []) dX12_sortOf_12 rfl ⟨rfl, rfl⟩
set_option maxRecDepth 100000 in
set_option maxHeartbeats 4000000 in
theorem s_Mo_whatOf {D : Nat} (hD : 0 ≤ D) (N : Nat) {q0 : Nat} (hk_q0 : sh_k q0 = 20) {x1 : Int32} {x2 : Int32} {μ : MM} {r : Int32} {μr : MM} (h : f_Mo_whatOf N q0 x1 x2 μ = some (r, μr)) : Cl D mX12_whatOf [av_r q0, av_i x1, av_i x2] μ (po_i r μr) := by
  refine Cl_of pn_X12 (Nat.le_of_ble_eq_true rfl) ?_
  show Sm D mX12_whatOf 0 [some (av_r q0), some (av_i x1), some (av_i x2)] [] μ (po_i r μr)
  unfold f_Mo_whatOf at h
  refine sm_aload_n dX12_whatOf_0 rfl rfl ?_
  refine sm_bipush dX12_whatOf_1 bp_20 ?_
  refine sm_iload_n dX12_whatOf_3 rfl rfl ?_
  refine sm_imul dX12_whatOf_4 ?_
  refine sm_iconst dX12_whatOf_5 ic_3 ?_
  refine sm_iadd dX12_whatOf_6 ?_
  refine sm_iconst dX12_whatOf_7 ic_3 ?_
  refine sm_iload_n dX12_whatOf_8 rfl rfl ?_
  refine sm_imul dX12_whatOf_9 ?_
  refine sm_iadd dX12_whatOf_10 ?_
  obtain ⟨g1, h⟩ := gd_some h
  refine sm_iald (j := (Int32.toNatClampNeg (((20 * x1) + 3) + (3 * x2)))) dX12_whatOf_11 hk_q0 (in_sz rfl g1) rfl ?_
  cases h
  exact sm_ret_i (st := []) dX12_whatOf_12 rfl ⟨rfl, rfl⟩
set_option maxRecDepth 100000 in
set_option maxHeartbeats 4000000 in
theorem s_Mo_inkOf {D : Nat} (hD : 0 ≤ D) (N : Nat) {q0 : Nat} (hk_q0 : sh_k q0 = 20) {x1 : Int32} {x2 : Int32} {μ : MM} {r : Int32} {μr : MM} (h : f_Mo_inkOf N q0 x1 x2 μ = some (r, μr)) : Cl D mX12_inkOf [av_r q0, av_i x1, av_i x2] μ (po_i r μr) := by
  refine Cl_of pn_X12 (Nat.le_of_ble_eq_true rfl) ?_
  show Sm D mX12_inkOf 0 [some (av_r q0), some (av_i x1), some (av_i x2)] [] μ (po_i r μr)
  unfold f_Mo_inkOf at h
  refine sm_aload_n dX12_inkOf_0 rfl rfl ?_
  refine sm_bipush dX12_inkOf_1 bp_20 ?_
  refine sm_iload_n dX12_inkOf_3 rfl rfl ?_
  refine sm_imul dX12_inkOf_4 ?_
  refine sm_iconst dX12_inkOf_5 ic_4 ?_
  refine sm_iadd dX12_inkOf_6 ?_
  refine sm_iconst dX12_inkOf_7 ic_3 ?_
  refine sm_iload_n dX12_inkOf_8 rfl rfl ?_
  refine sm_imul dX12_inkOf_9 ?_
  refine sm_iadd dX12_inkOf_10 ?_
  obtain ⟨g1, h⟩ := gd_some h
  refine sm_iald (j := (Int32.toNatClampNeg (((20 * x1) + 4) + (3 * x2)))) dX12_inkOf_11 hk_q0 (in_sz rfl g1) rfl ?_
  cases h
  exact sm_ret_i (st := []) dX12_inkOf_12 rfl ⟨rfl, rfl⟩
set_option maxRecDepth 100000 in
set_option maxHeartbeats 4000000 in
theorem s_Mo_marks {D : Nat} (hD : 0 ≤ D) (N : Nat) {x1 : Int32} {μ : MM} {r : Int32} {μr : MM} (h : f_Mo_marks N x1 μ = some (r, μr)) : Cl D mX12_marks [av_r 355, av_i x1] μ (po_i r μr) := by
  refine Cl_of pn_X12 (Nat.le_of_ble_eq_true rfl) ?_
  show Sm D mX12_marks 0 [some (av_r 355), some (av_i x1)] [] μ (po_i r μr)
  unfold f_Mo_marks at h
  refine sm_aload_n dX12_marks_0 rfl rfl ?_
  refine sm_getR dX12_marks_1 fg_RX12_43 k_355 (rf_12_20 k_355) ?_
  refine sm_iconst dX12_marks_4 ic_2 ?_
  refine sm_iload_n dX12_marks_5 rfl rfl ?_
  refine sm_imul dX12_marks_6 ?_
  refine sm_iconst dX12_marks_7 ic_1 ?_
  refine sm_iadd dX12_marks_8 ?_
  obtain ⟨g1, h⟩ := gd_some h
  refine sm_iald (j := (Int32.toNatClampNeg ((2 * x1) + 1))) dX12_marks_9 k_362 (in_sz n_362 g1) rfl ?_
  cases h
  exact sm_ret_i (st := []) dX12_marks_10 rfl ⟨rfl, rfl⟩
set_option maxRecDepth 100000 in
set_option maxHeartbeats 4000000 in
theorem s_Mo_isTrue_B43 {D : Nat} (hD : 1 ≤ D) (N : Nat) {q1 : Nat} (hk_q1 : sh_k q1 = 20) {r : Int32} {μr : MM} (s0 : Int32) (s1 : Int32) (μ : MM) (h : f_Mo_isTrue_B43 N q1 s0 s1 μ = some (r, μr)) : Sm D mX12_isTrue 43 [none, none, none, none, none, none] [av_i s1, av_i s0] μ (po_i r μr) := by
  obtain ⟨d, rfl⟩ : ∃ d, D = d + 1 := ⟨D - 1, by omega⟩
  unfold f_Mo_isTrue_B43 at h
  have hj43 : ∀ (v43_0 : Int32), v43_0 = (if s0 = s1 then (1 : Int32) else 0) → Sm (d + 1) mX12_isTrue 51 [none, none, none, none, none, none] [av_i v43_0] μ (po_i r μr) := by
    intro v43_0 ev43_0
    subst ev43_0
    obtain ⟨g17, h⟩ := gd_some h
    cases h
    exact sm_ret_z (st := []) dX12_isTrue_51 rfl (zb_nar g17) ⟨rfl, rfl⟩
  refine sm_icmp_ne (tgt := 50) dX12_isTrue_43 (by decide) (fun c43_0 => ?_) (fun c43_0 => ?_)
  · refine sm_iconst dX12_isTrue_50 ic_0 ?_
    exact Sm_weak (le_n (le_n (le_n (le_n (le_n (le_n le_0)))))) (hj43 _ (if_neg c43_0).symm)
  · refine sm_iconst dX12_isTrue_46 ic_1 ?_
    refine sm_goto (tgt := 51) dX12_isTrue_47 (by decide) ?_
    exact Sm_weak (le_n (le_n (le_n (le_n (le_n (le_n le_0)))))) (hj43 _ (if_pos c43_0).symm)
set_option maxRecDepth 100000 in
set_option maxHeartbeats 4000000 in
theorem s_Mo_isTrue {D : Nat} (hD : 1 ≤ D) (N : Nat) {q1 : Nat} (hk_q1 : sh_k q1 = 20) {x2 : Int32} {x3 : Int32} {x4 : Int32} {μ : MM} {r : Int32} {μr : MM} (h : f_Mo_isTrue N q1 x2 x3 x4 μ = some (r, μr)) : Cl D mX12_isTrue [av_r 355, av_r q1, av_i x2, av_i x3, av_i x4] μ (po_i r μr) := by
  obtain ⟨d, rfl⟩ : ∃ d, D = d + 1 := ⟨D - 1, by omega⟩
  refine Cl_of pn_X12 (Nat.le_of_ble_eq_true rfl) ?_
  show Sm (d + 1) mX12_isTrue 0 [some (av_r 355), some (av_r q1), some (av_i x2), some (av_i x3), some (av_i x4), none] [] μ (po_i r μr)
  unfold f_Mo_isTrue at h
  refine sm_aload_n dX12_isTrue_0 rfl rfl ?_
  refine sm_iload_n dX12_isTrue_1 rfl rfl ?_
  refine sm_iload_n dX12_isTrue_2 rfl rfl ?_
  obtain ⟨t3, μ1z, g1, h⟩ := ob_some h
  refine sm_callS dX12_isTrue_3 cs_X12_whatOf ml_RX12_313 (as := [av_r q1, av_i x2, av_i x3]) rfl (Nat.le_of_ble_eq_true rfl) rfl (s_Mo_whatOf (D := d) (by omega) N hk_q1 g1) (fun r9 μ9 hp => ?_)
  rw [hp.1, hp.2]
  clear hp r9 μ9
  refine sm_istore dX12_isTrue_6 (Nat.le_of_ble_eq_true rfl) (pv_i rfl) ?_
  refine sm_aload_n dX12_isTrue_8 rfl rfl ?_
  refine sm_iload_n dX12_isTrue_9 rfl rfl ?_
  refine sm_iload_n dX12_isTrue_10 rfl rfl ?_
  obtain ⟨t11, μ2z, g2, h⟩ := ob_some h
  refine sm_callS dX12_isTrue_11 cs_X12_sortOf ml_RX12_317 (as := [av_r q1, av_i x2, av_i x3]) rfl (Nat.le_of_ble_eq_true rfl) rfl (s_Mo_sortOf (D := d) (by omega) N hk_q1 g2) (fun r9 μ9 hp => ?_)
  rw [hp.1, hp.2]
  clear hp r9 μ9
  refine sm_iconst dX12_isTrue_14 ic_2 ?_
  refine sm_icmp_ge (tgt := 52) dX12_isTrue_15 (by decide) (fun g3 => ?_) (fun g3 => ?_)
  · replace h := it_t g3 h
    refine sm_iload dX12_isTrue_52 rfl ?_
    refine sm_iload_n dX12_isTrue_54 rfl rfl ?_
    refine sm_icmp_ne (tgt := 73) dX12_isTrue_55 (by decide) (fun g4 => ?_) (fun g4 => ?_)
    · replace h := it_f g4 h
      refine sm_iload dX12_isTrue_73 rfl ?_
      refine sm_aload_n dX12_isTrue_75 rfl rfl ?_
      refine sm_getI dX12_isTrue_76 fg_RX12_297 k_355 ?_
      refine sm_icmp_ge (tgt := 93) dX12_isTrue_79 (by decide) (fun g5 => ?_) (fun g5 => ?_)
      · replace h := it_t g5 h
        refine sm_iconst dX12_isTrue_93 ic_0 ?_
        cases h
        exact sm_ret_z (st := []) dX12_isTrue_94 rfl rfl ⟨rfl, rfl⟩
      · replace h := it_f g5 h
        refine sm_aload_n dX12_isTrue_82 rfl rfl ?_
        refine sm_bipush dX12_isTrue_83 bp_20 ?_
        refine sm_iload dX12_isTrue_85 rfl ?_
        refine sm_imul dX12_isTrue_87 ?_
        obtain ⟨g6, h⟩ := gd_some h
        refine sm_iald (j := (Int32.toNatClampNeg (20 * t3))) dX12_isTrue_88 hk_q1 (in_sz rfl g6) rfl ?_
        refine sm_iconst dX12_isTrue_89 ic_m1 ?_
        refine sm_icmp_ne (tgt := 95) dX12_isTrue_90 (by decide) (fun g7 => ?_) (fun g7 => ?_)
        · replace h := it_f g7 h
          refine sm_aload_n dX12_isTrue_95 rfl rfl ?_
          refine sm_iload dX12_isTrue_96 rfl ?_
          obtain ⟨t98, μ3z, g8, h⟩ := ob_some h
          refine sm_callV dX12_isTrue_98 cv_X12_marks ml_RX12_320 k_355 rfl rfl (by decide) (as := [av_i x4]) rfl (Nat.le_of_ble_eq_true rfl) rfl (s_Mo_marks (D := d) (by omega) N g8) (fun r9 μ9 hp => ?_)
          rw [hp.1, hp.2]
          clear hp r9 μ9
          refine sm_aload_n dX12_isTrue_101 rfl rfl ?_
          refine sm_aload_n dX12_isTrue_102 rfl rfl ?_
          refine sm_bipush dX12_isTrue_103 bp_20 ?_
          refine sm_iload dX12_isTrue_105 rfl ?_
          refine sm_imul dX12_isTrue_107 ?_
          obtain ⟨g9, h⟩ := gd_some h
          refine sm_iald (j := (Int32.toNatClampNeg (20 * t3))) dX12_isTrue_108 hk_q1 (in_sz rfl g9) rfl ?_
          obtain ⟨t109, μ4z, g10, h⟩ := ob_some h
          refine sm_callV dX12_isTrue_109 cv_X12_marks ml_RX12_320 k_355 rfl rfl (by decide) (as := [av_i (μ3z.1 q1 (Int32.toNatClampNeg (20 * t3)))]) rfl (Nat.le_of_ble_eq_true rfl) rfl (s_Mo_marks (D := d) (by omega) N g10) (fun r9 μ9 hp => ?_)
          rw [hp.1, hp.2]
          clear hp r9 μ9
          refine sm_iand dX12_isTrue_112 ?_
          have hj113 : ∀ (v113_0 : Int32), v113_0 = (if (t98 &&& t109) = 0 then (0 : Int32) else 1) → Sm (d + 1) mX12_isTrue 121 [none, none, none, none, none, none] [av_i v113_0] μ4z (po_i r μr) := by
            intro v113_0 ev113_0
            subst ev113_0
            obtain ⟨g11, h⟩ := gd_some h
            cases h
            exact sm_ret_z (st := []) dX12_isTrue_121 rfl (zb_nar g11) ⟨rfl, rfl⟩
          refine sm_if_eq (tgt := 120) dX12_isTrue_113 (by decide) (fun c113_0 => ?_) (fun c113_0 => ?_)
          · refine sm_iconst dX12_isTrue_120 ic_0 ?_
            exact Sm_weak (le_n (le_n (le_n (le_n (le_n (le_n le_0)))))) (hj113 _ (if_pos c113_0).symm)
          · refine sm_iconst dX12_isTrue_116 ic_1 ?_
            refine sm_goto (tgt := 121) dX12_isTrue_117 (by decide) ?_
            exact Sm_weak (le_n (le_n (le_n (le_n (le_n (le_n le_0)))))) (hj113 _ (if_neg c113_0).symm)
        · replace h := it_t g7 h
          refine sm_iconst dX12_isTrue_93 ic_0 ?_
          cases h
          exact sm_ret_z (st := []) dX12_isTrue_94 rfl rfl ⟨rfl, rfl⟩
    · replace h := it_t g4 h
      refine sm_aload_n dX12_isTrue_58 rfl rfl ?_
      refine sm_iload dX12_isTrue_59 rfl ?_
      obtain ⟨t61, μ5z, g12, h⟩ := ob_some h
      refine sm_callV dX12_isTrue_61 cv_X12_marks ml_RX12_320 k_355 rfl rfl (by decide) (as := [av_i x4]) rfl (Nat.le_of_ble_eq_true rfl) rfl (s_Mo_marks (D := d) (by omega) N g12) (fun r9 μ9 hp => ?_)
      rw [hp.1, hp.2]
      clear hp r9 μ9
      have hj64 : ∀ (v64_0 : Int32), v64_0 = (if t61 = 0 then (0 : Int32) else 1) → Sm (d + 1) mX12_isTrue 72 [none, none, none, none, none, none] [av_i v64_0] μ5z (po_i r μr) := by
        intro v64_0 ev64_0
        subst ev64_0
        obtain ⟨g13, h⟩ := gd_some h
        cases h
        exact sm_ret_z (st := []) dX12_isTrue_72 rfl (zb_nar g13) ⟨rfl, rfl⟩
      refine sm_if_eq (tgt := 71) dX12_isTrue_64 (by decide) (fun c64_0 => ?_) (fun c64_0 => ?_)
      · refine sm_iconst dX12_isTrue_71 ic_0 ?_
        exact Sm_weak (le_n (le_n (le_n (le_n (le_n (le_n le_0)))))) (hj64 _ (if_pos c64_0).symm)
      · refine sm_iconst dX12_isTrue_67 ic_1 ?_
        refine sm_goto (tgt := 72) dX12_isTrue_68 (by decide) ?_
        exact Sm_weak (le_n (le_n (le_n (le_n (le_n (le_n le_0)))))) (hj64 _ (if_neg c64_0).symm)
  · replace h := it_f g3 h
    refine sm_aload_n dX12_isTrue_18 rfl rfl ?_
    refine sm_iload dX12_isTrue_19 rfl ?_
    obtain ⟨t21, μ6z, g14, h⟩ := ob_some h
    refine sm_callV dX12_isTrue_21 cv_X12_marks ml_RX12_320 k_355 rfl rfl (by decide) (as := [av_i x4]) rfl (Nat.le_of_ble_eq_true rfl) rfl (s_Mo_marks (D := d) (by omega) N g14) (fun r9 μ9 hp => ?_)
    rw [hp.1, hp.2]
    clear hp r9 μ9
    refine sm_iload dX12_isTrue_24 rfl ?_
    obtain ⟨t26, μ7z, g15, h⟩ := ob_some h
    refine sm_callS dX12_isTrue_26 cs_X12_has ml_RX12_224 (as := [av_i t21, av_i t3]) rfl (Nat.le_of_ble_eq_true rfl) rfl (s_Mo_has (D := d) (by omega) N g15) (fun r9 μ9 hp => ?_)
    rw [hp.1, hp.2]
    clear hp r9 μ9
    refine sm_aload_n dX12_isTrue_29 rfl rfl ?_
    refine sm_iload_n dX12_isTrue_30 rfl rfl ?_
    refine sm_iload_n dX12_isTrue_31 rfl rfl ?_
    obtain ⟨t32, μ8z, g16, h⟩ := ob_some h
    refine sm_callS dX12_isTrue_32 cs_X12_sortOf ml_RX12_317 (as := [av_r q1, av_i x2, av_i x3]) rfl (Nat.le_of_ble_eq_true rfl) rfl (s_Mo_sortOf (D := d) (by omega) N hk_q1 g16) (fun r9 μ9 hp => ?_)
    rw [hp.1, hp.2]
    clear hp r9 μ9
    have hj35 : ∀ (v35_0 : Int32), v35_0 = (if t32 = 0 then (1 : Int32) else 0) → Sm (d + 1) mX12_isTrue 43 [none, none, none, none, none, none] [av_i v35_0, av_i t26] μ8z (po_i r μr) := by
      intro v35_0 ev35_0
      subst ev35_0
      exact Sm_weak (le_n (le_n (le_n (le_n (le_n (le_n le_0)))))) (s_Mo_isTrue_B43 hD N hk_q1 t26 (if t32 = 0 then (1 : Int32) else 0) μ8z h)
    refine sm_if_ne (tgt := 42) dX12_isTrue_35 (by decide) (fun c35_0 => ?_) (fun c35_0 => ?_)
    · refine sm_iconst dX12_isTrue_42 ic_0 ?_
      exact Sm_weak (le_n (le_n (le_n (le_n (le_n (le_n le_0)))))) (hj35 _ (if_neg c35_0).symm)
    · refine sm_iconst dX12_isTrue_38 ic_1 ?_
      refine sm_goto (tgt := 43) dX12_isTrue_39 (by decide) ?_
      exact Sm_weak (le_n (le_n (le_n (le_n (le_n (le_n le_0)))))) (hj35 _ (if_pos c35_0).symm)
set_option maxRecDepth 100000 in
set_option maxHeartbeats 4000000 in
theorem s_Mo_fitsIn_L3 {D : Nat} (hD : 2 ≤ D) (N : Nat) {q1 : Nat} (hk_q1 : sh_k q1 = 20) {r : Int32} {μr : MM} : ∀ (n : Nat) (x2 : Int32) (x3 : Int32) (x4 : Int32) (μ : MM), f_Mo_fitsIn_L3 N q1 n x2 x3 x4 μ = some (r, μr) → Sm D mX12_fitsIn 3 [some (av_r 355), some (av_r q1), some (av_i x2), some (av_i x3), some (av_i x4)] [] μ (po_i r μr) := by
  obtain ⟨d, rfl⟩ : ∃ d, D = d + 1 := ⟨D - 1, by omega⟩
  intro n
  induction n with
  | zero => intro x2 x3 x4 μ h; cases (show none = some (r, μr) from h)
  | succ n ih =>
    intro x2 x3 x4 μ h
    rw [f_Mo_fitsIn_L3] at h
    refine sm_iload dX12_fitsIn_3 rfl ?_
    refine sm_aload_n dX12_fitsIn_5 rfl rfl ?_
    refine sm_iload_n dX12_fitsIn_6 rfl rfl ?_
    obtain ⟨t7, μ1z, g1, h⟩ := ob_some h
    refine sm_callS dX12_fitsIn_7 cs_X12_wordsOf ml_RX12_323 (as := [av_r q1, av_i x2]) rfl (Nat.le_of_ble_eq_true rfl) rfl (s_Mo_wordsOf (D := d) (by omega) N hk_q1 g1) (fun r9 μ9 hp => ?_)
    rw [hp.1, hp.2]
    clear hp r9 μ9
    refine sm_icmp_ge (tgt := 43) dX12_fitsIn_10 (by decide) (fun g2 => ?_) (fun g2 => ?_)
    · replace h := it_t g2 h
      refine sm_iconst dX12_fitsIn_43 ic_1 ?_
      cases h
      exact sm_ret_z (st := []) dX12_fitsIn_44 rfl rfl ⟨rfl, rfl⟩
    · replace h := it_f g2 h
      refine sm_aload_n dX12_fitsIn_13 rfl rfl ?_
      refine sm_iload_n dX12_fitsIn_14 rfl rfl ?_
      refine sm_iload dX12_fitsIn_15 rfl ?_
      obtain ⟨t17, μ2z, g3, h⟩ := ob_some h
      refine sm_callS dX12_fitsIn_17 cs_X12_inkOf ml_RX12_327 (as := [av_r q1, av_i x2, av_i x4]) rfl (Nat.le_of_ble_eq_true rfl) rfl (s_Mo_inkOf (D := d) (by omega) N hk_q1 g3) (fun r9 μ9 hp => ?_)
      rw [hp.1, hp.2]
      clear hp r9 μ9
      refine sm_if_le (tgt := 37) dX12_fitsIn_20 (by decide) (fun g4 => ?_) (fun g4 => ?_)
      · replace h := it_t g4 h
        refine sm_iinc dX12_fitsIn_37 rfl (congrArg (HAdd.hAdd x4) ic_1) (Nat.le_of_ble_eq_true rfl) (pv_i rfl) ?_
        refine sm_goto (tgt := 3) dX12_fitsIn_40 (by decide) ?_
        exact Sm_weak (le_s rfl (le_s rfl (le_s rfl (le_s rfl (le_s rfl le_0))))) (ih x2 x3 (x4 + 1) μ2z h)
      · replace h := it_f g4 h
        refine sm_aload_n dX12_fitsIn_23 rfl rfl ?_
        refine sm_aload_n dX12_fitsIn_24 rfl rfl ?_
        refine sm_iload_n dX12_fitsIn_25 rfl rfl ?_
        refine sm_iload dX12_fitsIn_26 rfl ?_
        refine sm_iload_n dX12_fitsIn_28 rfl rfl ?_
        obtain ⟨t29, μ3z, g5, h⟩ := ob_some h
        refine sm_callV dX12_fitsIn_29 cv_X12_isTrue ml_RX12_330 k_355 rfl rfl (by decide) (as := [av_r q1, av_i x2, av_i x4, av_i x3]) rfl (Nat.le_of_ble_eq_true rfl) rfl (s_Mo_isTrue (D := d) (by omega) N hk_q1 g5) (fun r9 μ9 hp => ?_)
        rw [hp.1, hp.2]
        clear hp r9 μ9
        refine sm_if_ne (tgt := 37) dX12_fitsIn_32 (by decide) (fun g6 => ?_) (fun g6 => ?_)
        · replace h := it_f g6 h
          refine sm_iinc dX12_fitsIn_37 rfl (congrArg (HAdd.hAdd x4) ic_1) (Nat.le_of_ble_eq_true rfl) (pv_i rfl) ?_
          refine sm_goto (tgt := 3) dX12_fitsIn_40 (by decide) ?_
          exact Sm_weak (le_s rfl (le_s rfl (le_s rfl (le_s rfl (le_s rfl le_0))))) (ih x2 x3 (x4 + 1) μ3z h)
        · replace h := it_t g6 h
          refine sm_iconst dX12_fitsIn_35 ic_0 ?_
          cases h
          exact sm_ret_z (st := []) dX12_fitsIn_36 rfl rfl ⟨rfl, rfl⟩
set_option maxRecDepth 100000 in
set_option maxHeartbeats 4000000 in
theorem s_Mo_fitsIn {D : Nat} (hD : 2 ≤ D) (N : Nat) {q1 : Nat} (hk_q1 : sh_k q1 = 20) {x2 : Int32} {x3 : Int32} {μ : MM} {r : Int32} {μr : MM} (h : f_Mo_fitsIn N q1 x2 x3 μ = some (r, μr)) : Cl D mX12_fitsIn [av_r 355, av_r q1, av_i x2, av_i x3] μ (po_i r μr) := by
  obtain ⟨d, rfl⟩ : ∃ d, D = d + 1 := ⟨D - 1, by omega⟩
  refine Cl_of pn_X12 (Nat.le_of_ble_eq_true rfl) ?_
  show Sm (d + 1) mX12_fitsIn 0 [some (av_r 355), some (av_r q1), some (av_i x2), some (av_i x3), none] [] μ (po_i r μr)
  unfold f_Mo_fitsIn at h
  refine sm_iconst dX12_fitsIn_0 ic_0 ?_
  refine sm_istore dX12_fitsIn_1 (Nat.le_of_ble_eq_true rfl) (pv_i rfl) ?_
  exact Sm_weak (le_s rfl (le_s rfl (le_s rfl (le_s rfl (le_s rfl le_0))))) (s_Mo_fitsIn_L3 hD N hk_q1 N x2 x3 0 μ h)
set_option maxRecDepth 100000 in
set_option maxHeartbeats 4000000 in
theorem s_Mo_isRight {D : Nat} (hD : 3 ≤ D) (N : Nat) {q1 : Nat} (hk_q1 : sh_k q1 = 20) {x2 : Int32} {μ : MM} {r : Int32} {μr : MM} (h : f_Mo_isRight N q1 x2 μ = some (r, μr)) : Cl D mX12_isRight [av_r 355, av_r q1, av_i x2] μ (po_i r μr) := by
  obtain ⟨d, rfl⟩ : ∃ d, D = d + 1 := ⟨D - 1, by omega⟩
  refine Cl_of pn_X12 (Nat.le_of_ble_eq_true rfl) ?_
  show Sm (d + 1) mX12_isRight 0 [some (av_r 355), some (av_r q1), some (av_i x2)] [] μ (po_i r μr)
  unfold f_Mo_isRight at h
  refine sm_aload_n dX12_isRight_0 rfl rfl ?_
  refine sm_bipush dX12_isRight_1 bp_20 ?_
  refine sm_iload_n dX12_isRight_3 rfl rfl ?_
  refine sm_imul dX12_isRight_4 ?_
  obtain ⟨g1, h⟩ := gd_some h
  refine sm_iald (j := (Int32.toNatClampNeg (20 * x2))) dX12_isRight_5 hk_q1 (in_sz rfl g1) rfl ?_
  refine sm_iconst dX12_isRight_6 ic_m1 ?_
  refine sm_icmp_eq (tgt := 29) dX12_isRight_7 (by decide) (fun g2 => ?_) (fun g2 => ?_)
  · replace h := it_t g2 h
    refine sm_iconst dX12_isRight_29 ic_0 ?_
    cases h
    exact sm_ret_z (st := []) dX12_isRight_30 rfl rfl ⟨rfl, rfl⟩
  · replace h := it_f g2 h
    refine sm_aload_n dX12_isRight_10 rfl rfl ?_
    refine sm_aload_n dX12_isRight_11 rfl rfl ?_
    refine sm_iload_n dX12_isRight_12 rfl rfl ?_
    refine sm_aload_n dX12_isRight_13 rfl rfl ?_
    refine sm_bipush dX12_isRight_14 bp_20 ?_
    refine sm_iload_n dX12_isRight_16 rfl rfl ?_
    refine sm_imul dX12_isRight_17 ?_
    obtain ⟨g3, h⟩ := gd_some h
    refine sm_iald (j := (Int32.toNatClampNeg (20 * x2))) dX12_isRight_18 hk_q1 (in_sz rfl g3) rfl ?_
    obtain ⟨t19, μ1z, g4, h⟩ := ob_some h
    refine sm_callV dX12_isRight_19 cv_X12_fitsIn ml_RX12_334 k_355 rfl rfl (by decide) (as := [av_r q1, av_i x2, av_i (μ.1 q1 (Int32.toNatClampNeg (20 * x2)))]) rfl (Nat.le_of_ble_eq_true rfl) rfl (s_Mo_fitsIn (D := d) (by omega) N hk_q1 g4) (fun r9 μ9 hp => ?_)
    rw [hp.1, hp.2]
    clear hp r9 μ9
    refine sm_if_eq (tgt := 29) dX12_isRight_22 (by decide) (fun g5 => ?_) (fun g5 => ?_)
    · replace h := it_t g5 h
      refine sm_iconst dX12_isRight_29 ic_0 ?_
      cases h
      exact sm_ret_z (st := []) dX12_isRight_30 rfl rfl ⟨rfl, rfl⟩
    · replace h := it_f g5 h
      refine sm_iconst dX12_isRight_25 ic_1 ?_
      refine sm_goto (tgt := 30) dX12_isRight_26 (by decide) ?_
      cases h
      exact sm_ret_z (st := []) dX12_isRight_30 rfl rfl ⟨rfl, rfl⟩
set_option maxRecDepth 100000 in
set_option maxHeartbeats 4000000 in
theorem s_Mo_cardOver_L2 {D : Nat} (hD : 0 ≤ D) (N : Nat) {q1 : Nat} (hk_q1 : sh_k q1 = 20) {r : Int32} {μr : MM} : ∀ (n : Nat) (x2 : Int32) (x3 : Int32) (μ : MM), f_Mo_cardOver_L2 N q1 n x2 x3 μ = some (r, μr) → Sm D mX12_cardOver 2 [some (av_r 355), some (av_r q1), some (av_i x2), some (av_i x3)] [] μ (po_i r μr) := by
  intro n
  induction n with
  | zero => intro x2 x3 μ h; cases (show none = some (r, μr) from h)
  | succ n ih =>
    intro x2 x3 μ h
    rw [f_Mo_cardOver_L2] at h
    refine sm_iload_n dX12_cardOver_2 rfl rfl ?_
    refine sm_aload_n dX12_cardOver_3 rfl rfl ?_
    refine sm_getI dX12_cardOver_4 fg_RX12_297 k_355 ?_
    refine sm_icmp_ge (tgt := 28) dX12_cardOver_7 (by decide) (fun g1 => ?_) (fun g1 => ?_)
    · replace h := it_t g1 h
      refine sm_iconst dX12_cardOver_28 ic_m1 ?_
      cases h
      exact sm_ret_i (st := []) dX12_cardOver_29 rfl ⟨rfl, rfl⟩
    · replace h := it_f g1 h
      refine sm_aload_n dX12_cardOver_10 rfl rfl ?_
      refine sm_bipush dX12_cardOver_11 bp_20 ?_
      refine sm_iload_n dX12_cardOver_13 rfl rfl ?_
      refine sm_imul dX12_cardOver_14 ?_
      obtain ⟨g2, h⟩ := gd_some h
      refine sm_iald (j := (Int32.toNatClampNeg (20 * x3))) dX12_cardOver_15 hk_q1 (in_sz rfl g2) rfl ?_
      refine sm_iload_n dX12_cardOver_16 rfl rfl ?_
      refine sm_icmp_ne (tgt := 22) dX12_cardOver_17 (by decide) (fun g3 => ?_) (fun g3 => ?_)
      · replace h := it_f g3 h
        refine sm_iinc dX12_cardOver_22 rfl (congrArg (HAdd.hAdd x3) ic_1) (Nat.le_of_ble_eq_true rfl) (pv_i rfl) ?_
        refine sm_goto (tgt := 2) dX12_cardOver_25 (by decide) ?_
        exact Sm_weak (le_s rfl (le_s rfl (le_s rfl (le_s rfl le_0)))) (ih x2 (x3 + 1) μ h)
      · replace h := it_t g3 h
        refine sm_iload_n dX12_cardOver_20 rfl rfl ?_
        cases h
        exact sm_ret_i (st := []) dX12_cardOver_21 rfl ⟨rfl, rfl⟩
set_option maxRecDepth 100000 in
set_option maxHeartbeats 4000000 in
theorem s_Mo_cardOver {D : Nat} (hD : 0 ≤ D) (N : Nat) {q1 : Nat} (hk_q1 : sh_k q1 = 20) {x2 : Int32} {μ : MM} {r : Int32} {μr : MM} (h : f_Mo_cardOver N q1 x2 μ = some (r, μr)) : Cl D mX12_cardOver [av_r 355, av_r q1, av_i x2] μ (po_i r μr) := by
  refine Cl_of pn_X12 (Nat.le_of_ble_eq_true rfl) ?_
  show Sm D mX12_cardOver 0 [some (av_r 355), some (av_r q1), some (av_i x2), none] [] μ (po_i r μr)
  unfold f_Mo_cardOver at h
  refine sm_iconst dX12_cardOver_0 ic_0 ?_
  refine sm_istore_n dX12_cardOver_1 rfl (Nat.le_of_ble_eq_true rfl) (pv_i rfl) ?_
  exact Sm_weak (le_s rfl (le_s rfl (le_s rfl (le_s rfl le_0)))) (s_Mo_cardOver_L2 hD N hk_q1 N x2 0 μ h)
set_option maxRecDepth 100000 in
set_option maxHeartbeats 4000000 in
theorem s_Mo_fadeOf {D : Nat} (hD : 90 ≤ D) (N : Nat) {q1 : Nat} (hk_q1 : sh_k q1 = 20) {x2 : Int32} {x3 : Int32} {μ : MM} {r : Int32} {μr : MM} (h : f_Mo_fadeOf N q1 x2 x3 μ = some (r, μr)) : Cl D mX12_fadeOf [av_r 355, av_r q1, av_i x2, av_i x3] μ (po_i r μr) := by
  obtain ⟨d, rfl⟩ : ∃ d, D = d + 1 := ⟨D - 1, by omega⟩
  refine Cl_of pn_X12 (Nat.le_of_ble_eq_true rfl) ?_
  show Sm (d + 1) mX12_fadeOf 0 [some (av_r 355), some (av_r q1), some (av_i x2), some (av_i x3), none] [] μ (po_i r μr)
  unfold f_Mo_fadeOf at h
  refine sm_aload_n dX12_fadeOf_0 rfl rfl ?_
  refine sm_getR dX12_fadeOf_1 fg_RX12_52 k_355 (rf_12_23 k_355) ?_
  refine sm_bipush dX12_fadeOf_4 bp_16 ?_
  refine sm_iload_n dX12_fadeOf_6 rfl rfl ?_
  refine sm_imul dX12_fadeOf_7 ?_
  refine sm_iconst dX12_fadeOf_8 ic_1 ?_
  refine sm_iadd dX12_fadeOf_9 ?_
  obtain ⟨g1, h⟩ := gd_some h
  refine sm_iald (j := (Int32.toNatClampNeg ((16 * x2) + 1))) dX12_fadeOf_10 k_365 (in_sz n_365 g1) rfl ?_
  refine sm_istore dX12_fadeOf_11 (Nat.le_of_ble_eq_true rfl) (pv_i rfl) ?_
  refine sm_aload_n dX12_fadeOf_13 rfl rfl ?_
  refine sm_getI dX12_fadeOf_14 fg_RX12_67 k_355 ?_
  refine sm_iconst dX12_fadeOf_17 ic_m1 ?_
  refine sm_icmp_ne (tgt := 35) dX12_fadeOf_18 (by decide) (fun g2 => ?_) (fun g2 => ?_)
  · replace h := it_f g2 h
    refine sm_aload_n dX12_fadeOf_35 rfl rfl ?_
    refine sm_getR dX12_fadeOf_36 fg_RX12_20 k_355 (rf_12_4 k_355) ?_
    refine sm_bipush dX12_fadeOf_39 bp_105 ?_
    refine sm_aload_n dX12_fadeOf_41 rfl rfl ?_
    refine sm_iload_n dX12_fadeOf_42 rfl rfl ?_
    refine sm_iload_n dX12_fadeOf_43 rfl rfl ?_
    obtain ⟨t44, μ1z, g3, h⟩ := ob_some h
    refine sm_callS dX12_fadeOf_44 cs_X12_inkOf ml_RX12_327 (as := [av_r q1, av_i x2, av_i x3]) rfl (Nat.le_of_ble_eq_true rfl) rfl (s_Mo_inkOf (D := d) (by omega) N hk_q1 g3) (fun r9 μ9 hp => ?_)
    rw [hp.1, hp.2]
    clear hp r9 μ9
    refine sm_iast (j := 105) dX12_fadeOf_47 k_359 (in_sz n_359 (by decide)) (by decide) ?_
    replace h := wr_some h
    refine sm_aload_n dX12_fadeOf_48 rfl rfl ?_
    refine sm_getR dX12_fadeOf_49 fg_RX12_20 k_355 (rf_12_4 k_355) ?_
    refine sm_bipush dX12_fadeOf_52 bp_102 ?_
    refine sm_iload dX12_fadeOf_54 rfl ?_
    refine sm_iast (j := 102) dX12_fadeOf_56 k_359 (in_sz n_359 (by decide)) (by decide) ?_
    replace h := wr_some h
    refine sm_aload_n dX12_fadeOf_57 rfl rfl ?_
    refine sm_getR dX12_fadeOf_58 fg_RX12_20 k_355 (rf_12_4 k_355) ?_
    refine sm_bipush dX12_fadeOf_61 bp_108 ?_
    refine sm_aload_n dX12_fadeOf_63 rfl rfl ?_
    refine sm_bipush dX12_fadeOf_64 bp_120 ?_
    obtain ⟨g6, h⟩ := gd_some h
    refine sm_iald (j := 120) dX12_fadeOf_66 hk_q1 (in_sz rfl g6) (by decide) ?_
    refine sm_iast (j := 108) dX12_fadeOf_67 k_359 (in_sz n_359 (by decide)) (by decide) ?_
    replace h := wr_some h
    refine sm_aload_n dX12_fadeOf_68 rfl rfl ?_
    refine sm_getR dX12_fadeOf_69 fg_RX12_20 k_355 (rf_12_4 k_355) ?_
    refine sm_bipush dX12_fadeOf_72 bp_112 ?_
    refine sm_iload_n dX12_fadeOf_74 rfl rfl ?_
    refine sm_iast (j := 112) dX12_fadeOf_75 k_359 (in_sz n_359 (by decide)) (by decide) ?_
    replace h := wr_some h
    refine sm_aload_n dX12_fadeOf_76 rfl rfl ?_
    refine sm_getR dX12_fadeOf_77 fg_RX12_20 k_355 (rf_12_4 k_355) ?_
    refine sm_bipush dX12_fadeOf_80 bp_107 ?_
    refine sm_aload_n dX12_fadeOf_82 rfl rfl ?_
    refine sm_iload_n dX12_fadeOf_83 rfl rfl ?_
    refine sm_iload_n dX12_fadeOf_84 rfl rfl ?_
    obtain ⟨t85, μ6z, g9, h⟩ := ob_some h
    refine sm_callS dX12_fadeOf_85 cs_X12_sortOf ml_RX12_317 (as := [av_r q1, av_i x2, av_i x3]) rfl (Nat.le_of_ble_eq_true rfl) rfl (s_Mo_sortOf (D := d) (by omega) N hk_q1 g9) (fun r9 μ9 hp => ?_)
    rw [hp.1, hp.2]
    clear hp r9 μ9
    refine sm_iast (j := 107) dX12_fadeOf_88 k_359 (in_sz n_359 (by decide)) (by decide) ?_
    replace h := wr_some h
    refine sm_aload_n dX12_fadeOf_89 rfl rfl ?_
    refine sm_getR dX12_fadeOf_90 fg_RX12_20 k_355 (rf_12_4 k_355) ?_
    refine sm_bipush dX12_fadeOf_93 bp_100 ?_
    refine sm_aload_n dX12_fadeOf_95 rfl rfl ?_
    refine sm_bipush dX12_fadeOf_96 bp_122 ?_
    obtain ⟨g11, h⟩ := gd_some h
    refine sm_iald (j := 122) dX12_fadeOf_98 hk_q1 (in_sz rfl g11) (by decide) ?_
    refine sm_iast (j := 100) dX12_fadeOf_99 k_359 (in_sz n_359 (by decide)) (by decide) ?_
    replace h := wr_some h
    refine sm_aload_n dX12_fadeOf_100 rfl rfl ?_
    refine sm_aload_n dX12_fadeOf_101 rfl rfl ?_
    refine sm_getR dX12_fadeOf_102 fg_RX12_13 k_355 (rf_12_2 k_355) ?_
    refine sm_sipush dX12_fadeOf_105 sp_240 ?_
    refine sm_aload_n dX12_fadeOf_108 rfl rfl ?_
    refine sm_getI dX12_fadeOf_109 fg_RX12_67 k_355 ?_
    refine sm_imul dX12_fadeOf_112 ?_
    refine sm_aload_n dX12_fadeOf_113 rfl rfl ?_
    refine sm_getR dX12_fadeOf_114 fg_RX12_16 k_355 (rf_12_3 k_355) ?_
    refine sm_aload_n dX12_fadeOf_117 rfl rfl ?_
    refine sm_getI dX12_fadeOf_118 fg_RX12_67 k_355 ?_
    obtain ⟨g13, h⟩ := gd_some h
    refine sm_iald (j := (Int32.toNatClampNeg ((mm_I (mm_I μ6z 359 107 t85) 359 100 ((mm_I μ6z 359 107 t85).1 q1 122)).1 355 34))) dX12_fadeOf_121 k_358 (in_sz n_358 g13) rfl ?_
    obtain ⟨μ9z, g14, h⟩ := obv_some h
    refine sm_callV dX12_fadeOf_122 cv_X12_goThrough ml_RX12_283 k_355 rfl rfl (by decide) (as := [av_r 357, av_i (240 * ((mm_I (mm_I μ6z 359 107 t85) 359 100 ((mm_I μ6z 359 107 t85).1 q1 122)).1 355 34)), av_i ((mm_I (mm_I μ6z 359 107 t85) 359 100 ((mm_I μ6z 359 107 t85).1 q1 122)).1 358 (Int32.toNatClampNeg ((mm_I (mm_I μ6z 359 107 t85) 359 100 ((mm_I μ6z 359 107 t85).1 q1 122)).1 355 34)))]) rfl (Nat.le_of_ble_eq_true rfl) rfl (s_Mo_goThrough (D := d) (by omega) N k_357 g14) (fun r9 μ9 hp => ?_)
    rw [hp.1, hp.2]
    clear hp r9 μ9
    refine sm_iconst dX12_fadeOf_125 ic_0 ?_
    refine sm_bipush dX12_fadeOf_126 bp_9 ?_
    refine sm_aload_n dX12_fadeOf_128 rfl rfl ?_
    refine sm_getI dX12_fadeOf_129 fg_RX12_199 k_355 ?_
    refine sm_min dX12_fadeOf_132 ml_RX12_338 (Nat.le_of_ble_eq_true rfl) ?_
    refine sm_max dX12_fadeOf_135 ml_RX12_340 (Nat.le_of_ble_eq_true rfl) ?_
    cases h
    exact sm_ret_i (st := []) dX12_fadeOf_138 rfl ⟨rfl, rfl⟩
  · replace h := it_t g2 h
    refine sm_aload_n dX12_fadeOf_21 rfl rfl ?_
    refine sm_bipush dX12_fadeOf_22 bp_120 ?_
    obtain ⟨g15, h⟩ := gd_some h
    refine sm_iald (j := 120) dX12_fadeOf_24 hk_q1 (in_sz rfl g15) (by decide) ?_
    have hj25 : ∀ (v25_0 : Int32), v25_0 = (if (μ.1 q1 120) = 0 then (0 : Int32) else (μ.1 365 (Int32.toNatClampNeg ((16 * x2) + 1)))) → Sm (d + 1) mX12_fadeOf 34 [none, none, none, none, none] [av_i v25_0] μ (po_i r μr) := by
      intro v25_0 ev25_0
      subst ev25_0
      cases h
      exact sm_ret_i (st := []) dX12_fadeOf_34 rfl ⟨rfl, rfl⟩
    refine sm_if_ne (tgt := 32) dX12_fadeOf_25 (by decide) (fun c25_0 => ?_) (fun c25_0 => ?_)
    · refine sm_iload dX12_fadeOf_32 rfl ?_
      exact Sm_weak (le_n (le_n (le_n (le_n (le_n le_0))))) (hj25 _ (if_neg c25_0).symm)
    · refine sm_iconst dX12_fadeOf_28 ic_0 ?_
      refine sm_goto (tgt := 34) dX12_fadeOf_29 (by decide) ?_
      exact Sm_weak (le_n (le_n (le_n (le_n (le_n le_0))))) (hj25 _ (if_pos c25_0).symm)
set_option maxRecDepth 100000 in
set_option maxHeartbeats 4000000 in
theorem s_Mo_fades_L15 {D : Nat} (hD : 91 ≤ D) (N : Nat) {q1 : Nat} (hk_q1 : sh_k q1 = 20) {r : Int32} {μr : MM} {k4 : Int32 → Int32 → MM → Option (Int32 × MM)} (hk4 : ∀ (x2 : Int32) (x3 : Int32) (μ : MM), k4 x2 x3 μ = some (r, μr) → Sm D mX12_fades 4 [some (av_r 355), some (av_r q1), some (av_i x2), some (av_i x3), none, none, none] [] μ (po_i r μr)) : ∀ (n : Nat) (x2 : Int32) (x3 : Int32) (x4 : Int32) (μ : MM), f_Mo_fades_L15 N q1 k4 n x2 x3 x4 μ = some (r, μr) → Sm D mX12_fades 15 [some (av_r 355), some (av_r q1), some (av_i x2), some (av_i x3), some (av_i x4), none, none] [] μ (po_i r μr) := by
  obtain ⟨d, rfl⟩ : ∃ d, D = d + 1 := ⟨D - 1, by omega⟩
  intro n
  induction n with
  | zero => intro x2 x3 x4 μ h; cases (show none = some (r, μr) from h)
  | succ n ih =>
    intro x2 x3 x4 μ h
    rw [f_Mo_fades_L15] at h
    refine sm_iload dX12_fades_15 rfl ?_
    refine sm_aload_n dX12_fades_17 rfl rfl ?_
    refine sm_iload_n dX12_fades_18 rfl rfl ?_
    obtain ⟨t19, μ1z, g2, h⟩ := ob_some h
    refine sm_callS dX12_fades_19 cs_X12_wordsOf ml_RX12_323 (as := [av_r q1, av_i x3]) rfl (Nat.le_of_ble_eq_true rfl) rfl (s_Mo_wordsOf (D := d) (by omega) N hk_q1 g2) (fun r9 μ9 hp => ?_)
    rw [hp.1, hp.2]
    clear hp r9 μ9
    refine sm_icmp_ge (tgt := 93) dX12_fades_22 (by decide) (fun g3 => ?_) (fun g3 => ?_)
    · replace h := it_t g3 h
      refine sm_iinc dX12_fades_93 rfl (congrArg (HAdd.hAdd x3) ic_1) (Nat.le_of_ble_eq_true rfl) (pv_i rfl) ?_
      refine sm_goto (tgt := 4) dX12_fades_96 (by decide) ?_
      exact Sm_weak (le_s rfl (le_s rfl (le_s rfl (le_s rfl (le_n (le_n (le_n le_0))))))) (hk4 x2 (x3 + 1) μ1z h)
    · replace h := it_f g3 h
      refine sm_aload_n dX12_fades_25 rfl rfl ?_
      refine sm_iload_n dX12_fades_26 rfl rfl ?_
      refine sm_iload dX12_fades_27 rfl ?_
      obtain ⟨t29, μ2z, g4, h⟩ := ob_some h
      refine sm_callS dX12_fades_29 cs_X12_inkOf ml_RX12_327 (as := [av_r q1, av_i x3, av_i x4]) rfl (Nat.le_of_ble_eq_true rfl) rfl (s_Mo_inkOf (D := d) (by omega) N hk_q1 g4) (fun r9 μ9 hp => ?_)
      rw [hp.1, hp.2]
      clear hp r9 μ9
      refine sm_istore dX12_fades_32 (Nat.le_of_ble_eq_true rfl) (pv_i rfl) ?_
      refine sm_iload dX12_fades_34 rfl ?_
      refine sm_if_ne (tgt := 42) dX12_fades_36 (by decide) (fun g5 => ?_) (fun g5 => ?_)
      · replace h := it_f g5 h
        refine sm_iconst dX12_fades_42 ic_0 ?_
        refine sm_iload dX12_fades_43 rfl ?_
        refine sm_aload_n dX12_fades_45 rfl rfl ?_
        refine sm_aload_n dX12_fades_46 rfl rfl ?_
        refine sm_iload_n dX12_fades_47 rfl rfl ?_
        refine sm_iload dX12_fades_48 rfl ?_
        obtain ⟨t50, μ3z, g6, h⟩ := ob_some h
        refine sm_callV dX12_fades_50 cv_X12_fadeOf ml_RX12_342 k_355 rfl rfl (by decide) (as := [av_r q1, av_i x3, av_i x4]) rfl (Nat.le_of_ble_eq_true rfl) rfl (s_Mo_fadeOf (D := d) (by omega) N hk_q1 g6) (fun r9 μ9 hp => ?_)
        rw [hp.1, hp.2]
        clear hp r9 μ9
        refine sm_isub dX12_fades_53 ?_
        refine sm_max dX12_fades_54 ml_RX12_340 (Nat.le_of_ble_eq_true rfl) ?_
        refine sm_istore dX12_fades_57 (Nat.le_of_ble_eq_true rfl) (pv_i rfl) ?_
        refine sm_aload_n dX12_fades_59 rfl rfl ?_
        refine sm_bipush dX12_fades_60 bp_20 ?_
        refine sm_iload_n dX12_fades_62 rfl rfl ?_
        refine sm_imul dX12_fades_63 ?_
        refine sm_iconst dX12_fades_64 ic_4 ?_
        refine sm_iadd dX12_fades_65 ?_
        refine sm_iconst dX12_fades_66 ic_3 ?_
        refine sm_iload dX12_fades_67 rfl ?_
        refine sm_imul dX12_fades_69 ?_
        refine sm_iadd dX12_fades_70 ?_
        refine sm_iload dX12_fades_71 rfl ?_
        obtain ⟨g7, h⟩ := gd_some h
        refine sm_iast (j := (Int32.toNatClampNeg (((20 * x3) + 4) + (3 * x4)))) dX12_fades_73 hk_q1 (in_sz rfl g7) rfl ?_
        replace h := wr_some h
        refine sm_iload_n dX12_fades_74 rfl rfl ?_
        refine sm_iload dX12_fades_75 rfl ?_
        have hj77 : ∀ (v77_0 : Int32), v77_0 = (if (if (0 : Int32) < (t29 - t50) then (t29 - t50) else (0 : Int32)) = 0 then (1 : Int32) else 0) → Sm (d + 1) mX12_fades 85 [some (av_r 355), some (av_r q1), none, some (av_i x3), some (av_i x4), none, none] [av_i v77_0, av_i x2] (mm_I μ3z q1 (Int32.toNatClampNeg (((20 * x3) + 4) + (3 * x4))) (if (0 : Int32) < (t29 - t50) then (t29 - t50) else (0 : Int32))) (po_i r μr) := by
          intro v77_0 ev77_0
          subst ev77_0
          refine sm_iadd dX12_fades_85 ?_
          refine sm_istore_n dX12_fades_86 rfl (Nat.le_of_ble_eq_true rfl) (pv_r rfl) ?_
          refine sm_iinc dX12_fades_87 rfl (congrArg (HAdd.hAdd x4) ic_1) (Nat.le_of_ble_eq_true rfl) (pv_i rfl) ?_
          refine sm_goto (tgt := 15) dX12_fades_90 (by decide) ?_
          exact Sm_weak (le_s rfl (le_s rfl (le_s rfl (le_s rfl (le_s rfl (le_n (le_n le_0))))))) (ih (x2 + (if (if (0 : Int32) < (t29 - t50) then (t29 - t50) else (0 : Int32)) = 0 then (1 : Int32) else 0)) x3 (x4 + 1) (mm_I μ3z q1 (Int32.toNatClampNeg (((20 * x3) + 4) + (3 * x4))) (if (0 : Int32) < (t29 - t50) then (t29 - t50) else (0 : Int32))) h)
        refine sm_if_ne (tgt := 84) dX12_fades_77 (by decide) (fun c77_0 => ?_) (fun c77_0 => ?_)
        · refine sm_iconst dX12_fades_84 ic_0 ?_
          exact Sm_weak (le_s rfl (le_s rfl (le_n (le_s rfl (le_s rfl (le_n (le_n le_0))))))) (hj77 _ (if_neg c77_0).symm)
        · refine sm_iconst dX12_fades_80 ic_1 ?_
          refine sm_goto (tgt := 85) dX12_fades_81 (by decide) ?_
          exact Sm_weak (le_s rfl (le_s rfl (le_n (le_s rfl (le_s rfl (le_n (le_n le_0))))))) (hj77 _ (if_pos c77_0).symm)
      · replace h := it_t g5 h
        refine sm_goto (tgt := 87) dX12_fades_39 (by decide) ?_
        refine sm_iinc dX12_fades_87 rfl (congrArg (HAdd.hAdd x4) ic_1) (Nat.le_of_ble_eq_true rfl) (pv_i rfl) ?_
        refine sm_goto (tgt := 15) dX12_fades_90 (by decide) ?_
        exact Sm_weak (le_s rfl (le_s rfl (le_s rfl (le_s rfl (le_s rfl (le_n (le_n le_0))))))) (ih x2 x3 (x4 + 1) μ2z h)
set_option maxRecDepth 100000 in
set_option maxHeartbeats 4000000 in
theorem s_Mo_fades_L4 {D : Nat} (hD : 91 ≤ D) (N : Nat) {q1 : Nat} (hk_q1 : sh_k q1 = 20) {r : Int32} {μr : MM} : ∀ (n : Nat) (x2 : Int32) (x3 : Int32) (μ : MM), f_Mo_fades_L4 N q1 n x2 x3 μ = some (r, μr) → Sm D mX12_fades 4 [some (av_r 355), some (av_r q1), some (av_i x2), some (av_i x3), none, none, none] [] μ (po_i r μr) := by
  obtain ⟨d, rfl⟩ : ∃ d, D = d + 1 := ⟨D - 1, by omega⟩
  intro n
  induction n with
  | zero => intro x2 x3 μ h; cases (show none = some (r, μr) from h)
  | succ n ih =>
    intro x2 x3 μ h
    rw [f_Mo_fades_L4] at h
    refine sm_iload_n dX12_fades_4 rfl rfl ?_
    refine sm_aload_n dX12_fades_5 rfl rfl ?_
    refine sm_getI dX12_fades_6 fg_RX12_297 k_355 ?_
    refine sm_icmp_ge (tgt := 99) dX12_fades_9 (by decide) (fun g1 => ?_) (fun g1 => ?_)
    · replace h := it_t g1 h
      refine sm_iload_n dX12_fades_99 rfl rfl ?_
      cases h
      exact sm_ret_i (st := []) dX12_fades_100 rfl ⟨rfl, rfl⟩
    · replace h := it_f g1 h
      refine sm_iconst dX12_fades_12 ic_0 ?_
      refine sm_istore dX12_fades_13 (Nat.le_of_ble_eq_true rfl) (pv_i rfl) ?_
      exact Sm_weak (le_s rfl (le_s rfl (le_s rfl (le_s rfl (le_s rfl (le_n (le_n le_0))))))) (s_Mo_fades_L15 hD N hk_q1 ih N x2 x3 0 μ h)
set_option maxRecDepth 100000 in
set_option maxHeartbeats 4000000 in
theorem s_Mo_fades {D : Nat} (hD : 91 ≤ D) (N : Nat) {q1 : Nat} (hk_q1 : sh_k q1 = 20) {μ : MM} {r : Int32} {μr : MM} (h : f_Mo_fades N q1 μ = some (r, μr)) : Cl D mX12_fades [av_r 355, av_r q1] μ (po_i r μr) := by
  obtain ⟨d, rfl⟩ : ∃ d, D = d + 1 := ⟨D - 1, by omega⟩
  refine Cl_of pn_X12 (Nat.le_of_ble_eq_true rfl) ?_
  show Sm (d + 1) mX12_fades 0 [some (av_r 355), some (av_r q1), none, none, none, none, none] [] μ (po_i r μr)
  unfold f_Mo_fades at h
  refine sm_iconst dX12_fades_0 ic_0 ?_
  refine sm_istore_n dX12_fades_1 rfl (Nat.le_of_ble_eq_true rfl) (pv_r rfl) ?_
  refine sm_iconst dX12_fades_2 ic_0 ?_
  refine sm_istore_n dX12_fades_3 rfl (Nat.le_of_ble_eq_true rfl) (pv_i rfl) ?_
  exact Sm_weak (le_s rfl (le_s rfl (le_s rfl (le_s rfl (le_n (le_n (le_n le_0))))))) (s_Mo_fades_L4 hD N hk_q1 N 0 0 μ h)
set_option maxRecDepth 100000 in
set_option maxHeartbeats 4000000 in
theorem s_Mo_isChanged_L5 {D : Nat} (hD : 3 ≤ D) (N : Nat) {q1 : Nat} (hk_q1 : sh_k q1 = 20) {r : Int32} {μr : MM} : ∀ (n : Nat) (x2 : Int32) (x3 : Int32) (x4 : Int32) (μ : MM), f_Mo_isChanged_L5 N q1 n x2 x3 x4 μ = some (r, μr) → Sm D mX12_isChanged 5 [some (av_r 355), some (av_r q1), some (av_i x2), some (av_i x3), some (av_i x4)] [] μ (po_i r μr) := by
  obtain ⟨d, rfl⟩ : ∃ d, D = d + 1 := ⟨D - 1, by omega⟩
  intro n
  induction n with
  | zero => intro x2 x3 x4 μ h; cases (show none = some (r, μr) from h)
  | succ n ih =>
    intro x2 x3 x4 μ h
    rw [f_Mo_isChanged_L5] at h
    refine sm_iload dX12_isChanged_5 rfl ?_
    refine sm_aload_n dX12_isChanged_7 rfl rfl ?_
    refine sm_getI dX12_isChanged_8 fg_RX12_294 k_355 ?_
    refine sm_icmp_ge (tgt := 89) dX12_isChanged_11 (by decide) (fun g1 => ?_) (fun g1 => ?_)
    · replace h := it_t g1 h
      refine sm_iload_n dX12_isChanged_89 rfl rfl ?_
      refine sm_iconst dX12_isChanged_90 ic_m1 ?_
      refine sm_icmp_ne (tgt := 96) dX12_isChanged_91 (by decide) (fun g2 => ?_) (fun g2 => ?_)
      · replace h := it_f g2 h
        refine sm_aload_n dX12_isChanged_96 rfl rfl ?_
        refine sm_bipush dX12_isChanged_97 bp_20 ?_
        refine sm_iload_n dX12_isChanged_99 rfl rfl ?_
        refine sm_imul dX12_isChanged_100 ?_
        refine sm_iload_n dX12_isChanged_101 rfl rfl ?_
        obtain ⟨g3, h⟩ := gd_some h
        refine sm_iast (j := (Int32.toNatClampNeg (20 * x2))) dX12_isChanged_102 hk_q1 (in_sz rfl g3) rfl ?_
        replace h := wr_some h
        refine sm_aload_n dX12_isChanged_103 rfl rfl ?_
        refine sm_bipush dX12_isChanged_104 bp_121 ?_
        refine sm_dup2 dX12_isChanged_106 rfl rfl ?_
        obtain ⟨g4, h⟩ := gd_some h
        refine sm_iald (j := 121) dX12_isChanged_107 hk_q1 (in_sz rfl g4) (by decide) ?_
        refine sm_aload_n dX12_isChanged_108 rfl rfl ?_
        refine sm_getR dX12_isChanged_109 fg_RX12_43 k_355 (rf_12_20 k_355) ?_
        refine sm_iconst dX12_isChanged_112 ic_2 ?_
        refine sm_iload_n dX12_isChanged_113 rfl rfl ?_
        refine sm_imul dX12_isChanged_114 ?_
        obtain ⟨g5, h⟩ := gd_some h
        refine sm_iald (j := (Int32.toNatClampNeg (2 * x3))) dX12_isChanged_115 k_362 (in_sz n_362 g5) rfl ?_
        refine sm_isub dX12_isChanged_116 ?_
        obtain ⟨g6, h⟩ := gd_some h
        refine sm_iast (j := 121) dX12_isChanged_117 hk_q1 (in_sz rfl g6) (by decide) ?_
        replace h := wr_some h
        refine sm_iconst dX12_isChanged_118 ic_1 ?_
        cases h
        exact sm_ret_z (st := []) dX12_isChanged_119 rfl rfl ⟨rfl, rfl⟩
      · replace h := it_t g2 h
        refine sm_iconst dX12_isChanged_94 ic_0 ?_
        cases h
        exact sm_ret_z (st := []) dX12_isChanged_95 rfl rfl ⟨rfl, rfl⟩
    · replace h := it_f g1 h
      refine sm_aload_n dX12_isChanged_14 rfl rfl ?_
      refine sm_aload_n dX12_isChanged_15 rfl rfl ?_
      refine sm_iload dX12_isChanged_16 rfl ?_
      obtain ⟨t18, μ3z, g7, h⟩ := ob_some h
      refine sm_callV dX12_isChanged_18 cv_X12_cardOver ml_RX12_345 k_355 rfl rfl (by decide) (as := [av_r q1, av_i x4]) rfl (Nat.le_of_ble_eq_true rfl) rfl (s_Mo_cardOver (D := d) (by omega) N hk_q1 g7) (fun r9 μ9 hp => ?_)
      rw [hp.1, hp.2]
      clear hp r9 μ9
      refine sm_iconst dX12_isChanged_21 ic_m1 ?_
      refine sm_icmp_ne (tgt := 83) dX12_isChanged_22 (by decide) (fun g8 => ?_) (fun g8 => ?_)
      · replace h := it_f g8 h
        refine sm_iinc dX12_isChanged_83 rfl (congrArg (HAdd.hAdd x4) ic_1) (Nat.le_of_ble_eq_true rfl) (pv_i rfl) ?_
        refine sm_goto (tgt := 5) dX12_isChanged_86 (by decide) ?_
        exact Sm_weak (le_s rfl (le_s rfl (le_s rfl (le_s rfl (le_s rfl le_0))))) (ih x2 x3 (x4 + 1) μ3z h)
      · replace h := it_t g8 h
        refine sm_aload_n dX12_isChanged_25 rfl rfl ?_
        refine sm_getR dX12_isChanged_26 fg_RX12_43 k_355 (rf_12_20 k_355) ?_
        refine sm_iconst dX12_isChanged_29 ic_2 ?_
        refine sm_iload dX12_isChanged_30 rfl ?_
        refine sm_imul dX12_isChanged_32 ?_
        obtain ⟨g9, h⟩ := gd_some h
        refine sm_iald (j := (Int32.toNatClampNeg (2 * x4))) dX12_isChanged_33 k_362 (in_sz n_362 g9) rfl ?_
        refine sm_aload_n dX12_isChanged_34 rfl rfl ?_
        refine sm_bipush dX12_isChanged_35 bp_121 ?_
        obtain ⟨g10, h⟩ := gd_some h
        refine sm_iald (j := 121) dX12_isChanged_37 hk_q1 (in_sz rfl g10) (by decide) ?_
        refine sm_icmp_gt (tgt := 83) dX12_isChanged_38 (by decide) (fun g11 => ?_) (fun g11 => ?_)
        · replace h := it_t g11 h
          refine sm_iinc dX12_isChanged_83 rfl (congrArg (HAdd.hAdd x4) ic_1) (Nat.le_of_ble_eq_true rfl) (pv_i rfl) ?_
          refine sm_goto (tgt := 5) dX12_isChanged_86 (by decide) ?_
          exact Sm_weak (le_s rfl (le_s rfl (le_s rfl (le_s rfl (le_s rfl le_0))))) (ih x2 x3 (x4 + 1) μ3z h)
        · replace h := it_f g11 h
          refine sm_aload_n dX12_isChanged_41 rfl rfl ?_
          refine sm_aload_n dX12_isChanged_42 rfl rfl ?_
          refine sm_iload_n dX12_isChanged_43 rfl rfl ?_
          refine sm_iload dX12_isChanged_44 rfl ?_
          obtain ⟨t46, μ4z, g12, h⟩ := ob_some h
          refine sm_callV dX12_isChanged_46 cv_X12_fitsIn ml_RX12_334 k_355 rfl rfl (by decide) (as := [av_r q1, av_i x2, av_i x4]) rfl (Nat.le_of_ble_eq_true rfl) rfl (s_Mo_fitsIn (D := d) (by omega) N hk_q1 g12) (fun r9 μ9 hp => ?_)
          rw [hp.1, hp.2]
          clear hp r9 μ9
          refine sm_if_ne (tgt := 55) dX12_isChanged_49 (by decide) (fun g13 => ?_) (fun g13 => ?_)
          · replace h := it_f g13 h
            refine sm_iload_n dX12_isChanged_55 rfl rfl ?_
            refine sm_iconst dX12_isChanged_56 ic_m1 ?_
            refine sm_icmp_eq (tgt := 80) dX12_isChanged_57 (by decide) (fun g14 => ?_) (fun g14 => ?_)
            · replace h := it_t g14 h
              refine sm_iload dX12_isChanged_80 rfl ?_
              refine sm_istore_n dX12_isChanged_82 rfl (Nat.le_of_ble_eq_true rfl) (pv_i rfl) ?_
              refine sm_iinc dX12_isChanged_83 rfl (congrArg (HAdd.hAdd x4) ic_1) (Nat.le_of_ble_eq_true rfl) (pv_i rfl) ?_
              refine sm_goto (tgt := 5) dX12_isChanged_86 (by decide) ?_
              exact Sm_weak (le_s rfl (le_s rfl (le_s rfl (le_s rfl (le_s rfl le_0))))) (ih x2 x4 (x4 + 1) μ4z h)
            · replace h := it_f g14 h
              refine sm_aload_n dX12_isChanged_60 rfl rfl ?_
              refine sm_getR dX12_isChanged_61 fg_RX12_43 k_355 (rf_12_20 k_355) ?_
              refine sm_iconst dX12_isChanged_64 ic_2 ?_
              refine sm_iload dX12_isChanged_65 rfl ?_
              refine sm_imul dX12_isChanged_67 ?_
              obtain ⟨g15, h⟩ := gd_some h
              refine sm_iald (j := (Int32.toNatClampNeg (2 * x4))) dX12_isChanged_68 k_362 (in_sz n_362 g15) rfl ?_
              refine sm_aload_n dX12_isChanged_69 rfl rfl ?_
              refine sm_getR dX12_isChanged_70 fg_RX12_43 k_355 (rf_12_20 k_355) ?_
              refine sm_iconst dX12_isChanged_73 ic_2 ?_
              refine sm_iload_n dX12_isChanged_74 rfl rfl ?_
              refine sm_imul dX12_isChanged_75 ?_
              obtain ⟨g16, h⟩ := gd_some h
              refine sm_iald (j := (Int32.toNatClampNeg (2 * x3))) dX12_isChanged_76 k_362 (in_sz n_362 g16) rfl ?_
              refine sm_icmp_ge (tgt := 83) dX12_isChanged_77 (by decide) (fun g17 => ?_) (fun g17 => ?_)
              · replace h := it_t g17 h
                refine sm_iinc dX12_isChanged_83 rfl (congrArg (HAdd.hAdd x4) ic_1) (Nat.le_of_ble_eq_true rfl) (pv_i rfl) ?_
                refine sm_goto (tgt := 5) dX12_isChanged_86 (by decide) ?_
                exact Sm_weak (le_s rfl (le_s rfl (le_s rfl (le_s rfl (le_s rfl le_0))))) (ih x2 x3 (x4 + 1) μ4z h)
              · replace h := it_f g17 h
                refine sm_iload dX12_isChanged_80 rfl ?_
                refine sm_istore_n dX12_isChanged_82 rfl (Nat.le_of_ble_eq_true rfl) (pv_i rfl) ?_
                refine sm_iinc dX12_isChanged_83 rfl (congrArg (HAdd.hAdd x4) ic_1) (Nat.le_of_ble_eq_true rfl) (pv_i rfl) ?_
                refine sm_goto (tgt := 5) dX12_isChanged_86 (by decide) ?_
                exact Sm_weak (le_s rfl (le_s rfl (le_s rfl (le_s rfl (le_s rfl le_0))))) (ih x2 x4 (x4 + 1) μ4z h)
          · replace h := it_t g13 h
            refine sm_goto (tgt := 83) dX12_isChanged_52 (by decide) ?_
            refine sm_iinc dX12_isChanged_83 rfl (congrArg (HAdd.hAdd x4) ic_1) (Nat.le_of_ble_eq_true rfl) (pv_i rfl) ?_
            refine sm_goto (tgt := 5) dX12_isChanged_86 (by decide) ?_
            exact Sm_weak (le_s rfl (le_s rfl (le_s rfl (le_s rfl (le_s rfl le_0))))) (ih x2 x3 (x4 + 1) μ4z h)
set_option maxRecDepth 100000 in
set_option maxHeartbeats 4000000 in
theorem s_Mo_isChanged {D : Nat} (hD : 3 ≤ D) (N : Nat) {q1 : Nat} (hk_q1 : sh_k q1 = 20) {x2 : Int32} {μ : MM} {r : Int32} {μr : MM} (h : f_Mo_isChanged N q1 x2 μ = some (r, μr)) : Cl D mX12_isChanged [av_r 355, av_r q1, av_i x2] μ (po_i r μr) := by
  obtain ⟨d, rfl⟩ : ∃ d, D = d + 1 := ⟨D - 1, by omega⟩
  refine Cl_of pn_X12 (Nat.le_of_ble_eq_true rfl) ?_
  show Sm (d + 1) mX12_isChanged 0 [some (av_r 355), some (av_r q1), some (av_i x2), none, none] [] μ (po_i r μr)
  unfold f_Mo_isChanged at h
  refine sm_iconst dX12_isChanged_0 ic_m1 ?_
  refine sm_istore_n dX12_isChanged_1 rfl (Nat.le_of_ble_eq_true rfl) (pv_i rfl) ?_
  refine sm_iconst dX12_isChanged_2 ic_0 ?_
  refine sm_istore dX12_isChanged_3 (Nat.le_of_ble_eq_true rfl) (pv_i rfl) ?_
  exact Sm_weak (le_s rfl (le_s rfl (le_s rfl (le_s rfl (le_s rfl le_0))))) (s_Mo_isChanged_L5 hD N hk_q1 N x2 (-1) 0 μ h)
set_option maxRecDepth 100000 in
set_option maxHeartbeats 4000000 in
theorem s_Mo_goDay_B153 {D : Nat} (hD : 92 ≤ D) (N : Nat) {q1 : Nat} (hk_q1 : sh_k q1 = 20) {μr : MM} (x2 : Int32) (x3 : Int32) (x4 : Int32) (μ : MM) (h : f_Mo_goDay_B153 N q1 x2 x3 x4 μ = some μr) : Sm D mX12_goDay 153 [none, some (av_r q1), some (av_i x2), some (av_i x3), some (av_i x4), none] [] μ (po_v μr) := by
  obtain ⟨d, rfl⟩ : ∃ d, D = d + 1 := ⟨D - 1, by omega⟩
  unfold f_Mo_goDay_B153 at h
  refine sm_bipush dX12_goDay_153 bp_124 ?_
  refine sm_iconst dX12_goDay_155 ic_3 ?_
  refine sm_aload_n dX12_goDay_156 rfl rfl ?_
  refine sm_bipush dX12_goDay_157 bp_123 ?_
  obtain ⟨g8, h⟩ := gd_some h
  refine sm_iald (j := 123) dX12_goDay_159 hk_q1 (in_sz rfl g8) (by decide) ?_
  refine sm_imul dX12_goDay_160 ?_
  refine sm_iadd dX12_goDay_161 ?_
  refine sm_istore dX12_goDay_162 (Nat.le_of_ble_eq_true rfl) (pv_i rfl) ?_
  refine sm_aload_n dX12_goDay_164 rfl rfl ?_
  refine sm_iload dX12_goDay_165 rfl ?_
  refine sm_iload_n dX12_goDay_167 rfl rfl ?_
  obtain ⟨g9, h⟩ := gd_some h
  refine sm_iast (j := (Int32.toNatClampNeg (124 + (3 * (μ.1 q1 123))))) dX12_goDay_168 hk_q1 (in_sz rfl g9) rfl ?_
  replace h := wr_some h
  refine sm_aload_n dX12_goDay_169 rfl rfl ?_
  refine sm_iload dX12_goDay_170 rfl ?_
  refine sm_iconst dX12_goDay_172 ic_1 ?_
  refine sm_iadd dX12_goDay_173 ?_
  refine sm_iload dX12_goDay_174 rfl ?_
  obtain ⟨g10, h⟩ := gd_some h
  refine sm_iast (j := (Int32.toNatClampNeg ((124 + (3 * (μ.1 q1 123))) + 1))) dX12_goDay_176 hk_q1 (in_sz rfl g10) rfl ?_
  replace h := wr_some h
  refine sm_aload_n dX12_goDay_177 rfl rfl ?_
  refine sm_iload dX12_goDay_178 rfl ?_
  refine sm_iconst dX12_goDay_180 ic_2 ?_
  refine sm_iadd dX12_goDay_181 ?_
  refine sm_iload_n dX12_goDay_182 rfl rfl ?_
  obtain ⟨g11, h⟩ := gd_some h
  refine sm_iast (j := (Int32.toNatClampNeg ((124 + (3 * (μ.1 q1 123))) + 2))) dX12_goDay_183 hk_q1 (in_sz rfl g11) rfl ?_
  replace h := wr_some h
  refine sm_aload_n dX12_goDay_184 rfl rfl ?_
  refine sm_bipush dX12_goDay_185 bp_123 ?_
  refine sm_dup2 dX12_goDay_187 rfl rfl ?_
  obtain ⟨g12, h⟩ := gd_some h
  refine sm_iald (j := 123) dX12_goDay_188 hk_q1 (in_sz rfl g12) (by decide) ?_
  refine sm_iconst dX12_goDay_189 ic_1 ?_
  refine sm_iadd dX12_goDay_190 ?_
  obtain ⟨g13, h⟩ := gd_some h
  refine sm_iast (j := 123) dX12_goDay_191 hk_q1 (in_sz rfl g13) (by decide) ?_
  replace h := wr_some h
  cases h
  exact sm_ret_v (st := []) dX12_goDay_192 rfl ⟨rfl, rfl⟩
set_option maxRecDepth 100000 in
set_option maxHeartbeats 4000000 in
theorem s_Mo_goDay_L115 {D : Nat} (hD : 92 ≤ D) (N : Nat) {q1 : Nat} (hk_q1 : sh_k q1 = 20) {μr : MM} : ∀ (n : Nat) (x2 : Int32) (x3 : Int32) (x4 : Int32) (x5 : Int32) (μ : MM), f_Mo_goDay_L115 N q1 n x2 x3 x4 x5 μ = some μr → Sm D mX12_goDay 115 [none, some (av_r q1), some (av_i x2), some (av_i x3), some (av_i x4), some (av_i x5)] [] μ (po_v μr) := by
  obtain ⟨d, rfl⟩ : ∃ d, D = d + 1 := ⟨D - 1, by omega⟩
  intro n
  induction n with
  | zero => intro x2 x3 x4 x5 μ h; cases (show none = some μr from h)
  | succ n ih =>
    intro x2 x3 x4 x5 μ h
    rw [f_Mo_goDay_L115] at h
    refine sm_iload dX12_goDay_115 rfl ?_
    refine sm_sipush dX12_goDay_117 sp_177 ?_
    refine sm_icmp_gt (tgt := 145) dX12_goDay_120 (by decide) (fun g14 => ?_) (fun g14 => ?_)
    · replace h := it_t g14 h
      refine sm_aload_n dX12_goDay_145 rfl rfl ?_
      refine sm_bipush dX12_goDay_146 bp_123 ?_
      refine sm_dup2 dX12_goDay_148 rfl rfl ?_
      obtain ⟨g15, h⟩ := gd_some h
      refine sm_iald (j := 123) dX12_goDay_149 hk_q1 (in_sz rfl g15) (by decide) ?_
      refine sm_iconst dX12_goDay_150 ic_1 ?_
      refine sm_isub dX12_goDay_151 ?_
      obtain ⟨g16, h⟩ := gd_some h
      refine sm_iast (j := 123) dX12_goDay_152 hk_q1 (in_sz rfl g16) (by decide) ?_
      replace h := wr_some h
      exact Sm_weak (le_n (le_s rfl (le_s rfl (le_s rfl (le_s rfl (le_n le_0)))))) (s_Mo_goDay_B153 hD N hk_q1 x2 x3 x4 (mm_I μ q1 123 ((μ.1 q1 123) - 1)) h)
    · replace h := it_f g14 h
      refine sm_aload_n dX12_goDay_123 rfl rfl ?_
      refine sm_bipush dX12_goDay_124 bp_123 ?_
      refine sm_iload dX12_goDay_126 rfl ?_
      refine sm_iadd dX12_goDay_128 ?_
      refine sm_aload_n dX12_goDay_129 rfl rfl ?_
      refine sm_bipush dX12_goDay_130 bp_123 ?_
      refine sm_iload dX12_goDay_132 rfl ?_
      refine sm_iadd dX12_goDay_134 ?_
      refine sm_iconst dX12_goDay_135 ic_3 ?_
      refine sm_iadd dX12_goDay_136 ?_
      obtain ⟨g17, h⟩ := gd_some h
      refine sm_iald (j := (Int32.toNatClampNeg ((123 + x5) + 3))) dX12_goDay_137 hk_q1 (in_sz rfl g17) rfl ?_
      obtain ⟨g18, h⟩ := gd_some h
      refine sm_iast (j := (Int32.toNatClampNeg (123 + x5))) dX12_goDay_138 hk_q1 (in_sz rfl g18) rfl ?_
      replace h := wr_some h
      refine sm_iinc dX12_goDay_139 rfl (congrArg (HAdd.hAdd x5) ic_1) (Nat.le_of_ble_eq_true rfl) (pv_i rfl) ?_
      refine sm_goto (tgt := 115) dX12_goDay_142 (by decide) ?_
      exact Sm_weak (le_n (le_s rfl (le_s rfl (le_s rfl (le_s rfl (le_s rfl le_0)))))) (ih x2 x3 x4 (x5 + 1) (mm_I μ q1 (Int32.toNatClampNeg (123 + x5)) (μ.1 q1 (Int32.toNatClampNeg ((123 + x5) + 3)))) h)
set_option maxRecDepth 100000 in
set_option maxHeartbeats 4000000 in
theorem s_Mo_goDay_L68 {D : Nat} (hD : 92 ≤ D) (N : Nat) {q1 : Nat} (hk_q1 : sh_k q1 = 20) {μr : MM} : ∀ (n : Nat) (x2 : Int32) (x3 : Int32) (x4 : Int32) (x5 : Int32) (μ : MM), f_Mo_goDay_L68 N q1 n x2 x3 x4 x5 μ = some μr → Sm D mX12_goDay 68 [some (av_r 355), some (av_r q1), some (av_i x2), some (av_i x3), some (av_i x4), some (av_i x5)] [] μ (po_v μr) := by
  obtain ⟨d, rfl⟩ : ∃ d, D = d + 1 := ⟨D - 1, by omega⟩
  intro n
  induction n with
  | zero => intro x2 x3 x4 x5 μ h; cases (show none = some μr from h)
  | succ n ih =>
    intro x2 x3 x4 x5 μ h
    rw [f_Mo_goDay_L68] at h
    refine sm_iload dX12_goDay_68 rfl ?_
    refine sm_aload_n dX12_goDay_70 rfl rfl ?_
    refine sm_getI dX12_goDay_71 fg_RX12_297 k_355 ?_
    refine sm_icmp_ge (tgt := 103) dX12_goDay_74 (by decide) (fun g5 => ?_) (fun g5 => ?_)
    · replace h := it_t g5 h
      refine sm_aload_n dX12_goDay_103 rfl rfl ?_
      refine sm_bipush dX12_goDay_104 bp_123 ?_
      obtain ⟨g6, h⟩ := gd_some h
      refine sm_iald (j := 123) dX12_goDay_106 hk_q1 (in_sz rfl g6) (by decide) ?_
      refine sm_bipush dX12_goDay_107 bp_60 ?_
      refine sm_icmp_ne (tgt := 153) dX12_goDay_109 (by decide) (fun g7 => ?_) (fun g7 => ?_)
      · replace h := it_f g7 h
        exact Sm_weak (le_n (le_s rfl (le_s rfl (le_s rfl (le_s rfl (le_n le_0)))))) (s_Mo_goDay_B153 hD N hk_q1 x2 x3 x4 μ h)
      · replace h := it_t g7 h
        refine sm_iconst dX12_goDay_112 ic_1 ?_
        refine sm_istore dX12_goDay_113 (Nat.le_of_ble_eq_true rfl) (pv_i rfl) ?_
        exact Sm_weak (le_n (le_s rfl (le_s rfl (le_s rfl (le_s rfl (le_s rfl le_0)))))) (s_Mo_goDay_L115 hD N hk_q1 N x2 x3 x4 1 μ h)
    · replace h := it_f g5 h
      refine sm_iload dX12_goDay_77 rfl ?_
      refine sm_aload_n dX12_goDay_79 rfl rfl ?_
      refine sm_aload_n dX12_goDay_80 rfl rfl ?_
      refine sm_iload dX12_goDay_81 rfl ?_
      obtain ⟨t83, μ9z, g19, h⟩ := ob_some h
      refine sm_callV dX12_goDay_83 cv_X12_isRight ml_RX12_352 k_355 rfl rfl (by decide) (as := [av_r q1, av_i x5]) rfl (Nat.le_of_ble_eq_true rfl) rfl (s_Mo_isRight (D := d) (by omega) N hk_q1 g19) (fun r9 μ9 hp => ?_)
      rw [hp.1, hp.2]
      clear hp r9 μ9
      have hj86 : ∀ (v86_0 : Int32), v86_0 = (if t83 = 0 then (1 : Int32) else 0) → Sm (d + 1) mX12_goDay 94 [some (av_r 355), some (av_r q1), some (av_i x2), some (av_i x3), none, some (av_i x5)] [av_i v86_0, av_i x4] μ9z (po_v μr) := by
        intro v86_0 ev86_0
        subst ev86_0
        refine sm_iadd dX12_goDay_94 ?_
        refine sm_istore dX12_goDay_95 (Nat.le_of_ble_eq_true rfl) (pv_i rfl) ?_
        refine sm_iinc dX12_goDay_97 rfl (congrArg (HAdd.hAdd x5) ic_1) (Nat.le_of_ble_eq_true rfl) (pv_i rfl) ?_
        refine sm_goto (tgt := 68) dX12_goDay_100 (by decide) ?_
        exact Sm_weak (le_s rfl (le_s rfl (le_s rfl (le_s rfl (le_s rfl (le_s rfl le_0)))))) (ih x2 x3 (x4 + (if t83 = 0 then (1 : Int32) else 0)) (x5 + 1) μ9z h)
      refine sm_if_eq (tgt := 93) dX12_goDay_86 (by decide) (fun c86_0 => ?_) (fun c86_0 => ?_)
      · refine sm_iconst dX12_goDay_93 ic_1 ?_
        exact Sm_weak (le_s rfl (le_s rfl (le_s rfl (le_s rfl (le_n (le_s rfl le_0)))))) (hj86 _ (if_pos c86_0).symm)
      · refine sm_iconst dX12_goDay_89 ic_0 ?_
        refine sm_goto (tgt := 94) dX12_goDay_90 (by decide) ?_
        exact Sm_weak (le_s rfl (le_s rfl (le_s rfl (le_s rfl (le_n (le_s rfl le_0)))))) (hj86 _ (if_neg c86_0).symm)
set_option maxRecDepth 100000 in
set_option maxHeartbeats 4000000 in
theorem s_Mo_goDay_L22 {D : Nat} (hD : 92 ≤ D) (N : Nat) {q1 : Nat} (hk_q1 : sh_k q1 = 20) {μr : MM} : ∀ (n : Nat) (x2 : Int32) (x3 : Int32) (x4 : Int32) (x5 : Int32) (μ : MM), f_Mo_goDay_L22 N q1 n x2 x3 x4 x5 μ = some μr → Sm D mX12_goDay 22 [some (av_r 355), some (av_r q1), some (av_i x2), some (av_i x3), some (av_i x4), some (av_i x5)] [] μ (po_v μr) := by
  obtain ⟨d, rfl⟩ : ∃ d, D = d + 1 := ⟨D - 1, by omega⟩
  intro n
  induction n with
  | zero => intro x2 x3 x4 x5 μ h; cases (show none = some μr from h)
  | succ n ih =>
    intro x2 x3 x4 x5 μ h
    rw [f_Mo_goDay_L22] at h
    refine sm_iload dX12_goDay_22 rfl ?_
    refine sm_aload_n dX12_goDay_24 rfl rfl ?_
    refine sm_getI dX12_goDay_25 fg_RX12_297 k_355 ?_
    refine sm_icmp_ge (tgt := 65) dX12_goDay_28 (by decide) (fun g4 => ?_) (fun g4 => ?_)
    · replace h := it_t g4 h
      refine sm_iconst dX12_goDay_65 ic_0 ?_
      refine sm_istore dX12_goDay_66 (Nat.le_of_ble_eq_true rfl) (pv_i rfl) ?_
      exact Sm_weak (le_s rfl (le_s rfl (le_s rfl (le_s rfl (le_s rfl (le_s rfl le_0)))))) (s_Mo_goDay_L68 hD N hk_q1 N x2 x3 x4 0 μ h)
    · replace h := it_f g4 h
      refine sm_aload_n dX12_goDay_31 rfl rfl ?_
      refine sm_aload_n dX12_goDay_32 rfl rfl ?_
      refine sm_iload dX12_goDay_33 rfl ?_
      obtain ⟨t35, μ10z, g20, h⟩ := ob_some h
      refine sm_callV dX12_goDay_35 cv_X12_isRight ml_RX12_352 k_355 rfl rfl (by decide) (as := [av_r q1, av_i x5]) rfl (Nat.le_of_ble_eq_true rfl) rfl (s_Mo_isRight (D := d) (by omega) N hk_q1 g20) (fun r9 μ9 hp => ?_)
      rw [hp.1, hp.2]
      clear hp r9 μ9
      refine sm_if_ne (tgt := 59) dX12_goDay_38 (by decide) (fun g21 => ?_) (fun g21 => ?_)
      · replace h := it_f g21 h
        refine sm_iinc dX12_goDay_59 rfl (congrArg (HAdd.hAdd x5) ic_1) (Nat.le_of_ble_eq_true rfl) (pv_i rfl) ?_
        refine sm_goto (tgt := 22) dX12_goDay_62 (by decide) ?_
        exact Sm_weak (le_s rfl (le_s rfl (le_s rfl (le_s rfl (le_s rfl (le_s rfl le_0)))))) (ih x2 x3 x4 (x5 + 1) μ10z h)
      · replace h := it_t g21 h
        refine sm_iload_n dX12_goDay_41 rfl rfl ?_
        refine sm_aload_n dX12_goDay_42 rfl rfl ?_
        refine sm_aload_n dX12_goDay_43 rfl rfl ?_
        refine sm_iload dX12_goDay_44 rfl ?_
        obtain ⟨t46, μ11z, g22, h⟩ := ob_some h
        refine sm_callV dX12_goDay_46 cv_X12_isChanged ml_RX12_356 k_355 rfl rfl (by decide) (as := [av_r q1, av_i x5]) rfl (Nat.le_of_ble_eq_true rfl) rfl (s_Mo_isChanged (D := d) (by omega) N hk_q1 g22) (fun r9 μ9 hp => ?_)
        rw [hp.1, hp.2]
        clear hp r9 μ9
        have hj49 : ∀ (v49_0 : Int32), v49_0 = (if t46 = 0 then (0 : Int32) else 1) → Sm (d + 1) mX12_goDay 57 [some (av_r 355), some (av_r q1), some (av_i x2), none, some (av_i x4), some (av_i x5)] [av_i v49_0, av_i x3] μ11z (po_v μr) := by
          intro v49_0 ev49_0
          subst ev49_0
          refine sm_iadd dX12_goDay_57 ?_
          refine sm_istore_n dX12_goDay_58 rfl (Nat.le_of_ble_eq_true rfl) (pv_i rfl) ?_
          refine sm_iinc dX12_goDay_59 rfl (congrArg (HAdd.hAdd x5) ic_1) (Nat.le_of_ble_eq_true rfl) (pv_i rfl) ?_
          refine sm_goto (tgt := 22) dX12_goDay_62 (by decide) ?_
          exact Sm_weak (le_s rfl (le_s rfl (le_s rfl (le_s rfl (le_s rfl (le_s rfl le_0)))))) (ih x2 (x3 + (if t46 = 0 then (0 : Int32) else 1)) x4 (x5 + 1) μ11z h)
        refine sm_if_eq (tgt := 56) dX12_goDay_49 (by decide) (fun c49_0 => ?_) (fun c49_0 => ?_)
        · refine sm_iconst dX12_goDay_56 ic_0 ?_
          exact Sm_weak (le_s rfl (le_s rfl (le_s rfl (le_n (le_s rfl (le_s rfl le_0)))))) (hj49 _ (if_pos c49_0).symm)
        · refine sm_iconst dX12_goDay_52 ic_1 ?_
          refine sm_goto (tgt := 57) dX12_goDay_53 (by decide) ?_
          exact Sm_weak (le_s rfl (le_s rfl (le_s rfl (le_n (le_s rfl (le_s rfl le_0)))))) (hj49 _ (if_neg c49_0).symm)
set_option maxRecDepth 100000 in
set_option maxHeartbeats 4000000 in
theorem s_Mo_goDay {D : Nat} (hD : 92 ≤ D) (N : Nat) {q1 : Nat} (hk_q1 : sh_k q1 = 20) {μ : MM} {μr : MM} (h : f_Mo_goDay N q1 μ = some μr) : Cl D mX12_goDay [av_r 355, av_r q1] μ (po_v μr) := by
  obtain ⟨d, rfl⟩ : ∃ d, D = d + 1 := ⟨D - 1, by omega⟩
  refine Cl_of pn_X12 (Nat.le_of_ble_eq_true rfl) ?_
  show Sm (d + 1) mX12_goDay 0 [some (av_r 355), some (av_r q1), none, none, none, none] [] μ (po_v μr)
  unfold f_Mo_goDay at h
  refine sm_aload_n dX12_goDay_0 rfl rfl ?_
  refine sm_aload_n dX12_goDay_1 rfl rfl ?_
  obtain ⟨t2, μ1z, g1, h⟩ := ob_some h
  refine sm_callV dX12_goDay_2 cv_X12_fades ml_RX12_348 k_355 rfl rfl (by decide) (as := [av_r q1]) rfl (Nat.le_of_ble_eq_true rfl) rfl (s_Mo_fades (D := d) (by omega) N hk_q1 g1) (fun r9 μ9 hp => ?_)
  rw [hp.1, hp.2]
  clear hp r9 μ9
  refine sm_istore_n dX12_goDay_5 rfl (Nat.le_of_ble_eq_true rfl) (pv_r rfl) ?_
  refine sm_aload_n dX12_goDay_6 rfl rfl ?_
  refine sm_bipush dX12_goDay_7 bp_122 ?_
  refine sm_dup2 dX12_goDay_9 rfl rfl ?_
  obtain ⟨g2, h⟩ := gd_some h
  refine sm_iald (j := 122) dX12_goDay_10 hk_q1 (in_sz rfl g2) (by decide) ?_
  refine sm_iconst dX12_goDay_11 ic_1 ?_
  refine sm_iadd dX12_goDay_12 ?_
  obtain ⟨g3, h⟩ := gd_some h
  refine sm_iast (j := 122) dX12_goDay_13 hk_q1 (in_sz rfl g3) (by decide) ?_
  replace h := wr_some h
  refine sm_iconst dX12_goDay_14 ic_0 ?_
  refine sm_istore_n dX12_goDay_15 rfl (Nat.le_of_ble_eq_true rfl) (pv_i rfl) ?_
  refine sm_iconst dX12_goDay_16 ic_0 ?_
  refine sm_istore dX12_goDay_17 (Nat.le_of_ble_eq_true rfl) (pv_i rfl) ?_
  refine sm_iconst dX12_goDay_19 ic_0 ?_
  refine sm_istore dX12_goDay_20 (Nat.le_of_ble_eq_true rfl) (pv_i rfl) ?_
  exact Sm_weak (le_s rfl (le_s rfl (le_s rfl (le_s rfl (le_s rfl (le_s rfl le_0)))))) (s_Mo_goDay_L22 hD N hk_q1 N t2 0 0 0 (mm_I μ1z q1 122 ((μ1z.1 q1 122) + 1)) h)
set_option maxRecDepth 100000 in
set_option maxHeartbeats 4000000 in
theorem s_Mo_thing_B26 {D : Nat} (hD : 1 ≤ D) (N : Nat) {r : Int32} {μr : MM} (x1 : Int32) (x2 : Int32) (s1 : Int32) (μ : MM) (h : f_Mo_thing_B26 N x1 x2 s1 μ = some (r, μr)) : Sm D mX12_thing 26 [some (av_r 355), some (av_i x1), some (av_i x2)] [av_i s1, av_r 355] μ (po_i r μr) := by
  obtain ⟨d, rfl⟩ : ∃ d, D = d + 1 := ⟨D - 1, by omega⟩
  unfold f_Mo_thing_B26 at h
  refine sm_putI dX12_thing_26 fp_RX12_91 k_355 ?_
  replace h := wr_some h
  refine sm_aload_n dX12_thing_29 rfl rfl ?_
  refine sm_getI dX12_thing_30 fg_RX12_91 k_355 ?_
  refine sm_if_le (tgt := 38) dX12_thing_33 (by decide) (fun g3 => ?_) (fun g3 => ?_)
  · replace h := it_t g3 h
    refine sm_iload_n dX12_thing_38 rfl rfl ?_
    refine sm_iconst dX12_thing_39 ic_2 ?_
    refine sm_icmp_ne (tgt := 55) dX12_thing_40 (by decide) (fun g4 => ?_) (fun g4 => ?_)
    · replace h := it_f g4 h
      refine sm_aload_n dX12_thing_55 rfl rfl ?_
      refine sm_getR dX12_thing_56 fg_RX12_43 k_355 (rf_12_20 k_355) ?_
      refine sm_iconst dX12_thing_59 ic_2 ?_
      refine sm_iload_n dX12_thing_60 rfl rfl ?_
      refine sm_imul dX12_thing_61 ?_
      refine sm_iload_n dX12_thing_62 rfl rfl ?_
      refine sm_iadd dX12_thing_63 ?_
      obtain ⟨g5, h⟩ := gd_some h
      refine sm_iald (j := (Int32.toNatClampNeg ((2 * x1) + x2))) dX12_thing_64 k_362 (in_sz n_362 g5) rfl ?_
      cases h
      exact sm_ret_i (st := []) dX12_thing_65 rfl ⟨rfl, rfl⟩
    · replace h := it_t g4 h
      refine sm_aload_n dX12_thing_43 rfl rfl ?_
      refine sm_aload_n dX12_thing_44 rfl rfl ?_
      refine sm_getR dX12_thing_45 fg_RX12_61 k_355 (rf_12_32 k_355) ?_
      refine sm_iload_n dX12_thing_48 rfl rfl ?_
      obtain ⟨t49, μ3z, g6, h⟩ := ob_some h
      refine sm_callV dX12_thing_49 cv_X12_cardOver ml_RX12_345 k_355 rfl rfl (by decide) (as := [av_r 368, av_i x1]) rfl (Nat.le_of_ble_eq_true rfl) rfl (s_Mo_cardOver (D := d) (by omega) N k_368 g6) (fun r9 μ9 hp => ?_)
      rw [hp.1, hp.2]
      clear hp r9 μ9
      refine sm_goto (tgt := 65) dX12_thing_52 (by decide) ?_
      cases h
      exact sm_ret_i (st := []) dX12_thing_65 rfl ⟨rfl, rfl⟩
  · replace h := it_f g3 h
    refine sm_iconst dX12_thing_36 ic_0 ?_
    cases h
    exact sm_ret_i (st := []) dX12_thing_37 rfl ⟨rfl, rfl⟩
set_option maxRecDepth 100000 in
set_option maxHeartbeats 4000000 in
theorem s_Mo_thing_B25 {D : Nat} (hD : 1 ≤ D) (N : Nat) {r : Int32} {μr : MM} (x1 : Int32) (x2 : Int32) (μ : MM) (h : f_Mo_thing_B25 N x1 x2 μ = some (r, μr)) : Sm D mX12_thing 25 [some (av_r 355), some (av_i x1), some (av_i x2)] [av_r 355] μ (po_i r μr) := by
  obtain ⟨d, rfl⟩ : ∃ d, D = d + 1 := ⟨D - 1, by omega⟩
  unfold f_Mo_thing_B25 at h
  refine sm_iconst dX12_thing_25 ic_1 ?_
  exact Sm_weak (le_s rfl (le_s rfl (le_s rfl le_0))) (s_Mo_thing_B26 hD N x1 x2 1 μ h)
set_option maxRecDepth 100000 in
set_option maxHeartbeats 4000000 in
theorem s_Mo_thing {D : Nat} (hD : 1 ≤ D) (N : Nat) {x1 : Int32} {x2 : Int32} {μ : MM} {r : Int32} {μr : MM} (h : f_Mo_thing N x1 x2 μ = some (r, μr)) : Cl D mX12_thing [av_r 355, av_i x1, av_i x2] μ (po_i r μr) := by
  obtain ⟨d, rfl⟩ : ∃ d, D = d + 1 := ⟨D - 1, by omega⟩
  refine Cl_of pn_X12 (Nat.le_of_ble_eq_true rfl) ?_
  show Sm (d + 1) mX12_thing 0 [some (av_r 355), some (av_i x1), some (av_i x2)] [] μ (po_i r μr)
  unfold f_Mo_thing at h
  refine sm_aload_n dX12_thing_0 rfl rfl ?_
  refine sm_aload_n dX12_thing_1 rfl rfl ?_
  refine sm_iload_n dX12_thing_2 rfl rfl ?_
  obtain ⟨t3, μ1z, g1, h⟩ := ob_some h
  refine sm_callV dX12_thing_3 cv_X12_isThing ml_RX12_359 k_355 rfl rfl (by decide) (as := [av_i x1]) rfl (Nat.le_of_ble_eq_true rfl) rfl (s_Mo_isThing (D := d) (by omega) N g1) (fun r9 μ9 hp => ?_)
  rw [hp.1, hp.2]
  clear hp r9 μ9
  refine sm_if_eq (tgt := 25) dX12_thing_6 (by decide) (fun g2 => ?_) (fun g2 => ?_)
  · replace h := it_t g2 h
    exact Sm_weak (le_s rfl (le_s rfl (le_s rfl le_0))) (s_Mo_thing_B25 hD N x1 x2 μ1z h)
  · replace h := it_f g2 h
    refine sm_iload_n dX12_thing_9 rfl rfl ?_
    refine sm_i2l dX12_thing_10 ?_
    refine sm_lconst dX12_thing_11 lc_0 ?_
    refine sm_ldc2 dX12_thing_12 cs_RX12_278 ?_
    obtain ⟨t15, μ4z, g7, h⟩ := ob_some h
    refine sm_callS dX12_thing_15 cs_X12_isIn ml_RX12_212 (as := [av_l (Int32.toInt64 x2), av_l 0, av_l 2]) rfl (Nat.le_of_ble_eq_true rfl) rfl (s_Mo_isIn (D := d) (by omega) N g7) (fun r9 μ9 hp => ?_)
    rw [hp.1, hp.2]
    clear hp r9 μ9
    refine sm_if_eq (tgt := 25) dX12_thing_18 (by decide) (fun g8 => ?_) (fun g8 => ?_)
    · replace h := it_t g8 h
      exact Sm_weak (le_s rfl (le_s rfl (le_s rfl le_0))) (s_Mo_thing_B25 hD N x1 x2 μ4z h)
    · replace h := it_f g8 h
      refine sm_iconst dX12_thing_21 ic_0 ?_
      refine sm_goto (tgt := 26) dX12_thing_22 (by decide) ?_
      exact Sm_weak (le_s rfl (le_s rfl (le_s rfl le_0))) (s_Mo_thing_B26 hD N x1 x2 0 μ4z h)
set_option maxRecDepth 100000 in
set_option maxHeartbeats 4000000 in
theorem s_Mo_card {D : Nat} (hD : 4 ≤ D) (N : Nat) {x1 : Int32} {x2 : Int32} {μ : MM} {r : Int32} {μr : MM} (h : f_Mo_card N x1 x2 μ = some (r, μr)) : Cl D mX12_card [av_r 355, av_i x1, av_i x2] μ (po_i r μr) := by
  obtain ⟨d, rfl⟩ : ∃ d, D = d + 1 := ⟨D - 1, by omega⟩
  refine Cl_of pn_X12 (Nat.le_of_ble_eq_true rfl) ?_
  show Sm (d + 1) mX12_card 0 [some (av_r 355), some (av_i x1), some (av_i x2)] [] μ (po_i r μr)
  unfold f_Mo_card at h
  refine sm_aload_n dX12_card_0 rfl rfl ?_
  refine sm_iconst dX12_card_1 ic_0 ?_
  refine sm_putI dX12_card_2 fp_RX12_91 k_355 ?_
  replace h := wr_some h
  refine sm_aload_n dX12_card_5 rfl rfl ?_
  refine sm_iload_n dX12_card_6 rfl rfl ?_
  obtain ⟨t7, μ2z, g1, h⟩ := ob_some h
  refine sm_callV dX12_card_7 cv_X12_isCard ml_RX12_362 k_355 rfl rfl (by decide) (as := [av_i x1]) rfl (Nat.le_of_ble_eq_true rfl) rfl (s_Mo_isCard (D := d) (by omega) N g1) (fun r9 μ9 hp => ?_)
  rw [hp.1, hp.2]
  clear hp r9 μ9
  refine sm_if_eq (tgt := 25) dX12_card_10 (by decide) (fun g2 => ?_) (fun g2 => ?_)
  · replace h := it_t g2 h
    refine sm_iconst dX12_card_25 ic_m1 ?_
    cases h
    exact sm_ret_i (st := []) dX12_card_26 rfl ⟨rfl, rfl⟩
  · replace h := it_f g2 h
    refine sm_iload_n dX12_card_13 rfl rfl ?_
    refine sm_i2l dX12_card_14 ?_
    refine sm_lconst dX12_card_15 lc_0 ?_
    refine sm_ldc2 dX12_card_16 cs_RX12_365 ?_
    obtain ⟨t19, μ3z, g3, h⟩ := ob_some h
    refine sm_callS dX12_card_19 cs_X12_isIn ml_RX12_212 (as := [av_l (Int32.toInt64 x2), av_l 0, av_l 3]) rfl (Nat.le_of_ble_eq_true rfl) rfl (s_Mo_isIn (D := d) (by omega) N g3) (fun r9 μ9 hp => ?_)
    rw [hp.1, hp.2]
    clear hp r9 μ9
    refine sm_if_ne (tgt := 27) dX12_card_22 (by decide) (fun g4 => ?_) (fun g4 => ?_)
    · replace h := it_f g4 h
      refine sm_iload_n dX12_card_27 rfl rfl ?_
      refine sm_if_ne (tgt := 43) dX12_card_28 (by decide) (fun g5 => ?_) (fun g5 => ?_)
      · replace h := it_f g5 h
        refine sm_iload_n dX12_card_43 rfl rfl ?_
        refine sm_iconst dX12_card_44 ic_1 ?_
        refine sm_icmp_ne (tgt := 60) dX12_card_45 (by decide) (fun g6 => ?_) (fun g6 => ?_)
        · replace h := it_f g6 h
          refine sm_iload_n dX12_card_60 rfl rfl ?_
          refine sm_iconst dX12_card_61 ic_2 ?_
          refine sm_icmp_ne (tgt := 76) dX12_card_62 (by decide) (fun g7 => ?_) (fun g7 => ?_)
          · replace h := it_f g7 h
            refine sm_aload_n dX12_card_76 rfl rfl ?_
            refine sm_aload_n dX12_card_77 rfl rfl ?_
            refine sm_getR dX12_card_78 fg_RX12_61 k_355 (rf_12_32 k_355) ?_
            refine sm_iload_n dX12_card_81 rfl rfl ?_
            obtain ⟨t82, μ4z, g8, h⟩ := ob_some h
            refine sm_callV dX12_card_82 cv_X12_isRight ml_RX12_352 k_355 rfl rfl (by decide) (as := [av_r 368, av_i x1]) rfl (Nat.le_of_ble_eq_true rfl) rfl (s_Mo_isRight (D := d) (by omega) N k_368 g8) (fun r9 μ9 hp => ?_)
            rw [hp.1, hp.2]
            clear hp r9 μ9
            have hj85 : ∀ (v85_0 : Int32), v85_0 = (if t82 = 0 then (0 : Int32) else 1) → Sm (d + 1) mX12_card 93 [none, none, none] [av_i v85_0] μ4z (po_i r μr) := by
              intro v85_0 ev85_0
              subst ev85_0
              cases h
              exact sm_ret_i (st := []) dX12_card_93 rfl ⟨rfl, rfl⟩
            refine sm_if_eq (tgt := 92) dX12_card_85 (by decide) (fun c85_0 => ?_) (fun c85_0 => ?_)
            · refine sm_iconst dX12_card_92 ic_0 ?_
              exact Sm_weak (le_n (le_n (le_n le_0))) (hj85 _ (if_pos c85_0).symm)
            · refine sm_iconst dX12_card_88 ic_1 ?_
              refine sm_goto (tgt := 93) dX12_card_89 (by decide) ?_
              exact Sm_weak (le_n (le_n (le_n le_0))) (hj85 _ (if_neg c85_0).symm)
          · replace h := it_t g7 h
            refine sm_aload_n dX12_card_65 rfl rfl ?_
            refine sm_getR dX12_card_66 fg_RX12_61 k_355 (rf_12_32 k_355) ?_
            refine sm_iload_n dX12_card_69 rfl rfl ?_
            obtain ⟨t70, μ5z, g9, h⟩ := ob_some h
            refine sm_callS dX12_card_70 cs_X12_wordsOf ml_RX12_323 (as := [av_r 368, av_i x1]) rfl (Nat.le_of_ble_eq_true rfl) rfl (s_Mo_wordsOf (D := d) (by omega) N k_368 g9) (fun r9 μ9 hp => ?_)
            rw [hp.1, hp.2]
            clear hp r9 μ9
            refine sm_goto (tgt := 93) dX12_card_73 (by decide) ?_
            cases h
            exact sm_ret_i (st := []) dX12_card_93 rfl ⟨rfl, rfl⟩
        · replace h := it_t g6 h
          refine sm_aload_n dX12_card_48 rfl rfl ?_
          refine sm_getR dX12_card_49 fg_RX12_61 k_355 (rf_12_32 k_355) ?_
          refine sm_bipush dX12_card_52 bp_20 ?_
          refine sm_iload_n dX12_card_54 rfl rfl ?_
          refine sm_imul dX12_card_55 ?_
          obtain ⟨g10, h⟩ := gd_some h
          refine sm_iald (j := (Int32.toNatClampNeg (20 * x1))) dX12_card_56 k_368 (in_sz n_368 g10) rfl ?_
          refine sm_goto (tgt := 93) dX12_card_57 (by decide) ?_
          cases h
          exact sm_ret_i (st := []) dX12_card_93 rfl ⟨rfl, rfl⟩
      · replace h := it_t g5 h
        refine sm_aload_n dX12_card_31 rfl rfl ?_
        refine sm_getR dX12_card_32 fg_RX12_52 k_355 (rf_12_23 k_355) ?_
        refine sm_bipush dX12_card_35 bp_16 ?_
        refine sm_iload_n dX12_card_37 rfl rfl ?_
        refine sm_imul dX12_card_38 ?_
        refine sm_iconst dX12_card_39 ic_1 ?_
        refine sm_iadd dX12_card_40 ?_
        obtain ⟨g11, h⟩ := gd_some h
        refine sm_iald (j := (Int32.toNatClampNeg ((16 * x1) + 1))) dX12_card_41 k_365 (in_sz n_365 g11) rfl ?_
        cases h
        exact sm_ret_i (st := []) dX12_card_42 rfl ⟨rfl, rfl⟩
    · replace h := it_t g4 h
      refine sm_iconst dX12_card_25 ic_m1 ?_
      cases h
      exact sm_ret_i (st := []) dX12_card_26 rfl ⟨rfl, rfl⟩
set_option maxRecDepth 100000 in
set_option maxHeartbeats 4000000 in
theorem s_Mo_word {D : Nat} (hD : 1 ≤ D) (N : Nat) {x1 : Int32} {x2 : Int32} {x3 : Int32} {μ : MM} {r : Int32} {μr : MM} (h : f_Mo_word N x1 x2 x3 μ = some (r, μr)) : Cl D mX12_word [av_r 355, av_i x1, av_i x2, av_i x3] μ (po_i r μr) := by
  obtain ⟨d, rfl⟩ : ∃ d, D = d + 1 := ⟨D - 1, by omega⟩
  refine Cl_of pn_X12 (Nat.le_of_ble_eq_true rfl) ?_
  show Sm (d + 1) mX12_word 0 [some (av_r 355), some (av_i x1), some (av_i x2), some (av_i x3)] [] μ (po_i r μr)
  unfold f_Mo_word at h
  refine sm_aload_n dX12_word_0 rfl rfl ?_
  refine sm_iconst dX12_word_1 ic_0 ?_
  refine sm_putI dX12_word_2 fp_RX12_91 k_355 ?_
  replace h := wr_some h
  refine sm_aload_n dX12_word_5 rfl rfl ?_
  refine sm_iload_n dX12_word_6 rfl rfl ?_
  obtain ⟨t7, μ2z, g1, h⟩ := ob_some h
  refine sm_callV dX12_word_7 cv_X12_isCard ml_RX12_362 k_355 rfl rfl (by decide) (as := [av_i x1]) rfl (Nat.le_of_ble_eq_true rfl) rfl (s_Mo_isCard (D := d) (by omega) N g1) (fun r9 μ9 hp => ?_)
  rw [hp.1, hp.2]
  clear hp r9 μ9
  refine sm_if_eq (tgt := 61) dX12_word_10 (by decide) (fun g2 => ?_) (fun g2 => ?_)
  · replace h := it_t g2 h
    refine sm_iconst dX12_word_61 ic_m1 ?_
    cases h
    exact sm_ret_i (st := []) dX12_word_62 rfl ⟨rfl, rfl⟩
  · replace h := it_f g2 h
    refine sm_iload_n dX12_word_13 rfl rfl ?_
    refine sm_if_lt (tgt := 61) dX12_word_14 (by decide) (fun g3 => ?_) (fun g3 => ?_)
    · replace h := it_t g3 h
      refine sm_iconst dX12_word_61 ic_m1 ?_
      cases h
      exact sm_ret_i (st := []) dX12_word_62 rfl ⟨rfl, rfl⟩
    · replace h := it_f g3 h
      refine sm_iload_n dX12_word_17 rfl rfl ?_
      refine sm_aload_n dX12_word_18 rfl rfl ?_
      refine sm_getR dX12_word_19 fg_RX12_61 k_355 (rf_12_32 k_355) ?_
      refine sm_iload_n dX12_word_22 rfl rfl ?_
      obtain ⟨t23, μ3z, g4, h⟩ := ob_some h
      refine sm_callS dX12_word_23 cs_X12_wordsOf ml_RX12_323 (as := [av_r 368, av_i x1]) rfl (Nat.le_of_ble_eq_true rfl) rfl (s_Mo_wordsOf (D := d) (by omega) N k_368 g4) (fun r9 μ9 hp => ?_)
      rw [hp.1, hp.2]
      clear hp r9 μ9
      refine sm_icmp_ge (tgt := 61) dX12_word_26 (by decide) (fun g5 => ?_) (fun g5 => ?_)
      · replace h := it_t g5 h
        refine sm_iconst dX12_word_61 ic_m1 ?_
        cases h
        exact sm_ret_i (st := []) dX12_word_62 rfl ⟨rfl, rfl⟩
      · replace h := it_f g5 h
        refine sm_iload_n dX12_word_29 rfl rfl ?_
        refine sm_i2l dX12_word_30 ?_
        refine sm_lconst dX12_word_31 lc_0 ?_
        refine sm_ldc2 dX12_word_32 cs_RX12_278 ?_
        obtain ⟨t35, μ4z, g6, h⟩ := ob_some h
        refine sm_callS dX12_word_35 cs_X12_isIn ml_RX12_212 (as := [av_l (Int32.toInt64 x3), av_l 0, av_l 2]) rfl (Nat.le_of_ble_eq_true rfl) rfl (s_Mo_isIn (D := d) (by omega) N g6) (fun r9 μ9 hp => ?_)
        rw [hp.1, hp.2]
        clear hp r9 μ9
        refine sm_if_eq (tgt := 61) dX12_word_38 (by decide) (fun g7 => ?_) (fun g7 => ?_)
        · replace h := it_t g7 h
          refine sm_iconst dX12_word_61 ic_m1 ?_
          cases h
          exact sm_ret_i (st := []) dX12_word_62 rfl ⟨rfl, rfl⟩
        · replace h := it_f g7 h
          refine sm_aload_n dX12_word_41 rfl rfl ?_
          refine sm_getR dX12_word_42 fg_RX12_61 k_355 (rf_12_32 k_355) ?_
          refine sm_bipush dX12_word_45 bp_20 ?_
          refine sm_iload_n dX12_word_47 rfl rfl ?_
          refine sm_imul dX12_word_48 ?_
          refine sm_iconst dX12_word_49 ic_2 ?_
          refine sm_iadd dX12_word_50 ?_
          refine sm_iconst dX12_word_51 ic_3 ?_
          refine sm_iload_n dX12_word_52 rfl rfl ?_
          refine sm_imul dX12_word_53 ?_
          refine sm_iadd dX12_word_54 ?_
          refine sm_iload_n dX12_word_55 rfl rfl ?_
          refine sm_iadd dX12_word_56 ?_
          obtain ⟨g8, h⟩ := gd_some h
          refine sm_iald (j := (Int32.toNatClampNeg ((((20 * x1) + 2) + (3 * x2)) + x3))) dX12_word_57 k_368 (in_sz n_368 g8) rfl ?_
          refine sm_goto (tgt := 62) dX12_word_58 (by decide) ?_
          cases h
          exact sm_ret_i (st := []) dX12_word_62 rfl ⟨rfl, rfl⟩
set_option maxRecDepth 100000 in
set_option maxHeartbeats 4000000 in
theorem s_Mo_law_B28 {D : Nat} (hD : 1 ≤ D) (N : Nat) {r : Int32} {μr : MM} (x1 : Int32) (μ : MM) (h : f_Mo_law_B28 N x1 μ = some (r, μr)) : Sm D mX12_law 28 [some (av_r 355), some (av_i x1)] [] μ (po_i r μr) := by
  obtain ⟨d, rfl⟩ : ∃ d, D = d + 1 := ⟨D - 1, by omega⟩
  unfold f_Mo_law_B28 at h
  refine sm_aload_n dX12_law_28 rfl rfl ?_
  refine sm_iload_n dX12_law_29 rfl rfl ?_
  refine sm_putI dX12_law_30 fp_RX12_67 k_355 ?_
  replace h := wr_some h
  refine sm_iconst dX12_law_33 ic_1 ?_
  cases h
  exact sm_ret_z (st := []) dX12_law_34 rfl rfl ⟨rfl, rfl⟩
set_option maxRecDepth 100000 in
set_option maxHeartbeats 4000000 in
theorem s_Mo_law {D : Nat} (hD : 1 ≤ D) (N : Nat) {x1 : Int32} {μ : MM} {r : Int32} {μr : MM} (h : f_Mo_law N x1 μ = some (r, μr)) : Cl D mX12_law [av_r 355, av_i x1] μ (po_i r μr) := by
  obtain ⟨d, rfl⟩ : ∃ d, D = d + 1 := ⟨D - 1, by omega⟩
  refine Cl_of pn_X12 (Nat.le_of_ble_eq_true rfl) ?_
  show Sm (d + 1) mX12_law 0 [some (av_r 355), some (av_i x1)] [] μ (po_i r μr)
  unfold f_Mo_law at h
  refine sm_aload_n dX12_law_0 rfl rfl ?_
  refine sm_iconst dX12_law_1 ic_0 ?_
  refine sm_putI dX12_law_2 fp_RX12_91 k_355 ?_
  replace h := wr_some h
  refine sm_iload_n dX12_law_5 rfl rfl ?_
  refine sm_iconst dX12_law_6 ic_m1 ?_
  refine sm_icmp_eq (tgt := 28) dX12_law_7 (by decide) (fun g1 => ?_) (fun g1 => ?_)
  · replace h := it_t g1 h
    exact Sm_weak (le_s rfl (le_s rfl le_0)) (s_Mo_law_B28 hD N x1 (mm_I μ 355 0 0) h)
  · replace h := it_f g1 h
    refine sm_iload_n dX12_law_10 rfl rfl ?_
    refine sm_i2l dX12_law_11 ?_
    refine sm_lconst dX12_law_12 lc_0 ?_
    refine sm_aload_n dX12_law_13 rfl rfl ?_
    refine sm_getI dX12_law_14 fg_RX12_286 k_355 ?_
    refine sm_iconst dX12_law_17 ic_1 ?_
    refine sm_isub dX12_law_18 ?_
    refine sm_i2l dX12_law_19 ?_
    obtain ⟨t20, μ3z, g2, h⟩ := ob_some h
    refine sm_callS dX12_law_20 cs_X12_isIn ml_RX12_212 (as := [av_l (Int32.toInt64 x1), av_l 0, av_l (Int32.toInt64 (((mm_I μ 355 0 0).1 355 7) - 1))]) rfl (Nat.le_of_ble_eq_true rfl) rfl (s_Mo_isIn (D := d) (by omega) N g2) (fun r9 μ9 hp => ?_)
    rw [hp.1, hp.2]
    clear hp r9 μ9
    refine sm_if_ne (tgt := 28) dX12_law_23 (by decide) (fun g3 => ?_) (fun g3 => ?_)
    · replace h := it_f g3 h
      exact Sm_weak (le_s rfl (le_s rfl le_0)) (s_Mo_law_B28 hD N x1 μ3z h)
    · replace h := it_t g3 h
      refine sm_iconst dX12_law_26 ic_0 ?_
      cases h
      exact sm_ret_z (st := []) dX12_law_27 rfl rfl ⟨rfl, rfl⟩
set_option maxRecDepth 100000 in
set_option maxHeartbeats 4000000 in
theorem s_Mo_cleaner {D : Nat} (hD : 1 ≤ D) (N : Nat) {x1 : Int32} {μ : MM} {r : Int32} {μr : MM} (h : f_Mo_cleaner N x1 μ = some (r, μr)) : Cl D mX12_cleaner [av_r 355, av_i x1] μ (po_i r μr) := by
  obtain ⟨d, rfl⟩ : ∃ d, D = d + 1 := ⟨D - 1, by omega⟩
  refine Cl_of pn_X12 (Nat.le_of_ble_eq_true rfl) ?_
  show Sm (d + 1) mX12_cleaner 0 [some (av_r 355), some (av_i x1)] [] μ (po_i r μr)
  unfold f_Mo_cleaner at h
  refine sm_aload_n dX12_cleaner_0 rfl rfl ?_
  refine sm_iconst dX12_cleaner_1 ic_0 ?_
  refine sm_putI dX12_cleaner_2 fp_RX12_91 k_355 ?_
  replace h := wr_some h
  refine sm_iload_n dX12_cleaner_5 rfl rfl ?_
  refine sm_i2l dX12_cleaner_6 ?_
  refine sm_lconst dX12_cleaner_7 lc_0 ?_
  refine sm_ldc2 dX12_cleaner_8 cs_RX12_367 ?_
  obtain ⟨t11, μ2z, g1, h⟩ := ob_some h
  refine sm_callS dX12_cleaner_11 cs_X12_isIn ml_RX12_212 (as := [av_l (Int32.toInt64 x1), av_l 0, av_l 99]) rfl (Nat.le_of_ble_eq_true rfl) rfl (s_Mo_isIn (D := d) (by omega) N g1) (fun r9 μ9 hp => ?_)
  rw [hp.1, hp.2]
  clear hp r9 μ9
  refine sm_if_eq (tgt := 25) dX12_cleaner_14 (by decide) (fun g2 => ?_) (fun g2 => ?_)
  · replace h := it_t g2 h
    refine sm_iconst dX12_cleaner_25 ic_0 ?_
    cases h
    exact sm_ret_z (st := []) dX12_cleaner_26 rfl rfl ⟨rfl, rfl⟩
  · replace h := it_f g2 h
    refine sm_iload_n dX12_cleaner_17 rfl rfl ?_
    refine sm_aload_n dX12_cleaner_18 rfl rfl ?_
    refine sm_getI dX12_cleaner_19 fg_RX12_369 k_355 ?_
    refine sm_icmp_ne (tgt := 27) dX12_cleaner_22 (by decide) (fun g3 => ?_) (fun g3 => ?_)
    · replace h := it_f g3 h
      refine sm_aload_n dX12_cleaner_27 rfl rfl ?_
      refine sm_iload_n dX12_cleaner_28 rfl rfl ?_
      refine sm_putI dX12_cleaner_29 fp_RX12_369 k_355 ?_
      replace h := wr_some h
      refine sm_iconst dX12_cleaner_32 ic_1 ?_
      cases h
      exact sm_ret_z (st := []) dX12_cleaner_33 rfl rfl ⟨rfl, rfl⟩
    · replace h := it_t g3 h
      refine sm_iconst dX12_cleaner_25 ic_0 ?_
      cases h
      exact sm_ret_z (st := []) dX12_cleaner_26 rfl rfl ⟨rfl, rfl⟩
set_option maxRecDepth 100000 in
set_option maxHeartbeats 4000000 in
theorem s_Mo_fits {D : Nat} (hD : 3 ≤ D) (N : Nat) {x1 : Int32} {x2 : Int32} {μ : MM} {r : Int32} {μr : MM} (h : f_Mo_fits N x1 x2 μ = some (r, μr)) : Cl D mX12_fits [av_r 355, av_i x1, av_i x2] μ (po_i r μr) := by
  obtain ⟨d, rfl⟩ : ∃ d, D = d + 1 := ⟨D - 1, by omega⟩
  refine Cl_of pn_X12 (Nat.le_of_ble_eq_true rfl) ?_
  show Sm (d + 1) mX12_fits 0 [some (av_r 355), some (av_i x1), some (av_i x2)] [] μ (po_i r μr)
  unfold f_Mo_fits at h
  refine sm_aload_n dX12_fits_0 rfl rfl ?_
  refine sm_iconst dX12_fits_1 ic_0 ?_
  refine sm_putI dX12_fits_2 fp_RX12_91 k_355 ?_
  replace h := wr_some h
  refine sm_aload_n dX12_fits_5 rfl rfl ?_
  refine sm_iload_n dX12_fits_6 rfl rfl ?_
  obtain ⟨t7, μ2z, g1, h⟩ := ob_some h
  refine sm_callV dX12_fits_7 cv_X12_isCard ml_RX12_362 k_355 rfl rfl (by decide) (as := [av_i x1]) rfl (Nat.le_of_ble_eq_true rfl) rfl (s_Mo_isCard (D := d) (by omega) N g1) (fun r9 μ9 hp => ?_)
  rw [hp.1, hp.2]
  clear hp r9 μ9
  refine sm_if_eq (tgt := 42) dX12_fits_10 (by decide) (fun g2 => ?_) (fun g2 => ?_)
  · replace h := it_t g2 h
    refine sm_iconst dX12_fits_42 ic_m1 ?_
    cases h
    exact sm_ret_i (st := []) dX12_fits_43 rfl ⟨rfl, rfl⟩
  · replace h := it_f g2 h
    refine sm_aload_n dX12_fits_13 rfl rfl ?_
    refine sm_iload_n dX12_fits_14 rfl rfl ?_
    obtain ⟨t15, μ3z, g3, h⟩ := ob_some h
    refine sm_callV dX12_fits_15 cv_X12_isThing ml_RX12_359 k_355 rfl rfl (by decide) (as := [av_i x2]) rfl (Nat.le_of_ble_eq_true rfl) rfl (s_Mo_isThing (D := d) (by omega) N g3) (fun r9 μ9 hp => ?_)
    rw [hp.1, hp.2]
    clear hp r9 μ9
    refine sm_if_eq (tgt := 42) dX12_fits_18 (by decide) (fun g4 => ?_) (fun g4 => ?_)
    · replace h := it_t g4 h
      refine sm_iconst dX12_fits_42 ic_m1 ?_
      cases h
      exact sm_ret_i (st := []) dX12_fits_43 rfl ⟨rfl, rfl⟩
    · replace h := it_f g4 h
      refine sm_aload_n dX12_fits_21 rfl rfl ?_
      refine sm_aload_n dX12_fits_22 rfl rfl ?_
      refine sm_getR dX12_fits_23 fg_RX12_61 k_355 (rf_12_32 k_355) ?_
      refine sm_iload_n dX12_fits_26 rfl rfl ?_
      refine sm_iload_n dX12_fits_27 rfl rfl ?_
      obtain ⟨t28, μ4z, g5, h⟩ := ob_some h
      refine sm_callV dX12_fits_28 cv_X12_fitsIn ml_RX12_334 k_355 rfl rfl (by decide) (as := [av_r 368, av_i x1, av_i x2]) rfl (Nat.le_of_ble_eq_true rfl) rfl (s_Mo_fitsIn (D := d) (by omega) N k_368 g5) (fun r9 μ9 hp => ?_)
      rw [hp.1, hp.2]
      clear hp r9 μ9
      have hj31 : ∀ (v31_0 : Int32), v31_0 = (if t28 = 0 then (0 : Int32) else 1) → Sm (d + 1) mX12_fits 43 [none, none, none] [av_i v31_0] μ4z (po_i r μr) := by
        intro v31_0 ev31_0
        subst ev31_0
        cases h
        exact sm_ret_i (st := []) dX12_fits_43 rfl ⟨rfl, rfl⟩
      refine sm_if_eq (tgt := 38) dX12_fits_31 (by decide) (fun c31_0 => ?_) (fun c31_0 => ?_)
      · refine sm_iconst dX12_fits_38 ic_0 ?_
        refine sm_goto (tgt := 43) dX12_fits_39 (by decide) ?_
        exact Sm_weak (le_n (le_n (le_n le_0))) (hj31 _ (if_pos c31_0).symm)
      · refine sm_iconst dX12_fits_34 ic_1 ?_
        refine sm_goto (tgt := 43) dX12_fits_35 (by decide) ?_
        exact Sm_weak (le_n (le_n (le_n le_0))) (hj31 _ (if_neg c31_0).symm)
set_option maxRecDepth 100000 in
set_option maxHeartbeats 4000000 in
theorem s_Mo_remember_L52 {D : Nat} (hD : 0 ≤ D) (N : Nat) {μr : MM} : ∀ (n : Nat) (x1 : Int32) (μ : MM), f_Mo_remember_L52 N n x1 μ = some μr → Sm D mX12_remember 52 [some (av_r 355), some (av_i x1)] [] μ (po_v μr) := by
  intro n
  induction n with
  | zero => intro x1 μ h; cases (show none = some μr from h)
  | succ n ih =>
    intro x1 μ h
    rw [f_Mo_remember_L52] at h
    refine sm_iload_n dX12_remember_52 rfl rfl ?_
    refine sm_sipush dX12_remember_53 sp_304 ?_
    refine sm_icmp_ge (tgt := 86) dX12_remember_56 (by decide) (fun g2 => ?_) (fun g2 => ?_)
    · replace h := it_t g2 h
      refine sm_aload_n dX12_remember_86 rfl rfl ?_
      refine sm_dup dX12_remember_87 rfl ?_
      refine sm_getI dX12_remember_88 fg_RX12_307 k_355 ?_
      refine sm_iconst dX12_remember_91 ic_1 ?_
      refine sm_iadd dX12_remember_92 ?_
      refine sm_putI dX12_remember_93 fp_RX12_307 k_355 ?_
      replace h := wr_some h
      cases h
      exact sm_ret_v (st := []) dX12_remember_96 rfl ⟨rfl, rfl⟩
    · replace h := it_f g2 h
      refine sm_aload_n dX12_remember_59 rfl rfl ?_
      refine sm_getR dX12_remember_60 fg_RX12_71 k_355 (rf_12_36 k_355) ?_
      refine sm_sipush dX12_remember_63 sp_304 ?_
      refine sm_aload_n dX12_remember_66 rfl rfl ?_
      refine sm_getI dX12_remember_67 fg_RX12_307 k_355 ?_
      refine sm_imul dX12_remember_70 ?_
      refine sm_iload_n dX12_remember_71 rfl rfl ?_
      refine sm_iadd dX12_remember_72 ?_
      refine sm_aload_n dX12_remember_73 rfl rfl ?_
      refine sm_getR dX12_remember_74 fg_RX12_61 k_355 (rf_12_32 k_355) ?_
      refine sm_iload_n dX12_remember_77 rfl rfl ?_
      obtain ⟨g3, h⟩ := gd_some h
      refine sm_iald (j := (Int32.toNatClampNeg x1)) dX12_remember_78 k_368 (in_sz n_368 g3) rfl ?_
      obtain ⟨g4, h⟩ := gd_some h
      refine sm_iast (j := (Int32.toNatClampNeg ((304 * (μ.1 355 37)) + x1))) dX12_remember_79 k_370 (in_sz n_370 g4) rfl ?_
      replace h := wr_some h
      refine sm_iinc dX12_remember_80 rfl (congrArg (HAdd.hAdd x1) ic_1) (Nat.le_of_ble_eq_true rfl) (pv_r rfl) ?_
      refine sm_goto (tgt := 52) dX12_remember_83 (by decide) ?_
      exact Sm_weak (le_s rfl (le_s rfl le_0)) (ih (x1 + 1) (mm_I μ 370 (Int32.toNatClampNeg ((304 * (μ.1 355 37)) + x1)) (μ.1 368 (Int32.toNatClampNeg x1))) h)
set_option maxRecDepth 100000 in
set_option maxHeartbeats 4000000 in
theorem s_Mo_remember_L11 {D : Nat} (hD : 0 ≤ D) (N : Nat) {μr : MM} : ∀ (n : Nat) (x1 : Int32) (μ : MM), f_Mo_remember_L11 N n x1 μ = some μr → Sm D mX12_remember 11 [some (av_r 355), some (av_i x1)] [] μ (po_v μr) := by
  intro n
  induction n with
  | zero => intro x1 μ h; cases (show none = some μr from h)
  | succ n ih =>
    intro x1 μ h
    rw [f_Mo_remember_L11] at h
    refine sm_iload_n dX12_remember_11 rfl rfl ?_
    refine sm_sipush dX12_remember_12 sp_11856 ?_
    refine sm_icmp_ge (tgt := 40) dX12_remember_15 (by decide) (fun g5 => ?_) (fun g5 => ?_)
    · replace h := it_t g5 h
      refine sm_aload_n dX12_remember_40 rfl rfl ?_
      refine sm_dup dX12_remember_41 rfl ?_
      refine sm_getI dX12_remember_42 fg_RX12_307 k_355 ?_
      refine sm_iconst dX12_remember_45 ic_1 ?_
      refine sm_isub dX12_remember_46 ?_
      refine sm_putI dX12_remember_47 fp_RX12_307 k_355 ?_
      replace h := wr_some h
      refine sm_iconst dX12_remember_50 ic_0 ?_
      refine sm_istore_n dX12_remember_51 rfl (Nat.le_of_ble_eq_true rfl) (pv_r rfl) ?_
      exact Sm_weak (le_s rfl (le_s rfl le_0)) (s_Mo_remember_L52 hD N N 0 (mm_I μ 355 37 ((μ.1 355 37) - 1)) h)
    · replace h := it_f g5 h
      refine sm_aload_n dX12_remember_18 rfl rfl ?_
      refine sm_getR dX12_remember_19 fg_RX12_71 k_355 (rf_12_36 k_355) ?_
      refine sm_iload_n dX12_remember_22 rfl rfl ?_
      refine sm_aload_n dX12_remember_23 rfl rfl ?_
      refine sm_getR dX12_remember_24 fg_RX12_71 k_355 (rf_12_36 k_355) ?_
      refine sm_iload_n dX12_remember_27 rfl rfl ?_
      refine sm_sipush dX12_remember_28 sp_304 ?_
      refine sm_iadd dX12_remember_31 ?_
      obtain ⟨g6, h⟩ := gd_some h
      refine sm_iald (j := (Int32.toNatClampNeg (x1 + 304))) dX12_remember_32 k_370 (in_sz n_370 g6) rfl ?_
      obtain ⟨g7, h⟩ := gd_some h
      refine sm_iast (j := (Int32.toNatClampNeg x1)) dX12_remember_33 k_370 (in_sz n_370 g7) rfl ?_
      replace h := wr_some h
      refine sm_iinc dX12_remember_34 rfl (congrArg (HAdd.hAdd x1) ic_1) (Nat.le_of_ble_eq_true rfl) (pv_r rfl) ?_
      refine sm_goto (tgt := 11) dX12_remember_37 (by decide) ?_
      exact Sm_weak (le_s rfl (le_s rfl le_0)) (ih (x1 + 1) (mm_I μ 370 (Int32.toNatClampNeg x1) (μ.1 370 (Int32.toNatClampNeg (x1 + 304)))) h)
set_option maxRecDepth 100000 in
set_option maxHeartbeats 4000000 in
theorem s_Mo_remember {D : Nat} (hD : 0 ≤ D) (N : Nat) {μ : MM} {μr : MM} (h : f_Mo_remember N μ = some μr) : Cl D mX12_remember [av_r 355] μ (po_v μr) := by
  refine Cl_of pn_X12 (Nat.le_of_ble_eq_true rfl) ?_
  show Sm D mX12_remember 0 [some (av_r 355), none] [] μ (po_v μr)
  unfold f_Mo_remember at h
  refine sm_aload_n dX12_remember_0 rfl rfl ?_
  refine sm_getI dX12_remember_1 fg_RX12_307 k_355 ?_
  refine sm_bipush dX12_remember_4 bp_40 ?_
  refine sm_icmp_ne (tgt := 50) dX12_remember_6 (by decide) (fun g1 => ?_) (fun g1 => ?_)
  · replace h := it_f g1 h
    refine sm_iconst dX12_remember_50 ic_0 ?_
    refine sm_istore_n dX12_remember_51 rfl (Nat.le_of_ble_eq_true rfl) (pv_r rfl) ?_
    exact Sm_weak (le_s rfl (le_s rfl le_0)) (s_Mo_remember_L52 hD N N 0 μ h)
  · replace h := it_t g1 h
    refine sm_iconst dX12_remember_9 ic_0 ?_
    refine sm_istore_n dX12_remember_10 rfl (Nat.le_of_ble_eq_true rfl) (pv_r rfl) ?_
    exact Sm_weak (le_s rfl (le_s rfl le_0)) (s_Mo_remember_L11 hD N N 0 μ h)
set_option maxRecDepth 100000 in
set_option maxHeartbeats 4000000 in
theorem s_Mo_put_ {D : Nat} (hD : 1 ≤ D) (N : Nat) {x1 : Int32} {x2 : Int32} {μ : MM} {r : Int32} {μr : MM} (h : f_Mo_put_ N x1 x2 μ = some (r, μr)) : Cl D mX12_put_ [av_r 355, av_i x1, av_i x2] μ (po_i r μr) := by
  obtain ⟨d, rfl⟩ : ∃ d, D = d + 1 := ⟨D - 1, by omega⟩
  refine Cl_of pn_X12 (Nat.le_of_ble_eq_true rfl) ?_
  show Sm (d + 1) mX12_put_ 0 [some (av_r 355), some (av_i x1), some (av_i x2)] [] μ (po_i r μr)
  unfold f_Mo_put_ at h
  refine sm_aload_n dX12_put__0 rfl rfl ?_
  refine sm_iconst dX12_put__1 ic_0 ?_
  refine sm_putI dX12_put__2 fp_RX12_91 k_355 ?_
  replace h := wr_some h
  refine sm_aload_n dX12_put__5 rfl rfl ?_
  refine sm_iload_n dX12_put__6 rfl rfl ?_
  obtain ⟨t7, μ2z, g1, h⟩ := ob_some h
  refine sm_callV dX12_put__7 cv_X12_isThing ml_RX12_359 k_355 rfl rfl (by decide) (as := [av_i x1]) rfl (Nat.le_of_ble_eq_true rfl) rfl (s_Mo_isThing (D := d) (by omega) N g1) (fun r9 μ9 hp => ?_)
  rw [hp.1, hp.2]
  clear hp r9 μ9
  refine sm_if_eq (tgt := 47) dX12_put__10 (by decide) (fun g2 => ?_) (fun g2 => ?_)
  · replace h := it_t g2 h
    refine sm_iconst dX12_put__47 ic_m1 ?_
    cases h
    exact sm_ret_i (st := []) dX12_put__48 rfl ⟨rfl, rfl⟩
  · replace h := it_f g2 h
    refine sm_aload_n dX12_put__13 rfl rfl ?_
    refine sm_iload_n dX12_put__14 rfl rfl ?_
    obtain ⟨t15, μ3z, g3, h⟩ := ob_some h
    refine sm_callV dX12_put__15 cv_X12_isCard ml_RX12_362 k_355 rfl rfl (by decide) (as := [av_i x2]) rfl (Nat.le_of_ble_eq_true rfl) rfl (s_Mo_isCard (D := d) (by omega) N g3) (fun r9 μ9 hp => ?_)
    rw [hp.1, hp.2]
    clear hp r9 μ9
    refine sm_if_eq (tgt := 47) dX12_put__18 (by decide) (fun g4 => ?_) (fun g4 => ?_)
    · replace h := it_t g4 h
      refine sm_iconst dX12_put__47 ic_m1 ?_
      cases h
      exact sm_ret_i (st := []) dX12_put__48 rfl ⟨rfl, rfl⟩
    · replace h := it_f g4 h
      refine sm_aload_n dX12_put__21 rfl rfl ?_
      refine sm_aload_n dX12_put__22 rfl rfl ?_
      refine sm_getR dX12_put__23 fg_RX12_61 k_355 (rf_12_32 k_355) ?_
      refine sm_iload_n dX12_put__26 rfl rfl ?_
      obtain ⟨t27, μ4z, g5, h⟩ := ob_some h
      refine sm_callV dX12_put__27 cv_X12_cardOver ml_RX12_345 k_355 rfl rfl (by decide) (as := [av_r 368, av_i x1]) rfl (Nat.le_of_ble_eq_true rfl) rfl (s_Mo_cardOver (D := d) (by omega) N k_368 g5) (fun r9 μ9 hp => ?_)
      rw [hp.1, hp.2]
      clear hp r9 μ9
      refine sm_iconst dX12_put__30 ic_m1 ?_
      refine sm_icmp_ne (tgt := 47) dX12_put__31 (by decide) (fun g6 => ?_) (fun g6 => ?_)
      · replace h := it_f g6 h
        refine sm_iconst dX12_put__47 ic_m1 ?_
        cases h
        exact sm_ret_i (st := []) dX12_put__48 rfl ⟨rfl, rfl⟩
      · replace h := it_t g6 h
        refine sm_aload_n dX12_put__34 rfl rfl ?_
        refine sm_getR dX12_put__35 fg_RX12_61 k_355 (rf_12_32 k_355) ?_
        refine sm_bipush dX12_put__38 bp_20 ?_
        refine sm_iload_n dX12_put__40 rfl rfl ?_
        refine sm_imul dX12_put__41 ?_
        obtain ⟨g7, h⟩ := gd_some h
        refine sm_iald (j := (Int32.toNatClampNeg (20 * x2))) dX12_put__42 k_368 (in_sz n_368 g7) rfl ?_
        refine sm_iconst dX12_put__43 ic_m1 ?_
        refine sm_icmp_eq (tgt := 49) dX12_put__44 (by decide) (fun g8 => ?_) (fun g8 => ?_)
        · replace h := it_t g8 h
          refine sm_aload_n dX12_put__49 rfl rfl ?_
          obtain ⟨μ5z, g9, h⟩ := obv_some h
          refine sm_callV dX12_put__50 cv_X12_remember ml_RX12_372 k_355 rfl rfl (by decide) (as := []) rfl (Nat.le_of_ble_eq_true rfl) rfl (s_Mo_remember (D := d) (by omega) N g9) (fun r9 μ9 hp => ?_)
          rw [hp.1, hp.2]
          clear hp r9 μ9
          refine sm_aload_n dX12_put__53 rfl rfl ?_
          refine sm_getR dX12_put__54 fg_RX12_61 k_355 (rf_12_32 k_355) ?_
          refine sm_bipush dX12_put__57 bp_20 ?_
          refine sm_iload_n dX12_put__59 rfl rfl ?_
          refine sm_imul dX12_put__60 ?_
          refine sm_iload_n dX12_put__61 rfl rfl ?_
          obtain ⟨g10, h⟩ := gd_some h
          refine sm_iast (j := (Int32.toNatClampNeg (20 * x2))) dX12_put__62 k_368 (in_sz n_368 g10) rfl ?_
          replace h := wr_some h
          refine sm_aload_n dX12_put__63 rfl rfl ?_
          refine sm_getI dX12_put__64 fg_RX12_307 k_355 ?_
          cases h
          exact sm_ret_i (st := []) dX12_put__67 rfl ⟨rfl, rfl⟩
        · replace h := it_f g8 h
          refine sm_iconst dX12_put__47 ic_m1 ?_
          cases h
          exact sm_ret_i (st := []) dX12_put__48 rfl ⟨rfl, rfl⟩
set_option maxRecDepth 100000 in
set_option maxHeartbeats 4000000 in
theorem s_Mo_take {D : Nat} (hD : 1 ≤ D) (N : Nat) {x1 : Int32} {μ : MM} {r : Int32} {μr : MM} (h : f_Mo_take N x1 μ = some (r, μr)) : Cl D mX12_take [av_r 355, av_i x1] μ (po_i r μr) := by
  obtain ⟨d, rfl⟩ : ∃ d, D = d + 1 := ⟨D - 1, by omega⟩
  refine Cl_of pn_X12 (Nat.le_of_ble_eq_true rfl) ?_
  show Sm (d + 1) mX12_take 0 [some (av_r 355), some (av_i x1), none] [] μ (po_i r μr)
  unfold f_Mo_take at h
  refine sm_aload_n dX12_take_0 rfl rfl ?_
  refine sm_iconst dX12_take_1 ic_0 ?_
  refine sm_putI dX12_take_2 fp_RX12_91 k_355 ?_
  replace h := wr_some h
  refine sm_aload_n dX12_take_5 rfl rfl ?_
  refine sm_iload_n dX12_take_6 rfl rfl ?_
  obtain ⟨t7, μ2z, g1, h⟩ := ob_some h
  refine sm_callV dX12_take_7 cv_X12_isCard ml_RX12_362 k_355 rfl rfl (by decide) (as := [av_i x1]) rfl (Nat.le_of_ble_eq_true rfl) rfl (s_Mo_isCard (D := d) (by omega) N g1) (fun r9 μ9 hp => ?_)
  rw [hp.1, hp.2]
  clear hp r9 μ9
  refine sm_if_eq (tgt := 26) dX12_take_10 (by decide) (fun g2 => ?_) (fun g2 => ?_)
  · replace h := it_t g2 h
    refine sm_iconst dX12_take_26 ic_m1 ?_
    cases h
    exact sm_ret_i (st := []) dX12_take_27 rfl ⟨rfl, rfl⟩
  · replace h := it_f g2 h
    refine sm_aload_n dX12_take_13 rfl rfl ?_
    refine sm_getR dX12_take_14 fg_RX12_61 k_355 (rf_12_32 k_355) ?_
    refine sm_bipush dX12_take_17 bp_20 ?_
    refine sm_iload_n dX12_take_19 rfl rfl ?_
    refine sm_imul dX12_take_20 ?_
    obtain ⟨g3, h⟩ := gd_some h
    refine sm_iald (j := (Int32.toNatClampNeg (20 * x1))) dX12_take_21 k_368 (in_sz n_368 g3) rfl ?_
    refine sm_iconst dX12_take_22 ic_m1 ?_
    refine sm_icmp_ne (tgt := 28) dX12_take_23 (by decide) (fun g4 => ?_) (fun g4 => ?_)
    · replace h := it_f g4 h
      refine sm_aload_n dX12_take_28 rfl rfl ?_
      obtain ⟨μ3z, g5, h⟩ := obv_some h
      refine sm_callV dX12_take_29 cv_X12_remember ml_RX12_372 k_355 rfl rfl (by decide) (as := []) rfl (Nat.le_of_ble_eq_true rfl) rfl (s_Mo_remember (D := d) (by omega) N g5) (fun r9 μ9 hp => ?_)
      rw [hp.1, hp.2]
      clear hp r9 μ9
      refine sm_aload_n dX12_take_32 rfl rfl ?_
      refine sm_getR dX12_take_33 fg_RX12_61 k_355 (rf_12_32 k_355) ?_
      refine sm_bipush dX12_take_36 bp_20 ?_
      refine sm_iload_n dX12_take_38 rfl rfl ?_
      refine sm_imul dX12_take_39 ?_
      obtain ⟨g6, h⟩ := gd_some h
      refine sm_iald (j := (Int32.toNatClampNeg (20 * x1))) dX12_take_40 k_368 (in_sz n_368 g6) rfl ?_
      refine sm_istore_n dX12_take_41 rfl (Nat.le_of_ble_eq_true rfl) (pv_i rfl) ?_
      refine sm_aload_n dX12_take_42 rfl rfl ?_
      refine sm_getR dX12_take_43 fg_RX12_61 k_355 (rf_12_32 k_355) ?_
      refine sm_bipush dX12_take_46 bp_20 ?_
      refine sm_iload_n dX12_take_48 rfl rfl ?_
      refine sm_imul dX12_take_49 ?_
      refine sm_iconst dX12_take_50 ic_m1 ?_
      obtain ⟨g7, h⟩ := gd_some h
      refine sm_iast (j := (Int32.toNatClampNeg (20 * x1))) dX12_take_51 k_368 (in_sz n_368 g7) rfl ?_
      replace h := wr_some h
      refine sm_iload_n dX12_take_52 rfl rfl ?_
      cases h
      exact sm_ret_i (st := []) dX12_take_53 rfl ⟨rfl, rfl⟩
    · replace h := it_t g4 h
      refine sm_iconst dX12_take_26 ic_m1 ?_
      cases h
      exact sm_ret_i (st := []) dX12_take_27 rfl ⟨rfl, rfl⟩
set_option maxRecDepth 100000 in
set_option maxHeartbeats 4000000 in
theorem s_Mo_leftOf_L4 {D : Nat} (hD : 1 ≤ D) (N : Nat) {q0 : Nat} (hk_q0 : sh_k q0 = 20) {r : Int32} {μr : MM} : ∀ (n : Nat) (x1 : Int32) (x2 : Int32) (x3 : Int32) (μ : MM), f_Mo_leftOf_L4 N q0 n x1 x2 x3 μ = some (r, μr) → Sm D mX12_leftOf 4 [some (av_r q0), some (av_i x1), some (av_i x2), some (av_i x3)] [] μ (po_i r μr) := by
  obtain ⟨d, rfl⟩ : ∃ d, D = d + 1 := ⟨D - 1, by omega⟩
  intro n
  induction n with
  | zero => intro x1 x2 x3 μ h; cases (show none = some (r, μr) from h)
  | succ n ih =>
    intro x1 x2 x3 μ h
    rw [f_Mo_leftOf_L4] at h
    refine sm_iload_n dX12_leftOf_4 rfl rfl ?_
    refine sm_aload_n dX12_leftOf_5 rfl rfl ?_
    refine sm_iload_n dX12_leftOf_6 rfl rfl ?_
    obtain ⟨t7, μ1z, g1, h⟩ := ob_some h
    refine sm_callS dX12_leftOf_7 cs_X12_wordsOf ml_RX12_323 (as := [av_r q0, av_i x1]) rfl (Nat.le_of_ble_eq_true rfl) rfl (s_Mo_wordsOf (D := d) (by omega) N hk_q0 g1) (fun r9 μ9 hp => ?_)
    rw [hp.1, hp.2]
    clear hp r9 μ9
    refine sm_icmp_ge (tgt := 36) dX12_leftOf_10 (by decide) (fun g2 => ?_) (fun g2 => ?_)
    · replace h := it_t g2 h
      refine sm_iload_n dX12_leftOf_36 rfl rfl ?_
      cases h
      exact sm_ret_i (st := []) dX12_leftOf_37 rfl ⟨rfl, rfl⟩
    · replace h := it_f g2 h
      refine sm_iload_n dX12_leftOf_13 rfl rfl ?_
      refine sm_aload_n dX12_leftOf_14 rfl rfl ?_
      refine sm_iload_n dX12_leftOf_15 rfl rfl ?_
      refine sm_iload_n dX12_leftOf_16 rfl rfl ?_
      obtain ⟨t17, μ2z, g3, h⟩ := ob_some h
      refine sm_callS dX12_leftOf_17 cs_X12_inkOf ml_RX12_327 (as := [av_r q0, av_i x1, av_i x3]) rfl (Nat.le_of_ble_eq_true rfl) rfl (s_Mo_inkOf (D := d) (by omega) N hk_q0 g3) (fun r9 μ9 hp => ?_)
      rw [hp.1, hp.2]
      clear hp r9 μ9
      have hj20 : ∀ (v20_0 : Int32), v20_0 = (if t17 ≤ 0 then (0 : Int32) else 1) → Sm (d + 1) mX12_leftOf 28 [some (av_r q0), some (av_i x1), none, some (av_i x3)] [av_i v20_0, av_i x2] μ2z (po_i r μr) := by
        intro v20_0 ev20_0
        subst ev20_0
        refine sm_iadd dX12_leftOf_28 ?_
        refine sm_istore_n dX12_leftOf_29 rfl (Nat.le_of_ble_eq_true rfl) (pv_i rfl) ?_
        refine sm_iinc dX12_leftOf_30 rfl (congrArg (HAdd.hAdd x3) ic_1) (Nat.le_of_ble_eq_true rfl) (pv_i rfl) ?_
        refine sm_goto (tgt := 4) dX12_leftOf_33 (by decide) ?_
        exact Sm_weak (le_s rfl (le_s rfl (le_s rfl (le_s rfl le_0)))) (ih x1 (x2 + (if t17 ≤ 0 then (0 : Int32) else 1)) (x3 + 1) μ2z h)
      refine sm_if_le (tgt := 27) dX12_leftOf_20 (by decide) (fun c20_0 => ?_) (fun c20_0 => ?_)
      · refine sm_iconst dX12_leftOf_27 ic_0 ?_
        exact Sm_weak (le_s rfl (le_s rfl (le_n (le_s rfl le_0)))) (hj20 _ (if_pos c20_0).symm)
      · refine sm_iconst dX12_leftOf_23 ic_1 ?_
        refine sm_goto (tgt := 28) dX12_leftOf_24 (by decide) ?_
        exact Sm_weak (le_s rfl (le_s rfl (le_n (le_s rfl le_0)))) (hj20 _ (if_neg c20_0).symm)
set_option maxRecDepth 100000 in
set_option maxHeartbeats 4000000 in
theorem s_Mo_leftOf {D : Nat} (hD : 1 ≤ D) (N : Nat) {q0 : Nat} (hk_q0 : sh_k q0 = 20) {x1 : Int32} {μ : MM} {r : Int32} {μr : MM} (h : f_Mo_leftOf N q0 x1 μ = some (r, μr)) : Cl D mX12_leftOf [av_r q0, av_i x1] μ (po_i r μr) := by
  obtain ⟨d, rfl⟩ : ∃ d, D = d + 1 := ⟨D - 1, by omega⟩
  refine Cl_of pn_X12 (Nat.le_of_ble_eq_true rfl) ?_
  show Sm (d + 1) mX12_leftOf 0 [some (av_r q0), some (av_i x1), none, none] [] μ (po_i r μr)
  unfold f_Mo_leftOf at h
  refine sm_iconst dX12_leftOf_0 ic_0 ?_
  refine sm_istore_n dX12_leftOf_1 rfl (Nat.le_of_ble_eq_true rfl) (pv_i rfl) ?_
  refine sm_iconst dX12_leftOf_2 ic_0 ?_
  refine sm_istore_n dX12_leftOf_3 rfl (Nat.le_of_ble_eq_true rfl) (pv_i rfl) ?_
  exact Sm_weak (le_s rfl (le_s rfl (le_s rfl (le_s rfl le_0)))) (s_Mo_leftOf_L4 hD N hk_q0 N x1 0 0 μ h)
set_option maxRecDepth 100000 in
set_option maxHeartbeats 4000000 in
theorem s_Mo_copy_L53 {D : Nat} (hD : 2 ≤ D) (N : Nat) {r : Int32} {μr : MM} : ∀ (n : Nat) (x1 : Int32) (x2 : Int32) (μ : MM), f_Mo_copy_L53 N n x1 x2 μ = some (r, μr) → Sm D mX12_copy 53 [some (av_r 355), some (av_i x1), some (av_i x2)] [] μ (po_i r μr) := by
  obtain ⟨d, rfl⟩ : ∃ d, D = d + 1 := ⟨D - 1, by omega⟩
  intro n
  induction n with
  | zero => intro x1 x2 μ h; cases (show none = some (r, μr) from h)
  | succ n ih =>
    intro x1 x2 μ h
    rw [f_Mo_copy_L53] at h
    refine sm_iload_n dX12_copy_53 rfl rfl ?_
    refine sm_aload_n dX12_copy_54 rfl rfl ?_
    refine sm_getR dX12_copy_55 fg_RX12_61 k_355 (rf_12_32 k_355) ?_
    refine sm_iload_n dX12_copy_58 rfl rfl ?_
    obtain ⟨t59, μ6z, g10, h⟩ := ob_some h
    refine sm_callS dX12_copy_59 cs_X12_wordsOf ml_RX12_323 (as := [av_r 368, av_i x1]) rfl (Nat.le_of_ble_eq_true rfl) rfl (s_Mo_wordsOf (D := d) (by omega) N k_368 g10) (fun r9 μ9 hp => ?_)
    rw [hp.1, hp.2]
    clear hp r9 μ9
    refine sm_icmp_ge (tgt := 100) dX12_copy_62 (by decide) (fun g11 => ?_) (fun g11 => ?_)
    · replace h := it_t g11 h
      refine sm_aload_n dX12_copy_100 rfl rfl ?_
      refine sm_getR dX12_copy_101 fg_RX12_61 k_355 (rf_12_32 k_355) ?_
      refine sm_bipush dX12_copy_104 bp_121 ?_
      refine sm_iald (j := 121) dX12_copy_106 k_368 (in_sz n_368 (by decide)) (by decide) ?_
      cases h
      exact sm_ret_i (st := []) dX12_copy_107 rfl ⟨rfl, rfl⟩
    · replace h := it_f g11 h
      refine sm_aload_n dX12_copy_65 rfl rfl ?_
      refine sm_getR dX12_copy_66 fg_RX12_61 k_355 (rf_12_32 k_355) ?_
      refine sm_iload_n dX12_copy_69 rfl rfl ?_
      refine sm_iload_n dX12_copy_70 rfl rfl ?_
      obtain ⟨t71, μ7z, g13, h⟩ := ob_some h
      refine sm_callS dX12_copy_71 cs_X12_inkOf ml_RX12_327 (as := [av_r 368, av_i x1, av_i x2]) rfl (Nat.le_of_ble_eq_true rfl) rfl (s_Mo_inkOf (D := d) (by omega) N k_368 g13) (fun r9 μ9 hp => ?_)
      rw [hp.1, hp.2]
      clear hp r9 μ9
      refine sm_if_le (tgt := 94) dX12_copy_74 (by decide) (fun g14 => ?_) (fun g14 => ?_)
      · replace h := it_t g14 h
        refine sm_iinc dX12_copy_94 rfl (congrArg (HAdd.hAdd x2) ic_1) (Nat.le_of_ble_eq_true rfl) (pv_i rfl) ?_
        refine sm_goto (tgt := 53) dX12_copy_97 (by decide) ?_
        exact Sm_weak (le_s rfl (le_s rfl (le_s rfl le_0))) (ih x1 (x2 + 1) μ7z h)
      · replace h := it_f g14 h
        refine sm_aload_n dX12_copy_77 rfl rfl ?_
        refine sm_getR dX12_copy_78 fg_RX12_61 k_355 (rf_12_32 k_355) ?_
        refine sm_bipush dX12_copy_81 bp_20 ?_
        refine sm_iload_n dX12_copy_83 rfl rfl ?_
        refine sm_imul dX12_copy_84 ?_
        refine sm_iconst dX12_copy_85 ic_4 ?_
        refine sm_iadd dX12_copy_86 ?_
        refine sm_iconst dX12_copy_87 ic_3 ?_
        refine sm_iload_n dX12_copy_88 rfl rfl ?_
        refine sm_imul dX12_copy_89 ?_
        refine sm_iadd dX12_copy_90 ?_
        refine sm_bipush dX12_copy_91 bp_9 ?_
        obtain ⟨g15, h⟩ := gd_some h
        refine sm_iast (j := (Int32.toNatClampNeg (((20 * x1) + 4) + (3 * x2)))) dX12_copy_93 k_368 (in_sz n_368 g15) rfl ?_
        replace h := wr_some h
        refine sm_iinc dX12_copy_94 rfl (congrArg (HAdd.hAdd x2) ic_1) (Nat.le_of_ble_eq_true rfl) (pv_i rfl) ?_
        refine sm_goto (tgt := 53) dX12_copy_97 (by decide) ?_
        exact Sm_weak (le_s rfl (le_s rfl (le_s rfl le_0))) (ih x1 (x2 + 1) (mm_I μ7z 368 (Int32.toNatClampNeg (((20 * x1) + 4) + (3 * x2))) 9) h)
set_option maxRecDepth 100000 in
set_option maxHeartbeats 4000000 in
theorem s_Mo_copy {D : Nat} (hD : 2 ≤ D) (N : Nat) {x1 : Int32} {μ : MM} {r : Int32} {μr : MM} (h : f_Mo_copy N x1 μ = some (r, μr)) : Cl D mX12_copy [av_r 355, av_i x1] μ (po_i r μr) := by
  obtain ⟨d, rfl⟩ : ∃ d, D = d + 1 := ⟨D - 1, by omega⟩
  refine Cl_of pn_X12 (Nat.le_of_ble_eq_true rfl) ?_
  show Sm (d + 1) mX12_copy 0 [some (av_r 355), some (av_i x1), none] [] μ (po_i r μr)
  unfold f_Mo_copy at h
  refine sm_aload_n dX12_copy_0 rfl rfl ?_
  refine sm_iconst dX12_copy_1 ic_0 ?_
  refine sm_putI dX12_copy_2 fp_RX12_91 k_355 ?_
  replace h := wr_some h
  refine sm_aload_n dX12_copy_5 rfl rfl ?_
  refine sm_iload_n dX12_copy_6 rfl rfl ?_
  obtain ⟨t7, μ2z, g1, h⟩ := ob_some h
  refine sm_callV dX12_copy_7 cv_X12_isCard ml_RX12_362 k_355 rfl rfl (by decide) (as := [av_i x1]) rfl (Nat.le_of_ble_eq_true rfl) rfl (s_Mo_isCard (D := d) (by omega) N g1) (fun r9 μ9 hp => ?_)
  rw [hp.1, hp.2]
  clear hp r9 μ9
  refine sm_if_eq (tgt := 34) dX12_copy_10 (by decide) (fun g2 => ?_) (fun g2 => ?_)
  · replace h := it_t g2 h
    refine sm_iconst dX12_copy_34 ic_m1 ?_
    cases h
    exact sm_ret_i (st := []) dX12_copy_35 rfl ⟨rfl, rfl⟩
  · replace h := it_f g2 h
    refine sm_aload_n dX12_copy_13 rfl rfl ?_
    refine sm_getR dX12_copy_14 fg_RX12_61 k_355 (rf_12_32 k_355) ?_
    refine sm_bipush dX12_copy_17 bp_121 ?_
    refine sm_iald (j := 121) dX12_copy_19 k_368 (in_sz n_368 (by decide)) (by decide) ?_
    refine sm_if_eq (tgt := 34) dX12_copy_20 (by decide) (fun g4 => ?_) (fun g4 => ?_)
    · replace h := it_t g4 h
      refine sm_iconst dX12_copy_34 ic_m1 ?_
      cases h
      exact sm_ret_i (st := []) dX12_copy_35 rfl ⟨rfl, rfl⟩
    · replace h := it_f g4 h
      refine sm_aload_n dX12_copy_23 rfl rfl ?_
      refine sm_getR dX12_copy_24 fg_RX12_61 k_355 (rf_12_32 k_355) ?_
      refine sm_iload_n dX12_copy_27 rfl rfl ?_
      obtain ⟨t28, μ3z, g5, h⟩ := ob_some h
      refine sm_callS dX12_copy_28 cs_X12_leftOf ml_RX12_375 (as := [av_r 368, av_i x1]) rfl (Nat.le_of_ble_eq_true rfl) rfl (s_Mo_leftOf (D := d) (by omega) N k_368 g5) (fun r9 μ9 hp => ?_)
      rw [hp.1, hp.2]
      clear hp r9 μ9
      refine sm_if_ne (tgt := 36) dX12_copy_31 (by decide) (fun g6 => ?_) (fun g6 => ?_)
      · replace h := it_f g6 h
        refine sm_aload_n dX12_copy_36 rfl rfl ?_
        obtain ⟨μ4z, g7, h⟩ := obv_some h
        refine sm_callV dX12_copy_37 cv_X12_remember ml_RX12_372 k_355 rfl rfl (by decide) (as := []) rfl (Nat.le_of_ble_eq_true rfl) rfl (s_Mo_remember (D := d) (by omega) N g7) (fun r9 μ9 hp => ?_)
        rw [hp.1, hp.2]
        clear hp r9 μ9
        refine sm_aload_n dX12_copy_40 rfl rfl ?_
        refine sm_getR dX12_copy_41 fg_RX12_61 k_355 (rf_12_32 k_355) ?_
        refine sm_bipush dX12_copy_44 bp_121 ?_
        refine sm_dup2 dX12_copy_46 rfl rfl ?_
        refine sm_iald (j := 121) dX12_copy_47 k_368 (in_sz n_368 (by decide)) (by decide) ?_
        refine sm_iconst dX12_copy_48 ic_1 ?_
        refine sm_isub dX12_copy_49 ?_
        refine sm_iast (j := 121) dX12_copy_50 k_368 (in_sz n_368 (by decide)) (by decide) ?_
        replace h := wr_some h
        refine sm_iconst dX12_copy_51 ic_0 ?_
        refine sm_istore_n dX12_copy_52 rfl (Nat.le_of_ble_eq_true rfl) (pv_i rfl) ?_
        exact Sm_weak (le_s rfl (le_s rfl (le_s rfl le_0))) (s_Mo_copy_L53 hD N N x1 0 (mm_I μ4z 368 121 ((μ4z.1 368 121) - 1)) h)
      · replace h := it_t g6 h
        refine sm_iconst dX12_copy_34 ic_m1 ?_
        cases h
        exact sm_ret_i (st := []) dX12_copy_35 rfl ⟨rfl, rfl⟩
set_option maxRecDepth 100000 in
set_option maxHeartbeats 4000000 in
theorem s_Mo_lamp_B77 {D : Nat} (hD : 2 ≤ D) (N : Nat) {r : Int32} {μr : MM} {k32 : Int32 → Int32 → MM → Option (Int32 × MM)} (hk32 : ∀ (x1 : Int32) (x2 : Int32) (μ : MM), k32 x1 x2 μ = some (r, μr) → Sm D mX12_lamp 32 [some (av_r 355), some (av_i x1), some (av_i x2)] [] μ (po_i r μr)) (x1 : Int32) (x2 : Int32) (s1 : Int32) (s2 : Int32) (s3 : Int32) (μ : MM) (h : f_Mo_lamp_B77 N k32 x1 x2 s1 s2 s3 μ = some (r, μr)) : Sm D mX12_lamp 77 [some (av_r 355), some (av_i x1), some (av_i x2)] [av_i s3, av_i s2, av_i s1, av_r 368] μ (po_i r μr) := by
  obtain ⟨d, rfl⟩ : ∃ d, D = d + 1 := ⟨D - 1, by omega⟩
  unfold f_Mo_lamp_B77 at h
  refine sm_isub dX12_lamp_77 ?_
  obtain ⟨g11, h⟩ := gd_some h
  refine sm_iast (j := (Int32.toNatClampNeg s1)) dX12_lamp_78 k_368 (in_sz n_368 g11) rfl ?_
  replace h := wr_some h
  refine sm_iinc dX12_lamp_79 rfl (congrArg (HAdd.hAdd x2) ic_1) (Nat.le_of_ble_eq_true rfl) (pv_i rfl) ?_
  refine sm_goto (tgt := 32) dX12_lamp_82 (by decide) ?_
  exact Sm_weak (le_s rfl (le_s rfl (le_s rfl le_0))) (hk32 x1 (x2 + 1) (mm_I μ 368 (Int32.toNatClampNeg s1) (s2 - s3)) h)
set_option maxRecDepth 100000 in
set_option maxHeartbeats 4000000 in
theorem s_Mo_lamp_L32 {D : Nat} (hD : 2 ≤ D) (N : Nat) {r : Int32} {μr : MM} : ∀ (n : Nat) (x1 : Int32) (x2 : Int32) (μ : MM), f_Mo_lamp_L32 N n x1 x2 μ = some (r, μr) → Sm D mX12_lamp 32 [some (av_r 355), some (av_i x1), some (av_i x2)] [] μ (po_i r μr) := by
  obtain ⟨d, rfl⟩ : ∃ d, D = d + 1 := ⟨D - 1, by omega⟩
  intro n
  induction n with
  | zero => intro x1 x2 μ h; cases (show none = some (r, μr) from h)
  | succ n ih =>
    intro x1 x2 μ h
    rw [f_Mo_lamp_L32] at h
    refine sm_iload_n dX12_lamp_32 rfl rfl ?_
    refine sm_aload_n dX12_lamp_33 rfl rfl ?_
    refine sm_getR dX12_lamp_34 fg_RX12_61 k_355 (rf_12_32 k_355) ?_
    refine sm_iload_n dX12_lamp_37 rfl rfl ?_
    obtain ⟨t38, μ5z, g6, h⟩ := ob_some h
    refine sm_callS dX12_lamp_38 cs_X12_wordsOf ml_RX12_323 (as := [av_r 368, av_i x1]) rfl (Nat.le_of_ble_eq_true rfl) rfl (s_Mo_wordsOf (D := d) (by omega) N k_368 g6) (fun r9 μ9 hp => ?_)
    rw [hp.1, hp.2]
    clear hp r9 μ9
    refine sm_icmp_ge (tgt := 85) dX12_lamp_41 (by decide) (fun g7 => ?_) (fun g7 => ?_)
    · replace h := it_t g7 h
      refine sm_aload_n dX12_lamp_85 rfl rfl ?_
      refine sm_getR dX12_lamp_86 fg_RX12_61 k_355 (rf_12_32 k_355) ?_
      refine sm_iload_n dX12_lamp_89 rfl rfl ?_
      obtain ⟨t90, μ6z, g8, h⟩ := ob_some h
      refine sm_callS dX12_lamp_90 cs_X12_leftOf ml_RX12_375 (as := [av_r 368, av_i x1]) rfl (Nat.le_of_ble_eq_true rfl) rfl (s_Mo_leftOf (D := d) (by omega) N k_368 g8) (fun r9 μ9 hp => ?_)
      rw [hp.1, hp.2]
      clear hp r9 μ9
      cases h
      exact sm_ret_i (st := []) dX12_lamp_93 rfl ⟨rfl, rfl⟩
    · replace h := it_f g7 h
      refine sm_aload_n dX12_lamp_44 rfl rfl ?_
      refine sm_getR dX12_lamp_45 fg_RX12_61 k_355 (rf_12_32 k_355) ?_
      refine sm_bipush dX12_lamp_48 bp_20 ?_
      refine sm_iload_n dX12_lamp_50 rfl rfl ?_
      refine sm_imul dX12_lamp_51 ?_
      refine sm_iconst dX12_lamp_52 ic_4 ?_
      refine sm_iadd dX12_lamp_53 ?_
      refine sm_iconst dX12_lamp_54 ic_3 ?_
      refine sm_iload_n dX12_lamp_55 rfl rfl ?_
      refine sm_imul dX12_lamp_56 ?_
      refine sm_iadd dX12_lamp_57 ?_
      refine sm_dup2 dX12_lamp_58 rfl rfl ?_
      obtain ⟨g9, h⟩ := gd_some h
      refine sm_iald (j := (Int32.toNatClampNeg (((20 * x1) + 4) + (3 * x2)))) dX12_lamp_59 k_368 (in_sz n_368 g9) rfl ?_
      refine sm_aload_n dX12_lamp_60 rfl rfl ?_
      refine sm_getR dX12_lamp_61 fg_RX12_61 k_355 (rf_12_32 k_355) ?_
      refine sm_iload_n dX12_lamp_64 rfl rfl ?_
      refine sm_iload_n dX12_lamp_65 rfl rfl ?_
      obtain ⟨t66, μ7z, g10, h⟩ := ob_some h
      refine sm_callS dX12_lamp_66 cs_X12_inkOf ml_RX12_327 (as := [av_r 368, av_i x1, av_i x2]) rfl (Nat.le_of_ble_eq_true rfl) rfl (s_Mo_inkOf (D := d) (by omega) N k_368 g10) (fun r9 μ9 hp => ?_)
      rw [hp.1, hp.2]
      clear hp r9 μ9
      have hj69 : ∀ (v69_0 : Int32), v69_0 = (if t66 ≤ 0 then (0 : Int32) else 1) → Sm (d + 1) mX12_lamp 77 [some (av_r 355), some (av_i x1), some (av_i x2)] [av_i v69_0, av_i (μ5z.1 368 (Int32.toNatClampNeg (((20 * x1) + 4) + (3 * x2)))), av_i (((20 * x1) + 4) + (3 * x2)), av_r 368] μ7z (po_i r μr) := by
        intro v69_0 ev69_0
        subst ev69_0
        exact Sm_weak (le_s rfl (le_s rfl (le_s rfl le_0))) (s_Mo_lamp_B77 hD N ih x1 x2 (((20 * x1) + 4) + (3 * x2)) (μ5z.1 368 (Int32.toNatClampNeg (((20 * x1) + 4) + (3 * x2)))) (if t66 ≤ 0 then (0 : Int32) else 1) μ7z h)
      refine sm_if_le (tgt := 76) dX12_lamp_69 (by decide) (fun c69_0 => ?_) (fun c69_0 => ?_)
      · refine sm_iconst dX12_lamp_76 ic_0 ?_
        exact Sm_weak (le_s rfl (le_s rfl (le_s rfl le_0))) (hj69 _ (if_pos c69_0).symm)
      · refine sm_iconst dX12_lamp_72 ic_1 ?_
        refine sm_goto (tgt := 77) dX12_lamp_73 (by decide) ?_
        exact Sm_weak (le_s rfl (le_s rfl (le_s rfl le_0))) (hj69 _ (if_neg c69_0).symm)
set_option maxRecDepth 100000 in
set_option maxHeartbeats 4000000 in
theorem s_Mo_lamp {D : Nat} (hD : 2 ≤ D) (N : Nat) {x1 : Int32} {μ : MM} {r : Int32} {μr : MM} (h : f_Mo_lamp N x1 μ = some (r, μr)) : Cl D mX12_lamp [av_r 355, av_i x1] μ (po_i r μr) := by
  obtain ⟨d, rfl⟩ : ∃ d, D = d + 1 := ⟨D - 1, by omega⟩
  refine Cl_of pn_X12 (Nat.le_of_ble_eq_true rfl) ?_
  show Sm (d + 1) mX12_lamp 0 [some (av_r 355), some (av_i x1), none] [] μ (po_i r μr)
  unfold f_Mo_lamp at h
  refine sm_aload_n dX12_lamp_0 rfl rfl ?_
  refine sm_iconst dX12_lamp_1 ic_0 ?_
  refine sm_putI dX12_lamp_2 fp_RX12_91 k_355 ?_
  replace h := wr_some h
  refine sm_aload_n dX12_lamp_5 rfl rfl ?_
  refine sm_iload_n dX12_lamp_6 rfl rfl ?_
  obtain ⟨t7, μ2z, g1, h⟩ := ob_some h
  refine sm_callV dX12_lamp_7 cv_X12_isCard ml_RX12_362 k_355 rfl rfl (by decide) (as := [av_i x1]) rfl (Nat.le_of_ble_eq_true rfl) rfl (s_Mo_isCard (D := d) (by omega) N g1) (fun r9 μ9 hp => ?_)
  rw [hp.1, hp.2]
  clear hp r9 μ9
  refine sm_if_eq (tgt := 24) dX12_lamp_10 (by decide) (fun g2 => ?_) (fun g2 => ?_)
  · replace h := it_t g2 h
    refine sm_iconst dX12_lamp_24 ic_m1 ?_
    cases h
    exact sm_ret_i (st := []) dX12_lamp_25 rfl ⟨rfl, rfl⟩
  · replace h := it_f g2 h
    refine sm_aload_n dX12_lamp_13 rfl rfl ?_
    refine sm_getR dX12_lamp_14 fg_RX12_61 k_355 (rf_12_32 k_355) ?_
    refine sm_iload_n dX12_lamp_17 rfl rfl ?_
    obtain ⟨t18, μ3z, g3, h⟩ := ob_some h
    refine sm_callS dX12_lamp_18 cs_X12_leftOf ml_RX12_375 (as := [av_r 368, av_i x1]) rfl (Nat.le_of_ble_eq_true rfl) rfl (s_Mo_leftOf (D := d) (by omega) N k_368 g3) (fun r9 μ9 hp => ?_)
    rw [hp.1, hp.2]
    clear hp r9 μ9
    refine sm_if_ne (tgt := 26) dX12_lamp_21 (by decide) (fun g4 => ?_) (fun g4 => ?_)
    · replace h := it_f g4 h
      refine sm_aload_n dX12_lamp_26 rfl rfl ?_
      obtain ⟨μ4z, g5, h⟩ := obv_some h
      refine sm_callV dX12_lamp_27 cv_X12_remember ml_RX12_372 k_355 rfl rfl (by decide) (as := []) rfl (Nat.le_of_ble_eq_true rfl) rfl (s_Mo_remember (D := d) (by omega) N g5) (fun r9 μ9 hp => ?_)
      rw [hp.1, hp.2]
      clear hp r9 μ9
      refine sm_iconst dX12_lamp_30 ic_0 ?_
      refine sm_istore_n dX12_lamp_31 rfl (Nat.le_of_ble_eq_true rfl) (pv_i rfl) ?_
      exact Sm_weak (le_s rfl (le_s rfl (le_s rfl le_0))) (s_Mo_lamp_L32 hD N N x1 0 μ4z h)
    · replace h := it_t g4 h
      refine sm_iconst dX12_lamp_24 ic_m1 ?_
      cases h
      exact sm_ret_i (st := []) dX12_lamp_25 rfl ⟨rfl, rfl⟩
