set_option maxRecDepth 100000 in
set_option maxHeartbeats 4000000 in
theorem s_Ma_leastPrices_L8 {D : Nat} (hD : 0 ≤ D) (N : Nat) {r : Int32} {μr : MM} : ∀ (n : Nat) (x1 : Int32) (x2 : Int32) (x3 : Int32) (x4 : Int32) (x5 : Int32) (μ : MM), f_Ma_leastPrices_L8 N n x1 x2 x3 x4 x5 μ = some (r, μr) → Sm D mX6_leastPrices 8 [some (av_r 333), some (av_i x1), some (av_i x2), some (av_i x3), some (av_i x4), some (av_i x5)] [] μ (po_i r μr) := by
  intro n
  induction n with
  | zero => intro x1 x2 x3 x4 x5 μ h; cases (show none = some (r, μr) from h)
  | succ n ih =>
    intro x1 x2 x3 x4 x5 μ h
    rw [f_Ma_leastPrices_L8] at h
    refine sm_iload dX6_leastPrices_8 rfl ?_
    refine sm_aload_n dX6_leastPrices_10 rfl rfl ?_
    refine sm_getR dX6_leastPrices_11 fg_RX6_43 k_333 (rf_6_3 k_333) ?_
    refine sm_getI dX6_leastPrices_14 fg_RX6_69 k_23 ?_
    refine sm_icmp_ge (tgt := 67) dX6_leastPrices_17 (by decide) (fun g1 => ?_) (fun g1 => ?_)
    · replace h := it_t g1 h
      refine sm_iload_n dX6_leastPrices_67 rfl rfl ?_
      cases h
      exact sm_ret_i (st := []) dX6_leastPrices_68 rfl ⟨rfl, rfl⟩
    · replace h := it_f g1 h
      refine sm_iload dX6_leastPrices_20 rfl ?_
      refine sm_iload_n dX6_leastPrices_22 rfl rfl ?_
      refine sm_icmp_ge (tgt := 67) dX6_leastPrices_23 (by decide) (fun g2 => ?_) (fun g2 => ?_)
      · replace h := it_t g2 h
        refine sm_iload_n dX6_leastPrices_67 rfl rfl ?_
        cases h
        exact sm_ret_i (st := []) dX6_leastPrices_68 rfl ⟨rfl, rfl⟩
      · replace h := it_f g2 h
        refine sm_iload_n dX6_leastPrices_26 rfl rfl ?_
        refine sm_aload_n dX6_leastPrices_27 rfl rfl ?_
        refine sm_getR dX6_leastPrices_28 fg_RX6_25 k_333 (rf_6_5 k_333) ?_
        refine sm_iload dX6_leastPrices_31 rfl ?_
        obtain ⟨g3, h⟩ := gd_some h
        refine sm_iald (j := (Int32.toNatClampNeg x5)) dX6_leastPrices_33 k_335 (in_sz n_335 g3) rfl ?_
        refine sm_ishr dX6_leastPrices_34 ?_
        refine sm_iconst dX6_leastPrices_35 ic_1 ?_
        refine sm_iand dX6_leastPrices_36 ?_
        refine sm_if_ne (tgt := 61) dX6_leastPrices_37 (by decide) (fun g4 => ?_) (fun g4 => ?_)
        · replace h := it_f g4 h
          refine sm_iinc dX6_leastPrices_61 rfl (congrArg (HAdd.hAdd x5) ic_1) (Nat.le_of_ble_eq_true rfl) (pv_i rfl) ?_
          refine sm_goto (tgt := 8) dX6_leastPrices_64 (by decide) ?_
          exact Sm_weak (le_s rfl (le_s rfl (le_s rfl (le_s rfl (le_s rfl (le_s rfl le_0)))))) (ih x1 x2 x3 x4 (x5 + 1) μ h)
        · replace h := it_t g4 h
          refine sm_iload_n dX6_leastPrices_40 rfl rfl ?_
          refine sm_aload_n dX6_leastPrices_41 rfl rfl ?_
          refine sm_getR dX6_leastPrices_42 fg_RX6_43 k_333 (rf_6_3 k_333) ?_
          refine sm_getR dX6_leastPrices_45 fg_RX6_108 k_23 (rf_1_2 k_23) ?_
          refine sm_aload_n dX6_leastPrices_48 rfl rfl ?_
          refine sm_getR dX6_leastPrices_49 fg_RX6_25 k_333 (rf_6_5 k_333) ?_
          refine sm_iload dX6_leastPrices_52 rfl ?_
          obtain ⟨g5, h⟩ := gd_some h
          refine sm_iald (j := (Int32.toNatClampNeg x5)) dX6_leastPrices_54 k_335 (in_sz n_335 g5) rfl ?_
          obtain ⟨g6, h⟩ := gd_some h
          refine sm_iald (j := (Int32.toNatClampNeg (μ.1 335 (Int32.toNatClampNeg x5)))) dX6_leastPrices_55 k_24 (in_sz n_24 g6) rfl ?_
          refine sm_iadd dX6_leastPrices_56 ?_
          refine sm_istore_n dX6_leastPrices_57 rfl (Nat.le_of_ble_eq_true rfl) (pv_i rfl) ?_
          refine sm_iinc dX6_leastPrices_58 rfl (congrArg (HAdd.hAdd x4) ic_1) (Nat.le_of_ble_eq_true rfl) (pv_i rfl) ?_
          refine sm_iinc dX6_leastPrices_61 rfl (congrArg (HAdd.hAdd x5) ic_1) (Nat.le_of_ble_eq_true rfl) (pv_i rfl) ?_
          refine sm_goto (tgt := 8) dX6_leastPrices_64 (by decide) ?_
          exact Sm_weak (le_s rfl (le_s rfl (le_s rfl (le_s rfl (le_s rfl (le_s rfl le_0)))))) (ih x1 x2 (x3 + (μ.1 24 (Int32.toNatClampNeg (μ.1 335 (Int32.toNatClampNeg x5))))) (x4 + 1) (x5 + 1) μ h)
set_option maxRecDepth 100000 in
set_option maxHeartbeats 4000000 in
theorem s_Ma_leastPrices {D : Nat} (hD : 0 ≤ D) (N : Nat) {x1 : Int32} {x2 : Int32} {μ : MM} {r : Int32} {μr : MM} (h : f_Ma_leastPrices N x1 x2 μ = some (r, μr)) : Cl D mX6_leastPrices [av_r 333, av_i x1, av_i x2] μ (po_i r μr) := by
  refine Cl_of pn_X6 (Nat.le_of_ble_eq_true rfl) ?_
  show Sm D mX6_leastPrices 0 [some (av_r 333), some (av_i x1), some (av_i x2), none, none, none] [] μ (po_i r μr)
  unfold f_Ma_leastPrices at h
  refine sm_iconst dX6_leastPrices_0 ic_0 ?_
  refine sm_istore_n dX6_leastPrices_1 rfl (Nat.le_of_ble_eq_true rfl) (pv_i rfl) ?_
  refine sm_iconst dX6_leastPrices_2 ic_0 ?_
  refine sm_istore dX6_leastPrices_3 (Nat.le_of_ble_eq_true rfl) (pv_i rfl) ?_
  refine sm_iconst dX6_leastPrices_5 ic_0 ?_
  refine sm_istore dX6_leastPrices_6 (Nat.le_of_ble_eq_true rfl) (pv_i rfl) ?_
  exact Sm_weak (le_s rfl (le_s rfl (le_s rfl (le_s rfl (le_s rfl (le_s rfl le_0)))))) (s_Ma_leastPrices_L8 hD N N x1 x2 0 0 0 μ h)
set_option maxRecDepth 100000 in
set_option maxHeartbeats 4000000 in
theorem s_Ma_agrees_B89 {D : Nat} (hD : 0 ≤ D) (N : Nat) {r : Int32} {μr : MM} {k13 : Int32 → Int32 → Int32 → MM → Option (Int32 × MM)} (hk13 : ∀ (x1 : Int32) (x2 : Int32) (x3 : Int32) (μ : MM), k13 x1 x2 x3 μ = some (r, μr) → Sm D mX6_agrees 13 [some (av_r 333), some (av_i x1), some (av_i x2), some (av_i x3), none, none, none] [] μ (po_i r μr)) (x1 : Int32) (x2 : Int32) (x3 : Int32) (x4 : Int32) (μ : MM) (h : f_Ma_agrees_B89 N k13 x1 x2 x3 x4 μ = some (r, μr)) : Sm D mX6_agrees 89 [some (av_r 333), some (av_i x1), some (av_i x2), some (av_i x3), some (av_i x4), none, none] [] μ (po_i r μr) := by
  unfold f_Ma_agrees_B89 at h
  refine sm_iload_n dX6_agrees_89 rfl rfl ?_
  refine sm_iconst dX6_agrees_90 ic_m1 ?_
  refine sm_icmp_eq (tgt := 114) dX6_agrees_91 (by decide) (fun g8 => ?_) (fun g8 => ?_)
  · replace h := it_t g8 h
    refine sm_iconst dX6_agrees_114 ic_0 ?_
    cases h
    exact sm_ret_z (st := []) dX6_agrees_115 rfl rfl ⟨rfl, rfl⟩
  · replace h := it_f g8 h
    refine sm_iload dX6_agrees_94 rfl ?_
    refine sm_iconst dX6_agrees_96 ic_m1 ?_
    refine sm_icmp_eq (tgt := 114) dX6_agrees_97 (by decide) (fun g9 => ?_) (fun g9 => ?_)
    · replace h := it_t g9 h
      refine sm_iconst dX6_agrees_114 ic_0 ?_
      cases h
      exact sm_ret_z (st := []) dX6_agrees_115 rfl rfl ⟨rfl, rfl⟩
    · replace h := it_f g9 h
      refine sm_aload_n dX6_agrees_100 rfl rfl ?_
      refine sm_getR dX6_agrees_101 fg_RX6_21 k_333 (rf_6_4 k_333) ?_
      refine sm_iload_n dX6_agrees_104 rfl rfl ?_
      obtain ⟨g10, h⟩ := gd_some h
      refine sm_iald (j := (Int32.toNatClampNeg x2)) dX6_agrees_105 k_334 (in_sz n_334 g10) rfl ?_
      refine sm_iload dX6_agrees_106 rfl ?_
      refine sm_ishr dX6_agrees_108 ?_
      refine sm_iconst dX6_agrees_109 ic_1 ?_
      refine sm_iand dX6_agrees_110 ?_
      refine sm_if_ne (tgt := 116) dX6_agrees_111 (by decide) (fun g11 => ?_) (fun g11 => ?_)
      · replace h := it_f g11 h
        refine sm_iinc dX6_agrees_116 rfl (congrArg (HAdd.hAdd x3) ic_1) (Nat.le_of_ble_eq_true rfl) (pv_i rfl) ?_
        refine sm_goto (tgt := 13) dX6_agrees_119 (by decide) ?_
        exact Sm_weak (le_s rfl (le_s rfl (le_s rfl (le_s rfl (le_n (le_n (le_n le_0))))))) (hk13 x1 x2 (x3 + 1) μ h)
      · replace h := it_t g11 h
        refine sm_iconst dX6_agrees_114 ic_0 ?_
        cases h
        exact sm_ret_z (st := []) dX6_agrees_115 rfl rfl ⟨rfl, rfl⟩
set_option maxRecDepth 100000 in
set_option maxHeartbeats 4000000 in
theorem s_Ma_agrees_B77 {D : Nat} (hD : 0 ≤ D) (N : Nat) {r : Int32} {μr : MM} {k13 : Int32 → Int32 → Int32 → MM → Option (Int32 × MM)} (hk13 : ∀ (x1 : Int32) (x2 : Int32) (x3 : Int32) (μ : MM), k13 x1 x2 x3 μ = some (r, μr) → Sm D mX6_agrees 13 [some (av_r 333), some (av_i x1), some (av_i x2), some (av_i x3), none, none, none] [] μ (po_i r μr)) (x1 : Int32) (x2 : Int32) (x3 : Int32) (x4 : Int32) (x5 : Int32) (s0 : Int32) (μ : MM) (h : f_Ma_agrees_B77 N k13 x1 x2 x3 x4 x5 s0 μ = some (r, μr)) : Sm D mX6_agrees 77 [some (av_r 333), some (av_i x1), some (av_i x2), some (av_i x3), some (av_i x4), some (av_i x5), none] [av_i s0] μ (po_i r μr) := by
  unfold f_Ma_agrees_B77 at h
  refine sm_istore dX6_agrees_77 (Nat.le_of_ble_eq_true rfl) (pv_i rfl) ?_
  refine sm_iload dX6_agrees_79 rfl ?_
  refine sm_if_ne (tgt := 89) dX6_agrees_81 (by decide) (fun g7 => ?_) (fun g7 => ?_)
  · replace h := it_f g7 h
    exact Sm_weak (le_s rfl (le_s rfl (le_s rfl (le_s rfl (le_s rfl (le_n (le_n le_0))))))) (s_Ma_agrees_B89 hD N hk13 x1 x2 x3 x4 μ h)
  · replace h := it_t g7 h
    refine sm_iload dX6_agrees_84 rfl ?_
    refine sm_if_eq (tgt := 116) dX6_agrees_86 (by decide) (fun g12 => ?_) (fun g12 => ?_)
    · replace h := it_t g12 h
      refine sm_iinc dX6_agrees_116 rfl (congrArg (HAdd.hAdd x3) ic_1) (Nat.le_of_ble_eq_true rfl) (pv_i rfl) ?_
      refine sm_goto (tgt := 13) dX6_agrees_119 (by decide) ?_
      exact Sm_weak (le_s rfl (le_s rfl (le_s rfl (le_s rfl (le_n (le_n (le_n le_0))))))) (hk13 x1 x2 (x3 + 1) μ h)
    · replace h := it_f g12 h
      exact Sm_weak (le_s rfl (le_s rfl (le_s rfl (le_s rfl (le_s rfl (le_n (le_n le_0))))))) (s_Ma_agrees_B89 hD N hk13 x1 x2 x3 x4 μ h)
set_option maxRecDepth 100000 in
set_option maxHeartbeats 4000000 in
theorem s_Ma_agrees_B76 {D : Nat} (hD : 0 ≤ D) (N : Nat) {r : Int32} {μr : MM} {k13 : Int32 → Int32 → Int32 → MM → Option (Int32 × MM)} (hk13 : ∀ (x1 : Int32) (x2 : Int32) (x3 : Int32) (μ : MM), k13 x1 x2 x3 μ = some (r, μr) → Sm D mX6_agrees 13 [some (av_r 333), some (av_i x1), some (av_i x2), some (av_i x3), none, none, none] [] μ (po_i r μr)) (x1 : Int32) (x2 : Int32) (x3 : Int32) (x4 : Int32) (x5 : Int32) (μ : MM) (h : f_Ma_agrees_B76 N k13 x1 x2 x3 x4 x5 μ = some (r, μr)) : Sm D mX6_agrees 76 [some (av_r 333), some (av_i x1), some (av_i x2), some (av_i x3), some (av_i x4), some (av_i x5), none] [] μ (po_i r μr) := by
  unfold f_Ma_agrees_B76 at h
  refine sm_iconst dX6_agrees_76 ic_0 ?_
  exact Sm_weak (le_s rfl (le_s rfl (le_s rfl (le_s rfl (le_s rfl (le_s rfl (le_n le_0))))))) (s_Ma_agrees_B77 hD N hk13 x1 x2 x3 x4 x5 0 μ h)
set_option maxRecDepth 100000 in
set_option maxHeartbeats 4000000 in
theorem s_Ma_agrees_B50 {D : Nat} (hD : 0 ≤ D) (N : Nat) {r : Int32} {μr : MM} {k13 : Int32 → Int32 → Int32 → MM → Option (Int32 × MM)} (hk13 : ∀ (x1 : Int32) (x2 : Int32) (x3 : Int32) (μ : MM), k13 x1 x2 x3 μ = some (r, μr) → Sm D mX6_agrees 13 [some (av_r 333), some (av_i x1), some (av_i x2), some (av_i x3), none, none, none] [] μ (po_i r μr)) (x1 : Int32) (x2 : Int32) (x3 : Int32) (x4 : Int32) (s0 : Int32) (μ : MM) (h : f_Ma_agrees_B50 N k13 x1 x2 x3 x4 s0 μ = some (r, μr)) : Sm D mX6_agrees 50 [some (av_r 333), some (av_i x1), some (av_i x2), some (av_i x3), some (av_i x4), none, none] [av_i s0] μ (po_i r μr) := by
  unfold f_Ma_agrees_B50 at h
  refine sm_istore dX6_agrees_50 (Nat.le_of_ble_eq_true rfl) (pv_i rfl) ?_
  refine sm_iload dX6_agrees_52 rfl ?_
  refine sm_iconst dX6_agrees_54 ic_m1 ?_
  refine sm_icmp_eq (tgt := 76) dX6_agrees_55 (by decide) (fun g6 => ?_) (fun g6 => ?_)
  · replace h := it_t g6 h
    exact Sm_weak (le_s rfl (le_s rfl (le_s rfl (le_s rfl (le_s rfl (le_s rfl (le_n le_0))))))) (s_Ma_agrees_B76 hD N hk13 x1 x2 x3 x4 s0 μ h)
  · replace h := it_f g6 h
    refine sm_aload_n dX6_agrees_58 rfl rfl ?_
    refine sm_getR dX6_agrees_59 fg_RX6_28 k_333 (rf_6_6 k_333) ?_
    refine sm_iload_n dX6_agrees_62 rfl rfl ?_
    obtain ⟨g13, h⟩ := gd_some h
    refine sm_iald (j := (Int32.toNatClampNeg x3)) dX6_agrees_63 k_336 (in_sz n_336 g13) rfl ?_
    refine sm_iload_n dX6_agrees_64 rfl rfl ?_
    refine sm_ishr dX6_agrees_65 ?_
    refine sm_iconst dX6_agrees_66 ic_1 ?_
    refine sm_iand dX6_agrees_67 ?_
    refine sm_iconst dX6_agrees_68 ic_1 ?_
    refine sm_icmp_ne (tgt := 76) dX6_agrees_69 (by decide) (fun g14 => ?_) (fun g14 => ?_)
    · replace h := it_f g14 h
      exact Sm_weak (le_s rfl (le_s rfl (le_s rfl (le_s rfl (le_s rfl (le_s rfl (le_n le_0))))))) (s_Ma_agrees_B76 hD N hk13 x1 x2 x3 x4 s0 μ h)
    · replace h := it_t g14 h
      refine sm_iconst dX6_agrees_72 ic_1 ?_
      refine sm_goto (tgt := 77) dX6_agrees_73 (by decide) ?_
      exact Sm_weak (le_s rfl (le_s rfl (le_s rfl (le_s rfl (le_s rfl (le_s rfl (le_n le_0))))))) (s_Ma_agrees_B77 hD N hk13 x1 x2 x3 x4 s0 1 μ h)
set_option maxRecDepth 100000 in
set_option maxHeartbeats 4000000 in
theorem s_Ma_agrees_B49 {D : Nat} (hD : 0 ≤ D) (N : Nat) {r : Int32} {μr : MM} {k13 : Int32 → Int32 → Int32 → MM → Option (Int32 × MM)} (hk13 : ∀ (x1 : Int32) (x2 : Int32) (x3 : Int32) (μ : MM), k13 x1 x2 x3 μ = some (r, μr) → Sm D mX6_agrees 13 [some (av_r 333), some (av_i x1), some (av_i x2), some (av_i x3), none, none, none] [] μ (po_i r μr)) (x1 : Int32) (x2 : Int32) (x3 : Int32) (x4 : Int32) (μ : MM) (h : f_Ma_agrees_B49 N k13 x1 x2 x3 x4 μ = some (r, μr)) : Sm D mX6_agrees 49 [some (av_r 333), some (av_i x1), some (av_i x2), some (av_i x3), some (av_i x4), none, none] [] μ (po_i r μr) := by
  unfold f_Ma_agrees_B49 at h
  refine sm_iconst dX6_agrees_49 ic_0 ?_
  exact Sm_weak (le_s rfl (le_s rfl (le_s rfl (le_s rfl (le_s rfl (le_n (le_n le_0))))))) (s_Ma_agrees_B50 hD N hk13 x1 x2 x3 x4 0 μ h)
set_option maxRecDepth 100000 in
set_option maxHeartbeats 4000000 in
theorem s_Ma_agrees_L13 {D : Nat} (hD : 0 ≤ D) (N : Nat) {r : Int32} {μr : MM} : ∀ (n : Nat) (x1 : Int32) (x2 : Int32) (x3 : Int32) (μ : MM), f_Ma_agrees_L13 N n x1 x2 x3 μ = some (r, μr) → Sm D mX6_agrees 13 [some (av_r 333), some (av_i x1), some (av_i x2), some (av_i x3), none, none, none] [] μ (po_i r μr) := by
  intro n
  induction n with
  | zero => intro x1 x2 x3 μ h; cases (show none = some (r, μr) from h)
  | succ n ih =>
    intro x1 x2 x3 μ h
    rw [f_Ma_agrees_L13] at h
    refine sm_iload_n dX6_agrees_13 rfl rfl ?_
    refine sm_iload_n dX6_agrees_14 rfl rfl ?_
    refine sm_icmp_ge (tgt := 122) dX6_agrees_15 (by decide) (fun g3 => ?_) (fun g3 => ?_)
    · replace h := it_t g3 h
      refine sm_iconst dX6_agrees_122 ic_1 ?_
      cases h
      exact sm_ret_z (st := []) dX6_agrees_123 rfl rfl ⟨rfl, rfl⟩
    · replace h := it_f g3 h
      refine sm_aload_n dX6_agrees_18 rfl rfl ?_
      refine sm_getR dX6_agrees_19 fg_RX6_40 k_333 (rf_6_10 k_333) ?_
      refine sm_iload_n dX6_agrees_22 rfl rfl ?_
      obtain ⟨g4, h⟩ := gd_some h
      refine sm_iald (j := (Int32.toNatClampNeg x3)) dX6_agrees_23 k_340 (in_sz n_340 g4) rfl ?_
      refine sm_istore dX6_agrees_24 (Nat.le_of_ble_eq_true rfl) (pv_i rfl) ?_
      refine sm_iload_n dX6_agrees_26 rfl rfl ?_
      refine sm_iconst dX6_agrees_27 ic_m1 ?_
      refine sm_icmp_eq (tgt := 49) dX6_agrees_28 (by decide) (fun g5 => ?_) (fun g5 => ?_)
      · replace h := it_t g5 h
        exact Sm_weak (le_s rfl (le_s rfl (le_s rfl (le_s rfl (le_s rfl (le_n (le_n le_0))))))) (s_Ma_agrees_B49 hD N ih x1 x2 x3 (μ.1 340 (Int32.toNatClampNeg x3)) μ h)
      · replace h := it_f g5 h
        refine sm_aload_n dX6_agrees_31 rfl rfl ?_
        refine sm_getR dX6_agrees_32 fg_RX6_28 k_333 (rf_6_6 k_333) ?_
        refine sm_iload_n dX6_agrees_35 rfl rfl ?_
        obtain ⟨g15, h⟩ := gd_some h
        refine sm_iald (j := (Int32.toNatClampNeg x1)) dX6_agrees_36 k_336 (in_sz n_336 g15) rfl ?_
        refine sm_iload_n dX6_agrees_37 rfl rfl ?_
        refine sm_ishr dX6_agrees_38 ?_
        refine sm_iconst dX6_agrees_39 ic_1 ?_
        refine sm_iand dX6_agrees_40 ?_
        refine sm_iconst dX6_agrees_41 ic_1 ?_
        refine sm_icmp_ne (tgt := 49) dX6_agrees_42 (by decide) (fun g16 => ?_) (fun g16 => ?_)
        · replace h := it_f g16 h
          exact Sm_weak (le_s rfl (le_s rfl (le_s rfl (le_s rfl (le_s rfl (le_n (le_n le_0))))))) (s_Ma_agrees_B49 hD N ih x1 x2 x3 (μ.1 340 (Int32.toNatClampNeg x3)) μ h)
        · replace h := it_t g16 h
          refine sm_iconst dX6_agrees_45 ic_1 ?_
          refine sm_goto (tgt := 50) dX6_agrees_46 (by decide) ?_
          exact Sm_weak (le_s rfl (le_s rfl (le_s rfl (le_s rfl (le_s rfl (le_n (le_n le_0))))))) (s_Ma_agrees_B50 hD N ih x1 x2 x3 (μ.1 340 (Int32.toNatClampNeg x3)) 1 μ h)
set_option maxRecDepth 100000 in
set_option maxHeartbeats 4000000 in
theorem s_Ma_agrees {D : Nat} (hD : 0 ≤ D) (N : Nat) {x1 : Int32} {x2 : Int32} {μ : MM} {r : Int32} {μr : MM} (h : f_Ma_agrees N x1 x2 μ = some (r, μr)) : Cl D mX6_agrees [av_r 333, av_i x1, av_i x2] μ (po_i r μr) := by
  refine Cl_of pn_X6 (Nat.le_of_ble_eq_true rfl) ?_
  show Sm D mX6_agrees 0 [some (av_r 333), some (av_i x1), some (av_i x2), none, none, none, none] [] μ (po_i r μr)
  unfold f_Ma_agrees at h
  refine sm_aload_n dX6_agrees_0 rfl rfl ?_
  refine sm_getR dX6_agrees_1 fg_RX6_31 k_333 (rf_6_7 k_333) ?_
  refine sm_iload_n dX6_agrees_4 rfl rfl ?_
  obtain ⟨g1, h⟩ := gd_some h
  refine sm_iald (j := (Int32.toNatClampNeg x1)) dX6_agrees_5 k_337 (in_sz n_337 g1) rfl ?_
  refine sm_if_ne (tgt := 11) dX6_agrees_6 (by decide) (fun g2 => ?_) (fun g2 => ?_)
  · replace h := it_f g2 h
    refine sm_iconst dX6_agrees_11 ic_0 ?_
    refine sm_istore_n dX6_agrees_12 rfl (Nat.le_of_ble_eq_true rfl) (pv_i rfl) ?_
    exact Sm_weak (le_s rfl (le_s rfl (le_s rfl (le_s rfl (le_n (le_n (le_n le_0))))))) (s_Ma_agrees_L13 hD N N x1 x2 0 μ h)
  · replace h := it_t g2 h
    refine sm_iconst dX6_agrees_9 ic_1 ?_
    cases h
    exact sm_ret_z (st := []) dX6_agrees_10 rfl rfl ⟨rfl, rfl⟩
set_option maxRecDepth 100000 in
set_option maxHeartbeats 4000000 in
theorem s_Ma_search_L107 {D : Nat} (hD : 1 ≤ D) (N : Nat) {rc_X6_search : Int32 → Int32 → Int32 → Int32 → Int32 → MM → Option MM} (hrc_X6_search : ∀ (x1 : Int32) (x2 : Int32) (x3 : Int32) (x4 : Int32) (x5 : Int32) (μ : MM) (μr : MM), rc_X6_search x1 x2 x3 x4 x5 μ = some μr → Cl (D - 1) mX6_search [av_r 333, av_i x1, av_i x2, av_i x3, av_i x4, av_i x5] μ (po_v μr)) {μr : MM} : ∀ (n : Nat) (x1 : Int32) (x2 : Int32) (x3 : Int32) (x4 : Int32) (x5 : Int32) (x7 : Int32) (x8 : Int32) (μ : MM), f_Ma_search_L107 N rc_X6_search n x1 x2 x3 x4 x5 x7 x8 μ = some μr → Sm D mX6_search 107 [some (av_r 333), some (av_i x1), some (av_i x2), some (av_i x3), some (av_i x4), some (av_i x5), none, some (av_i x7), some (av_i x8)] [] μ (po_v μr) := by
  obtain ⟨d, rfl⟩ : ∃ d, D = d + 1 := ⟨D - 1, by omega⟩
  intro n
  induction n with
  | zero => intro x1 x2 x3 x4 x5 x7 x8 μ h; cases (show none = some μr from h)
  | succ n ih =>
    intro x1 x2 x3 x4 x5 x7 x8 μ h
    rw [f_Ma_search_L107] at h
    refine sm_iload dX6_search_107 rfl ?_
    refine sm_aload_n dX6_search_109 rfl rfl ?_
    refine sm_getR dX6_search_110 fg_RX6_43 k_333 (rf_6_3 k_333) ?_
    refine sm_getI dX6_search_113 fg_RX6_69 k_23 ?_
    refine sm_icmp_ge (tgt := 191) dX6_search_116 (by decide) (fun g7 => ?_) (fun g7 => ?_)
    · replace h := it_t g7 h
      refine sm_aload_n dX6_search_191 rfl rfl ?_
      refine sm_iload_n dX6_search_192 rfl rfl ?_
      refine sm_iconst dX6_search_193 ic_m1 ?_
      obtain ⟨t194, μ1z, g8, h⟩ := ob_some h
      refine sm_callV dX6_search_194 cv_X6_agrees ml_RX6_114 k_333 rfl rfl (by decide) (as := [av_i x1, av_i (-1)]) rfl (Nat.le_of_ble_eq_true rfl) rfl (s_Ma_agrees (D := d) (by omega) N g8) (fun r9 μ9 hp => ?_)
      rw [hp.1, hp.2]
      clear hp r9 μ9
      refine sm_if_eq (tgt := 226) dX6_search_197 (by decide) (fun g9 => ?_) (fun g9 => ?_)
      · replace h := it_t g9 h
        cases h
        exact sm_ret_v (st := []) dX6_search_226 rfl ⟨rfl, rfl⟩
      · replace h := it_f g9 h
        refine sm_aload_n dX6_search_200 rfl rfl ?_
        refine sm_getR dX6_search_201 fg_RX6_40 k_333 (rf_6_10 k_333) ?_
        refine sm_iload_n dX6_search_204 rfl rfl ?_
        refine sm_iconst dX6_search_205 ic_m1 ?_
        obtain ⟨g10, h⟩ := gd_some h
        refine sm_iast (j := (Int32.toNatClampNeg x1)) dX6_search_206 k_340 (in_sz n_340 g10) rfl ?_
        replace h := wr_some h
        refine sm_aload_n dX6_search_207 rfl rfl ?_
        refine sm_iload_n dX6_search_208 rfl rfl ?_
        refine sm_iconst dX6_search_209 ic_1 ?_
        refine sm_iadd dX6_search_210 ?_
        refine sm_iload_n dX6_search_211 rfl rfl ?_
        refine sm_iload_n dX6_search_212 rfl rfl ?_
        refine sm_iload dX6_search_213 rfl ?_
        refine sm_iload dX6_search_215 rfl ?_
        refine sm_bipush dX6_search_217 bp_10 ?_
        refine sm_imul dX6_search_219 ?_
        refine sm_bipush dX6_search_220 bp_9 ?_
        refine sm_iadd dX6_search_222 ?_
        obtain ⟨μ3z, g11, h⟩ := obv_some h
        refine sm_callV dX6_search_223 cv_X6_search ml_RX6_50 k_333 rfl rfl (by decide) (as := [av_i (x1 + 1), av_i x2, av_i x3, av_i x4, av_i ((x5 * 10) + 9)]) rfl (Nat.le_of_ble_eq_true rfl) rfl (hrc_X6_search _ _ _ _ _ _ _ g11) (fun r9 μ9 hp => ?_)
        rw [hp.1, hp.2]
        clear hp r9 μ9
        cases h
        exact sm_ret_v (st := []) dX6_search_226 rfl ⟨rfl, rfl⟩
    · replace h := it_f g7 h
      refine sm_iload dX6_search_119 rfl ?_
      refine sm_iload dX6_search_121 rfl ?_
      refine sm_ishr dX6_search_123 ?_
      refine sm_iconst dX6_search_124 ic_1 ?_
      refine sm_iand dX6_search_125 ?_
      refine sm_iconst dX6_search_126 ic_1 ?_
      refine sm_icmp_ne (tgt := 185) dX6_search_127 (by decide) (fun g12 => ?_) (fun g12 => ?_)
      · replace h := it_f g12 h
        refine sm_iinc dX6_search_185 rfl (congrArg (HAdd.hAdd x8) ic_1) (Nat.le_of_ble_eq_true rfl) (pv_i rfl) ?_
        refine sm_goto (tgt := 107) dX6_search_188 (by decide) ?_
        exact Sm_weak (le_s rfl (le_s rfl (le_s rfl (le_s rfl (le_s rfl (le_s rfl (le_n (le_s rfl (le_s rfl le_0))))))))) (ih x1 x2 x3 x4 x5 x7 (x8 + 1) μ h)
      · replace h := it_t g12 h
        refine sm_aload_n dX6_search_130 rfl rfl ?_
        refine sm_iload_n dX6_search_131 rfl rfl ?_
        refine sm_iload dX6_search_132 rfl ?_
        obtain ⟨t134, μ4z, g13, h⟩ := ob_some h
        refine sm_callV dX6_search_134 cv_X6_agrees ml_RX6_114 k_333 rfl rfl (by decide) (as := [av_i x1, av_i x8]) rfl (Nat.le_of_ble_eq_true rfl) rfl (s_Ma_agrees (D := d) (by omega) N g13) (fun r9 μ9 hp => ?_)
        rw [hp.1, hp.2]
        clear hp r9 μ9
        refine sm_if_eq (tgt := 185) dX6_search_137 (by decide) (fun g14 => ?_) (fun g14 => ?_)
        · replace h := it_t g14 h
          refine sm_iinc dX6_search_185 rfl (congrArg (HAdd.hAdd x8) ic_1) (Nat.le_of_ble_eq_true rfl) (pv_i rfl) ?_
          refine sm_goto (tgt := 107) dX6_search_188 (by decide) ?_
          exact Sm_weak (le_s rfl (le_s rfl (le_s rfl (le_s rfl (le_s rfl (le_s rfl (le_n (le_s rfl (le_s rfl le_0))))))))) (ih x1 x2 x3 x4 x5 x7 (x8 + 1) μ4z h)
        · replace h := it_f g14 h
          refine sm_aload_n dX6_search_140 rfl rfl ?_
          refine sm_getR dX6_search_141 fg_RX6_40 k_333 (rf_6_10 k_333) ?_
          refine sm_iload_n dX6_search_144 rfl rfl ?_
          refine sm_iload dX6_search_145 rfl ?_
          obtain ⟨g15, h⟩ := gd_some h
          refine sm_iast (j := (Int32.toNatClampNeg x1)) dX6_search_147 k_340 (in_sz n_340 g15) rfl ?_
          replace h := wr_some h
          refine sm_aload_n dX6_search_148 rfl rfl ?_
          refine sm_iload_n dX6_search_149 rfl rfl ?_
          refine sm_iconst dX6_search_150 ic_1 ?_
          refine sm_iadd dX6_search_151 ?_
          refine sm_iload_n dX6_search_152 rfl rfl ?_
          refine sm_iconst dX6_search_153 ic_1 ?_
          refine sm_iload dX6_search_154 rfl ?_
          refine sm_ishl dX6_search_156 ?_
          refine sm_ior dX6_search_157 ?_
          refine sm_iload_n dX6_search_158 rfl rfl ?_
          refine sm_iconst dX6_search_159 ic_1 ?_
          refine sm_iadd dX6_search_160 ?_
          refine sm_iload dX6_search_161 rfl ?_
          refine sm_aload_n dX6_search_163 rfl rfl ?_
          refine sm_getR dX6_search_164 fg_RX6_43 k_333 (rf_6_3 k_333) ?_
          refine sm_getR dX6_search_167 fg_RX6_108 k_23 (rf_1_2 k_23) ?_
          refine sm_iload dX6_search_170 rfl ?_
          obtain ⟨g16, h⟩ := gd_some h
          refine sm_iald (j := (Int32.toNatClampNeg x8)) dX6_search_172 k_24 (in_sz n_24 g16) rfl ?_
          refine sm_iadd dX6_search_173 ?_
          refine sm_iload dX6_search_174 rfl ?_
          refine sm_bipush dX6_search_176 bp_10 ?_
          refine sm_imul dX6_search_178 ?_
          refine sm_iload dX6_search_179 rfl ?_
          refine sm_iadd dX6_search_181 ?_
          obtain ⟨μ6z, g17, h⟩ := obv_some h
          refine sm_callV dX6_search_182 cv_X6_search ml_RX6_50 k_333 rfl rfl (by decide) (as := [av_i (x1 + 1), av_i (x2 ||| ((1 : Int32) <<< (x8 &&& 31))), av_i (x3 + 1), av_i (x4 + ((mm_I μ4z 340 (Int32.toNatClampNeg x1) x8).1 24 (Int32.toNatClampNeg x8))), av_i ((x5 * 10) + x8)]) rfl (Nat.le_of_ble_eq_true rfl) rfl (hrc_X6_search _ _ _ _ _ _ _ g17) (fun r9 μ9 hp => ?_)
          rw [hp.1, hp.2]
          clear hp r9 μ9
          refine sm_iinc dX6_search_185 rfl (congrArg (HAdd.hAdd x8) ic_1) (Nat.le_of_ble_eq_true rfl) (pv_i rfl) ?_
          refine sm_goto (tgt := 107) dX6_search_188 (by decide) ?_
          exact Sm_weak (le_s rfl (le_s rfl (le_s rfl (le_s rfl (le_s rfl (le_s rfl (le_n (le_s rfl (le_s rfl le_0))))))))) (ih x1 x2 x3 x4 x5 x7 (x8 + 1) μ6z h)
set_option maxRecDepth 100000 in
set_option maxHeartbeats 4000000 in
theorem s_Ma_search_B63 {D : Nat} (hD : 1 ≤ D) (N : Nat) {rc_X6_search : Int32 → Int32 → Int32 → Int32 → Int32 → MM → Option MM} (hrc_X6_search : ∀ (x1 : Int32) (x2 : Int32) (x3 : Int32) (x4 : Int32) (x5 : Int32) (μ : MM) (μr : MM), rc_X6_search x1 x2 x3 x4 x5 μ = some μr → Cl (D - 1) mX6_search [av_r 333, av_i x1, av_i x2, av_i x3, av_i x4, av_i x5] μ (po_v μr)) {μr : MM} (x1 : Int32) (x2 : Int32) (x3 : Int32) (x4 : Int32) (x5 : Int32) (μ : MM) (h : f_Ma_search_B63 N rc_X6_search x1 x2 x3 x4 x5 μ = some μr) : Sm D mX6_search 63 [some (av_r 333), some (av_i x1), some (av_i x2), some (av_i x3), some (av_i x4), some (av_i x5), none, none, none] [] μ (po_v μr) := by
  obtain ⟨d, rfl⟩ : ∃ d, D = d + 1 := ⟨D - 1, by omega⟩
  unfold f_Ma_search_B63 at h
  refine sm_iload_n dX6_search_63 rfl rfl ?_
  refine sm_aload_n dX6_search_64 rfl rfl ?_
  refine sm_getR dX6_search_65 fg_RX6_43 k_333 (rf_6_3 k_333) ?_
  refine sm_getI dX6_search_68 fg_RX6_54 k_23 ?_
  refine sm_icmp_lt (tgt := 92) dX6_search_71 (by decide) (fun g5 => ?_) (fun g5 => ?_)
  · replace h := it_t g5 h
    refine sm_aload_n dX6_search_92 rfl rfl ?_
    refine sm_getR dX6_search_93 fg_RX6_34 k_333 (rf_6_8 k_333) ?_
    refine sm_iload_n dX6_search_96 rfl rfl ?_
    obtain ⟨g6, h⟩ := gd_some h
    refine sm_iald (j := (Int32.toNatClampNeg x1)) dX6_search_97 k_338 (in_sz n_338 g6) rfl ?_
    refine sm_iload_n dX6_search_98 rfl rfl ?_
    refine sm_iconst dX6_search_99 ic_m1 ?_
    refine sm_ixor dX6_search_100 ?_
    refine sm_iand dX6_search_101 ?_
    refine sm_istore dX6_search_102 (Nat.le_of_ble_eq_true rfl) (pv_n rfl) ?_
    refine sm_iconst dX6_search_104 ic_0 ?_
    refine sm_istore dX6_search_105 (Nat.le_of_ble_eq_true rfl) (pv_i rfl) ?_
    exact Sm_weak (le_s rfl (le_s rfl (le_s rfl (le_s rfl (le_s rfl (le_s rfl (le_n (le_s rfl (le_s rfl le_0))))))))) (s_Ma_search_L107 hD N hrc_X6_search N x1 x2 x3 x4 x5 ((μ.1 338 (Int32.toNatClampNeg x1)) &&& (x2 ^^^ (-1))) 0 μ h)
  · replace h := it_f g5 h
    refine sm_aload_n dX6_search_74 rfl rfl ?_
    refine sm_iload_n dX6_search_75 rfl rfl ?_
    refine sm_putI dX6_search_76 fp_RX6_9 k_333 ?_
    replace h := wr_some h
    refine sm_aload_n dX6_search_79 rfl rfl ?_
    refine sm_iload dX6_search_80 rfl ?_
    refine sm_putI dX6_search_82 fp_RX6_15 k_333 ?_
    replace h := wr_some h
    refine sm_aload_n dX6_search_85 rfl rfl ?_
    refine sm_iload dX6_search_86 rfl ?_
    refine sm_putI dX6_search_88 fp_RX6_18 k_333 ?_
    replace h := wr_some h
    cases h
    exact sm_ret_v (st := []) dX6_search_91 rfl ⟨rfl, rfl⟩
set_option maxRecDepth 100000 in
set_option maxHeartbeats 4000000 in
theorem s_Ma_search_B23 {D : Nat} (hD : 1 ≤ D) (N : Nat) {rc_X6_search : Int32 → Int32 → Int32 → Int32 → Int32 → MM → Option MM} (hrc_X6_search : ∀ (x1 : Int32) (x2 : Int32) (x3 : Int32) (x4 : Int32) (x5 : Int32) (μ : MM) (μr : MM), rc_X6_search x1 x2 x3 x4 x5 μ = some μr → Cl (D - 1) mX6_search [av_r 333, av_i x1, av_i x2, av_i x3, av_i x4, av_i x5] μ (po_v μr)) {μr : MM} (x1 : Int32) (x2 : Int32) (x3 : Int32) (x4 : Int32) (x5 : Int32) (s0 : Int32) (μ : MM) (h : f_Ma_search_B23 N rc_X6_search x1 x2 x3 x4 x5 s0 μ = some μr) : Sm D mX6_search 23 [some (av_r 333), some (av_i x1), some (av_i x2), some (av_i x3), some (av_i x4), some (av_i x5), none, none, none] [av_i s0] μ (po_v μr) := by
  obtain ⟨d, rfl⟩ : ∃ d, D = d + 1 := ⟨D - 1, by omega⟩
  unfold f_Ma_search_B23 at h
  refine sm_istore dX6_search_23 (Nat.le_of_ble_eq_true rfl) (pv_i rfl) ?_
  refine sm_iload dX6_search_25 rfl ?_
  refine sm_aload_n dX6_search_27 rfl rfl ?_
  refine sm_getI dX6_search_28 fg_RX6_9 k_333 ?_
  refine sm_icmp_lt (tgt := 62) dX6_search_31 (by decide) (fun g3 => ?_) (fun g3 => ?_)
  · replace h := it_t g3 h
    cases h
    exact sm_ret_v (st := []) dX6_search_62 rfl ⟨rfl, rfl⟩
  · replace h := it_f g3 h
    refine sm_iload dX6_search_34 rfl ?_
    refine sm_aload_n dX6_search_36 rfl rfl ?_
    refine sm_getI dX6_search_37 fg_RX6_9 k_333 ?_
    refine sm_icmp_ne (tgt := 63) dX6_search_40 (by decide) (fun g4 => ?_) (fun g4 => ?_)
    · replace h := it_f g4 h
      exact Sm_weak (le_s rfl (le_s rfl (le_s rfl (le_s rfl (le_s rfl (le_s rfl (le_n (le_n (le_n le_0))))))))) (s_Ma_search_B63 hD N hrc_X6_search x1 x2 x3 x4 x5 μ h)
    · replace h := it_t g4 h
      refine sm_iload dX6_search_43 rfl ?_
      refine sm_aload_n dX6_search_45 rfl rfl ?_
      refine sm_iload_n dX6_search_46 rfl rfl ?_
      refine sm_iload dX6_search_47 rfl ?_
      refine sm_iload_n dX6_search_49 rfl rfl ?_
      refine sm_isub dX6_search_50 ?_
      obtain ⟨t51, μ10z, g18, h⟩ := ob_some h
      refine sm_callV dX6_search_51 cv_X6_leastPrices ml_RX6_111 k_333 rfl rfl (by decide) (as := [av_i x2, av_i (s0 - x3)]) rfl (Nat.le_of_ble_eq_true rfl) rfl (s_Ma_leastPrices (D := d) (by omega) N g18) (fun r9 μ9 hp => ?_)
      rw [hp.1, hp.2]
      clear hp r9 μ9
      refine sm_iadd dX6_search_54 ?_
      refine sm_aload_n dX6_search_55 rfl rfl ?_
      refine sm_getI dX6_search_56 fg_RX6_15 k_333 ?_
      refine sm_icmp_lt (tgt := 63) dX6_search_59 (by decide) (fun g19 => ?_) (fun g19 => ?_)
      · replace h := it_t g19 h
        exact Sm_weak (le_s rfl (le_s rfl (le_s rfl (le_s rfl (le_s rfl (le_s rfl (le_n (le_n (le_n le_0))))))))) (s_Ma_search_B63 hD N hrc_X6_search x1 x2 x3 x4 x5 μ10z h)
      · replace h := it_f g19 h
        cases h
        exact sm_ret_v (st := []) dX6_search_62 rfl ⟨rfl, rfl⟩
set_option maxRecDepth 100000 in
set_option maxHeartbeats 4000000 in
theorem s_Ma_search_body {D : Nat} (hD : 1 ≤ D) (N : Nat) {rc_X6_search : Int32 → Int32 → Int32 → Int32 → Int32 → MM → Option MM} (hrc_X6_search : ∀ (x1 : Int32) (x2 : Int32) (x3 : Int32) (x4 : Int32) (x5 : Int32) (μ : MM) (μr : MM), rc_X6_search x1 x2 x3 x4 x5 μ = some μr → Cl (D - 1) mX6_search [av_r 333, av_i x1, av_i x2, av_i x3, av_i x4, av_i x5] μ (po_v μr)) {x1 : Int32} {x2 : Int32} {x3 : Int32} {x4 : Int32} {x5 : Int32} {μ : MM} {μr : MM} (h : f_Ma_search_body N rc_X6_search x1 x2 x3 x4 x5 μ = some μr) : Cl D mX6_search [av_r 333, av_i x1, av_i x2, av_i x3, av_i x4, av_i x5] μ (po_v μr) := by
  obtain ⟨d, rfl⟩ : ∃ d, D = d + 1 := ⟨D - 1, by omega⟩
  refine Cl_of pn_X6 (Nat.le_of_ble_eq_true rfl) ?_
  show Sm (d + 1) mX6_search 0 [some (av_r 333), some (av_i x1), some (av_i x2), some (av_i x3), some (av_i x4), some (av_i x5), none, none, none] [] μ (po_v μr)
  unfold f_Ma_search_body at h
  refine sm_iload_n dX6_search_0 rfl rfl ?_
  refine sm_aload_n dX6_search_1 rfl rfl ?_
  refine sm_getR dX6_search_2 fg_RX6_43 k_333 (rf_6_3 k_333) ?_
  refine sm_getI dX6_search_5 fg_RX6_54 k_23 ?_
  refine sm_icmp_le (tgt := 15) dX6_search_8 (by decide) (fun g1 => ?_) (fun g1 => ?_)
  · replace h := it_t g1 h
    refine sm_iload_n dX6_search_15 rfl rfl ?_
    refine sm_aload_n dX6_search_16 rfl rfl ?_
    refine sm_getR dX6_search_17 fg_RX6_37 k_333 (rf_6_9 k_333) ?_
    refine sm_iload_n dX6_search_20 rfl rfl ?_
    obtain ⟨g2, h⟩ := gd_some h
    refine sm_iald (j := (Int32.toNatClampNeg x1)) dX6_search_21 k_339 (in_sz n_339 g2) rfl ?_
    refine sm_iadd dX6_search_22 ?_
    exact Sm_weak (le_s rfl (le_s rfl (le_s rfl (le_s rfl (le_s rfl (le_s rfl (le_n (le_n (le_n le_0))))))))) (s_Ma_search_B23 hD N hrc_X6_search x1 x2 x3 x4 x5 (x3 + (μ.1 339 (Int32.toNatClampNeg x1))) μ h)
  · replace h := it_f g1 h
    refine sm_iconst dX6_search_11 ic_m1 ?_
    refine sm_goto (tgt := 23) dX6_search_12 (by decide) ?_
    exact Sm_weak (le_s rfl (le_s rfl (le_s rfl (le_s rfl (le_s rfl (le_s rfl (le_n (le_n (le_n le_0))))))))) (s_Ma_search_B23 hD N hrc_X6_search x1 x2 x3 x4 x5 (-1) μ h)
set_option maxRecDepth 100000 in
set_option maxHeartbeats 4000000 in
theorem s_Ma_search_t (N : Nat) : ∀ (t : Nat) {D : Nat} (hD : 1 + t ≤ D) (x1 : Int32) (x2 : Int32) (x3 : Int32) (x4 : Int32) (x5 : Int32) (μ : MM) (μr : MM) (h : f_Ma_search_t N t x1 x2 x3 x4 x5 μ = some μr), Cl D mX6_search [av_r 333, av_i x1, av_i x2, av_i x3, av_i x4, av_i x5] μ (po_v μr) := by
  intro t
  induction t with
  | zero => intro D hD x1 x2 x3 x4 x5 μ μr h; cases (show none = some μr from h)
  | succ t ih =>
    intro D hD x1 x2 x3 x4 x5 μ μr h
    exact s_Ma_search_body (by omega) N (fun x1 x2 x3 x4 x5 μ μr hh => ih (by omega) x1 x2 x3 x4 x5 μ μr hh) h
set_option maxRecDepth 100000 in
set_option maxHeartbeats 4000000 in
theorem s_Ma_search {D : Nat} (hD : 13 ≤ D) (N : Nat) {x1 : Int32} {x2 : Int32} {x3 : Int32} {x4 : Int32} {x5 : Int32} {μ : MM} {μr : MM} (h : f_Ma_search N x1 x2 x3 x4 x5 μ = some μr) : Cl D mX6_search [av_r 333, av_i x1, av_i x2, av_i x3, av_i x4, av_i x5] μ (po_v μr) := s_Ma_search_t N 12 (by omega) _ _ _ _ _ μ _ h
set_option maxRecDepth 100000 in
set_option maxHeartbeats 4000000 in
theorem s_Ma_findBest {D : Nat} (hD : 14 ≤ D) (N : Nat) {μ : MM} {μr : MM} (h : f_Ma_findBest N μ = some μr) : Cl D mX6_findBest [av_r 333] μ (po_v μr) := by
  obtain ⟨d, rfl⟩ : ∃ d, D = d + 1 := ⟨D - 1, by omega⟩
  refine Cl_of pn_X6 (Nat.le_of_ble_eq_true rfl) ?_
  show Sm (d + 1) mX6_findBest 0 [some (av_r 333)] [] μ (po_v μr)
  unfold f_Ma_findBest at h
  refine sm_aload_n dX6_findBest_0 rfl rfl ?_
  obtain ⟨μ1z, g1, h⟩ := obv_some h
  refine sm_callV dX6_findBest_1 cv_X6_prepare ml_RX6_47 k_333 rfl rfl (by decide) (as := []) rfl (Nat.le_of_ble_eq_true rfl) rfl (s_Ma_prepare (D := d) (by omega) N g1) (fun r9 μ9 hp => ?_)
  rw [hp.1, hp.2]
  clear hp r9 μ9
  refine sm_aload_n dX6_findBest_4 rfl rfl ?_
  refine sm_iconst dX6_findBest_5 ic_m1 ?_
  refine sm_putI dX6_findBest_6 fp_RX6_9 k_333 ?_
  replace h := wr_some h
  refine sm_aload_n dX6_findBest_9 rfl rfl ?_
  refine sm_iconst dX6_findBest_10 ic_0 ?_
  refine sm_putI dX6_findBest_11 fp_RX6_15 k_333 ?_
  replace h := wr_some h
  refine sm_aload_n dX6_findBest_14 rfl rfl ?_
  refine sm_iconst dX6_findBest_15 ic_0 ?_
  refine sm_putI dX6_findBest_16 fp_RX6_18 k_333 ?_
  replace h := wr_some h
  refine sm_aload_n dX6_findBest_19 rfl rfl ?_
  refine sm_iconst dX6_findBest_20 ic_0 ?_
  refine sm_iconst dX6_findBest_21 ic_0 ?_
  refine sm_iconst dX6_findBest_22 ic_0 ?_
  refine sm_iconst dX6_findBest_23 ic_0 ?_
  refine sm_iconst dX6_findBest_24 ic_0 ?_
  obtain ⟨μ5z, g2, h⟩ := obv_some h
  refine sm_callV dX6_findBest_25 cv_X6_search ml_RX6_50 k_333 rfl rfl (by decide) (as := [av_i 0, av_i 0, av_i 0, av_i 0, av_i 0]) rfl (Nat.le_of_ble_eq_true rfl) rfl (s_Ma_search (D := d) (by omega) N g2) (fun r9 μ9 hp => ?_)
  rw [hp.1, hp.2]
  clear hp r9 μ9
  cases h
  exact sm_ret_v (st := []) dX6_findBest_28 rfl ⟨rfl, rfl⟩
set_option maxRecDepth 100000 in
set_option maxHeartbeats 4000000 in
theorem s_In_bitCount_0f7a4 {D : Nat} (hD : 0 ≤ D) (N : Nat) {x0 : Int32} {μ : MM} {r : Int32} {μr : MM} (h : f_In_bitCount_0f7a4 N x0 μ = some (r, μr)) : Cl D mJ6_bitCount_0f7a4 [av_i x0] μ (po_i r μr) := by
  refine Cl_of pn_J6 (Nat.le_of_ble_eq_true rfl) ?_
  show Sm D mJ6_bitCount_0f7a4 0 [some (av_i x0)] [] μ (po_i r μr)
  unfold f_In_bitCount_0f7a4 at h
  refine sm_iload_n dJ6_bitCount_0f7a4_0 rfl rfl ?_
  refine sm_iload_n dJ6_bitCount_0f7a4_1 rfl rfl ?_
  refine sm_iconst dJ6_bitCount_0f7a4_2 ic_1 ?_
  refine sm_iushr dJ6_bitCount_0f7a4_3 ?_
  refine sm_ldcw dJ6_bitCount_0f7a4_4 cs_RJ6_265 ?_
  refine sm_iand dJ6_bitCount_0f7a4_7 ?_
  refine sm_isub dJ6_bitCount_0f7a4_8 ?_
  refine sm_istore_n dJ6_bitCount_0f7a4_9 rfl (Nat.le_of_ble_eq_true rfl) pv_0 ?_
  refine sm_iload_n dJ6_bitCount_0f7a4_10 rfl rfl ?_
  refine sm_ldcw dJ6_bitCount_0f7a4_11 cs_RJ6_266 ?_
  refine sm_iand dJ6_bitCount_0f7a4_14 ?_
  refine sm_iload_n dJ6_bitCount_0f7a4_15 rfl rfl ?_
  refine sm_iconst dJ6_bitCount_0f7a4_16 ic_2 ?_
  refine sm_iushr dJ6_bitCount_0f7a4_17 ?_
  refine sm_ldcw dJ6_bitCount_0f7a4_18 cs_RJ6_266 ?_
  refine sm_iand dJ6_bitCount_0f7a4_21 ?_
  refine sm_iadd dJ6_bitCount_0f7a4_22 ?_
  refine sm_istore_n dJ6_bitCount_0f7a4_23 rfl (Nat.le_of_ble_eq_true rfl) pv_0 ?_
  refine sm_iload_n dJ6_bitCount_0f7a4_24 rfl rfl ?_
  refine sm_iload_n dJ6_bitCount_0f7a4_25 rfl rfl ?_
  refine sm_iconst dJ6_bitCount_0f7a4_26 ic_4 ?_
  refine sm_iushr dJ6_bitCount_0f7a4_27 ?_
  refine sm_iadd dJ6_bitCount_0f7a4_28 ?_
  refine sm_ldcw dJ6_bitCount_0f7a4_29 cs_RJ6_267 ?_
  refine sm_iand dJ6_bitCount_0f7a4_32 ?_
  refine sm_istore_n dJ6_bitCount_0f7a4_33 rfl (Nat.le_of_ble_eq_true rfl) pv_0 ?_
  refine sm_iload_n dJ6_bitCount_0f7a4_34 rfl rfl ?_
  refine sm_iload_n dJ6_bitCount_0f7a4_35 rfl rfl ?_
  refine sm_bipush dJ6_bitCount_0f7a4_36 bp_8 ?_
  refine sm_iushr dJ6_bitCount_0f7a4_38 ?_
  refine sm_iadd dJ6_bitCount_0f7a4_39 ?_
  refine sm_istore_n dJ6_bitCount_0f7a4_40 rfl (Nat.le_of_ble_eq_true rfl) pv_0 ?_
  refine sm_iload_n dJ6_bitCount_0f7a4_41 rfl rfl ?_
  refine sm_iload_n dJ6_bitCount_0f7a4_42 rfl rfl ?_
  refine sm_bipush dJ6_bitCount_0f7a4_43 bp_16 ?_
  refine sm_iushr dJ6_bitCount_0f7a4_45 ?_
  refine sm_iadd dJ6_bitCount_0f7a4_46 ?_
  refine sm_istore_n dJ6_bitCount_0f7a4_47 rfl (Nat.le_of_ble_eq_true rfl) pv_0 ?_
  refine sm_iload_n dJ6_bitCount_0f7a4_48 rfl rfl ?_
  refine sm_bipush dJ6_bitCount_0f7a4_49 bp_63 ?_
  refine sm_iand dJ6_bitCount_0f7a4_51 ?_
  cases h
  exact sm_ret_i (st := []) dJ6_bitCount_0f7a4_52 rfl ⟨rfl, rfl⟩
set_option maxRecDepth 100000 in
set_option maxHeartbeats 4000000 in
theorem s_Ma_canAll_L70 {D : Nat} (hD : 1 ≤ D) (N : Nat) {rc_X6_canAll : Int32 → Int32 → Int32 → MM → Option (Int32 × MM)} (hrc_X6_canAll : ∀ (x1 : Int32) (x2 : Int32) (x3 : Int32) (μ : MM) (r : Int32) (μr : MM), rc_X6_canAll x1 x2 x3 μ = some (r, μr) → Cl (D - 1) mX6_canAll [av_r 333, av_i x1, av_i x2, av_i x3] μ (po_i r μr)) {r : Int32} {μr : MM} : ∀ (n : Nat) (x1 : Int32) (x2 : Int32) (x3 : Int32) (x4 : Int32) (x5 : Int32) (μ : MM), f_Ma_canAll_L70 N rc_X6_canAll n x1 x2 x3 x4 x5 μ = some (r, μr) → Sm D mX6_canAll 70 [some (av_r 333), some (av_i x1), some (av_i x2), some (av_i x3), some (av_i x4), some (av_i x5)] [] μ (po_i r μr) := by
  obtain ⟨d, rfl⟩ : ∃ d, D = d + 1 := ⟨D - 1, by omega⟩
  intro n
  induction n with
  | zero => intro x1 x2 x3 x4 x5 μ h; cases (show none = some (r, μr) from h)
  | succ n ih =>
    intro x1 x2 x3 x4 x5 μ h
    rw [f_Ma_canAll_L70] at h
    refine sm_iload dX6_canAll_70 rfl ?_
    refine sm_aload_n dX6_canAll_72 rfl rfl ?_
    refine sm_getR dX6_canAll_73 fg_RX6_43 k_333 (rf_6_3 k_333) ?_
    refine sm_getI dX6_canAll_76 fg_RX6_69 k_23 ?_
    refine sm_icmp_ge (tgt := 136) dX6_canAll_79 (by decide) (fun g4 => ?_) (fun g4 => ?_)
    · replace h := it_t g4 h
      refine sm_iconst dX6_canAll_136 ic_0 ?_
      cases h
      exact sm_ret_z (st := []) dX6_canAll_137 rfl rfl ⟨rfl, rfl⟩
    · replace h := it_f g4 h
      refine sm_iload dX6_canAll_82 rfl ?_
      refine sm_iload dX6_canAll_84 rfl ?_
      refine sm_ishr dX6_canAll_86 ?_
      refine sm_iconst dX6_canAll_87 ic_1 ?_
      refine sm_iand dX6_canAll_88 ?_
      refine sm_iconst dX6_canAll_89 ic_1 ?_
      refine sm_icmp_ne (tgt := 130) dX6_canAll_90 (by decide) (fun g5 => ?_) (fun g5 => ?_)
      · replace h := it_f g5 h
        refine sm_iinc dX6_canAll_130 rfl (congrArg (HAdd.hAdd x5) ic_1) (Nat.le_of_ble_eq_true rfl) (pv_i rfl) ?_
        refine sm_goto (tgt := 70) dX6_canAll_133 (by decide) ?_
        exact Sm_weak (le_s rfl (le_s rfl (le_s rfl (le_s rfl (le_s rfl (le_s rfl le_0)))))) (ih x1 x2 x3 x4 (x5 + 1) μ h)
      · replace h := it_t g5 h
        refine sm_aload_n dX6_canAll_93 rfl rfl ?_
        refine sm_iload_n dX6_canAll_94 rfl rfl ?_
        refine sm_iload dX6_canAll_95 rfl ?_
        obtain ⟨t97, μ1z, g6, h⟩ := ob_some h
        refine sm_callV dX6_canAll_97 cv_X6_agrees ml_RX6_114 k_333 rfl rfl (by decide) (as := [av_i x1, av_i x5]) rfl (Nat.le_of_ble_eq_true rfl) rfl (s_Ma_agrees (D := d) (by omega) N g6) (fun r9 μ9 hp => ?_)
        rw [hp.1, hp.2]
        clear hp r9 μ9
        refine sm_if_eq (tgt := 130) dX6_canAll_100 (by decide) (fun g7 => ?_) (fun g7 => ?_)
        · replace h := it_t g7 h
          refine sm_iinc dX6_canAll_130 rfl (congrArg (HAdd.hAdd x5) ic_1) (Nat.le_of_ble_eq_true rfl) (pv_i rfl) ?_
          refine sm_goto (tgt := 70) dX6_canAll_133 (by decide) ?_
          exact Sm_weak (le_s rfl (le_s rfl (le_s rfl (le_s rfl (le_s rfl (le_s rfl le_0)))))) (ih x1 x2 x3 x4 (x5 + 1) μ1z h)
        · replace h := it_f g7 h
          refine sm_aload_n dX6_canAll_103 rfl rfl ?_
          refine sm_getR dX6_canAll_104 fg_RX6_40 k_333 (rf_6_10 k_333) ?_
          refine sm_iload_n dX6_canAll_107 rfl rfl ?_
          refine sm_iload dX6_canAll_108 rfl ?_
          obtain ⟨g8, h⟩ := gd_some h
          refine sm_iast (j := (Int32.toNatClampNeg x1)) dX6_canAll_110 k_340 (in_sz n_340 g8) rfl ?_
          replace h := wr_some h
          refine sm_aload_n dX6_canAll_111 rfl rfl ?_
          refine sm_iload_n dX6_canAll_112 rfl rfl ?_
          refine sm_iconst dX6_canAll_113 ic_1 ?_
          refine sm_iadd dX6_canAll_114 ?_
          refine sm_iload_n dX6_canAll_115 rfl rfl ?_
          refine sm_iload_n dX6_canAll_116 rfl rfl ?_
          refine sm_iconst dX6_canAll_117 ic_1 ?_
          refine sm_iload dX6_canAll_118 rfl ?_
          refine sm_ishl dX6_canAll_120 ?_
          refine sm_ior dX6_canAll_121 ?_
          obtain ⟨t122, μ3z, g9, h⟩ := ob_some h
          refine sm_callV dX6_canAll_122 cv_X6_canAll ml_RX6_65 k_333 rfl rfl (by decide) (as := [av_i (x1 + 1), av_i x2, av_i (x3 ||| ((1 : Int32) <<< (x5 &&& 31)))]) rfl (Nat.le_of_ble_eq_true rfl) rfl (hrc_X6_canAll _ _ _ _ _ _ g9) (fun r9 μ9 hp => ?_)
          rw [hp.1, hp.2]
          clear hp r9 μ9
          refine sm_if_eq (tgt := 130) dX6_canAll_125 (by decide) (fun g10 => ?_) (fun g10 => ?_)
          · replace h := it_t g10 h
            refine sm_iinc dX6_canAll_130 rfl (congrArg (HAdd.hAdd x5) ic_1) (Nat.le_of_ble_eq_true rfl) (pv_i rfl) ?_
            refine sm_goto (tgt := 70) dX6_canAll_133 (by decide) ?_
            exact Sm_weak (le_s rfl (le_s rfl (le_s rfl (le_s rfl (le_s rfl (le_s rfl le_0)))))) (ih x1 x2 x3 x4 (x5 + 1) μ3z h)
          · replace h := it_f g10 h
            refine sm_iconst dX6_canAll_128 ic_1 ?_
            cases h
            exact sm_ret_z (st := []) dX6_canAll_129 rfl rfl ⟨rfl, rfl⟩
set_option maxRecDepth 100000 in
set_option maxHeartbeats 4000000 in
theorem s_Ma_canAll_body {D : Nat} (hD : 1 ≤ D) (N : Nat) {rc_X6_canAll : Int32 → Int32 → Int32 → MM → Option (Int32 × MM)} (hrc_X6_canAll : ∀ (x1 : Int32) (x2 : Int32) (x3 : Int32) (μ : MM) (r : Int32) (μr : MM), rc_X6_canAll x1 x2 x3 μ = some (r, μr) → Cl (D - 1) mX6_canAll [av_r 333, av_i x1, av_i x2, av_i x3] μ (po_i r μr)) {x1 : Int32} {x2 : Int32} {x3 : Int32} {μ : MM} {r : Int32} {μr : MM} (h : f_Ma_canAll_body N rc_X6_canAll x1 x2 x3 μ = some (r, μr)) : Cl D mX6_canAll [av_r 333, av_i x1, av_i x2, av_i x3] μ (po_i r μr) := by
  obtain ⟨d, rfl⟩ : ∃ d, D = d + 1 := ⟨D - 1, by omega⟩
  refine Cl_of pn_X6 (Nat.le_of_ble_eq_true rfl) ?_
  show Sm (d + 1) mX6_canAll 0 [some (av_r 333), some (av_i x1), some (av_i x2), some (av_i x3), none, none] [] μ (po_i r μr)
  unfold f_Ma_canAll_body at h
  refine sm_iload_n dX6_canAll_0 rfl rfl ?_
  refine sm_aload_n dX6_canAll_1 rfl rfl ?_
  refine sm_getR dX6_canAll_2 fg_RX6_43 k_333 (rf_6_3 k_333) ?_
  refine sm_getI dX6_canAll_5 fg_RX6_54 k_23 ?_
  refine sm_icmp_lt (tgt := 13) dX6_canAll_8 (by decide) (fun g1 => ?_) (fun g1 => ?_)
  · replace h := it_t g1 h
    refine sm_iload_n dX6_canAll_13 rfl rfl ?_
    refine sm_iload_n dX6_canAll_14 rfl rfl ?_
    refine sm_ishr dX6_canAll_15 ?_
    refine sm_iconst dX6_canAll_16 ic_1 ?_
    refine sm_iand dX6_canAll_17 ?_
    refine sm_if_ne (tgt := 55) dX6_canAll_18 (by decide) (fun g2 => ?_) (fun g2 => ?_)
    · replace h := it_f g2 h
      refine sm_aload_n dX6_canAll_55 rfl rfl ?_
      refine sm_getR dX6_canAll_56 fg_RX6_34 k_333 (rf_6_8 k_333) ?_
      refine sm_iload_n dX6_canAll_59 rfl rfl ?_
      obtain ⟨g3, h⟩ := gd_some h
      refine sm_iald (j := (Int32.toNatClampNeg x1)) dX6_canAll_60 k_338 (in_sz n_338 g3) rfl ?_
      refine sm_iload_n dX6_canAll_61 rfl rfl ?_
      refine sm_iconst dX6_canAll_62 ic_m1 ?_
      refine sm_ixor dX6_canAll_63 ?_
      refine sm_iand dX6_canAll_64 ?_
      refine sm_istore dX6_canAll_65 (Nat.le_of_ble_eq_true rfl) (pv_i rfl) ?_
      refine sm_iconst dX6_canAll_67 ic_0 ?_
      refine sm_istore dX6_canAll_68 (Nat.le_of_ble_eq_true rfl) (pv_i rfl) ?_
      exact Sm_weak (le_s rfl (le_s rfl (le_s rfl (le_s rfl (le_s rfl (le_s rfl le_0)))))) (s_Ma_canAll_L70 hD N hrc_X6_canAll N x1 x2 x3 ((μ.1 338 (Int32.toNatClampNeg x1)) &&& (x3 ^^^ (-1))) 0 μ h)
    · replace h := it_t g2 h
      refine sm_aload_n dX6_canAll_21 rfl rfl ?_
      refine sm_getR dX6_canAll_22 fg_RX6_40 k_333 (rf_6_10 k_333) ?_
      refine sm_iload_n dX6_canAll_25 rfl rfl ?_
      refine sm_iconst dX6_canAll_26 ic_m1 ?_
      obtain ⟨g11, h⟩ := gd_some h
      refine sm_iast (j := (Int32.toNatClampNeg x1)) dX6_canAll_27 k_340 (in_sz n_340 g11) rfl ?_
      replace h := wr_some h
      refine sm_aload_n dX6_canAll_28 rfl rfl ?_
      refine sm_iload_n dX6_canAll_29 rfl rfl ?_
      refine sm_iconst dX6_canAll_30 ic_m1 ?_
      obtain ⟨t31, μ5z, g12, h⟩ := ob_some h
      refine sm_callV dX6_canAll_31 cv_X6_agrees ml_RX6_114 k_333 rfl rfl (by decide) (as := [av_i x1, av_i (-1)]) rfl (Nat.le_of_ble_eq_true rfl) rfl (s_Ma_agrees (D := d) (by omega) N g12) (fun r9 μ9 hp => ?_)
      rw [hp.1, hp.2]
      clear hp r9 μ9
      refine sm_if_eq (tgt := 53) dX6_canAll_34 (by decide) (fun g13 => ?_) (fun g13 => ?_)
      · replace h := it_t g13 h
        refine sm_iconst dX6_canAll_53 ic_0 ?_
        cases h
        exact sm_ret_z (st := []) dX6_canAll_54 rfl rfl ⟨rfl, rfl⟩
      · replace h := it_f g13 h
        refine sm_aload_n dX6_canAll_37 rfl rfl ?_
        refine sm_iload_n dX6_canAll_38 rfl rfl ?_
        refine sm_iconst dX6_canAll_39 ic_1 ?_
        refine sm_iadd dX6_canAll_40 ?_
        refine sm_iload_n dX6_canAll_41 rfl rfl ?_
        refine sm_iload_n dX6_canAll_42 rfl rfl ?_
        obtain ⟨t43, μ6z, g14, h⟩ := ob_some h
        refine sm_callV dX6_canAll_43 cv_X6_canAll ml_RX6_65 k_333 rfl rfl (by decide) (as := [av_i (x1 + 1), av_i x2, av_i x3]) rfl (Nat.le_of_ble_eq_true rfl) rfl (hrc_X6_canAll _ _ _ _ _ _ g14) (fun r9 μ9 hp => ?_)
        rw [hp.1, hp.2]
        clear hp r9 μ9
        refine sm_if_eq (tgt := 53) dX6_canAll_46 (by decide) (fun g15 => ?_) (fun g15 => ?_)
        · replace h := it_t g15 h
          refine sm_iconst dX6_canAll_53 ic_0 ?_
          cases h
          exact sm_ret_z (st := []) dX6_canAll_54 rfl rfl ⟨rfl, rfl⟩
        · replace h := it_f g15 h
          refine sm_iconst dX6_canAll_49 ic_1 ?_
          refine sm_goto (tgt := 54) dX6_canAll_50 (by decide) ?_
          cases h
          exact sm_ret_z (st := []) dX6_canAll_54 rfl rfl ⟨rfl, rfl⟩
  · replace h := it_f g1 h
    refine sm_iconst dX6_canAll_11 ic_1 ?_
    cases h
    exact sm_ret_z (st := []) dX6_canAll_12 rfl rfl ⟨rfl, rfl⟩
set_option maxRecDepth 100000 in
set_option maxHeartbeats 4000000 in
theorem s_Ma_canAll_t (N : Nat) : ∀ (t : Nat) {D : Nat} (hD : 1 + t ≤ D) (x1 : Int32) (x2 : Int32) (x3 : Int32) (μ : MM) (r : Int32) (μr : MM) (h : f_Ma_canAll_t N t x1 x2 x3 μ = some (r, μr)), Cl D mX6_canAll [av_r 333, av_i x1, av_i x2, av_i x3] μ (po_i r μr) := by
  intro t
  induction t with
  | zero => intro D hD x1 x2 x3 μ r μr h; cases (show none = some (r, μr) from h)
  | succ t ih =>
    intro D hD x1 x2 x3 μ r μr h
    exact s_Ma_canAll_body (by omega) N (fun x1 x2 x3 μ r μr hh => ih (by omega) x1 x2 x3 μ r μr hh) h
set_option maxRecDepth 100000 in
set_option maxHeartbeats 4000000 in
theorem s_Ma_canAll {D : Nat} (hD : 13 ≤ D) (N : Nat) {x1 : Int32} {x2 : Int32} {x3 : Int32} {μ : MM} {r : Int32} {μr : MM} (h : f_Ma_canAll N x1 x2 x3 μ = some (r, μr)) : Cl D mX6_canAll [av_r 333, av_i x1, av_i x2, av_i x3] μ (po_i r μr) := s_Ma_canAll_t N 12 (by omega) _ _ _ μ _ _ h
set_option maxRecDepth 100000 in
set_option maxHeartbeats 4000000 in
theorem s_Ma_leastClash_B37 {D : Nat} (hD : 14 ≤ D) (N : Nat) {r : Int32} {μr : MM} {k8 : Int32 → Int32 → MM → Option (Int32 × MM)} (hk8 : ∀ (x1 : Int32) (x2 : Int32) (μ : MM), k8 x1 x2 μ = some (r, μr) → Sm D mX6_leastClash 8 [some (av_r 333), some (av_i x1), some (av_i x2)] [] μ (po_i r μr)) (x1 : Int32) (x2 : Int32) (μ : MM) (h : f_Ma_leastClash_B37 N k8 x1 x2 μ = some (r, μr)) : Sm D mX6_leastClash 37 [some (av_r 333), some (av_i x1), some (av_i x2)] [] μ (po_i r μr) := by
  obtain ⟨d, rfl⟩ : ∃ d, D = d + 1 := ⟨D - 1, by omega⟩
  unfold f_Ma_leastClash_B37 at h
  refine sm_aload_n dX6_leastClash_37 rfl rfl ?_
  refine sm_iconst dX6_leastClash_38 ic_0 ?_
  refine sm_iload_n dX6_leastClash_39 rfl rfl ?_
  refine sm_iconst dX6_leastClash_40 ic_0 ?_
  obtain ⟨t41, μ2z, g4, h⟩ := ob_some h
  refine sm_callV dX6_leastClash_41 cv_X6_canAll ml_RX6_65 k_333 rfl rfl (by decide) (as := [av_i 0, av_i x2, av_i 0]) rfl (Nat.le_of_ble_eq_true rfl) rfl (s_Ma_canAll (D := d) (by omega) N g4) (fun r9 μ9 hp => ?_)
  rw [hp.1, hp.2]
  clear hp r9 μ9
  have hj44 : ∀ (v44_0 : Int32), v44_0 = (if t41 = 0 then x2 else x1) → Sm (d + 1) mX6_leastClash 49 [some (av_r 333), some (av_i v44_0), some (av_i x2)] [] μ2z (po_i r μr) := by
    intro v44_0 ev44_0
    subst ev44_0
    refine sm_iinc dX6_leastClash_49 rfl (congrArg (HAdd.hAdd x2) ic_1) (Nat.le_of_ble_eq_true rfl) (pv_i rfl) ?_
    refine sm_goto (tgt := 8) dX6_leastClash_52 (by decide) ?_
    exact Sm_weak (le_s rfl (le_s rfl (le_s rfl le_0))) (hk8 (if t41 = 0 then x2 else x1) (x2 + 1) μ2z h)
  refine sm_if_ne (tgt := 49) dX6_leastClash_44 (by decide) (fun c44_0 => ?_) (fun c44_0 => ?_)
  · exact Sm_weak (le_s rfl (le_s rfl (le_s rfl le_0))) (hj44 _ (if_neg c44_0).symm)
  · refine sm_iload_n dX6_leastClash_47 rfl rfl ?_
    refine sm_istore_n dX6_leastClash_48 rfl (Nat.le_of_ble_eq_true rfl) (pv_r rfl) ?_
    exact Sm_weak (le_s rfl (le_s rfl (le_s rfl le_0))) (hj44 _ (if_pos c44_0).symm)
set_option maxRecDepth 100000 in
set_option maxHeartbeats 4000000 in
theorem s_Ma_leastClash_L8 {D : Nat} (hD : 14 ≤ D) (N : Nat) {r : Int32} {μr : MM} : ∀ (n : Nat) (x1 : Int32) (x2 : Int32) (μ : MM), f_Ma_leastClash_L8 N n x1 x2 μ = some (r, μr) → Sm D mX6_leastClash 8 [some (av_r 333), some (av_i x1), some (av_i x2)] [] μ (po_i r μr) := by
  obtain ⟨d, rfl⟩ : ∃ d, D = d + 1 := ⟨D - 1, by omega⟩
  intro n
  induction n with
  | zero => intro x1 x2 μ h; cases (show none = some (r, μr) from h)
  | succ n ih =>
    intro x1 x2 μ h
    rw [f_Ma_leastClash_L8] at h
    refine sm_iload_n dX6_leastClash_8 rfl rfl ?_
    refine sm_iconst dX6_leastClash_9 ic_1 ?_
    refine sm_aload_n dX6_leastClash_10 rfl rfl ?_
    refine sm_getR dX6_leastClash_11 fg_RX6_43 k_333 (rf_6_3 k_333) ?_
    refine sm_getI dX6_leastClash_14 fg_RX6_54 k_23 ?_
    refine sm_ishl dX6_leastClash_17 ?_
    refine sm_icmp_ge (tgt := 55) dX6_leastClash_18 (by decide) (fun g2 => ?_) (fun g2 => ?_)
    · replace h := it_t g2 h
      refine sm_iload_n dX6_leastClash_55 rfl rfl ?_
      cases h
      exact sm_ret_i (st := []) dX6_leastClash_56 rfl ⟨rfl, rfl⟩
    · replace h := it_f g2 h
      refine sm_iload_n dX6_leastClash_21 rfl rfl ?_
      refine sm_iconst dX6_leastClash_22 ic_m1 ?_
      refine sm_icmp_eq (tgt := 37) dX6_leastClash_23 (by decide) (fun g3 => ?_) (fun g3 => ?_)
      · replace h := it_t g3 h
        exact Sm_weak (le_s rfl (le_s rfl (le_s rfl le_0))) (s_Ma_leastClash_B37 hD N ih x1 x2 μ h)
      · replace h := it_f g3 h
        refine sm_iload_n dX6_leastClash_26 rfl rfl ?_
        obtain ⟨t27, μ3z, g5, h⟩ := ob_some h
        refine sm_callS dX6_leastClash_27 cs_J6_bitCount_0f7a4 ml_RX6_59 (as := [av_i x2]) rfl (Nat.le_of_ble_eq_true rfl) rfl (s_In_bitCount_0f7a4 (D := d) (by omega) N g5) (fun r9 μ9 hp => ?_)
        rw [hp.1, hp.2]
        clear hp r9 μ9
        refine sm_iload_n dX6_leastClash_30 rfl rfl ?_
        obtain ⟨t31, μ4z, g6, h⟩ := ob_some h
        refine sm_callS dX6_leastClash_31 cs_J6_bitCount_0f7a4 ml_RX6_59 (as := [av_i x1]) rfl (Nat.le_of_ble_eq_true rfl) rfl (s_In_bitCount_0f7a4 (D := d) (by omega) N g6) (fun r9 μ9 hp => ?_)
        rw [hp.1, hp.2]
        clear hp r9 μ9
        refine sm_icmp_ge (tgt := 49) dX6_leastClash_34 (by decide) (fun g7 => ?_) (fun g7 => ?_)
        · replace h := it_t g7 h
          refine sm_iinc dX6_leastClash_49 rfl (congrArg (HAdd.hAdd x2) ic_1) (Nat.le_of_ble_eq_true rfl) (pv_i rfl) ?_
          refine sm_goto (tgt := 8) dX6_leastClash_52 (by decide) ?_
          exact Sm_weak (le_s rfl (le_s rfl (le_s rfl le_0))) (ih x1 (x2 + 1) μ4z h)
        · replace h := it_f g7 h
          exact Sm_weak (le_s rfl (le_s rfl (le_s rfl le_0))) (s_Ma_leastClash_B37 hD N ih x1 x2 μ4z h)
set_option maxRecDepth 100000 in
set_option maxHeartbeats 4000000 in
theorem s_Ma_leastClash {D : Nat} (hD : 14 ≤ D) (N : Nat) {μ : MM} {r : Int32} {μr : MM} (h : f_Ma_leastClash N μ = some (r, μr)) : Cl D mX6_leastClash [av_r 333] μ (po_i r μr) := by
  obtain ⟨d, rfl⟩ : ∃ d, D = d + 1 := ⟨D - 1, by omega⟩
  refine Cl_of pn_X6 (Nat.le_of_ble_eq_true rfl) ?_
  show Sm (d + 1) mX6_leastClash 0 [some (av_r 333), none, none] [] μ (po_i r μr)
  unfold f_Ma_leastClash at h
  refine sm_aload_n dX6_leastClash_0 rfl rfl ?_
  obtain ⟨μ1z, g1, h⟩ := obv_some h
  refine sm_callV dX6_leastClash_1 cv_X6_prepare ml_RX6_47 k_333 rfl rfl (by decide) (as := []) rfl (Nat.le_of_ble_eq_true rfl) rfl (s_Ma_prepare (D := d) (by omega) N g1) (fun r9 μ9 hp => ?_)
  rw [hp.1, hp.2]
  clear hp r9 μ9
  refine sm_iconst dX6_leastClash_4 ic_m1 ?_
  refine sm_istore_n dX6_leastClash_5 rfl (Nat.le_of_ble_eq_true rfl) (pv_r rfl) ?_
  refine sm_iconst dX6_leastClash_6 ic_1 ?_
  refine sm_istore_n dX6_leastClash_7 rfl (Nat.le_of_ble_eq_true rfl) (pv_i rfl) ?_
  exact Sm_weak (le_s rfl (le_s rfl (le_s rfl le_0))) (s_Ma_leastClash_L8 hD N N (-1) 1 μ1z h)
set_option maxRecDepth 100000 in
set_option maxHeartbeats 4000000 in
theorem s_Ta_solidBytes_L5 {D : Nat} (hD : 0 ≤ D) (N : Nat) {r : Int32} {μr : MM} : ∀ (n : Nat) (x1 : Int32) (x2 : Int32) (x3 : Int32) (μ : MM), f_Ta_solidBytes_L5 N n x1 x2 x3 μ = some (r, μr) → Sm D mX8_solidBytes 5 [none, some (av_i x1), some (av_i x2), some (av_i x3)] [] μ (po_i r μr) := by
  intro n
  induction n with
  | zero => intro x1 x2 x3 μ h; cases (show none = some (r, μr) from h)
  | succ n ih =>
    intro x1 x2 x3 μ h
    rw [f_Ta_solidBytes_L5] at h
    refine sm_iload_n dX8_solidBytes_5 rfl rfl ?_
    refine sm_if_lt (tgt := 28) dX8_solidBytes_6 (by decide) (fun g1 => ?_) (fun g1 => ?_)
    · replace h := it_t g1 h
      refine sm_iload_n dX8_solidBytes_28 rfl rfl ?_
      cases h
      exact sm_ret_i (st := []) dX8_solidBytes_29 rfl ⟨rfl, rfl⟩
    · replace h := it_f g1 h
      refine sm_iload_n dX8_solidBytes_9 rfl rfl ?_
      refine sm_iload_n dX8_solidBytes_10 rfl rfl ?_
      refine sm_iushr dX8_solidBytes_11 ?_
      refine sm_sipush dX8_solidBytes_12 sp_255 ?_
      refine sm_iand dX8_solidBytes_15 ?_
      have hj16 : ∀ (v16_0 : Int32), v16_0 = (if ((Int32.toUInt32 x1 >>> (Int32.toUInt32 x3 &&& Int32.toUInt32 31)).toInt32 &&& 255) = 0 then x2 else (x2 + 1)) → Sm D mX8_solidBytes 22 [none, some (av_i x1), some (av_i v16_0), some (av_i x3)] [] μ (po_i r μr) := by
        intro v16_0 ev16_0
        subst ev16_0
        refine sm_iinc dX8_solidBytes_22 rfl (congrArg (HAdd.hAdd x3) ic_m8) (Nat.le_of_ble_eq_true rfl) (pv_i rfl) ?_
        refine sm_goto (tgt := 5) dX8_solidBytes_25 (by decide) ?_
        exact Sm_weak (le_n (le_s rfl (le_s rfl (le_s rfl le_0)))) (ih x1 (if ((Int32.toUInt32 x1 >>> (Int32.toUInt32 x3 &&& Int32.toUInt32 31)).toInt32 &&& 255) = 0 then x2 else (x2 + 1)) (x3 + (-8)) μ h)
      refine sm_if_eq (tgt := 22) dX8_solidBytes_16 (by decide) (fun c16_0 => ?_) (fun c16_0 => ?_)
      · exact Sm_weak (le_n (le_s rfl (le_s rfl (le_s rfl le_0)))) (hj16 _ (if_pos c16_0).symm)
      · refine sm_iinc dX8_solidBytes_19 rfl (congrArg (HAdd.hAdd x2) ic_1) (Nat.le_of_ble_eq_true rfl) (pv_i rfl) ?_
        exact Sm_weak (le_n (le_s rfl (le_s rfl (le_s rfl le_0)))) (hj16 _ (if_neg c16_0).symm)
set_option maxRecDepth 100000 in
set_option maxHeartbeats 4000000 in
theorem s_Ta_solidBytes {D : Nat} (hD : 0 ≤ D) (N : Nat) {x1 : Int32} {μ : MM} {r : Int32} {μr : MM} (h : f_Ta_solidBytes N x1 μ = some (r, μr)) : Cl D mX8_solidBytes [av_r 1, av_i x1] μ (po_i r μr) := by
  refine Cl_of pn_X8 (Nat.le_of_ble_eq_true rfl) ?_
  show Sm D mX8_solidBytes 0 [some (av_r 1), some (av_i x1), none, none] [] μ (po_i r μr)
  unfold f_Ta_solidBytes at h
  refine sm_iconst dX8_solidBytes_0 ic_0 ?_
  refine sm_istore_n dX8_solidBytes_1 rfl (Nat.le_of_ble_eq_true rfl) (pv_i rfl) ?_
  refine sm_bipush dX8_solidBytes_2 bp_24 ?_
  refine sm_istore_n dX8_solidBytes_4 rfl (Nat.le_of_ble_eq_true rfl) (pv_i rfl) ?_
  exact Sm_weak (le_n (le_s rfl (le_s rfl (le_s rfl le_0)))) (s_Ta_solidBytes_L5 hD N N x1 0 24 μ h)
set_option maxRecDepth 100000 in
set_option maxHeartbeats 4000000 in
theorem s_Ta_append_L3 {D : Nat} (hD : 0 ≤ D) (N : Nat) {μr : MM} : ∀ (n : Nat) (x1 : Int32) (x2 : Int32) (μ : MM), f_Ta_append_L3 N n x1 x2 μ = some μr → Sm D mX8_append 3 [some (av_r 1), some (av_i x1), some (av_i x2), none] [] μ (po_v μr) := by
  intro n
  induction n with
  | zero => intro x1 x2 μ h; cases (show none = some μr from h)
  | succ n ih =>
    intro x1 x2 μ h
    rw [f_Ta_append_L3] at h
    refine sm_iload_n dX8_append_3 rfl rfl ?_
    refine sm_if_lt (tgt := 55) dX8_append_4 (by decide) (fun g1 => ?_) (fun g1 => ?_)
    · replace h := it_t g1 h
      cases h
      exact sm_ret_v (st := []) dX8_append_55 rfl ⟨rfl, rfl⟩
    · replace h := it_f g1 h
      refine sm_iload_n dX8_append_7 rfl rfl ?_
      refine sm_iload_n dX8_append_8 rfl rfl ?_
      refine sm_iushr dX8_append_9 ?_
      refine sm_sipush dX8_append_10 sp_255 ?_
      refine sm_iand dX8_append_13 ?_
      refine sm_istore_n dX8_append_14 rfl (Nat.le_of_ble_eq_true rfl) (pv_i rfl) ?_
      refine sm_iload_n dX8_append_15 rfl rfl ?_
      refine sm_if_eq (tgt := 49) dX8_append_16 (by decide) (fun g2 => ?_) (fun g2 => ?_)
      · replace h := it_t g2 h
        refine sm_iinc dX8_append_49 rfl (congrArg (HAdd.hAdd x2) ic_m8) (Nat.le_of_ble_eq_true rfl) (pv_i rfl) ?_
        refine sm_goto (tgt := 3) dX8_append_52 (by decide) ?_
        exact Sm_weak (le_s rfl (le_s rfl (le_s rfl (le_n le_0)))) (ih x1 (x2 + (-8)) μ h)
      · replace h := it_f g2 h
        refine sm_aload_n dX8_append_19 rfl rfl ?_
        refine sm_getI dX8_append_20 fg_RX8_15 k_1 ?_
        refine sm_sipush dX8_append_23 sp_240 ?_
        refine sm_icmp_ge (tgt := 49) dX8_append_26 (by decide) (fun g3 => ?_) (fun g3 => ?_)
        · replace h := it_t g3 h
          refine sm_iinc dX8_append_49 rfl (congrArg (HAdd.hAdd x2) ic_m8) (Nat.le_of_ble_eq_true rfl) (pv_i rfl) ?_
          refine sm_goto (tgt := 3) dX8_append_52 (by decide) ?_
          exact Sm_weak (le_s rfl (le_s rfl (le_s rfl (le_n le_0)))) (ih x1 (x2 + (-8)) μ h)
        · replace h := it_f g3 h
          refine sm_aload_n dX8_append_29 rfl rfl ?_
          refine sm_getR dX8_append_30 fg_RX8_11 k_1 (rf_8_0 k_1) ?_
          refine sm_aload_n dX8_append_33 rfl rfl ?_
          refine sm_getI dX8_append_34 fg_RX8_15 k_1 ?_
          refine sm_iload_n dX8_append_37 rfl rfl ?_
          obtain ⟨g4, h⟩ := gd_some h
          refine sm_iast (j := (Int32.toNatClampNeg (μ.1 1 1))) dX8_append_38 k_2 (in_sz n_2 g4) rfl ?_
          replace h := wr_some h
          refine sm_aload_n dX8_append_39 rfl rfl ?_
          refine sm_dup dX8_append_40 rfl ?_
          refine sm_getI dX8_append_41 fg_RX8_15 k_1 ?_
          refine sm_iconst dX8_append_44 ic_1 ?_
          refine sm_iadd dX8_append_45 ?_
          refine sm_putI dX8_append_46 fp_RX8_15 k_1 ?_
          replace h := wr_some h
          refine sm_iinc dX8_append_49 rfl (congrArg (HAdd.hAdd x2) ic_m8) (Nat.le_of_ble_eq_true rfl) (pv_i rfl) ?_
          refine sm_goto (tgt := 3) dX8_append_52 (by decide) ?_
          exact Sm_weak (le_s rfl (le_s rfl (le_s rfl (le_n le_0)))) (ih x1 (x2 + (-8)) (mm_I (mm_I μ 2 (Int32.toNatClampNeg (μ.1 1 1)) ((Int32.toUInt32 x1 >>> (Int32.toUInt32 x2 &&& Int32.toUInt32 31)).toInt32 &&& 255)) 1 1 (((mm_I μ 2 (Int32.toNatClampNeg (μ.1 1 1)) ((Int32.toUInt32 x1 >>> (Int32.toUInt32 x2 &&& Int32.toUInt32 31)).toInt32 &&& 255)).1 1 1) + 1)) h)
set_option maxRecDepth 100000 in
set_option maxHeartbeats 4000000 in
theorem s_Ta_append {D : Nat} (hD : 0 ≤ D) (N : Nat) {x1 : Int32} {μ : MM} {μr : MM} (h : f_Ta_append N x1 μ = some μr) : Cl D mX8_append [av_r 1, av_i x1] μ (po_v μr) := by
  refine Cl_of pn_X8 (Nat.le_of_ble_eq_true rfl) ?_
  show Sm D mX8_append 0 [some (av_r 1), some (av_i x1), none, none] [] μ (po_v μr)
  unfold f_Ta_append at h
  refine sm_bipush dX8_append_0 bp_24 ?_
  refine sm_istore_n dX8_append_2 rfl (Nat.le_of_ble_eq_true rfl) (pv_i rfl) ?_
  exact Sm_weak (le_s rfl (le_s rfl (le_s rfl (le_n le_0)))) (s_Ta_append_L3 hD N N x1 24 μ h)
set_option maxRecDepth 100000 in
set_option maxHeartbeats 4000000 in
theorem s_Tr_readAbout_B25 {D : Nat} (hD : 1 ≤ D) (N : Nat) {r : Int32} {μr : MM} (x2 : Int32) (s0 : Int32) (μ : MM) (h : f_Tr_readAbout_B25 N x2 s0 μ = some (r, μr)) : Sm D mX9_readAbout 25 [some (av_r 3), none, some (av_i x2), none, none] [av_i s0] μ (po_i r μr) := by
  obtain ⟨d, rfl⟩ : ∃ d, D = d + 1 := ⟨D - 1, by omega⟩
  unfold f_Tr_readAbout_B25 at h
  refine sm_istore_n dX9_readAbout_25 rfl (Nat.le_of_ble_eq_true rfl) (pv_i rfl) ?_
  refine sm_aload_n dX9_readAbout_26 rfl rfl ?_
  refine sm_getR dX9_readAbout_27 fg_RX9_35 k_3 (rf_9_0 k_3) ?_
  obtain ⟨t30, μ1z, g1, h⟩ := ob_some h
  refine sm_callV dX9_readAbout_30 cv_X8_peek ml_RX9_51 k_1 rfl rfl (by decide) (as := []) rfl (Nat.le_of_ble_eq_true rfl) rfl (s_Ta_peek (D := d) (by omega) N g1) (fun r9 μ9 hp => ?_)
  rw [hp.1, hp.2]
  clear hp r9 μ9
  refine sm_istore dX9_readAbout_33 (Nat.le_of_ble_eq_true rfl) (pv_i rfl) ?_
  refine sm_iload dX9_readAbout_35 rfl ?_
  refine sm_iload_n dX9_readAbout_37 rfl rfl ?_
  refine sm_icmp_lt (tgt := 47) dX9_readAbout_38 (by decide) (fun g2 => ?_) (fun g2 => ?_)
  · replace h := it_t g2 h
    refine sm_iconst dX9_readAbout_47 ic_m1 ?_
    cases h
    exact sm_ret_i (st := []) dX9_readAbout_48 rfl ⟨rfl, rfl⟩
  · replace h := it_f g2 h
    refine sm_iload dX9_readAbout_41 rfl ?_
    refine sm_iload_n dX9_readAbout_43 rfl rfl ?_
    refine sm_icmp_le (tgt := 49) dX9_readAbout_44 (by decide) (fun g3 => ?_) (fun g3 => ?_)
    · replace h := it_t g3 h
      refine sm_aload_n dX9_readAbout_49 rfl rfl ?_
      refine sm_getR dX9_readAbout_50 fg_RX9_35 k_3 (rf_9_0 k_3) ?_
      obtain ⟨μ2z, g4, h⟩ := obv_some h
      refine sm_callV dX9_readAbout_53 cv_X8_step ml_RX9_97 k_1 rfl rfl (by decide) (as := []) rfl (Nat.le_of_ble_eq_true rfl) rfl (s_Ta_step (D := d) (by omega) N g4) (fun r9 μ9 hp => ?_)
      rw [hp.1, hp.2]
      clear hp r9 μ9
      refine sm_iload dX9_readAbout_56 rfl ?_
      refine sm_iload_n dX9_readAbout_58 rfl rfl ?_
      refine sm_isub dX9_readAbout_59 ?_
      cases h
      exact sm_ret_i (st := []) dX9_readAbout_60 rfl ⟨rfl, rfl⟩
    · replace h := it_f g3 h
      refine sm_iconst dX9_readAbout_47 ic_m1 ?_
      cases h
      exact sm_ret_i (st := []) dX9_readAbout_48 rfl ⟨rfl, rfl⟩
set_option maxRecDepth 100000 in
set_option maxHeartbeats 4000000 in
theorem s_Tr_readAbout_B12 {D : Nat} (hD : 1 ≤ D) (N : Nat) {r : Int32} {μr : MM} (x1 : Int32) (s0 : Int32) (μ : MM) (h : f_Tr_readAbout_B12 N x1 s0 μ = some (r, μr)) : Sm D mX9_readAbout 12 [some (av_r 3), some (av_i x1), none, none, none] [av_i s0] μ (po_i r μr) := by
  obtain ⟨d, rfl⟩ : ∃ d, D = d + 1 := ⟨D - 1, by omega⟩
  unfold f_Tr_readAbout_B12 at h
  refine sm_istore_n dX9_readAbout_12 rfl (Nat.le_of_ble_eq_true rfl) (pv_i rfl) ?_
  refine sm_iload_n dX9_readAbout_13 rfl rfl ?_
  refine sm_iconst dX9_readAbout_14 ic_2 ?_
  have hj15 : ∀ (v15_0 : Int32), v15_0 = (if x1 = 2 then (57 : Int32) else 102) → Sm (d + 1) mX9_readAbout 25 [some (av_r 3), none, some (av_i s0), none, none] [av_i v15_0] μ (po_i r μr) := by
    intro v15_0 ev15_0
    subst ev15_0
    exact Sm_weak (le_s rfl (le_n (le_s rfl (le_n (le_n le_0))))) (s_Tr_readAbout_B25 hD N s0 (if x1 = 2 then (57 : Int32) else 102) μ h)
  refine sm_icmp_ne (tgt := 23) dX9_readAbout_15 (by decide) (fun c15_0 => ?_) (fun c15_0 => ?_)
  · refine sm_bipush dX9_readAbout_23 bp_102 ?_
    exact Sm_weak (le_s rfl (le_n (le_s rfl (le_n (le_n le_0))))) (hj15 _ (if_neg c15_0).symm)
  · refine sm_bipush dX9_readAbout_18 bp_57 ?_
    refine sm_goto (tgt := 25) dX9_readAbout_20 (by decide) ?_
    exact Sm_weak (le_s rfl (le_n (le_s rfl (le_n (le_n le_0))))) (hj15 _ (if_pos c15_0).symm)
set_option maxRecDepth 100000 in
set_option maxHeartbeats 4000000 in
theorem s_Tr_readAbout {D : Nat} (hD : 1 ≤ D) (N : Nat) {x1 : Int32} {μ : MM} {r : Int32} {μr : MM} (h : f_Tr_readAbout N x1 μ = some (r, μr)) : Cl D mX9_readAbout [av_r 3, av_i x1] μ (po_i r μr) := by
  obtain ⟨d, rfl⟩ : ∃ d, D = d + 1 := ⟨D - 1, by omega⟩
  refine Cl_of pn_X9 (Nat.le_of_ble_eq_true rfl) ?_
  show Sm (d + 1) mX9_readAbout 0 [some (av_r 3), some (av_i x1), none, none, none] [] μ (po_i r μr)
  unfold f_Tr_readAbout at h
  refine sm_iload_n dX9_readAbout_0 rfl rfl ?_
  refine sm_iconst dX9_readAbout_1 ic_2 ?_
  have hj2 : ∀ (v2_0 : Int32), v2_0 = (if x1 = 2 then (48 : Int32) else 97) → Sm (d + 1) mX9_readAbout 12 [some (av_r 3), some (av_i x1), none, none, none] [av_i v2_0] μ (po_i r μr) := by
    intro v2_0 ev2_0
    subst ev2_0
    exact Sm_weak (le_s rfl (le_s rfl (le_n (le_n (le_n le_0))))) (s_Tr_readAbout_B12 hD N x1 (if x1 = 2 then (48 : Int32) else 97) μ h)
  refine sm_icmp_ne (tgt := 10) dX9_readAbout_2 (by decide) (fun c2_0 => ?_) (fun c2_0 => ?_)
  · refine sm_bipush dX9_readAbout_10 bp_97 ?_
    exact Sm_weak (le_s rfl (le_s rfl (le_n (le_n (le_n le_0))))) (hj2 _ (if_neg c2_0).symm)
  · refine sm_bipush dX9_readAbout_5 bp_48 ?_
    refine sm_goto (tgt := 12) dX9_readAbout_7 (by decide) ?_
    exact Sm_weak (le_s rfl (le_s rfl (le_n (le_n (le_n le_0))))) (hj2 _ (if_pos c2_0).symm)
set_option maxRecDepth 100000 in
set_option maxHeartbeats 4000000 in
theorem s_Wo_add {D : Nat} (hD : 0 ≤ D) (N : Nat) {w : Nat} (hk_w : sh_k w = 10) {x1 : Int32} {x2 : Int32} {x3 : Int32} {x4 : Int32} {μ : MM} {r : Int32} {μr : MM} (h : f_Wo_add N w x1 x2 x3 x4 μ = some (r, μr)) : Cl D mX10_add [av_r w, av_i x1, av_i x2, av_i x3, av_i x4] μ (po_i r μr) := by
  refine Cl_of pn_X10 (Nat.le_of_ble_eq_true rfl) ?_
  show Sm D mX10_add 0 [some (av_r w), some (av_i x1), some (av_i x2), some (av_i x3), some (av_i x4), none] [] μ (po_i r μr)
  unfold f_Wo_add at h
  refine sm_iload_n dX10_add_0 rfl rfl ?_
  refine sm_if_lt (tgt := 24) dX10_add_1 (by decide) (fun g1 => ?_) (fun g1 => ?_)
  · replace h := it_t g1 h
    refine sm_iconst dX10_add_24 ic_0 ?_
    cases h
    exact sm_ret_z (st := []) dX10_add_25 rfl rfl ⟨rfl, rfl⟩
  · replace h := it_f g1 h
    refine sm_iload_n dX10_add_4 rfl rfl ?_
    refine sm_aload_n dX10_add_5 rfl rfl ?_
    refine sm_getR dX10_add_6 fg_RX10_18 hk_w (rf_10_0 hk_w) ?_
    refine sm_alen dX10_add_9 (kk_10_0 hk_w) (by decide) (by decide) ?_
    refine sm_icmp_ge (tgt := 24) dX10_add_10 (by decide) (fun g2 => ?_) (fun g2 => ?_)
    · replace h := it_t g2 h
      refine sm_iconst dX10_add_24 ic_0 ?_
      cases h
      exact sm_ret_z (st := []) dX10_add_25 rfl rfl ⟨rfl, rfl⟩
    · replace h := it_f g2 h
      refine sm_aload_n dX10_add_13 rfl rfl ?_
      refine sm_getR dX10_add_14 fg_RX10_18 hk_w (rf_10_0 hk_w) ?_
      refine sm_iload_n dX10_add_17 rfl rfl ?_
      obtain ⟨g3, h⟩ := gd_some h
      refine sm_iald (j := (Int32.toNatClampNeg x1)) dX10_add_18 (kk_10_0 hk_w) (in_sz rfl g3) rfl ?_
      refine sm_bipush dX10_add_19 bp_6 ?_
      refine sm_icmp_lt (tgt := 26) dX10_add_21 (by decide) (fun g4 => ?_) (fun g4 => ?_)
      · replace h := it_t g4 h
        refine sm_iload_n dX10_add_26 rfl rfl ?_
        refine sm_bipush dX10_add_27 bp_6 ?_
        refine sm_imul dX10_add_29 ?_
        refine sm_aload_n dX10_add_30 rfl rfl ?_
        refine sm_getR dX10_add_31 fg_RX10_18 hk_w (rf_10_0 hk_w) ?_
        refine sm_iload_n dX10_add_34 rfl rfl ?_
        obtain ⟨g5, h⟩ := gd_some h
        refine sm_iald (j := (Int32.toNatClampNeg x1)) dX10_add_35 (kk_10_0 hk_w) (in_sz rfl g5) rfl ?_
        refine sm_iadd dX10_add_36 ?_
        refine sm_istore dX10_add_37 (Nat.le_of_ble_eq_true rfl) (pv_i rfl) ?_
        refine sm_aload_n dX10_add_39 rfl rfl ?_
        refine sm_getR dX10_add_40 fg_RX10_24 hk_w (rf_10_1 hk_w) ?_
        refine sm_iload dX10_add_43 rfl ?_
        refine sm_iload_n dX10_add_45 rfl rfl ?_
        obtain ⟨g6, h⟩ := gd_some h
        refine sm_iast (j := (Int32.toNatClampNeg ((x1 * 6) + (μ.1 (w + 1) (Int32.toNatClampNeg x1))))) dX10_add_46 (kk_10_1 hk_w) (in_sz rfl g6) rfl ?_
        replace h := wr_some h
        refine sm_aload_n dX10_add_47 rfl rfl ?_
        refine sm_getR dX10_add_48 fg_RX10_27 hk_w (rf_10_2 hk_w) ?_
        refine sm_iload dX10_add_51 rfl ?_
        refine sm_iload_n dX10_add_53 rfl rfl ?_
        obtain ⟨g7, h⟩ := gd_some h
        refine sm_iast (j := (Int32.toNatClampNeg ((x1 * 6) + (μ.1 (w + 1) (Int32.toNatClampNeg x1))))) dX10_add_54 (kk_10_2 hk_w) (in_sz rfl g7) rfl ?_
        replace h := wr_some h
        refine sm_aload_n dX10_add_55 rfl rfl ?_
        refine sm_getR dX10_add_56 fg_RX10_30 hk_w (rf_10_3 hk_w) ?_
        refine sm_iload dX10_add_59 rfl ?_
        refine sm_iload dX10_add_61 rfl ?_
        obtain ⟨g8, h⟩ := gd_some h
        refine sm_iast (j := (Int32.toNatClampNeg ((x1 * 6) + (μ.1 (w + 1) (Int32.toNatClampNeg x1))))) dX10_add_63 (kk_10_3 hk_w) (in_sz rfl g8) rfl ?_
        replace h := wr_some h
        refine sm_aload_n dX10_add_64 rfl rfl ?_
        refine sm_getR dX10_add_65 fg_RX10_18 hk_w (rf_10_0 hk_w) ?_
        refine sm_iload_n dX10_add_68 rfl rfl ?_
        refine sm_dup2 dX10_add_69 rfl rfl ?_
        obtain ⟨g9, h⟩ := gd_some h
        refine sm_iald (j := (Int32.toNatClampNeg x1)) dX10_add_70 (kk_10_0 hk_w) (in_sz rfl g9) rfl ?_
        refine sm_iconst dX10_add_71 ic_1 ?_
        refine sm_iadd dX10_add_72 ?_
        obtain ⟨g10, h⟩ := gd_some h
        refine sm_iast (j := (Int32.toNatClampNeg x1)) dX10_add_73 (kk_10_0 hk_w) (in_sz rfl g10) rfl ?_
        replace h := wr_some h
        refine sm_iconst dX10_add_74 ic_1 ?_
        cases h
        exact sm_ret_z (st := []) dX10_add_75 rfl rfl ⟨rfl, rfl⟩
      · replace h := it_f g4 h
        refine sm_iconst dX10_add_24 ic_0 ?_
        cases h
        exact sm_ret_z (st := []) dX10_add_25 rfl rfl ⟨rfl, rfl⟩
set_option maxRecDepth 100000 in
set_option maxHeartbeats 4000000 in
theorem s_Tr_readWords_B95 {D : Nat} (hD : 2 ≤ D) (N : Nat) {q1 : Nat} (hk_q1 : sh_k q1 = 10) {r : Int32} {μr : MM} {k3 : Int32 → Int32 → Int32 → MM → Option (Int32 × MM)} (hk3 : ∀ (x2 : Int32) (x3 : Int32) (x4 : Int32) (μ : MM), k3 x2 x3 x4 μ = some (r, μr) → Sm D mX9_readWords 3 [some (av_r 3), some (av_r q1), some (av_i x2), some (av_i x3), some (av_i x4), none, none, none] [] μ (po_i r μr)) (x2 : Int32) (x3 : Int32) (x4 : Int32) (x6 : Int32) (μ : MM) (h : f_Tr_readWords_B95 N q1 k3 x2 x3 x4 x6 μ = some (r, μr)) : Sm D mX9_readWords 95 [some (av_r 3), some (av_r q1), some (av_i x2), some (av_i x3), some (av_i x4), none, some (av_i x6), none] [] μ (po_i r μr) := by
  obtain ⟨d, rfl⟩ : ∃ d, D = d + 1 := ⟨D - 1, by omega⟩
  unfold f_Tr_readWords_B95 at h
  refine sm_aload_n dX9_readWords_95 rfl rfl ?_
  refine sm_iload dX9_readWords_96 rfl ?_
  obtain ⟨t98, μ2z, g6, h⟩ := ob_some h
  refine sm_callV dX9_readWords_98 cv_X9_readAbout ml_RX9_180 k_3 rfl rfl (by decide) (as := [av_i x6]) rfl (Nat.le_of_ble_eq_true rfl) rfl (s_Tr_readAbout (D := d) (by omega) N g6) (fun r9 μ9 hp => ?_)
  rw [hp.1, hp.2]
  clear hp r9 μ9
  refine sm_istore dX9_readWords_101 (Nat.le_of_ble_eq_true rfl) (pv_i rfl) ?_
  refine sm_iload dX9_readWords_103 rfl ?_
  refine sm_iconst dX9_readWords_105 ic_m1 ?_
  refine sm_icmp_eq (tgt := 122) dX9_readWords_106 (by decide) (fun g7 => ?_) (fun g7 => ?_)
  · replace h := it_t g7 h
    refine sm_iconst dX9_readWords_122 ic_0 ?_
    cases h
    exact sm_ret_z (st := []) dX9_readWords_123 rfl rfl ⟨rfl, rfl⟩
  · replace h := it_f g7 h
    refine sm_aload_n dX9_readWords_109 rfl rfl ?_
    refine sm_iload_n dX9_readWords_110 rfl rfl ?_
    refine sm_iload dX9_readWords_111 rfl ?_
    refine sm_iload dX9_readWords_113 rfl ?_
    refine sm_iload_n dX9_readWords_115 rfl rfl ?_
    obtain ⟨t116, μ3z, g8, h⟩ := ob_some h
    refine sm_callV dX9_readWords_116 cv_X10_add ml_RX9_183 hk_q1 rfl rfl (by decide) (as := [av_i x2, av_i x6, av_i t98, av_i x3]) rfl (Nat.le_of_ble_eq_true rfl) rfl (s_Wo_add (D := d) (by omega) N hk_q1 g8) (fun r9 μ9 hp => ?_)
    rw [hp.1, hp.2]
    clear hp r9 μ9
    refine sm_if_ne (tgt := 124) dX9_readWords_119 (by decide) (fun g9 => ?_) (fun g9 => ?_)
    · replace h := it_f g9 h
      refine sm_iinc dX9_readWords_124 rfl (congrArg (HAdd.hAdd x4) ic_1) (Nat.le_of_ble_eq_true rfl) (pv_i rfl) ?_
      refine sm_goto (tgt := 3) dX9_readWords_127 (by decide) ?_
      exact Sm_weak (le_s rfl (le_s rfl (le_s rfl (le_s rfl (le_s rfl (le_n (le_n (le_n le_0)))))))) (hk3 x2 x3 (x4 + 1) μ3z h)
    · replace h := it_t g9 h
      refine sm_iconst dX9_readWords_122 ic_0 ?_
      cases h
      exact sm_ret_z (st := []) dX9_readWords_123 rfl rfl ⟨rfl, rfl⟩
set_option maxRecDepth 100000 in
set_option maxHeartbeats 4000000 in
theorem s_Tr_readWords_B74 {D : Nat} (hD : 2 ≤ D) (N : Nat) {q1 : Nat} (hk_q1 : sh_k q1 = 10) {r : Int32} {μr : MM} {k3 : Int32 → Int32 → Int32 → MM → Option (Int32 × MM)} (hk3 : ∀ (x2 : Int32) (x3 : Int32) (x4 : Int32) (μ : MM), k3 x2 x3 x4 μ = some (r, μr) → Sm D mX9_readWords 3 [some (av_r 3), some (av_r q1), some (av_i x2), some (av_i x3), some (av_i x4), none, none, none] [] μ (po_i r μr)) (x2 : Int32) (x3 : Int32) (x4 : Int32) (x6 : Int32) (μ : MM) (h : f_Tr_readWords_B74 N q1 k3 x2 x3 x4 x6 μ = some (r, μr)) : Sm D mX9_readWords 74 [some (av_r 3), some (av_r q1), some (av_i x2), some (av_i x3), some (av_i x4), none, some (av_i x6), none] [] μ (po_i r μr) := by
  obtain ⟨d, rfl⟩ : ∃ d, D = d + 1 := ⟨D - 1, by omega⟩
  unfold f_Tr_readWords_B74 at h
  refine sm_iload dX9_readWords_74 rfl ?_
  refine sm_bipush dX9_readWords_76 bp_6 ?_
  refine sm_icmp_ne (tgt := 83) dX9_readWords_78 (by decide) (fun g4 => ?_) (fun g4 => ?_)
  · replace h := it_f g4 h
    refine sm_iload dX9_readWords_83 rfl ?_
    refine sm_if_eq (tgt := 95) dX9_readWords_85 (by decide) (fun g5 => ?_) (fun g5 => ?_)
    · replace h := it_t g5 h
      exact Sm_weak (le_s rfl (le_s rfl (le_s rfl (le_s rfl (le_s rfl (le_n (le_s rfl (le_n le_0)))))))) (s_Tr_readWords_B95 hD N hk_q1 hk3 x2 x3 x4 x6 μ h)
    · replace h := it_f g5 h
      refine sm_aload_n dX9_readWords_88 rfl rfl ?_
      refine sm_getR dX9_readWords_89 fg_RX9_35 k_3 (rf_9_0 k_3) ?_
      obtain ⟨μ4z, g10, h⟩ := obv_some h
      refine sm_callV dX9_readWords_92 cv_X8_step ml_RX9_97 k_1 rfl rfl (by decide) (as := []) rfl (Nat.le_of_ble_eq_true rfl) rfl (s_Ta_step (D := d) (by omega) N g10) (fun r9 μ9 hp => ?_)
      rw [hp.1, hp.2]
      clear hp r9 μ9
      exact Sm_weak (le_s rfl (le_s rfl (le_s rfl (le_s rfl (le_s rfl (le_n (le_s rfl (le_n le_0)))))))) (s_Tr_readWords_B95 hD N hk_q1 hk3 x2 x3 x4 x6 μ4z h)
  · replace h := it_t g4 h
    refine sm_iconst dX9_readWords_81 ic_0 ?_
    cases h
    exact sm_ret_z (st := []) dX9_readWords_82 rfl rfl ⟨rfl, rfl⟩
set_option maxRecDepth 100000 in
set_option maxHeartbeats 4000000 in
theorem s_Tr_readWords_B63 {D : Nat} (hD : 2 ≤ D) (N : Nat) {q1 : Nat} (hk_q1 : sh_k q1 = 10) {r : Int32} {μr : MM} (x4 : Int32) (μ : MM) (h : f_Tr_readWords_B63 N q1 x4 μ = some (r, μr)) : Sm D mX9_readWords 63 [none, none, none, none, some (av_i x4), none, none, none] [] μ (po_i r μr) := by
  obtain ⟨d, rfl⟩ : ∃ d, D = d + 1 := ⟨D - 1, by omega⟩
  unfold f_Tr_readWords_B63 at h
  refine sm_iload dX9_readWords_63 rfl ?_
  have hj65 : ∀ (v65_0 : Int32), v65_0 = (if x4 ≤ 0 then (0 : Int32) else 1) → Sm (d + 1) mX9_readWords 73 [none, none, none, none, none, none, none, none] [av_i v65_0] μ (po_i r μr) := by
    intro v65_0 ev65_0
    subst ev65_0
    obtain ⟨g12, h⟩ := gd_some h
    cases h
    exact sm_ret_z (st := []) dX9_readWords_73 rfl (zb_nar g12) ⟨rfl, rfl⟩
  refine sm_if_le (tgt := 72) dX9_readWords_65 (by decide) (fun c65_0 => ?_) (fun c65_0 => ?_)
  · refine sm_iconst dX9_readWords_72 ic_0 ?_
    exact Sm_weak (le_n (le_n (le_n (le_n (le_n (le_n (le_n (le_n le_0)))))))) (hj65 _ (if_pos c65_0).symm)
  · refine sm_iconst dX9_readWords_68 ic_1 ?_
    refine sm_goto (tgt := 73) dX9_readWords_69 (by decide) ?_
    exact Sm_weak (le_n (le_n (le_n (le_n (le_n (le_n (le_n (le_n le_0)))))))) (hj65 _ (if_neg c65_0).symm)
set_option maxRecDepth 100000 in
set_option maxHeartbeats 4000000 in
theorem s_Tr_readWords_B42 {D : Nat} (hD : 2 ≤ D) (N : Nat) {q1 : Nat} (hk_q1 : sh_k q1 = 10) {r : Int32} {μr : MM} {k3 : Int32 → Int32 → Int32 → MM → Option (Int32 × MM)} (hk3 : ∀ (x2 : Int32) (x3 : Int32) (x4 : Int32) (μ : MM), k3 x2 x3 x4 μ = some (r, μr) → Sm D mX9_readWords 3 [some (av_r 3), some (av_r q1), some (av_i x2), some (av_i x3), some (av_i x4), none, none, none] [] μ (po_i r μr)) (x2 : Int32) (x3 : Int32) (x4 : Int32) (x5 : Int32) (s0 : Int32) (μ : MM) (h : f_Tr_readWords_B42 N q1 k3 x2 x3 x4 x5 s0 μ = some (r, μr)) : Sm D mX9_readWords 42 [some (av_r 3), some (av_r q1), some (av_i x2), some (av_i x3), some (av_i x4), some (av_i x5), none, none] [av_i s0] μ (po_i r μr) := by
  obtain ⟨d, rfl⟩ : ∃ d, D = d + 1 := ⟨D - 1, by omega⟩
  unfold f_Tr_readWords_B42 at h
  refine sm_istore dX9_readWords_42 (Nat.le_of_ble_eq_true rfl) (pv_i rfl) ?_
  refine sm_iload dX9_readWords_44 rfl ?_
  refine sm_if_ne (tgt := 74) dX9_readWords_46 (by decide) (fun g3 => ?_) (fun g3 => ?_)
  · replace h := it_f g3 h
    exact Sm_weak (le_s rfl (le_s rfl (le_s rfl (le_s rfl (le_s rfl (le_n (le_s rfl (le_n le_0)))))))) (s_Tr_readWords_B74 hD N hk_q1 hk3 x2 x3 x4 s0 μ h)
  · replace h := it_t g3 h
    refine sm_iload dX9_readWords_49 rfl ?_
    refine sm_bipush dX9_readWords_51 bp_97 ?_
    refine sm_icmp_lt (tgt := 63) dX9_readWords_53 (by decide) (fun g11 => ?_) (fun g11 => ?_)
    · replace h := it_t g11 h
      exact Sm_weak (le_n (le_n (le_n (le_n (le_s rfl (le_n (le_n (le_n le_0)))))))) (s_Tr_readWords_B63 hD N hk_q1 x4 μ h)
    · replace h := it_f g11 h
      refine sm_iload dX9_readWords_56 rfl ?_
      refine sm_bipush dX9_readWords_58 bp_102 ?_
      refine sm_icmp_le (tgt := 74) dX9_readWords_60 (by decide) (fun g13 => ?_) (fun g13 => ?_)
      · replace h := it_t g13 h
        exact Sm_weak (le_s rfl (le_s rfl (le_s rfl (le_s rfl (le_s rfl (le_n (le_s rfl (le_n le_0)))))))) (s_Tr_readWords_B74 hD N hk_q1 hk3 x2 x3 x4 s0 μ h)
      · replace h := it_f g13 h
        exact Sm_weak (le_n (le_n (le_n (le_n (le_s rfl (le_n (le_n (le_n le_0)))))))) (s_Tr_readWords_B63 hD N hk_q1 x4 μ h)
set_option maxRecDepth 100000 in
set_option maxHeartbeats 4000000 in
theorem s_Tr_readWords_L3 {D : Nat} (hD : 2 ≤ D) (N : Nat) {q1 : Nat} (hk_q1 : sh_k q1 = 10) {r : Int32} {μr : MM} : ∀ (n : Nat) (x2 : Int32) (x3 : Int32) (x4 : Int32) (μ : MM), f_Tr_readWords_L3 N q1 n x2 x3 x4 μ = some (r, μr) → Sm D mX9_readWords 3 [some (av_r 3), some (av_r q1), some (av_i x2), some (av_i x3), some (av_i x4), none, none, none] [] μ (po_i r μr) := by
  obtain ⟨d, rfl⟩ : ∃ d, D = d + 1 := ⟨D - 1, by omega⟩
  intro n
  induction n with
  | zero => intro x2 x3 x4 μ h; cases (show none = some (r, μr) from h)
  | succ n ih =>
    intro x2 x3 x4 μ h
    rw [f_Tr_readWords_L3] at h
    refine sm_iload dX9_readWords_3 rfl ?_
    refine sm_bipush dX9_readWords_5 bp_6 ?_
    refine sm_icmp_gt (tgt := 130) dX9_readWords_7 (by decide) (fun g1 => ?_) (fun g1 => ?_)
    · replace h := it_t g1 h
      refine sm_iconst dX9_readWords_130 ic_0 ?_
      cases h
      exact sm_ret_z (st := []) dX9_readWords_131 rfl rfl ⟨rfl, rfl⟩
    · replace h := it_f g1 h
      refine sm_aload_n dX9_readWords_10 rfl rfl ?_
      refine sm_getR dX9_readWords_11 fg_RX9_35 k_3 (rf_9_0 k_3) ?_
      obtain ⟨t14, μ1z, g2, h⟩ := ob_some h
      refine sm_callV dX9_readWords_14 cv_X8_peek ml_RX9_51 k_1 rfl rfl (by decide) (as := []) rfl (Nat.le_of_ble_eq_true rfl) rfl (s_Ta_peek (D := d) (by omega) N g2) (fun r9 μ9 hp => ?_)
      rw [hp.1, hp.2]
      clear hp r9 μ9
      refine sm_istore dX9_readWords_17 (Nat.le_of_ble_eq_true rfl) (pv_i rfl) ?_
      refine sm_iload dX9_readWords_19 rfl ?_
      refine sm_bipush dX9_readWords_21 bp_62 ?_
      have hj23 : ∀ (v23_0 : Int32), v23_0 = (if t14 = 62 then (2 : Int32) else (if t14 = 45 then (1 : Int32) else 0)) → Sm (d + 1) mX9_readWords 42 [some (av_r 3), some (av_r q1), some (av_i x2), some (av_i x3), some (av_i x4), some (av_i t14), none, none] [av_i v23_0] μ1z (po_i r μr) := by
        intro v23_0 ev23_0
        subst ev23_0
        exact Sm_weak (le_s rfl (le_s rfl (le_s rfl (le_s rfl (le_s rfl (le_s rfl (le_n (le_n le_0)))))))) (s_Tr_readWords_B42 hD N hk_q1 ih x2 x3 x4 t14 (if t14 = 62 then (2 : Int32) else (if t14 = 45 then (1 : Int32) else 0)) μ1z h)
      refine sm_icmp_ne (tgt := 30) dX9_readWords_23 (by decide) (fun c23_0 => ?_) (fun c23_0 => ?_)
      · refine sm_iload dX9_readWords_30 rfl ?_
        refine sm_bipush dX9_readWords_32 bp_45 ?_
        refine sm_icmp_ne (tgt := 41) dX9_readWords_34 (by decide) (fun c34_1 => ?_) (fun c34_1 => ?_)
        · refine sm_iconst dX9_readWords_41 ic_0 ?_
          exact Sm_weak (le_s rfl (le_s rfl (le_s rfl (le_s rfl (le_s rfl (le_s rfl (le_n (le_n le_0)))))))) (hj23 _ ((if_neg c23_0).trans (if_neg c34_1)).symm)
        · refine sm_iconst dX9_readWords_37 ic_1 ?_
          refine sm_goto (tgt := 42) dX9_readWords_38 (by decide) ?_
          exact Sm_weak (le_s rfl (le_s rfl (le_s rfl (le_s rfl (le_s rfl (le_s rfl (le_n (le_n le_0)))))))) (hj23 _ ((if_neg c23_0).trans (if_pos c34_1)).symm)
      · refine sm_iconst dX9_readWords_26 ic_2 ?_
        refine sm_goto (tgt := 42) dX9_readWords_27 (by decide) ?_
        exact Sm_weak (le_s rfl (le_s rfl (le_s rfl (le_s rfl (le_s rfl (le_s rfl (le_n (le_n le_0)))))))) (hj23 _ (if_pos c23_0).symm)
set_option maxRecDepth 100000 in
set_option maxHeartbeats 4000000 in
theorem s_Tr_readWords {D : Nat} (hD : 2 ≤ D) (N : Nat) {q1 : Nat} (hk_q1 : sh_k q1 = 10) {x2 : Int32} {x3 : Int32} {μ : MM} {r : Int32} {μr : MM} (h : f_Tr_readWords N q1 x2 x3 μ = some (r, μr)) : Cl D mX9_readWords [av_r 3, av_r q1, av_i x2, av_i x3] μ (po_i r μr) := by
  obtain ⟨d, rfl⟩ : ∃ d, D = d + 1 := ⟨D - 1, by omega⟩
  refine Cl_of pn_X9 (Nat.le_of_ble_eq_true rfl) ?_
  show Sm (d + 1) mX9_readWords 0 [some (av_r 3), some (av_r q1), some (av_i x2), some (av_i x3), none, none, none, none] [] μ (po_i r μr)
  unfold f_Tr_readWords at h
  refine sm_iconst dX9_readWords_0 ic_0 ?_
  refine sm_istore dX9_readWords_1 (Nat.le_of_ble_eq_true rfl) (pv_i rfl) ?_
  exact Sm_weak (le_s rfl (le_s rfl (le_s rfl (le_s rfl (le_s rfl (le_n (le_n (le_n le_0)))))))) (s_Tr_readWords_L3 hD N hk_q1 N x2 x3 0 μ h)
set_option maxRecDepth 100000 in
set_option maxHeartbeats 4000000 in
theorem s_Tr_readReading {D : Nat} (hD : 3 ≤ D) (N : Nat) {μ : MM} {r : Int32} {μr : MM} (h : f_Tr_readReading N μ = some (r, μr)) : Cl D mX9_readReading [av_r 3] μ (po_i r μr) := by
  obtain ⟨d, rfl⟩ : ∃ d, D = d + 1 := ⟨D - 1, by omega⟩
  refine Cl_of pn_X9 (Nat.le_of_ble_eq_true rfl) ?_
  show Sm (d + 1) mX9_readReading 0 [some (av_r 3)] [] μ (po_i r μr)
  unfold f_Tr_readReading at h
  refine sm_aload_n dX9_readReading_0 rfl rfl ?_
  refine sm_getR dX9_readReading_1 fg_RX9_35 k_3 (rf_9_0 k_3) ?_
  obtain ⟨μ1z, g1, h⟩ := obv_some h
  refine sm_callV dX9_readReading_4 cv_X8_rewind ml_RX9_39 k_1 rfl rfl (by decide) (as := []) rfl (Nat.le_of_ble_eq_true rfl) rfl (s_Ta_rewind (D := d) (by omega) N g1) (fun r9 μ9 hp => ?_)
  rw [hp.1, hp.2]
  clear hp r9 μ9
  refine sm_aload_n dX9_readReading_7 rfl rfl ?_
  refine sm_getR dX9_readReading_8 fg_RX9_23 k_3 (rf_9_2 k_3) ?_
  refine sm_getR dX9_readReading_11 fg_RX9_44 k_15 (rf_10_0 k_15) ?_
  refine sm_iconst dX9_readReading_14 ic_0 ?_
  refine sm_iconst dX9_readReading_15 ic_0 ?_
  refine sm_iast (j := 0) dX9_readReading_16 k_16 (in_sz n_16 (by decide)) (by decide) ?_
  replace h := wr_some h
  refine sm_aload_n dX9_readReading_17 rfl rfl ?_
  refine sm_aload_n dX9_readReading_18 rfl rfl ?_
  refine sm_getR dX9_readReading_19 fg_RX9_23 k_3 (rf_9_2 k_3) ?_
  refine sm_iconst dX9_readReading_22 ic_0 ?_
  refine sm_bipush dX9_readReading_23 bp_9 ?_
  obtain ⟨t25, μ3z, g3, h⟩ := ob_some h
  refine sm_callV dX9_readReading_25 cv_X9_readWords ml_RX9_47 k_3 rfl rfl (by decide) (as := [av_r 15, av_i 0, av_i 9]) rfl (Nat.le_of_ble_eq_true rfl) rfl (s_Tr_readWords (D := d) (by omega) N k_15 g3) (fun r9 μ9 hp => ?_)
  rw [hp.1, hp.2]
  clear hp r9 μ9
  refine sm_if_eq (tgt := 46) dX9_readReading_28 (by decide) (fun g4 => ?_) (fun g4 => ?_)
  · replace h := it_t g4 h
    refine sm_iconst dX9_readReading_46 ic_0 ?_
    cases h
    exact sm_ret_z (st := []) dX9_readReading_47 rfl rfl ⟨rfl, rfl⟩
  · replace h := it_f g4 h
    refine sm_aload_n dX9_readReading_31 rfl rfl ?_
    refine sm_getR dX9_readReading_32 fg_RX9_35 k_3 (rf_9_0 k_3) ?_
    obtain ⟨t35, μ4z, g5, h⟩ := ob_some h
    refine sm_callV dX9_readReading_35 cv_X8_peek ml_RX9_51 k_1 rfl rfl (by decide) (as := []) rfl (Nat.le_of_ble_eq_true rfl) rfl (s_Ta_peek (D := d) (by omega) N g5) (fun r9 μ9 hp => ?_)
    rw [hp.1, hp.2]
    clear hp r9 μ9
    refine sm_iconst dX9_readReading_38 ic_m1 ?_
    refine sm_icmp_ne (tgt := 46) dX9_readReading_39 (by decide) (fun g6 => ?_) (fun g6 => ?_)
    · replace h := it_f g6 h
      refine sm_iconst dX9_readReading_46 ic_0 ?_
      cases h
      exact sm_ret_z (st := []) dX9_readReading_47 rfl rfl ⟨rfl, rfl⟩
    · replace h := it_t g6 h
      refine sm_iconst dX9_readReading_42 ic_1 ?_
      refine sm_goto (tgt := 47) dX9_readReading_43 (by decide) ?_
      cases h
      exact sm_ret_z (st := []) dX9_readReading_47 rfl rfl ⟨rfl, rfl⟩
set_option maxRecDepth 100000 in
set_option maxHeartbeats 4000000 in
theorem s_Tr_readItems_B62 {D : Nat} (hD : 4 ≤ D) (N : Nat) {q1 : Nat} (hk_q1 : sh_k q1 = 42) {q2 : Nat} (hk_q2 : sh_k q2 = 40) {q3 : Nat} (hk_q3 : sh_k q3 = 40) {q4 : Nat} (hk_q4 : sh_k q4 = 40) {r : Int32} {μr : MM} {k26 : Int32 → Int32 → MM → Option (Int32 × MM)} (hk26 : ∀ (x5 : Int32) (x6 : Int32) (μ : MM), k26 x5 x6 μ = some (r, μr) → Sm D mX9_readItems 26 [some (av_r 3), some (av_r q1), none, some (av_r q3), some (av_r q4), some (av_i x5), some (av_i x6), none, none, none] [] μ (po_i r μr)) (x5 : Int32) (x6 : Int32) (s0 : Int32) (μ : MM) (h : f_Tr_readItems_B62 N q1 q2 q3 q4 k26 x5 x6 s0 μ = some (r, μr)) : Sm D mX9_readItems 62 [some (av_r 3), some (av_r q1), none, some (av_r q3), some (av_r q4), some (av_i x5), some (av_i x6), none, none, none] [av_i s0] μ (po_i r μr) := by
  obtain ⟨d, rfl⟩ : ∃ d, D = d + 1 := ⟨D - 1, by omega⟩
  unfold f_Tr_readItems_B62 at h
  refine sm_istore dX9_readItems_62 (Nat.le_of_ble_eq_true rfl) (pv_n rfl) ?_
  refine sm_iload dX9_readItems_64 rfl ?_
  refine sm_if_lt (tgt := 94) dX9_readItems_66 (by decide) (fun g6 => ?_) (fun g6 => ?_)
  · replace h := it_t g6 h
    refine sm_iconst dX9_readItems_94 ic_1 ?_
    cases h
    exact sm_ret_z (st := []) dX9_readItems_95 rfl rfl ⟨rfl, rfl⟩
  · replace h := it_f g6 h
    refine sm_iload dX9_readItems_69 rfl ?_
    refine sm_aload_n dX9_readItems_71 rfl rfl ?_
    refine sm_rolen dX9_readItems_72 hk_q3 ?_
    refine sm_icmp_ge (tgt := 94) dX9_readItems_73 (by decide) (fun g7 => ?_) (fun g7 => ?_)
    · replace h := it_t g7 h
      refine sm_iconst dX9_readItems_94 ic_1 ?_
      cases h
      exact sm_ret_z (st := []) dX9_readItems_95 rfl rfl ⟨rfl, rfl⟩
    · replace h := it_f g7 h
      refine sm_iload dX9_readItems_76 rfl ?_
      refine sm_aload dX9_readItems_78 rfl ?_
      refine sm_rolen dX9_readItems_80 hk_q4 ?_
      refine sm_icmp_ge (tgt := 94) dX9_readItems_81 (by decide) (fun g8 => ?_) (fun g8 => ?_)
      · replace h := it_t g8 h
        refine sm_iconst dX9_readItems_94 ic_1 ?_
        cases h
        exact sm_ret_z (st := []) dX9_readItems_95 rfl rfl ⟨rfl, rfl⟩
      · replace h := it_f g8 h
        refine sm_iload dX9_readItems_84 rfl ?_
        refine sm_aload_n dX9_readItems_86 rfl rfl ?_
        refine sm_getR dX9_readItems_87 fg_RX9_27 k_3 (rf_9_3 k_3) ?_
        refine sm_alen dX9_readItems_90 k_20 (by decide) (by decide) (al_eq (n_20) ?_)
        refine sm_icmp_lt (tgt := 96) dX9_readItems_91 (by decide) (fun g9 => ?_) (fun g9 => ?_)
        · replace h := it_t g9 h
          refine sm_iload dX9_readItems_96 rfl ?_
          refine sm_iload dX9_readItems_98 rfl ?_
          refine sm_ishr dX9_readItems_100 ?_
          refine sm_iconst dX9_readItems_101 ic_1 ?_
          refine sm_iand dX9_readItems_102 ?_
          refine sm_iconst dX9_readItems_103 ic_1 ?_
          refine sm_icmp_ne (tgt := 109) dX9_readItems_104 (by decide) (fun g10 => ?_) (fun g10 => ?_)
          · replace h := it_f g10 h
            refine sm_iload dX9_readItems_109 rfl ?_
            refine sm_iconst dX9_readItems_111 ic_1 ?_
            refine sm_iload dX9_readItems_112 rfl ?_
            refine sm_ishl dX9_readItems_114 ?_
            refine sm_ior dX9_readItems_115 ?_
            refine sm_istore dX9_readItems_116 (Nat.le_of_ble_eq_true rfl) (pv_r rfl) ?_
            refine sm_aload_n dX9_readItems_118 rfl rfl ?_
            refine sm_getR dX9_readItems_119 fg_RX9_35 k_3 (rf_9_0 k_3) ?_
            obtain ⟨μ4z, g11, h⟩ := obv_some h
            refine sm_callV dX9_readItems_122 cv_X8_step ml_RX9_97 k_1 rfl rfl (by decide) (as := []) rfl (Nat.le_of_ble_eq_true rfl) rfl (s_Ta_step (D := d) (by omega) N g11) (fun r9 μ9 hp => ?_)
            rw [hp.1, hp.2]
            clear hp r9 μ9
            refine sm_aload_n dX9_readItems_125 rfl rfl ?_
            refine sm_getR dX9_readItems_126 fg_RX9_35 k_3 (rf_9_0 k_3) ?_
            obtain ⟨t129, μ5z, g12, h⟩ := ob_some h
            refine sm_callV dX9_readItems_129 cv_X8_peek ml_RX9_51 k_1 rfl rfl (by decide) (as := []) rfl (Nat.le_of_ble_eq_true rfl) rfl (s_Ta_peek (D := d) (by omega) N g12) (fun r9 μ9 hp => ?_)
            rw [hp.1, hp.2]
            clear hp r9 μ9
            refine sm_pop dX9_readItems_132 rfl ?_
            refine sm_aload_n dX9_readItems_133 rfl rfl ?_
            refine sm_getR dX9_readItems_134 fg_RX9_35 k_3 (rf_9_0 k_3) ?_
            refine sm_iconst dX9_readItems_137 ic_2 ?_
            refine sm_aload_n dX9_readItems_138 rfl rfl ?_
            refine sm_iload dX9_readItems_139 rfl ?_
            obtain ⟨g13, h⟩ := gd_some h
            refine sm_roald (j := (Int32.toNatClampNeg s0)) dX9_readItems_141 hk_q3 (in_sz rfl g13) rfl ?_
            refine sm_aload dX9_readItems_142 rfl ?_
            refine sm_iload dX9_readItems_144 rfl ?_
            obtain ⟨g14, h⟩ := gd_some h
            refine sm_roald (j := (Int32.toNatClampNeg s0)) dX9_readItems_146 hk_q4 (in_sz rfl g14) rfl ?_
            obtain ⟨t147, μ6z, g15, h⟩ := ob_some h
            refine sm_callV dX9_readItems_147 cv_X8_readNumber ml_RX9_176 k_1 rfl rfl (by decide) (as := [av_i 2, av_i (ro_I q3 (Int32.toNatClampNeg s0)), av_i (ro_I q4 (Int32.toNatClampNeg s0))]) rfl (Nat.le_of_ble_eq_true rfl) rfl (s_Ta_readNumber (D := d) (by omega) N g15) (fun r9 μ9 hp => ?_)
            rw [hp.1, hp.2]
            clear hp r9 μ9
            refine sm_istore dX9_readItems_150 (Nat.le_of_ble_eq_true rfl) (pv_i rfl) ?_
            refine sm_iload dX9_readItems_152 rfl ?_
            refine sm_iconst dX9_readItems_154 ic_m1 ?_
            refine sm_icmp_ne (tgt := 160) dX9_readItems_155 (by decide) (fun g16 => ?_) (fun g16 => ?_)
            · replace h := it_f g16 h
              refine sm_aload_n dX9_readItems_160 rfl rfl ?_
              refine sm_getR dX9_readItems_161 fg_RX9_27 k_3 (rf_9_3 k_3) ?_
              refine sm_iload dX9_readItems_164 rfl ?_
              refine sm_iload dX9_readItems_166 rfl ?_
              obtain ⟨g17, h⟩ := gd_some h
              refine sm_iast (j := (Int32.toNatClampNeg s0)) dX9_readItems_168 k_20 (in_sz n_20 g17) rfl ?_
              replace h := wr_some h
              refine sm_iinc dX9_readItems_169 rfl (congrArg (HAdd.hAdd x6) ic_1) (Nat.le_of_ble_eq_true rfl) (pv_i rfl) ?_
              refine sm_goto (tgt := 26) dX9_readItems_172 (by decide) ?_
              exact Sm_weak (le_s rfl (le_s rfl (le_n (le_s rfl (le_s rfl (le_s rfl (le_s rfl (le_n (le_n (le_n le_0)))))))))) (hk26 (x5 ||| ((1 : Int32) <<< (s0 &&& 31))) (x6 + 1) (mm_I μ6z 20 (Int32.toNatClampNeg s0) t147) h)
            · replace h := it_t g16 h
              refine sm_iconst dX9_readItems_158 ic_0 ?_
              cases h
              exact sm_ret_z (st := []) dX9_readItems_159 rfl rfl ⟨rfl, rfl⟩
          · replace h := it_t g10 h
            refine sm_iconst dX9_readItems_107 ic_0 ?_
            cases h
            exact sm_ret_z (st := []) dX9_readItems_108 rfl rfl ⟨rfl, rfl⟩
        · replace h := it_f g9 h
          refine sm_iconst dX9_readItems_94 ic_1 ?_
          cases h
          exact sm_ret_z (st := []) dX9_readItems_95 rfl rfl ⟨rfl, rfl⟩
set_option maxRecDepth 100000 in
set_option maxHeartbeats 4000000 in
theorem s_Tr_readItems_L26 {D : Nat} (hD : 4 ≤ D) (N : Nat) {q1 : Nat} (hk_q1 : sh_k q1 = 42) {q2 : Nat} (hk_q2 : sh_k q2 = 40) {q3 : Nat} (hk_q3 : sh_k q3 = 40) {q4 : Nat} (hk_q4 : sh_k q4 = 40) {r : Int32} {μr : MM} : ∀ (n : Nat) (x5 : Int32) (x6 : Int32) (μ : MM), f_Tr_readItems_L26 N q1 q2 q3 q4 n x5 x6 μ = some (r, μr) → Sm D mX9_readItems 26 [some (av_r 3), some (av_r q1), none, some (av_r q3), some (av_r q4), some (av_i x5), some (av_i x6), none, none, none] [] μ (po_i r μr) := by
  obtain ⟨d, rfl⟩ : ∃ d, D = d + 1 := ⟨D - 1, by omega⟩
  intro n
  induction n with
  | zero => intro x5 x6 μ h; cases (show none = some (r, μr) from h)
  | succ n ih =>
    intro x5 x6 μ h
    rw [f_Tr_readItems_L26] at h
    refine sm_iload dX9_readItems_26 rfl ?_
    refine sm_aload_n dX9_readItems_28 rfl rfl ?_
    refine sm_getR dX9_readItems_29 fg_RX9_27 k_3 (rf_9_3 k_3) ?_
    refine sm_alen dX9_readItems_32 k_20 (by decide) (by decide) (al_eq (n_20) ?_)
    refine sm_icmp_gt (tgt := 175) dX9_readItems_33 (by decide) (fun g2 => ?_) (fun g2 => ?_)
    · replace h := it_t g2 h
      refine sm_iconst dX9_readItems_175 ic_1 ?_
      cases h
      exact sm_ret_z (st := []) dX9_readItems_176 rfl rfl ⟨rfl, rfl⟩
    · replace h := it_f g2 h
      refine sm_aload_n dX9_readItems_36 rfl rfl ?_
      refine sm_getR dX9_readItems_37 fg_RX9_35 k_3 (rf_9_0 k_3) ?_
      obtain ⟨t40, μ2z, g3, h⟩ := ob_some h
      refine sm_callV dX9_readItems_40 cv_X8_peek ml_RX9_51 k_1 rfl rfl (by decide) (as := []) rfl (Nat.le_of_ble_eq_true rfl) rfl (s_Ta_peek (D := d) (by omega) N g3) (fun r9 μ9 hp => ?_)
      rw [hp.1, hp.2]
      clear hp r9 μ9
      refine sm_istore dX9_readItems_43 (Nat.le_of_ble_eq_true rfl) (pv_i rfl) ?_
      refine sm_iload dX9_readItems_45 rfl ?_
      refine sm_iconst dX9_readItems_47 ic_m1 ?_
      refine sm_icmp_ne (tgt := 55) dX9_readItems_48 (by decide) (fun g4 => ?_) (fun g4 => ?_)
      · replace h := it_f g4 h
        refine sm_aload_n dX9_readItems_55 rfl rfl ?_
        refine sm_iload dX9_readItems_56 rfl ?_
        refine sm_i2c dX9_readItems_58 ?_
        obtain ⟨t59, μ3z, g5, h⟩ := ob_some h
        refine sm_callT dX9_readItems_59 cv_J0_indexOf_0f7a4 ml_RX9_170 hk_q1 rfl (as := [av_i ((Int32.toUInt32 t40 % 65536).toInt32)]) rfl (Nat.le_of_ble_eq_true rfl) rfl (s_St_indexOf_0f7a4 (D := d) (by omega) N hk_q1 g5) (fun r9 μ9 hp => ?_)
        rw [hp.1, hp.2]
        clear hp r9 μ9
        exact Sm_weak (le_s rfl (le_s rfl (le_n (le_s rfl (le_s rfl (le_s rfl (le_s rfl (le_n (le_n (le_n le_0)))))))))) (s_Tr_readItems_B62 hD N hk_q1 hk_q2 hk_q3 hk_q4 ih x5 x6 t59 μ3z h)
      · replace h := it_t g4 h
        refine sm_iconst dX9_readItems_51 ic_m1 ?_
        refine sm_goto (tgt := 62) dX9_readItems_52 (by decide) ?_
        exact Sm_weak (le_s rfl (le_s rfl (le_n (le_s rfl (le_s rfl (le_s rfl (le_s rfl (le_n (le_n (le_n le_0)))))))))) (s_Tr_readItems_B62 hD N hk_q1 hk_q2 hk_q3 hk_q4 ih x5 x6 (-1) μ2z h)
set_option maxRecDepth 100000 in
set_option maxHeartbeats 4000000 in
theorem s_Tr_readItems {D : Nat} (hD : 4 ≤ D) (N : Nat) {q1 : Nat} (hk_q1 : sh_k q1 = 42) {q2 : Nat} (hk_q2 : sh_k q2 = 40) {q3 : Nat} (hk_q3 : sh_k q3 = 40) {q4 : Nat} (hk_q4 : sh_k q4 = 40) {μ : MM} {r : Int32} {μr : MM} (h : f_Tr_readItems N q1 q2 q3 q4 μ = some (r, μr)) : Cl D mX9_readItems [av_r 3, av_r q1, av_r q2, av_r q3, av_r q4] μ (po_i r μr) := by
  obtain ⟨d, rfl⟩ : ∃ d, D = d + 1 := ⟨D - 1, by omega⟩
  refine Cl_of pn_X9 (Nat.le_of_ble_eq_true rfl) ?_
  show Sm (d + 1) mX9_readItems 0 [some (av_r 3), some (av_r q1), some (av_r q2), some (av_r q3), some (av_r q4), none, none, none, none, none] [] μ (po_i r μr)
  unfold f_Tr_readItems at h
  refine sm_aload_n dX9_readItems_0 rfl rfl ?_
  refine sm_iconst dX9_readItems_1 ic_0 ?_
  refine sm_aload_n dX9_readItems_2 rfl rfl ?_
  refine sm_getR dX9_readItems_3 fg_RX9_27 k_3 (rf_9_3 k_3) ?_
  refine sm_iconst dX9_readItems_6 ic_0 ?_
  refine sm_aload_n dX9_readItems_7 rfl rfl ?_
  refine sm_rolen dX9_readItems_8 hk_q2 ?_
  refine sm_aload_n dX9_readItems_9 rfl rfl ?_
  refine sm_getR dX9_readItems_10 fg_RX9_27 k_3 (rf_9_3 k_3) ?_
  refine sm_alen dX9_readItems_13 k_20 (by decide) (by decide) (al_eq (n_20) ?_)
  refine sm_min dX9_readItems_14 ml_RX9_158 (Nat.le_of_ble_eq_true rfl) ?_
  obtain ⟨g1, h⟩ := gd_some h
  obtain ⟨g1_1, g1_2, g1_3, g1_4, g1_5⟩ := cpb_ok rfl n_20 g1
  refine sm_copyR dX9_readItems_17 ml_RX9_164 hk_q2 k_20 g1_1 g1_2 g1_3 g1_4 g1_5 (Nat.le_of_ble_eq_true rfl) ?_
  replace h := wr_some h
  refine sm_iconst dX9_readItems_20 ic_0 ?_
  refine sm_istore dX9_readItems_21 (Nat.le_of_ble_eq_true rfl) (pv_r rfl) ?_
  refine sm_iconst dX9_readItems_23 ic_0 ?_
  refine sm_istore dX9_readItems_24 (Nat.le_of_ble_eq_true rfl) (pv_i rfl) ?_
  exact Sm_weak (le_s rfl (le_s rfl (le_n (le_s rfl (le_s rfl (le_s rfl (le_s rfl (le_n (le_n (le_n le_0)))))))))) (s_Tr_readItems_L26 hD N hk_q1 hk_q2 hk_q3 hk_q4 N 0 0 (mm_F μ 20 (va_cpy (ro_I q2) (μ.1 20) (Int32.toNatClampNeg 0) (Int32.toNatClampNeg 0) (Int32.toNatClampNeg (if (3 : Int32) < (Int32.ofNat (sh_n q2)) then (3 : Int32) else (Int32.ofNat (sh_n q2)))))) h)
set_option maxRecDepth 100000 in
set_option maxHeartbeats 4000000 in
theorem s_Tr_readRules {D : Nat} (hD : 5 ≤ D) (N : Nat) {μ : MM} {r : Int32} {μr : MM} (h : f_Tr_readRules N μ = some (r, μr)) : Cl D mX9_readRules [av_r 3] μ (po_i r μr) := by
  obtain ⟨d, rfl⟩ : ∃ d, D = d + 1 := ⟨D - 1, by omega⟩
  refine Cl_of pn_X9 (Nat.le_of_ble_eq_true rfl) ?_
  show Sm (d + 1) mX9_readRules 0 [some (av_r 3)] [] μ (po_i r μr)
  unfold f_Tr_readRules at h
  refine sm_aload_n dX9_readRules_0 rfl rfl ?_
  refine sm_iconst dX9_readRules_1 ic_1 ?_
  refine sm_putZ dX9_readRules_2 fp_RX9_31 k_3 (Or.inr rfl) ?_
  replace h := wr_some h
  refine sm_aload_n dX9_readRules_5 rfl rfl ?_
  refine sm_ldcS dX9_readRules_6 (i := 1) (by decide) rfl ?_
  refine sm_roget dX9_readRules_8 (i := 0) (by decide) cs_RX9_66 ?_
  refine sm_roget dX9_readRules_11 (i := 1) (by decide) cs_RX9_111 ?_
  refine sm_roget dX9_readRules_14 (i := 2) (by decide) cs_RX9_114 ?_
  obtain ⟨t17, μ2z, g1, h⟩ := ob_some h
  refine sm_callV dX9_readRules_17 cv_X9_readItems ml_RX9_117 k_3 rfl rfl (by decide) (as := [av_r 2001, av_r 1000, av_r 1001, av_r 1002]) rfl (Nat.le_of_ble_eq_true rfl) rfl (s_Tr_readItems (D := d) (by omega) N k_2001 k_1000 k_1001 k_1002 g1) (fun r9 μ9 hp => ?_)
  rw [hp.1, hp.2]
  clear hp r9 μ9
  refine sm_if_ne (tgt := 25) dX9_readRules_20 (by decide) (fun g2 => ?_) (fun g2 => ?_)
  · replace h := it_f g2 h
    refine sm_aload_n dX9_readRules_25 rfl rfl ?_
    refine sm_getR dX9_readRules_26 fg_RX9_12 k_3 (rf_9_1 k_3) ?_
    refine sm_getR dX9_readRules_29 fg_RX9_62 k_4 (rf_1_5 k_4) ?_
    refine sm_aload_n dX9_readRules_32 rfl rfl ?_
    refine sm_getR dX9_readRules_33 fg_RX9_27 k_3 (rf_9_3 k_3) ?_
    refine sm_iconst dX9_readRules_36 ic_0 ?_
    refine sm_iald (j := 0) dX9_readRules_37 k_20 (in_sz n_20 (by decide)) (by decide) ?_
    refine sm_putI dX9_readRules_38 fp_RX9_69 k_8 ?_
    replace h := wr_some h
    refine sm_aload_n dX9_readRules_41 rfl rfl ?_
    refine sm_getR dX9_readRules_42 fg_RX9_12 k_3 (rf_9_1 k_3) ?_
    refine sm_getR dX9_readRules_45 fg_RX9_62 k_4 (rf_1_5 k_4) ?_
    refine sm_aload_n dX9_readRules_48 rfl rfl ?_
    refine sm_getR dX9_readRules_49 fg_RX9_27 k_3 (rf_9_3 k_3) ?_
    refine sm_iconst dX9_readRules_52 ic_1 ?_
    refine sm_iald (j := 1) dX9_readRules_53 k_20 (in_sz n_20 (by decide)) (by decide) ?_
    refine sm_putI dX9_readRules_54 fp_RX9_74 k_8 ?_
    replace h := wr_some h
    refine sm_iconst dX9_readRules_57 ic_1 ?_
    cases h
    exact sm_ret_z (st := []) dX9_readRules_58 rfl rfl ⟨rfl, rfl⟩
  · replace h := it_t g2 h
    refine sm_iconst dX9_readRules_23 ic_0 ?_
    cases h
    exact sm_ret_z (st := []) dX9_readRules_24 rfl rfl ⟨rfl, rfl⟩
set_option maxRecDepth 100000 in
set_option maxHeartbeats 4000000 in
theorem s_Tr_readMarks_L4 {D : Nat} (hD : 1 ≤ D) (N : Nat) {r : Int32} {μr : MM} : ∀ (n : Nat) (x1 : Int32) (x2 : Int32) (μ : MM), f_Tr_readMarks_L4 N n x1 x2 μ = some (r, μr) → Sm D mX9_readMarks 4 [some (av_r 3), some (av_i x1), some (av_i x2), none, none] [] μ (po_i r μr) := by
  obtain ⟨d, rfl⟩ : ∃ d, D = d + 1 := ⟨D - 1, by omega⟩
  intro n
  induction n with
  | zero => intro x1 x2 μ h; cases (show none = some (r, μr) from h)
  | succ n ih =>
    intro x1 x2 μ h
    rw [f_Tr_readMarks_L4] at h
    refine sm_iload_n dX9_readMarks_4 rfl rfl ?_
    refine sm_bipush dX9_readMarks_5 bp_6 ?_
    refine sm_icmp_gt (tgt := 67) dX9_readMarks_7 (by decide) (fun g1 => ?_) (fun g1 => ?_)
    · replace h := it_t g1 h
      refine sm_iconst dX9_readMarks_67 ic_m1 ?_
      cases h
      exact sm_ret_i (st := []) dX9_readMarks_68 rfl ⟨rfl, rfl⟩
    · replace h := it_f g1 h
      refine sm_aload_n dX9_readMarks_10 rfl rfl ?_
      refine sm_getR dX9_readMarks_11 fg_RX9_35 k_3 (rf_9_0 k_3) ?_
      obtain ⟨t14, μ1z, g2, h⟩ := ob_some h
      refine sm_callV dX9_readMarks_14 cv_X8_peek ml_RX9_51 k_1 rfl rfl (by decide) (as := []) rfl (Nat.le_of_ble_eq_true rfl) rfl (s_Ta_peek (D := d) (by omega) N g2) (fun r9 μ9 hp => ?_)
      rw [hp.1, hp.2]
      clear hp r9 μ9
      refine sm_istore_n dX9_readMarks_17 rfl (Nat.le_of_ble_eq_true rfl) (pv_i rfl) ?_
      refine sm_iload_n dX9_readMarks_18 rfl rfl ?_
      refine sm_bipush dX9_readMarks_19 bp_97 ?_
      refine sm_icmp_lt (tgt := 30) dX9_readMarks_21 (by decide) (fun g3 => ?_) (fun g3 => ?_)
      · replace h := it_t g3 h
        refine sm_iload_n dX9_readMarks_30 rfl rfl ?_
        cases h
        exact sm_ret_i (st := []) dX9_readMarks_31 rfl ⟨rfl, rfl⟩
      · replace h := it_f g3 h
        refine sm_iload_n dX9_readMarks_24 rfl rfl ?_
        refine sm_bipush dX9_readMarks_25 bp_102 ?_
        refine sm_icmp_le (tgt := 32) dX9_readMarks_27 (by decide) (fun g4 => ?_) (fun g4 => ?_)
        · replace h := it_t g4 h
          refine sm_iconst dX9_readMarks_32 ic_1 ?_
          refine sm_iload_n dX9_readMarks_33 rfl rfl ?_
          refine sm_bipush dX9_readMarks_34 bp_97 ?_
          refine sm_isub dX9_readMarks_36 ?_
          refine sm_ishl dX9_readMarks_37 ?_
          refine sm_istore dX9_readMarks_38 (Nat.le_of_ble_eq_true rfl) (pv_i rfl) ?_
          refine sm_iload_n dX9_readMarks_40 rfl rfl ?_
          refine sm_iload dX9_readMarks_41 rfl ?_
          refine sm_iand dX9_readMarks_43 ?_
          refine sm_if_eq (tgt := 49) dX9_readMarks_44 (by decide) (fun g5 => ?_) (fun g5 => ?_)
          · replace h := it_t g5 h
            refine sm_iload_n dX9_readMarks_49 rfl rfl ?_
            refine sm_iload dX9_readMarks_50 rfl ?_
            refine sm_ior dX9_readMarks_52 ?_
            refine sm_istore_n dX9_readMarks_53 rfl (Nat.le_of_ble_eq_true rfl) (pv_r rfl) ?_
            refine sm_aload_n dX9_readMarks_54 rfl rfl ?_
            refine sm_getR dX9_readMarks_55 fg_RX9_35 k_3 (rf_9_0 k_3) ?_
            obtain ⟨μ2z, g6, h⟩ := obv_some h
            refine sm_callV dX9_readMarks_58 cv_X8_step ml_RX9_97 k_1 rfl rfl (by decide) (as := []) rfl (Nat.le_of_ble_eq_true rfl) rfl (s_Ta_step (D := d) (by omega) N g6) (fun r9 μ9 hp => ?_)
            rw [hp.1, hp.2]
            clear hp r9 μ9
            refine sm_iinc dX9_readMarks_61 rfl (congrArg (HAdd.hAdd x2) ic_1) (Nat.le_of_ble_eq_true rfl) (pv_i rfl) ?_
            refine sm_goto (tgt := 4) dX9_readMarks_64 (by decide) ?_
            exact Sm_weak (le_s rfl (le_s rfl (le_s rfl (le_n (le_n le_0))))) (ih (x1 ||| ((1 : Int32) <<< ((t14 - 97) &&& 31))) (x2 + 1) μ2z h)
          · replace h := it_f g5 h
            refine sm_iconst dX9_readMarks_47 ic_m1 ?_
            cases h
            exact sm_ret_i (st := []) dX9_readMarks_48 rfl ⟨rfl, rfl⟩
        · replace h := it_f g4 h
          refine sm_iload_n dX9_readMarks_30 rfl rfl ?_
          cases h
          exact sm_ret_i (st := []) dX9_readMarks_31 rfl ⟨rfl, rfl⟩
set_option maxRecDepth 100000 in
set_option maxHeartbeats 4000000 in
theorem s_Tr_readMarks {D : Nat} (hD : 1 ≤ D) (N : Nat) {μ : MM} {r : Int32} {μr : MM} (h : f_Tr_readMarks N μ = some (r, μr)) : Cl D mX9_readMarks [av_r 3] μ (po_i r μr) := by
  obtain ⟨d, rfl⟩ : ∃ d, D = d + 1 := ⟨D - 1, by omega⟩
  refine Cl_of pn_X9 (Nat.le_of_ble_eq_true rfl) ?_
  show Sm (d + 1) mX9_readMarks 0 [some (av_r 3), none, none, none, none] [] μ (po_i r μr)
  unfold f_Tr_readMarks at h
  refine sm_iconst dX9_readMarks_0 ic_0 ?_
  refine sm_istore_n dX9_readMarks_1 rfl (Nat.le_of_ble_eq_true rfl) (pv_r rfl) ?_
  refine sm_iconst dX9_readMarks_2 ic_0 ?_
  refine sm_istore_n dX9_readMarks_3 rfl (Nat.le_of_ble_eq_true rfl) (pv_i rfl) ?_
  exact Sm_weak (le_s rfl (le_s rfl (le_s rfl (le_n (le_n le_0))))) (s_Tr_readMarks_L4 hD N N 0 0 μ h)
set_option maxRecDepth 100000 in
set_option maxHeartbeats 4000000 in
theorem s_Tr_readThing {D : Nat} (hD : 5 ≤ D) (N : Nat) {μ : MM} {r : Int32} {μr : MM} (h : f_Tr_readThing N μ = some (r, μr)) : Cl D mX9_readThing [av_r 3] μ (po_i r μr) := by
  obtain ⟨d, rfl⟩ : ∃ d, D = d + 1 := ⟨D - 1, by omega⟩
  refine Cl_of pn_X9 (Nat.le_of_ble_eq_true rfl) ?_
  show Sm (d + 1) mX9_readThing 0 [some (av_r 3), none] [] μ (po_i r μr)
  unfold f_Tr_readThing at h
  refine sm_aload_n dX9_readThing_0 rfl rfl ?_
  refine sm_ldcS dX9_readThing_1 (i := 2) (by decide) rfl ?_
  refine sm_roget dX9_readThing_3 (i := 3) (by decide) cs_RX9_123 ?_
  refine sm_roget dX9_readThing_6 (i := 4) (by decide) cs_RX9_126 ?_
  refine sm_roget dX9_readThing_9 (i := 5) (by decide) cs_RX9_129 ?_
  obtain ⟨t12, μ1z, g1, h⟩ := ob_some h
  refine sm_callV dX9_readThing_12 cv_X9_readItems ml_RX9_117 k_3 rfl rfl (by decide) (as := [av_r 2002, av_r 1003, av_r 1004, av_r 1005]) rfl (Nat.le_of_ble_eq_true rfl) rfl (s_Tr_readItems (D := d) (by omega) N k_2002 k_1003 k_1004 k_1005 g1) (fun r9 μ9 hp => ?_)
  rw [hp.1, hp.2]
  clear hp r9 μ9
  refine sm_if_eq (tgt := 30) dX9_readThing_15 (by decide) (fun g2 => ?_) (fun g2 => ?_)
  · replace h := it_t g2 h
    refine sm_iconst dX9_readThing_30 ic_0 ?_
    cases h
    exact sm_ret_z (st := []) dX9_readThing_31 rfl rfl ⟨rfl, rfl⟩
  · replace h := it_f g2 h
    refine sm_aload_n dX9_readThing_18 rfl rfl ?_
    refine sm_getR dX9_readThing_19 fg_RX9_35 k_3 (rf_9_0 k_3) ?_
    refine sm_bipush dX9_readThing_22 bp_58 ?_
    obtain ⟨t24, μ2z, g3, h⟩ := ob_some h
    refine sm_callV dX9_readThing_24 cv_X8_accept ml_RX9_84 k_1 rfl rfl (by decide) (as := [av_i 58]) rfl (Nat.le_of_ble_eq_true rfl) rfl (s_Ta_accept (D := d) (by omega) N g3) (fun r9 μ9 hp => ?_)
    rw [hp.1, hp.2]
    clear hp r9 μ9
    refine sm_if_ne (tgt := 32) dX9_readThing_27 (by decide) (fun g4 => ?_) (fun g4 => ?_)
    · replace h := it_f g4 h
      refine sm_aload_n dX9_readThing_32 rfl rfl ?_
      obtain ⟨t33, μ3z, g5, h⟩ := ob_some h
      refine sm_callV dX9_readThing_33 cv_X9_readMarks ml_RX9_132 k_3 rfl rfl (by decide) (as := []) rfl (Nat.le_of_ble_eq_true rfl) rfl (s_Tr_readMarks (D := d) (by omega) N g5) (fun r9 μ9 hp => ?_)
      rw [hp.1, hp.2]
      clear hp r9 μ9
      refine sm_istore_n dX9_readThing_36 rfl (Nat.le_of_ble_eq_true rfl) (pv_r rfl) ?_
      refine sm_iload_n dX9_readThing_37 rfl rfl ?_
      refine sm_iconst dX9_readThing_38 ic_m1 ?_
      refine sm_icmp_ne (tgt := 44) dX9_readThing_39 (by decide) (fun g6 => ?_) (fun g6 => ?_)
      · replace h := it_f g6 h
        refine sm_aload_n dX9_readThing_44 rfl rfl ?_
        refine sm_getR dX9_readThing_45 fg_RX9_12 k_3 (rf_9_1 k_3) ?_
        refine sm_getR dX9_readThing_48 fg_RX9_135 k_4 (rf_1_2 k_4) ?_
        refine sm_aload_n dX9_readThing_51 rfl rfl ?_
        refine sm_getR dX9_readThing_52 fg_RX9_12 k_3 (rf_9_1 k_3) ?_
        refine sm_getI dX9_readThing_55 fg_RX9_55 k_4 ?_
        refine sm_aload_n dX9_readThing_58 rfl rfl ?_
        refine sm_getR dX9_readThing_59 fg_RX9_27 k_3 (rf_9_3 k_3) ?_
        refine sm_iconst dX9_readThing_62 ic_0 ?_
        refine sm_iald (j := 0) dX9_readThing_63 k_20 (in_sz n_20 (by decide)) (by decide) ?_
        obtain ⟨g8, h⟩ := gd_some h
        refine sm_iast (j := (Int32.toNatClampNeg (μ3z.1 4 0))) dX9_readThing_64 k_5 (in_sz n_5 g8) rfl ?_
        replace h := wr_some h
        refine sm_aload_n dX9_readThing_65 rfl rfl ?_
        refine sm_getR dX9_readThing_66 fg_RX9_12 k_3 (rf_9_1 k_3) ?_
        refine sm_getR dX9_readThing_69 fg_RX9_138 k_4 (rf_1_3 k_4) ?_
        refine sm_aload_n dX9_readThing_72 rfl rfl ?_
        refine sm_getR dX9_readThing_73 fg_RX9_12 k_3 (rf_9_1 k_3) ?_
        refine sm_getI dX9_readThing_76 fg_RX9_55 k_4 ?_
        refine sm_iload_n dX9_readThing_79 rfl rfl ?_
        obtain ⟨g9, h⟩ := gd_some h
        refine sm_iast (j := (Int32.toNatClampNeg ((mm_I μ3z 5 (Int32.toNatClampNeg (μ3z.1 4 0)) (μ3z.1 20 0)).1 4 0))) dX9_readThing_80 k_6 (in_sz n_6 g9) rfl ?_
        replace h := wr_some h
        refine sm_aload_n dX9_readThing_81 rfl rfl ?_
        refine sm_getR dX9_readThing_82 fg_RX9_12 k_3 (rf_9_1 k_3) ?_
        refine sm_dup dX9_readThing_85 rfl ?_
        refine sm_getI dX9_readThing_86 fg_RX9_55 k_4 ?_
        refine sm_iconst dX9_readThing_89 ic_1 ?_
        refine sm_iadd dX9_readThing_90 ?_
        refine sm_putI dX9_readThing_91 fp_RX9_55 k_4 ?_
        replace h := wr_some h
        refine sm_iconst dX9_readThing_94 ic_1 ?_
        cases h
        exact sm_ret_z (st := []) dX9_readThing_95 rfl rfl ⟨rfl, rfl⟩
      · replace h := it_t g6 h
        refine sm_iconst dX9_readThing_42 ic_0 ?_
        cases h
        exact sm_ret_z (st := []) dX9_readThing_43 rfl rfl ⟨rfl, rfl⟩
    · replace h := it_t g4 h
      refine sm_iconst dX9_readThing_30 ic_0 ?_
      cases h
      exact sm_ret_z (st := []) dX9_readThing_31 rfl rfl ⟨rfl, rfl⟩
set_option maxRecDepth 100000 in
set_option maxHeartbeats 4000000 in
theorem s_Tr_readCard_B87 {D : Nat} (hD : 5 ≤ D) (N : Nat) {r : Int32} {μr : MM} (x1 : Int32) (s1 : Int32) (s2 : Int32) (μ : MM) (h : f_Tr_readCard_B87 N x1 s1 s2 μ = some (r, μr)) : Sm D mX9_readCard 87 [some (av_r 3), some (av_i x1)] [av_i s2, av_i s1, av_r 14] μ (po_i r μr) := by
  obtain ⟨d, rfl⟩ : ∃ d, D = d + 1 := ⟨D - 1, by omega⟩
  unfold f_Tr_readCard_B87 at h
  obtain ⟨g10, h⟩ := gd_some h
  refine sm_iast (j := (Int32.toNatClampNeg s1)) dX9_readCard_87 k_14 (in_sz n_14 g10) rfl ?_
  replace h := wr_some h
  refine sm_aload_n dX9_readCard_88 rfl rfl ?_
  refine sm_getR dX9_readCard_89 fg_RX9_12 k_3 (rf_9_1 k_3) ?_
  refine sm_getR dX9_readCard_92 fg_RX9_62 k_4 (rf_1_5 k_4) ?_
  refine sm_getR dX9_readCard_95 fg_RX9_155 k_8 (rf_7_0 k_8) ?_
  refine sm_getR dX9_readCard_98 fg_RX9_44 k_9 (rf_10_0 k_9) ?_
  refine sm_iload_n dX9_readCard_101 rfl rfl ?_
  refine sm_iconst dX9_readCard_102 ic_0 ?_
  obtain ⟨g11, h⟩ := gd_some h
  refine sm_iast (j := (Int32.toNatClampNeg x1)) dX9_readCard_103 k_10 (in_sz n_10 g11) rfl ?_
  replace h := wr_some h
  refine sm_aload_n dX9_readCard_104 rfl rfl ?_
  refine sm_getR dX9_readCard_105 fg_RX9_12 k_3 (rf_9_1 k_3) ?_
  refine sm_dup dX9_readCard_108 rfl ?_
  refine sm_getI dX9_readCard_109 fg_RX9_59 k_4 ?_
  refine sm_iconst dX9_readCard_112 ic_1 ?_
  refine sm_iadd dX9_readCard_113 ?_
  refine sm_putI dX9_readCard_114 fp_RX9_59 k_4 ?_
  replace h := wr_some h
  refine sm_aload_n dX9_readCard_117 rfl rfl ?_
  refine sm_aload_n dX9_readCard_118 rfl rfl ?_
  refine sm_getR dX9_readCard_119 fg_RX9_12 k_3 (rf_9_1 k_3) ?_
  refine sm_getR dX9_readCard_122 fg_RX9_62 k_4 (rf_1_5 k_4) ?_
  refine sm_getR dX9_readCard_125 fg_RX9_155 k_8 (rf_7_0 k_8) ?_
  refine sm_iload_n dX9_readCard_128 rfl rfl ?_
  refine sm_aload_n dX9_readCard_129 rfl rfl ?_
  refine sm_getR dX9_readCard_130 fg_RX9_27 k_3 (rf_9_3 k_3) ?_
  refine sm_iconst dX9_readCard_133 ic_0 ?_
  refine sm_iald (j := 0) dX9_readCard_134 k_20 (in_sz n_20 (by decide)) (by decide) ?_
  obtain ⟨t135, μ7z, g13, h⟩ := ob_some h
  refine sm_callV dX9_readCard_135 cv_X9_readWords ml_RX9_47 k_3 rfl rfl (by decide) (as := [av_r 9, av_i x1, av_i ((mm_I (mm_I (mm_I μ 14 (Int32.toNatClampNeg s1) s2) 10 (Int32.toNatClampNeg x1) 0) 4 1 (((mm_I (mm_I μ 14 (Int32.toNatClampNeg s1) s2) 10 (Int32.toNatClampNeg x1) 0).1 4 1) + 1)).1 20 0)]) rfl (Nat.le_of_ble_eq_true rfl) rfl (s_Tr_readWords (D := d) (by omega) N k_9 g13) (fun r9 μ9 hp => ?_)
  rw [hp.1, hp.2]
  clear hp r9 μ9
  obtain ⟨g14, h⟩ := gd_some h
  cases h
  exact sm_ret_z (st := []) dX9_readCard_138 rfl (zb_nar g14) ⟨rfl, rfl⟩
set_option maxRecDepth 100000 in
set_option maxHeartbeats 4000000 in
theorem s_Tr_readCard {D : Nat} (hD : 5 ≤ D) (N : Nat) {μ : MM} {r : Int32} {μr : MM} (h : f_Tr_readCard N μ = some (r, μr)) : Cl D mX9_readCard [av_r 3] μ (po_i r μr) := by
  obtain ⟨d, rfl⟩ : ∃ d, D = d + 1 := ⟨D - 1, by omega⟩
  refine Cl_of pn_X9 (Nat.le_of_ble_eq_true rfl) ?_
  show Sm (d + 1) mX9_readCard 0 [some (av_r 3), none] [] μ (po_i r μr)
  unfold f_Tr_readCard at h
  refine sm_aload_n dX9_readCard_0 rfl rfl ?_
  refine sm_ldcS dX9_readCard_1 (i := 3) (by decide) rfl ?_
  refine sm_roget dX9_readCard_3 (i := 6) (by decide) cs_RX9_143 ?_
  refine sm_roget dX9_readCard_6 (i := 7) (by decide) cs_RX9_146 ?_
  refine sm_roget dX9_readCard_9 (i := 8) (by decide) cs_RX9_149 ?_
  obtain ⟨t12, μ1z, g1, h⟩ := ob_some h
  refine sm_callV dX9_readCard_12 cv_X9_readItems ml_RX9_117 k_3 rfl rfl (by decide) (as := [av_r 2003, av_r 1006, av_r 1007, av_r 1008]) rfl (Nat.le_of_ble_eq_true rfl) rfl (s_Tr_readItems (D := d) (by omega) N k_2003 k_1006 k_1007 k_1008 g1) (fun r9 μ9 hp => ?_)
  rw [hp.1, hp.2]
  clear hp r9 μ9
  refine sm_if_eq (tgt := 30) dX9_readCard_15 (by decide) (fun g2 => ?_) (fun g2 => ?_)
  · replace h := it_t g2 h
    refine sm_iconst dX9_readCard_30 ic_0 ?_
    cases h
    exact sm_ret_z (st := []) dX9_readCard_31 rfl rfl ⟨rfl, rfl⟩
  · replace h := it_f g2 h
    refine sm_aload_n dX9_readCard_18 rfl rfl ?_
    refine sm_getR dX9_readCard_19 fg_RX9_35 k_3 (rf_9_0 k_3) ?_
    refine sm_bipush dX9_readCard_22 bp_58 ?_
    obtain ⟨t24, μ2z, g3, h⟩ := ob_some h
    refine sm_callV dX9_readCard_24 cv_X8_accept ml_RX9_84 k_1 rfl rfl (by decide) (as := [av_i 58]) rfl (Nat.le_of_ble_eq_true rfl) rfl (s_Ta_accept (D := d) (by omega) N g3) (fun r9 μ9 hp => ?_)
    rw [hp.1, hp.2]
    clear hp r9 μ9
    refine sm_if_ne (tgt := 32) dX9_readCard_27 (by decide) (fun g4 => ?_) (fun g4 => ?_)
    · replace h := it_f g4 h
      refine sm_aload_n dX9_readCard_32 rfl rfl ?_
      refine sm_getR dX9_readCard_33 fg_RX9_12 k_3 (rf_9_1 k_3) ?_
      refine sm_getI dX9_readCard_36 fg_RX9_59 k_4 ?_
      refine sm_istore_n dX9_readCard_39 rfl (Nat.le_of_ble_eq_true rfl) (pv_r rfl) ?_
      refine sm_aload_n dX9_readCard_40 rfl rfl ?_
      refine sm_getR dX9_readCard_41 fg_RX9_12 k_3 (rf_9_1 k_3) ?_
      refine sm_getR dX9_readCard_44 fg_RX9_152 k_4 (rf_1_4 k_4) ?_
      refine sm_iload_n dX9_readCard_47 rfl rfl ?_
      refine sm_aload_n dX9_readCard_48 rfl rfl ?_
      refine sm_getR dX9_readCard_49 fg_RX9_27 k_3 (rf_9_3 k_3) ?_
      refine sm_iconst dX9_readCard_52 ic_1 ?_
      refine sm_iald (j := 1) dX9_readCard_53 k_20 (in_sz n_20 (by decide)) (by decide) ?_
      obtain ⟨g6, h⟩ := gd_some h
      refine sm_iast (j := (Int32.toNatClampNeg (μ2z.1 4 1))) dX9_readCard_54 k_7 (in_sz n_7 g6) rfl ?_
      replace h := wr_some h
      refine sm_aload_n dX9_readCard_55 rfl rfl ?_
      refine sm_getR dX9_readCard_56 fg_RX9_12 k_3 (rf_9_1 k_3) ?_
      refine sm_getR dX9_readCard_59 fg_RX9_62 k_4 (rf_1_5 k_4) ?_
      refine sm_getR dX9_readCard_62 fg_RX9_91 k_8 (rf_7_1 k_8) ?_
      refine sm_iload_n dX9_readCard_65 rfl rfl ?_
      refine sm_aload_n dX9_readCard_66 rfl rfl ?_
      refine sm_getR dX9_readCard_67 fg_RX9_27 k_3 (rf_9_3 k_3) ?_
      refine sm_iconst dX9_readCard_70 ic_2 ?_
      refine sm_iald (j := 2) dX9_readCard_71 k_20 (in_sz n_20 (by decide)) (by decide) ?_
      refine sm_bipush dX9_readCard_72 bp_8 ?_
      refine sm_icmp_ne (tgt := 81) dX9_readCard_74 (by decide) (fun g8 => ?_) (fun g8 => ?_)
      · replace h := it_f g8 h
        refine sm_aload_n dX9_readCard_81 rfl rfl ?_
        refine sm_getR dX9_readCard_82 fg_RX9_27 k_3 (rf_9_3 k_3) ?_
        refine sm_iconst dX9_readCard_85 ic_2 ?_
        refine sm_iald (j := 2) dX9_readCard_86 k_20 (in_sz n_20 (by decide)) (by decide) ?_
        exact Sm_weak (le_s rfl (le_s rfl le_0)) (s_Tr_readCard_B87 hD N (μ2z.1 4 1) (μ2z.1 4 1) ((mm_I μ2z 7 (Int32.toNatClampNeg (μ2z.1 4 1)) (μ2z.1 20 1)).1 20 2) (mm_I μ2z 7 (Int32.toNatClampNeg (μ2z.1 4 1)) (μ2z.1 20 1)) h)
      · replace h := it_t g8 h
        refine sm_iconst dX9_readCard_77 ic_m1 ?_
        refine sm_goto (tgt := 87) dX9_readCard_78 (by decide) ?_
        exact Sm_weak (le_s rfl (le_s rfl le_0)) (s_Tr_readCard_B87 hD N (μ2z.1 4 1) (μ2z.1 4 1) (-1) (mm_I μ2z 7 (Int32.toNatClampNeg (μ2z.1 4 1)) (μ2z.1 20 1)) h)
    · replace h := it_t g4 h
      refine sm_iconst dX9_readCard_30 ic_0 ?_
      cases h
      exact sm_ret_z (st := []) dX9_readCard_31 rfl rfl ⟨rfl, rfl⟩
set_option maxRecDepth 100000 in
set_option maxHeartbeats 4000000 in
theorem s_Tr_readClause_B63 {D : Nat} (hD : 6 ≤ D) (N : Nat) {r : Int32} {μr : MM} (x1 : Int32) (μ : MM) (h : f_Tr_readClause_B63 N x1 μ = some (r, μr)) : Sm D mX9_readClause 63 [some (av_r 3), some (av_i x1)] [] μ (po_i r μr) := by
  obtain ⟨d, rfl⟩ : ∃ d, D = d + 1 := ⟨D - 1, by omega⟩
  unfold f_Tr_readClause_B63 at h
  refine sm_iload_n dX9_readClause_63 rfl rfl ?_
  refine sm_bipush dX9_readClause_64 bp_99 ?_
  refine sm_icmp_ne (tgt := 93) dX9_readClause_66 (by decide) (fun g4 => ?_) (fun g4 => ?_)
  · replace h := it_f g4 h
    refine sm_iconst dX9_readClause_93 ic_0 ?_
    cases h
    exact sm_ret_z (st := []) dX9_readClause_94 rfl rfl ⟨rfl, rfl⟩
  · replace h := it_t g4 h
    refine sm_aload_n dX9_readClause_69 rfl rfl ?_
    refine sm_getR dX9_readClause_70 fg_RX9_12 k_3 (rf_9_1 k_3) ?_
    refine sm_getI dX9_readClause_73 fg_RX9_59 k_4 ?_
    refine sm_bipush dX9_readClause_76 bp_6 ?_
    refine sm_icmp_ge (tgt := 93) dX9_readClause_78 (by decide) (fun g5 => ?_) (fun g5 => ?_)
    · replace h := it_t g5 h
      refine sm_iconst dX9_readClause_93 ic_0 ?_
      cases h
      exact sm_ret_z (st := []) dX9_readClause_94 rfl rfl ⟨rfl, rfl⟩
    · replace h := it_f g5 h
      refine sm_aload_n dX9_readClause_81 rfl rfl ?_
      refine sm_getR dX9_readClause_82 fg_RX9_35 k_3 (rf_9_0 k_3) ?_
      obtain ⟨μ2z, g6, h⟩ := obv_some h
      refine sm_callV dX9_readClause_85 cv_X8_step ml_RX9_97 k_1 rfl rfl (by decide) (as := []) rfl (Nat.le_of_ble_eq_true rfl) rfl (s_Ta_step (D := d) (by omega) N g6) (fun r9 μ9 hp => ?_)
      rw [hp.1, hp.2]
      clear hp r9 μ9
      refine sm_aload_n dX9_readClause_88 rfl rfl ?_
      obtain ⟨t89, μ3z, g7, h⟩ := ob_some h
      refine sm_callV dX9_readClause_89 cv_X9_readCard ml_RX9_106 k_3 rfl rfl (by decide) (as := []) rfl (Nat.le_of_ble_eq_true rfl) rfl (s_Tr_readCard (D := d) (by omega) N g7) (fun r9 μ9 hp => ?_)
      rw [hp.1, hp.2]
      clear hp r9 μ9
      obtain ⟨g8, h⟩ := gd_some h
      cases h
      exact sm_ret_z (st := []) dX9_readClause_92 rfl (zb_nar g8) ⟨rfl, rfl⟩
set_option maxRecDepth 100000 in
set_option maxHeartbeats 4000000 in
theorem s_Tr_readClause_B33 {D : Nat} (hD : 6 ≤ D) (N : Nat) {r : Int32} {μr : MM} (x1 : Int32) (μ : MM) (h : f_Tr_readClause_B33 N x1 μ = some (r, μr)) : Sm D mX9_readClause 33 [some (av_r 3), some (av_i x1)] [] μ (po_i r μr) := by
  obtain ⟨d, rfl⟩ : ∃ d, D = d + 1 := ⟨D - 1, by omega⟩
  unfold f_Tr_readClause_B33 at h
  refine sm_iload_n dX9_readClause_33 rfl rfl ?_
  refine sm_bipush dX9_readClause_34 bp_116 ?_
  refine sm_icmp_ne (tgt := 63) dX9_readClause_36 (by decide) (fun g3 => ?_) (fun g3 => ?_)
  · replace h := it_f g3 h
    exact Sm_weak (le_s rfl (le_s rfl le_0)) (s_Tr_readClause_B63 hD N x1 μ h)
  · replace h := it_t g3 h
    refine sm_aload_n dX9_readClause_39 rfl rfl ?_
    refine sm_getR dX9_readClause_40 fg_RX9_12 k_3 (rf_9_1 k_3) ?_
    refine sm_getI dX9_readClause_43 fg_RX9_55 k_4 ?_
    refine sm_bipush dX9_readClause_46 bp_8 ?_
    refine sm_icmp_ge (tgt := 63) dX9_readClause_48 (by decide) (fun g9 => ?_) (fun g9 => ?_)
    · replace h := it_t g9 h
      exact Sm_weak (le_s rfl (le_s rfl le_0)) (s_Tr_readClause_B63 hD N x1 μ h)
    · replace h := it_f g9 h
      refine sm_aload_n dX9_readClause_51 rfl rfl ?_
      refine sm_getR dX9_readClause_52 fg_RX9_35 k_3 (rf_9_0 k_3) ?_
      obtain ⟨μ4z, g10, h⟩ := obv_some h
      refine sm_callV dX9_readClause_55 cv_X8_step ml_RX9_97 k_1 rfl rfl (by decide) (as := []) rfl (Nat.le_of_ble_eq_true rfl) rfl (s_Ta_step (D := d) (by omega) N g10) (fun r9 μ9 hp => ?_)
      rw [hp.1, hp.2]
      clear hp r9 μ9
      refine sm_aload_n dX9_readClause_58 rfl rfl ?_
      obtain ⟨t59, μ5z, g11, h⟩ := ob_some h
      refine sm_callV dX9_readClause_59 cv_X9_readThing ml_RX9_103 k_3 rfl rfl (by decide) (as := []) rfl (Nat.le_of_ble_eq_true rfl) rfl (s_Tr_readThing (D := d) (by omega) N g11) (fun r9 μ9 hp => ?_)
      rw [hp.1, hp.2]
      clear hp r9 μ9
      obtain ⟨g12, h⟩ := gd_some h
      cases h
      exact sm_ret_z (st := []) dX9_readClause_62 rfl (zb_nar g12) ⟨rfl, rfl⟩
set_option maxRecDepth 100000 in
set_option maxHeartbeats 4000000 in
theorem s_Tr_readClause {D : Nat} (hD : 6 ≤ D) (N : Nat) {μ : MM} {r : Int32} {μr : MM} (h : f_Tr_readClause N μ = some (r, μr)) : Cl D mX9_readClause [av_r 3] μ (po_i r μr) := by
  obtain ⟨d, rfl⟩ : ∃ d, D = d + 1 := ⟨D - 1, by omega⟩
  refine Cl_of pn_X9 (Nat.le_of_ble_eq_true rfl) ?_
  show Sm (d + 1) mX9_readClause 0 [some (av_r 3), none] [] μ (po_i r μr)
  unfold f_Tr_readClause at h
  refine sm_aload_n dX9_readClause_0 rfl rfl ?_
  refine sm_getR dX9_readClause_1 fg_RX9_35 k_3 (rf_9_0 k_3) ?_
  obtain ⟨t4, μ1z, g1, h⟩ := ob_some h
  refine sm_callV dX9_readClause_4 cv_X8_peek ml_RX9_51 k_1 rfl rfl (by decide) (as := []) rfl (Nat.le_of_ble_eq_true rfl) rfl (s_Ta_peek (D := d) (by omega) N g1) (fun r9 μ9 hp => ?_)
  rw [hp.1, hp.2]
  clear hp r9 μ9
  refine sm_istore_n dX9_readClause_7 rfl (Nat.le_of_ble_eq_true rfl) (pv_r rfl) ?_
  refine sm_iload_n dX9_readClause_8 rfl rfl ?_
  refine sm_bipush dX9_readClause_9 bp_115 ?_
  refine sm_icmp_ne (tgt := 33) dX9_readClause_11 (by decide) (fun g2 => ?_) (fun g2 => ?_)
  · replace h := it_f g2 h
    exact Sm_weak (le_s rfl (le_s rfl le_0)) (s_Tr_readClause_B33 hD N t4 μ1z h)
  · replace h := it_t g2 h
    refine sm_aload_n dX9_readClause_14 rfl rfl ?_
    refine sm_getI dX9_readClause_15 fg_RX9_31 k_3 ?_
    refine sm_if_ne (tgt := 33) dX9_readClause_18 (by decide) (fun g13 => ?_) (fun g13 => ?_)
    · replace h := it_f g13 h
      exact Sm_weak (le_s rfl (le_s rfl le_0)) (s_Tr_readClause_B33 hD N t4 μ1z h)
    · replace h := it_t g13 h
      refine sm_aload_n dX9_readClause_21 rfl rfl ?_
      refine sm_getR dX9_readClause_22 fg_RX9_35 k_3 (rf_9_0 k_3) ?_
      obtain ⟨μ6z, g14, h⟩ := obv_some h
      refine sm_callV dX9_readClause_25 cv_X8_step ml_RX9_97 k_1 rfl rfl (by decide) (as := []) rfl (Nat.le_of_ble_eq_true rfl) rfl (s_Ta_step (D := d) (by omega) N g14) (fun r9 μ9 hp => ?_)
      rw [hp.1, hp.2]
      clear hp r9 μ9
      refine sm_aload_n dX9_readClause_28 rfl rfl ?_
      obtain ⟨t29, μ7z, g15, h⟩ := ob_some h
      refine sm_callV dX9_readClause_29 cv_X9_readRules ml_RX9_100 k_3 rfl rfl (by decide) (as := []) rfl (Nat.le_of_ble_eq_true rfl) rfl (s_Tr_readRules (D := d) (by omega) N g15) (fun r9 μ9 hp => ?_)
      rw [hp.1, hp.2]
      clear hp r9 μ9
      obtain ⟨g16, h⟩ := gd_some h
      cases h
      exact sm_ret_z (st := []) dX9_readClause_32 rfl (zb_nar g16) ⟨rfl, rfl⟩
set_option maxRecDepth 100000 in
set_option maxHeartbeats 4000000 in
theorem s_Tr_isWhole_L4 {D : Nat} (hD : 1 ≤ D) (N : Nat) {r : Int32} {μr : MM} : ∀ (n : Nat) (x1 : Int32) (x2 : Int32) (μ : MM), f_Tr_isWhole_L4 N n x1 x2 μ = some (r, μr) → Sm D mX9_isWhole 4 [some (av_r 3), some (av_i x1), some (av_i x2), none] [] μ (po_i r μr) := by
  obtain ⟨d, rfl⟩ : ∃ d, D = d + 1 := ⟨D - 1, by omega⟩
  intro n
  induction n with
  | zero => intro x1 x2 μ h; cases (show none = some (r, μr) from h)
  | succ n ih =>
    intro x1 x2 μ h
    rw [f_Tr_isWhole_L4] at h
    refine sm_iload_n dX9_isWhole_4 rfl rfl ?_
    refine sm_aload_n dX9_isWhole_5 rfl rfl ?_
    refine sm_getR dX9_isWhole_6 fg_RX9_12 k_3 (rf_9_1 k_3) ?_
    refine sm_getI dX9_isWhole_9 fg_RX9_59 k_4 ?_
    refine sm_icmp_ge (tgt := 67) dX9_isWhole_12 (by decide) (fun g1 => ?_) (fun g1 => ?_)
    · replace h := it_t g1 h
      refine sm_aload_n dX9_isWhole_67 rfl rfl ?_
      refine sm_getR dX9_isWhole_68 fg_RX9_12 k_3 (rf_9_1 k_3) ?_
      refine sm_getI dX9_isWhole_71 fg_RX9_55 k_4 ?_
      refine sm_if_le (tgt := 91) dX9_isWhole_74 (by decide) (fun g2 => ?_) (fun g2 => ?_)
      · replace h := it_t g2 h
        refine sm_iconst dX9_isWhole_91 ic_0 ?_
        cases h
        exact sm_ret_z (st := []) dX9_isWhole_92 rfl rfl ⟨rfl, rfl⟩
      · replace h := it_f g2 h
        refine sm_aload_n dX9_isWhole_77 rfl rfl ?_
        refine sm_getR dX9_isWhole_78 fg_RX9_12 k_3 (rf_9_1 k_3) ?_
        refine sm_getI dX9_isWhole_81 fg_RX9_59 k_4 ?_
        refine sm_if_le (tgt := 91) dX9_isWhole_84 (by decide) (fun g3 => ?_) (fun g3 => ?_)
        · replace h := it_t g3 h
          refine sm_iconst dX9_isWhole_91 ic_0 ?_
          cases h
          exact sm_ret_z (st := []) dX9_isWhole_92 rfl rfl ⟨rfl, rfl⟩
        · replace h := it_f g3 h
          refine sm_iconst dX9_isWhole_87 ic_1 ?_
          refine sm_goto (tgt := 92) dX9_isWhole_88 (by decide) ?_
          cases h
          exact sm_ret_z (st := []) dX9_isWhole_92 rfl rfl ⟨rfl, rfl⟩
    · replace h := it_f g1 h
      refine sm_aload_n dX9_isWhole_15 rfl rfl ?_
      refine sm_getR dX9_isWhole_16 fg_RX9_12 k_3 (rf_9_1 k_3) ?_
      refine sm_getR dX9_isWhole_19 fg_RX9_62 k_4 (rf_1_5 k_4) ?_
      refine sm_getR dX9_isWhole_22 fg_RX9_91 k_8 (rf_7_1 k_8) ?_
      refine sm_iload_n dX9_isWhole_25 rfl rfl ?_
      obtain ⟨g4, h⟩ := gd_some h
      refine sm_iald (j := (Int32.toNatClampNeg x2)) dX9_isWhole_26 k_14 (in_sz n_14 g4) rfl ?_
      refine sm_istore_n dX9_isWhole_27 rfl (Nat.le_of_ble_eq_true rfl) (pv_i rfl) ?_
      refine sm_iload_n dX9_isWhole_28 rfl rfl ?_
      refine sm_iconst dX9_isWhole_29 ic_m1 ?_
      refine sm_icmp_eq (tgt := 61) dX9_isWhole_30 (by decide) (fun g5 => ?_) (fun g5 => ?_)
      · replace h := it_t g5 h
        refine sm_iinc dX9_isWhole_61 rfl (congrArg (HAdd.hAdd x2) ic_1) (Nat.le_of_ble_eq_true rfl) (pv_i rfl) ?_
        refine sm_goto (tgt := 4) dX9_isWhole_64 (by decide) ?_
        exact Sm_weak (le_s rfl (le_s rfl (le_s rfl (le_n le_0)))) (ih x1 (x2 + 1) μ h)
      · replace h := it_f g5 h
        refine sm_aload_n dX9_isWhole_33 rfl rfl ?_
        refine sm_getR dX9_isWhole_34 fg_RX9_12 k_3 (rf_9_1 k_3) ?_
        refine sm_iload_n dX9_isWhole_37 rfl rfl ?_
        obtain ⟨t38, μ1z, g6, h⟩ := ob_some h
        refine sm_callV dX9_isWhole_38 cv_X1_isThing ml_RX9_94 k_4 rfl rfl (by decide) (as := [av_i (μ.1 14 (Int32.toNatClampNeg x2))]) rfl (Nat.le_of_ble_eq_true rfl) rfl (s_Co_isThing (D := d) (by omega) N k_4 g6) (fun r9 μ9 hp => ?_)
        rw [hp.1, hp.2]
        clear hp r9 μ9
        refine sm_if_eq (tgt := 53) dX9_isWhole_41 (by decide) (fun g7 => ?_) (fun g7 => ?_)
        · replace h := it_t g7 h
          refine sm_iconst dX9_isWhole_53 ic_0 ?_
          cases h
          exact sm_ret_z (st := []) dX9_isWhole_54 rfl rfl ⟨rfl, rfl⟩
        · replace h := it_f g7 h
          refine sm_iload_n dX9_isWhole_44 rfl rfl ?_
          refine sm_iload_n dX9_isWhole_45 rfl rfl ?_
          refine sm_ishr dX9_isWhole_46 ?_
          refine sm_iconst dX9_isWhole_47 ic_1 ?_
          refine sm_iand dX9_isWhole_48 ?_
          refine sm_iconst dX9_isWhole_49 ic_1 ?_
          refine sm_icmp_ne (tgt := 55) dX9_isWhole_50 (by decide) (fun g8 => ?_) (fun g8 => ?_)
          · replace h := it_f g8 h
            refine sm_iload_n dX9_isWhole_55 rfl rfl ?_
            refine sm_iconst dX9_isWhole_56 ic_1 ?_
            refine sm_iload_n dX9_isWhole_57 rfl rfl ?_
            refine sm_ishl dX9_isWhole_58 ?_
            refine sm_ior dX9_isWhole_59 ?_
            refine sm_istore_n dX9_isWhole_60 rfl (Nat.le_of_ble_eq_true rfl) (pv_r rfl) ?_
            refine sm_iinc dX9_isWhole_61 rfl (congrArg (HAdd.hAdd x2) ic_1) (Nat.le_of_ble_eq_true rfl) (pv_i rfl) ?_
            refine sm_goto (tgt := 4) dX9_isWhole_64 (by decide) ?_
            exact Sm_weak (le_s rfl (le_s rfl (le_s rfl (le_n le_0)))) (ih (x1 ||| ((1 : Int32) <<< ((μ.1 14 (Int32.toNatClampNeg x2)) &&& 31))) (x2 + 1) μ1z h)
          · replace h := it_t g8 h
            refine sm_iconst dX9_isWhole_53 ic_0 ?_
            cases h
            exact sm_ret_z (st := []) dX9_isWhole_54 rfl rfl ⟨rfl, rfl⟩
set_option maxRecDepth 100000 in
set_option maxHeartbeats 4000000 in
theorem s_Tr_isWhole {D : Nat} (hD : 1 ≤ D) (N : Nat) {μ : MM} {r : Int32} {μr : MM} (h : f_Tr_isWhole N μ = some (r, μr)) : Cl D mX9_isWhole [av_r 3] μ (po_i r μr) := by
  obtain ⟨d, rfl⟩ : ∃ d, D = d + 1 := ⟨D - 1, by omega⟩
  refine Cl_of pn_X9 (Nat.le_of_ble_eq_true rfl) ?_
  show Sm (d + 1) mX9_isWhole 0 [some (av_r 3), none, none, none] [] μ (po_i r μr)
  unfold f_Tr_isWhole at h
  refine sm_iconst dX9_isWhole_0 ic_0 ?_
  refine sm_istore_n dX9_isWhole_1 rfl (Nat.le_of_ble_eq_true rfl) (pv_r rfl) ?_
  refine sm_iconst dX9_isWhole_2 ic_0 ?_
  refine sm_istore_n dX9_isWhole_3 rfl (Nat.le_of_ble_eq_true rfl) (pv_i rfl) ?_
  exact Sm_weak (le_s rfl (le_s rfl (le_s rfl (le_n le_0)))) (s_Tr_isWhole_L4 hD N N 0 0 μ h)
set_option maxRecDepth 100000 in
set_option maxHeartbeats 4000000 in
theorem s_Tr_readCollection_L71 {D : Nat} (hD : 7 ≤ D) (N : Nat) {r : Int32} {μr : MM} : ∀ (n : Nat) (x1 : Int32) (μ : MM), f_Tr_readCollection_L71 N n x1 μ = some (r, μr) → Sm D mX9_readCollection 71 [some (av_r 3), some (av_i x1)] [] μ (po_i r μr) := by
  obtain ⟨d, rfl⟩ : ∃ d, D = d + 1 := ⟨D - 1, by omega⟩
  intro n
  induction n with
  | zero => intro x1 μ h; cases (show none = some (r, μr) from h)
  | succ n ih =>
    intro x1 μ h
    rw [f_Tr_readCollection_L71] at h
    refine sm_iload_n dX9_readCollection_71 rfl rfl ?_
    refine sm_sipush dX9_readCollection_72 sp_240 ?_
    refine sm_icmp_gt (tgt := 129) dX9_readCollection_75 (by decide) (fun g4 => ?_) (fun g4 => ?_)
    · replace h := it_t g4 h
      refine sm_iconst dX9_readCollection_129 ic_0 ?_
      cases h
      exact sm_ret_z (st := []) dX9_readCollection_130 rfl rfl ⟨rfl, rfl⟩
    · replace h := it_f g4 h
      refine sm_aload_n dX9_readCollection_78 rfl rfl ?_
      obtain ⟨t79, μ8z, g5, h⟩ := ob_some h
      refine sm_callV dX9_readCollection_79 cv_X9_readClause ml_RX9_80 k_3 rfl rfl (by decide) (as := []) rfl (Nat.le_of_ble_eq_true rfl) rfl (s_Tr_readClause (D := d) (by omega) N g5) (fun r9 μ9 hp => ?_)
      rw [hp.1, hp.2]
      clear hp r9 μ9
      refine sm_if_ne (tgt := 87) dX9_readCollection_82 (by decide) (fun g6 => ?_) (fun g6 => ?_)
      · replace h := it_f g6 h
        refine sm_aload_n dX9_readCollection_87 rfl rfl ?_
        refine sm_getR dX9_readCollection_88 fg_RX9_35 k_3 (rf_9_0 k_3) ?_
        refine sm_bipush dX9_readCollection_91 bp_59 ?_
        obtain ⟨t93, μ9z, g7, h⟩ := ob_some h
        refine sm_callV dX9_readCollection_93 cv_X8_accept ml_RX9_84 k_1 rfl rfl (by decide) (as := [av_i 59]) rfl (Nat.le_of_ble_eq_true rfl) rfl (s_Ta_accept (D := d) (by omega) N g7) (fun r9 μ9 hp => ?_)
        rw [hp.1, hp.2]
        clear hp r9 μ9
        refine sm_if_ne (tgt := 123) dX9_readCollection_96 (by decide) (fun g8 => ?_) (fun g8 => ?_)
        · replace h := it_f g8 h
          refine sm_iinc dX9_readCollection_123 rfl (congrArg (HAdd.hAdd x1) ic_1) (Nat.le_of_ble_eq_true rfl) (pv_r rfl) ?_
          refine sm_goto (tgt := 71) dX9_readCollection_126 (by decide) ?_
          exact Sm_weak (le_s rfl (le_s rfl le_0)) (ih (x1 + 1) μ9z h)
        · replace h := it_t g8 h
          refine sm_aload_n dX9_readCollection_99 rfl rfl ?_
          refine sm_getR dX9_readCollection_100 fg_RX9_35 k_3 (rf_9_0 k_3) ?_
          obtain ⟨t103, μ10z, g9, h⟩ := ob_some h
          refine sm_callV dX9_readCollection_103 cv_X8_peek ml_RX9_51 k_1 rfl rfl (by decide) (as := []) rfl (Nat.le_of_ble_eq_true rfl) rfl (s_Ta_peek (D := d) (by omega) N g9) (fun r9 μ9 hp => ?_)
          rw [hp.1, hp.2]
          clear hp r9 μ9
          refine sm_iconst dX9_readCollection_106 ic_m1 ?_
          refine sm_icmp_ne (tgt := 121) dX9_readCollection_107 (by decide) (fun g10 => ?_) (fun g10 => ?_)
          · replace h := it_f g10 h
            refine sm_iconst dX9_readCollection_121 ic_0 ?_
            cases h
            exact sm_ret_z (st := []) dX9_readCollection_122 rfl rfl ⟨rfl, rfl⟩
          · replace h := it_t g10 h
            refine sm_aload_n dX9_readCollection_110 rfl rfl ?_
            obtain ⟨t111, μ11z, g11, h⟩ := ob_some h
            refine sm_callV dX9_readCollection_111 cv_X9_isWhole ml_RX9_88 k_3 rfl rfl (by decide) (as := []) rfl (Nat.le_of_ble_eq_true rfl) rfl (s_Tr_isWhole (D := d) (by omega) N g11) (fun r9 μ9 hp => ?_)
            rw [hp.1, hp.2]
            clear hp r9 μ9
            refine sm_if_eq (tgt := 121) dX9_readCollection_114 (by decide) (fun g12 => ?_) (fun g12 => ?_)
            · replace h := it_t g12 h
              refine sm_iconst dX9_readCollection_121 ic_0 ?_
              cases h
              exact sm_ret_z (st := []) dX9_readCollection_122 rfl rfl ⟨rfl, rfl⟩
            · replace h := it_f g12 h
              refine sm_iconst dX9_readCollection_117 ic_1 ?_
              refine sm_goto (tgt := 122) dX9_readCollection_118 (by decide) ?_
              cases h
              exact sm_ret_z (st := []) dX9_readCollection_122 rfl rfl ⟨rfl, rfl⟩
      · replace h := it_t g6 h
        refine sm_iconst dX9_readCollection_85 ic_0 ?_
        cases h
        exact sm_ret_z (st := []) dX9_readCollection_86 rfl rfl ⟨rfl, rfl⟩
set_option maxRecDepth 100000 in
set_option maxHeartbeats 4000000 in
theorem s_Tr_readCollection {D : Nat} (hD : 7 ≤ D) (N : Nat) {μ : MM} {r : Int32} {μr : MM} (h : f_Tr_readCollection N μ = some (r, μr)) : Cl D mX9_readCollection [av_r 3] μ (po_i r μr) := by
  obtain ⟨d, rfl⟩ : ∃ d, D = d + 1 := ⟨D - 1, by omega⟩
  refine Cl_of pn_X9 (Nat.le_of_ble_eq_true rfl) ?_
  show Sm (d + 1) mX9_readCollection 0 [some (av_r 3), none] [] μ (po_i r μr)
  unfold f_Tr_readCollection at h
  refine sm_aload_n dX9_readCollection_0 rfl rfl ?_
  refine sm_getR dX9_readCollection_1 fg_RX9_35 k_3 (rf_9_0 k_3) ?_
  obtain ⟨μ1z, g1, h⟩ := obv_some h
  refine sm_callV dX9_readCollection_4 cv_X8_rewind ml_RX9_39 k_1 rfl rfl (by decide) (as := []) rfl (Nat.le_of_ble_eq_true rfl) rfl (s_Ta_rewind (D := d) (by omega) N g1) (fun r9 μ9 hp => ?_)
  rw [hp.1, hp.2]
  clear hp r9 μ9
  refine sm_aload_n dX9_readCollection_7 rfl rfl ?_
  refine sm_iconst dX9_readCollection_8 ic_0 ?_
  refine sm_putZ dX9_readCollection_9 fp_RX9_31 k_3 (Or.inl rfl) ?_
  replace h := wr_some h
  refine sm_aload_n dX9_readCollection_12 rfl rfl ?_
  refine sm_getR dX9_readCollection_13 fg_RX9_12 k_3 (rf_9_1 k_3) ?_
  refine sm_iconst dX9_readCollection_16 ic_0 ?_
  refine sm_putI dX9_readCollection_17 fp_RX9_55 k_4 ?_
  replace h := wr_some h
  refine sm_aload_n dX9_readCollection_20 rfl rfl ?_
  refine sm_getR dX9_readCollection_21 fg_RX9_12 k_3 (rf_9_1 k_3) ?_
  refine sm_iconst dX9_readCollection_24 ic_0 ?_
  refine sm_putI dX9_readCollection_25 fp_RX9_59 k_4 ?_
  replace h := wr_some h
  refine sm_aload_n dX9_readCollection_28 rfl rfl ?_
  refine sm_getR dX9_readCollection_29 fg_RX9_12 k_3 (rf_9_1 k_3) ?_
  refine sm_getR dX9_readCollection_32 fg_RX9_62 k_4 (rf_1_5 k_4) ?_
  refine sm_roget dX9_readCollection_35 (i := 0) (by decide) cs_RX9_66 ?_
  refine sm_iconst dX9_readCollection_38 ic_0 ?_
  refine sm_roald (j := 0) dX9_readCollection_39 k_1000 (in_sz n_1000 (by decide)) (by decide) ?_
  refine sm_putI dX9_readCollection_40 fp_RX9_69 k_8 ?_
  replace h := wr_some h
  refine sm_aload_n dX9_readCollection_43 rfl rfl ?_
  refine sm_getR dX9_readCollection_44 fg_RX9_12 k_3 (rf_9_1 k_3) ?_
  refine sm_getR dX9_readCollection_47 fg_RX9_62 k_4 (rf_1_5 k_4) ?_
  refine sm_roget dX9_readCollection_50 (i := 0) (by decide) cs_RX9_66 ?_
  refine sm_iconst dX9_readCollection_53 ic_1 ?_
  refine sm_roald (j := 1) dX9_readCollection_54 k_1000 (in_sz n_1000 (by decide)) (by decide) ?_
  refine sm_putI dX9_readCollection_55 fp_RX9_74 k_8 ?_
  replace h := wr_some h
  refine sm_aload_n dX9_readCollection_58 rfl rfl ?_
  refine sm_getR dX9_readCollection_59 fg_RX9_12 k_3 (rf_9_1 k_3) ?_
  refine sm_getR dX9_readCollection_62 fg_RX9_62 k_4 (rf_1_5 k_4) ?_
  refine sm_iconst dX9_readCollection_65 ic_0 ?_
  refine sm_putI dX9_readCollection_66 fp_RX9_77 k_8 ?_
  replace h := wr_some h
  refine sm_iconst dX9_readCollection_69 ic_0 ?_
  refine sm_istore_n dX9_readCollection_70 rfl (Nat.le_of_ble_eq_true rfl) (pv_r rfl) ?_
  exact Sm_weak (le_s rfl (le_s rfl le_0)) (s_Tr_readCollection_L71 hD N N 0 (mm_I (mm_I (mm_I (mm_I (mm_I (mm_I μ1z 3 4 0) 4 0 0) 4 1 0) 8 2 (ro_I 1000 0)) 8 3 (ro_I 1000 1)) 8 4 0) h)
set_option maxRecDepth 100000 in
set_option maxHeartbeats 4000000 in
theorem s_Wo_takeRow_L37 {D : Nat} (hD : 1 ≤ D) (N : Nat) {w : Nat} (hk_w : sh_k w = 10) {q2 : Nat} (hk_q2 : sh_k q2 = 10) {μr : MM} : ∀ (n : Nat) (x1 : Int32) (x3 : Int32) (x4 : Int32) (μ : MM), f_Wo_takeRow_L37 N w q2 n x1 x3 x4 μ = some μr → Sm D mX10_takeRow 37 [some (av_r w), some (av_i x1), some (av_r q2), some (av_i x3), some (av_i x4), none] [] μ (po_v μr) := by
  obtain ⟨d, rfl⟩ : ∃ d, D = d + 1 := ⟨D - 1, by omega⟩
  intro n
  induction n with
  | zero => intro x1 x3 x4 μ h; cases (show none = some μr from h)
  | succ n ih =>
    intro x1 x3 x4 μ h
    rw [f_Wo_takeRow_L37] at h
    refine sm_iload dX10_takeRow_37 rfl ?_
    refine sm_aload_n dX10_takeRow_39 rfl rfl ?_
    refine sm_getR dX10_takeRow_40 fg_RX10_18 hk_q2 (rf_10_0 hk_q2) ?_
    refine sm_iload_n dX10_takeRow_43 rfl rfl ?_
    obtain ⟨g6, h⟩ := gd_some h
    refine sm_iald (j := (Int32.toNatClampNeg x3)) dX10_takeRow_44 (kk_10_0 hk_q2) (in_sz rfl g6) rfl ?_
    refine sm_icmp_ge (tgt := 85) dX10_takeRow_45 (by decide) (fun g7 => ?_) (fun g7 => ?_)
    · replace h := it_t g7 h
      cases h
      exact sm_ret_v (st := []) dX10_takeRow_85 rfl ⟨rfl, rfl⟩
    · replace h := it_f g7 h
      refine sm_iload_n dX10_takeRow_48 rfl rfl ?_
      refine sm_bipush dX10_takeRow_49 bp_6 ?_
      refine sm_imul dX10_takeRow_51 ?_
      refine sm_iload dX10_takeRow_52 rfl ?_
      refine sm_iadd dX10_takeRow_54 ?_
      refine sm_istore dX10_takeRow_55 (Nat.le_of_ble_eq_true rfl) (pv_i rfl) ?_
      refine sm_aload_n dX10_takeRow_57 rfl rfl ?_
      refine sm_iload_n dX10_takeRow_58 rfl rfl ?_
      refine sm_aload_n dX10_takeRow_59 rfl rfl ?_
      refine sm_getR dX10_takeRow_60 fg_RX10_24 hk_q2 (rf_10_1 hk_q2) ?_
      refine sm_iload dX10_takeRow_63 rfl ?_
      obtain ⟨g8, h⟩ := gd_some h
      refine sm_iald (j := (Int32.toNatClampNeg ((x3 * 6) + x4))) dX10_takeRow_65 (kk_10_1 hk_q2) (in_sz rfl g8) rfl ?_
      refine sm_aload_n dX10_takeRow_66 rfl rfl ?_
      refine sm_getR dX10_takeRow_67 fg_RX10_27 hk_q2 (rf_10_2 hk_q2) ?_
      refine sm_iload dX10_takeRow_70 rfl ?_
      obtain ⟨g9, h⟩ := gd_some h
      refine sm_iald (j := (Int32.toNatClampNeg ((x3 * 6) + x4))) dX10_takeRow_72 (kk_10_2 hk_q2) (in_sz rfl g9) rfl ?_
      refine sm_bipush dX10_takeRow_73 bp_9 ?_
      obtain ⟨t75, μ2z, g10, h⟩ := ob_some h
      refine sm_callV dX10_takeRow_75 cv_X10_add ml_RX10_39 hk_w rfl rfl (by decide) (as := [av_i x1, av_i (μ.1 (q2 + 2) (Int32.toNatClampNeg ((x3 * 6) + x4))), av_i (μ.1 (q2 + 3) (Int32.toNatClampNeg ((x3 * 6) + x4))), av_i 9]) rfl (Nat.le_of_ble_eq_true rfl) rfl (s_Wo_add (D := d) (by omega) N hk_w g10) (fun r9 μ9 hp => ?_)
      rw [hp.1, hp.2]
      clear hp r9 μ9
      refine sm_pop dX10_takeRow_78 rfl ?_
      refine sm_iinc dX10_takeRow_79 rfl (congrArg (HAdd.hAdd x4) ic_1) (Nat.le_of_ble_eq_true rfl) (pv_i rfl) ?_
      refine sm_goto (tgt := 37) dX10_takeRow_82 (by decide) ?_
      exact Sm_weak (le_s rfl (le_s rfl (le_s rfl (le_s rfl (le_s rfl (le_n le_0)))))) (ih x1 x3 (x4 + 1) μ2z h)
set_option maxRecDepth 100000 in
set_option maxHeartbeats 4000000 in
theorem s_Wo_takeRow {D : Nat} (hD : 1 ≤ D) (N : Nat) {w : Nat} (hk_w : sh_k w = 10) {q2 : Nat} (hk_q2 : sh_k q2 = 10) {x1 : Int32} {x3 : Int32} {μ : MM} {μr : MM} (h : f_Wo_takeRow N w q2 x1 x3 μ = some μr) : Cl D mX10_takeRow [av_r w, av_i x1, av_r q2, av_i x3] μ (po_v μr) := by
  obtain ⟨d, rfl⟩ : ∃ d, D = d + 1 := ⟨D - 1, by omega⟩
  refine Cl_of pn_X10 (Nat.le_of_ble_eq_true rfl) ?_
  show Sm (d + 1) mX10_takeRow 0 [some (av_r w), some (av_i x1), some (av_r q2), some (av_i x3), none, none] [] μ (po_v μr)
  unfold f_Wo_takeRow at h
  refine sm_iload_n dX10_takeRow_0 rfl rfl ?_
  refine sm_if_lt (tgt := 26) dX10_takeRow_1 (by decide) (fun g1 => ?_) (fun g1 => ?_)
  · replace h := it_t g1 h
    cases h
    exact sm_ret_v (st := []) dX10_takeRow_26 rfl ⟨rfl, rfl⟩
  · replace h := it_f g1 h
    refine sm_iload_n dX10_takeRow_4 rfl rfl ?_
    refine sm_aload_n dX10_takeRow_5 rfl rfl ?_
    refine sm_getR dX10_takeRow_6 fg_RX10_18 hk_w (rf_10_0 hk_w) ?_
    refine sm_alen dX10_takeRow_9 (kk_10_0 hk_w) (by decide) (by decide) ?_
    refine sm_icmp_ge (tgt := 26) dX10_takeRow_10 (by decide) (fun g2 => ?_) (fun g2 => ?_)
    · replace h := it_t g2 h
      cases h
      exact sm_ret_v (st := []) dX10_takeRow_26 rfl ⟨rfl, rfl⟩
    · replace h := it_f g2 h
      refine sm_iload_n dX10_takeRow_13 rfl rfl ?_
      refine sm_if_lt (tgt := 26) dX10_takeRow_14 (by decide) (fun g3 => ?_) (fun g3 => ?_)
      · replace h := it_t g3 h
        cases h
        exact sm_ret_v (st := []) dX10_takeRow_26 rfl ⟨rfl, rfl⟩
      · replace h := it_f g3 h
        refine sm_iload_n dX10_takeRow_17 rfl rfl ?_
        refine sm_aload_n dX10_takeRow_18 rfl rfl ?_
        refine sm_getR dX10_takeRow_19 fg_RX10_18 hk_q2 (rf_10_0 hk_q2) ?_
        refine sm_alen dX10_takeRow_22 (kk_10_0 hk_q2) (by decide) (by decide) ?_
        refine sm_icmp_lt (tgt := 27) dX10_takeRow_23 (by decide) (fun g4 => ?_) (fun g4 => ?_)
        · replace h := it_t g4 h
          refine sm_aload_n dX10_takeRow_27 rfl rfl ?_
          refine sm_getR dX10_takeRow_28 fg_RX10_18 hk_w (rf_10_0 hk_w) ?_
          refine sm_iload_n dX10_takeRow_31 rfl rfl ?_
          refine sm_iconst dX10_takeRow_32 ic_0 ?_
          obtain ⟨g5, h⟩ := gd_some h
          refine sm_iast (j := (Int32.toNatClampNeg x1)) dX10_takeRow_33 (kk_10_0 hk_w) (in_sz rfl g5) rfl ?_
          replace h := wr_some h
          refine sm_iconst dX10_takeRow_34 ic_0 ?_
          refine sm_istore dX10_takeRow_35 (Nat.le_of_ble_eq_true rfl) (pv_i rfl) ?_
          exact Sm_weak (le_s rfl (le_s rfl (le_s rfl (le_s rfl (le_s rfl (le_n le_0)))))) (s_Wo_takeRow_L37 hD N hk_w hk_q2 N x1 x3 0 (mm_I μ (w + 1) (Int32.toNatClampNeg x1) 0) h)
        · replace h := it_f g4 h
          cases h
          exact sm_ret_v (st := []) dX10_takeRow_26 rfl ⟨rfl, rfl⟩
set_option maxRecDepth 100000 in
set_option maxHeartbeats 4000000 in
theorem s_Wo_tell {D : Nat} (hD : 0 ≤ D) (N : Nat) {w : Nat} (hk_w : sh_k w = 10) {x1 : Int32} {x2 : Int32} {x3 : Int32} {μ : MM} {r : Int32} {μr : MM} (h : f_Wo_tell N w x1 x2 x3 μ = some (r, μr)) : Cl D mX10_tell [av_r w, av_i x1, av_i x2, av_i x3] μ (po_i r μr) := by
  refine Cl_of pn_X10 (Nat.le_of_ble_eq_true rfl) ?_
  show Sm D mX10_tell 0 [some (av_r w), some (av_i x1), some (av_i x2), some (av_i x3), none] [] μ (po_i r μr)
  unfold f_Wo_tell at h
  refine sm_iload_n dX10_tell_0 rfl rfl ?_
  refine sm_if_lt (tgt := 27) dX10_tell_1 (by decide) (fun g1 => ?_) (fun g1 => ?_)
  · replace h := it_t g1 h
    refine sm_iconst dX10_tell_27 ic_m1 ?_
    cases h
    exact sm_ret_i (st := []) dX10_tell_28 rfl ⟨rfl, rfl⟩
  · replace h := it_f g1 h
    refine sm_iload_n dX10_tell_4 rfl rfl ?_
    refine sm_aload_n dX10_tell_5 rfl rfl ?_
    refine sm_getR dX10_tell_6 fg_RX10_18 hk_w (rf_10_0 hk_w) ?_
    refine sm_alen dX10_tell_9 (kk_10_0 hk_w) (by decide) (by decide) ?_
    refine sm_icmp_ge (tgt := 27) dX10_tell_10 (by decide) (fun g2 => ?_) (fun g2 => ?_)
    · replace h := it_t g2 h
      refine sm_iconst dX10_tell_27 ic_m1 ?_
      cases h
      exact sm_ret_i (st := []) dX10_tell_28 rfl ⟨rfl, rfl⟩
    · replace h := it_f g2 h
      refine sm_iload_n dX10_tell_13 rfl rfl ?_
      refine sm_if_lt (tgt := 27) dX10_tell_14 (by decide) (fun g3 => ?_) (fun g3 => ?_)
      · replace h := it_t g3 h
        refine sm_iconst dX10_tell_27 ic_m1 ?_
        cases h
        exact sm_ret_i (st := []) dX10_tell_28 rfl ⟨rfl, rfl⟩
      · replace h := it_f g3 h
        refine sm_iload_n dX10_tell_17 rfl rfl ?_
        refine sm_aload_n dX10_tell_18 rfl rfl ?_
        refine sm_getR dX10_tell_19 fg_RX10_18 hk_w (rf_10_0 hk_w) ?_
        refine sm_iload_n dX10_tell_22 rfl rfl ?_
        obtain ⟨g4, h⟩ := gd_some h
        refine sm_iald (j := (Int32.toNatClampNeg x1)) dX10_tell_23 (kk_10_0 hk_w) (in_sz rfl g4) rfl ?_
        refine sm_icmp_lt (tgt := 29) dX10_tell_24 (by decide) (fun g5 => ?_) (fun g5 => ?_)
        · replace h := it_t g5 h
          refine sm_iload_n dX10_tell_29 rfl rfl ?_
          refine sm_bipush dX10_tell_30 bp_6 ?_
          refine sm_imul dX10_tell_32 ?_
          refine sm_iload_n dX10_tell_33 rfl rfl ?_
          refine sm_iadd dX10_tell_34 ?_
          refine sm_istore dX10_tell_35 (Nat.le_of_ble_eq_true rfl) (pv_i rfl) ?_
          refine sm_iload_n dX10_tell_37 rfl rfl ?_
          refine sm_if_ne (tgt := 49) dX10_tell_38 (by decide) (fun g6 => ?_) (fun g6 => ?_)
          · replace h := it_f g6 h
            refine sm_iload_n dX10_tell_49 rfl rfl ?_
            refine sm_iconst dX10_tell_50 ic_1 ?_
            refine sm_icmp_ne (tgt := 62) dX10_tell_51 (by decide) (fun g7 => ?_) (fun g7 => ?_)
            · replace h := it_f g7 h
              refine sm_iload_n dX10_tell_62 rfl rfl ?_
              refine sm_iconst dX10_tell_63 ic_2 ?_
              refine sm_icmp_ne (tgt := 77) dX10_tell_64 (by decide) (fun g8 => ?_) (fun g8 => ?_)
              · replace h := it_f g8 h
                refine sm_iconst dX10_tell_77 ic_m1 ?_
                cases h
                exact sm_ret_i (st := []) dX10_tell_78 rfl ⟨rfl, rfl⟩
              · replace h := it_t g8 h
                refine sm_aload_n dX10_tell_67 rfl rfl ?_
                refine sm_getR dX10_tell_68 fg_RX10_30 hk_w (rf_10_3 hk_w) ?_
                refine sm_iload dX10_tell_71 rfl ?_
                obtain ⟨g9, h⟩ := gd_some h
                refine sm_iald (j := (Int32.toNatClampNeg ((x1 * 6) + x2))) dX10_tell_73 (kk_10_3 hk_w) (in_sz rfl g9) rfl ?_
                refine sm_goto (tgt := 78) dX10_tell_74 (by decide) ?_
                cases h
                exact sm_ret_i (st := []) dX10_tell_78 rfl ⟨rfl, rfl⟩
            · replace h := it_t g7 h
              refine sm_aload_n dX10_tell_54 rfl rfl ?_
              refine sm_getR dX10_tell_55 fg_RX10_27 hk_w (rf_10_2 hk_w) ?_
              refine sm_iload dX10_tell_58 rfl ?_
              obtain ⟨g10, h⟩ := gd_some h
              refine sm_iald (j := (Int32.toNatClampNeg ((x1 * 6) + x2))) dX10_tell_60 (kk_10_2 hk_w) (in_sz rfl g10) rfl ?_
              cases h
              exact sm_ret_i (st := []) dX10_tell_61 rfl ⟨rfl, rfl⟩
          · replace h := it_t g6 h
            refine sm_aload_n dX10_tell_41 rfl rfl ?_
            refine sm_getR dX10_tell_42 fg_RX10_24 hk_w (rf_10_1 hk_w) ?_
            refine sm_iload dX10_tell_45 rfl ?_
            obtain ⟨g11, h⟩ := gd_some h
            refine sm_iald (j := (Int32.toNatClampNeg ((x1 * 6) + x2))) dX10_tell_47 (kk_10_1 hk_w) (in_sz rfl g11) rfl ?_
            cases h
            exact sm_ret_i (st := []) dX10_tell_48 rfl ⟨rfl, rfl⟩
        · replace h := it_f g5 h
          refine sm_iconst dX10_tell_27 ic_m1 ?_
          cases h
          exact sm_ret_i (st := []) dX10_tell_28 rfl ⟨rfl, rfl⟩
set_option maxRecDepth 100000 in
set_option maxHeartbeats 4000000 in
theorem s_Wo_freshen_L16 {D : Nat} (hD : 0 ≤ D) (N : Nat) {w : Nat} (hk_w : sh_k w = 10) {μr : MM} : ∀ (n : Nat) (x1 : Int32) (x2 : Int32) (μ : MM), f_Wo_freshen_L16 N w n x1 x2 μ = some μr → Sm D mX10_freshen 16 [some (av_r w), some (av_i x1), some (av_i x2)] [] μ (po_v μr) := by
  intro n
  induction n with
  | zero => intro x1 x2 μ h; cases (show none = some μr from h)
  | succ n ih =>
    intro x1 x2 μ h
    rw [f_Wo_freshen_L16] at h
    refine sm_iload_n dX10_freshen_16 rfl rfl ?_
    refine sm_aload_n dX10_freshen_17 rfl rfl ?_
    refine sm_getR dX10_freshen_18 fg_RX10_18 hk_w (rf_10_0 hk_w) ?_
    refine sm_iload_n dX10_freshen_21 rfl rfl ?_
    obtain ⟨g3, h⟩ := gd_some h
    refine sm_iald (j := (Int32.toNatClampNeg x1)) dX10_freshen_22 (kk_10_0 hk_w) (in_sz rfl g3) rfl ?_
    refine sm_icmp_ge (tgt := 59) dX10_freshen_23 (by decide) (fun g4 => ?_) (fun g4 => ?_)
    · replace h := it_t g4 h
      cases h
      exact sm_ret_v (st := []) dX10_freshen_59 rfl ⟨rfl, rfl⟩
    · replace h := it_f g4 h
      refine sm_aload_n dX10_freshen_26 rfl rfl ?_
      refine sm_getR dX10_freshen_27 fg_RX10_30 hk_w (rf_10_3 hk_w) ?_
      refine sm_iload_n dX10_freshen_30 rfl rfl ?_
      refine sm_bipush dX10_freshen_31 bp_6 ?_
      refine sm_imul dX10_freshen_33 ?_
      refine sm_iload_n dX10_freshen_34 rfl rfl ?_
      refine sm_iadd dX10_freshen_35 ?_
      obtain ⟨g5, h⟩ := gd_some h
      refine sm_iald (j := (Int32.toNatClampNeg ((x1 * 6) + x2))) dX10_freshen_36 (kk_10_3 hk_w) (in_sz rfl g5) rfl ?_
      refine sm_if_le (tgt := 53) dX10_freshen_37 (by decide) (fun g6 => ?_) (fun g6 => ?_)
      · replace h := it_t g6 h
        refine sm_iinc dX10_freshen_53 rfl (congrArg (HAdd.hAdd x2) ic_1) (Nat.le_of_ble_eq_true rfl) (pv_i rfl) ?_
        refine sm_goto (tgt := 16) dX10_freshen_56 (by decide) ?_
        exact Sm_weak (le_s rfl (le_s rfl (le_s rfl le_0))) (ih x1 (x2 + 1) μ h)
      · replace h := it_f g6 h
        refine sm_aload_n dX10_freshen_40 rfl rfl ?_
        refine sm_getR dX10_freshen_41 fg_RX10_30 hk_w (rf_10_3 hk_w) ?_
        refine sm_iload_n dX10_freshen_44 rfl rfl ?_
        refine sm_bipush dX10_freshen_45 bp_6 ?_
        refine sm_imul dX10_freshen_47 ?_
        refine sm_iload_n dX10_freshen_48 rfl rfl ?_
        refine sm_iadd dX10_freshen_49 ?_
        refine sm_bipush dX10_freshen_50 bp_9 ?_
        obtain ⟨g7, h⟩ := gd_some h
        refine sm_iast (j := (Int32.toNatClampNeg ((x1 * 6) + x2))) dX10_freshen_52 (kk_10_3 hk_w) (in_sz rfl g7) rfl ?_
        replace h := wr_some h
        refine sm_iinc dX10_freshen_53 rfl (congrArg (HAdd.hAdd x2) ic_1) (Nat.le_of_ble_eq_true rfl) (pv_i rfl) ?_
        refine sm_goto (tgt := 16) dX10_freshen_56 (by decide) ?_
        exact Sm_weak (le_s rfl (le_s rfl (le_s rfl le_0))) (ih x1 (x2 + 1) (mm_I μ (w + 4) (Int32.toNatClampNeg ((x1 * 6) + x2)) 9) h)
set_option maxRecDepth 100000 in
set_option maxHeartbeats 4000000 in
theorem s_Wo_freshen {D : Nat} (hD : 0 ≤ D) (N : Nat) {w : Nat} (hk_w : sh_k w = 10) {x1 : Int32} {μ : MM} {μr : MM} (h : f_Wo_freshen N w x1 μ = some μr) : Cl D mX10_freshen [av_r w, av_i x1] μ (po_v μr) := by
  refine Cl_of pn_X10 (Nat.le_of_ble_eq_true rfl) ?_
  show Sm D mX10_freshen 0 [some (av_r w), some (av_i x1), none] [] μ (po_v μr)
  unfold f_Wo_freshen at h
  refine sm_iload_n dX10_freshen_0 rfl rfl ?_
  refine sm_if_lt (tgt := 13) dX10_freshen_1 (by decide) (fun g1 => ?_) (fun g1 => ?_)
  · replace h := it_t g1 h
    cases h
    exact sm_ret_v (st := []) dX10_freshen_13 rfl ⟨rfl, rfl⟩
  · replace h := it_f g1 h
    refine sm_iload_n dX10_freshen_4 rfl rfl ?_
    refine sm_aload_n dX10_freshen_5 rfl rfl ?_
    refine sm_getR dX10_freshen_6 fg_RX10_18 hk_w (rf_10_0 hk_w) ?_
    refine sm_alen dX10_freshen_9 (kk_10_0 hk_w) (by decide) (by decide) ?_
    refine sm_icmp_lt (tgt := 14) dX10_freshen_10 (by decide) (fun g2 => ?_) (fun g2 => ?_)
    · replace h := it_t g2 h
      refine sm_iconst dX10_freshen_14 ic_0 ?_
      refine sm_istore_n dX10_freshen_15 rfl (Nat.le_of_ble_eq_true rfl) (pv_i rfl) ?_
      exact Sm_weak (le_s rfl (le_s rfl (le_s rfl le_0))) (s_Wo_freshen_L16 hD N hk_w N x1 0 μ h)
    · replace h := it_f g2 h
      cases h
      exact sm_ret_v (st := []) dX10_freshen_13 rfl ⟨rfl, rfl⟩
set_option maxRecDepth 100000 in
set_option maxHeartbeats 4000000 in
theorem s_Wo_dim_L16 {D : Nat} (hD : 0 ≤ D) (N : Nat) {w : Nat} (hk_w : sh_k w = 10) {μr : MM} : ∀ (n : Nat) (x1 : Int32) (x2 : Int32) (μ : MM), f_Wo_dim_L16 N w n x1 x2 μ = some μr → Sm D mX10_dim 16 [some (av_r w), some (av_i x1), some (av_i x2)] [] μ (po_v μr) := by
  intro n
  induction n with
  | zero => intro x1 x2 μ h; cases (show none = some μr from h)
  | succ n ih =>
    intro x1 x2 μ h
    rw [f_Wo_dim_L16] at h
    refine sm_iload_n dX10_dim_16 rfl rfl ?_
    refine sm_aload_n dX10_dim_17 rfl rfl ?_
    refine sm_getR dX10_dim_18 fg_RX10_18 hk_w (rf_10_0 hk_w) ?_
    refine sm_iload_n dX10_dim_21 rfl rfl ?_
    obtain ⟨g3, h⟩ := gd_some h
    refine sm_iald (j := (Int32.toNatClampNeg x1)) dX10_dim_22 (kk_10_0 hk_w) (in_sz rfl g3) rfl ?_
    refine sm_icmp_ge (tgt := 61) dX10_dim_23 (by decide) (fun g4 => ?_) (fun g4 => ?_)
    · replace h := it_t g4 h
      cases h
      exact sm_ret_v (st := []) dX10_dim_61 rfl ⟨rfl, rfl⟩
    · replace h := it_f g4 h
      refine sm_aload_n dX10_dim_26 rfl rfl ?_
      refine sm_getR dX10_dim_27 fg_RX10_30 hk_w (rf_10_3 hk_w) ?_
      refine sm_iload_n dX10_dim_30 rfl rfl ?_
      refine sm_bipush dX10_dim_31 bp_6 ?_
      refine sm_imul dX10_dim_33 ?_
      refine sm_iload_n dX10_dim_34 rfl rfl ?_
      refine sm_iadd dX10_dim_35 ?_
      obtain ⟨g5, h⟩ := gd_some h
      refine sm_iald (j := (Int32.toNatClampNeg ((x1 * 6) + x2))) dX10_dim_36 (kk_10_3 hk_w) (in_sz rfl g5) rfl ?_
      refine sm_if_le (tgt := 55) dX10_dim_37 (by decide) (fun g6 => ?_) (fun g6 => ?_)
      · replace h := it_t g6 h
        refine sm_iinc dX10_dim_55 rfl (congrArg (HAdd.hAdd x2) ic_1) (Nat.le_of_ble_eq_true rfl) (pv_i rfl) ?_
        refine sm_goto (tgt := 16) dX10_dim_58 (by decide) ?_
        exact Sm_weak (le_s rfl (le_s rfl (le_s rfl le_0))) (ih x1 (x2 + 1) μ h)
      · replace h := it_f g6 h
        refine sm_aload_n dX10_dim_40 rfl rfl ?_
        refine sm_getR dX10_dim_41 fg_RX10_30 hk_w (rf_10_3 hk_w) ?_
        refine sm_iload_n dX10_dim_44 rfl rfl ?_
        refine sm_bipush dX10_dim_45 bp_6 ?_
        refine sm_imul dX10_dim_47 ?_
        refine sm_iload_n dX10_dim_48 rfl rfl ?_
        refine sm_iadd dX10_dim_49 ?_
        refine sm_dup2 dX10_dim_50 rfl rfl ?_
        obtain ⟨g7, h⟩ := gd_some h
        refine sm_iald (j := (Int32.toNatClampNeg ((x1 * 6) + x2))) dX10_dim_51 (kk_10_3 hk_w) (in_sz rfl g7) rfl ?_
        refine sm_iconst dX10_dim_52 ic_1 ?_
        refine sm_isub dX10_dim_53 ?_
        obtain ⟨g8, h⟩ := gd_some h
        refine sm_iast (j := (Int32.toNatClampNeg ((x1 * 6) + x2))) dX10_dim_54 (kk_10_3 hk_w) (in_sz rfl g8) rfl ?_
        replace h := wr_some h
        refine sm_iinc dX10_dim_55 rfl (congrArg (HAdd.hAdd x2) ic_1) (Nat.le_of_ble_eq_true rfl) (pv_i rfl) ?_
        refine sm_goto (tgt := 16) dX10_dim_58 (by decide) ?_
        exact Sm_weak (le_s rfl (le_s rfl (le_s rfl le_0))) (ih x1 (x2 + 1) (mm_I μ (w + 4) (Int32.toNatClampNeg ((x1 * 6) + x2)) ((μ.1 (w + 4) (Int32.toNatClampNeg ((x1 * 6) + x2))) - 1)) h)
set_option maxRecDepth 100000 in
set_option maxHeartbeats 4000000 in
theorem s_Wo_dim {D : Nat} (hD : 0 ≤ D) (N : Nat) {w : Nat} (hk_w : sh_k w = 10) {x1 : Int32} {μ : MM} {μr : MM} (h : f_Wo_dim N w x1 μ = some μr) : Cl D mX10_dim [av_r w, av_i x1] μ (po_v μr) := by
  refine Cl_of pn_X10 (Nat.le_of_ble_eq_true rfl) ?_
  show Sm D mX10_dim 0 [some (av_r w), some (av_i x1), none] [] μ (po_v μr)
  unfold f_Wo_dim at h
  refine sm_iload_n dX10_dim_0 rfl rfl ?_
  refine sm_if_lt (tgt := 13) dX10_dim_1 (by decide) (fun g1 => ?_) (fun g1 => ?_)
  · replace h := it_t g1 h
    cases h
    exact sm_ret_v (st := []) dX10_dim_13 rfl ⟨rfl, rfl⟩
  · replace h := it_f g1 h
    refine sm_iload_n dX10_dim_4 rfl rfl ?_
    refine sm_aload_n dX10_dim_5 rfl rfl ?_
    refine sm_getR dX10_dim_6 fg_RX10_18 hk_w (rf_10_0 hk_w) ?_
    refine sm_alen dX10_dim_9 (kk_10_0 hk_w) (by decide) (by decide) ?_
    refine sm_icmp_lt (tgt := 14) dX10_dim_10 (by decide) (fun g2 => ?_) (fun g2 => ?_)
    · replace h := it_t g2 h
      refine sm_iconst dX10_dim_14 ic_0 ?_
      refine sm_istore_n dX10_dim_15 rfl (Nat.le_of_ble_eq_true rfl) (pv_i rfl) ?_
      exact Sm_weak (le_s rfl (le_s rfl (le_s rfl le_0))) (s_Wo_dim_L16 hD N hk_w N x1 0 μ h)
    · replace h := it_f g2 h
      cases h
      exact sm_ret_v (st := []) dX10_dim_13 rfl ⟨rfl, rfl⟩
set_option maxRecDepth 100000 in
set_option maxHeartbeats 4000000 in
theorem s_Wo_weakestInk_L19 {D : Nat} (hD : 0 ≤ D) (N : Nat) {w : Nat} (hk_w : sh_k w = 10) {r : Int32} {μr : MM} : ∀ (n : Nat) (x1 : Int32) (x2 : Int32) (x3 : Int32) (μ : MM), f_Wo_weakestInk_L19 N w n x1 x2 x3 μ = some (r, μr) → Sm D mX10_weakestInk 19 [some (av_r w), some (av_i x1), some (av_i x2), some (av_i x3), none] [] μ (po_i r μr) := by
  intro n
  induction n with
  | zero => intro x1 x2 x3 μ h; cases (show none = some (r, μr) from h)
  | succ n ih =>
    intro x1 x2 x3 μ h
    rw [f_Wo_weakestInk_L19] at h
    refine sm_iload_n dX10_weakestInk_19 rfl rfl ?_
    refine sm_aload_n dX10_weakestInk_20 rfl rfl ?_
    refine sm_getR dX10_weakestInk_21 fg_RX10_18 hk_w (rf_10_0 hk_w) ?_
    refine sm_iload_n dX10_weakestInk_24 rfl rfl ?_
    obtain ⟨g3, h⟩ := gd_some h
    refine sm_iald (j := (Int32.toNatClampNeg x1)) dX10_weakestInk_25 (kk_10_0 hk_w) (in_sz rfl g3) rfl ?_
    refine sm_icmp_ge (tgt := 66) dX10_weakestInk_26 (by decide) (fun g4 => ?_) (fun g4 => ?_)
    · replace h := it_t g4 h
      refine sm_iload_n dX10_weakestInk_66 rfl rfl ?_
      cases h
      exact sm_ret_i (st := []) dX10_weakestInk_67 rfl ⟨rfl, rfl⟩
    · replace h := it_f g4 h
      refine sm_aload_n dX10_weakestInk_29 rfl rfl ?_
      refine sm_getR dX10_weakestInk_30 fg_RX10_30 hk_w (rf_10_3 hk_w) ?_
      refine sm_iload_n dX10_weakestInk_33 rfl rfl ?_
      refine sm_bipush dX10_weakestInk_34 bp_6 ?_
      refine sm_imul dX10_weakestInk_36 ?_
      refine sm_iload_n dX10_weakestInk_37 rfl rfl ?_
      refine sm_iadd dX10_weakestInk_38 ?_
      obtain ⟨g5, h⟩ := gd_some h
      refine sm_iald (j := (Int32.toNatClampNeg ((x1 * 6) + x3))) dX10_weakestInk_39 (kk_10_3 hk_w) (in_sz rfl g5) rfl ?_
      refine sm_istore dX10_weakestInk_40 (Nat.le_of_ble_eq_true rfl) (pv_i rfl) ?_
      refine sm_iload dX10_weakestInk_42 rfl ?_
      refine sm_if_le (tgt := 60) dX10_weakestInk_44 (by decide) (fun g6 => ?_) (fun g6 => ?_)
      · replace h := it_t g6 h
        refine sm_iinc dX10_weakestInk_60 rfl (congrArg (HAdd.hAdd x3) ic_1) (Nat.le_of_ble_eq_true rfl) (pv_i rfl) ?_
        refine sm_goto (tgt := 19) dX10_weakestInk_63 (by decide) ?_
        exact Sm_weak (le_s rfl (le_s rfl (le_s rfl (le_s rfl (le_n le_0))))) (ih x1 x2 (x3 + 1) μ h)
      · replace h := it_f g6 h
        refine sm_iload_n dX10_weakestInk_47 rfl rfl ?_
        refine sm_if_eq (tgt := 57) dX10_weakestInk_48 (by decide) (fun g7 => ?_) (fun g7 => ?_)
        · replace h := it_t g7 h
          refine sm_iload dX10_weakestInk_57 rfl ?_
          refine sm_istore_n dX10_weakestInk_59 rfl (Nat.le_of_ble_eq_true rfl) (pv_i rfl) ?_
          refine sm_iinc dX10_weakestInk_60 rfl (congrArg (HAdd.hAdd x3) ic_1) (Nat.le_of_ble_eq_true rfl) (pv_i rfl) ?_
          refine sm_goto (tgt := 19) dX10_weakestInk_63 (by decide) ?_
          exact Sm_weak (le_s rfl (le_s rfl (le_s rfl (le_s rfl (le_n le_0))))) (ih x1 (μ.1 (w + 4) (Int32.toNatClampNeg ((x1 * 6) + x3))) (x3 + 1) μ h)
        · replace h := it_f g7 h
          refine sm_iload dX10_weakestInk_51 rfl ?_
          refine sm_iload_n dX10_weakestInk_53 rfl rfl ?_
          refine sm_icmp_ge (tgt := 60) dX10_weakestInk_54 (by decide) (fun g8 => ?_) (fun g8 => ?_)
          · replace h := it_t g8 h
            refine sm_iinc dX10_weakestInk_60 rfl (congrArg (HAdd.hAdd x3) ic_1) (Nat.le_of_ble_eq_true rfl) (pv_i rfl) ?_
            refine sm_goto (tgt := 19) dX10_weakestInk_63 (by decide) ?_
            exact Sm_weak (le_s rfl (le_s rfl (le_s rfl (le_s rfl (le_n le_0))))) (ih x1 x2 (x3 + 1) μ h)
          · replace h := it_f g8 h
            refine sm_iload dX10_weakestInk_57 rfl ?_
            refine sm_istore_n dX10_weakestInk_59 rfl (Nat.le_of_ble_eq_true rfl) (pv_i rfl) ?_
            refine sm_iinc dX10_weakestInk_60 rfl (congrArg (HAdd.hAdd x3) ic_1) (Nat.le_of_ble_eq_true rfl) (pv_i rfl) ?_
            refine sm_goto (tgt := 19) dX10_weakestInk_63 (by decide) ?_
            exact Sm_weak (le_s rfl (le_s rfl (le_s rfl (le_s rfl (le_n le_0))))) (ih x1 (μ.1 (w + 4) (Int32.toNatClampNeg ((x1 * 6) + x3))) (x3 + 1) μ h)
set_option maxRecDepth 100000 in
set_option maxHeartbeats 4000000 in
theorem s_Wo_weakestInk {D : Nat} (hD : 0 ≤ D) (N : Nat) {w : Nat} (hk_w : sh_k w = 10) {x1 : Int32} {μ : MM} {r : Int32} {μr : MM} (h : f_Wo_weakestInk N w x1 μ = some (r, μr)) : Cl D mX10_weakestInk [av_r w, av_i x1] μ (po_i r μr) := by
  refine Cl_of pn_X10 (Nat.le_of_ble_eq_true rfl) ?_
  show Sm D mX10_weakestInk 0 [some (av_r w), some (av_i x1), none, none, none] [] μ (po_i r μr)
  unfold f_Wo_weakestInk at h
  refine sm_iload_n dX10_weakestInk_0 rfl rfl ?_
  refine sm_if_lt (tgt := 13) dX10_weakestInk_1 (by decide) (fun g1 => ?_) (fun g1 => ?_)
  · replace h := it_t g1 h
    refine sm_iconst dX10_weakestInk_13 ic_0 ?_
    cases h
    exact sm_ret_i (st := []) dX10_weakestInk_14 rfl ⟨rfl, rfl⟩
  · replace h := it_f g1 h
    refine sm_iload_n dX10_weakestInk_4 rfl rfl ?_
    refine sm_aload_n dX10_weakestInk_5 rfl rfl ?_
    refine sm_getR dX10_weakestInk_6 fg_RX10_18 hk_w (rf_10_0 hk_w) ?_
    refine sm_alen dX10_weakestInk_9 (kk_10_0 hk_w) (by decide) (by decide) ?_
    refine sm_icmp_lt (tgt := 15) dX10_weakestInk_10 (by decide) (fun g2 => ?_) (fun g2 => ?_)
    · replace h := it_t g2 h
      refine sm_iconst dX10_weakestInk_15 ic_0 ?_
      refine sm_istore_n dX10_weakestInk_16 rfl (Nat.le_of_ble_eq_true rfl) (pv_i rfl) ?_
      refine sm_iconst dX10_weakestInk_17 ic_0 ?_
      refine sm_istore_n dX10_weakestInk_18 rfl (Nat.le_of_ble_eq_true rfl) (pv_i rfl) ?_
      exact Sm_weak (le_s rfl (le_s rfl (le_s rfl (le_s rfl (le_n le_0))))) (s_Wo_weakestInk_L19 hD N hk_w N x1 0 0 μ h)
    · replace h := it_f g2 h
      refine sm_iconst dX10_weakestInk_13 ic_0 ?_
      cases h
      exact sm_ret_i (st := []) dX10_weakestInk_14 rfl ⟨rfl, rfl⟩
set_option maxRecDepth 100000 in
set_option maxHeartbeats 4000000 in
theorem s_Ro_feed {D : Nat} (hD : 1 ≤ D) (N : Nat) {x1 : Int32} {x2 : Int32} {x3 : Int32} {x4 : Int32} {x5 : Int32} {μ : MM} {r : Int32} {μr : MM} (h : f_Ro_feed N x1 x2 x3 x4 x5 μ = some (r, μr)) : Cl D mX11_feed [av_r 0, av_i x1, av_i x2, av_i x3, av_i x4, av_i x5] μ (po_i r μr) := by
  obtain ⟨d, rfl⟩ : ∃ d, D = d + 1 := ⟨D - 1, by omega⟩
  refine Cl_of pn_X11 (Nat.le_of_ble_eq_true rfl) ?_
  show Sm (d + 1) mX11_feed 0 [some (av_r 0), some (av_i x1), some (av_i x2), some (av_i x3), some (av_i x4), some (av_i x5), none] [] μ (po_i r μr)
  unfold f_Ro_feed at h
  refine sm_aload_n dX11_feed_0 rfl rfl ?_
  refine sm_getR dX11_feed_1 fg_RX11_10 k_0 (rf_11_0 k_0) ?_
  refine sm_iload_n dX11_feed_4 rfl rfl ?_
  obtain ⟨t5, μ1z, g1, h⟩ := ob_some h
  refine sm_callV dX11_feed_5 cv_X8_solidBytes ml_RX11_117 k_1 rfl rfl (by decide) (as := [av_i x1]) rfl (Nat.le_of_ble_eq_true rfl) rfl (s_Ta_solidBytes (D := d) (by omega) N g1) (fun r9 μ9 hp => ?_)
  rw [hp.1, hp.2]
  clear hp r9 μ9
  refine sm_aload_n dX11_feed_8 rfl rfl ?_
  refine sm_getR dX11_feed_9 fg_RX11_10 k_0 (rf_11_0 k_0) ?_
  refine sm_iload_n dX11_feed_12 rfl rfl ?_
  obtain ⟨t13, μ2z, g2, h⟩ := ob_some h
  refine sm_callV dX11_feed_13 cv_X8_solidBytes ml_RX11_117 k_1 rfl rfl (by decide) (as := [av_i x2]) rfl (Nat.le_of_ble_eq_true rfl) rfl (s_Ta_solidBytes (D := d) (by omega) N g2) (fun r9 μ9 hp => ?_)
  rw [hp.1, hp.2]
  clear hp r9 μ9
  refine sm_iadd dX11_feed_16 ?_
  refine sm_aload_n dX11_feed_17 rfl rfl ?_
  refine sm_getR dX11_feed_18 fg_RX11_10 k_0 (rf_11_0 k_0) ?_
  refine sm_iload_n dX11_feed_21 rfl rfl ?_
  obtain ⟨t22, μ3z, g3, h⟩ := ob_some h
  refine sm_callV dX11_feed_22 cv_X8_solidBytes ml_RX11_117 k_1 rfl rfl (by decide) (as := [av_i x3]) rfl (Nat.le_of_ble_eq_true rfl) rfl (s_Ta_solidBytes (D := d) (by omega) N g3) (fun r9 μ9 hp => ?_)
  rw [hp.1, hp.2]
  clear hp r9 μ9
  refine sm_iadd dX11_feed_25 ?_
  refine sm_aload_n dX11_feed_26 rfl rfl ?_
  refine sm_getR dX11_feed_27 fg_RX11_10 k_0 (rf_11_0 k_0) ?_
  refine sm_iload dX11_feed_30 rfl ?_
  obtain ⟨t32, μ4z, g4, h⟩ := ob_some h
  refine sm_callV dX11_feed_32 cv_X8_solidBytes ml_RX11_117 k_1 rfl rfl (by decide) (as := [av_i x4]) rfl (Nat.le_of_ble_eq_true rfl) rfl (s_Ta_solidBytes (D := d) (by omega) N g4) (fun r9 μ9 hp => ?_)
  rw [hp.1, hp.2]
  clear hp r9 μ9
  refine sm_iadd dX11_feed_35 ?_
  refine sm_aload_n dX11_feed_36 rfl rfl ?_
  refine sm_getR dX11_feed_37 fg_RX11_10 k_0 (rf_11_0 k_0) ?_
  refine sm_iload dX11_feed_40 rfl ?_
  obtain ⟨t42, μ5z, g5, h⟩ := ob_some h
  refine sm_callV dX11_feed_42 cv_X8_solidBytes ml_RX11_117 k_1 rfl rfl (by decide) (as := [av_i x5]) rfl (Nat.le_of_ble_eq_true rfl) rfl (s_Ta_solidBytes (D := d) (by omega) N g5) (fun r9 μ9 hp => ?_)
  rw [hp.1, hp.2]
  clear hp r9 μ9
  refine sm_iadd dX11_feed_45 ?_
  refine sm_istore dX11_feed_46 (Nat.le_of_ble_eq_true rfl) (pv_i rfl) ?_
  refine sm_aload_n dX11_feed_48 rfl rfl ?_
  refine sm_getR dX11_feed_49 fg_RX11_10 k_0 (rf_11_0 k_0) ?_
  refine sm_getI dX11_feed_52 fg_RX11_121 k_1 ?_
  refine sm_iload dX11_feed_55 rfl ?_
  refine sm_iadd dX11_feed_57 ?_
  refine sm_sipush dX11_feed_58 sp_240 ?_
  refine sm_icmp_le (tgt := 66) dX11_feed_61 (by decide) (fun g6 => ?_) (fun g6 => ?_)
  · replace h := it_t g6 h
    refine sm_aload_n dX11_feed_66 rfl rfl ?_
    refine sm_getR dX11_feed_67 fg_RX11_10 k_0 (rf_11_0 k_0) ?_
    refine sm_iload_n dX11_feed_70 rfl rfl ?_
    obtain ⟨μ6z, g7, h⟩ := obv_some h
    refine sm_callV dX11_feed_71 cv_X8_append ml_RX11_124 k_1 rfl rfl (by decide) (as := [av_i x1]) rfl (Nat.le_of_ble_eq_true rfl) rfl (s_Ta_append (D := d) (by omega) N g7) (fun r9 μ9 hp => ?_)
    rw [hp.1, hp.2]
    clear hp r9 μ9
    refine sm_aload_n dX11_feed_74 rfl rfl ?_
    refine sm_getR dX11_feed_75 fg_RX11_10 k_0 (rf_11_0 k_0) ?_
    refine sm_iload_n dX11_feed_78 rfl rfl ?_
    obtain ⟨μ7z, g8, h⟩ := obv_some h
    refine sm_callV dX11_feed_79 cv_X8_append ml_RX11_124 k_1 rfl rfl (by decide) (as := [av_i x2]) rfl (Nat.le_of_ble_eq_true rfl) rfl (s_Ta_append (D := d) (by omega) N g8) (fun r9 μ9 hp => ?_)
    rw [hp.1, hp.2]
    clear hp r9 μ9
    refine sm_aload_n dX11_feed_82 rfl rfl ?_
    refine sm_getR dX11_feed_83 fg_RX11_10 k_0 (rf_11_0 k_0) ?_
    refine sm_iload_n dX11_feed_86 rfl rfl ?_
    obtain ⟨μ8z, g9, h⟩ := obv_some h
    refine sm_callV dX11_feed_87 cv_X8_append ml_RX11_124 k_1 rfl rfl (by decide) (as := [av_i x3]) rfl (Nat.le_of_ble_eq_true rfl) rfl (s_Ta_append (D := d) (by omega) N g9) (fun r9 μ9 hp => ?_)
    rw [hp.1, hp.2]
    clear hp r9 μ9
    refine sm_aload_n dX11_feed_90 rfl rfl ?_
    refine sm_getR dX11_feed_91 fg_RX11_10 k_0 (rf_11_0 k_0) ?_
    refine sm_iload dX11_feed_94 rfl ?_
    obtain ⟨μ9z, g10, h⟩ := obv_some h
    refine sm_callV dX11_feed_96 cv_X8_append ml_RX11_124 k_1 rfl rfl (by decide) (as := [av_i x4]) rfl (Nat.le_of_ble_eq_true rfl) rfl (s_Ta_append (D := d) (by omega) N g10) (fun r9 μ9 hp => ?_)
    rw [hp.1, hp.2]
    clear hp r9 μ9
    refine sm_aload_n dX11_feed_99 rfl rfl ?_
    refine sm_getR dX11_feed_100 fg_RX11_10 k_0 (rf_11_0 k_0) ?_
    refine sm_iload dX11_feed_103 rfl ?_
    obtain ⟨μ10z, g11, h⟩ := obv_some h
    refine sm_callV dX11_feed_105 cv_X8_append ml_RX11_124 k_1 rfl rfl (by decide) (as := [av_i x5]) rfl (Nat.le_of_ble_eq_true rfl) rfl (s_Ta_append (D := d) (by omega) N g11) (fun r9 μ9 hp => ?_)
    rw [hp.1, hp.2]
    clear hp r9 μ9
    refine sm_aload_n dX11_feed_108 rfl rfl ?_
    refine sm_getR dX11_feed_109 fg_RX11_10 k_0 (rf_11_0 k_0) ?_
    refine sm_getI dX11_feed_112 fg_RX11_121 k_1 ?_
    cases h
    exact sm_ret_i (st := []) dX11_feed_115 rfl ⟨rfl, rfl⟩
  · replace h := it_f g6 h
    refine sm_iconst dX11_feed_64 ic_m1 ?_
    cases h
    exact sm_ret_i (st := []) dX11_feed_65 rfl ⟨rfl, rfl⟩
set_option maxRecDepth 100000 in
set_option maxHeartbeats 4000000 in
theorem s_Ro_end {D : Nat} (hD : 0 ≤ D) (N : Nat) {x1 : Int32} {μ : MM} {r : Int32} {μr : MM} (h : f_Ro_end N x1 μ = some (r, μr)) : Cl D mX11_end [av_r 0, av_i x1] μ (po_i r μr) := by
  refine Cl_of pn_X11 (Nat.le_of_ble_eq_true rfl) ?_
  show Sm D mX11_end 0 [some (av_r 0), some (av_i x1)] [] μ (po_i r μr)
  unfold f_Ro_end at h
  refine sm_iload_n dX11_end_0 rfl rfl ?_
  refine sm_if_lt (tgt := 15) dX11_end_1 (by decide) (fun g1 => ?_) (fun g1 => ?_)
  · replace h := it_t g1 h
    refine sm_iconst dX11_end_15 ic_0 ?_
    cases h
    exact sm_ret_z (st := []) dX11_end_16 rfl rfl ⟨rfl, rfl⟩
  · replace h := it_f g1 h
    refine sm_iload_n dX11_end_4 rfl rfl ?_
    refine sm_aload_n dX11_end_5 rfl rfl ?_
    refine sm_getR dX11_end_6 fg_RX11_10 k_0 (rf_11_0 k_0) ?_
    refine sm_getI dX11_end_9 fg_RX11_121 k_1 ?_
    refine sm_icmp_le (tgt := 17) dX11_end_12 (by decide) (fun g2 => ?_) (fun g2 => ?_)
    · replace h := it_t g2 h
      refine sm_aload_n dX11_end_17 rfl rfl ?_
      refine sm_getR dX11_end_18 fg_RX11_10 k_0 (rf_11_0 k_0) ?_
      refine sm_iload_n dX11_end_21 rfl rfl ?_
      refine sm_putI dX11_end_22 fp_RX11_121 k_1 ?_
      replace h := wr_some h
      refine sm_iconst dX11_end_25 ic_1 ?_
      cases h
      exact sm_ret_z (st := []) dX11_end_26 rfl rfl ⟨rfl, rfl⟩
    · replace h := it_f g2 h
      refine sm_iconst dX11_end_15 ic_0 ?_
      cases h
      exact sm_ret_z (st := []) dX11_end_16 rfl rfl ⟨rfl, rfl⟩
set_option maxRecDepth 100000 in
set_option maxHeartbeats 4000000 in
theorem s_Ro_fault_B49 {D : Nat} (hD : 89 ≤ D) (N : Nat) {r : Int32} {μr : MM} (s0 : Int32) (μ : MM) (h : f_Ro_fault_B49 N s0 μ = some (r, μr)) : Sm D mX11_fault 49 [some (av_r 0), none, none] [av_i s0] μ (po_i r μr) := by
  obtain ⟨d, rfl⟩ : ∃ d, D = d + 1 := ⟨D - 1, by omega⟩
  unfold f_Ro_fault_B49 at h
  refine sm_istore_n dX11_fault_49 rfl (Nat.le_of_ble_eq_true rfl) (pv_n rfl) ?_
  refine sm_iload_n dX11_fault_50 rfl rfl ?_
  have hj51 : ∀ (v51_0 : Int32), v51_0 = (if s0 = 0 then (μ.1 1 2) else (-1)) → Sm (d + 1) mX11_fault 65 [none, none, none] [av_i v51_0] μ (po_i r μr) := by
    intro v51_0 ev51_0
    subst ev51_0
    cases h
    exact sm_ret_i (st := []) dX11_fault_65 rfl ⟨rfl, rfl⟩
  refine sm_if_eq (tgt := 58) dX11_fault_51 (by decide) (fun c51_0 => ?_) (fun c51_0 => ?_)
  · refine sm_aload_n dX11_fault_58 rfl rfl ?_
    refine sm_getR dX11_fault_59 fg_RX11_10 k_0 (rf_11_0 k_0) ?_
    refine sm_getI dX11_fault_62 fg_RX11_137 k_1 ?_
    exact Sm_weak (le_n (le_n (le_n le_0))) (hj51 _ (if_pos c51_0).symm)
  · refine sm_iconst dX11_fault_54 ic_m1 ?_
    refine sm_goto (tgt := 65) dX11_fault_55 (by decide) ?_
    exact Sm_weak (le_n (le_n (le_n le_0))) (hj51 _ (if_neg c51_0).symm)
set_option maxRecDepth 100000 in
set_option maxHeartbeats 4000000 in
theorem s_Ro_fault {D : Nat} (hD : 89 ≤ D) (N : Nat) {x1 : Int32} {μ : MM} {r : Int32} {μr : MM} (h : f_Ro_fault N x1 μ = some (r, μr)) : Cl D mX11_fault [av_r 0, av_i x1] μ (po_i r μr) := by
  obtain ⟨d, rfl⟩ : ∃ d, D = d + 1 := ⟨D - 1, by omega⟩
  refine Cl_of pn_X11 (Nat.le_of_ble_eq_true rfl) ?_
  show Sm (d + 1) mX11_fault 0 [some (av_r 0), some (av_i x1), none] [] μ (po_i r μr)
  unfold f_Ro_fault at h
  refine sm_iload_n dX11_fault_0 rfl rfl ?_
  refine sm_if_lt (tgt := 9) dX11_fault_1 (by decide) (fun g1 => ?_) (fun g1 => ?_)
  · replace h := it_t g1 h
    refine sm_bipush dX11_fault_9 bp_m2 ?_
    cases h
    exact sm_ret_i (st := []) dX11_fault_11 rfl ⟨rfl, rfl⟩
  · replace h := it_f g1 h
    refine sm_iload_n dX11_fault_4 rfl rfl ?_
    refine sm_iconst dX11_fault_5 ic_2 ?_
    refine sm_icmp_le (tgt := 12) dX11_fault_6 (by decide) (fun g2 => ?_) (fun g2 => ?_)
    · replace h := it_t g2 h
      refine sm_iload_n dX11_fault_12 rfl rfl ?_
      refine sm_iconst dX11_fault_13 ic_1 ?_
      refine sm_icmp_ne (tgt := 27) dX11_fault_14 (by decide) (fun g3 => ?_) (fun g3 => ?_)
      · replace h := it_f g3 h
        refine sm_iload_n dX11_fault_27 rfl rfl ?_
        refine sm_iconst dX11_fault_28 ic_2 ?_
        refine sm_icmp_ne (tgt := 42) dX11_fault_29 (by decide) (fun g4 => ?_) (fun g4 => ?_)
        · replace h := it_f g4 h
          refine sm_aload_n dX11_fault_42 rfl rfl ?_
          refine sm_getR dX11_fault_43 fg_RX11_21 k_0 (rf_11_1 k_0) ?_
          obtain ⟨t46, μ1z, g5, h⟩ := ob_some h
          refine sm_callV dX11_fault_46 cv_X9_readCollection ml_RX11_134 k_3 rfl rfl (by decide) (as := []) rfl (Nat.le_of_ble_eq_true rfl) rfl (s_Tr_readCollection (D := d) (by omega) N g5) (fun r9 μ9 hp => ?_)
          rw [hp.1, hp.2]
          clear hp r9 μ9
          exact Sm_weak (le_s rfl (le_n (le_n le_0))) (s_Ro_fault_B49 hD N t46 μ1z h)
        · replace h := it_t g4 h
          refine sm_aload_n dX11_fault_32 rfl rfl ?_
          refine sm_getR dX11_fault_33 fg_RX11_21 k_0 (rf_11_1 k_0) ?_
          obtain ⟨t36, μ2z, g6, h⟩ := ob_some h
          refine sm_callV dX11_fault_36 cv_X9_readReading ml_RX11_131 k_3 rfl rfl (by decide) (as := []) rfl (Nat.le_of_ble_eq_true rfl) rfl (s_Tr_readReading (D := d) (by omega) N g6) (fun r9 μ9 hp => ?_)
          rw [hp.1, hp.2]
          clear hp r9 μ9
          refine sm_goto (tgt := 49) dX11_fault_39 (by decide) ?_
          exact Sm_weak (le_s rfl (le_n (le_n le_0))) (s_Ro_fault_B49 hD N t36 μ2z h)
      · replace h := it_t g3 h
        refine sm_aload_n dX11_fault_17 rfl rfl ?_
        refine sm_getR dX11_fault_18 fg_RX11_28 k_0 (rf_11_2 k_0) ?_
        obtain ⟨t21, μ3z, g7, h⟩ := ob_some h
        refine sm_callV dX11_fault_21 cv_X4_readLaw ml_RX11_127 k_21 rfl rfl (by decide) (as := []) rfl (Nat.le_of_ble_eq_true rfl) rfl (s_Lr_readLaw (D := d) (by omega) N g7) (fun r9 μ9 hp => ?_)
        rw [hp.1, hp.2]
        clear hp r9 μ9
        refine sm_goto (tgt := 49) dX11_fault_24 (by decide) ?_
        exact Sm_weak (le_s rfl (le_n (le_n le_0))) (s_Ro_fault_B49 hD N t21 μ3z h)
    · replace h := it_f g2 h
      refine sm_bipush dX11_fault_9 bp_m2 ?_
      cases h
      exact sm_ret_i (st := []) dX11_fault_11 rfl ⟨rfl, rfl⟩
set_option maxRecDepth 100000 in
set_option maxHeartbeats 4000000 in
theorem s_Ro_isFull {D : Nat} (hD : 0 ≤ D) (N : Nat) {x1 : Int32} {μ : MM} {r : Int32} {μr : MM} (h : f_Ro_isFull N x1 μ = some (r, μr)) : Cl D mX11_isFull [av_r 0, av_i x1] μ (po_i r μr) := by
  refine Cl_of pn_X11 (Nat.le_of_ble_eq_true rfl) ?_
  show Sm D mX11_isFull 0 [some (av_r 0), some (av_i x1)] [] μ (po_i r μr)
  unfold f_Ro_isFull at h
  refine sm_iload_n dX11_isFull_0 rfl rfl ?_
  refine sm_iconst dX11_isFull_1 ic_1 ?_
  refine sm_icmp_ne (tgt := 22) dX11_isFull_2 (by decide) (fun g1 => ?_) (fun g1 => ?_)
  · replace h := it_f g1 h
    refine sm_iload_n dX11_isFull_22 rfl rfl ?_
    refine sm_iconst dX11_isFull_23 ic_2 ?_
    refine sm_icmp_ne (tgt := 39) dX11_isFull_24 (by decide) (fun g2 => ?_) (fun g2 => ?_)
    · replace h := it_f g2 h
      refine sm_iconst dX11_isFull_39 ic_0 ?_
      cases h
      exact sm_ret_z (st := []) dX11_isFull_40 rfl rfl ⟨rfl, rfl⟩
    · replace h := it_t g2 h
      refine sm_aload_n dX11_isFull_27 rfl rfl ?_
      refine sm_getI dX11_isFull_28 fg_RX11_55 k_0 ?_
      refine sm_iconst dX11_isFull_31 ic_4 ?_
      refine sm_icmp_lt (tgt := 39) dX11_isFull_32 (by decide) (fun g3 => ?_) (fun g3 => ?_)
      · replace h := it_t g3 h
        refine sm_iconst dX11_isFull_39 ic_0 ?_
        cases h
        exact sm_ret_z (st := []) dX11_isFull_40 rfl rfl ⟨rfl, rfl⟩
      · replace h := it_f g3 h
        refine sm_iconst dX11_isFull_35 ic_1 ?_
        refine sm_goto (tgt := 40) dX11_isFull_36 (by decide) ?_
        cases h
        exact sm_ret_z (st := []) dX11_isFull_40 rfl rfl ⟨rfl, rfl⟩
  · replace h := it_t g1 h
    refine sm_aload_n dX11_isFull_5 rfl rfl ?_
    refine sm_getR dX11_isFull_6 fg_RX11_42 k_0 (rf_11_4 k_0) ?_
    refine sm_getI dX11_isFull_9 fg_RX11_177 k_34 ?_
    refine sm_iconst dX11_isFull_12 ic_4 ?_
    have hj13 : ∀ (v13_0 : Int32), v13_0 = (if (μ.1 34 0) < 4 then (0 : Int32) else 1) → Sm D mX11_isFull 21 [none, none] [av_i v13_0] μ (po_i r μr) := by
      intro v13_0 ev13_0
      subst ev13_0
      obtain ⟨g4, h⟩ := gd_some h
      cases h
      exact sm_ret_z (st := []) dX11_isFull_21 rfl (zb_nar g4) ⟨rfl, rfl⟩
    refine sm_icmp_lt (tgt := 20) dX11_isFull_13 (by decide) (fun c13_0 => ?_) (fun c13_0 => ?_)
    · refine sm_iconst dX11_isFull_20 ic_0 ?_
      exact Sm_weak (le_n (le_n le_0)) (hj13 _ (if_pos c13_0).symm)
    · refine sm_iconst dX11_isFull_16 ic_1 ?_
      refine sm_goto (tgt := 21) dX11_isFull_17 (by decide) ?_
      exact Sm_weak (le_n (le_n le_0)) (hj13 _ (if_neg c13_0).symm)
set_option maxRecDepth 100000 in
set_option maxHeartbeats 4000000 in
theorem s_Ro_text {D : Nat} (hD : 90 ≤ D) (N : Nat) {x1 : Int32} {μ : MM} {r : Int32} {μr : MM} (h : f_Ro_text N x1 μ = some (r, μr)) : Cl D mX11_text [av_r 0, av_i x1] μ (po_i r μr) := by
  obtain ⟨d, rfl⟩ : ∃ d, D = d + 1 := ⟨D - 1, by omega⟩
  refine Cl_of pn_X11 (Nat.le_of_ble_eq_true rfl) ?_
  show Sm (d + 1) mX11_text 0 [some (av_r 0), some (av_i x1)] [] μ (po_i r μr)
  unfold f_Ro_text at h
  refine sm_aload_n dX11_text_0 rfl rfl ?_
  refine sm_iload_n dX11_text_1 rfl rfl ?_
  obtain ⟨t2, μ1z, g1, h⟩ := ob_some h
  refine sm_callV dX11_text_2 cv_X11_isFull ml_RX11_140 k_0 rfl rfl (by decide) (as := [av_i x1]) rfl (Nat.le_of_ble_eq_true rfl) rfl (s_Ro_isFull (D := d) (by omega) N g1) (fun r9 μ9 hp => ?_)
  rw [hp.1, hp.2]
  clear hp r9 μ9
  refine sm_if_ne (tgt := 17) dX11_text_5 (by decide) (fun g2 => ?_) (fun g2 => ?_)
  · replace h := it_f g2 h
    refine sm_iconst dX11_text_17 ic_m1 ?_
    cases h
    exact sm_ret_i (st := []) dX11_text_18 rfl ⟨rfl, rfl⟩
  · replace h := it_t g2 h
    refine sm_aload_n dX11_text_8 rfl rfl ?_
    refine sm_iload_n dX11_text_9 rfl rfl ?_
    obtain ⟨t10, μ2z, g3, h⟩ := ob_some h
    refine sm_callV dX11_text_10 cv_X11_fault ml_RX11_144 k_0 rfl rfl (by decide) (as := [av_i x1]) rfl (Nat.le_of_ble_eq_true rfl) rfl (s_Ro_fault (D := d) (by omega) N g3) (fun r9 μ9 hp => ?_)
    rw [hp.1, hp.2]
    clear hp r9 μ9
    refine sm_iconst dX11_text_13 ic_m1 ?_
    refine sm_icmp_eq (tgt := 19) dX11_text_14 (by decide) (fun g4 => ?_) (fun g4 => ?_)
    · replace h := it_t g4 h
      refine sm_aload_n dX11_text_19 rfl rfl ?_
      refine sm_getR dX11_text_20 fg_RX11_10 k_0 (rf_11_0 k_0) ?_
      refine sm_iconst dX11_text_23 ic_0 ?_
      refine sm_putI dX11_text_24 fp_RX11_121 k_1 ?_
      replace h := wr_some h
      refine sm_iload_n dX11_text_27 rfl rfl ?_
      refine sm_iconst dX11_text_28 ic_1 ?_
      refine sm_icmp_ne (tgt := 54) dX11_text_29 (by decide) (fun g5 => ?_) (fun g5 => ?_)
      · replace h := it_f g5 h
        refine sm_iload_n dX11_text_54 rfl rfl ?_
        refine sm_iconst dX11_text_55 ic_2 ?_
        refine sm_icmp_ne (tgt := 95) dX11_text_56 (by decide) (fun g6 => ?_) (fun g6 => ?_)
        · replace h := it_f g6 h
          refine sm_aload_n dX11_text_95 rfl rfl ?_
          refine sm_getR dX11_text_96 fg_RX11_35 k_0 (rf_11_3 k_0) ?_
          refine sm_aload_n dX11_text_99 rfl rfl ?_
          refine sm_getR dX11_text_100 fg_RX11_21 k_0 (rf_11_1 k_0) ?_
          refine sm_getR dX11_text_103 fg_RX11_164 k_3 (rf_9_1 k_3) ?_
          obtain ⟨μ4z, g7, h⟩ := obv_some h
          refine sm_callV dX11_text_106 cv_X1_takeAll ml_RX11_167 k_23 rfl rfl (by decide) (as := [av_r 4]) rfl (Nat.le_of_ble_eq_true rfl) rfl (s_Co_takeAll (D := d) (by omega) N k_23 k_4 g7) (fun r9 μ9 hp => ?_)
          rw [hp.1, hp.2]
          clear hp r9 μ9
          refine sm_aload_n dX11_text_109 rfl rfl ?_
          refine sm_getR dX11_text_110 fg_RX11_71 k_0 (rf_11_8 k_0) ?_
          obtain ⟨μ5z, g8, h⟩ := obv_some h
          refine sm_callV dX11_text_113 cv_X3_forget ml_RX11_170 k_51 rfl rfl (by decide) (as := []) rfl (Nat.le_of_ble_eq_true rfl) rfl (s_Hi_forget (D := d) (by omega) N g8) (fun r9 μ9 hp => ?_)
          rw [hp.1, hp.2]
          clear hp r9 μ9
          refine sm_aload_n dX11_text_116 rfl rfl ?_
          refine sm_getR dX11_text_117 fg_RX11_87 k_0 (rf_11_10 k_0) ?_
          obtain ⟨μ6z, g9, h⟩ := obv_some h
          refine sm_callV dX11_text_120 cv_X2_forget ml_RX11_173 k_341 rfl rfl (by decide) (as := []) rfl (Nat.le_of_ble_eq_true rfl) rfl (s_Gu_forget (D := d) (by omega) N g9) (fun r9 μ9 hp => ?_)
          rw [hp.1, hp.2]
          clear hp r9 μ9
          refine sm_aload_n dX11_text_123 rfl rfl ?_
          refine sm_iconst dX11_text_124 ic_0 ?_
          refine sm_putZ dX11_text_125 fp_RX11_106 k_0 (Or.inl rfl) ?_
          replace h := wr_some h
          refine sm_aload_n dX11_text_128 rfl rfl ?_
          refine sm_getR dX11_text_129 fg_RX11_35 k_0 (rf_11_3 k_0) ?_
          refine sm_getI dX11_text_132 fg_RX11_174 k_23 ?_
          cases h
          exact sm_ret_i (st := []) dX11_text_135 rfl ⟨rfl, rfl⟩
        · replace h := it_t g6 h
          refine sm_aload_n dX11_text_59 rfl rfl ?_
          refine sm_getR dX11_text_60 fg_RX11_51 k_0 (rf_11_5 k_0) ?_
          refine sm_aload_n dX11_text_63 rfl rfl ?_
          refine sm_getI dX11_text_64 fg_RX11_55 k_0 ?_
          refine sm_aload_n dX11_text_67 rfl rfl ?_
          refine sm_getR dX11_text_68 fg_RX11_21 k_0 (rf_11_1 k_0) ?_
          refine sm_getR dX11_text_71 fg_RX11_157 k_3 (rf_9_2 k_3) ?_
          refine sm_iconst dX11_text_74 ic_0 ?_
          obtain ⟨μ8z, g10, h⟩ := obv_some h
          refine sm_callV dX11_text_75 cv_X10_takeRow ml_RX11_160 k_43 rfl rfl (by decide) (as := [av_i ((mm_I μ2z 1 1 0).1 0 6), av_r 15, av_i 0]) rfl (Nat.le_of_ble_eq_true rfl) rfl (s_Wo_takeRow (D := d) (by omega) N k_43 k_15 g10) (fun r9 μ9 hp => ?_)
          rw [hp.1, hp.2]
          clear hp r9 μ9
          refine sm_aload_n dX11_text_78 rfl rfl ?_
          refine sm_dup dX11_text_79 rfl ?_
          refine sm_getI dX11_text_80 fg_RX11_55 k_0 ?_
          refine sm_iconst dX11_text_83 ic_1 ?_
          refine sm_iadd dX11_text_84 ?_
          refine sm_putI dX11_text_85 fp_RX11_55 k_0 ?_
          replace h := wr_some h
          refine sm_aload_n dX11_text_88 rfl rfl ?_
          refine sm_getI dX11_text_89 fg_RX11_55 k_0 ?_
          refine sm_iconst dX11_text_92 ic_1 ?_
          refine sm_isub dX11_text_93 ?_
          cases h
          exact sm_ret_i (st := []) dX11_text_94 rfl ⟨rfl, rfl⟩
      · replace h := it_t g5 h
        refine sm_aload_n dX11_text_32 rfl rfl ?_
        refine sm_getR dX11_text_33 fg_RX11_42 k_0 (rf_11_4 k_0) ?_
        refine sm_aload_n dX11_text_36 rfl rfl ?_
        refine sm_getR dX11_text_37 fg_RX11_28 k_0 (rf_11_2 k_0) ?_
        refine sm_getR dX11_text_40 fg_RX11_147 k_21 (rf_4_1 k_21) ?_
        refine sm_aload_n dX11_text_43 rfl rfl ?_
        refine sm_getR dX11_text_44 fg_RX11_28 k_0 (rf_11_2 k_0) ?_
        refine sm_getI dX11_text_47 fg_RX11_150 k_21 ?_
        obtain ⟨t50, μ10z, g11, h⟩ := ob_some h
        refine sm_callV dX11_text_50 cv_X5_keepNext ml_RX11_153 k_34 rfl rfl (by decide) (as := [av_r 22, av_i ((mm_I μ2z 1 1 0).1 21 2)]) rfl (Nat.le_of_ble_eq_true rfl) rfl (s_La_keepNext (D := d) (by omega) N k_22 g11) (fun r9 μ9 hp => ?_)
        rw [hp.1, hp.2]
        clear hp r9 μ9
        cases h
        exact sm_ret_i (st := []) dX11_text_53 rfl ⟨rfl, rfl⟩
    · replace h := it_f g4 h
      refine sm_iconst dX11_text_17 ic_m1 ?_
      cases h
      exact sm_ret_i (st := []) dX11_text_18 rfl ⟨rfl, rfl⟩
