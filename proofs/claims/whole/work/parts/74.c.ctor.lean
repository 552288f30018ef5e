set_option maxRecDepth 100000 in
set_option maxHeartbeats 4000000 in
theorem kc_Wo_6 {w : Nat} {d : Nat} {μ : MM} {ρ : RR} (hd9 : 2 ≤ d) (hk : sh_k w = 10) (h1 : sh_n (w + 1) = 6) (h2 : sh_n (w + 2) = 36) (h3 : sh_n (w + 3) = 36) (h4 : sh_n (w + 4) = 36) (Z : ∀ b, w ≤ b → zq_z μ ρ b) (hr : rq_ok (w + 1) ρ) : Ck d mX10_init [av_r w, av_i 6] (w + 1) μ ρ (w + 5) μ (fl_r ρ w (w + 5)) := by
  obtain ⟨d, rfl⟩ : ∃ e, d = e + 1 := ⟨d - 1, by omega⟩
  have hw9 : w + 5 ≤ 355 := wk_10 hk
  refine Ck_of pn_X10 (Nat.le_of_ble_eq_true rfl) (by omega) (by omega) hr ?_
  show Sk (d + 1) mX10_init (w + 1) (w + 5) μ (fl_r ρ w (w + 5)) 0 [some (av_r w), some (av_i 6), none] [] (w + 1) μ ρ
  refine sk_aload_n dX10_init_0 rfl rfl ?_
  refine sk_obj dX10_init_1 kl_RX10_3 (Nat.le_of_ble_eq_true rfl) (by omega) ?_
  refine sk_iconst dX10_init_4 kic_1 ?_
  refine sk_bipush dX10_init_5 kbp_6 ?_
  refine sk_iload_n dX10_init_7 rfl rfl ?_
  refine sk_min dX10_init_8 kl_RX10_9 (Nat.le_of_ble_eq_true rfl) (by omega) ?_
  refine sk_max dX10_init_11 kl_RX10_15 (Nat.le_of_ble_eq_true rfl) (by omega) ?_
  refine sk_istore_n dX10_init_14 rfl (Nat.le_of_ble_eq_true rfl) (pv_i rfl) ?_
  refine sk_aload_n dX10_init_15 rfl rfl ?_
  refine sk_iload_n dX10_init_16 rfl rfl ?_
  refine sk_newaI dX10_init_17 ac_int (kk_10_0 hk) (by decide) (by rw [h1]; decide) (by rw [h1]; decide) (by omega) (Z (w + 1) (by omega)) (vl_s (vo_r (by omega)) (vl_s vo_i (vl_s vo_i vl_0))) (vs_s (vo_r (by omega)) vs_0) ?_
  refine sk_putF dX10_init_19 fk_RX10_18 (by decide) rfl (by decide) (fun q => ⟨rfl, rfl⟩) (fun q hq => by cases hq; exact ⟨rfl, rfl⟩) hk (by omega) (Or.inl (by omega)) rfl ?_
  refine sk_aload_n dX10_init_22 rfl rfl ?_
  refine sk_iload_n dX10_init_23 rfl rfl ?_
  refine sk_bipush dX10_init_24 kbp_6 ?_
  refine sk_imul dX10_init_26 ?_
  refine sk_newaI dX10_init_27 ac_int (kk_10_1 hk) (by decide) (by rw [h2]; decide) (by rw [h2]; decide) (by omega) (zq_p (Z (w + 2) (by omega)) (by omega)) (vl_s (vo_r (by omega)) (vl_s vo_i (vl_s vo_i vl_0))) (vs_s (vo_r (by omega)) vs_0) ?_
  refine sk_putF dX10_init_29 fk_RX10_24 (by decide) rfl (by decide) (fun q => ⟨rfl, rfl⟩) (fun q hq => by cases hq; exact ⟨rfl, rfl⟩) hk (by omega) (Or.inl (by omega)) rfl ?_
  refine sk_aload_n dX10_init_32 rfl rfl ?_
  refine sk_iload_n dX10_init_33 rfl rfl ?_
  refine sk_bipush dX10_init_34 kbp_6 ?_
  refine sk_imul dX10_init_36 ?_
  refine sk_newaI dX10_init_37 ac_int (kk_10_2 hk) (by decide) (by rw [h3]; decide) (by rw [h3]; decide) (by omega) (zq_p (zq_p (Z (w + 3) (by omega)) (by omega)) (by omega)) (vl_s (vo_r (by omega)) (vl_s vo_i (vl_s vo_i vl_0))) (vs_s (vo_r (by omega)) vs_0) ?_
  refine sk_putF dX10_init_39 fk_RX10_27 (by decide) rfl (by decide) (fun q => ⟨rfl, rfl⟩) (fun q hq => by cases hq; exact ⟨rfl, rfl⟩) hk (by omega) (Or.inl (by omega)) rfl ?_
  refine sk_aload_n dX10_init_42 rfl rfl ?_
  refine sk_iload_n dX10_init_43 rfl rfl ?_
  refine sk_bipush dX10_init_44 kbp_6 ?_
  refine sk_imul dX10_init_46 ?_
  refine sk_newaI dX10_init_47 ac_int (kk_10_3 hk) (by decide) (by rw [h4]; decide) (by rw [h4]; decide) (by omega) (zq_p (zq_p (zq_p (Z (w + 4) (by omega)) (by omega)) (by omega)) (by omega)) (vl_s (vo_r (by omega)) (vl_s vo_i (vl_s vo_i vl_0))) (vs_s (vo_r (by omega)) vs_0) ?_
  refine sk_putF dX10_init_49 fk_RX10_30 (by decide) rfl (by decide) (fun q => ⟨rfl, rfl⟩) (fun q hq => by cases hq; exact ⟨rfl, rfl⟩) hk (by omega) (Or.inl (by omega)) rfl ?_
  refine sk_ret (st := []) dX10_init_52 rfl rfl ?_
  refine cq_fin (base := w) (fun x k hx => ?_) (fun x k hx1 hx2 hr9 => ?_) (fun x k hx1 hx2 h24 hr9 => ?_) (hm := fun x _ hx2 h12 => absurd (k12 h12) (by omega))
  · rw [rq_o (by omega), rq_o (by omega), rq_o (by omega), rq_o (by omega)]
  · rcases (show x = w ∨ x = (w + 1) ∨ x = (w + 2) ∨ x = (w + 3) ∨ x = (w + 4) by omega) with rfl | rfl | rfl | rfl | rfl
    · rcases iR_10 hk hr9 with rfl | rfl | rfl | rfl
      · rw [rq_k (by decide), rq_k (by decide), rq_k (by decide), rq_s, rf_10_0 hk]
      · rw [rq_k (by decide), rq_k (by decide), rq_s, rf_10_1 hk]
      · rw [rq_k (by decide), rq_s, rf_10_2 hk]
      · rw [rq_s, rf_10_3 hk]
    · exact absurd hr9 (by rw [iR_n (kk_10_0 hk) (by decide) (by decide)]; decide)
    · exact absurd hr9 (by rw [iR_n (kk_10_1 hk) (by decide) (by decide)]; decide)
    · exact absurd hr9 (by rw [iR_n (kk_10_2 hk) (by decide) (by decide)]; decide)
    · exact absurd hr9 (by rw [iR_n (kk_10_3 hk) (by decide) (by decide)]; decide)
  · rcases (show x = w ∨ x = (w + 1) ∨ x = (w + 2) ∨ x = (w + 3) ∨ x = (w + 4) by omega) with rfl | rfl | rfl | rfl | rfl
    · exact absurd h24 (by rw [hk]; decide)
    · exact absurd h24 (by rw [(kk_10_0 hk)]; decide)
    · exact absurd h24 (by rw [(kk_10_1 hk)]; decide)
    · exact absurd h24 (by rw [(kk_10_2 hk)]; decide)
    · exact absurd h24 (by rw [(kk_10_3 hk)]; decide)
set_option maxRecDepth 100000 in
set_option maxHeartbeats 4000000 in
theorem kc_Wo_1 {w : Nat} {d : Nat} {μ : MM} {ρ : RR} (hd9 : 2 ≤ d) (hk : sh_k w = 10) (h1 : sh_n (w + 1) = 1) (h2 : sh_n (w + 2) = 6) (h3 : sh_n (w + 3) = 6) (h4 : sh_n (w + 4) = 6) (Z : ∀ b, w ≤ b → zq_z μ ρ b) (hr : rq_ok (w + 1) ρ) : Ck d mX10_init [av_r w, av_i 1] (w + 1) μ ρ (w + 5) μ (fl_r ρ w (w + 5)) := by
  obtain ⟨d, rfl⟩ : ∃ e, d = e + 1 := ⟨d - 1, by omega⟩
  have hw9 : w + 5 ≤ 355 := wk_10 hk
  refine Ck_of pn_X10 (Nat.le_of_ble_eq_true rfl) (by omega) (by omega) hr ?_
  show Sk (d + 1) mX10_init (w + 1) (w + 5) μ (fl_r ρ w (w + 5)) 0 [some (av_r w), some (av_i 1), none] [] (w + 1) μ ρ
  refine sk_aload_n dX10_init_0 rfl rfl ?_
  refine sk_obj dX10_init_1 kl_RX10_3 (Nat.le_of_ble_eq_true rfl) (by omega) ?_
  refine sk_iconst dX10_init_4 kic_1 ?_
  refine sk_bipush dX10_init_5 kbp_6 ?_
  refine sk_iload_n dX10_init_7 rfl rfl ?_
  refine sk_min dX10_init_8 kl_RX10_9 (Nat.le_of_ble_eq_true rfl) (by omega) ?_
  refine sk_max dX10_init_11 kl_RX10_15 (Nat.le_of_ble_eq_true rfl) (by omega) ?_
  refine sk_istore_n dX10_init_14 rfl (Nat.le_of_ble_eq_true rfl) (pv_i rfl) ?_
  refine sk_aload_n dX10_init_15 rfl rfl ?_
  refine sk_iload_n dX10_init_16 rfl rfl ?_
  refine sk_newaI dX10_init_17 ac_int (kk_10_0 hk) (by decide) (by rw [h1]; decide) (by rw [h1]; decide) (by omega) (Z (w + 1) (by omega)) (vl_s (vo_r (by omega)) (vl_s vo_i (vl_s vo_i vl_0))) (vs_s (vo_r (by omega)) vs_0) ?_
  refine sk_putF dX10_init_19 fk_RX10_18 (by decide) rfl (by decide) (fun q => ⟨rfl, rfl⟩) (fun q hq => by cases hq; exact ⟨rfl, rfl⟩) hk (by omega) (Or.inl (by omega)) rfl ?_
  refine sk_aload_n dX10_init_22 rfl rfl ?_
  refine sk_iload_n dX10_init_23 rfl rfl ?_
  refine sk_bipush dX10_init_24 kbp_6 ?_
  refine sk_imul dX10_init_26 ?_
  refine sk_newaI dX10_init_27 ac_int (kk_10_1 hk) (by decide) (by rw [h2]; decide) (by rw [h2]; decide) (by omega) (zq_p (Z (w + 2) (by omega)) (by omega)) (vl_s (vo_r (by omega)) (vl_s vo_i (vl_s vo_i vl_0))) (vs_s (vo_r (by omega)) vs_0) ?_
  refine sk_putF dX10_init_29 fk_RX10_24 (by decide) rfl (by decide) (fun q => ⟨rfl, rfl⟩) (fun q hq => by cases hq; exact ⟨rfl, rfl⟩) hk (by omega) (Or.inl (by omega)) rfl ?_
  refine sk_aload_n dX10_init_32 rfl rfl ?_
  refine sk_iload_n dX10_init_33 rfl rfl ?_
  refine sk_bipush dX10_init_34 kbp_6 ?_
  refine sk_imul dX10_init_36 ?_
  refine sk_newaI dX10_init_37 ac_int (kk_10_2 hk) (by decide) (by rw [h3]; decide) (by rw [h3]; decide) (by omega) (zq_p (zq_p (Z (w + 3) (by omega)) (by omega)) (by omega)) (vl_s (vo_r (by omega)) (vl_s vo_i (vl_s vo_i vl_0))) (vs_s (vo_r (by omega)) vs_0) ?_
  refine sk_putF dX10_init_39 fk_RX10_27 (by decide) rfl (by decide) (fun q => ⟨rfl, rfl⟩) (fun q hq => by cases hq; exact ⟨rfl, rfl⟩) hk (by omega) (Or.inl (by omega)) rfl ?_
  refine sk_aload_n dX10_init_42 rfl rfl ?_
  refine sk_iload_n dX10_init_43 rfl rfl ?_
  refine sk_bipush dX10_init_44 kbp_6 ?_
  refine sk_imul dX10_init_46 ?_
  refine sk_newaI dX10_init_47 ac_int (kk_10_3 hk) (by decide) (by rw [h4]; decide) (by rw [h4]; decide) (by omega) (zq_p (zq_p (zq_p (Z (w + 4) (by omega)) (by omega)) (by omega)) (by omega)) (vl_s (vo_r (by omega)) (vl_s vo_i (vl_s vo_i vl_0))) (vs_s (vo_r (by omega)) vs_0) ?_
  refine sk_putF dX10_init_49 fk_RX10_30 (by decide) rfl (by decide) (fun q => ⟨rfl, rfl⟩) (fun q hq => by cases hq; exact ⟨rfl, rfl⟩) hk (by omega) (Or.inl (by omega)) rfl ?_
  refine sk_ret (st := []) dX10_init_52 rfl rfl ?_
  refine cq_fin (base := w) (fun x k hx => ?_) (fun x k hx1 hx2 hr9 => ?_) (fun x k hx1 hx2 h24 hr9 => ?_) (hm := fun x _ hx2 h12 => absurd (k12 h12) (by omega))
  · rw [rq_o (by omega), rq_o (by omega), rq_o (by omega), rq_o (by omega)]
  · rcases (show x = w ∨ x = (w + 1) ∨ x = (w + 2) ∨ x = (w + 3) ∨ x = (w + 4) by omega) with rfl | rfl | rfl | rfl | rfl
    · rcases iR_10 hk hr9 with rfl | rfl | rfl | rfl
      · rw [rq_k (by decide), rq_k (by decide), rq_k (by decide), rq_s, rf_10_0 hk]
      · rw [rq_k (by decide), rq_k (by decide), rq_s, rf_10_1 hk]
      · rw [rq_k (by decide), rq_s, rf_10_2 hk]
      · rw [rq_s, rf_10_3 hk]
    · exact absurd hr9 (by rw [iR_n (kk_10_0 hk) (by decide) (by decide)]; decide)
    · exact absurd hr9 (by rw [iR_n (kk_10_1 hk) (by decide) (by decide)]; decide)
    · exact absurd hr9 (by rw [iR_n (kk_10_2 hk) (by decide) (by decide)]; decide)
    · exact absurd hr9 (by rw [iR_n (kk_10_3 hk) (by decide) (by decide)]; decide)
  · rcases (show x = w ∨ x = (w + 1) ∨ x = (w + 2) ∨ x = (w + 3) ∨ x = (w + 4) by omega) with rfl | rfl | rfl | rfl | rfl
    · exact absurd h24 (by rw [hk]; decide)
    · exact absurd h24 (by rw [(kk_10_0 hk)]; decide)
    · exact absurd h24 (by rw [(kk_10_1 hk)]; decide)
    · exact absurd h24 (by rw [(kk_10_2 hk)]; decide)
    · exact absurd h24 (by rw [(kk_10_3 hk)]; decide)
set_option maxRecDepth 100000 in
set_option maxHeartbeats 4000000 in
theorem kc_Wo_4 {w : Nat} {d : Nat} {μ : MM} {ρ : RR} (hd9 : 2 ≤ d) (hk : sh_k w = 10) (h1 : sh_n (w + 1) = 4) (h2 : sh_n (w + 2) = 24) (h3 : sh_n (w + 3) = 24) (h4 : sh_n (w + 4) = 24) (Z : ∀ b, w ≤ b → zq_z μ ρ b) (hr : rq_ok (w + 1) ρ) : Ck d mX10_init [av_r w, av_i 4] (w + 1) μ ρ (w + 5) μ (fl_r ρ w (w + 5)) := by
  obtain ⟨d, rfl⟩ : ∃ e, d = e + 1 := ⟨d - 1, by omega⟩
  have hw9 : w + 5 ≤ 355 := wk_10 hk
  refine Ck_of pn_X10 (Nat.le_of_ble_eq_true rfl) (by omega) (by omega) hr ?_
  show Sk (d + 1) mX10_init (w + 1) (w + 5) μ (fl_r ρ w (w + 5)) 0 [some (av_r w), some (av_i 4), none] [] (w + 1) μ ρ
  refine sk_aload_n dX10_init_0 rfl rfl ?_
  refine sk_obj dX10_init_1 kl_RX10_3 (Nat.le_of_ble_eq_true rfl) (by omega) ?_
  refine sk_iconst dX10_init_4 kic_1 ?_
  refine sk_bipush dX10_init_5 kbp_6 ?_
  refine sk_iload_n dX10_init_7 rfl rfl ?_
  refine sk_min dX10_init_8 kl_RX10_9 (Nat.le_of_ble_eq_true rfl) (by omega) ?_
  refine sk_max dX10_init_11 kl_RX10_15 (Nat.le_of_ble_eq_true rfl) (by omega) ?_
  refine sk_istore_n dX10_init_14 rfl (Nat.le_of_ble_eq_true rfl) (pv_i rfl) ?_
  refine sk_aload_n dX10_init_15 rfl rfl ?_
  refine sk_iload_n dX10_init_16 rfl rfl ?_
  refine sk_newaI dX10_init_17 ac_int (kk_10_0 hk) (by decide) (by rw [h1]; decide) (by rw [h1]; decide) (by omega) (Z (w + 1) (by omega)) (vl_s (vo_r (by omega)) (vl_s vo_i (vl_s vo_i vl_0))) (vs_s (vo_r (by omega)) vs_0) ?_
  refine sk_putF dX10_init_19 fk_RX10_18 (by decide) rfl (by decide) (fun q => ⟨rfl, rfl⟩) (fun q hq => by cases hq; exact ⟨rfl, rfl⟩) hk (by omega) (Or.inl (by omega)) rfl ?_
  refine sk_aload_n dX10_init_22 rfl rfl ?_
  refine sk_iload_n dX10_init_23 rfl rfl ?_
  refine sk_bipush dX10_init_24 kbp_6 ?_
  refine sk_imul dX10_init_26 ?_
  refine sk_newaI dX10_init_27 ac_int (kk_10_1 hk) (by decide) (by rw [h2]; decide) (by rw [h2]; decide) (by omega) (zq_p (Z (w + 2) (by omega)) (by omega)) (vl_s (vo_r (by omega)) (vl_s vo_i (vl_s vo_i vl_0))) (vs_s (vo_r (by omega)) vs_0) ?_
  refine sk_putF dX10_init_29 fk_RX10_24 (by decide) rfl (by decide) (fun q => ⟨rfl, rfl⟩) (fun q hq => by cases hq; exact ⟨rfl, rfl⟩) hk (by omega) (Or.inl (by omega)) rfl ?_
  refine sk_aload_n dX10_init_32 rfl rfl ?_
  refine sk_iload_n dX10_init_33 rfl rfl ?_
  refine sk_bipush dX10_init_34 kbp_6 ?_
  refine sk_imul dX10_init_36 ?_
  refine sk_newaI dX10_init_37 ac_int (kk_10_2 hk) (by decide) (by rw [h3]; decide) (by rw [h3]; decide) (by omega) (zq_p (zq_p (Z (w + 3) (by omega)) (by omega)) (by omega)) (vl_s (vo_r (by omega)) (vl_s vo_i (vl_s vo_i vl_0))) (vs_s (vo_r (by omega)) vs_0) ?_
  refine sk_putF dX10_init_39 fk_RX10_27 (by decide) rfl (by decide) (fun q => ⟨rfl, rfl⟩) (fun q hq => by cases hq; exact ⟨rfl, rfl⟩) hk (by omega) (Or.inl (by omega)) rfl ?_
  refine sk_aload_n dX10_init_42 rfl rfl ?_
  refine sk_iload_n dX10_init_43 rfl rfl ?_
  refine sk_bipush dX10_init_44 kbp_6 ?_
  refine sk_imul dX10_init_46 ?_
  refine sk_newaI dX10_init_47 ac_int (kk_10_3 hk) (by decide) (by rw [h4]; decide) (by rw [h4]; decide) (by omega) (zq_p (zq_p (zq_p (Z (w + 4) (by omega)) (by omega)) (by omega)) (by omega)) (vl_s (vo_r (by omega)) (vl_s vo_i (vl_s vo_i vl_0))) (vs_s (vo_r (by omega)) vs_0) ?_
  refine sk_putF dX10_init_49 fk_RX10_30 (by decide) rfl (by decide) (fun q => ⟨rfl, rfl⟩) (fun q hq => by cases hq; exact ⟨rfl, rfl⟩) hk (by omega) (Or.inl (by omega)) rfl ?_
  refine sk_ret (st := []) dX10_init_52 rfl rfl ?_
  refine cq_fin (base := w) (fun x k hx => ?_) (fun x k hx1 hx2 hr9 => ?_) (fun x k hx1 hx2 h24 hr9 => ?_) (hm := fun x _ hx2 h12 => absurd (k12 h12) (by omega))
  · rw [rq_o (by omega), rq_o (by omega), rq_o (by omega), rq_o (by omega)]
  · rcases (show x = w ∨ x = (w + 1) ∨ x = (w + 2) ∨ x = (w + 3) ∨ x = (w + 4) by omega) with rfl | rfl | rfl | rfl | rfl
    · rcases iR_10 hk hr9 with rfl | rfl | rfl | rfl
      · rw [rq_k (by decide), rq_k (by decide), rq_k (by decide), rq_s, rf_10_0 hk]
      · rw [rq_k (by decide), rq_k (by decide), rq_s, rf_10_1 hk]
      · rw [rq_k (by decide), rq_s, rf_10_2 hk]
      · rw [rq_s, rf_10_3 hk]
    · exact absurd hr9 (by rw [iR_n (kk_10_0 hk) (by decide) (by decide)]; decide)
    · exact absurd hr9 (by rw [iR_n (kk_10_1 hk) (by decide) (by decide)]; decide)
    · exact absurd hr9 (by rw [iR_n (kk_10_2 hk) (by decide) (by decide)]; decide)
    · exact absurd hr9 (by rw [iR_n (kk_10_3 hk) (by decide) (by decide)]; decide)
  · rcases (show x = w ∨ x = (w + 1) ∨ x = (w + 2) ∨ x = (w + 3) ∨ x = (w + 4) by omega) with rfl | rfl | rfl | rfl | rfl
    · exact absurd h24 (by rw [hk]; decide)
    · exact absurd h24 (by rw [(kk_10_0 hk)]; decide)
    · exact absurd h24 (by rw [(kk_10_1 hk)]; decide)
    · exact absurd h24 (by rw [(kk_10_2 hk)]; decide)
    · exact absurd h24 (by rw [(kk_10_3 hk)]; decide)
set_option maxRecDepth 100000 in
set_option maxHeartbeats 4000000 in
theorem kc_Sh {s : Nat} {d : Nat} {μ : MM} {ρ : RR} (hd9 : 3 ≤ d) (hk : sh_k s = 7) (h2 : sh_n (s + 2) = 6) (h3 : sh_n (s + 3) = 36) (h4 : sh_n (s + 4) = 36) (h5 : sh_n (s + 5) = 36) (Z : ∀ b, s ≤ b → zq_z μ ρ b) (hr : rq_ok (s + 1) ρ) : Ck d mX7_init [av_r s] (s + 1) μ ρ (s + 7) μ (fl_r ρ s (s + 7)) := by
  obtain ⟨d, rfl⟩ : ∃ e, d = e + 1 := ⟨d - 1, by omega⟩
  have hw9 : s + 7 ≤ 355 := wk_7 hk
  refine Ck_of pn_X7 (Nat.le_of_ble_eq_true rfl) (by omega) (by omega) hr ?_
  show Sk (d + 1) mX7_init (s + 1) (s + 7) μ (fl_r ρ s (s + 7)) 0 [some (av_r s)] [] (s + 1) μ ρ
  refine sk_aload_n dX7_init_0 rfl rfl ?_
  refine sk_obj dX7_init_1 kl_RX7_3 (Nat.le_of_ble_eq_true rfl) (by omega) ?_
  refine sk_aload_n dX7_init_4 rfl rfl ?_
  refine sk_new dX7_init_5 nw_RX7_9 (kk_7_0 hk) (by decide) (by omega) (Z (s + 1) (by omega)) (vl_s (vo_r (by omega)) vl_0) (vs_s (vo_r (by omega)) vs_0) ?_
  refine sk_dup dX7_init_8 rfl ?_
  refine sk_bipush dX7_init_9 kbp_6 ?_
  have hq11 : rq_ok (s + 2) ρ := (rq_up hr (by omega))
  have hr11 : rq_ok (s + 6) (fl_r ρ (s + 1) (s + 6)) := rq_fb (kk_7_0 hk) (by omega) hq11 (by omega) (bl_c_10 (kk_7_0 hk))
  refine sk_callI dX7_init_11 ci_X10_init kl_RX7_11 (as := [av_i 6]) (m1 := (s + 6)) rfl (Nat.le_of_ble_eq_true rfl) rfl (by omega) (by omega) (vl_s (vo_r (by omega)) vl_0) (vs_s (vo_r (by omega)) (vs_s (vo_r (by omega)) vs_0)) hr11 (kc_Wo_6 (w := (s + 1)) (by omega) (kk_7_0 hk) h2 h3 h4 h5 (fun b hb => (Z b (by omega))) hq11) ?_
  refine sk_putF dX7_init_14 fk_RX7_14 (by decide) rfl (by decide) (fun q => ⟨rfl, rfl⟩) (fun q hq => by cases hq; exact ⟨rfl, rfl⟩) hk (by omega) (Or.inl (by omega)) rfl ?_
  refine sk_aload_n dX7_init_17 rfl rfl ?_
  refine sk_bipush dX7_init_18 kbp_6 ?_
  refine sk_newaI dX7_init_20 ac_int (kk_7_1 hk) (by decide) (by rw [(kn_7_1 hk)]; decide) (by rw [(kn_7_1 hk)]; decide) (by omega) (zq_p (zq_f (Z (s + 6) (by omega)) (by omega)) (by omega)) (vl_s (vo_r (by omega)) vl_0) (vs_s (vo_r (by omega)) vs_0) ?_
  refine sk_putF dX7_init_22 fk_RX7_20 (by decide) rfl (by decide) (fun q => ⟨rfl, rfl⟩) (fun q hq => by cases hq; exact ⟨rfl, rfl⟩) hk (by omega) (Or.inl (by omega)) rfl ?_
  refine sk_aload_n dX7_init_25 rfl rfl ?_
  refine sk_iconst dX7_init_26 kic_0 ?_
  refine sk_putI dX7_init_27 fk_RX7_24 (by decide) rfl (fun q hq => by cases hq; rfl) hk (by omega) ?_
  rw [mm_I0 ((Z s (by omega)).1 2)]
  refine sk_aload_n dX7_init_30 rfl rfl ?_
  refine sk_iconst dX7_init_31 kic_0 ?_
  refine sk_putI dX7_init_32 fk_RX7_28 (by decide) rfl (fun q hq => by cases hq; rfl) hk (by omega) ?_
  rw [mm_I0 ((Z s (by omega)).1 3)]
  refine sk_aload_n dX7_init_35 rfl rfl ?_
  refine sk_iconst dX7_init_36 kic_0 ?_
  refine sk_putI dX7_init_37 fk_RX7_31 (by decide) rfl (fun q hq => by cases hq; rfl) hk (by omega) ?_
  rw [mm_I0 ((Z s (by omega)).1 4)]
  refine sk_ret (st := []) dX7_init_40 rfl rfl ?_
  refine cq_fin (base := s) (fun x k hx => ?_) (fun x k hx1 hx2 hr9 => ?_) (fun x k hx1 hx2 h24 hr9 => ?_) (hm := fun x _ hx2 h12 => absurd (k12 h12) (by omega))
  · rw [rq_o (by omega), rq_o (by omega), fl_o (by omega)]
  · rcases (show x = s ∨ ((s + 1) ≤ x ∧ x < (s + 6)) ∨ x = (s + 6) by omega) with rfl | ⟨e1, e2⟩ | rfl
    · rcases iR_7 hk hr9 with rfl | rfl
      · rw [rq_k (by decide), rq_s, rf_7_0 hk]
      · rw [rq_s, rf_7_1 hk]
    · rw [rq_o (by omega), rq_o (by omega)]; exact fl_i e1 e2 hr9
    · exact absurd hr9 (by rw [iR_n (kk_7_1 hk) (by decide) (by decide)]; decide)
  · rcases (show x = s ∨ ((s + 1) ≤ x ∧ x < (s + 6)) ∨ x = (s + 6) by omega) with rfl | ⟨e1, e2⟩ | rfl
    · exact absurd h24 (by rw [hk]; decide)
    · rw [rq_o (by omega), rq_o (by omega), fl_n hr9]
    · exact absurd h24 (by rw [(kk_7_1 hk)]; decide)
set_option maxRecDepth 100000 in
set_option maxHeartbeats 4000000 in
theorem kc_Co {c : Nat} {d : Nat} {μ : MM} {ρ : RR} (hd9 : 4 ≤ d) (hk : sh_k c = 1) (h6 : sh_n (c + 6) = 6) (h7 : sh_n (c + 7) = 36) (h8 : sh_n (c + 8) = 36) (h9 : sh_n (c + 9) = 36) (Z : ∀ b, c ≤ b → zq_z μ ρ b) (hr : rq_ok (c + 1) ρ) : Ck d mX1_init [av_r c] (c + 1) μ ρ (c + 11) μ (fl_r ρ c (c + 11)) := by
  obtain ⟨d, rfl⟩ : ∃ e, d = e + 1 := ⟨d - 1, by omega⟩
  have hw9 : c + 11 ≤ 355 := wk_1 hk
  refine Ck_of pn_X1 (Nat.le_of_ble_eq_true rfl) (by omega) (by omega) hr ?_
  show Sk (d + 1) mX1_init (c + 1) (c + 11) μ (fl_r ρ c (c + 11)) 0 [some (av_r c)] [] (c + 1) μ ρ
  refine sk_aload_n dX1_init_0 rfl rfl ?_
  refine sk_obj dX1_init_1 kl_RX1_3 (Nat.le_of_ble_eq_true rfl) (by omega) ?_
  refine sk_aload_n dX1_init_4 rfl rfl ?_
  refine sk_iconst dX1_init_5 kic_0 ?_
  refine sk_putI dX1_init_6 fk_RX1_9 (by decide) rfl (fun q hq => by cases hq; rfl) hk (by omega) ?_
  rw [mm_I0 ((Z c (by omega)).1 0)]
  refine sk_aload_n dX1_init_9 rfl rfl ?_
  refine sk_iconst dX1_init_10 kic_0 ?_
  refine sk_putI dX1_init_11 fk_RX1_15 (by decide) rfl (fun q hq => by cases hq; rfl) hk (by omega) ?_
  rw [mm_I0 ((Z c (by omega)).1 1)]
  refine sk_aload_n dX1_init_14 rfl rfl ?_
  refine sk_bipush dX1_init_15 kbp_8 ?_
  refine sk_newaI dX1_init_17 ac_int (kk_1_2 hk) (by decide) (by rw [(kn_1_2 hk)]; decide) (by rw [(kn_1_2 hk)]; decide) (by omega) (Z (c + 1) (by omega)) (vl_s (vo_r (by omega)) vl_0) (vs_s (vo_r (by omega)) vs_0) ?_
  refine sk_putF dX1_init_19 fk_RX1_18 (by decide) rfl (by decide) (fun q => ⟨rfl, rfl⟩) (fun q hq => by cases hq; exact ⟨rfl, rfl⟩) hk (by omega) (Or.inl (by omega)) rfl ?_
  refine sk_aload_n dX1_init_22 rfl rfl ?_
  refine sk_bipush dX1_init_23 kbp_8 ?_
  refine sk_newaI dX1_init_25 ac_int (kk_1_3 hk) (by decide) (by rw [(kn_1_3 hk)]; decide) (by rw [(kn_1_3 hk)]; decide) (by omega) (zq_p (Z (c + 2) (by omega)) (by omega)) (vl_s (vo_r (by omega)) vl_0) (vs_s (vo_r (by omega)) vs_0) ?_
  refine sk_putF dX1_init_27 fk_RX1_22 (by decide) rfl (by decide) (fun q => ⟨rfl, rfl⟩) (fun q hq => by cases hq; exact ⟨rfl, rfl⟩) hk (by omega) (Or.inl (by omega)) rfl ?_
  refine sk_aload_n dX1_init_30 rfl rfl ?_
  refine sk_bipush dX1_init_31 kbp_6 ?_
  refine sk_newaI dX1_init_33 ac_int (kk_1_4 hk) (by decide) (by rw [(kn_1_4 hk)]; decide) (by rw [(kn_1_4 hk)]; decide) (by omega) (zq_p (zq_p (Z (c + 3) (by omega)) (by omega)) (by omega)) (vl_s (vo_r (by omega)) vl_0) (vs_s (vo_r (by omega)) vs_0) ?_
  refine sk_putF dX1_init_35 fk_RX1_25 (by decide) rfl (by decide) (fun q => ⟨rfl, rfl⟩) (fun q hq => by cases hq; exact ⟨rfl, rfl⟩) hk (by omega) (Or.inl (by omega)) rfl ?_
  refine sk_aload_n dX1_init_38 rfl rfl ?_
  refine sk_new dX1_init_39 nw_RX1_28 (kk_1_5 hk) (by decide) (by omega) (zq_p (zq_p (zq_p (Z (c + 4) (by omega)) (by omega)) (by omega)) (by omega)) (vl_s (vo_r (by omega)) vl_0) (vs_s (vo_r (by omega)) vs_0) ?_
  refine sk_dup dX1_init_42 rfl ?_
  have hq43 : rq_ok (c + 5) (rq_p (rq_p (rq_p ρ c 2 (c + 1)) c 3 (c + 2)) c 4 (c + 3)) := (rq_pok (rq_pok (rq_pok (rq_up hr (by omega)) (Or.inl (by omega))) (Or.inl (by omega))) (Or.inl (by omega)))
  have hr43 : rq_ok (c + 11) (fl_r (rq_p (rq_p (rq_p ρ c 2 (c + 1)) c 3 (c + 2)) c 4 (c + 3)) (c + 4) (c + 11)) := rq_fb (kk_1_5 hk) (by omega) hq43 (by omega) (bl_c_7 (kk_1_5 hk))
  refine sk_callN dX1_init_43 ci_X7_init kl_RX1_30 (as := []) (m1 := (c + 11)) rfl (Nat.le_of_ble_eq_true rfl) rfl (by omega) (by omega) (vl_s (vo_r (by omega)) vl_0) (vs_s (vo_r (by omega)) (vs_s (vo_r (by omega)) vs_0)) hr43 (kc_Sh (s := (c + 4)) (by omega) (kk_1_5 hk) h6 h7 h8 h9 (fun b hb => (zq_p (zq_p (zq_p (Z b (by omega)) (by omega)) (by omega)) (by omega))) hq43) ?_
  refine sk_putF dX1_init_46 fk_RX1_31 (by decide) rfl (by decide) (fun q => ⟨rfl, rfl⟩) (fun q hq => by cases hq; exact ⟨rfl, rfl⟩) hk (by omega) (Or.inl (by omega)) rfl ?_
  refine sk_ret (st := []) dX1_init_49 rfl rfl ?_
  refine cq_fin (base := c) (fun x k hx => ?_) (fun x k hx1 hx2 hr9 => ?_) (fun x k hx1 hx2 h24 hr9 => ?_) (hm := fun x _ hx2 h12 => absurd (k12 h12) (by omega))
  · rw [rq_o (by omega), fl_o (by omega), rq_o (by omega), rq_o (by omega), rq_o (by omega)]
  · rcases (show x = c ∨ x = (c + 1) ∨ x = (c + 2) ∨ x = (c + 3) ∨ ((c + 4) ≤ x ∧ x < (c + 11)) by omega) with rfl | rfl | rfl | rfl | ⟨e1, e2⟩
    · rcases iR_1 hk hr9 with rfl | rfl | rfl | rfl
      · rw [rq_k (by decide), fl_o (by omega), rq_k (by decide), rq_k (by decide), rq_s, rf_1_2 hk]
      · rw [rq_k (by decide), fl_o (by omega), rq_k (by decide), rq_s, rf_1_3 hk]
      · rw [rq_k (by decide), fl_o (by omega), rq_s, rf_1_4 hk]
      · rw [rq_s, rf_1_5 hk]
    · exact absurd hr9 (by rw [iR_n (kk_1_2 hk) (by decide) (by decide)]; decide)
    · exact absurd hr9 (by rw [iR_n (kk_1_3 hk) (by decide) (by decide)]; decide)
    · exact absurd hr9 (by rw [iR_n (kk_1_4 hk) (by decide) (by decide)]; decide)
    · rw [rq_o (by omega)]; exact fl_i e1 e2 hr9
  · rcases (show x = c ∨ x = (c + 1) ∨ x = (c + 2) ∨ x = (c + 3) ∨ ((c + 4) ≤ x ∧ x < (c + 11)) by omega) with rfl | rfl | rfl | rfl | ⟨e1, e2⟩
    · exact absurd h24 (by rw [hk]; decide)
    · exact absurd h24 (by rw [(kk_1_2 hk)]; decide)
    · exact absurd h24 (by rw [(kk_1_3 hk)]; decide)
    · exact absurd h24 (by rw [(kk_1_4 hk)]; decide)
    · rw [rq_o (by omega), fl_n hr9, rq_o (by omega), rq_o (by omega), rq_o (by omega)]
set_option maxRecDepth 100000 in
set_option maxHeartbeats 4000000 in
theorem kc_X8_init  {d : Nat} {μ : MM} {ρ : RR} (hd9 : 2 ≤ d) (Z : ∀ b, 1 ≤ b → zq_z μ ρ b) (hr : rq_ok 2 ρ) : Ck d mX8_init [av_r 1] 2 μ ρ 3 μ (fl_r ρ 1 3) := by
  obtain ⟨d, rfl⟩ : ∃ e, d = e + 1 := ⟨d - 1, by omega⟩
  refine Ck_of pn_X8 (Nat.le_of_ble_eq_true rfl) (by omega) (by omega) hr ?_
  show Sk (d + 1) mX8_init 2 3 μ (fl_r ρ 1 3) 0 [some (av_r 1)] [] 2 μ ρ
  refine sk_aload_n dX8_init_0 rfl rfl ?_
  refine sk_obj dX8_init_1 kl_RX8_3 (Nat.le_of_ble_eq_true rfl) (by omega) ?_
  refine sk_aload_n dX8_init_4 rfl rfl ?_
  refine sk_sipush dX8_init_5 ksp_240 ?_
  refine sk_newaI dX8_init_8 ac_int k_2 (by decide) (by rw [n_2]; decide) (by rw [n_2]; decide) (by omega) (Z 2 (by omega)) (vl_s (vo_r (by omega)) vl_0) (vs_s (vo_r (by omega)) vs_0) ?_
  refine sk_putF dX8_init_10 fk_RX8_11 (by decide) rfl (by decide) (fun q => ⟨rfl, rfl⟩) (fun q hq => by cases hq; exact ⟨rfl, rfl⟩) k_1 (by omega) (Or.inl (by omega)) rfl ?_
  refine sk_aload_n dX8_init_13 rfl rfl ?_
  refine sk_iconst dX8_init_14 kic_0 ?_
  refine sk_putI dX8_init_15 fk_RX8_15 (by decide) rfl (fun q hq => by cases hq; rfl) k_1 (by omega) ?_
  rw [mm_I0 ((Z 1 (by omega)).1 1)]
  refine sk_aload_n dX8_init_18 rfl rfl ?_
  refine sk_iconst dX8_init_19 kic_0 ?_
  refine sk_putI dX8_init_20 fk_RX8_19 (by decide) rfl (fun q hq => by cases hq; rfl) k_1 (by omega) ?_
  rw [mm_I0 ((Z 1 (by omega)).1 2)]
  refine sk_ret (st := []) dX8_init_23 rfl rfl ?_
  refine cq_fin (base := 1) (fun x k hx => ?_) (fun x k hx1 hx2 hr9 => ?_) (fun x k hx1 hx2 h24 hr9 => ?_) (hm := fun x _ hx2 h12 => absurd (k12 h12) (by omega))
  · rw [rq_o (by omega)]
  · rcases (show x = 1 ∨ x = 2 by omega) with rfl | rfl
    · rcases iR_8 k_1 hr9 with rfl
      · rw [rq_s, rf_8_0 k_1]
    · exact absurd hr9 (by rw [iR_n k_2 (by decide) (by decide)]; decide)
  · rcases (show x = 1 ∨ x = 2 by omega) with rfl | rfl
    · exact absurd h24 (by rw [k_1]; decide)
    · exact absurd h24 (by rw [k_2]; decide)
set_option maxRecDepth 100000 in
set_option maxHeartbeats 4000000 in
theorem kc_X9_init  {d : Nat} {μ : MM} {ρ : RR} (hd9 : 5 ≤ d) (Z : ∀ b, 3 ≤ b → zq_z μ ρ b) (hr : rq_ok 4 ρ) : Ck d mX9_init [av_r 3, av_r 1] 4 μ ρ 21 μ (fl_r ρ 3 21) := by
  obtain ⟨d, rfl⟩ : ∃ e, d = e + 1 := ⟨d - 1, by omega⟩
  refine Ck_of pn_X9 (Nat.le_of_ble_eq_true rfl) (by omega) (by omega) hr ?_
  show Sk (d + 1) mX9_init 4 21 μ (fl_r ρ 3 21) 0 [some (av_r 3), some (av_r 1)] [] 4 μ ρ
  refine sk_aload_n dX9_init_0 rfl rfl ?_
  refine sk_obj dX9_init_1 kl_RX9_3 (Nat.le_of_ble_eq_true rfl) (by omega) ?_
  refine sk_aload_n dX9_init_4 rfl rfl ?_
  refine sk_new dX9_init_5 nw_RX9_9 k_4 (by decide) (by omega) (Z 4 (by omega)) (vl_s (vo_r (by omega)) (vl_s (vo_r (by omega)) vl_0)) (vs_s (vo_r (by omega)) vs_0) ?_
  refine sk_dup dX9_init_8 rfl ?_
  have hq9 : rq_ok 5 ρ := (rq_up hr (by omega))
  have hr9 : rq_ok 15 (fl_r ρ 4 15) := rq_fb k_4 (by omega) hq9 (by omega) (bl_c_1 k_4)
  refine sk_callN dX9_init_9 ci_X1_init kl_RX9_11 (as := []) (m1 := 15) rfl (Nat.le_of_ble_eq_true rfl) rfl (by omega) (by omega) (vl_s (vo_r (by omega)) (vl_s (vo_r (by omega)) vl_0)) (vs_s (vo_r (by omega)) (vs_s (vo_r (by omega)) vs_0)) hr9 (kc_Co (c := 4) (by omega) k_4 n_10 n_11 n_12 n_13 (fun b hb => (Z b (by omega))) hq9) ?_
  refine sk_putF dX9_init_12 fk_RX9_12 (by decide) rfl (by decide) (fun q => ⟨rfl, rfl⟩) (fun q hq => by cases hq; exact ⟨rfl, rfl⟩) k_3 (by omega) (Or.inl (by omega)) rfl ?_
  refine sk_aload_n dX9_init_15 rfl rfl ?_
  refine sk_new dX9_init_16 nw_RX9_18 k_15 (by decide) (by omega) (zq_p (zq_f (Z 15 (by omega)) (by omega)) (by omega)) (vl_s (vo_r (by omega)) (vl_s (vo_r (by omega)) vl_0)) (vs_s (vo_r (by omega)) vs_0) ?_
  refine sk_dup dX9_init_19 rfl ?_
  refine sk_iconst dX9_init_20 kic_1 ?_
  have hq21 : rq_ok 16 (rq_p (fl_r ρ 4 15) 3 1 4) := (rq_pok (rq_up hr9 (by omega)) (Or.inl (by omega)))
  have hr21 : rq_ok 20 (fl_r (rq_p (fl_r ρ 4 15) 3 1 4) 15 20) := rq_fb k_15 (by omega) hq21 (by omega) (bl_c_10 k_15)
  refine sk_callI dX9_init_21 ci_X10_init kl_RX9_20 (as := [av_i 1]) (m1 := 20) rfl (Nat.le_of_ble_eq_true rfl) rfl (by omega) (by omega) (vl_s (vo_r (by omega)) (vl_s (vo_r (by omega)) vl_0)) (vs_s (vo_r (by omega)) (vs_s (vo_r (by omega)) vs_0)) hr21 (kc_Wo_1 (w := 15) (by omega) k_15 n_16 n_17 n_18 n_19 (fun b hb => (zq_p (zq_f (Z b (by omega)) (by omega)) (by omega))) hq21) ?_
  refine sk_putF dX9_init_24 fk_RX9_23 (by decide) rfl (by decide) (fun q => ⟨rfl, rfl⟩) (fun q hq => by cases hq; exact ⟨rfl, rfl⟩) k_3 (by omega) (Or.inl (by omega)) rfl ?_
  refine sk_aload_n dX9_init_27 rfl rfl ?_
  refine sk_iconst dX9_init_28 kic_3 ?_
  refine sk_newaI dX9_init_29 ac_int k_20 (by decide) (by rw [n_20]; decide) (by rw [n_20]; decide) (by omega) (zq_p (zq_f (zq_p (zq_f (Z 20 (by omega)) (by omega)) (by omega)) (by omega)) (by omega)) (vl_s (vo_r (by omega)) (vl_s (vo_r (by omega)) vl_0)) (vs_s (vo_r (by omega)) vs_0) ?_
  refine sk_putF dX9_init_31 fk_RX9_27 (by decide) rfl (by decide) (fun q => ⟨rfl, rfl⟩) (fun q hq => by cases hq; exact ⟨rfl, rfl⟩) k_3 (by omega) (Or.inl (by omega)) rfl ?_
  refine sk_aload_n dX9_init_34 rfl rfl ?_
  refine sk_iconst dX9_init_35 kic_0 ?_
  refine sk_putZ dX9_init_36 fk_RX9_31 (by decide) rfl (fun q hq => by cases hq; rfl) k_3 (by omega) ?_
  rw [mm_I0 ((Z 3 (by omega)).1 4)]
  refine sk_aload_n dX9_init_39 rfl rfl ?_
  refine sk_aload_n dX9_init_40 rfl rfl ?_
  refine sk_putF dX9_init_41 fk_RX9_35 (by decide) rfl (by decide) (fun q => ⟨rfl, rfl⟩) (fun q hq => by cases hq; exact ⟨rfl, rfl⟩) k_3 (by omega) (Or.inl (by omega)) rfl ?_
  refine sk_ret (st := []) dX9_init_44 rfl rfl ?_
  refine cq_fin (base := 3) (fun x k hx => ?_) (fun x k hx1 hx2 hr9 => ?_) (fun x k hx1 hx2 h24 hr9 => ?_) (hm := fun x _ hx2 h12 => absurd (k12 h12) (by omega))
  · rw [rq_o (by omega), rq_o (by omega), rq_o (by omega), fl_o (by omega), rq_o (by omega), fl_o (by omega)]
  · rcases (show x = 3 ∨ (4 ≤ x ∧ x < 15) ∨ (15 ≤ x ∧ x < 20) ∨ x = 20 by omega) with rfl | ⟨e1, e2⟩ | ⟨e1, e2⟩ | rfl
    · rcases iR_9 k_3 hr9 with rfl | rfl | rfl | rfl
      · rw [rq_s, rf_9_0 k_3]
      · rw [rq_k (by decide), rq_k (by decide), rq_k (by decide), fl_o (by omega), rq_s, rf_9_1 k_3]
      · rw [rq_k (by decide), rq_k (by decide), rq_s, rf_9_2 k_3]
      · rw [rq_k (by decide), rq_s, rf_9_3 k_3]
    · rw [rq_o (by omega), rq_o (by omega), rq_o (by omega), fl_o (by omega), rq_o (by omega)]; exact fl_i e1 e2 hr9
    · rw [rq_o (by omega), rq_o (by omega), rq_o (by omega)]; exact fl_i e1 e2 hr9
    · exact absurd hr9 (by rw [iR_n k_20 (by decide) (by decide)]; decide)
  · rcases (show x = 3 ∨ (4 ≤ x ∧ x < 15) ∨ (15 ≤ x ∧ x < 20) ∨ x = 20 by omega) with rfl | ⟨e1, e2⟩ | ⟨e1, e2⟩ | rfl
    · exact absurd h24 (by rw [k_3]; decide)
    · rw [rq_o (by omega), rq_o (by omega), rq_o (by omega), fl_o (by omega), rq_o (by omega), fl_n hr9]
    · rw [rq_o (by omega), rq_o (by omega), rq_o (by omega), fl_n hr9, rq_o (by omega), fl_o (by omega)]
    · exact absurd h24 (by rw [k_20]; decide)
set_option maxRecDepth 100000 in
set_option maxHeartbeats 4000000 in
theorem kc_X4_init  {d : Nat} {μ : MM} {ρ : RR} (hd9 : 2 ≤ d) (Z : ∀ b, 21 ≤ b → zq_z μ ρ b) (hr : rq_ok 22 ρ) : Ck d mX4_init [av_r 21, av_r 1] 22 μ ρ 23 μ (fl_r ρ 21 23) := by
  obtain ⟨d, rfl⟩ : ∃ e, d = e + 1 := ⟨d - 1, by omega⟩
  refine Ck_of pn_X4 (Nat.le_of_ble_eq_true rfl) (by omega) (by omega) hr ?_
  show Sk (d + 1) mX4_init 22 23 μ (fl_r ρ 21 23) 0 [some (av_r 21), some (av_r 1)] [] 22 μ ρ
  refine sk_aload_n dX4_init_0 rfl rfl ?_
  refine sk_obj dX4_init_1 kl_RX4_3 (Nat.le_of_ble_eq_true rfl) (by omega) ?_
  refine sk_aload_n dX4_init_4 rfl rfl ?_
  refine sk_sipush dX4_init_5 ksp_240 ?_
  refine sk_newaI dX4_init_8 ac_int k_22 (by decide) (by rw [n_22]; decide) (by rw [n_22]; decide) (by omega) (Z 22 (by omega)) (vl_s (vo_r (by omega)) (vl_s (vo_r (by omega)) vl_0)) (vs_s (vo_r (by omega)) vs_0) ?_
  refine sk_putF dX4_init_10 fk_RX4_11 (by decide) rfl (by decide) (fun q => ⟨rfl, rfl⟩) (fun q hq => by cases hq; exact ⟨rfl, rfl⟩) k_21 (by omega) (Or.inl (by omega)) rfl ?_
  refine sk_aload_n dX4_init_13 rfl rfl ?_
  refine sk_iconst dX4_init_14 kic_0 ?_
  refine sk_putI dX4_init_15 fk_RX4_17 (by decide) rfl (fun q hq => by cases hq; rfl) k_21 (by omega) ?_
  rw [mm_I0 ((Z 21 (by omega)).1 2)]
  refine sk_aload_n dX4_init_18 rfl rfl ?_
  refine sk_aload_n dX4_init_19 rfl rfl ?_
  refine sk_putF dX4_init_20 fk_RX4_21 (by decide) rfl (by decide) (fun q => ⟨rfl, rfl⟩) (fun q hq => by cases hq; exact ⟨rfl, rfl⟩) k_21 (by omega) (Or.inl (by omega)) rfl ?_
  refine sk_ret (st := []) dX4_init_23 rfl rfl ?_
  refine cq_fin (base := 21) (fun x k hx => ?_) (fun x k hx1 hx2 hr9 => ?_) (fun x k hx1 hx2 h24 hr9 => ?_) (hm := fun x _ hx2 h12 => absurd (k12 h12) (by omega))
  · rw [rq_o (by omega), rq_o (by omega)]
  · rcases (show x = 21 ∨ x = 22 by omega) with rfl | rfl
    · rcases iR_4 k_21 hr9 with rfl | rfl
      · rw [rq_s, rf_4_0 k_21]
      · rw [rq_k (by decide), rq_s, rf_4_1 k_21]
    · exact absurd hr9 (by rw [iR_n k_22 (by decide) (by decide)]; decide)
  · rcases (show x = 21 ∨ x = 22 by omega) with rfl | rfl
    · exact absurd h24 (by rw [k_21]; decide)
    · exact absurd h24 (by rw [k_22]; decide)
set_option maxRecDepth 100000 in
set_option maxHeartbeats 4000000 in
theorem kc_X0_init  {d : Nat} {μ : MM} {ρ : RR} (hd9 : 2 ≤ d) (Z : ∀ b, 48 ≤ b → zq_z μ ρ b) (hr : rq_ok 49 ρ) : Ck d mX0_init [av_r 48, av_r 23, av_r 34] 49 μ ρ 51 μ (fl_r ρ 48 51) := by
  obtain ⟨d, rfl⟩ : ∃ e, d = e + 1 := ⟨d - 1, by omega⟩
  refine Ck_of pn_X0 (Nat.le_of_ble_eq_true rfl) (by omega) (by omega) hr ?_
  show Sk (d + 1) mX0_init 49 51 μ (fl_r ρ 48 51) 0 [some (av_r 48), some (av_r 23), some (av_r 34)] [] 49 μ ρ
  refine sk_aload_n dX0_init_0 rfl rfl ?_
  refine sk_obj dX0_init_1 kl_RX0_3 (Nat.le_of_ble_eq_true rfl) (by omega) ?_
  refine sk_aload_n dX0_init_4 rfl rfl ?_
  refine sk_sipush dX0_init_5 ksp_128 ?_
  refine sk_newaI dX0_init_8 ac_int k_49 (by decide) (by rw [n_49]; decide) (by rw [n_49]; decide) (by omega) (Z 49 (by omega)) (vl_s (vo_r (by omega)) (vl_s (vo_r (by omega)) (vl_s (vo_r (by omega)) vl_0))) (vs_s (vo_r (by omega)) vs_0) ?_
  refine sk_putF dX0_init_10 fk_RX0_11 (by decide) rfl (by decide) (fun q => ⟨rfl, rfl⟩) (fun q hq => by cases hq; exact ⟨rfl, rfl⟩) k_48 (by omega) (Or.inl (by omega)) rfl ?_
  refine sk_aload_n dX0_init_13 rfl rfl ?_
  refine sk_bipush dX0_init_14 kbp_6 ?_
  refine sk_newaI dX0_init_16 ac_int k_50 (by decide) (by rw [n_50]; decide) (by rw [n_50]; decide) (by omega) (zq_p (Z 50 (by omega)) (by omega)) (vl_s (vo_r (by omega)) (vl_s (vo_r (by omega)) (vl_s (vo_r (by omega)) vl_0))) (vs_s (vo_r (by omega)) vs_0) ?_
  refine sk_putF dX0_init_18 fk_RX0_15 (by decide) rfl (by decide) (fun q => ⟨rfl, rfl⟩) (fun q hq => by cases hq; exact ⟨rfl, rfl⟩) k_48 (by omega) (Or.inl (by omega)) rfl ?_
  refine sk_aload_n dX0_init_21 rfl rfl ?_
  refine sk_aload_n dX0_init_22 rfl rfl ?_
  refine sk_putF dX0_init_23 fk_RX0_18 (by decide) rfl (by decide) (fun q => ⟨rfl, rfl⟩) (fun q hq => by cases hq; exact ⟨rfl, rfl⟩) k_48 (by omega) (Or.inl (by omega)) rfl ?_
  refine sk_aload_n dX0_init_26 rfl rfl ?_
  refine sk_aload_n dX0_init_27 rfl rfl ?_
  refine sk_putF dX0_init_28 fk_RX0_22 (by decide) rfl (by decide) (fun q => ⟨rfl, rfl⟩) (fun q hq => by cases hq; exact ⟨rfl, rfl⟩) k_48 (by omega) (Or.inl (by omega)) rfl ?_
  refine sk_ret (st := []) dX0_init_31 rfl rfl ?_
  refine cq_fin (base := 48) (fun x k hx => ?_) (fun x k hx1 hx2 hr9 => ?_) (fun x k hx1 hx2 h24 hr9 => ?_) (hm := fun x _ hx2 h12 => absurd (k12 h12) (by omega))
  · rw [rq_o (by omega), rq_o (by omega), rq_o (by omega), rq_o (by omega)]
  · rcases (show x = 48 ∨ x = 49 ∨ x = 50 by omega) with rfl | rfl | rfl
    · rcases iR_0 k_48 hr9 with rfl | rfl | rfl | rfl
      · rw [rq_k (by decide), rq_k (by decide), rq_k (by decide), rq_s, rf_0_0 k_48]
      · rw [rq_k (by decide), rq_s, rf_0_1 k_48]
      · rw [rq_s, rf_0_2 k_48]
      · rw [rq_k (by decide), rq_k (by decide), rq_s, rf_0_3 k_48]
    · exact absurd hr9 (by rw [iR_n k_49 (by decide) (by decide)]; decide)
    · exact absurd hr9 (by rw [iR_n k_50 (by decide) (by decide)]; decide)
  · rcases (show x = 48 ∨ x = 49 ∨ x = 50 by omega) with rfl | rfl | rfl
    · exact absurd h24 (by rw [k_48]; decide)
    · exact absurd h24 (by rw [k_49]; decide)
    · exact absurd h24 (by rw [k_50]; decide)
set_option maxRecDepth 100000 in
set_option maxHeartbeats 4000000 in
theorem kc_X6_init  {d : Nat} {μ : MM} {ρ : RR} (hd9 : 2 ≤ d) (Z : ∀ b, 333 ≤ b → zq_z μ ρ b) (hr : rq_ok 334 ρ) : Ck d mX6_init [av_r 333, av_r 23] 334 μ ρ 341 μ (fl_r ρ 333 341) := by
  obtain ⟨d, rfl⟩ : ∃ e, d = e + 1 := ⟨d - 1, by omega⟩
  refine Ck_of pn_X6 (Nat.le_of_ble_eq_true rfl) (by omega) (by omega) hr ?_
  show Sk (d + 1) mX6_init 334 341 μ (fl_r ρ 333 341) 0 [some (av_r 333), some (av_r 23)] [] 334 μ ρ
  refine sk_aload_n dX6_init_0 rfl rfl ?_
  refine sk_obj dX6_init_1 kl_RX6_3 (Nat.le_of_ble_eq_true rfl) (by omega) ?_
  refine sk_aload_n dX6_init_4 rfl rfl ?_
  refine sk_iconst dX6_init_5 kic_0 ?_
  refine sk_putI dX6_init_6 fk_RX6_9 (by decide) rfl (fun q hq => by cases hq; rfl) k_333 (by omega) ?_
  rw [mm_I0 ((Z 333 (by omega)).1 0)]
  refine sk_aload_n dX6_init_9 rfl rfl ?_
  refine sk_iconst dX6_init_10 kic_0 ?_
  refine sk_putI dX6_init_11 fk_RX6_15 (by decide) rfl (fun q hq => by cases hq; rfl) k_333 (by omega) ?_
  rw [mm_I0 ((Z 333 (by omega)).1 1)]
  refine sk_aload_n dX6_init_14 rfl rfl ?_
  refine sk_iconst dX6_init_15 kic_0 ?_
  refine sk_putI dX6_init_16 fk_RX6_18 (by decide) rfl (fun q hq => by cases hq; rfl) k_333 (by omega) ?_
  rw [mm_I0 ((Z 333 (by omega)).1 2)]
  refine sk_aload_n dX6_init_19 rfl rfl ?_
  refine sk_bipush dX6_init_20 kbp_8 ?_
  refine sk_newaI dX6_init_22 ac_int k_334 (by decide) (by rw [n_334]; decide) (by rw [n_334]; decide) (by omega) (Z 334 (by omega)) (vl_s (vo_r (by omega)) (vl_s (vo_r (by omega)) vl_0)) (vs_s (vo_r (by omega)) vs_0) ?_
  refine sk_putF dX6_init_24 fk_RX6_21 (by decide) rfl (by decide) (fun q => ⟨rfl, rfl⟩) (fun q hq => by cases hq; exact ⟨rfl, rfl⟩) k_333 (by omega) (Or.inl (by omega)) rfl ?_
  refine sk_aload_n dX6_init_27 rfl rfl ?_
  refine sk_bipush dX6_init_28 kbp_8 ?_
  refine sk_newaI dX6_init_30 ac_int k_335 (by decide) (by rw [n_335]; decide) (by rw [n_335]; decide) (by omega) (zq_p (Z 335 (by omega)) (by omega)) (vl_s (vo_r (by omega)) (vl_s (vo_r (by omega)) vl_0)) (vs_s (vo_r (by omega)) vs_0) ?_
  refine sk_putF dX6_init_32 fk_RX6_25 (by decide) rfl (by decide) (fun q => ⟨rfl, rfl⟩) (fun q hq => by cases hq; exact ⟨rfl, rfl⟩) k_333 (by omega) (Or.inl (by omega)) rfl ?_
  refine sk_aload_n dX6_init_35 rfl rfl ?_
  refine sk_bipush dX6_init_36 kbp_6 ?_
  refine sk_newaI dX6_init_38 ac_int k_336 (by decide) (by rw [n_336]; decide) (by rw [n_336]; decide) (by omega) (zq_p (zq_p (Z 336 (by omega)) (by omega)) (by omega)) (vl_s (vo_r (by omega)) (vl_s (vo_r (by omega)) vl_0)) (vs_s (vo_r (by omega)) vs_0) ?_
  refine sk_putF dX6_init_40 fk_RX6_28 (by decide) rfl (by decide) (fun q => ⟨rfl, rfl⟩) (fun q hq => by cases hq; exact ⟨rfl, rfl⟩) k_333 (by omega) (Or.inl (by omega)) rfl ?_
  refine sk_aload_n dX6_init_43 rfl rfl ?_
  refine sk_bipush dX6_init_44 kbp_6 ?_
  refine sk_newaI dX6_init_46 ac_int k_337 (by decide) (by rw [n_337]; decide) (by rw [n_337]; decide) (by omega) (zq_p (zq_p (zq_p (Z 337 (by omega)) (by omega)) (by omega)) (by omega)) (vl_s (vo_r (by omega)) (vl_s (vo_r (by omega)) vl_0)) (vs_s (vo_r (by omega)) vs_0) ?_
  refine sk_putF dX6_init_48 fk_RX6_31 (by decide) rfl (by decide) (fun q => ⟨rfl, rfl⟩) (fun q hq => by cases hq; exact ⟨rfl, rfl⟩) k_333 (by omega) (Or.inl (by omega)) rfl ?_
  refine sk_aload_n dX6_init_51 rfl rfl ?_
  refine sk_bipush dX6_init_52 kbp_6 ?_
  refine sk_newaI dX6_init_54 ac_int k_338 (by decide) (by rw [n_338]; decide) (by rw [n_338]; decide) (by omega) (zq_p (zq_p (zq_p (zq_p (Z 338 (by omega)) (by omega)) (by omega)) (by omega)) (by omega)) (vl_s (vo_r (by omega)) (vl_s (vo_r (by omega)) vl_0)) (vs_s (vo_r (by omega)) vs_0) ?_
  refine sk_putF dX6_init_56 fk_RX6_34 (by decide) rfl (by decide) (fun q => ⟨rfl, rfl⟩) (fun q hq => by cases hq; exact ⟨rfl, rfl⟩) k_333 (by omega) (Or.inl (by omega)) rfl ?_
  refine sk_aload_n dX6_init_59 rfl rfl ?_
  refine sk_bipush dX6_init_60 kbp_7 ?_
  refine sk_newaI dX6_init_62 ac_int k_339 (by decide) (by rw [n_339]; decide) (by rw [n_339]; decide) (by omega) (zq_p (zq_p (zq_p (zq_p (zq_p (Z 339 (by omega)) (by omega)) (by omega)) (by omega)) (by omega)) (by omega)) (vl_s (vo_r (by omega)) (vl_s (vo_r (by omega)) vl_0)) (vs_s (vo_r (by omega)) vs_0) ?_
  refine sk_putF dX6_init_64 fk_RX6_37 (by decide) rfl (by decide) (fun q => ⟨rfl, rfl⟩) (fun q hq => by cases hq; exact ⟨rfl, rfl⟩) k_333 (by omega) (Or.inl (by omega)) rfl ?_
  refine sk_aload_n dX6_init_67 rfl rfl ?_
  refine sk_bipush dX6_init_68 kbp_6 ?_
  refine sk_newaI dX6_init_70 ac_int k_340 (by decide) (by rw [n_340]; decide) (by rw [n_340]; decide) (by omega) (zq_p (zq_p (zq_p (zq_p (zq_p (zq_p (Z 340 (by omega)) (by omega)) (by omega)) (by omega)) (by omega)) (by omega)) (by omega)) (vl_s (vo_r (by omega)) (vl_s (vo_r (by omega)) vl_0)) (vs_s (vo_r (by omega)) vs_0) ?_
  refine sk_putF dX6_init_72 fk_RX6_40 (by decide) rfl (by decide) (fun q => ⟨rfl, rfl⟩) (fun q hq => by cases hq; exact ⟨rfl, rfl⟩) k_333 (by omega) (Or.inl (by omega)) rfl ?_
  refine sk_aload_n dX6_init_75 rfl rfl ?_
  refine sk_aload_n dX6_init_76 rfl rfl ?_
  refine sk_putF dX6_init_77 fk_RX6_43 (by decide) rfl (by decide) (fun q => ⟨rfl, rfl⟩) (fun q hq => by cases hq; exact ⟨rfl, rfl⟩) k_333 (by omega) (Or.inl (by omega)) rfl ?_
  refine sk_ret (st := []) dX6_init_80 rfl rfl ?_
  refine cq_fin (base := 333) (fun x k hx => ?_) (fun x k hx1 hx2 hr9 => ?_) (fun x k hx1 hx2 h24 hr9 => ?_) (hm := fun x _ hx2 h12 => absurd (k12 h12) (by omega))
  · rw [rq_o (by omega), rq_o (by omega), rq_o (by omega), rq_o (by omega), rq_o (by omega), rq_o (by omega), rq_o (by omega), rq_o (by omega)]
  · rcases (show x = 333 ∨ x = 334 ∨ x = 335 ∨ x = 336 ∨ x = 337 ∨ x = 338 ∨ x = 339 ∨ x = 340 by omega) with rfl | rfl | rfl | rfl | rfl | rfl | rfl | rfl
    · rcases iR_6 k_333 hr9 with rfl | rfl | rfl | rfl | rfl | rfl | rfl | rfl
      · rw [rq_s, rf_6_3 k_333]
      · rw [rq_k (by decide), rq_k (by decide), rq_k (by decide), rq_k (by decide), rq_k (by decide), rq_k (by decide), rq_k (by decide), rq_s, rf_6_4 k_333]
      · rw [rq_k (by decide), rq_k (by decide), rq_k (by decide), rq_k (by decide), rq_k (by decide), rq_k (by decide), rq_s, rf_6_5 k_333]
      · rw [rq_k (by decide), rq_k (by decide), rq_k (by decide), rq_k (by decide), rq_k (by decide), rq_s, rf_6_6 k_333]
      · rw [rq_k (by decide), rq_k (by decide), rq_k (by decide), rq_k (by decide), rq_s, rf_6_7 k_333]
      · rw [rq_k (by decide), rq_k (by decide), rq_k (by decide), rq_s, rf_6_8 k_333]
      · rw [rq_k (by decide), rq_k (by decide), rq_s, rf_6_9 k_333]
      · rw [rq_k (by decide), rq_s, rf_6_10 k_333]
    · exact absurd hr9 (by rw [iR_n k_334 (by decide) (by decide)]; decide)
    · exact absurd hr9 (by rw [iR_n k_335 (by decide) (by decide)]; decide)
    · exact absurd hr9 (by rw [iR_n k_336 (by decide) (by decide)]; decide)
    · exact absurd hr9 (by rw [iR_n k_337 (by decide) (by decide)]; decide)
    · exact absurd hr9 (by rw [iR_n k_338 (by decide) (by decide)]; decide)
    · exact absurd hr9 (by rw [iR_n k_339 (by decide) (by decide)]; decide)
    · exact absurd hr9 (by rw [iR_n k_340 (by decide) (by decide)]; decide)
  · rcases (show x = 333 ∨ x = 334 ∨ x = 335 ∨ x = 336 ∨ x = 337 ∨ x = 338 ∨ x = 339 ∨ x = 340 by omega) with rfl | rfl | rfl | rfl | rfl | rfl | rfl | rfl
    · exact absurd h24 (by rw [k_333]; decide)
    · exact absurd h24 (by rw [k_334]; decide)
    · exact absurd h24 (by rw [k_335]; decide)
    · exact absurd h24 (by rw [k_336]; decide)
    · exact absurd h24 (by rw [k_337]; decide)
    · exact absurd h24 (by rw [k_338]; decide)
    · exact absurd h24 (by rw [k_339]; decide)
    · exact absurd h24 (by rw [k_340]; decide)
set_option maxRecDepth 100000 in
set_option maxHeartbeats 4000000 in
theorem kc_X2_init  {d : Nat} {μ : MM} {ρ : RR} (hd9 : 2 ≤ d) (Z : ∀ b, 341 ≤ b → zq_z μ ρ b) (hr : rq_ok 342 ρ) : Ck d mX2_init [av_r 341, av_r 23] 342 μ ρ 346 μ (fl_r ρ 341 346) := by
  obtain ⟨d, rfl⟩ : ∃ e, d = e + 1 := ⟨d - 1, by omega⟩
  refine Ck_of pn_X2 (Nat.le_of_ble_eq_true rfl) (by omega) (by omega) hr ?_
  show Sk (d + 1) mX2_init 342 346 μ (fl_r ρ 341 346) 0 [some (av_r 341), some (av_r 23)] [] 342 μ ρ
  refine sk_aload_n dX2_init_0 rfl rfl ?_
  refine sk_obj dX2_init_1 kl_RX2_3 (Nat.le_of_ble_eq_true rfl) (by omega) ?_
  refine sk_aload_n dX2_init_4 rfl rfl ?_
  refine sk_iconst dX2_init_5 kic_0 ?_
  refine sk_putI dX2_init_6 fk_RX2_9 (by decide) rfl (fun q hq => by cases hq; rfl) k_341 (by omega) ?_
  rw [mm_I0 ((Z 341 (by omega)).1 0)]
  refine sk_aload_n dX2_init_9 rfl rfl ?_
  refine sk_bipush dX2_init_10 kbp_10 ?_
  refine sk_newaI dX2_init_12 ac_int k_342 (by decide) (by rw [n_342]; decide) (by rw [n_342]; decide) (by omega) (Z 342 (by omega)) (vl_s (vo_r (by omega)) (vl_s (vo_r (by omega)) vl_0)) (vs_s (vo_r (by omega)) vs_0) ?_
  refine sk_putF dX2_init_14 fk_RX2_15 (by decide) rfl (by decide) (fun q => ⟨rfl, rfl⟩) (fun q hq => by cases hq; exact ⟨rfl, rfl⟩) k_341 (by omega) (Or.inl (by omega)) rfl ?_
  refine sk_aload_n dX2_init_17 rfl rfl ?_
  refine sk_bipush dX2_init_18 kbp_10 ?_
  refine sk_newaI dX2_init_20 ac_int k_343 (by decide) (by rw [n_343]; decide) (by rw [n_343]; decide) (by omega) (zq_p (Z 343 (by omega)) (by omega)) (vl_s (vo_r (by omega)) (vl_s (vo_r (by omega)) vl_0)) (vs_s (vo_r (by omega)) vs_0) ?_
  refine sk_putF dX2_init_22 fk_RX2_19 (by decide) rfl (by decide) (fun q => ⟨rfl, rfl⟩) (fun q hq => by cases hq; exact ⟨rfl, rfl⟩) k_341 (by omega) (Or.inl (by omega)) rfl ?_
  refine sk_aload_n dX2_init_25 rfl rfl ?_
  refine sk_bipush dX2_init_26 kbp_10 ?_
  refine sk_newaZ dX2_init_28 ac_boolean k_344 (by decide) (by rw [n_344]; decide) (by rw [n_344]; decide) (by omega) (zq_p (zq_p (Z 344 (by omega)) (by omega)) (by omega)) (vl_s (vo_r (by omega)) (vl_s (vo_r (by omega)) vl_0)) (vs_s (vo_r (by omega)) vs_0) ?_
  refine sk_putF dX2_init_30 fk_RX2_22 (by decide) rfl (by decide) (fun q => ⟨rfl, rfl⟩) (fun q hq => by cases hq; exact ⟨rfl, rfl⟩) k_341 (by omega) (Or.inl (by omega)) rfl ?_
  refine sk_aload_n dX2_init_33 rfl rfl ?_
  refine sk_bipush dX2_init_34 kbp_8 ?_
  refine sk_newaI dX2_init_36 ac_int k_345 (by decide) (by rw [n_345]; decide) (by rw [n_345]; decide) (by omega) (zq_p (zq_p (zq_p (Z 345 (by omega)) (by omega)) (by omega)) (by omega)) (vl_s (vo_r (by omega)) (vl_s (vo_r (by omega)) vl_0)) (vs_s (vo_r (by omega)) vs_0) ?_
  refine sk_putF dX2_init_38 fk_RX2_26 (by decide) rfl (by decide) (fun q => ⟨rfl, rfl⟩) (fun q hq => by cases hq; exact ⟨rfl, rfl⟩) k_341 (by omega) (Or.inl (by omega)) rfl ?_
  refine sk_aload_n dX2_init_41 rfl rfl ?_
  refine sk_iconst dX2_init_42 kic_0 ?_
  refine sk_putI dX2_init_43 fk_RX2_29 (by decide) rfl (fun q hq => by cases hq; rfl) k_341 (by omega) ?_
  rw [mm_I0 ((Z 341 (by omega)).1 6)]
  refine sk_aload_n dX2_init_46 rfl rfl ?_
  refine sk_iconst dX2_init_47 kic_0 ?_
  refine sk_putI dX2_init_48 fk_RX2_32 (by decide) rfl (fun q hq => by cases hq; rfl) k_341 (by omega) ?_
  rw [mm_I0 ((Z 341 (by omega)).1 7)]
  refine sk_aload_n dX2_init_51 rfl rfl ?_
  refine sk_iconst dX2_init_52 kic_0 ?_
  refine sk_putI dX2_init_53 fk_RX2_35 (by decide) rfl (fun q hq => by cases hq; rfl) k_341 (by omega) ?_
  rw [mm_I0 ((Z 341 (by omega)).1 8)]
  refine sk_aload_n dX2_init_56 rfl rfl ?_
  refine sk_iconst dX2_init_57 kic_0 ?_
  refine sk_putI dX2_init_58 fk_RX2_38 (by decide) rfl (fun q hq => by cases hq; rfl) k_341 (by omega) ?_
  rw [mm_I0 ((Z 341 (by omega)).1 9)]
  refine sk_aload_n dX2_init_61 rfl rfl ?_
  refine sk_iconst dX2_init_62 kic_0 ?_
  refine sk_putI dX2_init_63 fk_RX2_41 (by decide) rfl (fun q hq => by cases hq; rfl) k_341 (by omega) ?_
  rw [mm_I0 ((Z 341 (by omega)).1 10)]
  refine sk_aload_n dX2_init_66 rfl rfl ?_
  refine sk_iconst dX2_init_67 kic_0 ?_
  refine sk_putI dX2_init_68 fk_RX2_44 (by decide) rfl (fun q hq => by cases hq; rfl) k_341 (by omega) ?_
  rw [mm_I0 ((Z 341 (by omega)).1 11)]
  refine sk_aload_n dX2_init_71 rfl rfl ?_
  refine sk_iconst dX2_init_72 kic_0 ?_
  refine sk_putI dX2_init_73 fk_RX2_47 (by decide) rfl (fun q hq => by cases hq; rfl) k_341 (by omega) ?_
  rw [mm_I0 ((Z 341 (by omega)).1 12)]
  refine sk_aload_n dX2_init_76 rfl rfl ?_
  refine sk_aload_n dX2_init_77 rfl rfl ?_
  refine sk_putF dX2_init_78 fk_RX2_50 (by decide) rfl (by decide) (fun q => ⟨rfl, rfl⟩) (fun q hq => by cases hq; exact ⟨rfl, rfl⟩) k_341 (by omega) (Or.inl (by omega)) rfl ?_
  refine sk_ret (st := []) dX2_init_81 rfl rfl ?_
  refine cq_fin (base := 341) (fun x k hx => ?_) (fun x k hx1 hx2 hr9 => ?_) (fun x k hx1 hx2 h24 hr9 => ?_) (hm := fun x _ hx2 h12 => absurd (k12 h12) (by omega))
  · rw [rq_o (by omega), rq_o (by omega), rq_o (by omega), rq_o (by omega), rq_o (by omega)]
  · rcases (show x = 341 ∨ x = 342 ∨ x = 343 ∨ x = 344 ∨ x = 345 by omega) with rfl | rfl | rfl | rfl | rfl
    · rcases iR_2 k_341 hr9 with rfl | rfl | rfl | rfl | rfl
      · rw [rq_s, rf_2_1 k_341]
      · rw [rq_k (by decide), rq_k (by decide), rq_k (by decide), rq_k (by decide), rq_s, rf_2_2 k_341]
      · rw [rq_k (by decide), rq_k (by decide), rq_k (by decide), rq_s, rf_2_3 k_341]
      · rw [rq_k (by decide), rq_k (by decide), rq_s, rf_2_4 k_341]
      · rw [rq_k (by decide), rq_s, rf_2_5 k_341]
    · exact absurd hr9 (by rw [iR_n k_342 (by decide) (by decide)]; decide)
    · exact absurd hr9 (by rw [iR_n k_343 (by decide) (by decide)]; decide)
    · exact absurd hr9 (by rw [iR_n k_344 (by decide) (by decide)]; decide)
    · exact absurd hr9 (by rw [iR_n k_345 (by decide) (by decide)]; decide)
  · rcases (show x = 341 ∨ x = 342 ∨ x = 343 ∨ x = 344 ∨ x = 345 by omega) with rfl | rfl | rfl | rfl | rfl
    · exact absurd h24 (by rw [k_341]; decide)
    · exact absurd h24 (by rw [k_342]; decide)
    · exact absurd h24 (by rw [k_343]; decide)
    · exact absurd h24 (by rw [k_344]; decide)
    · exact absurd h24 (by rw [k_345]; decide)
/-! History(): forty shelves -/
def hi_r (ρ : RR) (i : Nat) : RR := fun x k => if x = 51 ∧ k = 2 then some 52 else if x = 52 ∧ k < i then some (53 + 7 * k) else if 53 ≤ x ∧ x < 53 + 7 * i ∧ is_R x k = true then some (rf_s x k) else ρ x k
theorem hi_k : ∀ j, j < 40 → sh_k (53 + 7 * j) = 7 ∧ sh_n (53 + 7 * j + 2) = 6 ∧ sh_n (53 + 7 * j + 3) = 36 ∧ sh_n (53 + 7 * j + 4) = 36 ∧ sh_n (53 + 7 * j + 5) = 36 := by decide +kernel
theorem hi_0 (ρ : RR) : rq_p ρ 51 2 52 = hi_r ρ 0 := by
  funext x k
  unfold rq_p hi_r
  by_cases h1 : x = 51
  · subst h1
    by_cases h2 : k = 2
    · simp [h2]
    · simp [h2]
  · rw [if_neg h1, if_neg (by omega), if_neg (by omega), if_neg (by omega)]
theorem hi_a {ρ : RR} {i k : Nat} (h : k < i) : hi_r ρ i 52 k = some (53 + 7 * k) := by
  unfold hi_r
  rw [if_neg (by omega), if_pos ⟨rfl, h⟩]
theorem hi_an {ρ : RR} {i k : Nat} (h : ¬ k < i) : hi_r ρ i 52 k = ρ 52 k := by
  unfold hi_r
  rw [if_neg (by omega), if_neg (by omega), if_neg (by omega)]
theorem hi_b {ρ : RR} {i x k : Nat} (h1 : 53 ≤ x) (h2 : x < 53 + 7 * i) (h3 : is_R x k = true) : hi_r ρ i x k = some (rf_s x k) := by
  unfold hi_r
  rw [if_neg (by omega), if_neg (by omega), if_pos ⟨h1, h2, h3⟩]
theorem hi_bn {ρ : RR} {i x k : Nat} (h1 : 53 ≤ x) (h2 : ¬ (x < 53 + 7 * i ∧ is_R x k = true)) : hi_r ρ i x k = ρ x k := by
  unfold hi_r
  rw [if_neg (by omega), if_neg (by omega), if_neg (fun h => h2 h.2)]
theorem hi_l {ρ : RR} {i x k : Nat} (h1 : x < 51) : hi_r ρ i x k = ρ x k := by
  unfold hi_r
  rw [if_neg (by omega), if_neg (by omega), if_neg (by omega)]
theorem hi_m {ρ : RR} {i j k : Nat} : hi_r ρ i 51 k = hi_r ρ j 51 k := by
  unfold hi_r
  by_cases h : k = 2
  · simp [h]
  · simp [h]
theorem hi_s (ρ : RR) (i : Nat) : rq_p (fl_r (hi_r ρ i) (53 + 7 * i) (53 + 7 * i + 7)) 52 i (53 + 7 * i) = hi_r ρ (i + 1) := by
  funext x k
  by_cases h1 : x = 52
  · subst h1
    by_cases h2 : k = i
    · subst h2
      rw [rq_s, hi_a (by omega)]
    · rw [rq_k h2, fl_o (by omega)]
      by_cases h3 : k < i
      · rw [hi_a h3, hi_a (by omega)]
      · rw [hi_an h3, hi_an (by omega)]
  · rw [rq_o h1]
    by_cases h2 : 53 + 7 * i ≤ x ∧ x < 53 + 7 * i + 7
    · by_cases hr : is_R x k = true
      · rw [fl_i h2.1 h2.2 hr, hi_b (by omega) (by omega) hr]
      · rw [fl_n hr, hi_bn (by omega) (fun h => hr h.2), hi_bn (by omega) (fun h => hr h.2)]
    · rw [fl_o (by omega)]
      by_cases h3 : x < 51
      · rw [hi_l h3, hi_l h3]
      · by_cases h4 : x = 51
        · subst h4
          exact hi_m
        · by_cases hr : is_R x k = true
          · by_cases h5 : x < 53 + 7 * i
            · rw [hi_b (by omega) h5 hr, hi_b (by omega) (by omega) hr]
            · rw [hi_bn (by omega) (fun h => h5 h.1), hi_bn (by omega) (fun h => absurd h.1 (by omega))]
          · rw [hi_bn (by omega) (fun h => hr h.2), hi_bn (by omega) (fun h => hr h.2)]
theorem hi_z {μ : MM} {ρ : RR} (Z : ∀ b, 51 ≤ b → zq_z μ ρ b) (i b : Nat) (h : 53 + 7 * i ≤ b) : zq_z μ (hi_r ρ i) b := by
  have z := Z b (by omega)
  refine ⟨z.1, z.2.1, fun k => ?_⟩
  unfold hi_r
  rw [if_neg (by omega), if_neg (by omega), if_neg (by omega)]
  exact z.2.2 k
set_option maxRecDepth 100000 in
set_option maxHeartbeats 4000000 in
theorem kc_Hi_loop {d : Nat} {μ : MM} {ρ : RR} (hd9 : 3 ≤ d) (Z : ∀ b, 51 ≤ b → zq_z μ ρ b) : ∀ r i : Nat, i + r = 40 → rq_ok (53 + 7 * i) (hi_r ρ i) → Sk (d + 1) mX3_init 52 333 μ (fl_r ρ 51 333) 25 [some (av_r 51), some (av_i (nI i))] [] (53 + 7 * i) μ (hi_r ρ i) := by
  intro r
  induction r with
  | zero =>
    intro i hi hq
    have : i = 40 := by omega
    subst this
    refine sk_iload_n dX3_init_25 rfl rfl ?_
    refine sk_bipush dX3_init_26 kbp_40 ?_
    refine sk_icmp_ge (tgt := 50) dX3_init_28 (by decide) (fun _ => ?_) (fun q => absurd (by decide) q)
    refine sk_ret (st := []) dX3_init_50 rfl rfl ?_
    refine cq_fin (base := 51) (fun x k hx => ?_) (fun x k hx1 hx2 hr9 => ?_) (fun x k hx1 hx2 h24 hr9 => ?_) (hm := fun x _ hx2 h12 => absurd (k12 h12) (by omega))
    · unfold hi_r
      rw [if_neg (by omega), if_neg (by omega), if_neg (by omega)]
    · rcases (show x = 51 ∨ x = 52 ∨ (53 ≤ x ∧ x < 333) by omega) with rfl | rfl | ⟨e1, e2⟩
      · rcases iR_3 k_51 hr9 with rfl
        unfold hi_r
        rw [if_pos ⟨rfl, rfl⟩, rf_3_2 k_51]
      · have hk : k < 40 := by
          have : sh_n 52 = 40 := n_52
          unfold is_R at hr9
          simp only [Bool.and_eq_true, decide_eq_true_eq] at hr9
          omega
        unfold hi_r
        rw [if_neg (by omega), if_pos ⟨rfl, hk⟩, rf_24 k_52]
      · unfold hi_r
        rw [if_neg (by omega), if_neg (by omega), if_pos ⟨e1, by omega, hr9⟩]
    · rcases (show x = 51 ∨ x = 52 ∨ (53 ≤ x ∧ x < 333) by omega) with rfl | rfl | ⟨e1, e2⟩
      · exact absurd h24 (by rw [k_51]; decide)
      · have hk : ¬ k < 40 := by
          intro hk
          apply hr9
          unfold is_R
          rw [n_52, k_52]
          simp [hk]
        unfold hi_r
        rw [if_neg (by omega), if_neg (by omega), if_neg (by omega)]
      · unfold hi_r
        rw [if_neg (by omega), if_neg (by omega), if_neg (fun h => hr9 h.2.2)]
  | succ r ih =>
    intro i hi hq
    have hlt : i < 40 := by omega
    obtain ⟨hk7, hz2, hz3, hz4, hz5⟩ := hi_k i hlt
    refine sk_iload_n dX3_init_25 rfl rfl ?_
    refine sk_bipush dX3_init_26 kbp_40 ?_
    refine sk_icmp_ge (tgt := 50) dX3_init_28 (by decide) (fun q => absurd q (nI_ge (a := i) (b := 40) hlt (by decide))) (fun _ => ?_)
    refine sk_aload_n dX3_init_31 rfl rfl ?_
    refine sk_getR dX3_init_32 fk_RX3_20 (by decide) (by decide) k_51 (by omega) (by unfold hi_r; rw [if_pos ⟨rfl, rfl⟩]) ?_
    refine sk_iload_n dX3_init_35 rfl rfl ?_
    refine sk_new dX3_init_36 nw_RX3_18 hk7 (by decide) (by omega) (hi_z Z i _ (by omega)) (vl_s (vo_r (by omega)) (vl_s vo_i vl_0)) (vs_s vo_i (vs_s (vo_r (by omega)) vs_0)) ?_
    refine sk_dup dX3_init_39 rfl ?_
    have hq1 : rq_ok (53 + 7 * i + 1) (hi_r ρ i) := rq_up hq (by omega)
    have hr1 : rq_ok (53 + 7 * i + 7) (fl_r (hi_r ρ i) (53 + 7 * i) (53 + 7 * i + 7)) := rq_fb hk7 (by omega) hq1 (by omega) (bl_c_7 hk7)
    refine sk_callN dX3_init_40 ci_X7_init kl_RX3_24 (as := []) (m1 := 53 + 7 * i + 7) rfl (Nat.le_of_ble_eq_true rfl) rfl (by omega) (by omega) (vl_s (vo_r (by omega)) (vl_s vo_i vl_0)) (vs_s (vo_r (by omega)) (vs_s vo_i (vs_s (vo_r (by omega)) vs_0))) hr1 (kc_Sh (s := 53 + 7 * i) (by omega) hk7 hz2 hz3 hz4 hz5 (fun b hb => hi_z Z i b hb) hq1) ?_
    refine sk_aast dX3_init_43 k_52 hk7 (by rw [n_52]; exact vp_in_nI hlt (by decide)) (by omega) (by omega) ?_
    rw [nI_clamp (by omega), hi_s]
    refine sk_iinc dX3_init_44 rfl (show nI i + Int32.ofInt 1 = nI (i + 1) from nI_1 i) (Nat.le_of_ble_eq_true rfl) (pv_r rfl) ?_
    refine sk_goto (tgt := 25) dX3_init_47 (by decide) ?_
    have hq2 : rq_ok (53 + 7 * (i + 1)) (hi_r ρ (i + 1)) := by
      rw [← hi_s]
      exact rq_pok (rq_up hr1 (by omega)) (Or.inl (by omega))
    have := ih (i + 1) (by omega) hq2
    rw [show 53 + 7 * (i + 1) = 53 + 7 * i + 7 by omega] at this
    exact Sk_weak (le_s rfl (le_s rfl le_0)) this
set_option maxRecDepth 100000 in
set_option maxHeartbeats 4000000 in
theorem kc_X3_init {d : Nat} {μ : MM} {ρ : RR} (hd9 : 4 ≤ d) (Z : ∀ b, 51 ≤ b → zq_z μ ρ b) (hr : rq_ok 52 ρ) : Ck d mX3_init [av_r 51] 52 μ ρ 333 μ (fl_r ρ 51 333) := by
  obtain ⟨d, rfl⟩ : ∃ e, d = e + 1 := ⟨d - 1, by omega⟩
  refine Ck_of pn_X3 (Nat.le_of_ble_eq_true rfl) (by omega) (by omega) hr ?_
  show Sk (d + 1) mX3_init 52 333 μ (fl_r ρ 51 333) 0 [some (av_r 51), none] [] 52 μ ρ
  refine sk_aload_n dX3_init_0 rfl rfl ?_
  refine sk_obj dX3_init_1 kl_RX3_3 (Nat.le_of_ble_eq_true rfl) (by omega) ?_
  refine sk_aload_n dX3_init_4 rfl rfl ?_
  refine sk_iconst dX3_init_5 kic_0 ?_
  refine sk_putI dX3_init_6 fk_RX3_9 (by decide) rfl (fun q hq => by cases hq; rfl) k_51 (by omega) ?_
  rw [mm_I0 ((Z 51 (by omega)).1 0)]
  refine sk_aload_n dX3_init_9 rfl rfl ?_
  refine sk_iconst dX3_init_10 kic_0 ?_
  refine sk_putI dX3_init_11 fk_RX3_15 (by decide) rfl (fun q hq => by cases hq; rfl) k_51 (by omega) ?_
  rw [mm_I0 ((Z 51 (by omega)).1 1)]
  refine sk_aload_n dX3_init_14 rfl rfl ?_
  refine sk_bipush dX3_init_15 kbp_40 ?_
  refine sk_anew dX3_init_17 kw_RX3_18 k_52 (by decide) (by rw [n_52]; decide) (by rw [n_52]; decide) (by omega) (Z 52 (by omega)) (vl_s (vo_r (by omega)) (vl_n vl_0)) (vs_s (vo_r (by omega)) vs_0) ?_
  refine sk_putF dX3_init_20 fk_RX3_20 (by decide) rfl (by decide) (fun q => ⟨rfl, rfl⟩) (fun q hq => by cases hq; exact ⟨rfl, rfl⟩) k_51 (by omega) (Or.inl (by omega)) rfl ?_
  refine sk_iconst dX3_init_23 kic_0 ?_
  refine sk_istore_n dX3_init_24 rfl (Nat.le_of_ble_eq_true rfl) (pv_r rfl) ?_
  have hq0 : rq_ok (53 + 7 * 0) (hi_r ρ 0) := by
    rw [← hi_0]
    exact rq_pok (rq_up hr (by omega)) (Or.inl (by omega))
  rw [hi_0]
  exact Sk_weak (le_s rfl (le_s rfl le_0)) (kc_Hi_loop (by omega) Z 40 0 (by omega) hq0)
