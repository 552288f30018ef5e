/-! Laws(): the grid of code -/
theorem kw_mna : Cond.classLink RX5 24 "[[I" ∈ lw_tbl := by decide +kernel
theorem k4_laws : ∀ i, i < 4 → sh_k (37 + i) = 20 ∧ sh_n (37 + i) = 240 := by decide +kernel
theorem iR_36 {k : Nat} (h : k < 4) : is_R 36 k = true := by
  have : ∀ k, k < 4 → is_R 36 k = true := by decide +kernel
  exact this k h
theorem iR_36n {k : Nat} (h : ¬ k < 4) : ¬ is_R 36 k = true := by
  unfold is_R
  rw [n_36]
  simp [h]
def ad_5 (ad : Nat → Nat) (q : Nat) (r : Nat → Nat) : Nat → Nat := fun b => if b = 36 then q else if 37 ≤ b ∧ b < 41 then r (b - 37) else ad b
theorem wq_5 {ad : Nat → Nat} {tc : Nat → ClassId} {μ : MM} {ρ : RR} : wq_w 41 ad tc μ ρ = wq_w 36 ad tc μ ρ ++ [(ad 36, cq_e ad tc μ ρ 36)] ++ (List.range 4).map (fun i => (ad (37 + i), cq_e ad tc μ ρ (37 + i))) := by
  rw [wq_succ (nx := 40), wq_succ (nx := 39), wq_succ (nx := 38), wq_succ (nx := 37), wq_succ (nx := 36)]
  simp only [List.append_assoc]
  rfl
set_option maxRecDepth 100000 in
set_option maxHeartbeats 4000000 in
theorem sk_mna {d : Nat} {μ1 : MM} {ρ1 : RR} {st : List AV} {μ : MM} {ρ : RR} (hz : ∀ b, 36 ≤ b → zq_z μ ρ b) (hvs : vq_S 36 st) (k : Sk d mX5_init 35 43 μ1 ρ1 31 [some (av_r 34)] (av_r 36 :: st) 41 μ (fl_r ρ 36 41)) : Sk d mX5_init 35 43 μ1 ρ1 27 [some (av_r 34)] (av_i 240 :: av_i 4 :: st) 36 μ ρ := by
  intro p l e R s m args below meth c ad0 tc D A C ad H locs la hg h0 h1 hrq hP hD hS hl
  obtain ⟨hx, hb, hml, hr, hlk2, hown, hts, hK, hro, hA, hf, hlc, hcl, hsl, hne, hao, hnm, h1k⟩ := id C
  have s41 : ss_n 41 = ss_n 36 + 964 := by decide +kernel
  have s43 : ss_n 41 ≤ ss_n 43 := ss_le (by decide)
  have s35 : ss_n 35 ≤ ss_n 36 := ss_le (by decide)
  have hP0 : va_P D vwCl (wq_w 36 ad tc μ ρ ++ va_pl [] (fun _ => .inr (0, []))) H := by
    show va_P D vwCl (wq_w 36 ad tc μ ρ ++ []) H
    rw [List.append_nil]; exact hP
  have hD0 : va_D A (wq_w 36 ad tc μ ρ ++ va_pl [] (fun _ => .inr (0, []))) := by
    show va_D A (wq_w 36 ad tc μ ρ ++ [])
    rw [List.append_nil]; exact hD
  refine va_mna (X := wq_w 36 ad tc μ ρ) (L := []) (f := fun _ => .inr (0, [])) (cy := tc 20) (ty := .int) (N' := 4) (K' := 240) (z := (240, .inl (fun _ => 0))) (cells := 36 - 35) (slots := ss_n 36 - ss_n 35) hx hb hown (hts _ (GW_in kw_mna rfl)) hao.2 (hts _ (GW_in ac_int rfl)) (hK.2 0 _ rfl).2 hK hP0 hD0 hS hA (by decide) (by decide) (by decide) (by decide) (by decide) (by decide) (by decide) rfl rfl (by omega) (by omega) (fun c => by
    show ({ cls := c, slots := Array.replicate 240 (defaultValue .int), vm := .none } : Cell) = _
    rw [arrV_new]; rfl) dX5_init_27 (fun q r cA H1 hinj hnl hK1 hP1 hD1 hS1 => ?_)
  have hcA : cA = tc 25 := by
    have h5 := (hK1.2 6 (cA, .array .int) rfl).2
    have h6 := (hK.2 5 _ rfl).2
    exact Option.some.inj (h5.symm.trans h6)
  subst hcA
  have hag : ∀ b, b < 36 ∨ 1000 ≤ b → ad_5 ad q r b = ad b := fun b hb2 => by
    unfold ad_5
    rw [if_neg (by omega), if_neg (by omega)]
  have hrq5 : rq_ok 41 (fl_r ρ 36 41) := rq_fb k_36 (Or.inr rfl) hrq (by omega) (bl_c_25 k_36)
  have eo : cq_e (ad_5 ad q r) tc μ (fl_r ρ 36 41) 36 = .inl (tc 25, 4, .inr (.inr (.inr (.inr (fun i => if i < 4 then some (r i) else none))))) := by
    rw [cq_e, if_neg (by rw [k_36]; decide), cq_a, if_neg (by rw [k_36]; decide), if_pos (by rw [k_36]; decide), k_36, n_36]
    have e9 : (fun j => (fl_r ρ 36 41 36 j).map (ad_5 ad q r)) = fun i => if i < 4 then some (r i) else none := by
      funext j
      by_cases hj : j < 4
      · rw [fl_i (by decide) (by decide) (iR_36 hj), rf_25 k_36, if_pos hj]
        show some (ad_5 ad q r (37 + j)) = some (r j)
        unfold ad_5
        rw [if_neg (by omega), if_pos (by omega), show 37 + j - 37 = j by omega]
      · rw [fl_n (iR_36n hj), (hz 36 (by decide)).2.2 j, if_neg hj]
        rfl
    rw [e9]
  have ei : ∀ i, i < 4 → cq_e (ad_5 ad q r) tc μ (fl_r ρ 36 41) (37 + i) = .inl (tc 20, 240, .inl (fun _ => 0)) := fun i hi => by
    obtain ⟨k1, k2⟩ := k4_laws i hi
    rw [cq_e, if_neg (by omega), cq_a, if_neg (by omega), if_neg (by omega), k1, k2, show μ.1 (37 + i) = fun _ => 0 from funext (hz (37 + i) (by omega)).1]
  have e36 : wq_w 36 (ad_5 ad q r) tc μ (fl_r ρ 36 41) = wq_w 36 ad tc μ ρ := wq_eq (fun a ha => ⟨hag a (Or.inl ha), (cq_ext (fun _ k _ _ => fl_o (Or.inl ha)) (fun _ j => fl_o (Or.inl ha)) _ tc).trans (cq_ad hrq hag)⟩)
  have eW : (wq_w 36 ad tc μ ρ ++ [(q, .inl (tc 25, 4, .inr (.inr (.inr (.inr (fun i => if i < 4 then some (r i) else none))))))]) ++ va_pl ([] ++ (List.range 4).map r) (vr_up (fun _ => .inr (0, [])) ((List.range 4).map r) (.inl (tc 20, (240, .inl (fun _ => 0))))) = wq_w 41 (ad_5 ad q r) tc μ (fl_r ρ 36 41) := by
    have p2 : va_pl ([] ++ (List.range 4).map r) (vr_up (fun _ => .inr (0, [])) ((List.range 4).map r) (.inl (tc 20, (240, .inl (fun _ => 0))))) = (List.range 4).map (fun i => (ad_5 ad q r (37 + i), cq_e (ad_5 ad q r) tc μ (fl_r ρ 36 41) (37 + i))) := by
      unfold va_pl
      rw [List.nil_append, List.map_map]
      apply List.map_congr_left
      intro i hi
      have hi4 := List.mem_range.mp hi
      show (r i, vr_up _ _ _ (r i)) = (ad_5 ad q r (37 + i), _)
      rw [vr_up_in (List.mem_map.mpr ⟨i, hi, rfl⟩), ei i hi4]
      unfold ad_5
      rw [if_neg (by omega), if_pos (by omega), show 37 + i - 37 = i by omega]
    rw [wq_5, e36, eo, p2]
    rw [show ad_5 ad q r 36 = q from if_pos rfl]
  rw [eW] at hP1 hD1
  have := k p l e R s m args below meth c ad0 tc D A C (ad_5 ad q r) H1 locs la (fun b hb2 => by rw [hag b (hb2.elim (fun z => Or.inl (by omega)) Or.inr)]; exact hg b hb2) (by omega) (by omega) hrq5 hP1 hD1 hS1 (lo_adx hl (fun v hv => vq_ad (vq_Lin (vl_s (vo_r (by omega)) vl_0) v hv) hag))
  rw [show (av_r 36 :: st).map (av_V (ad_5 ad q r)) = .ref q :: st.map (av_V ad) by rw [List.map_cons, vq_map hag hvs]; simp [av_V, ad_5]] at this
  rw [show 41 - 35 = 36 - 35 + 1 + 4 by decide, show ss_n 41 - ss_n 35 = ss_n 36 - ss_n 35 + 4 + 4 * 240 by omega] at this
  exact this

set_option maxRecDepth 100000 in
set_option maxHeartbeats 4000000 in
theorem kc_X5_init  {d : Nat} {μ : MM} {ρ : RR} (hd9 : 2 ≤ d) (Z : ∀ b, 34 ≤ b → zq_z μ ρ b) (hr : rq_ok 35 ρ) : Ck d mX5_init [av_r 34] 35 μ ρ 43 (mm_I μ 34 1 (-1)) (fl_r ρ 34 43) := by
  obtain ⟨d, rfl⟩ : ∃ e, d = e + 1 := ⟨d - 1, by omega⟩
  refine Ck_of pn_X5 (Nat.le_of_ble_eq_true rfl) (by omega) (by omega) hr ?_
  show Sk (d + 1) mX5_init 35 43 (mm_I μ 34 1 (-1)) (fl_r ρ 34 43) 0 [some (av_r 34)] [] 35 μ ρ
  refine sk_aload_n dX5_init_0 rfl rfl ?_
  refine sk_obj dX5_init_1 kl_RX5_3 (Nat.le_of_ble_eq_true rfl) (by omega) ?_
  refine sk_aload_n dX5_init_4 rfl rfl ?_
  refine sk_iconst dX5_init_5 kic_0 ?_
  refine sk_putI dX5_init_6 fk_RX5_9 (by decide) rfl (fun q hq => by cases hq; rfl) k_34 (by omega) ?_
  rw [mm_I0 ((Z 34 (by omega)).1 0)]
  refine sk_aload_n dX5_init_9 rfl rfl ?_
  refine sk_iconst dX5_init_10 kic_m1 ?_
  refine sk_putI dX5_init_11 fk_RX5_15 (by decide) rfl (fun q hq => by cases hq; rfl) k_34 (by omega) ?_
  refine sk_aload_n dX5_init_14 rfl rfl ?_
  refine sk_bipush dX5_init_15 kbp_6 ?_
  refine sk_newaI dX5_init_17 ac_int k_35 (by decide) (by rw [n_35]; decide) (by rw [n_35]; decide) (by omega) (zq_I (Z 35 (by omega)) (by omega)) (vl_s (vo_r (by omega)) vl_0) (vs_s (vo_r (by omega)) vs_0) ?_
  refine sk_putF dX5_init_19 fk_RX5_18 (by decide) rfl (by decide) (fun q => ⟨rfl, rfl⟩) (fun q hq => by cases hq; exact ⟨rfl, rfl⟩) k_34 (by omega) (Or.inl (by omega)) rfl ?_
  refine sk_aload_n dX5_init_22 rfl rfl ?_
  refine sk_iconst dX5_init_23 kic_4 ?_
  refine sk_sipush dX5_init_24 ksp_240 ?_
  refine sk_mna (fun b hb => (zq_p (zq_I (Z b (by omega)) (by omega)) (by omega))) (vs_s (vo_r (by omega)) vs_0) ?_
  refine sk_putF dX5_init_31 fk_RX5_26 (by decide) rfl (by decide) (fun q => ⟨rfl, rfl⟩) (fun q hq => by cases hq; exact ⟨rfl, rfl⟩) k_34 (by omega) (Or.inl (by omega)) rfl ?_
  refine sk_aload_n dX5_init_34 rfl rfl ?_
  refine sk_iconst dX5_init_35 kic_4 ?_
  refine sk_newaI dX5_init_36 ac_int k_41 (by decide) (by rw [n_41]; decide) (by rw [n_41]; decide) (by omega) (zq_p (zq_f (zq_p (zq_I (Z 41 (by omega)) (by omega)) (by omega)) (by omega)) (by omega)) (vl_s (vo_r (by omega)) vl_0) (vs_s (vo_r (by omega)) vs_0) ?_
  refine sk_putF dX5_init_38 fk_RX5_29 (by decide) rfl (by decide) (fun q => ⟨rfl, rfl⟩) (fun q hq => by cases hq; exact ⟨rfl, rfl⟩) k_34 (by omega) (Or.inl (by omega)) rfl ?_
  refine sk_aload_n dX5_init_41 rfl rfl ?_
  refine sk_bipush dX5_init_42 kbp_32 ?_
  refine sk_newaI dX5_init_44 ac_int k_42 (by decide) (by rw [n_42]; decide) (by rw [n_42]; decide) (by omega) (zq_p (zq_p (zq_f (zq_p (zq_I (Z 42 (by omega)) (by omega)) (by omega)) (by omega)) (by omega)) (by omega)) (vl_s (vo_r (by omega)) vl_0) (vs_s (vo_r (by omega)) vs_0) ?_
  refine sk_putF dX5_init_46 fk_RX5_32 (by decide) rfl (by decide) (fun q => ⟨rfl, rfl⟩) (fun q hq => by cases hq; exact ⟨rfl, rfl⟩) k_34 (by omega) (Or.inl (by omega)) rfl ?_
  refine sk_ret (st := []) dX5_init_49 rfl rfl ?_
  refine cq_fin (base := 34) (fun x k hx => ?_) (fun x k hx1 hx2 hr9 => ?_) (fun x k hx1 hx2 h24 hr9 => ?_) (hm := fun x _ hx2 h12 => absurd (k12 h12) (by omega))
  · rw [rq_o (by omega), rq_o (by omega), rq_o (by omega), fl_o (by omega), rq_o (by omega)]
  · rcases (show x = 34 ∨ x = 35 ∨ (36 ≤ x ∧ x < 41) ∨ x = 41 ∨ x = 42 by omega) with rfl | rfl | ⟨e1, e2⟩ | rfl | rfl
    · rcases iR_5 k_34 hr9 with rfl | rfl | rfl | rfl
      · rw [rq_k (by decide), rq_k (by decide), rq_k (by decide), fl_o (by omega), rq_s, rf_5_2 k_34]
      · rw [rq_k (by decide), rq_k (by decide), rq_s, rf_5_3 k_34]
      · rw [rq_k (by decide), rq_s, rf_5_4 k_34]
      · rw [rq_s, rf_5_5 k_34]
    · exact absurd hr9 (by rw [iR_n k_35 (by decide) (by decide)]; decide)
    · rw [rq_o (by omega), rq_o (by omega), rq_o (by omega)]; exact fl_i e1 e2 hr9
    · exact absurd hr9 (by rw [iR_n k_41 (by decide) (by decide)]; decide)
    · exact absurd hr9 (by rw [iR_n k_42 (by decide) (by decide)]; decide)
  · rcases (show x = 34 ∨ x = 35 ∨ (36 ≤ x ∧ x < 41) ∨ x = 41 ∨ x = 42 by omega) with rfl | rfl | ⟨e1, e2⟩ | rfl | rfl
    · exact absurd h24 (by rw [k_34]; decide)
    · exact absurd h24 (by rw [k_35]; decide)
    · rw [rq_o (by omega), rq_o (by omega), rq_o (by omega), fl_n hr9, rq_o (by omega)]
    · exact absurd h24 (by rw [k_41]; decide)
    · exact absurd h24 (by rw [k_42]; decide)
set_option maxRecDepth 100000 in
set_option maxHeartbeats 4000000 in
theorem kc_X11_init  {d : Nat} {μ : MM} {ρ : RR} (hd9 : 7 ≤ d) (Z : ∀ b, 0 ≤ b → zq_z μ ρ b) (hr : rq_ok 1 ρ) : Ck d mX11_init [av_r 0] 1 μ ρ 355 (mm_I μ 34 1 (-1)) (fl_r ρ 0 355) := by
  obtain ⟨d, rfl⟩ : ∃ e, d = e + 1 := ⟨d - 1, by omega⟩
  refine Ck_of pn_X11 (Nat.le_of_ble_eq_true rfl) (by omega) (by omega) hr ?_
  show Sk (d + 1) mX11_init 1 355 (mm_I μ 34 1 (-1)) (fl_r ρ 0 355) 0 [some (av_r 0)] [] 1 μ ρ
  refine sk_aload_n dX11_init_0 rfl rfl ?_
  refine sk_obj dX11_init_1 kl_RX11_1 (Nat.le_of_ble_eq_true rfl) (by omega) ?_
  refine sk_aload_n dX11_init_4 rfl rfl ?_
  refine sk_new dX11_init_5 nw_RX11_7 k_1 (by decide) (by omega) (Z 1 (by omega)) (vl_s (vo_r (by omega)) vl_0) (vs_s (vo_r (by omega)) vs_0) ?_
  refine sk_dup dX11_init_8 rfl ?_
  have hq9 : rq_ok 2 ρ := (rq_up hr (by omega))
  have hr9 : rq_ok 3 (fl_r ρ 1 3) := rq_fb k_1 (by omega) hq9 (by omega) (bl_c_8 k_1)
  refine sk_callN dX11_init_9 ci_X8_init kl_RX11_9 (as := []) (m1 := 3) rfl (Nat.le_of_ble_eq_true rfl) rfl (by omega) (by omega) (vl_s (vo_r (by omega)) vl_0) (vs_s (vo_r (by omega)) (vs_s (vo_r (by omega)) vs_0)) hr9 (kc_X8_init (by omega) (fun b hb => (Z b (by omega))) hq9) ?_
  refine sk_putF dX11_init_12 fk_RX11_10 (by decide) rfl (by decide) (fun q => ⟨rfl, rfl⟩) (fun q hq => by cases hq; exact ⟨rfl, rfl⟩) k_0 (by omega) (Or.inl (by omega)) rfl ?_
  refine sk_aload_n dX11_init_15 rfl rfl ?_
  refine sk_new dX11_init_16 nw_RX11_16 k_3 (by decide) (by omega) (zq_p (zq_f (Z 3 (by omega)) (by omega)) (by omega)) (vl_s (vo_r (by omega)) vl_0) (vs_s (vo_r (by omega)) vs_0) ?_
  refine sk_dup dX11_init_19 rfl ?_
  refine sk_aload_n dX11_init_20 rfl rfl ?_
  refine sk_getR dX11_init_21 fk_RX11_10 (by decide) (by decide) k_0 (by omega) (by rw [rq_s]) ?_
  have hq24 : rq_ok 4 (rq_p (fl_r ρ 1 3) 0 0 1) := (rq_pok (rq_up hr9 (by omega)) (Or.inl (by omega)))
  have hr24 : rq_ok 21 (fl_r (rq_p (fl_r ρ 1 3) 0 0 1) 3 21) := rq_fb k_3 (by omega) hq24 (by omega) (bl_c_9 k_3)
  refine sk_callI dX11_init_24 ci_X9_init kl_RX11_18 (as := [av_r 1]) (m1 := 21) rfl (Nat.le_of_ble_eq_true rfl) rfl (by omega) (by omega) (vl_s (vo_r (by omega)) vl_0) (vs_s (vo_r (by omega)) (vs_s (vo_r (by omega)) vs_0)) hr24 (kc_X9_init (by omega) (fun b hb => (zq_p (zq_f (Z b (by omega)) (by omega)) (by omega))) hq24) ?_
  refine sk_putF dX11_init_27 fk_RX11_21 (by decide) rfl (by decide) (fun q => ⟨rfl, rfl⟩) (fun q hq => by cases hq; exact ⟨rfl, rfl⟩) k_0 (by omega) (Or.inl (by omega)) rfl ?_
  refine sk_aload_n dX11_init_30 rfl rfl ?_
  refine sk_new dX11_init_31 nw_RX11_25 k_21 (by decide) (by omega) (zq_p (zq_f (zq_p (zq_f (Z 21 (by omega)) (by omega)) (by omega)) (by omega)) (by omega)) (vl_s (vo_r (by omega)) vl_0) (vs_s (vo_r (by omega)) vs_0) ?_
  refine sk_dup dX11_init_34 rfl ?_
  refine sk_aload_n dX11_init_35 rfl rfl ?_
  refine sk_getR dX11_init_36 fk_RX11_10 (by decide) (by decide) k_0 (by omega) (by rw [rq_k (by decide), fl_o (by omega), rq_s]) ?_
  have hq39 : rq_ok 22 (rq_p (fl_r (rq_p (fl_r ρ 1 3) 0 0 1) 3 21) 0 1 3) := (rq_pok (rq_up hr24 (by omega)) (Or.inl (by omega)))
  have hr39 : rq_ok 23 (fl_r (rq_p (fl_r (rq_p (fl_r ρ 1 3) 0 0 1) 3 21) 0 1 3) 21 23) := rq_fb k_21 (by omega) hq39 (by omega) (bl_c_4 k_21)
  refine sk_callI dX11_init_39 ci_X4_init kl_RX11_27 (as := [av_r 1]) (m1 := 23) rfl (Nat.le_of_ble_eq_true rfl) rfl (by omega) (by omega) (vl_s (vo_r (by omega)) vl_0) (vs_s (vo_r (by omega)) (vs_s (vo_r (by omega)) vs_0)) hr39 (kc_X4_init (by omega) (fun b hb => (zq_p (zq_f (zq_p (zq_f (Z b (by omega)) (by omega)) (by omega)) (by omega)) (by omega))) hq39) ?_
  refine sk_putF dX11_init_42 fk_RX11_28 (by decide) rfl (by decide) (fun q => ⟨rfl, rfl⟩) (fun q hq => by cases hq; exact ⟨rfl, rfl⟩) k_0 (by omega) (Or.inl (by omega)) rfl ?_
  refine sk_aload_n dX11_init_45 rfl rfl ?_
  refine sk_new dX11_init_46 nw_RX11_32 k_23 (by decide) (by omega) (zq_p (zq_f (zq_p (zq_f (zq_p (zq_f (Z 23 (by omega)) (by omega)) (by omega)) (by omega)) (by omega)) (by omega)) (by omega)) (vl_s (vo_r (by omega)) vl_0) (vs_s (vo_r (by omega)) vs_0) ?_
  refine sk_dup dX11_init_49 rfl ?_
  have hq50 : rq_ok 24 (rq_p (fl_r (rq_p (fl_r (rq_p (fl_r ρ 1 3) 0 0 1) 3 21) 0 1 3) 21 23) 0 2 21) := (rq_pok (rq_up hr39 (by omega)) (Or.inl (by omega)))
  have hr50 : rq_ok 34 (fl_r (rq_p (fl_r (rq_p (fl_r (rq_p (fl_r ρ 1 3) 0 0 1) 3 21) 0 1 3) 21 23) 0 2 21) 23 34) := rq_fb k_23 (by omega) hq50 (by omega) (bl_c_1 k_23)
  refine sk_callN dX11_init_50 ci_X1_init kl_RX11_34 (as := []) (m1 := 34) rfl (Nat.le_of_ble_eq_true rfl) rfl (by omega) (by omega) (vl_s (vo_r (by omega)) vl_0) (vs_s (vo_r (by omega)) (vs_s (vo_r (by omega)) vs_0)) hr50 (kc_Co (c := 23) (by omega) k_23 n_29 n_30 n_31 n_32 (fun b hb => (zq_p (zq_f (zq_p (zq_f (zq_p (zq_f (Z b (by omega)) (by omega)) (by omega)) (by omega)) (by omega)) (by omega)) (by omega))) hq50) ?_
  refine sk_putF dX11_init_53 fk_RX11_35 (by decide) rfl (by decide) (fun q => ⟨rfl, rfl⟩) (fun q hq => by cases hq; exact ⟨rfl, rfl⟩) k_0 (by omega) (Or.inl (by omega)) rfl ?_
  refine sk_aload_n dX11_init_56 rfl rfl ?_
  refine sk_new dX11_init_57 nw_RX11_39 k_34 (by decide) (by omega) (zq_p (zq_f (zq_p (zq_f (zq_p (zq_f (zq_p (zq_f (Z 34 (by omega)) (by omega)) (by omega)) (by omega)) (by omega)) (by omega)) (by omega)) (by omega)) (by omega)) (vl_s (vo_r (by omega)) vl_0) (vs_s (vo_r (by omega)) vs_0) ?_
  refine sk_dup dX11_init_60 rfl ?_
  have hq61 : rq_ok 35 (rq_p (fl_r (rq_p (fl_r (rq_p (fl_r (rq_p (fl_r ρ 1 3) 0 0 1) 3 21) 0 1 3) 21 23) 0 2 21) 23 34) 0 3 23) := (rq_pok (rq_up hr50 (by omega)) (Or.inl (by omega)))
  have hr61 : rq_ok 43 (fl_r (rq_p (fl_r (rq_p (fl_r (rq_p (fl_r (rq_p (fl_r ρ 1 3) 0 0 1) 3 21) 0 1 3) 21 23) 0 2 21) 23 34) 0 3 23) 34 43) := rq_fb k_34 (by omega) hq61 (by omega) (bl_c_5 k_34)
  refine sk_callN dX11_init_61 ci_X5_init kl_RX11_41 (as := []) (m1 := 43) rfl (Nat.le_of_ble_eq_true rfl) rfl (by omega) (by omega) (vl_s (vo_r (by omega)) vl_0) (vs_s (vo_r (by omega)) (vs_s (vo_r (by omega)) vs_0)) hr61 (kc_X5_init (by omega) (fun b hb => (zq_p (zq_f (zq_p (zq_f (zq_p (zq_f (zq_p (zq_f (Z b (by omega)) (by omega)) (by omega)) (by omega)) (by omega)) (by omega)) (by omega)) (by omega)) (by omega))) hq61) ?_
  refine sk_putF dX11_init_64 fk_RX11_42 (by decide) rfl (by decide) (fun q => ⟨rfl, rfl⟩) (fun q hq => by cases hq; exact ⟨rfl, rfl⟩) k_0 (by omega) (Or.inl (by omega)) rfl ?_
  refine sk_aload_n dX11_init_67 rfl rfl ?_
  refine sk_new dX11_init_68 nw_RX11_46 k_43 (by decide) (by omega) (zq_p (zq_I (zq_f (zq_p (zq_f (zq_p (zq_f (zq_p (zq_f (zq_p (zq_f (Z 43 (by omega)) (by omega)) (by omega)) (by omega)) (by omega)) (by omega)) (by omega)) (by omega)) (by omega)) (by omega)) (by omega)) (by omega)) (vl_s (vo_r (by omega)) vl_0) (vs_s (vo_r (by omega)) vs_0) ?_
  refine sk_dup dX11_init_71 rfl ?_
  refine sk_iconst dX11_init_72 kic_4 ?_
  have hq73 : rq_ok 44 (rq_p (fl_r (rq_p (fl_r (rq_p (fl_r (rq_p (fl_r (rq_p (fl_r ρ 1 3) 0 0 1) 3 21) 0 1 3) 21 23) 0 2 21) 23 34) 0 3 23) 34 43) 0 4 34) := (rq_pok (rq_up hr61 (by omega)) (Or.inl (by omega)))
  have hr73 : rq_ok 48 (fl_r (rq_p (fl_r (rq_p (fl_r (rq_p (fl_r (rq_p (fl_r (rq_p (fl_r ρ 1 3) 0 0 1) 3 21) 0 1 3) 21 23) 0 2 21) 23 34) 0 3 23) 34 43) 0 4 34) 43 48) := rq_fb k_43 (by omega) hq73 (by omega) (bl_c_10 k_43)
  refine sk_callI dX11_init_73 ci_X10_init kl_RX11_48 (as := [av_i 4]) (m1 := 48) rfl (Nat.le_of_ble_eq_true rfl) rfl (by omega) (by omega) (vl_s (vo_r (by omega)) vl_0) (vs_s (vo_r (by omega)) (vs_s (vo_r (by omega)) vs_0)) hr73 (kc_Wo_4 (w := 43) (by omega) k_43 n_44 n_45 n_46 n_47 (fun b hb => (zq_p (zq_I (zq_f (zq_p (zq_f (zq_p (zq_f (zq_p (zq_f (zq_p (zq_f (Z b (by omega)) (by omega)) (by omega)) (by omega)) (by omega)) (by omega)) (by omega)) (by omega)) (by omega)) (by omega)) (by omega)) (by omega))) hq73) ?_
  refine sk_putF dX11_init_76 fk_RX11_51 (by decide) rfl (by decide) (fun q => ⟨rfl, rfl⟩) (fun q hq => by cases hq; exact ⟨rfl, rfl⟩) k_0 (by omega) (Or.inl (by omega)) rfl ?_
  refine sk_aload_n dX11_init_79 rfl rfl ?_
  refine sk_iconst dX11_init_80 kic_0 ?_
  refine sk_putI dX11_init_81 fk_RX11_55 (by decide) rfl (fun q hq => by cases hq; rfl) k_0 (by omega) ?_
  rw [mm_I0 ((zq_I (Z 0 (by omega)) (by omega)).1 6)]
  refine sk_aload_n dX11_init_84 rfl rfl ?_
  refine sk_new dX11_init_85 nw_RX11_59 k_48 (by decide) (by omega) (zq_p (zq_f (zq_p (zq_I (zq_f (zq_p (zq_f (zq_p (zq_f (zq_p (zq_f (zq_p (zq_f (Z 48 (by omega)) (by omega)) (by omega)) (by omega)) (by omega)) (by omega)) (by omega)) (by omega)) (by omega)) (by omega)) (by omega)) (by omega)) (by omega)) (by omega)) (vl_s (vo_r (by omega)) vl_0) (vs_s (vo_r (by omega)) vs_0) ?_
  refine sk_dup dX11_init_88 rfl ?_
  refine sk_aload_n dX11_init_89 rfl rfl ?_
  refine sk_getR dX11_init_90 fk_RX11_35 (by decide) (by decide) k_0 (by omega) (by rw [rq_k (by decide), fl_o (by omega), rq_k (by decide), fl_o (by omega), rq_s]) ?_
  refine sk_aload_n dX11_init_93 rfl rfl ?_
  refine sk_getR dX11_init_94 fk_RX11_42 (by decide) (by decide) k_0 (by omega) (by rw [rq_k (by decide), fl_o (by omega), rq_s]) ?_
  have hq97 : rq_ok 49 (rq_p (fl_r (rq_p (fl_r (rq_p (fl_r (rq_p (fl_r (rq_p (fl_r (rq_p (fl_r ρ 1 3) 0 0 1) 3 21) 0 1 3) 21 23) 0 2 21) 23 34) 0 3 23) 34 43) 0 4 34) 43 48) 0 5 43) := (rq_pok (rq_up hr73 (by omega)) (Or.inl (by omega)))
  have hr97 : rq_ok 51 (fl_r (rq_p (fl_r (rq_p (fl_r (rq_p (fl_r (rq_p (fl_r (rq_p (fl_r (rq_p (fl_r ρ 1 3) 0 0 1) 3 21) 0 1 3) 21 23) 0 2 21) 23 34) 0 3 23) 34 43) 0 4 34) 43 48) 0 5 43) 48 51) := rq_fb k_48 (by omega) hq97 (by omega) (bl_c_0 k_48)
  refine sk_callI dX11_init_97 ci_X0_init kl_RX11_61 (as := [av_r 23, av_r 34]) (m1 := 51) rfl (Nat.le_of_ble_eq_true rfl) rfl (by omega) (by omega) (vl_s (vo_r (by omega)) vl_0) (vs_s (vo_r (by omega)) (vs_s (vo_r (by omega)) vs_0)) hr97 (kc_X0_init (by omega) (fun b hb => (zq_p (zq_f (zq_p (zq_I (zq_f (zq_p (zq_f (zq_p (zq_f (zq_p (zq_f (zq_p (zq_f (Z b (by omega)) (by omega)) (by omega)) (by omega)) (by omega)) (by omega)) (by omega)) (by omega)) (by omega)) (by omega)) (by omega)) (by omega)) (by omega)) (by omega))) hq97) ?_
  refine sk_putF dX11_init_100 fk_RX11_64 (by decide) rfl (by decide) (fun q => ⟨rfl, rfl⟩) (fun q hq => by cases hq; exact ⟨rfl, rfl⟩) k_0 (by omega) (Or.inl (by omega)) rfl ?_
  refine sk_aload_n dX11_init_103 rfl rfl ?_
  refine sk_new dX11_init_104 nw_RX11_68 k_51 (by decide) (by omega) (zq_p (zq_f (zq_p (zq_f (zq_p (zq_I (zq_f (zq_p (zq_f (zq_p (zq_f (zq_p (zq_f (zq_p (zq_f (Z 51 (by omega)) (by omega)) (by omega)) (by omega)) (by omega)) (by omega)) (by omega)) (by omega)) (by omega)) (by omega)) (by omega)) (by omega)) (by omega)) (by omega)) (by omega)) (by omega)) (vl_s (vo_r (by omega)) vl_0) (vs_s (vo_r (by omega)) vs_0) ?_
  refine sk_dup dX11_init_107 rfl ?_
  have hq108 : rq_ok 52 (rq_p (fl_r (rq_p (fl_r (rq_p (fl_r (rq_p (fl_r (rq_p (fl_r (rq_p (fl_r (rq_p (fl_r ρ 1 3) 0 0 1) 3 21) 0 1 3) 21 23) 0 2 21) 23 34) 0 3 23) 34 43) 0 4 34) 43 48) 0 5 43) 48 51) 0 7 48) := (rq_pok (rq_up hr97 (by omega)) (Or.inl (by omega)))
  have hr108 : rq_ok 333 (fl_r (rq_p (fl_r (rq_p (fl_r (rq_p (fl_r (rq_p (fl_r (rq_p (fl_r (rq_p (fl_r (rq_p (fl_r ρ 1 3) 0 0 1) 3 21) 0 1 3) 21 23) 0 2 21) 23 34) 0 3 23) 34 43) 0 4 34) 43 48) 0 5 43) 48 51) 0 7 48) 51 333) := rq_fb k_51 (by omega) hq108 (by omega) (bl_c_3 k_51)
  refine sk_callI dX11_init_108 ci_X3_init kl_RX11_70 (as := []) (m1 := 333) rfl (Nat.le_of_ble_eq_true rfl) rfl (by omega) (by omega) (vl_s (vo_r (by omega)) vl_0) (vs_s (vo_r (by omega)) (vs_s (vo_r (by omega)) vs_0)) hr108 (kc_X3_init (by omega) (fun b hb => (zq_p (zq_f (zq_p (zq_f (zq_p (zq_I (zq_f (zq_p (zq_f (zq_p (zq_f (zq_p (zq_f (zq_p (zq_f (Z b (by omega)) (by omega)) (by omega)) (by omega)) (by omega)) (by omega)) (by omega)) (by omega)) (by omega)) (by omega)) (by omega)) (by omega)) (by omega)) (by omega)) (by omega)) (by omega))) hq108) ?_
  refine sk_putF dX11_init_111 fk_RX11_71 (by decide) rfl (by decide) (fun q => ⟨rfl, rfl⟩) (fun q hq => by cases hq; exact ⟨rfl, rfl⟩) k_0 (by omega) (Or.inl (by omega)) rfl ?_
  refine sk_aload_n dX11_init_114 rfl rfl ?_
  refine sk_new dX11_init_115 nw_RX11_75 k_333 (by decide) (by omega) (zq_p (zq_f (zq_p (zq_f (zq_p (zq_f (zq_p (zq_I (zq_f (zq_p (zq_f (zq_p (zq_f (zq_p (zq_f (zq_p (zq_f (Z 333 (by omega)) (by omega)) (by omega)) (by omega)) (by omega)) (by omega)) (by omega)) (by omega)) (by omega)) (by omega)) (by omega)) (by omega)) (by omega)) (by omega)) (by omega)) (by omega)) (by omega)) (by omega)) (vl_s (vo_r (by omega)) vl_0) (vs_s (vo_r (by omega)) vs_0) ?_
  refine sk_dup dX11_init_118 rfl ?_
  refine sk_aload_n dX11_init_119 rfl rfl ?_
  refine sk_getR dX11_init_120 fk_RX11_35 (by decide) (by decide) k_0 (by omega) (by rw [rq_k (by decide), fl_o (by omega), rq_k (by decide), fl_o (by omega), rq_k (by decide), fl_o (by omega), rq_k (by decide), fl_o (by omega), rq_s]) ?_
  have hq123 : rq_ok 334 (rq_p (fl_r (rq_p (fl_r (rq_p (fl_r (rq_p (fl_r (rq_p (fl_r (rq_p (fl_r (rq_p (fl_r (rq_p (fl_r ρ 1 3) 0 0 1) 3 21) 0 1 3) 21 23) 0 2 21) 23 34) 0 3 23) 34 43) 0 4 34) 43 48) 0 5 43) 48 51) 0 7 48) 51 333) 0 8 51) := (rq_pok (rq_up hr108 (by omega)) (Or.inl (by omega)))
  have hr123 : rq_ok 341 (fl_r (rq_p (fl_r (rq_p (fl_r (rq_p (fl_r (rq_p (fl_r (rq_p (fl_r (rq_p (fl_r (rq_p (fl_r (rq_p (fl_r ρ 1 3) 0 0 1) 3 21) 0 1 3) 21 23) 0 2 21) 23 34) 0 3 23) 34 43) 0 4 34) 43 48) 0 5 43) 48 51) 0 7 48) 51 333) 0 8 51) 333 341) := rq_fb k_333 (by omega) hq123 (by omega) (bl_c_6 k_333)
  refine sk_callI dX11_init_123 ci_X6_init kl_RX11_77 (as := [av_r 23]) (m1 := 341) rfl (Nat.le_of_ble_eq_true rfl) rfl (by omega) (by omega) (vl_s (vo_r (by omega)) vl_0) (vs_s (vo_r (by omega)) (vs_s (vo_r (by omega)) vs_0)) hr123 (kc_X6_init (by omega) (fun b hb => (zq_p (zq_f (zq_p (zq_f (zq_p (zq_f (zq_p (zq_I (zq_f (zq_p (zq_f (zq_p (zq_f (zq_p (zq_f (zq_p (zq_f (Z b (by omega)) (by omega)) (by omega)) (by omega)) (by omega)) (by omega)) (by omega)) (by omega)) (by omega)) (by omega)) (by omega)) (by omega)) (by omega)) (by omega)) (by omega)) (by omega)) (by omega)) (by omega))) hq123) ?_
  refine sk_putF dX11_init_126 fk_RX11_80 (by decide) rfl (by decide) (fun q => ⟨rfl, rfl⟩) (fun q hq => by cases hq; exact ⟨rfl, rfl⟩) k_0 (by omega) (Or.inl (by omega)) rfl ?_
  refine sk_aload_n dX11_init_129 rfl rfl ?_
  refine sk_new dX11_init_130 nw_RX11_84 k_341 (by decide) (by omega) (zq_p (zq_f (zq_p (zq_f (zq_p (zq_f (zq_p (zq_f (zq_p (zq_I (zq_f (zq_p (zq_f (zq_p (zq_f (zq_p (zq_f (zq_p (zq_f (Z 341 (by omega)) (by omega)) (by omega)) (by omega)) (by omega)) (by omega)) (by omega)) (by omega)) (by omega)) (by omega)) (by omega)) (by omega)) (by omega)) (by omega)) (by omega)) (by omega)) (by omega)) (by omega)) (by omega)) (by omega)) (vl_s (vo_r (by omega)) vl_0) (vs_s (vo_r (by omega)) vs_0) ?_
  refine sk_dup dX11_init_133 rfl ?_
  refine sk_aload_n dX11_init_134 rfl rfl ?_
  refine sk_getR dX11_init_135 fk_RX11_35 (by decide) (by decide) k_0 (by omega) (by rw [rq_k (by decide), fl_o (by omega), rq_k (by decide), fl_o (by omega), rq_k (by decide), fl_o (by omega), rq_k (by decide), fl_o (by omega), rq_k (by decide), fl_o (by omega), rq_s]) ?_
  have hq138 : rq_ok 342 (rq_p (fl_r (rq_p (fl_r (rq_p (fl_r (rq_p (fl_r (rq_p (fl_r (rq_p (fl_r (rq_p (fl_r (rq_p (fl_r (rq_p (fl_r ρ 1 3) 0 0 1) 3 21) 0 1 3) 21 23) 0 2 21) 23 34) 0 3 23) 34 43) 0 4 34) 43 48) 0 5 43) 48 51) 0 7 48) 51 333) 0 8 51) 333 341) 0 9 333) := (rq_pok (rq_up hr123 (by omega)) (Or.inl (by omega)))
  have hr138 : rq_ok 346 (fl_r (rq_p (fl_r (rq_p (fl_r (rq_p (fl_r (rq_p (fl_r (rq_p (fl_r (rq_p (fl_r (rq_p (fl_r (rq_p (fl_r (rq_p (fl_r ρ 1 3) 0 0 1) 3 21) 0 1 3) 21 23) 0 2 21) 23 34) 0 3 23) 34 43) 0 4 34) 43 48) 0 5 43) 48 51) 0 7 48) 51 333) 0 8 51) 333 341) 0 9 333) 341 346) := rq_fb k_341 (by omega) hq138 (by omega) (bl_c_2 k_341)
  refine sk_callI dX11_init_138 ci_X2_init kl_RX11_86 (as := [av_r 23]) (m1 := 346) rfl (Nat.le_of_ble_eq_true rfl) rfl (by omega) (by omega) (vl_s (vo_r (by omega)) vl_0) (vs_s (vo_r (by omega)) (vs_s (vo_r (by omega)) vs_0)) hr138 (kc_X2_init (by omega) (fun b hb => (zq_p (zq_f (zq_p (zq_f (zq_p (zq_f (zq_p (zq_f (zq_p (zq_I (zq_f (zq_p (zq_f (zq_p (zq_f (zq_p (zq_f (zq_p (zq_f (Z b (by omega)) (by omega)) (by omega)) (by omega)) (by omega)) (by omega)) (by omega)) (by omega)) (by omega)) (by omega)) (by omega)) (by omega)) (by omega)) (by omega)) (by omega)) (by omega)) (by omega)) (by omega)) (by omega)) (by omega))) hq138) ?_
  refine sk_putF dX11_init_141 fk_RX11_87 (by decide) rfl (by decide) (fun q => ⟨rfl, rfl⟩) (fun q hq => by cases hq; exact ⟨rfl, rfl⟩) k_0 (by omega) (Or.inl (by omega)) rfl ?_
  refine sk_aload_n dX11_init_144 rfl rfl ?_
  refine sk_bipush dX11_init_145 kbp_32 ?_
  refine sk_newaJ dX11_init_147 ac_long k_346 (by decide) (by rw [n_346]; decide) (by rw [n_346]; decide) (by omega) (zq_p (zq_f (zq_p (zq_f (zq_p (zq_f (zq_p (zq_f (zq_p (zq_f (zq_p (zq_I (zq_f (zq_p (zq_f (zq_p (zq_f (zq_p (zq_f (zq_p (zq_f (Z 346 (by omega)) (by omega)) (by omega)) (by omega)) (by omega)) (by omega)) (by omega)) (by omega)) (by omega)) (by omega)) (by omega)) (by omega)) (by omega)) (by omega)) (by omega)) (by omega)) (by omega)) (by omega)) (by omega)) (by omega)) (by omega)) (by omega)) (vl_s (vo_r (by omega)) vl_0) (vs_s (vo_r (by omega)) vs_0) ?_
  refine sk_putF dX11_init_149 fk_RX11_91 (by decide) rfl (by decide) (fun q => ⟨rfl, rfl⟩) (fun q hq => by cases hq; exact ⟨rfl, rfl⟩) k_0 (by omega) (Or.inl (by omega)) rfl ?_
  refine sk_aload_n dX11_init_152 rfl rfl ?_
  refine sk_new dX11_init_153 nw_RX11_95 k_347 (by decide) (by omega) (zq_p (zq_p (zq_f (zq_p (zq_f (zq_p (zq_f (zq_p (zq_f (zq_p (zq_f (zq_p (zq_I (zq_f (zq_p (zq_f (zq_p (zq_f (zq_p (zq_f (zq_p (zq_f (Z 347 (by omega)) (by omega)) (by omega)) (by omega)) (by omega)) (by omega)) (by omega)) (by omega)) (by omega)) (by omega)) (by omega)) (by omega)) (by omega)) (by omega)) (by omega)) (by omega)) (by omega)) (by omega)) (by omega)) (by omega)) (by omega)) (by omega)) (by omega)) (vl_s (vo_r (by omega)) vl_0) (vs_s (vo_r (by omega)) vs_0) ?_
  refine sk_dup dX11_init_156 rfl ?_
  have hq157 : rq_ok 348 (rq_p (rq_p (fl_r (rq_p (fl_r (rq_p (fl_r (rq_p (fl_r (rq_p (fl_r (rq_p (fl_r (rq_p (fl_r (rq_p (fl_r (rq_p (fl_r (rq_p (fl_r ρ 1 3) 0 0 1) 3 21) 0 1 3) 21 23) 0 2 21) 23 34) 0 3 23) 34 43) 0 4 34) 43 48) 0 5 43) 48 51) 0 7 48) 51 333) 0 8 51) 333 341) 0 9 333) 341 346) 0 10 341) 0 11 346) := (rq_pok (rq_pok (rq_up hr138 (by omega)) (Or.inl (by omega))) (Or.inl (by omega)))
  have hr157 : rq_ok 354 (fl_r (rq_p (rq_p (fl_r (rq_p (fl_r (rq_p (fl_r (rq_p (fl_r (rq_p (fl_r (rq_p (fl_r (rq_p (fl_r (rq_p (fl_r (rq_p (fl_r (rq_p (fl_r ρ 1 3) 0 0 1) 3 21) 0 1 3) 21 23) 0 2 21) 23 34) 0 3 23) 34 43) 0 4 34) 43 48) 0 5 43) 48 51) 0 7 48) 51 333) 0 8 51) 333 341) 0 9 333) 341 346) 0 10 341) 0 11 346) 347 354) := rq_fb k_347 (by omega) hq157 (by omega) (bl_c_7 k_347)
  refine sk_callN dX11_init_157 ci_X7_init kl_RX11_97 (as := []) (m1 := 354) rfl (Nat.le_of_ble_eq_true rfl) rfl (by omega) (by omega) (vl_s (vo_r (by omega)) vl_0) (vs_s (vo_r (by omega)) (vs_s (vo_r (by omega)) vs_0)) hr157 (kc_Sh (s := 347) (by omega) k_347 n_349 n_350 n_351 n_352 (fun b hb => (zq_p (zq_p (zq_f (zq_p (zq_f (zq_p (zq_f (zq_p (zq_f (zq_p (zq_f (zq_p (zq_I (zq_f (zq_p (zq_f (zq_p (zq_f (zq_p (zq_f (zq_p (zq_f (Z b (by omega)) (by omega)) (by omega)) (by omega)) (by omega)) (by omega)) (by omega)) (by omega)) (by omega)) (by omega)) (by omega)) (by omega)) (by omega)) (by omega)) (by omega)) (by omega)) (by omega)) (by omega)) (by omega)) (by omega)) (by omega)) (by omega)) (by omega))) hq157) ?_
  refine sk_putF dX11_init_160 fk_RX11_98 (by decide) rfl (by decide) (fun q => ⟨rfl, rfl⟩) (fun q hq => by cases hq; exact ⟨rfl, rfl⟩) k_0 (by omega) (Or.inl (by omega)) rfl ?_
  refine sk_aload_n dX11_init_163 rfl rfl ?_
  refine sk_sipush dX11_init_164 ksp_128 ?_
  refine sk_newaI dX11_init_167 ac_int k_354 (by decide) (by rw [n_354]; decide) (by rw [n_354]; decide) (by omega) (zq_p (zq_f (zq_p (zq_p (zq_f (zq_p (zq_f (zq_p (zq_f (zq_p (zq_f (zq_p (zq_f (zq_p (zq_I (zq_f (zq_p (zq_f (zq_p (zq_f (zq_p (zq_f (zq_p (zq_f (Z 354 (by omega)) (by omega)) (by omega)) (by omega)) (by omega)) (by omega)) (by omega)) (by omega)) (by omega)) (by omega)) (by omega)) (by omega)) (by omega)) (by omega)) (by omega)) (by omega)) (by omega)) (by omega)) (by omega)) (by omega)) (by omega)) (by omega)) (by omega)) (by omega)) (by omega)) (vl_s (vo_r (by omega)) vl_0) (vs_s (vo_r (by omega)) vs_0) ?_
  refine sk_putF dX11_init_169 fk_RX11_102 (by decide) rfl (by decide) (fun q => ⟨rfl, rfl⟩) (fun q hq => by cases hq; exact ⟨rfl, rfl⟩) k_0 (by omega) (Or.inl (by omega)) rfl ?_
  refine sk_aload_n dX11_init_172 rfl rfl ?_
  refine sk_iconst dX11_init_173 kic_0 ?_
  refine sk_putZ dX11_init_174 fk_RX11_106 (by decide) rfl (fun q hq => by cases hq; rfl) k_0 (by omega) ?_
  rw [mm_I0 ((zq_I (Z 0 (by omega)) (by omega)).1 14)]
  refine sk_aload_n dX11_init_177 rfl rfl ?_
  refine sk_iconst dX11_init_178 kic_0 ?_
  refine sk_putI dX11_init_179 fk_RX11_110 (by decide) rfl (fun q hq => by cases hq; rfl) k_0 (by omega) ?_
  rw [mm_I0 ((zq_I (Z 0 (by omega)) (by omega)).1 15)]
  refine sk_aload_n dX11_init_182 rfl rfl ?_
  refine sk_lconst dX11_init_183 klc_0 ?_
  refine sk_putJ dX11_init_184 fk_RX11_113 (by decide) rfl (fun q hq => by cases hq; rfl) k_0 (by omega) ?_
  rw [mm_J0 ((zq_I (Z 0 (by omega)) (by omega)).2.1 16)]
  refine sk_ret (st := []) dX11_init_187 rfl rfl ?_
  refine cq_fin (base := 0) (fun x k hx => ?_) (fun x k hx1 hx2 hr9 => ?_) (fun x k hx1 hx2 h24 hr9 => ?_) (hm := fun x _ hx2 h12 => absurd (k12 h12) (by omega))
  · rw [rq_o (by omega), rq_o (by omega), fl_o (by omega), rq_o (by omega), rq_o (by omega), fl_o (by omega), rq_o (by omega), fl_o (by omega), rq_o (by omega), fl_o (by omega), rq_o (by omega), fl_o (by omega), rq_o (by omega), fl_o (by omega), rq_o (by omega), fl_o (by omega), rq_o (by omega), fl_o (by omega), rq_o (by omega), fl_o (by omega), rq_o (by omega), fl_o (by omega), rq_o (by omega), fl_o (by omega)]
  · rcases (show x = 0 ∨ (1 ≤ x ∧ x < 3) ∨ (3 ≤ x ∧ x < 21) ∨ (21 ≤ x ∧ x < 23) ∨ (23 ≤ x ∧ x < 34) ∨ (34 ≤ x ∧ x < 43) ∨ (43 ≤ x ∧ x < 48) ∨ (48 ≤ x ∧ x < 51) ∨ (51 ≤ x ∧ x < 333) ∨ (333 ≤ x ∧ x < 341) ∨ (341 ≤ x ∧ x < 346) ∨ x = 346 ∨ (347 ≤ x ∧ x < 354) ∨ x = 354 by omega) with rfl | ⟨e1, e2⟩ | ⟨e1, e2⟩ | ⟨e1, e2⟩ | ⟨e1, e2⟩ | ⟨e1, e2⟩ | ⟨e1, e2⟩ | ⟨e1, e2⟩ | ⟨e1, e2⟩ | ⟨e1, e2⟩ | ⟨e1, e2⟩ | rfl | ⟨e1, e2⟩ | rfl
    · rcases iR_11 k_0 hr9 with rfl | rfl | rfl | rfl | rfl | rfl | rfl | rfl | rfl | rfl | rfl | rfl | rfl
      · rw [rq_k (by decide), rq_k (by decide), fl_o (by omega), rq_k (by decide), rq_k (by decide), fl_o (by omega), rq_k (by decide), fl_o (by omega), rq_k (by decide), fl_o (by omega), rq_k (by decide), fl_o (by omega), rq_k (by decide), fl_o (by omega), rq_k (by decide), fl_o (by omega), rq_k (by decide), fl_o (by omega), rq_k (by decide), fl_o (by omega), rq_k (by decide), fl_o (by omega), rq_s, rf_11_0 k_0]
      · rw [rq_k (by decide), rq_k (by decide), fl_o (by omega), rq_k (by decide), rq_k (by decide), fl_o (by omega), rq_k (by decide), fl_o (by omega), rq_k (by decide), fl_o (by omega), rq_k (by decide), fl_o (by omega), rq_k (by decide), fl_o (by omega), rq_k (by decide), fl_o (by omega), rq_k (by decide), fl_o (by omega), rq_k (by decide), fl_o (by omega), rq_s, rf_11_1 k_0]
      · rw [rq_k (by decide), rq_k (by decide), fl_o (by omega), rq_k (by decide), rq_k (by decide), fl_o (by omega), rq_k (by decide), fl_o (by omega), rq_k (by decide), fl_o (by omega), rq_k (by decide), fl_o (by omega), rq_k (by decide), fl_o (by omega), rq_k (by decide), fl_o (by omega), rq_k (by decide), fl_o (by omega), rq_s, rf_11_2 k_0]
      · rw [rq_k (by decide), rq_k (by decide), fl_o (by omega), rq_k (by decide), rq_k (by decide), fl_o (by omega), rq_k (by decide), fl_o (by omega), rq_k (by decide), fl_o (by omega), rq_k (by decide), fl_o (by omega), rq_k (by decide), fl_o (by omega), rq_k (by decide), fl_o (by omega), rq_s, rf_11_3 k_0]
      · rw [rq_k (by decide), rq_k (by decide), fl_o (by omega), rq_k (by decide), rq_k (by decide), fl_o (by omega), rq_k (by decide), fl_o (by omega), rq_k (by decide), fl_o (by omega), rq_k (by decide), fl_o (by omega), rq_k (by decide), fl_o (by omega), rq_s, rf_11_4 k_0]
      · rw [rq_k (by decide), rq_k (by decide), fl_o (by omega), rq_k (by decide), rq_k (by decide), fl_o (by omega), rq_k (by decide), fl_o (by omega), rq_k (by decide), fl_o (by omega), rq_k (by decide), fl_o (by omega), rq_s, rf_11_5 k_0]
      · rw [rq_k (by decide), rq_k (by decide), fl_o (by omega), rq_k (by decide), rq_k (by decide), fl_o (by omega), rq_k (by decide), fl_o (by omega), rq_k (by decide), fl_o (by omega), rq_s, rf_11_7 k_0]
      · rw [rq_k (by decide), rq_k (by decide), fl_o (by omega), rq_k (by decide), rq_k (by decide), fl_o (by omega), rq_k (by decide), fl_o (by omega), rq_s, rf_11_8 k_0]
      · rw [rq_k (by decide), rq_k (by decide), fl_o (by omega), rq_k (by decide), rq_k (by decide), fl_o (by omega), rq_s, rf_11_9 k_0]
      · rw [rq_k (by decide), rq_k (by decide), fl_o (by omega), rq_k (by decide), rq_s, rf_11_10 k_0]
      · rw [rq_k (by decide), rq_k (by decide), fl_o (by omega), rq_s, rf_11_11 k_0]
      · rw [rq_k (by decide), rq_s, rf_11_12 k_0]
      · rw [rq_s, rf_11_13 k_0]
    · rw [rq_o (by omega), rq_o (by omega), fl_o (by omega), rq_o (by omega), rq_o (by omega), fl_o (by omega), rq_o (by omega), fl_o (by omega), rq_o (by omega), fl_o (by omega), rq_o (by omega), fl_o (by omega), rq_o (by omega), fl_o (by omega), rq_o (by omega), fl_o (by omega), rq_o (by omega), fl_o (by omega), rq_o (by omega), fl_o (by omega), rq_o (by omega), fl_o (by omega), rq_o (by omega)]; exact fl_i e1 e2 hr9
    · rw [rq_o (by omega), rq_o (by omega), fl_o (by omega), rq_o (by omega), rq_o (by omega), fl_o (by omega), rq_o (by omega), fl_o (by omega), rq_o (by omega), fl_o (by omega), rq_o (by omega), fl_o (by omega), rq_o (by omega), fl_o (by omega), rq_o (by omega), fl_o (by omega), rq_o (by omega), fl_o (by omega), rq_o (by omega), fl_o (by omega), rq_o (by omega)]; exact fl_i e1 e2 hr9
    · rw [rq_o (by omega), rq_o (by omega), fl_o (by omega), rq_o (by omega), rq_o (by omega), fl_o (by omega), rq_o (by omega), fl_o (by omega), rq_o (by omega), fl_o (by omega), rq_o (by omega), fl_o (by omega), rq_o (by omega), fl_o (by omega), rq_o (by omega), fl_o (by omega), rq_o (by omega), fl_o (by omega), rq_o (by omega)]; exact fl_i e1 e2 hr9
    · rw [rq_o (by omega), rq_o (by omega), fl_o (by omega), rq_o (by omega), rq_o (by omega), fl_o (by omega), rq_o (by omega), fl_o (by omega), rq_o (by omega), fl_o (by omega), rq_o (by omega), fl_o (by omega), rq_o (by omega), fl_o (by omega), rq_o (by omega), fl_o (by omega), rq_o (by omega)]; exact fl_i e1 e2 hr9
    · rw [rq_o (by omega), rq_o (by omega), fl_o (by omega), rq_o (by omega), rq_o (by omega), fl_o (by omega), rq_o (by omega), fl_o (by omega), rq_o (by omega), fl_o (by omega), rq_o (by omega), fl_o (by omega), rq_o (by omega), fl_o (by omega), rq_o (by omega)]; exact fl_i e1 e2 hr9
    · rw [rq_o (by omega), rq_o (by omega), fl_o (by omega), rq_o (by omega), rq_o (by omega), fl_o (by omega), rq_o (by omega), fl_o (by omega), rq_o (by omega), fl_o (by omega), rq_o (by omega), fl_o (by omega), rq_o (by omega)]; exact fl_i e1 e2 hr9
    · rw [rq_o (by omega), rq_o (by omega), fl_o (by omega), rq_o (by omega), rq_o (by omega), fl_o (by omega), rq_o (by omega), fl_o (by omega), rq_o (by omega), fl_o (by omega), rq_o (by omega)]; exact fl_i e1 e2 hr9
    · rw [rq_o (by omega), rq_o (by omega), fl_o (by omega), rq_o (by omega), rq_o (by omega), fl_o (by omega), rq_o (by omega), fl_o (by omega), rq_o (by omega)]; exact fl_i e1 e2 hr9
    · rw [rq_o (by omega), rq_o (by omega), fl_o (by omega), rq_o (by omega), rq_o (by omega), fl_o (by omega), rq_o (by omega)]; exact fl_i e1 e2 hr9
    · rw [rq_o (by omega), rq_o (by omega), fl_o (by omega), rq_o (by omega), rq_o (by omega)]; exact fl_i e1 e2 hr9
    · exact absurd hr9 (by rw [iR_n k_346 (by decide) (by decide)]; decide)
    · rw [rq_o (by omega), rq_o (by omega)]; exact fl_i e1 e2 hr9
    · exact absurd hr9 (by rw [iR_n k_354 (by decide) (by decide)]; decide)
  · rcases (show x = 0 ∨ (1 ≤ x ∧ x < 3) ∨ (3 ≤ x ∧ x < 21) ∨ (21 ≤ x ∧ x < 23) ∨ (23 ≤ x ∧ x < 34) ∨ (34 ≤ x ∧ x < 43) ∨ (43 ≤ x ∧ x < 48) ∨ (48 ≤ x ∧ x < 51) ∨ (51 ≤ x ∧ x < 333) ∨ (333 ≤ x ∧ x < 341) ∨ (341 ≤ x ∧ x < 346) ∨ x = 346 ∨ (347 ≤ x ∧ x < 354) ∨ x = 354 by omega) with rfl | ⟨e1, e2⟩ | ⟨e1, e2⟩ | ⟨e1, e2⟩ | ⟨e1, e2⟩ | ⟨e1, e2⟩ | ⟨e1, e2⟩ | ⟨e1, e2⟩ | ⟨e1, e2⟩ | ⟨e1, e2⟩ | ⟨e1, e2⟩ | rfl | ⟨e1, e2⟩ | rfl
    · exact absurd h24 (by rw [k_0]; decide)
    · rw [rq_o (by omega), rq_o (by omega), fl_o (by omega), rq_o (by omega), rq_o (by omega), fl_o (by omega), rq_o (by omega), fl_o (by omega), rq_o (by omega), fl_o (by omega), rq_o (by omega), fl_o (by omega), rq_o (by omega), fl_o (by omega), rq_o (by omega), fl_o (by omega), rq_o (by omega), fl_o (by omega), rq_o (by omega), fl_o (by omega), rq_o (by omega), fl_o (by omega), rq_o (by omega), fl_n hr9]
    · rw [rq_o (by omega), rq_o (by omega), fl_o (by omega), rq_o (by omega), rq_o (by omega), fl_o (by omega), rq_o (by omega), fl_o (by omega), rq_o (by omega), fl_o (by omega), rq_o (by omega), fl_o (by omega), rq_o (by omega), fl_o (by omega), rq_o (by omega), fl_o (by omega), rq_o (by omega), fl_o (by omega), rq_o (by omega), fl_o (by omega), rq_o (by omega), fl_n hr9, rq_o (by omega), fl_o (by omega)]
    · rw [rq_o (by omega), rq_o (by omega), fl_o (by omega), rq_o (by omega), rq_o (by omega), fl_o (by omega), rq_o (by omega), fl_o (by omega), rq_o (by omega), fl_o (by omega), rq_o (by omega), fl_o (by omega), rq_o (by omega), fl_o (by omega), rq_o (by omega), fl_o (by omega), rq_o (by omega), fl_o (by omega), rq_o (by omega), fl_n hr9, rq_o (by omega), fl_o (by omega), rq_o (by omega), fl_o (by omega)]
    · rw [rq_o (by omega), rq_o (by omega), fl_o (by omega), rq_o (by omega), rq_o (by omega), fl_o (by omega), rq_o (by omega), fl_o (by omega), rq_o (by omega), fl_o (by omega), rq_o (by omega), fl_o (by omega), rq_o (by omega), fl_o (by omega), rq_o (by omega), fl_o (by omega), rq_o (by omega), fl_n hr9, rq_o (by omega), fl_o (by omega), rq_o (by omega), fl_o (by omega), rq_o (by omega), fl_o (by omega)]
    · rw [rq_o (by omega), rq_o (by omega), fl_o (by omega), rq_o (by omega), rq_o (by omega), fl_o (by omega), rq_o (by omega), fl_o (by omega), rq_o (by omega), fl_o (by omega), rq_o (by omega), fl_o (by omega), rq_o (by omega), fl_o (by omega), rq_o (by omega), fl_n hr9, rq_o (by omega), fl_o (by omega), rq_o (by omega), fl_o (by omega), rq_o (by omega), fl_o (by omega), rq_o (by omega), fl_o (by omega)]
    · rw [rq_o (by omega), rq_o (by omega), fl_o (by omega), rq_o (by omega), rq_o (by omega), fl_o (by omega), rq_o (by omega), fl_o (by omega), rq_o (by omega), fl_o (by omega), rq_o (by omega), fl_o (by omega), rq_o (by omega), fl_n hr9, rq_o (by omega), fl_o (by omega), rq_o (by omega), fl_o (by omega), rq_o (by omega), fl_o (by omega), rq_o (by omega), fl_o (by omega), rq_o (by omega), fl_o (by omega)]
    · rw [rq_o (by omega), rq_o (by omega), fl_o (by omega), rq_o (by omega), rq_o (by omega), fl_o (by omega), rq_o (by omega), fl_o (by omega), rq_o (by omega), fl_o (by omega), rq_o (by omega), fl_n hr9, rq_o (by omega), fl_o (by omega), rq_o (by omega), fl_o (by omega), rq_o (by omega), fl_o (by omega), rq_o (by omega), fl_o (by omega), rq_o (by omega), fl_o (by omega), rq_o (by omega), fl_o (by omega)]
    · rw [rq_o (by omega), rq_o (by omega), fl_o (by omega), rq_o (by omega), rq_o (by omega), fl_o (by omega), rq_o (by omega), fl_o (by omega), rq_o (by omega), fl_n hr9, rq_o (by omega), fl_o (by omega), rq_o (by omega), fl_o (by omega), rq_o (by omega), fl_o (by omega), rq_o (by omega), fl_o (by omega), rq_o (by omega), fl_o (by omega), rq_o (by omega), fl_o (by omega), rq_o (by omega), fl_o (by omega)]
    · rw [rq_o (by omega), rq_o (by omega), fl_o (by omega), rq_o (by omega), rq_o (by omega), fl_o (by omega), rq_o (by omega), fl_n hr9, rq_o (by omega), fl_o (by omega), rq_o (by omega), fl_o (by omega), rq_o (by omega), fl_o (by omega), rq_o (by omega), fl_o (by omega), rq_o (by omega), fl_o (by omega), rq_o (by omega), fl_o (by omega), rq_o (by omega), fl_o (by omega), rq_o (by omega), fl_o (by omega)]
    · rw [rq_o (by omega), rq_o (by omega), fl_o (by omega), rq_o (by omega), rq_o (by omega), fl_n hr9, rq_o (by omega), fl_o (by omega), rq_o (by omega), fl_o (by omega), rq_o (by omega), fl_o (by omega), rq_o (by omega), fl_o (by omega), rq_o (by omega), fl_o (by omega), rq_o (by omega), fl_o (by omega), rq_o (by omega), fl_o (by omega), rq_o (by omega), fl_o (by omega), rq_o (by omega), fl_o (by omega)]
    · exact absurd h24 (by rw [k_346]; decide)
    · rw [rq_o (by omega), rq_o (by omega), fl_n hr9, rq_o (by omega), rq_o (by omega), fl_o (by omega), rq_o (by omega), fl_o (by omega), rq_o (by omega), fl_o (by omega), rq_o (by omega), fl_o (by omega), rq_o (by omega), fl_o (by omega), rq_o (by omega), fl_o (by omega), rq_o (by omega), fl_o (by omega), rq_o (by omega), fl_o (by omega), rq_o (by omega), fl_o (by omega), rq_o (by omega), fl_o (by omega)]
    · exact absurd h24 (by rw [k_354]; decide)
set_option maxRecDepth 100000 in
set_option maxHeartbeats 4000000 in
theorem kc_X12_init  {d : Nat} {μ : MM} {ρ : RR} (hd9 : 2 ≤ d) (Z : ∀ b, 355 ≤ b → zq_z μ ρ b) (hr : rq_ok 356 ρ) : Ck d mX12_init [av_r 355] 356 μ ρ 376 (mm_I μ 355 34 (-1)) (rq_p (fl_r ρ 355 376) 355 5 356) := by
  obtain ⟨d, rfl⟩ : ∃ e, d = e + 1 := ⟨d - 1, by omega⟩
  refine Ck_of pn_X12 (Nat.le_of_ble_eq_true rfl) (by omega) (by omega) hr ?_
  show Sk (d + 1) mX12_init 356 376 (mm_I μ 355 34 (-1)) (rq_p (fl_r ρ 355 376) 355 5 356) 0 [some (av_r 355)] [] 356 μ ρ
  refine sk_aload_n dX12_init_0 rfl rfl ?_
  refine sk_obj dX12_init_1 kl_RX12_3 (Nat.le_of_ble_eq_true rfl) (by omega) ?_
  refine sk_aload_n dX12_init_4 rfl rfl ?_
  refine sk_sipush dX12_init_5 ksp_240 ?_
  refine sk_newaB dX12_init_8 ac_byte k_356 (by decide) (by rw [n_356]; decide) (by rw [n_356]; decide) (by omega) (Z 356 (by omega)) (vl_s (vo_r (by omega)) vl_0) (vs_s (vo_r (by omega)) vs_0) ?_
  refine sk_putF dX12_init_10 fk_RX12_9 (by decide) rfl (by decide) (fun q => ⟨rfl, rfl⟩) (fun q hq => by cases hq; exact ⟨rfl, rfl⟩) k_355 (by omega) (Or.inl (by omega)) rfl ?_
  refine sk_aload_n dX12_init_13 rfl rfl ?_
  refine sk_sipush dX12_init_14 ksp_960 ?_
  refine sk_newaB dX12_init_17 ac_byte k_357 (by decide) (by rw [n_357]; decide) (by rw [n_357]; decide) (by omega) (zq_p (Z 357 (by omega)) (by omega)) (vl_s (vo_r (by omega)) vl_0) (vs_s (vo_r (by omega)) vs_0) ?_
  refine sk_putF dX12_init_19 fk_RX12_13 (by decide) rfl (by decide) (fun q => ⟨rfl, rfl⟩) (fun q hq => by cases hq; exact ⟨rfl, rfl⟩) k_355 (by omega) (Or.inl (by omega)) rfl ?_
  refine sk_aload_n dX12_init_22 rfl rfl ?_
  refine sk_iconst dX12_init_23 kic_4 ?_
  refine sk_newaI dX12_init_24 ac_int k_358 (by decide) (by rw [n_358]; decide) (by rw [n_358]; decide) (by omega) (zq_p (zq_p (Z 358 (by omega)) (by omega)) (by omega)) (vl_s (vo_r (by omega)) vl_0) (vs_s (vo_r (by omega)) vs_0) ?_
  refine sk_putF dX12_init_26 fk_RX12_16 (by decide) rfl (by decide) (fun q => ⟨rfl, rfl⟩) (fun q hq => by cases hq; exact ⟨rfl, rfl⟩) k_355 (by omega) (Or.inl (by omega)) rfl ?_
  refine sk_aload_n dX12_init_29 rfl rfl ?_
  refine sk_sipush dX12_init_30 ksp_128 ?_
  refine sk_newaI dX12_init_33 ac_int k_359 (by decide) (by rw [n_359]; decide) (by rw [n_359]; decide) (by omega) (zq_p (zq_p (zq_p (Z 359 (by omega)) (by omega)) (by omega)) (by omega)) (vl_s (vo_r (by omega)) vl_0) (vs_s (vo_r (by omega)) vs_0) ?_
  refine sk_putF dX12_init_35 fk_RX12_20 (by decide) rfl (by decide) (fun q => ⟨rfl, rfl⟩) (fun q hq => by cases hq; exact ⟨rfl, rfl⟩) k_355 (by omega) (Or.inl (by omega)) rfl ?_
  refine sk_aload_n dX12_init_38 rfl rfl ?_
  refine sk_aload_n dX12_init_39 rfl rfl ?_
  refine sk_getR dX12_init_40 fk_RX12_9 (by decide) (by decide) k_355 (by omega) (by rw [rq_k (by decide), rq_k (by decide), rq_k (by decide), rq_s]) ?_
  refine sk_putR dX12_init_43 fk_RX12_23 (by decide) rfl (by decide) (fun q => ⟨rfl, rfl⟩) (fun q hq => by cases hq; rfl) k_355 (by omega) (Or.inl (by omega)) ?_
  refine sk_aload_n dX12_init_46 rfl rfl ?_
  refine sk_ldcS dX12_init_47 (i := 5) (by decide) rfl ?_
  refine sk_putF dX12_init_49 fk_RX12_28 (by decide) rfl (by decide) (fun q => ⟨rfl, rfl⟩) (fun q hq => by cases hq; exact ⟨rfl, rfl⟩) k_355 (by omega) (Or.inr (by omega)) rfl ?_
  refine sk_aload_n dX12_init_52 rfl rfl ?_
  refine sk_ldcS dX12_init_53 (i := 6) (by decide) rfl ?_
  refine sk_putF dX12_init_55 fk_RX12_34 (by decide) rfl (by decide) (fun q => ⟨rfl, rfl⟩) (fun q hq => by cases hq; exact ⟨rfl, rfl⟩) k_355 (by omega) (Or.inr (by omega)) rfl ?_
  refine sk_aload_n dX12_init_58 rfl rfl ?_
  refine sk_iconst dX12_init_59 kic_2 ?_
  refine sk_newaI dX12_init_60 ac_int k_360 (by decide) (by rw [n_360]; decide) (by rw [n_360]; decide) (by omega) (zq_p (zq_p (zq_p (zq_p (zq_p (zq_p (zq_p (Z 360 (by omega)) (by omega)) (by omega)) (by omega)) (by omega)) (by omega)) (by omega)) (by omega)) (vl_s (vo_r (by omega)) vl_0) (vs_s (vo_r (by omega)) vs_0) ?_
  refine sk_putF dX12_init_62 fk_RX12_37 (by decide) rfl (by decide) (fun q => ⟨rfl, rfl⟩) (fun q hq => by cases hq; exact ⟨rfl, rfl⟩) k_355 (by omega) (Or.inl (by omega)) rfl ?_
  refine sk_aload_n dX12_init_65 rfl rfl ?_
  refine sk_iconst dX12_init_66 kic_2 ?_
  refine sk_newaI dX12_init_67 ac_int k_361 (by decide) (by rw [n_361]; decide) (by rw [n_361]; decide) (by omega) (zq_p (zq_p (zq_p (zq_p (zq_p (zq_p (zq_p (zq_p (Z 361 (by omega)) (by omega)) (by omega)) (by omega)) (by omega)) (by omega)) (by omega)) (by omega)) (by omega)) (vl_s (vo_r (by omega)) vl_0) (vs_s (vo_r (by omega)) vs_0) ?_
  refine sk_putF dX12_init_69 fk_RX12_40 (by decide) rfl (by decide) (fun q => ⟨rfl, rfl⟩) (fun q hq => by cases hq; exact ⟨rfl, rfl⟩) k_355 (by omega) (Or.inl (by omega)) rfl ?_
  refine sk_aload_n dX12_init_72 rfl rfl ?_
  refine sk_bipush dX12_init_73 kbp_16 ?_
  refine sk_newaI dX12_init_75 ac_int k_362 (by decide) (by rw [n_362]; decide) (by rw [n_362]; decide) (by omega) (zq_p (zq_p (zq_p (zq_p (zq_p (zq_p (zq_p (zq_p (zq_p (Z 362 (by omega)) (by omega)) (by omega)) (by omega)) (by omega)) (by omega)) (by omega)) (by omega)) (by omega)) (by omega)) (vl_s (vo_r (by omega)) vl_0) (vs_s (vo_r (by omega)) vs_0) ?_
  refine sk_putF dX12_init_77 fk_RX12_43 (by decide) rfl (by decide) (fun q => ⟨rfl, rfl⟩) (fun q hq => by cases hq; exact ⟨rfl, rfl⟩) k_355 (by omega) (Or.inl (by omega)) rfl ?_
  refine sk_aload_n dX12_init_80 rfl rfl ?_
  refine sk_bipush dX12_init_81 kbp_16 ?_
  refine sk_newaI dX12_init_83 ac_int k_363 (by decide) (by rw [n_363]; decide) (by rw [n_363]; decide) (by omega) (zq_p (zq_p (zq_p (zq_p (zq_p (zq_p (zq_p (zq_p (zq_p (zq_p (Z 363 (by omega)) (by omega)) (by omega)) (by omega)) (by omega)) (by omega)) (by omega)) (by omega)) (by omega)) (by omega)) (by omega)) (vl_s (vo_r (by omega)) vl_0) (vs_s (vo_r (by omega)) vs_0) ?_
  refine sk_putF dX12_init_85 fk_RX12_46 (by decide) rfl (by decide) (fun q => ⟨rfl, rfl⟩) (fun q hq => by cases hq; exact ⟨rfl, rfl⟩) k_355 (by omega) (Or.inl (by omega)) rfl ?_
  refine sk_aload_n dX12_init_88 rfl rfl ?_
  refine sk_iconst dX12_init_89 kic_3 ?_
  refine sk_newaI dX12_init_90 ac_int k_364 (by decide) (by rw [n_364]; decide) (by rw [n_364]; decide) (by omega) (zq_p (zq_p (zq_p (zq_p (zq_p (zq_p (zq_p (zq_p (zq_p (zq_p (zq_p (Z 364 (by omega)) (by omega)) (by omega)) (by omega)) (by omega)) (by omega)) (by omega)) (by omega)) (by omega)) (by omega)) (by omega)) (by omega)) (vl_s (vo_r (by omega)) vl_0) (vs_s (vo_r (by omega)) vs_0) ?_
  refine sk_putF dX12_init_92 fk_RX12_49 (by decide) rfl (by decide) (fun q => ⟨rfl, rfl⟩) (fun q hq => by cases hq; exact ⟨rfl, rfl⟩) k_355 (by omega) (Or.inl (by omega)) rfl ?_
  refine sk_aload_n dX12_init_95 rfl rfl ?_
  refine sk_bipush dX12_init_96 kbp_96 ?_
  refine sk_newaI dX12_init_98 ac_int k_365 (by decide) (by rw [n_365]; decide) (by rw [n_365]; decide) (by omega) (zq_p (zq_p (zq_p (zq_p (zq_p (zq_p (zq_p (zq_p (zq_p (zq_p (zq_p (zq_p (Z 365 (by omega)) (by omega)) (by omega)) (by omega)) (by omega)) (by omega)) (by omega)) (by omega)) (by omega)) (by omega)) (by omega)) (by omega)) (by omega)) (vl_s (vo_r (by omega)) vl_0) (vs_s (vo_r (by omega)) vs_0) ?_
  refine sk_putF dX12_init_100 fk_RX12_52 (by decide) rfl (by decide) (fun q => ⟨rfl, rfl⟩) (fun q hq => by cases hq; exact ⟨rfl, rfl⟩) k_355 (by omega) (Or.inl (by omega)) rfl ?_
  refine sk_aload_n dX12_init_103 rfl rfl ?_
  refine sk_bipush dX12_init_104 kbp_96 ?_
  refine sk_newaI dX12_init_106 ac_int k_366 (by decide) (by rw [n_366]; decide) (by rw [n_366]; decide) (by omega) (zq_p (zq_p (zq_p (zq_p (zq_p (zq_p (zq_p (zq_p (zq_p (zq_p (zq_p (zq_p (zq_p (Z 366 (by omega)) (by omega)) (by omega)) (by omega)) (by omega)) (by omega)) (by omega)) (by omega)) (by omega)) (by omega)) (by omega)) (by omega)) (by omega)) (by omega)) (vl_s (vo_r (by omega)) vl_0) (vs_s (vo_r (by omega)) vs_0) ?_
  refine sk_putF dX12_init_108 fk_RX12_55 (by decide) rfl (by decide) (fun q => ⟨rfl, rfl⟩) (fun q hq => by cases hq; exact ⟨rfl, rfl⟩) k_355 (by omega) (Or.inl (by omega)) rfl ?_
  refine sk_aload_n dX12_init_111 rfl rfl ?_
  refine sk_bipush dX12_init_112 kbp_65 ?_
  refine sk_newaI dX12_init_114 ac_int k_367 (by decide) (by rw [n_367]; decide) (by rw [n_367]; decide) (by omega) (zq_p (zq_p (zq_p (zq_p (zq_p (zq_p (zq_p (zq_p (zq_p (zq_p (zq_p (zq_p (zq_p (zq_p (Z 367 (by omega)) (by omega)) (by omega)) (by omega)) (by omega)) (by omega)) (by omega)) (by omega)) (by omega)) (by omega)) (by omega)) (by omega)) (by omega)) (by omega)) (by omega)) (vl_s (vo_r (by omega)) vl_0) (vs_s (vo_r (by omega)) vs_0) ?_
  refine sk_putF dX12_init_116 fk_RX12_58 (by decide) rfl (by decide) (fun q => ⟨rfl, rfl⟩) (fun q hq => by cases hq; exact ⟨rfl, rfl⟩) k_355 (by omega) (Or.inl (by omega)) rfl ?_
  refine sk_aload_n dX12_init_119 rfl rfl ?_
  refine sk_sipush dX12_init_120 ksp_304 ?_
  refine sk_newaI dX12_init_123 ac_int k_368 (by decide) (by rw [n_368]; decide) (by rw [n_368]; decide) (by omega) (zq_p (zq_p (zq_p (zq_p (zq_p (zq_p (zq_p (zq_p (zq_p (zq_p (zq_p (zq_p (zq_p (zq_p (zq_p (Z 368 (by omega)) (by omega)) (by omega)) (by omega)) (by omega)) (by omega)) (by omega)) (by omega)) (by omega)) (by omega)) (by omega)) (by omega)) (by omega)) (by omega)) (by omega)) (by omega)) (vl_s (vo_r (by omega)) vl_0) (vs_s (vo_r (by omega)) vs_0) ?_
  refine sk_putF dX12_init_125 fk_RX12_61 (by decide) rfl (by decide) (fun q => ⟨rfl, rfl⟩) (fun q hq => by cases hq; exact ⟨rfl, rfl⟩) k_355 (by omega) (Or.inl (by omega)) rfl ?_
  refine sk_aload_n dX12_init_128 rfl rfl ?_
  refine sk_sipush dX12_init_129 ksp_304 ?_
  refine sk_newaI dX12_init_132 ac_int k_369 (by decide) (by rw [n_369]; decide) (by rw [n_369]; decide) (by omega) (zq_p (zq_p (zq_p (zq_p (zq_p (zq_p (zq_p (zq_p (zq_p (zq_p (zq_p (zq_p (zq_p (zq_p (zq_p (zq_p (Z 369 (by omega)) (by omega)) (by omega)) (by omega)) (by omega)) (by omega)) (by omega)) (by omega)) (by omega)) (by omega)) (by omega)) (by omega)) (by omega)) (by omega)) (by omega)) (by omega)) (by omega)) (vl_s (vo_r (by omega)) vl_0) (vs_s (vo_r (by omega)) vs_0) ?_
  refine sk_putF dX12_init_134 fk_RX12_64 (by decide) rfl (by decide) (fun q => ⟨rfl, rfl⟩) (fun q hq => by cases hq; exact ⟨rfl, rfl⟩) k_355 (by omega) (Or.inl (by omega)) rfl ?_
  refine sk_aload_n dX12_init_137 rfl rfl ?_
  refine sk_iconst dX12_init_138 kic_m1 ?_
  refine sk_putI dX12_init_139 fk_RX12_67 (by decide) rfl (fun q hq => by cases hq; rfl) k_355 (by omega) ?_
  refine sk_aload_n dX12_init_142 rfl rfl ?_
  refine sk_sipush dX12_init_143 ksp_12160 ?_
  refine sk_newaI dX12_init_146 ac_int k_370 (by decide) (by rw [n_370]; decide) (by rw [n_370]; decide) (by omega) (zq_I (zq_p (zq_p (zq_p (zq_p (zq_p (zq_p (zq_p (zq_p (zq_p (zq_p (zq_p (zq_p (zq_p (zq_p (zq_p (zq_p (zq_p (Z 370 (by omega)) (by omega)) (by omega)) (by omega)) (by omega)) (by omega)) (by omega)) (by omega)) (by omega)) (by omega)) (by omega)) (by omega)) (by omega)) (by omega)) (by omega)) (by omega)) (by omega)) (by omega)) (by omega)) (vl_s (vo_r (by omega)) vl_0) (vs_s (vo_r (by omega)) vs_0) ?_
  refine sk_putF dX12_init_148 fk_RX12_71 (by decide) rfl (by decide) (fun q => ⟨rfl, rfl⟩) (fun q hq => by cases hq; exact ⟨rfl, rfl⟩) k_355 (by omega) (Or.inl (by omega)) rfl ?_
  refine sk_aload_n dX12_init_151 rfl rfl ?_
  refine sk_bipush dX12_init_152 kbp_10 ?_
  refine sk_newaI dX12_init_154 ac_int k_371 (by decide) (by rw [n_371]; decide) (by rw [n_371]; decide) (by omega) (zq_p (zq_I (zq_p (zq_p (zq_p (zq_p (zq_p (zq_p (zq_p (zq_p (zq_p (zq_p (zq_p (zq_p (zq_p (zq_p (zq_p (zq_p (zq_p (Z 371 (by omega)) (by omega)) (by omega)) (by omega)) (by omega)) (by omega)) (by omega)) (by omega)) (by omega)) (by omega)) (by omega)) (by omega)) (by omega)) (by omega)) (by omega)) (by omega)) (by omega)) (by omega)) (by omega)) (by omega)) (vl_s (vo_r (by omega)) vl_0) (vs_s (vo_r (by omega)) vs_0) ?_
  refine sk_putF dX12_init_156 fk_RX12_74 (by decide) rfl (by decide) (fun q => ⟨rfl, rfl⟩) (fun q hq => by cases hq; exact ⟨rfl, rfl⟩) k_355 (by omega) (Or.inl (by omega)) rfl ?_
  refine sk_aload_n dX12_init_159 rfl rfl ?_
  refine sk_bipush dX12_init_160 kbp_10 ?_
  refine sk_newaI dX12_init_162 ac_int k_372 (by decide) (by rw [n_372]; decide) (by rw [n_372]; decide) (by omega) (zq_p (zq_p (zq_I (zq_p (zq_p (zq_p (zq_p (zq_p (zq_p (zq_p (zq_p (zq_p (zq_p (zq_p (zq_p (zq_p (zq_p (zq_p (zq_p (zq_p (Z 372 (by omega)) (by omega)) (by omega)) (by omega)) (by omega)) (by omega)) (by omega)) (by omega)) (by omega)) (by omega)) (by omega)) (by omega)) (by omega)) (by omega)) (by omega)) (by omega)) (by omega)) (by omega)) (by omega)) (by omega)) (by omega)) (vl_s (vo_r (by omega)) vl_0) (vs_s (vo_r (by omega)) vs_0) ?_
  refine sk_putF dX12_init_164 fk_RX12_77 (by decide) rfl (by decide) (fun q => ⟨rfl, rfl⟩) (fun q hq => by cases hq; exact ⟨rfl, rfl⟩) k_355 (by omega) (Or.inl (by omega)) rfl ?_
  refine sk_aload_n dX12_init_167 rfl rfl ?_
  refine sk_bipush dX12_init_168 kbp_10 ?_
  refine sk_newaZ dX12_init_170 ac_boolean k_373 (by decide) (by rw [n_373]; decide) (by rw [n_373]; decide) (by omega) (zq_p (zq_p (zq_p (zq_I (zq_p (zq_p (zq_p (zq_p (zq_p (zq_p (zq_p (zq_p (zq_p (zq_p (zq_p (zq_p (zq_p (zq_p (zq_p (zq_p (zq_p (Z 373 (by omega)) (by omega)) (by omega)) (by omega)) (by omega)) (by omega)) (by omega)) (by omega)) (by omega)) (by omega)) (by omega)) (by omega)) (by omega)) (by omega)) (by omega)) (by omega)) (by omega)) (by omega)) (by omega)) (by omega)) (by omega)) (by omega)) (vl_s (vo_r (by omega)) vl_0) (vs_s (vo_r (by omega)) vs_0) ?_
  refine sk_putF dX12_init_172 fk_RX12_80 (by decide) rfl (by decide) (fun q => ⟨rfl, rfl⟩) (fun q hq => by cases hq; exact ⟨rfl, rfl⟩) k_355 (by omega) (Or.inl (by omega)) rfl ?_
  refine sk_aload_n dX12_init_175 rfl rfl ?_
  refine sk_bipush dX12_init_176 kbp_32 ?_
  refine sk_newaJ dX12_init_178 ac_long k_374 (by decide) (by rw [n_374]; decide) (by rw [n_374]; decide) (by omega) (zq_p (zq_p (zq_p (zq_p (zq_I (zq_p (zq_p (zq_p (zq_p (zq_p (zq_p (zq_p (zq_p (zq_p (zq_p (zq_p (zq_p (zq_p (zq_p (zq_p (zq_p (zq_p (Z 374 (by omega)) (by omega)) (by omega)) (by omega)) (by omega)) (by omega)) (by omega)) (by omega)) (by omega)) (by omega)) (by omega)) (by omega)) (by omega)) (by omega)) (by omega)) (by omega)) (by omega)) (by omega)) (by omega)) (by omega)) (by omega)) (by omega)) (by omega)) (vl_s (vo_r (by omega)) vl_0) (vs_s (vo_r (by omega)) vs_0) ?_
  refine sk_putF dX12_init_180 fk_RX12_84 (by decide) rfl (by decide) (fun q => ⟨rfl, rfl⟩) (fun q hq => by cases hq; exact ⟨rfl, rfl⟩) k_355 (by omega) (Or.inl (by omega)) rfl ?_
  refine sk_aload_n dX12_init_183 rfl rfl ?_
  refine sk_sipush dX12_init_184 ksp_304 ?_
  refine sk_newaI dX12_init_187 ac_int k_375 (by decide) (by rw [n_375]; decide) (by rw [n_375]; decide) (by omega) (zq_p (zq_p (zq_p (zq_p (zq_p (zq_I (zq_p (zq_p (zq_p (zq_p (zq_p (zq_p (zq_p (zq_p (zq_p (zq_p (zq_p (zq_p (zq_p (zq_p (zq_p (zq_p (zq_p (Z 375 (by omega)) (by omega)) (by omega)) (by omega)) (by omega)) (by omega)) (by omega)) (by omega)) (by omega)) (by omega)) (by omega)) (by omega)) (by omega)) (by omega)) (by omega)) (by omega)) (by omega)) (by omega)) (by omega)) (by omega)) (by omega)) (by omega)) (by omega)) (by omega)) (vl_s (vo_r (by omega)) vl_0) (vs_s (vo_r (by omega)) vs_0) ?_
  refine sk_putF dX12_init_189 fk_RX12_88 (by decide) rfl (by decide) (fun q => ⟨rfl, rfl⟩) (fun q hq => by cases hq; exact ⟨rfl, rfl⟩) k_355 (by omega) (Or.inl (by omega)) rfl ?_
  refine sk_ret (st := []) dX12_init_192 rfl rfl ?_
  intro x hx ad tc
  refine cq_ext (fun hk k hk2 hk3 => ?_) (fun hk j => ?_) ad tc
  · rcases (show x < 355 ∨ x = 355 ∨ 355 < x by omega) with h5 | rfl | h5
    · rw [rq_o (by omega), rq_o (by omega), rq_o (by omega), rq_o (by omega), rq_o (by omega), rq_o (by omega), rq_o (by omega), rq_o (by omega), rq_o (by omega), rq_o (by omega), rq_o (by omega), rq_o (by omega), rq_o (by omega), rq_o (by omega), rq_o (by omega), rq_o (by omega), rq_o (by omega), rq_o (by omega), rq_o (by omega), rq_o (by omega), rq_o (by omega), rq_o (by omega), rq_o (by omega), rq_o (by omega), fl_o (by omega)]
    · by_cases h6 : k = 5
      · subst h6; rw [rq_k (by decide), rq_k (by decide), rq_k (by decide), rq_k (by decide), rq_k (by decide), rq_k (by decide), rq_k (by decide), rq_k (by decide), rq_k (by decide), rq_k (by decide), rq_k (by decide), rq_k (by decide), rq_k (by decide), rq_k (by decide), rq_k (by decide), rq_k (by decide), rq_k (by decide), rq_k (by decide), rq_s, rq_s]
      · have hr9 : is_R 355 k = true := by
          unfold is_R; rw [k_355] at hk hk3 ⊢; rw [if_pos (by decide)]; simp [hk2, hk3, h6]
        rcases iR_12 k_355 hr9 with rfl | rfl | rfl | rfl | rfl | rfl | rfl | rfl | rfl | rfl | rfl | rfl | rfl | rfl | rfl | rfl | rfl | rfl | rfl | rfl | rfl | rfl
        · rw [rq_k (by decide), rq_k (by decide), rq_k (by decide), rq_k (by decide), rq_k (by decide), rq_k (by decide), rq_k (by decide), rq_k (by decide), rq_k (by decide), rq_k (by decide), rq_k (by decide), rq_k (by decide), rq_k (by decide), rq_k (by decide), rq_k (by decide), rq_k (by decide), rq_k (by decide), rq_k (by decide), rq_k (by decide), rq_k (by decide), rq_k (by decide), rq_k (by decide), rq_s, rq_k (by decide), fl_i (by decide) (by decide) hr9, rf_12_1 k_355]
        · rw [rq_k (by decide), rq_k (by decide), rq_k (by decide), rq_k (by decide), rq_k (by decide), rq_k (by decide), rq_k (by decide), rq_k (by decide), rq_k (by decide), rq_k (by decide), rq_k (by decide), rq_k (by decide), rq_k (by decide), rq_k (by decide), rq_k (by decide), rq_k (by decide), rq_k (by decide), rq_k (by decide), rq_k (by decide), rq_k (by decide), rq_k (by decide), rq_s, rq_k (by decide), fl_i (by decide) (by decide) hr9, rf_12_2 k_355]
        · rw [rq_k (by decide), rq_k (by decide), rq_k (by decide), rq_k (by decide), rq_k (by decide), rq_k (by decide), rq_k (by decide), rq_k (by decide), rq_k (by decide), rq_k (by decide), rq_k (by decide), rq_k (by decide), rq_k (by decide), rq_k (by decide), rq_k (by decide), rq_k (by decide), rq_k (by decide), rq_k (by decide), rq_k (by decide), rq_k (by decide), rq_s, rq_k (by decide), fl_i (by decide) (by decide) hr9, rf_12_3 k_355]
        · rw [rq_k (by decide), rq_k (by decide), rq_k (by decide), rq_k (by decide), rq_k (by decide), rq_k (by decide), rq_k (by decide), rq_k (by decide), rq_k (by decide), rq_k (by decide), rq_k (by decide), rq_k (by decide), rq_k (by decide), rq_k (by decide), rq_k (by decide), rq_k (by decide), rq_k (by decide), rq_k (by decide), rq_k (by decide), rq_s, rq_k (by decide), fl_i (by decide) (by decide) hr9, rf_12_4 k_355]
        · rw [rq_k (by decide), rq_k (by decide), rq_k (by decide), rq_k (by decide), rq_k (by decide), rq_k (by decide), rq_k (by decide), rq_k (by decide), rq_k (by decide), rq_k (by decide), rq_k (by decide), rq_k (by decide), rq_k (by decide), rq_k (by decide), rq_k (by decide), rq_k (by decide), rq_k (by decide), rq_s, rq_k (by decide), fl_i (by decide) (by decide) hr9, rf_12_15 k_355]
        · rw [rq_k (by decide), rq_k (by decide), rq_k (by decide), rq_k (by decide), rq_k (by decide), rq_k (by decide), rq_k (by decide), rq_k (by decide), rq_k (by decide), rq_k (by decide), rq_k (by decide), rq_k (by decide), rq_k (by decide), rq_k (by decide), rq_k (by decide), rq_k (by decide), rq_s, rq_k (by decide), fl_i (by decide) (by decide) hr9, rf_12_16 k_355]
        · rw [rq_k (by decide), rq_k (by decide), rq_k (by decide), rq_k (by decide), rq_k (by decide), rq_k (by decide), rq_k (by decide), rq_k (by decide), rq_k (by decide), rq_k (by decide), rq_k (by decide), rq_k (by decide), rq_k (by decide), rq_k (by decide), rq_k (by decide), rq_s, rq_k (by decide), fl_i (by decide) (by decide) hr9, rf_12_18 k_355]
        · rw [rq_k (by decide), rq_k (by decide), rq_k (by decide), rq_k (by decide), rq_k (by decide), rq_k (by decide), rq_k (by decide), rq_k (by decide), rq_k (by decide), rq_k (by decide), rq_k (by decide), rq_k (by decide), rq_k (by decide), rq_k (by decide), rq_s, rq_k (by decide), fl_i (by decide) (by decide) hr9, rf_12_19 k_355]
        · rw [rq_k (by decide), rq_k (by decide), rq_k (by decide), rq_k (by decide), rq_k (by decide), rq_k (by decide), rq_k (by decide), rq_k (by decide), rq_k (by decide), rq_k (by decide), rq_k (by decide), rq_k (by decide), rq_k (by decide), rq_s, rq_k (by decide), fl_i (by decide) (by decide) hr9, rf_12_20 k_355]
        · rw [rq_k (by decide), rq_k (by decide), rq_k (by decide), rq_k (by decide), rq_k (by decide), rq_k (by decide), rq_k (by decide), rq_k (by decide), rq_k (by decide), rq_k (by decide), rq_k (by decide), rq_k (by decide), rq_s, rq_k (by decide), fl_i (by decide) (by decide) hr9, rf_12_21 k_355]
        · rw [rq_k (by decide), rq_k (by decide), rq_k (by decide), rq_k (by decide), rq_k (by decide), rq_k (by decide), rq_k (by decide), rq_k (by decide), rq_k (by decide), rq_k (by decide), rq_k (by decide), rq_s, rq_k (by decide), fl_i (by decide) (by decide) hr9, rf_12_22 k_355]
        · rw [rq_k (by decide), rq_k (by decide), rq_k (by decide), rq_k (by decide), rq_k (by decide), rq_k (by decide), rq_k (by decide), rq_k (by decide), rq_k (by decide), rq_k (by decide), rq_s, rq_k (by decide), fl_i (by decide) (by decide) hr9, rf_12_23 k_355]
        · rw [rq_k (by decide), rq_k (by decide), rq_k (by decide), rq_k (by decide), rq_k (by decide), rq_k (by decide), rq_k (by decide), rq_k (by decide), rq_k (by decide), rq_s, rq_k (by decide), fl_i (by decide) (by decide) hr9, rf_12_24 k_355]
        · rw [rq_k (by decide), rq_k (by decide), rq_k (by decide), rq_k (by decide), rq_k (by decide), rq_k (by decide), rq_k (by decide), rq_k (by decide), rq_s, rq_k (by decide), fl_i (by decide) (by decide) hr9, rf_12_25 k_355]
        · rw [rq_k (by decide), rq_k (by decide), rq_k (by decide), rq_k (by decide), rq_k (by decide), rq_k (by decide), rq_k (by decide), rq_s, rq_k (by decide), fl_i (by decide) (by decide) hr9, rf_12_32 k_355]
        · rw [rq_k (by decide), rq_k (by decide), rq_k (by decide), rq_k (by decide), rq_k (by decide), rq_k (by decide), rq_s, rq_k (by decide), fl_i (by decide) (by decide) hr9, rf_12_33 k_355]
        · rw [rq_k (by decide), rq_k (by decide), rq_k (by decide), rq_k (by decide), rq_k (by decide), rq_s, rq_k (by decide), fl_i (by decide) (by decide) hr9, rf_12_36 k_355]
        · rw [rq_k (by decide), rq_k (by decide), rq_k (by decide), rq_k (by decide), rq_s, rq_k (by decide), fl_i (by decide) (by decide) hr9, rf_12_42 k_355]
        · rw [rq_k (by decide), rq_k (by decide), rq_k (by decide), rq_s, rq_k (by decide), fl_i (by decide) (by decide) hr9, rf_12_43 k_355]
        · rw [rq_k (by decide), rq_k (by decide), rq_s, rq_k (by decide), fl_i (by decide) (by decide) hr9, rf_12_44 k_355]
        · rw [rq_k (by decide), rq_s, rq_k (by decide), fl_i (by decide) (by decide) hr9, rf_12_46 k_355]
        · rw [rq_s, rq_k (by decide), fl_i (by decide) (by decide) hr9, rf_12_47 k_355]
    · exact absurd hk (by have := m_kinds x (by omega) h5; omega)
  · rcases (show x < 355 ∨ x = 355 ∨ 355 < x by omega) with h5 | rfl | h5
    · rw [rq_o (by omega), rq_o (by omega), rq_o (by omega), rq_o (by omega), rq_o (by omega), rq_o (by omega), rq_o (by omega), rq_o (by omega), rq_o (by omega), rq_o (by omega), rq_o (by omega), rq_o (by omega), rq_o (by omega), rq_o (by omega), rq_o (by omega), rq_o (by omega), rq_o (by omega), rq_o (by omega), rq_o (by omega), rq_o (by omega), rq_o (by omega), rq_o (by omega), rq_o (by omega), rq_o (by omega), fl_o (by omega)]
    · exact absurd hk (by rw [k_355]; decide)
    · exact absurd hk (by have := m_kinds x (by omega) h5; omega)
