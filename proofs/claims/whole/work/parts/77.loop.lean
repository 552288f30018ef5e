theorem li_le {i L : Nat} (hi : i < 10000) (hL : L ≤ 3072) (q : ¬ Int32.ofNat L - 6 < nI i) : i + 6 ≤ L := by
  have h1 : (Int32.ofNat L - 6).toInt = (L : Int) - 6 := by
    show (nI L - nI 6).toInt = _
    exact pk_sub_toInt (by omega) (by decide)
  rw [Int32.lt_iff_toInt_lt, h1, nI_toInt (by omega)] at q
  omega
theorem lh_inc {p : Program} {l : Launch} {e : Env} {s : State} {m : MethodId} {below : List Frame} {meth : Method} {c : Code} {b L : Nat} {xs : Nat → Int32} {ad : Nat → Nat} {tc : Nat → ClassId} {D : va_G} {i cells slots : Nat} {μ : MM} (hLx : Lx p s m meth c b L xs ad tc D) (k : Lh p l e s m below meth c b ad tc D (i + 6) cells slots 23 [] μ) : Lh p l e s m below meth c b ad tc D i cells slots 1550 [] μ := by
  intro H locs la hP hD hS hl
  obtain ⟨⟨hx, hb, hr, hml, hown, hts, hX, hbl, hlocks, hgv⟩, hK, hro, hL⟩ := hLx
  refine lv_iinc (v := nI (i + 6)) (lv' := [(4, .int (nI (i + 6))), (0, .ref b), (1, .ref (ad 0)), (2, .ref (ad 355)), (3, .ref (ad 376))]) hx hb dL_law_1550 hl (k := 4) rfl (show nI i + Int32.ofInt 6 = nI (i + 6) by rw [← nI_add]; rfl) (by decide) rfl (fun la2 hl2 => ?_)
  refine lv_goto (tgt := 23) hx hb dL_law_1553 (by decide) ?_
  exact k H locs la2 hP hD hS (lv_sub hl2 [1, 2, 3, 4, 0] rfl)
theorem lh_out {p : Program} {l : Launch} {e : Env} {s : State} {m : MethodId} {below : List Frame} {meth : Method} {c : Code} {b L : Nat} {xs : Nat → Int32} {ad : Nat → Nat} {tc : Nat → ClassId} {D : va_G} {i cells slots : Nat} {μ : MM} (hLx : Lx p s m meth c b L xs ad tc D) (hc9 : cells ≤ 601024 ∧ slots ≤ 7293034) : Lh p l e s m below meth c b ad tc D i cells slots 1556 [] μ := by
  intro H locs la hP hD hS hl
  obtain ⟨⟨hx, hb, hr, hml, hown, hts, hX, hbl, hlocks, hgv⟩, hK, hro, hL⟩ := hLx
  refine lv_iconst (v := 1) hx hb dL_law_1556 (by decide) ?_
  refine va_forget (fun q hq => hS.2.2 q hq) ?_
  refine W.widen (k := 601024) (n := 7293034) hc9.1 hc9.2 ?_
  exact lw_ret hx hb hr hlocks dL_law_1557
theorem lh_tswI {p : Program} {l : Launch} {e : Env} {s : State} {m : MethodId} {below : List Frame} {meth : Method} {c : Code} {b L : Nat} {xs : Nat → Int32} {ad : Nat → Nat} {tc : Nat → ClassId} {D : va_G} {i cells slots pc : Nat} {st : List Value} {μ : MM} {x : Int32} {dflt lo hi off : Int} {offs : Array Int} {len tgt : Nat} (hLx : Lx p s m meth c b L xs ad tc D) (hd : decode code pc = .ok (.tableswitch dflt lo hi offs, len)) (h1 : ¬ x.toInt < lo) (h2 : ¬ hi < x.toInt) (ho : offs[(x.toInt - lo).toNat]? = some off) (ht : (pc : Int) + off = (tgt : Int)) (k : Lh p l e s m below meth c b ad tc D i cells slots tgt st μ) : Lh p l e s m below meth c b ad tc D i cells slots pc (.int x :: st) μ := by
  intro H locs la hP hD hS hl
  obtain ⟨⟨hx, hb, hr, hml, hown, hts, hX, hbl, hlocks, hgv⟩, hK, hro, hL⟩ := hLx
  exact lv_tableIn hx hb hd h1 h2 ho ht (k H locs la hP hD hS hl)
theorem lh_tswO {p : Program} {l : Launch} {e : Env} {s : State} {m : MethodId} {below : List Frame} {meth : Method} {c : Code} {b L : Nat} {xs : Nat → Int32} {ad : Nat → Nat} {tc : Nat → ClassId} {D : va_G} {i cells slots pc : Nat} {st : List Value} {μ : MM} {x : Int32} {dflt lo hi : Int} {offs : Array Int} {len tgt : Nat} (hLx : Lx p s m meth c b L xs ad tc D) (hd : decode code pc = .ok (.tableswitch dflt lo hi offs, len)) (h1 : x.toInt < lo ∨ hi < x.toInt) (ht : (pc : Int) + dflt = (tgt : Int)) (k : Lh p l e s m below meth c b ad tc D i cells slots tgt st μ) : Lh p l e s m below meth c b ad tc D i cells slots pc (.int x :: st) μ := by
  intro H locs la hP hD hS hl
  obtain ⟨⟨hx, hb, hr, hml, hown, hts, hX, hbl, hlocks, hgv⟩, hK, hro, hL⟩ := hLx
  exact lv_tableOut hx hb hd h1 ht (k H locs la hP hD hS hl)
set_option maxRecDepth 100000 in
set_option maxHeartbeats 4000000 in
theorem law_loop {p : Program} {l : Launch} {e : Env} {s : State} {m : MethodId} {below : List Frame} {meth : Method} {c : Code} {b L : Nat} {xs : Nat → Int32} {ad : Nat → Nat} {tc : Nat → ClassId} {D : va_G} {Inv : Nat → MM → Prop} (hmono : ∀ (k : Nat) (μ : MM), Inv k μ → Inv (k + 6) μ) (hLx : Lx p s m meth c b L xs ad tc D) (h_feed : ∀ k : Nat, k ≤ 3072 → ∀ (x1 : Int32) (x2 : Int32) (x3 : Int32) (x4 : Int32) (x5 : Int32) (μ : MM), Inv k μ → ∃ (r : Int32) (μ1 μ2 : MM), f_Ro_feed NN x1 x2 x3 x4 x5 μ = some (r, μ1) ∧ f_Mo_feed NN x1 x2 x3 x4 x5 μ1 = some (r, μ2) ∧ Inv (k + 6) μ2) (h_end : ∀ k : Nat, k ≤ 3072 → ∀ (x1 : Int32) (μ : MM), Inv k μ → ∃ (r : Int32) (μ1 μ2 : MM), f_Ro_end NN x1 μ = some (r, μ1) ∧ f_Mo_end NN x1 μ1 = some (r, μ2) ∧ Inv (k + 6) μ2) (h_fault : ∀ k : Nat, k ≤ 3072 → ∀ (x1 : Int32) (μ : MM), Inv k μ → ∃ (r : Int32) (μ1 μ2 : MM), f_Ro_fault NN x1 μ = some (r, μ1) ∧ f_Mo_fault NN x1 μ1 = some (r, μ2) ∧ Inv (k + 6) μ2) (h_text : ∀ k : Nat, k ≤ 3072 → ∀ (x1 : Int32) (μ : MM), Inv k μ → ∃ (r : Int32) (μ1 μ2 : MM), f_Ro_text NN x1 μ = some (r, μ1) ∧ f_Mo_text NN x1 μ1 = some (r, μ2) ∧ Inv (k + 6) μ2) (h_card : ∀ k : Nat, k ≤ 3072 → ∀ (x1 : Int32) (x2 : Int32) (μ : MM), Inv k μ → ∃ (r : Int32) (μ1 μ2 : MM), f_Ro_card NN x1 x2 μ = some (r, μ1) ∧ f_Mo_card NN x1 x2 μ1 = some (r, μ2) ∧ Inv (k + 6) μ2) (h_word : ∀ k : Nat, k ≤ 3072 → ∀ (x1 : Int32) (x2 : Int32) (x3 : Int32) (μ : MM), Inv k μ → ∃ (r : Int32) (μ1 μ2 : MM), f_Ro_word NN x1 x2 x3 μ = some (r, μ1) ∧ f_Mo_word NN x1 x2 x3 μ1 = some (r, μ2) ∧ Inv (k + 6) μ2) (h_law : ∀ k : Nat, k ≤ 3072 → ∀ (x1 : Int32) (μ : MM), Inv k μ → ∃ (r : Int32) (μ1 μ2 : MM), f_Ro_law NN x1 μ = some (r, μ1) ∧ f_Mo_law NN x1 μ1 = some (r, μ2) ∧ Inv (k + 6) μ2) (h_cleaner : ∀ k : Nat, k ≤ 3072 → ∀ (x1 : Int32) (μ : MM), Inv k μ → ∃ (r : Int32) (μ1 μ2 : MM), f_Ro_cleaner NN x1 μ = some (r, μ1) ∧ f_Mo_cleaner NN x1 μ1 = some (r, μ2) ∧ Inv (k + 6) μ2) (h_fits : ∀ k : Nat, k ≤ 3072 → ∀ (x1 : Int32) (x2 : Int32) (μ : MM), Inv k μ → ∃ (r : Int32) (μ1 μ2 : MM), f_Ro_fits NN x1 x2 μ = some (r, μ1) ∧ f_Mo_fits NN x1 x2 μ1 = some (r, μ2) ∧ Inv (k + 6) μ2) (h_put : ∀ k : Nat, k ≤ 3072 → ∀ (x1 : Int32) (x2 : Int32) (μ : MM), Inv k μ → ∃ (r : Int32) (μ1 μ2 : MM), f_Ro_put NN x1 x2 μ = some (r, μ1) ∧ f_Mo_put_ NN x1 x2 μ1 = some (r, μ2) ∧ Inv (k + 6) μ2) (h_take : ∀ k : Nat, k ≤ 3072 → ∀ (x1 : Int32) (μ : MM), Inv k μ → ∃ (r : Int32) (μ1 μ2 : MM), f_Ro_take NN x1 μ = some (r, μ1) ∧ f_Mo_take NN x1 μ1 = some (r, μ2) ∧ Inv (k + 6) μ2) (h_copy : ∀ k : Nat, k ≤ 3072 → ∀ (x1 : Int32) (μ : MM), Inv k μ → ∃ (r : Int32) (μ1 μ2 : MM), f_Ro_copy NN x1 μ = some (r, μ1) ∧ f_Mo_copy NN x1 μ1 = some (r, μ2) ∧ Inv (k + 6) μ2) (h_lamp : ∀ k : Nat, k ≤ 3072 → ∀ (x1 : Int32) (μ : MM), Inv k μ → ∃ (r : Int32) (μ1 μ2 : MM), f_Ro_lamp NN x1 μ = some (r, μ1) ∧ f_Mo_lamp NN x1 μ1 = some (r, μ2) ∧ Inv (k + 6) μ2) (h_light : ∀ k : Nat, k ≤ 3072 → ∀ (x1 : Int32) (μ : MM), Inv k μ → ∃ (r : Int32) (μ1 μ2 : MM), f_Ro_light NN x1 μ = some (r, μ1) ∧ f_Mo_light NN x1 μ1 = some (r, μ2) ∧ Inv (k + 6) μ2) (h_write : ∀ k : Nat, k ≤ 3072 → ∀ (x1 : Int32) (x2 : Int32) (μ : MM), Inv k μ → ∃ (r : Int32) (μ1 μ2 : MM), f_Ro_write NN x1 x2 μ = some (r, μ1) ∧ f_Mo_write NN x1 x2 μ1 = some (r, μ2) ∧ Inv (k + 6) μ2) (h_days : ∀ k : Nat, k ≤ 3072 → ∀ (x1 : Int32) (μ : MM), Inv k μ → ∃ (r : Int32) (μ1 μ2 : MM), f_Ro_days NN x1 μ = some (r, μ1) ∧ f_Mo_days NN x1 μ1 = some (r, μ2) ∧ Inv (k + 6) μ2) (h_decades : ∀ k : Nat, k ≤ 3072 → ∀ (x1 : Int32) (y2 : Int64) (μ : MM), Inv k μ → ∃ (r : Int32) (μ1 μ2 : MM), f_Ro_decades NN x1 y2 μ = some (r, μ1) ∧ f_Mo_decades NN x1 y2 μ1 = some (r, μ2) ∧ Inv (k + 6) μ2) (h_undo : ∀ k : Nat, k ≤ 3072 → ∀ (μ : MM), Inv k μ → ∃ (r : Int32) (μ1 μ2 : MM), f_Ro_undo NN μ = some (r, μ1) ∧ f_Mo_undo NN μ1 = some (r, μ2) ∧ Inv (k + 6) μ2) (h_log : ∀ k : Nat, k ≤ 3072 → ∀ (x1 : Int32) (x2 : Int32) (μ : MM), Inv k μ → ∃ (r : Int32) (μ1 μ2 : MM), f_Ro_log NN x1 x2 μ = some (r, μ1) ∧ f_Mo_log NN x1 x2 μ1 = some (r, μ2) ∧ Inv (k + 6) μ2) (h_reading : ∀ k : Nat, k ≤ 3072 → ∀ (x1 : Int32) (x2 : Int32) (x3 : Int32) (μ : MM), Inv k μ → ∃ (r : Int32) (μ1 μ2 : MM), f_Ro_reading NN x1 x2 x3 μ = some (r, μ1) ∧ f_Mo_reading NN x1 x2 x3 μ1 = some (r, μ2) ∧ Inv (k + 6) μ2) (h_right : ∀ k : Nat, k ≤ 3072 → ∀ (μ : MM), Inv k μ → ∃ (r : Int32) (μ1 μ2 : MM), f_Ro_right NN μ = some (r, μ1) ∧ f_Mo_right NN μ1 = some (r, μ2) ∧ Inv (k + 6) μ2) (h_matched : ∀ k : Nat, k ≤ 3072 → ∀ (x1 : Int32) (μ : MM), Inv k μ → ∃ (r : Int32) (μ1 μ2 : MM), f_Ro_matched NN x1 μ = some (r, μ1) ∧ f_Mo_matched NN x1 μ1 = some (r, μ2) ∧ Inv (k + 6) μ2) (h_clash : ∀ k : Nat, k ≤ 3072 → ∀ (μ : MM), Inv k μ → ∃ (r : Int32) (μ1 μ2 : MM), f_Ro_clash NN μ = some (r, μ1) ∧ f_Mo_clash NN μ1 = some (r, μ2) ∧ Inv (k + 6) μ2) (h_blank : ∀ k : Nat, k ≤ 3072 → ∀ (x1 : Int32) (μ : MM), Inv k μ → ∃ (r : Int32) (μ1 μ2 : MM), f_Ro_blank NN x1 μ = some (r, μ1) ∧ f_Mo_blank NN x1 μ1 = some (r, μ2) ∧ Inv (k + 6) μ2) (h_stood : ∀ k : Nat, k ≤ 3072 → ∀ (x1 : Int32) (x2 : Int32) (x3 : Int32) (μ : MM), Inv k μ → (x3 = 0 ∨ x3 = 1) → ∃ (r : Int32) (μ1 μ2 : MM), f_Ro_stood NN x1 x2 x3 μ = some (r, μ1) ∧ f_Mo_stood NN x1 x2 x3 μ1 = some (r, μ2) ∧ Inv (k + 6) μ2) (h_once : ∀ k : Nat, k ≤ 3072 → ∀ (x1 : Int32) (x2 : Int32) (μ : MM), Inv k μ → ∃ (r : Int32) (μ1 μ2 : MM), f_Ro_once NN x1 x2 μ = some (r, μ1) ∧ f_Mo_once NN x1 x2 μ1 = some (r, μ2) ∧ Inv (k + 6) μ2) (h_probe : ∀ k : Nat, k ≤ 3072 → ∀ (x1 : Int32) (μ : MM), Inv k μ → ∃ (r : Int32) (μ1 μ2 : MM), f_Ro_probe NN x1 μ = some (r, μ1) ∧ f_Mo_probe NN x1 μ1 = some (r, μ2) ∧ Inv (k + 6) μ2) (h_saves : ∀ k : Nat, k ≤ 3072 → ∀ (x1 : Int32) (x2 : Int32) (μ : MM), Inv k μ → ∃ (r : Int32) (μ1 μ2 : MM), f_Ro_saves NN x1 x2 μ = some (r, μ1) ∧ f_Mo_saves NN x1 x2 μ1 = some (r, μ2) ∧ Inv (k + 6) μ2) (h_round : ∀ k : Nat, k ≤ 3072 → ∀ (μ : MM), Inv k μ → ∃ (r : Int32) (μ1 μ2 : MM), f_Ro_round NN μ = some (r, μ1) ∧ f_Mo_round NN μ1 = some (r, μ2) ∧ Inv (k + 6) μ2) (h_nowhere : ∀ k : Nat, k ≤ 3072 → ∀ (μ : MM), Inv k μ → ∃ (r : Int32) (μ1 μ2 : MM), f_Ro_nowhere NN μ = some (r, μ1) ∧ f_Mo_nowhere NN μ1 = some (r, μ2) ∧ Inv (k + 6) μ2) (h_forged : ∀ k : Nat, k ≤ 3072 → ∀ (μ : MM), Inv k μ → ∃ (r : Int32) (μ1 μ2 : MM), f_Ro_forged NN μ = some (r, μ1) ∧ f_Mo_forged NN μ1 = some (r, μ2) ∧ Inv (k + 6) μ2) (h_alone : ∀ k : Nat, k ≤ 3072 → ∀ (x1 : Int32) (μ : MM), Inv k μ → ∃ (r : Int32) (μ1 μ2 : MM), f_Ro_alone NN x1 μ = some (r, μ1) ∧ f_Mo_alone NN x1 μ1 = some (r, μ2) ∧ Inv (k + 6) μ2) (h_suits : ∀ k : Nat, k ≤ 3072 → ∀ (x1 : Int32) (μ : MM), Inv k μ → ∃ (r : Int32) (μ1 μ2 : MM), f_Ro_suits NN x1 μ = some (r, μ1) ∧ f_Mo_suits NN x1 μ1 = some (r, μ2) ∧ Inv (k + 6) μ2) (h_wanted : ∀ k : Nat, k ≤ 3072 → ∀ (x1 : Int32) (μ : MM), Inv k μ → ∃ (r : Int32) (μ1 μ2 : MM), f_Ro_wanted NN x1 μ = some (r, μ1) ∧ f_Mo_wanted NN x1 μ1 = some (r, μ2) ∧ Inv (k + 6) μ2) (h_perhaps : ∀ k : Nat, k ≤ 3072 → ∀ (μ : MM), Inv k μ → ∃ (r : Int32) (μ1 μ2 : MM), f_Ro_perhaps NN μ = some (r, μ1) ∧ f_Mo_perhaps NN μ1 = some (r, μ2) ∧ Inv (k + 6) μ2) (h_shared : ∀ k : Nat, k ≤ 3072 → ∀ (x1 : Int32) (x2 : Int32) (μ : MM), Inv k μ → ∃ (r : Int32) (μ1 μ2 : MM), f_Ro_shared NN x1 x2 μ = some (r, μ1) ∧ f_Mo_shared NN x1 x2 μ1 = some (r, μ2) ∧ Inv (k + 6) μ2) (h_twins : ∀ k : Nat, k ≤ 3072 → ∀ (x1 : Int32) (μ : MM), Inv k μ → ∃ (r : Int32) (μ1 μ2 : MM), f_Ro_twins NN x1 μ = some (r, μ1) ∧ f_Mo_twins NN x1 μ1 = some (r, μ2) ∧ Inv (k + 6) μ2) (h_odds : ∀ k : Nat, k ≤ 3072 → ∀ (x1 : Int32) (x2 : Int32) (x3 : Int32) (μ : MM), Inv k μ → ∃ (r : Int32) (μ1 μ2 : MM), f_Ro_odds NN x1 x2 x3 μ = some (r, μ1) ∧ f_Mo_odds NN x1 x2 x3 μ1 = some (r, μ2) ∧ Inv (k + 6) μ2) (h_rescue : ∀ k : Nat, k ≤ 3072 → ∀ (x1 : Int32) (x2 : Int32) (μ : MM), Inv k μ → ∃ (r : Int32) (μ1 μ2 : MM), f_Ro_rescue NN x1 x2 μ = some (r, μ1) ∧ f_Mo_rescue NN x1 x2 μ1 = some (r, μ2) ∧ Inv (k + 6) μ2) (h_image : ∀ k : Nat, k ≤ 3072 → ∀ (μ : MM), Inv k μ → ∃ (r : Int32) (μ1 μ2 : MM), f_Ro_image NN μ = some (r, μ1) ∧ f_Mo_image NN μ1 = some (r, μ2) ∧ Inv (k + 6) μ2) (h_back : ∀ k : Nat, k ≤ 3072 → ∀ (μ : MM), Inv k μ → ∃ (r : Int32) (μ1 μ2 : MM), f_Ro_back NN μ = some (r, μ1) ∧ f_Mo_back NN μ1 = some (r, μ2) ∧ Inv (k + 6) μ2) (h_count : ∀ k : Nat, k ≤ 3072 → ∀ (x1 : Int32) (μ : MM), Inv k μ → ∃ (r : Int32) (μ1 μ2 : MM), f_Ro_count NN x1 μ = some (r, μ1) ∧ f_Mo_count NN x1 μ1 = some (r, μ2) ∧ Inv (k + 6) μ2) (h_thing : ∀ (i cells slots : Nat) (μ : MM), cells + 8 ≤ 601024 ∧ slots + 64 ≤ 7293034 → i + 6 ≤ L → Inv i μ → (∀ (c2 s2 : Nat) (μ2 : MM), c2 ≤ cells + 1 → s2 ≤ slots + 8 → Inv (i + 6) μ2 → Lh p l e s m below meth c b ad tc D i c2 s2 1550 [] μ2) → Lh p l e s m below meth c b ad tc D i cells slots 376 [] μ) : ∀ (n i cells slots : Nat) (μ : MM), i < 10000 → L + 7 ≤ i + n → cells + (L + 7 - i) ≤ 10000 → slots + 8 * (L + 7 - i) ≤ 200000 → Inv i μ → Lh p l e s m below meth c b ad tc D i cells slots 23 [] μ := by
  have hL : L ≤ 3072 := hLx.2.2.2
  intro n
  induction n with
  | zero =>
    intro i cells slots μ hb9 h1 h2 h3 hI
    refine lh_il hLx dL_law_23 ?_
    refine lh_al0 hLx dL_law_25 ?_
    refine lh_slen hLx dL_law_26 ?_
    refine lh_bp (v := 6) hLx dL_law_27 (by decide) ?_
    refine lh_isub hLx dL_law_29 ?_
    refine lh_icmp_gt (tgt := 1556) hLx dL_law_30 (by decide) (fun _ => lh_out hLx (by omega)) (fun q => ?_)
    have hi : i + 6 ≤ L := li_le hb9 hL q
    omega
  | succ n ih =>
    intro i cells slots μ hb9 h1 h2 h3 hI
    refine lh_il hLx dL_law_23 ?_
    refine lh_al0 hLx dL_law_25 ?_
    refine lh_slen hLx dL_law_26 ?_
    refine lh_bp (v := 6) hLx dL_law_27 (by decide) ?_
    refine lh_isub hLx dL_law_29 ?_
    refine lh_icmp_gt (tgt := 1556) hLx dL_law_30 (by decide) (fun _ => lh_out hLx (by omega)) (fun q => ?_)
    have hi : i + 6 ≤ L := li_le hb9 hL q
    refine lh_al0 hLx dL_law_33 ?_
    refine lh_il hLx dL_law_34 ?_
    refine lh_sld (j := i) hLx dL_law_36 (vp_in_nI (by omega) (by omega)) (nI_clamp (by omega)) ?_
    refine lh_bp (v := 63) hLx dL_law_37 (by decide) ?_
    refine lh_iand hLx dL_law_39 ?_
    obtain ⟨j, hj, ej⟩ := pk_andE (xs i) (m := 63) 6 (by decide)
    rw [ej]
    have hk : ∀ μ2, Inv (i + 6) μ2 → Lh p l e s m below meth c b ad tc D i cells slots 1550 [] μ2 := fun μ2 h9 => lh_inc hLx (ih (i + 6) cells slots μ2 (by omega) (by omega) (by omega) (by omega) h9)
    match j, hj with
    | 0, _ =>
      refine lh_tswI (tgt := 228) hLx dL_law_40 (by decide) (by decide) rfl (by decide) ?_
      exact lc_feed (h_feed i (by omega)) hLx (by omega) (by omega) hI hk
    | 1, _ =>
      refine lh_tswI (tgt := 301) hLx dL_law_40 (by decide) (by decide) rfl (by decide) ?_
      exact lc_end (h_end i (by omega)) hLx (by omega) (by omega) hI hk
    | 2, _ =>
      refine lh_tswI (tgt := 326) hLx dL_law_40 (by decide) (by decide) rfl (by decide) ?_
      exact lc_fault (h_fault i (by omega)) hLx (by omega) (by omega) hI hk
    | 3, _ =>
      refine lh_tswI (tgt := 351) hLx dL_law_40 (by decide) (by decide) rfl (by decide) ?_
      exact lc_text (h_text i (by omega)) hLx (by omega) (by omega) hI hk
    | 4, _ =>
      refine lh_tswI (tgt := 376) hLx dL_law_40 (by decide) (by decide) rfl (by decide) ?_
      exact h_thing i cells slots μ (by omega) (by omega) hI (fun c2 s2 μ2 h1 h2 h3 => lh_inc hLx (ih (i + 6) c2 s2 μ2 (by omega) (by omega) (by omega) (by omega) h3))
    | 5, _ =>
      refine lh_tswI (tgt := 444) hLx dL_law_40 (by decide) (by decide) rfl (by decide) ?_
      exact lc_card (h_card i (by omega)) hLx (by omega) (by omega) hI hk
    | 6, _ =>
      refine lh_tswI (tgt := 481) hLx dL_law_40 (by decide) (by decide) rfl (by decide) ?_
      exact lc_word (h_word i (by omega)) hLx (by omega) (by omega) hI hk
    | 7, _ =>
      refine lh_tswI (tgt := 530) hLx dL_law_40 (by decide) (by decide) rfl (by decide) ?_
      exact lc_law (h_law i (by omega)) hLx (by omega) (by omega) hI hk
    | 8, _ =>
      refine lh_tswI (tgt := 555) hLx dL_law_40 (by decide) (by decide) rfl (by decide) ?_
      exact lc_cleaner (h_cleaner i (by omega)) hLx (by omega) (by omega) hI hk
    | 9, _ =>
      refine lh_tswI (tgt := 580) hLx dL_law_40 (by decide) (by decide) rfl (by decide) ?_
      exact lc_fits (h_fits i (by omega)) hLx (by omega) (by omega) hI hk
    | 10, _ =>
      refine lh_tswI (tgt := 617) hLx dL_law_40 (by decide) (by decide) rfl (by decide) ?_
      exact lc_put (h_put i (by omega)) hLx (by omega) (by omega) hI hk
    | 11, _ =>
      refine lh_tswI (tgt := 654) hLx dL_law_40 (by decide) (by decide) rfl (by decide) ?_
      exact lc_take (h_take i (by omega)) hLx (by omega) (by omega) hI hk
    | 12, _ =>
      refine lh_tswI (tgt := 679) hLx dL_law_40 (by decide) (by decide) rfl (by decide) ?_
      exact lc_copy (h_copy i (by omega)) hLx (by omega) (by omega) hI hk
    | 13, _ =>
      refine lh_tswI (tgt := 704) hLx dL_law_40 (by decide) (by decide) rfl (by decide) ?_
      exact lc_lamp (h_lamp i (by omega)) hLx (by omega) (by omega) hI hk
    | 14, _ =>
      refine lh_tswI (tgt := 729) hLx dL_law_40 (by decide) (by decide) rfl (by decide) ?_
      exact lc_light (h_light i (by omega)) hLx (by omega) (by omega) hI hk
    | 15, _ =>
      refine lh_tswI (tgt := 754) hLx dL_law_40 (by decide) (by decide) rfl (by decide) ?_
      exact lc_write (h_write i (by omega)) hLx (by omega) (by omega) hI hk
    | 16, _ =>
      refine lh_tswI (tgt := 791) hLx dL_law_40 (by decide) (by decide) rfl (by decide) ?_
      exact lc_days (h_days i (by omega)) hLx (by omega) (by omega) hI hk
    | 17, _ =>
      refine lh_tswI (tgt := 816) hLx dL_law_40 (by decide) (by decide) rfl (by decide) ?_
      exact lc_decades (h_decades i (by omega)) hLx (by omega) (by omega) hI hk
    | 18, _ =>
      refine lh_tswI (tgt := 885) hLx dL_law_40 (by decide) (by decide) rfl (by decide) ?_
      exact lc_undo (h_undo i (by omega)) hLx (by omega) (by omega) hI hk
    | 19, _ =>
      refine lh_tswI (tgt := 898) hLx dL_law_40 (by decide) (by decide) rfl (by decide) ?_
      exact lc_log (h_log i (by omega)) hLx (by omega) (by omega) hI hk
    | 20, _ =>
      refine lh_tswI (tgt := 935) hLx dL_law_40 (by decide) (by decide) rfl (by decide) ?_
      exact lc_reading (h_reading i (by omega)) hLx (by omega) (by omega) hI hk
    | 21, _ =>
      refine lh_tswI (tgt := 984) hLx dL_law_40 (by decide) (by decide) rfl (by decide) ?_
      exact lc_right (h_right i (by omega)) hLx (by omega) (by omega) hI hk
    | 22, _ =>
      refine lh_tswI (tgt := 997) hLx dL_law_40 (by decide) (by decide) rfl (by decide) ?_
      exact lc_matched (h_matched i (by omega)) hLx (by omega) (by omega) hI hk
    | 23, _ =>
      refine lh_tswI (tgt := 1022) hLx dL_law_40 (by decide) (by decide) rfl (by decide) ?_
      exact lc_clash (h_clash i (by omega)) hLx (by omega) (by omega) hI hk
    | 24, _ =>
      refine lh_tswI (tgt := 1035) hLx dL_law_40 (by decide) (by decide) rfl (by decide) ?_
      exact lc_blank (h_blank i (by omega)) hLx (by omega) (by omega) hI hk
    | 25, _ =>
      refine lh_tswI (tgt := 1060) hLx dL_law_40 (by decide) (by decide) rfl (by decide) ?_
      exact lc_stood (h_stood i (by omega)) hLx (by omega) (by omega) hI hk
    | 26, _ =>
      refine lh_tswI (tgt := 1125) hLx dL_law_40 (by decide) (by decide) rfl (by decide) ?_
      exact lc_once (h_once i (by omega)) hLx (by omega) (by omega) hI hk
    | 27, _ =>
      refine lh_tswI (tgt := 1162) hLx dL_law_40 (by decide) (by decide) rfl (by decide) ?_
      exact lc_probe (h_probe i (by omega)) hLx (by omega) (by omega) hI hk
    | 28, _ =>
      refine lh_tswI (tgt := 1187) hLx dL_law_40 (by decide) (by decide) rfl (by decide) ?_
      exact lc_saves (h_saves i (by omega)) hLx (by omega) (by omega) hI hk
    | 29, _ =>
      refine lh_tswI (tgt := 1224) hLx dL_law_40 (by decide) (by decide) rfl (by decide) ?_
      exact lc_round (h_round i (by omega)) hLx (by omega) (by omega) hI hk
    | 30, _ =>
      refine lh_tswI (tgt := 1237) hLx dL_law_40 (by decide) (by decide) rfl (by decide) ?_
      exact lc_nowhere (h_nowhere i (by omega)) hLx (by omega) (by omega) hI hk
    | 31, _ =>
      refine lh_tswI (tgt := 1250) hLx dL_law_40 (by decide) (by decide) rfl (by decide) ?_
      exact lc_forged (h_forged i (by omega)) hLx (by omega) (by omega) hI hk
    | 32, _ =>
      refine lh_tswI (tgt := 1263) hLx dL_law_40 (by decide) (by decide) rfl (by decide) ?_
      exact lc_alone (h_alone i (by omega)) hLx (by omega) (by omega) hI hk
    | 33, _ =>
      refine lh_tswI (tgt := 1288) hLx dL_law_40 (by decide) (by decide) rfl (by decide) ?_
      exact lc_suits (h_suits i (by omega)) hLx (by omega) (by omega) hI hk
    | 34, _ =>
      refine lh_tswI (tgt := 1313) hLx dL_law_40 (by decide) (by decide) rfl (by decide) ?_
      exact lc_wanted (h_wanted i (by omega)) hLx (by omega) (by omega) hI hk
    | 35, _ =>
      refine lh_tswI (tgt := 1338) hLx dL_law_40 (by decide) (by decide) rfl (by decide) ?_
      exact lc_perhaps (h_perhaps i (by omega)) hLx (by omega) (by omega) hI hk
    | 36, _ =>
      refine lh_tswI (tgt := 1351) hLx dL_law_40 (by decide) (by decide) rfl (by decide) ?_
      exact lc_shared (h_shared i (by omega)) hLx (by omega) (by omega) hI hk
    | 37, _ =>
      refine lh_tswI (tgt := 1388) hLx dL_law_40 (by decide) (by decide) rfl (by decide) ?_
      exact lc_twins (h_twins i (by omega)) hLx (by omega) (by omega) hI hk
    | 38, _ =>
      refine lh_tswI (tgt := 1413) hLx dL_law_40 (by decide) (by decide) rfl (by decide) ?_
      exact lc_odds (h_odds i (by omega)) hLx (by omega) (by omega) hI hk
    | 39, _ =>
      refine lh_tswI (tgt := 1462) hLx dL_law_40 (by decide) (by decide) rfl (by decide) ?_
      exact lc_rescue (h_rescue i (by omega)) hLx (by omega) (by omega) hI hk
    | 40, _ =>
      refine lh_tswI (tgt := 1499) hLx dL_law_40 (by decide) (by decide) rfl (by decide) ?_
      exact lc_image (h_image i (by omega)) hLx (by omega) (by omega) hI hk
    | 41, _ =>
      refine lh_tswI (tgt := 1512) hLx dL_law_40 (by decide) (by decide) rfl (by decide) ?_
      exact lc_back (h_back i (by omega)) hLx (by omega) (by omega) hI hk
    | 42, _ =>
      refine lh_tswI (tgt := 1525) hLx dL_law_40 (by decide) (by decide) rfl (by decide) ?_
      exact lc_count (h_count i (by omega)) hLx (by omega) (by omega) hI hk
    | j + 43, hj =>
      refine lh_tswO (tgt := 1550) hLx dL_law_40 (Or.inr ?_) (by decide) (hk μ (hmono i μ hI))
      rw [nI_toInt (by omega)]
      omega
