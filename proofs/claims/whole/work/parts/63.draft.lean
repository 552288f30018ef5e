/-! ===== a collection as it is read: the draft ===== -/
theorem mm_mQ5 {m : MM} {p i : Nat} {f d v : Int32} (h0 : i ≠ 10) (h1 : i ≠ 11) (h2 : i ≠ 12) : mm_I (mQ m p f d) 355 i v = mQ (mm_I m 355 i v) p f d := by
  apply mQ_ext
  · rfl
  · intro b hb
    rw [gI_o hb, gI_o hb, mQ_1 hb]
  · intro j
    rw [gI_s, gI_s]
    by_cases e : j = i
    · subst e; rw [if_pos rfl, if_neg h2, if_neg h1, if_neg h0, if_pos rfl]
    · rw [if_neg e, mQ_5, if_neg e]
theorem mQ_s {m : MM} {p i : Nat} {f d : Int32} (h0 : i ≠ 10) (h1 : i ≠ 11) (h2 : i ≠ 12) : (mQ m p f d).1 355 i = m.1 355 i := by
  rw [mQ_5, if_neg h2, if_neg h1, if_neg h0]
theorem MT_5 {n : Nat} {Y : Nat → Nat} {q bg i : Nat} {m : MM} {v : Int32} (hM : MT n Y q bg m) (h1 : i ≠ 5) (h2 : i ≠ 8) (h3 : i ≠ 9) : MT n Y q bg (mm_I m 355 i v) := by
  obtain ⟨g1, g2, g3, g4, g5, g6, g7⟩ := hM
  refine ⟨by rw [gI_s, if_neg (Ne.symm h1)]; exact g1, by rw [gI_s, if_neg (Ne.symm h2)]; exact g2, by rw [gI_s, if_neg (Ne.symm h3)]; exact g3, g4, g5, g6, fun j hj => by rw [gI_o g4.2.1]; exact g7 j hj⟩
def dfR (i : Nat) : Nat := if i = 0 then 1 else 20
def loZ (_ : Nat) : Nat := 0
def hiR (i : Nat) : Nat := if i = 0 then 9 else 99
def dfT (_ : Nat) : Nat := 1
def hiT (_ : Nat) : Nat := 9
def dfC (i : Nat) : Nat := if i = 0 then 5 else if i = 1 then 1 else 8
def loC (i : Nat) : Nat := if i = 0 then 1 else 0
def hiC (i : Nat) : Nat := if i = 2 then 8 else 9
theorem IT_R : IT 2 2001 2007 1000 1001 1002 115 dfR loZ hiR := by
  refine ⟨by decide, sc_2001, sc_2007, by decide +kernel, by decide +kernel, by decide +kernel, fun N μ i hi => ?_, fun N μ i hi => ?_, by decide +kernel⟩
  · unfold f_Mo_usual
    rw [if_pos (show nI 115 = 115 from rfl)]
    match i, hi with
    | 0, _ => rfl
    | 1, _ => rfl
  · unfold f_Mo_mostOf f_Mo_mostOf_B16
    rw [if_pos (show nI 115 = 115 from rfl)]
    match i, hi with
    | 0, _ => rfl
    | 1, _ => rfl
theorem IT_T : IT 1 2002 2008 1003 1004 1005 116 dfT loZ hiT := by
  refine ⟨by decide, sc_2002, sc_2008, by decide +kernel, by decide +kernel, by decide +kernel, fun N μ i hi => ?_, fun N μ i hi => ?_, by decide +kernel⟩
  · unfold f_Mo_usual
    rw [if_neg (by decide), if_pos (show nI 116 = 116 from rfl)]; rfl
  · unfold f_Mo_mostOf f_Mo_mostOf_B16
    rw [if_neg (by decide), if_neg (by decide)]; rfl
theorem IT_C : IT 3 2003 2010 1006 1007 1008 99 dfC loC hiC := by
  refine ⟨by decide, sc_2003, sc_2010, by decide +kernel, by decide +kernel, by decide +kernel, fun N μ i hi => ?_, fun N μ i hi => ?_, by decide +kernel⟩
  · unfold f_Mo_usual
    rw [if_neg (by decide), if_neg (by decide)]
    match i, hi with
    | 0, _ => rfl
    | 1, _ => rfl
    | 2, _ => rfl
  · unfold f_Mo_mostOf f_Mo_mostOf_B16
    rw [if_neg (by decide), if_pos (show nI 99 = 99 from rfl)]
    match i, hi with
    | 0, _ => rfl
    | 1, _ => rfl
    | 2, _ => rfl
/-- things of the draft -/
def DT (nt : Nat) (p k T : Nat → Int32) : Prop := ∀ t, t < nt → ∃ a b, a ≤ 9 ∧ b < 64 ∧ p t = nI a ∧ T (2 * t) = nI a ∧ k t = nI b ∧ T (2 * t + 1) = nI b
/-- cards of the draft -/
def DC (nc : Nat) (fd un sz so ab ik F : Nat → Int32) : Prop := ∀ c, c < nc → ∃ (i f t : Nat) (ws : List (Nat × Nat)), (1 ≤ i ∧ i ≤ 9 ∧ f ≤ 9 ∧ t ≤ 8 ∧ 1 ≤ ws.length ∧ ws.length ≤ 6 ∧ ∀ w, w ∈ ws → wOK w) ∧
  (F (16 * c) = nI i ∧ F (16 * c + 1) = nI f ∧ F (16 * c + 2) = nI t ∧ F (16 * c + 3) = nI ws.length ∧ ∀ k, k < ws.length → F (16 * c + 4 + 2 * k) = nI (ws.getD k (0, 0)).1 ∧ F (16 * c + 5 + 2 * k) = nI (ws.getD k (0, 0)).2) ∧
  (fd c = nI f ∧ un c = (if t = 8 then -nI 1 else nI t) ∧ sz c = nI ws.length ∧ ∀ k, k < ws.length → so (6 * c + k) = nI (ws.getD k (0, 0)).1 ∧ ab (6 * c + k) = nI (ws.getD k (0, 0)).2 ∧ ik (6 * c + k) = nI i)
def DR (nt nc ru : Nat) (c m : MM) : Prop := (nt ≤ 8 ∧ nc ≤ 6 ∧ ru ≤ 1) ∧ (c.1 3 4 = nI ru ∧ m.1 355 31 = nI ru) ∧ (c.1 4 0 = nI nt ∧ m.1 355 28 = nI nt) ∧ (c.1 4 1 = nI nc ∧ m.1 355 29 = nI nc) ∧
  (∃ l y, l ≤ 9 ∧ y ≤ 99 ∧ c.1 8 2 = nI l ∧ m.1 361 0 = nI l ∧ c.1 8 3 = nI y ∧ m.1 361 1 = nI y) ∧ c.1 8 4 = nI 0 ∧ DT nt (c.1 5) (c.1 6) (m.1 363) ∧ DC nc (c.1 7) (c.1 14) (c.1 10) (c.1 11) (c.1 12) (c.1 13) (m.1 366)
/-- what reading leaves as it was -/
def cFr (c c' : MM) : Prop := (∀ a, a < 3 ∨ 15 ≤ a → a ≠ 20 → c'.1 a = c.1 a) ∧ c'.2 = c.2
def mFr (m m' : MM) : Prop := (∀ a, a ≠ 355 → a ≠ 361 → a ≠ 363 → a ≠ 366 → m'.1 a = m.1 a) ∧ (∀ j, j ≠ 28 → j ≠ 29 → j ≠ 31 → m'.1 355 j = m.1 355 j) ∧ m'.2 = m.2
theorem mFr_t {a b c : MM} (h1 : mFr a b) (h2 : mFr b c) : mFr a c := ⟨fun x x1 x2 x3 x4 => (h2.1 x x1 x2 x3 x4).trans (h1.1 x x1 x2 x3 x4), fun j j1 j2 j3 => (h2.2.1 j j1 j2 j3).trans (h1.2.1 j j1 j2 j3), h2.2.2.trans h1.2.2⟩
theorem cFr_t {a b c : MM} (h1 : cFr a b) (h2 : cFr b c) : cFr a c := ⟨fun x x1 x2 => (h2.1 x x1 x2).trans (h1.1 x x1 x2), h2.2.trans h1.2⟩
theorem CT_f {n : Nat} {Y : Nat → Nat} {c c' : MM} (hC : CT n Y c) (h : cFr c c') : CT n Y c' := CT_fr hC (by rw [h.1 1 (Or.inl (by omega)) (by omega)]) (h.1 2 (Or.inl (by omega)) (by omega))
theorem MT_f {n : Nat} {Y : Nat → Nat} {bg : Nat} {m m' : MM} (hM : MT n Y 356 bg m) (h : mFr m m') : MT n Y 356 bg m' := MT_fr hM (h.2.1 5 (by omega) (by omega) (by omega)) (h.2.1 8 (by omega) (by omega) (by omega)) (h.2.1 9 (by omega) (by omega) (by omega)) (h.1 356 (by omega) (by omega) (by omega) (by omega))
def KCL (n : Nat) (Y : Nat → Nat) (p nt nc ru : Nat) (fc : Nat → MM → Option (Int32 × MM)) (fm : Nat → MM → Option MM) (ok : Bool) (p' nt' nc' ru' : Nat) : Prop := ∀ (N : Nat) (c m : MM) (d : Int32), 15000 ≤ N → CT n Y c → MT n Y 356 0 m → DR nt nc ru c m → ∃ c' m' p'', fc N (cP c p) = some (bI ok, cP c' p') ∧ fm N (mQ m p (-nI 1) d) = some (mQ m' p'' (if ok = true then -nI 1 else nI p') d) ∧ cFr c c' ∧ mFr m m' ∧ (ok = true → p'' = p' ∧ DR nt' nc' ru' c' m')
/-- a clause of rules, behind its letter -/
theorem rules_ok {n p nt nc : Nat} {Y : Nat → Nat} (hX : TX n Y) (hp : p < n) : ∃ ok p', p < p' ∧ p' ≤ n ∧ KCL n Y p nt nc 0 (fun N μ => obv (f_Ta_step N μ) fun μ6z => (ob (f_Tr_readRules N μ6z) fun t29 μ7z => (gd (zb t29) (some (t29, μ7z))))) (fun N μ => f_Mo_readClause_B48 N (nI 115) μ) ok p' nt nc 1 := by
  obtain ⟨ok, p', vf, H1, H2, H3, H4, H5⟩ := items_ok IT_R hX (p := p + 1) (by omega)
  refine ⟨ok, p', by omega, H5, fun N c m d hN hC hM hD => ?_⟩
  have hn : sh_n 361 = 2 := by decide +kernel
  obtain ⟨c1, e1, e2, e3, e4⟩ := H1 N (mm_I c 3 4 1) hN (CT_w hC (by decide) (by decide))
  obtain ⟨m1, p'', f1, f2, f3, f4, f5⟩ := H2 N 356 0 361 0 (mm_I m 355 31 1) d hN (MT_5 hM (by decide) (by decide) (by decide)) (by decide) (by decide) (by omega) (by omega)
  have hcl : obv (f_Ta_step N (cP c p)) (fun μ6z => (ob (f_Tr_readRules N μ6z) fun t29 μ7z => (gd (zb t29) (some (t29, μ7z))))) = (if ok = true then some (1, cP (mm_I (mm_I c1 8 2 (c1.1 20 0)) 8 3 (c1.1 20 1)) p') else some (0, cP c1 p')) := by
    rw [cp_step hX hC hp, obv_e]
    unfold f_Tr_readRules
    rw [wr_e, mm_cP (by decide), e1, ob_e]
    cases ok with
    | true => rw [if_neg (show ¬ bI true = 0 by decide), wr_e, cP_1 (by decide), mm_cP (by decide), wr_e, cP_1 (by decide), gI_o (by decide), mm_cP (by decide), ob_e, gd_t (by decide), if_pos rfl]
    | false => rw [if_pos (show bI false = 0 from rfl), ob_e, gd_t (by decide), if_neg (by decide)]
  have hmo : f_Mo_readClause_B48 N (nI 115) (mQ m p (-nI 1) d) = some (mQ m1 p'' (if ok = true then -nI 1 else nI p') d) := by
    unfold f_Mo_readClause_B48 f_Mo_readClause_B53
    rw [if_neg (by decide), wr_e, mQ_10, show nI p + 1 = nI (p + 1) from nI_add p 1, mQ_p, if_pos (show nI 115 = 115 from rfl), wr_e, mm_mQ5 (by decide) (by decide) (by decide), show (0 : Int32) = nI 0 from rfl, f1, obv_e]
  have hmF : mFr m m1 := ⟨fun a a1 a2 a3 a4 => by rw [f2 a a2, gI_o a1], fun j j1 j2 j3 => by rw [f2 355 (by decide), gI_s, if_neg j3], by rw [f3]; rfl⟩
  cases ok with
  | false =>
    refine ⟨c1, m1, p'', hcl, hmo, ⟨fun a ha h20 => by rw [e2 a h20, gI_o (by omega)], by rw [e3]; rfl⟩, hmF, fun h => (by cases h)⟩
  | true =>
    obtain ⟨⟨d1, d2, d3⟩, ⟨d4, d5⟩, ⟨d6, d7⟩, ⟨d8, d9⟩, d10, d11, d12, d13⟩ := hD
    have hv := e4 rfl
    have hw := (f5 rfl).2
    have hb := H3 rfl
    refine ⟨_, m1, p'', hcl, hmo, ⟨fun a ha h20 => by rw [gI_o (by omega), gI_o (by omega), e2 a h20, gI_o (by omega)], by show c1.2 = c.2; rw [e3]; rfl⟩, hmF, fun _ => ⟨(f5 rfl).1, ⟨d1, d2, Nat.le_refl _⟩, ⟨?_, ?_⟩, ⟨?_, ?_⟩, ⟨?_, ?_⟩, ⟨vf 0, vf 1, (hb 0 (by omega)).2, (hb 1 (by omega)).2, ?_, hw 0 (by omega), ?_, hw 1 (by omega)⟩, ?_, ?_, ?_⟩⟩
    · rw [gI_o (by decide), gI_o (by decide), e2 3 (by decide), gI_s, if_pos rfl]; rfl
    · rw [f2 355 (by decide), gI_s, if_pos rfl]; rfl
    · rw [gI_o (by decide), gI_o (by decide), e2 4 (by decide), gI_o (by decide)]; exact d6
    · rw [f2 355 (by decide), gI_s, if_neg (by decide)]; exact d7
    · rw [gI_o (by decide), gI_o (by decide), e2 4 (by decide), gI_o (by decide)]; exact d8
    · rw [f2 355 (by decide), gI_s, if_neg (by decide)]; exact d9
    · rw [gI_s, if_neg (by decide), gI_s, if_pos rfl, hv 0 (by omega)]
    · rw [gI_s, if_pos rfl, hv 1 (by omega)]
    · rw [gI_s, if_neg (by decide), gI_s, if_neg (by decide), e2 8 (by decide), gI_o (by decide)]; exact d11
    · rw [gI_o (by decide), gI_o (by decide), e2 5 (by decide), gI_o (by decide), gI_o (by decide), gI_o (by decide), e2 6 (by decide), gI_o (by decide), f2 363 (by decide), gI_o (by decide)]; exact d12
    · simp only [gI_o (show (7 : Nat) ≠ 8 by decide), gI_o (show (14 : Nat) ≠ 8 by decide), gI_o (show (10 : Nat) ≠ 8 by decide), gI_o (show (11 : Nat) ≠ 8 by decide), gI_o (show (12 : Nat) ≠ 8 by decide), gI_o (show (13 : Nat) ≠ 8 by decide)]
      rw [e2 7 (by decide), e2 14 (by decide), e2 10 (by decide), e2 11 (by decide), e2 12 (by decide), e2 13 (by decide), f2 366 (by decide)]
      simp only [gI_o (show (7 : Nat) ≠ 3 by decide), gI_o (show (14 : Nat) ≠ 3 by decide), gI_o (show (10 : Nat) ≠ 3 by decide), gI_o (show (11 : Nat) ≠ 3 by decide), gI_o (show (12 : Nat) ≠ 3 by decide), gI_o (show (13 : Nat) ≠ 3 by decide), gI_o (show (366 : Nat) ≠ 355 by decide)]
      exact d13
