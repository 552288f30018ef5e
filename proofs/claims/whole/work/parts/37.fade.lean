/-! ===== all words fade, on both sides ===== -/
def fdI (lo : Nat → Nat → Nat → Nat → Nat → Nat → Nat) (F g : Nat → Int32) (c k : Nat) : Nat := iN g c k - lo (iN g c k) (fN F c) (liN g) k (oN g c k) (dyN g)
def fdP (lo : Nat → Nat → Nat → Nat → Nat → Nat → Nat) (F g : Nat → Int32) (j p c k : Nat) : Nat := if c < j ∨ (c = j ∧ k < p) then fdI lo F g c k else iN g c k
def gnk (lo : Nat → Nat → Nat → Nat → Nat → Nat → Nat) (F g : Nat → Int32) (c k : Nat) : Bool := decide (¬ iN g c k = 0) && decide (fdI lo F g c k = 0)
def inkc (g : Nat → Int32) (nc x : Nat) : Prop := ∃ c k, c < nc ∧ k < zN g c ∧ x = 20 * c + 4 + 3 * k
def FD (lo : Nat → Nat → Nat → Nat → Nat → Nat → Nat) (F g g' : Nat → Int32) (nc : Nat) : Prop := (∀ x, ¬ inkc g nc x → g' x = g x) ∧ ∀ c k, c < nc → k < zN g c → g' (20 * c + 4 + 3 * k) = nI (fdI lo F g c k)
theorem fdI_9 {lo : Nat → Nat → Nat → Nat → Nat → Nat → Nat} {F g : Nat → Int32} {nc nt c k : Nat} (h : RW nc nt g) (hc : c < nc) (hk : k < zN g c) : fdI lo F g c k ≤ 9 := by
  have := ((h.1 c hc).2.2.2.2 k hk).2.2.2.2.2.2
  unfold fdI; omega
theorem mo_fades {N nc nt q : Nat} {lo : Nat → Nat → Nat → Nat → Nat → Nat → Nat} {m0 m : MM} (hN : 15000 ≤ N) (hlo : ∀ i f l p s d, f ≤ 9 → lo i f l p s d ≤ 9) (hK : KM lo m0) (h357 : m.1 357 = m0.1 357) (h358 : m.1 358 = m0.1 358) (h34 : m.1 355 34 = m0.1 355 34) (hq : sh_n q = 304) (hq1 : q ≠ 355) (hq2 : q ≠ 359) (hq3 : q ≠ 357) (hq4 : q ≠ 358) (hq5 : q ≠ 365) (hW : RW nc nt (m.1 q)) (hF : FW nc (m.1 365)) (hm : m.1 355 27 = nI nc) (hnc : nc ≤ 6) : ∃ m', f_Mo_fades N q m = some (nI (sm (fun c => cn (gnk lo (m.1 365) (m.1 q) c) (zN (m.1 q) c)) nc), m') ∧ (∀ a, a ≠ 355 → a ≠ 359 → a ≠ q → m'.1 a = m.1 a) ∧ (∀ j, scr j → m'.1 355 j = m.1 355 j) ∧ m'.2 = m.2 ∧ FD lo (m.1 365) (m.1 q) (m'.1 q) nc := by
  have hz6 : ∀ c, c < nc → zN (m.1 q) c ≤ 6 := fun c hc => (hW.1 c hc).2.2.1
  have hS : ∀ j, j ≤ nc → sm (fun c => cn (gnk lo (m.1 365) (m.1 q) c) (zN (m.1 q) c)) j ≤ 6 * j := fun j => by
    induction j with
    | zero => intro _; exact Nat.le_refl _
    | succ j ih =>
      intro hj
      have h1 := ih (by omega)
      have h2 := cn_le (gnk lo (m.1 365) (m.1 q) j) (zN (m.1 q) j)
      have h3 := hz6 j (by omega)
      rw [sm]; omega
  obtain ⟨m1, a1, a2, a3, a4, a5, a6⟩ := lpe (fun fu j (a : MM) => f_Mo_fades_L4 N q fu (nI (sm (fun c => cn (gnk lo (m.1 365) (m.1 q) c) (zN (m.1 q) c)) j)) (nI j) a) nc (fun a => some (nI (sm (fun c => cn (gnk lo (m.1 365) (m.1 q) c) (zN (m.1 q) c)) nc), a)) (fun j a => (∀ x, x ≠ 355 → x ≠ 359 → x ≠ q → a.1 x = m.1 x) ∧ (∀ x, scr x → a.1 355 x = m.1 355 x) ∧ a.2 = m.2 ∧ (∀ x, ¬ inkc (m.1 q) nc x → a.1 q x = m.1 q x) ∧ ∀ c k, c < nc → k < zN (m.1 q) c → a.1 q (20 * c + 4 + 3 * k) = nI (fdP lo (m.1 365) (m.1 q) j 0 c k)) (fun fu a ha => by
      have h27 : a.1 355 27 = nI nc := by rw [ha.2.1 27 (by unfold scr; omega)]; exact hm
      simp (disch := omega) only [f_Mo_fades_L4, h27, nI_leI, Nat.le_refl, if_true]) (fun fu j a hj ha => by
      have h27 : a.1 355 27 = nI nc := by rw [ha.2.1 27 (by unfold scr; omega)]; exact hm
      obtain ⟨hz, hz1, hz6', hu, hk9⟩ := hW.1 j hj
      obtain ⟨z, w1, w2⟩ := lpe (fun f p (b : MM) => f_Mo_fades_L15 N q (f_Mo_fades_L4 N q fu) f (nI (sm (fun c => cn (gnk lo (m.1 365) (m.1 q) c) (zN (m.1 q) c)) j + cn (gnk lo (m.1 365) (m.1 q) j) p)) (nI j) (nI p) b) (zN (m.1 q) j) (fun b => f_Mo_fades_L4 N q fu (nI (sm (fun c => cn (gnk lo (m.1 365) (m.1 q) c) (zN (m.1 q) c)) (j + 1))) (nI (j + 1)) b) (fun p b => (∀ x, x ≠ 355 → x ≠ 359 → x ≠ q → b.1 x = m.1 x) ∧ (∀ x, scr x → b.1 355 x = m.1 355 x) ∧ b.2 = m.2 ∧ (∀ x, ¬ inkc (m.1 q) nc x → b.1 q x = m.1 q x) ∧ ∀ c k, c < nc → k < zN (m.1 q) c → b.1 q (20 * c + 4 + 3 * k) = nI (fdP lo (m.1 365) (m.1 q) j p c k)) (fun f b hb => by
          obtain ⟨b1, b2, b3, b4, b5⟩ := hb
          have hz' : b.1 q (20 * j + 1) = nI (zN (m.1 q) j) := by
            rw [b4 _ (fun ⟨c, k, h1, h2, h3⟩ => by have := hz6 c h1; omega)]; exact hz
          rw [f_Mo_fades_L15, mo_words hq (by omega), ob_e, hz', if_pos ((nI_leI (by omega) (by omega)).mpr (Nat.le_refl _)), l_1, nI_add]
          rfl) (fun f p b hp hb => by
          obtain ⟨b1, b2, b3, b4, b5⟩ := hb
          have hn1 : ∀ x, (∃ r, r < 20 ∧ x = 20 * j + r ∧ ¬ (4 ≤ r ∧ (r - 4) % 3 = 0)) ∨ 120 ≤ x → b.1 q x = m.1 q x := fun x hx => b4 x (fun ⟨c, k, h1, h2, h3⟩ => by
            have := hz6 c h1
            rcases hx with ⟨r, r1, r2, r3⟩ | hx
            · rcases Nat.lt_trichotomy c j with e | e | e
              · omega
              · subst e
                exact r3 (by omega)
              · omega
            · omega)
          have hz' : b.1 q (20 * j + 1) = nI (zN (m.1 q) j) := by rw [hn1 _ (Or.inl ⟨1, by omega, by omega, by omega⟩)]; exact hz
          obtain ⟨ho, ho3, ha, ha10, ha6, hi, hi9⟩ := hk9 p hp
          have hcur : b.1 q (20 * j + 4 + 3 * p) = nI (iN (m.1 q) j p) := by
            rw [b5 j p hj hp]; unfold fdP; rw [if_neg (by omega)]
          have hso : b.1 q (20 * j + 2 + 3 * p) = nI (oN (m.1 q) j p) := by
            rw [hn1 _ (Or.inl ⟨2 + 3 * p, by omega, by omega, by omega⟩)]; exact ho
          obtain ⟨-, qL, qL9, -, -, qd, qd6⟩ := hW
          obtain ⟨mm, r1, r2, r3, r4⟩ := hK N b q j p (iN (m.1 q) j p) (dyN (m.1 q)) (fN (m.1 365) j) (liN (m.1 q)) (oN (m.1 q) j p) hN hq hq1 hq2 (by rw [b1 357 (by decide) (by decide) (Ne.symm hq3)]; exact h357) (by rw [b1 358 (by decide) (by decide) (Ne.symm hq4)]; exact h358) (by rw [b2 34 (by unfold scr; omega)]; exact h34) (by omega) (by omega) hi9 (by omega) (by rw [b1 365 (by decide) (by decide) (Ne.symm hq5)]; exact (hF j hj).1) (hF j hj).2 (by rw [hn1 _ (Or.inr (by omega))]; exact qL) qL9 hso ho3 hcur (by rw [hn1 _ (Or.inr (by omega))]; exact qd)
          have hupd : ∀ b' : MM, (∀ x, x ≠ 355 → x ≠ 359 → b'.1 x = (mm_I b q (20 * j + 4 + 3 * p) (nI (fdI lo (m.1 365) (m.1 q) j p))).1 x) → (∀ x, scr x → b'.1 355 x = b.1 355 x) → b'.2 = b.2 → ((∀ x, x ≠ 355 → x ≠ 359 → x ≠ q → b'.1 x = m.1 x) ∧ (∀ x, scr x → b'.1 355 x = m.1 355 x) ∧ b'.2 = m.2 ∧ (∀ x, ¬ inkc (m.1 q) nc x → b'.1 q x = m.1 q x) ∧ ∀ c k, c < nc → k < zN (m.1 q) c → b'.1 q (20 * c + 4 + 3 * k) = nI (fdP lo (m.1 365) (m.1 q) j (p + 1) c k)) := fun b' e1 e2 e3 => by
            refine ⟨fun x x1 x2 x3 => by rw [e1 x x1 x2, gI_o x3]; exact b1 x x1 x2 x3, fun x hx => (e2 x hx).trans (b2 x hx), e3.trans b3, fun x hx => ?_, fun c k hc hk => ?_⟩
            · rw [e1 q hq1 hq2, gI_s, if_neg (fun e => hx ⟨j, p, hj, hp, e⟩)]; exact b4 x hx
            · have := hz6 c hc
              rw [e1 q hq1 hq2, gI_s]
              by_cases e : c = j ∧ k = p
              · rw [if_pos (by omega), e.1, e.2]; unfold fdP; rw [if_pos (by omega)]
              · rw [if_neg (by omega), b5 c k hc hk]; unfold fdP
                by_cases e' : c < j ∨ (c = j ∧ k < p)
                · rw [if_pos e', if_pos (by omega)]
                · rw [if_neg e', if_neg (by omega)]
          have hfd : iN (m.1 q) j p - lo (iN (m.1 q) j p) (fN (m.1 365) j) (liN (m.1 q)) p (oN (m.1 q) j p) (dyN (m.1 q)) = fdI lo (m.1 365) (m.1 q) j p := rfl
          by_cases h0 : iN (m.1 q) j p = 0
          · refine ⟨b, ?_, hupd b (fun x x1 x2 => ?_) (fun _ _ => rfl) rfl⟩
            · show f_Mo_fades_L15 N q _ (f + 1) _ _ _ b = f_Mo_fades_L15 N q _ f (nI (_ + cn (gnk lo (m.1 365) (m.1 q) j) (p + 1))) _ _ b
              rw [f_Mo_fades_L15, mo_words hq (by omega), ob_e, hz', if_neg (fun z => by have := (nI_leI (by omega) (by omega)).mp z; omega), mo_ink hq (by omega) (by omega), ob_e, hcur, if_pos (show nI (iN (m.1 q) j p) = 0 by rw [h0]; rfl), l_1, nI_add, cn, show gnk lo (m.1 365) (m.1 q) j p = false by unfold gnk; rw [h0]; rfl]
              rfl
            · have hf0 : fdI lo (m.1 365) (m.1 q) j p = 0 := by unfold fdI; rw [h0, Nat.zero_sub]
              rw [mm_Id (by rw [hcur, h0, hf0])]
          · refine ⟨mm_I mm q (20 * j + 4 + 3 * p) (nI (fdI lo (m.1 365) (m.1 q) j p)), ?_, hupd _ (fun x x1 x2 => ?_) (fun x hx => ?_) r4⟩
            · show f_Mo_fades_L15 N q _ (f + 1) _ _ _ b = f_Mo_fades_L15 N q _ f (nI (_ + cn (gnk lo (m.1 365) (m.1 q) j) (p + 1))) _ _ _
              rw [f_Mo_fades_L15, mo_words hq (by omega), ob_e, hz', if_neg (fun z => by have := (nI_leI (by omega) (by omega)).mp z; omega), mo_ink hq (by omega) (by omega), ob_e, hcur, if_neg (fun z => by rw [l_0, nI_eq (by omega) (by omega)] at z; exact h0 z), r1, ob_e]
              simp (disch := omega) only [l_20, l_4, l_3, pk_mul, nI_add, hq, gd_in, nI_clamp, wr_e]
              rw [mx_sub _ hi9 _ (hlo _ _ _ _ _ _ (hF j hj).2), hfd, cn, show gnk lo (m.1 365) (m.1 q) j p = decide (fdI lo (m.1 365) (m.1 q) j p = 0) by unfold gnk; rw [decide_eq_true h0]; rfl]
              have h9 : fdI lo (m.1 365) (m.1 q) j p ≤ 9 := by rw [← hfd]; omega
              by_cases e : fdI lo (m.1 365) (m.1 q) j p = 0
              · rw [if_pos (show nI (fdI lo (m.1 365) (m.1 q) j p) = 0 by rw [e]; rfl), decide_eq_true e, if_pos rfl, l_1, nI_add, nI_add, Nat.add_assoc]
              · rw [if_neg (fun z => by rw [l_0, nI_eq (by omega) (by omega)] at z; exact e z), decide_eq_false e, if_neg (by decide), l_0, l_1, nI_add, nI_add, Nat.add_assoc]
            · by_cases e : x = q
              · subst e
                funext y
                rw [gI_s, gI_s, r2 x hq1 hq2]
              · rw [gI_o e, gI_o e, r2 x x1 x2]
            · rw [gI_o (Ne.symm hq1)]; exact r3 x hx) (zN (m.1 q) j) 0 N a (by omega) (by omega) ⟨ha.1, ha.2.1, ha.2.2.1, ha.2.2.2.1, ha.2.2.2.2⟩
      refine ⟨z, ?_, w2.1, w2.2.1, w2.2.2.1, w2.2.2.2.1, fun c k hc hk => ?_⟩
      · simp (disch := omega) only [f_Mo_fades_L4, h27, nI_leI, if_neg]
        exact w1
      · rw [w2.2.2.2.2 c k hc hk]
        unfold fdP
        by_cases e : c < j ∨ (c = j ∧ k < zN (m.1 q) j)
        · rw [if_pos e, if_pos (by omega)]
        · rw [if_neg e, if_neg (fun z => e (by rcases z with z | z
                                               · by_cases e2 : c = j
                                                 · subst e2; exact Or.inr ⟨rfl, hk⟩
                                                 · exact Or.inl (by omega)
                                               · omega))]) nc 0 N m (by omega) (by omega) ⟨fun _ _ _ _ => rfl, fun _ _ => rfl, rfl, fun _ _ => rfl, fun c k hc hk => by
        unfold fdP
        rw [if_neg (by omega)]
        exact ((hW.1 c hc).2.2.2.2 k hk).2.2.2.2.2.1⟩
  refine ⟨m1, a1, a2, a3, a4, a5, fun c k hc hk => ?_⟩
  rw [a6 c k hc hk]
  unfold fdP
  rw [if_pos (Or.inl hc)]
