/-! ===== numbers of at most two digits ===== -/
theorem cp_num {N n p fu v j : Nat} {Y : Nat → Nat} {c : MM} {x1 x2 x3 : Int32} (hX : TX n Y) (hC : CT n Y c) (hp : p ≤ n) : f_Ta_readNumber_L6 N (fu + 1) x1 x2 x3 (nI v) (nI j) (cP c p) = if dg n Y p = true then (if nI j = x1 then some (-1, cP c p) else f_Ta_readNumber_L6 N fu x1 x2 x3 (nI (v * 10 + Y p) - 48) (nI (j + 1)) (cP c (p + 1))) else f_Ta_readNumber_B89 N x2 x3 (nI v) (nI j) (cP c p) := by
  obtain ⟨s, h⟩ := cP_Q c
  rw [h, h, rn_s hX hC hp]
/-- in bounds, or at the last digit -/
def nuB (lo hi v e : Nat) : Option Nat × Nat := if lo ≤ v ∧ v ≤ hi then (some v, e) else (none, e - 1)
def nuN (n : Nat) (Y : Nat → Nat) (lo hi p : Nat) : Option Nat × Nat := if dg n Y p = true then (if dg n Y (p + 1) = true then (if dg n Y (p + 2) = true then (none, p + 2) else nuB lo hi (10 * (Y p - 48) + (Y (p + 1) - 48)) (p + 2)) else nuB lo hi (Y p - 48) (p + 1)) else (none, p)
def nuI (o : Option Nat) : Int32 := match o with
  | none => -1
  | some v => nI v
theorem b89 {N lo hi v j e : Nat} {c : MM} (hv : v < 1000) (hl : lo < 1000) (hh : hi < 1000) (hj : 1 ≤ j) (hj2 : j < 10) (he : 1 ≤ e) : f_Ta_readNumber_B89 N (nI lo) (nI hi) (nI v) (nI j) (cP c e) = some (nuI (nuB lo hi v e).1, cP c (nuB lo hi v e).2) := by
  have hj0 : ¬ nI j ≤ 0 := fun z => by rw [l_0, nI_leI (by omega) (by omega)] at z; omega
  have h106 : f_Ta_readNumber_B106 N (cP c e) = some (-1, cP c (e - 1)) := by
    unfold f_Ta_readNumber_B106
    rw [cP_p, show nI e - 1 = nI (e - 1) from pk_sub (b := 1) he, wr_e]
    refine congrArg (fun x => some ((-1 : Int32), x)) ?_
    unfold cP
    apply Prod.ext
    · funext a k
      rw [gI, gI, gI]
      by_cases e1 : a = 1
      · rw [if_pos e1, if_pos e1, if_pos e1]
        by_cases e2 : k = 2
        · rw [if_pos e2, if_pos e2]
        · rw [if_neg e2, if_neg e2, if_neg e2]
      · rw [if_neg e1, if_neg e1, if_neg e1]
    · rfl
  unfold f_Ta_readNumber_B89 f_Ta_readNumber_B118 nuB
  rw [if_neg hj0, if_neg hj0]
  by_cases h1 : lo ≤ v
  · rw [if_neg (fun z => by have := (nI_ltI (by omega) (by omega)).mp z; omega)]
    by_cases h2 : v ≤ hi
    · rw [if_pos ((nI_leI (by omega) (by omega)).mpr h2), if_pos ⟨h1, h2⟩]; rfl
    · rw [if_neg (fun z => by have := (nI_leI (by omega) (by omega)).mp z; omega), if_neg (fun z => h2 z.2), h106]; rfl
  · rw [if_pos ((nI_ltI (by omega) (by omega)).mpr (by omega)), if_neg (fun z => h1 z.1), h106]; rfl
theorem nu_c {N n p lo hi : Nat} {Y : Nat → Nat} {c : MM} (hN : 15000 ≤ N) (hX : TX n Y) (hC : CT n Y c) (hp : p ≤ n) (hl : lo < 1000) (hh : hi < 1000) : f_Ta_readNumber N 2 (nI lo) (nI hi) (cP c p) = some (nuI (nuN n Y lo hi p).1, cP c (nuN n Y lo hi p).2) := by
  obtain ⟨fu, hfu⟩ : ∃ z, N = z + 1 + 1 + 1 := ⟨N - 3, by omega⟩
  have e0 : f_Ta_readNumber N 2 (nI lo) (nI hi) (cP c p) = f_Ta_readNumber_L6 N (fu + 1 + 1 + 1) 2 (nI lo) (nI hi) (nI 0) (nI 0) (cP c p) := by
    rw [← hfu]; rfl
  rw [e0, cp_num hX hC hp]
  unfold nuN
  cases h0 : dg n Y p with
  | false =>
    rw [if_neg (by decide), if_neg (by decide)]; rfl
  | true =>
    obtain ⟨d1, d2, d3⟩ := dg_t h0
    rw [if_pos rfl, if_pos rfl, if_neg (by decide), show nI (0 * 10 + Y p) - 48 = nI (Y p - 48) from by rw [Nat.zero_mul, Nat.zero_add]; exact pk_sub (b := 48) (by omega), cp_num hX hC (by omega)]
    cases h1 : dg n Y (p + 1) with
    | false =>
      rw [if_neg (by decide), if_neg (by decide)]
      exact b89 (by omega) hl hh (by omega) (by omega) (by omega)
    | true =>
      obtain ⟨f1, f2, f3⟩ := dg_t h1
      rw [if_pos rfl, if_pos rfl, if_neg (by decide), show nI ((Y p - 48) * 10 + Y (p + 1)) - 48 = nI (10 * (Y p - 48) + (Y (p + 1) - 48)) from by rw [show nI ((Y p - 48) * 10 + Y (p + 1)) - 48 = nI ((Y p - 48) * 10 + Y (p + 1) - 48) from pk_sub (b := 48) (by omega)]; congr 1; omega, cp_num hX hC (by omega)]
      cases h2 : dg n Y (p + 1 + 1) with
      | false =>
        rw [if_neg (by decide), if_neg (by decide)]
        exact b89 (by omega) hl hh (by omega) (by omega) (by omega)
      | true =>
        rw [if_pos rfl, if_pos rfl, if_pos (show nI (0 + 1 + 1) = 2 from rfl)]; rfl
theorem mo_here {N n p q bg : Nat} {Y : Nat → Nat} {m : MM} {f d : Int32} (hX : TX n Y) (hM : MT n Y q bg m) (hp : p < n) : f_Mo_here N (mQ m p f d) = some (nI (Y p), mQ m p f d) := by
  obtain ⟨g1, g2, g3, g4, g5, g6, g7⟩ := MT_Q (p := p) (f := f) (d := d) hM
  have n9 := hX.1
  have hy := hX.2 p hp
  unfold f_Mo_here
  rw [g1, g2, g3, mQ_10, if_neg (fun z => by have := (nI_leI (by omega) (by omega)).mp z; omega), nI_clamp (by omega), gd_t (by simpa using g4.1), nI_add, gd_in (by omega) (by omega), nI_clamp (by omega), g7 p hp, s8_and _ hy.2]
theorem mo_67 {N n e v lo hi q bg : Nat} {Y : Nat → Nat} {m : MM} {d : Int32} (hX : TX n Y) (hM : MT n Y q bg m) (he : e ≤ n) (he1 : 1 ≤ e) (hv : v < 1000) (hl : lo < 1000) (hh : hi < 1000) : f_Mo_number_B67 N (nI lo) (nI hi) (nI v) (mQ m e (-nI 1) d) = if dg n Y e = true then some (0, mQ m e (nI e) d) else (match (nuB lo hi v e).1 with | some w => some (nI w, mQ m (nuB lo hi v e).2 (-nI 1) d) | none => some (nI v, mQ m (nuB lo hi v e).2 (nI (nuB lo hi v e).2) d)) := by
  unfold f_Mo_number_B67
  rw [mo_isDigit hX hM he, ob_e]
  cases h0 : dg n Y e with
  | true => rw [if_neg (by decide), if_pos rfl, mo_fails, ob_e]
  | false =>
    rw [if_pos (show bI false = 0 from rfl), if_neg (by decide), mo_isInI, ob_e]
    unfold nuB
    by_cases h1 : lo ≤ v
    · by_cases h2 : v ≤ hi
      · rw [decide_eq_true ((nI_leI (by omega) (by omega)).mpr h1), decide_eq_true ((nI_leI (by omega) (by omega)).mpr h2), if_neg (by decide), if_pos ⟨h1, h2⟩]
      · rw [decide_eq_true ((nI_leI (by omega) (by omega)).mpr h1), decide_eq_false (fun z => h2 ((nI_leI (by omega) (by omega)).mp z)), if_pos (by decide), if_neg (fun z => h2 z.2), wr_e, mQ_10, show nI e - 1 = nI (e - 1) from pk_sub (b := 1) he1, mQ_p, mo_fails, ob_e]
    · rw [decide_eq_false (fun z => h1 ((nI_leI (by omega) (by omega)).mp z)), if_pos (by simp [bI]; rfl), if_neg (fun z => h1 z.1), wr_e, mQ_10, show nI e - 1 = nI (e - 1) from pk_sub (b := 1) he1, mQ_p, mo_fails, ob_e]
theorem nu_m {N n p lo hi q bg : Nat} {Y : Nat → Nat} {m : MM} {d : Int32} (hN : 15000 ≤ N) (hX : TX n Y) (hM : MT n Y q bg m) (hp : p ≤ n) (hl : lo < 1000) (hh : hi < 1000) : (∀ v, (nuN n Y lo hi (sk n Y p)).1 = some v → f_Mo_number N (nI lo) (nI hi) (mQ m p (-nI 1) d) = some (nI v, mQ m (nuN n Y lo hi (sk n Y p)).2 (-nI 1) d)) ∧ ((nuN n Y lo hi (sk n Y p)).1 = none → ∃ r p'', f_Mo_number N (nI lo) (nI hi) (mQ m p (-nI 1) d) = some (r, mQ m p'' (nI (nuN n Y lo hi (sk n Y p)).2) d)) := by
  obtain ⟨s1, s2, s3⟩ := sk_p (Y := Y) hp
  generalize hp1 : sk n Y p = p1 at s1 s2 s3
  have hpost : ∀ (v e : Nat), 1 ≤ e → e ≤ n → v < 1000 → dg n Y e = false → (∀ v', (nuB lo hi v e).1 = some v' → f_Mo_number_B67 N (nI lo) (nI hi) (nI v) (mQ m e (-nI 1) d) = some (nI v', mQ m (nuB lo hi v e).2 (-nI 1) d)) ∧ ((nuB lo hi v e).1 = none → ∃ r p'', f_Mo_number_B67 N (nI lo) (nI hi) (nI v) (mQ m e (-nI 1) d) = some (r, mQ m p'' (nI (nuB lo hi v e).2) d)) := fun v e he1 he hv hd => by
    rw [mo_67 hX hM he he1 hv hl hh, hd, if_neg (by decide)]
    refine ⟨fun v' h => ?_, fun h => ?_⟩
    · rw [h]
    · rw [h]; exact ⟨_, _, rfl⟩
  have e0 : f_Mo_number N (nI lo) (nI hi) (mQ m p (-nI 1) d) = (if bI (dg n Y p1) = 0 then (ob (f_Mo_fails N (mQ m p1 (-nI 1) d)) fun t13 μ12z => (some (0, μ12z)))
    else (wr (mm_I (mQ m p1 (-nI 1) d) 355 10 (((mQ m p1 (-nI 1) d).1 355 10) + 1)) fun μ3z => (ob (f_Mo_isDigit N μ3z) fun t36 μ4z => (if t36 = 0 then (f_Mo_number_B67 N (nI lo) (nI hi) (sg n Y p1 - 48) μ4z)
    else (ob (f_Mo_here N μ4z) fun t48 μ10z => (wr (mm_I μ10z 355 10 ((μ10z.1 355 10) + 1)) fun μ11z => (f_Mo_number_B67 N (nI lo) (nI hi) (((10 * (sg n Y p1 - 48)) + t48) - 48) μ11z))))))) := by
    unfold f_Mo_number
    rw [mo_look hN hX hM hp, hp1, ob_e, mo_isDigit hX hM s2, ob_e]
  rw [e0]
  unfold nuN
  cases h0 : dg n Y p1 with
  | false =>
    rw [if_pos (show bI false = 0 from rfl), if_neg (show ¬ false = true by decide), mo_fails, ob_e]
    exact ⟨fun v h => (by cases h), fun _ => ⟨_, _, rfl⟩⟩
  | true =>
    obtain ⟨d1, d2, d3⟩ := dg_t h0
    rw [if_neg (show ¬ bI true = 0 by decide), if_pos (show true = true from rfl), wr_e, mQ_10, show nI p1 + 1 = nI (p1 + 1) from nI_add p1 1, mQ_p, mo_isDigit hX hM (by omega), ob_e, sg_v d1, show nI (Y p1) - 48 = nI (Y p1 - 48) from pk_sub (b := 48) (by omega)]
    cases h1 : dg n Y (p1 + 1) with
    | false =>
      rw [if_pos (show bI false = 0 from rfl), if_neg (show ¬ false = true by decide)]
      exact hpost _ _ (by omega) (by omega) (by omega) h1
    | true =>
      obtain ⟨f1, f2, f3⟩ := dg_t h1
      have hval : 10 * nI (Y p1 - 48) + nI (Y (p1 + 1)) - 48 = nI (10 * (Y p1 - 48) + (Y (p1 + 1) - 48)) := by
        rw [show 10 * nI (Y p1 - 48) = nI (10 * (Y p1 - 48)) from (Int32.ofNat_mul 10 _).symm, nI_add, show nI (10 * (Y p1 - 48) + Y (p1 + 1)) - 48 = nI (10 * (Y p1 - 48) + Y (p1 + 1) - 48) from pk_sub (b := 48) (by omega)]
        congr 1; omega
      rw [if_neg (show ¬ bI true = 0 by decide), if_pos (show true = true from rfl), mo_here hX hM f1, ob_e, wr_e, mQ_10, show nI (p1 + 1) + 1 = nI (p1 + 2) from nI_add (p1 + 1) 1, mQ_p, hval]
      cases h2 : dg n Y (p1 + 2) with
      | false =>
        rw [if_neg (by decide)]
        exact hpost _ _ (by omega) (by omega) (by omega) h2
      | true =>
        rw [if_pos rfl, mo_67 hX hM (by omega) (by omega) (by omega) hl hh, h2, if_pos rfl]
        exact ⟨fun v h => (by cases h), fun _ => ⟨_, _, rfl⟩⟩
theorem nu_p {n p lo hi : Nat} {Y : Nat → Nat} (hp : p ≤ n) : (nuN n Y lo hi p).2 ≤ n ∧ p ≤ (nuN n Y lo hi p).2 ∧ (∀ v, (nuN n Y lo hi p).1 = some v → lo ≤ v ∧ v ≤ hi ∧ p < (nuN n Y lo hi p).2) := by
  have hB : ∀ v e, 1 ≤ e → (nuB lo hi v e).2 ≤ e ∧ e - 1 ≤ (nuB lo hi v e).2 ∧ ∀ v', (nuB lo hi v e).1 = some v' → lo ≤ v' ∧ v' ≤ hi ∧ (nuB lo hi v e).2 = e := fun v e he => by
    unfold nuB
    by_cases c : lo ≤ v ∧ v ≤ hi
    · rw [if_pos c]; exact ⟨Nat.le_refl _, by show e - 1 ≤ e; omega, fun v' h => by cases Option.some.inj h; exact ⟨c.1, c.2, rfl⟩⟩
    · rw [if_neg c]; exact ⟨by show e - 1 ≤ e; omega, Nat.le_refl _, fun v' h => (by cases h)⟩
  unfold nuN
  cases h0 : dg n Y p with
  | false => rw [if_neg (by decide)]; exact ⟨hp, Nat.le_refl _, fun v h => (by cases h)⟩
  | true =>
    have d1 := (dg_t h0).1
    rw [if_pos rfl]
    cases h1 : dg n Y (p + 1) with
    | false =>
      rw [if_neg (by decide)]
      obtain ⟨a1, a2, a3⟩ := hB (Y p - 48) (p + 1) (by omega)
      exact ⟨by omega, by omega, fun v h => by obtain ⟨b1, b2, b3⟩ := a3 v h; exact ⟨b1, b2, by omega⟩⟩
    | true =>
      have f1 := (dg_t h1).1
      rw [if_pos rfl]
      cases h2 : dg n Y (p + 2) with
      | false =>
        rw [if_neg (by decide)]
        obtain ⟨a1, a2, a3⟩ := hB (10 * (Y p - 48) + (Y (p + 1) - 48)) (p + 2) (by omega)
        exact ⟨by omega, by omega, fun v h => by obtain ⟨b1, b2, b3⟩ := a3 v h; exact ⟨b1, b2, by omega⟩⟩
      | true =>
        have := (dg_t h2).1
        rw [if_pos rfl]; exact ⟨by show p + 2 ≤ n; omega, by show p ≤ p + 2; omega, fun v h => (by cases h)⟩
