/-! ===== texts: the two readers' places ===== -/
def TX (n : Nat) (Y : Nat → Nat) : Prop := n ≤ 240 ∧ ∀ j, j < n → 0 < Y j ∧ Y j < 256
def CT (n : Nat) (Y : Nat → Nat) (c : MM) : Prop := c.1 1 1 = nI n ∧ ∀ j, j < n → c.1 2 j = nI (Y j)
def MT (n : Nat) (Y : Nat → Nat) (q bg : Nat) (m : MM) : Prop := m.1 355 5 = nI q ∧ m.1 355 8 = nI bg ∧ m.1 355 9 = nI n ∧ (sh_k q = 21 ∧ q ≠ 355 ∧ q < 1000) ∧ bg + n ≤ sh_n q ∧ sh_n q ≤ 960 ∧ ∀ j, j < n → m.1 q (bg + j) = (nI (Y j)).toInt8.toInt32
/-- the program's reader: place, steps so far -/
def cQ (c : MM) (p s : Nat) (g : Nat → Int32) : MM := mm_I (mm_I (mm_F c 22 g) 21 2 (nI s)) 1 2 (nI p)
def upg (g : Nat → Int32) (s : Nat) (x : Int32) : Nat → Int32 := fun k => if k = s then x else g k
def app (g : Nat → Int32) : Nat → List Int32 → Nat → Int32
  | _, [] => g
  | s, x :: cs => app (upg g s x) (s + 1) cs
/-- the model's reader: place, fault, depth -/
def mQ (m : MM) (p : Nat) (f d : Int32) : MM := mm_I (mm_I (mm_I m 355 10 (nI p)) 355 11 f) 355 12 d
theorem app_app (g : Nat → Int32) : ∀ (a : List Int32) (s : Nat) (b : List Int32), app g s (a ++ b) = app (app g s a) (s + a.length) b := by
  intro a
  induction a generalizing g with
  | nil => intro s b; rfl
  | cons x a ih =>
    intro s b
    show app (upg g s x) (s + 1) (a ++ b) = app (app (upg g s x) (s + 1) a) (s + (a.length + 1)) b
    rw [ih (upg g s x) (s + 1) b, show s + 1 + a.length = s + (a.length + 1) by omega]
theorem cQ_ext {c : MM} {p s p' s' : Nat} {g g' : Nat → Int32} {μ : MM} (h2 : μ.2 = c.2) (h1 : ∀ a, a ≠ 1 → a ≠ 21 → a ≠ 22 → μ.1 a = c.1 a) (h22 : μ.1 22 = g') (h21 : ∀ j, μ.1 21 j = if j = 2 then nI s' else c.1 21 j) (h10 : ∀ j, μ.1 1 j = if j = 2 then nI p' else c.1 1 j) : μ = cQ c p' s' g' := by
  apply Prod.ext
  · funext a j
    unfold cQ
    rw [gI]
    by_cases e1 : a = 1
    · subst e1
      rw [if_pos rfl, h10 j]
      by_cases e2 : j = 2
      · rw [if_pos e2, if_pos e2]
      · rw [if_neg e2, if_neg e2, gI_o (by decide), gF_o (by decide)]
    · rw [if_neg e1, gI]
      by_cases e2 : a = 21
      · subst e2
        rw [if_pos rfl, h21 j]
        by_cases e3 : j = 2
        · rw [if_pos e3, if_pos e3]
        · rw [if_neg e3, if_neg e3, gF_o (by decide)]
      · rw [if_neg e2]
        by_cases e3 : a = 22
        · subst e3; rw [gF_s, h22]
        · rw [gF_o e3, h1 a e1 e2 e3]
  · exact h2
theorem cQ_1 {c : MM} {p s : Nat} {g : Nat → Int32} {a : Nat} (h1 : a ≠ 1) (h2 : a ≠ 21) (h3 : a ≠ 22) : (cQ c p s g).1 a = c.1 a := by
  unfold cQ; rw [gI_o h1, gI_o h2, gF_o h3]
theorem cQ_p {c : MM} {p s : Nat} {g : Nat → Int32} (j : Nat) : (cQ c p s g).1 1 j = if j = 2 then nI p else c.1 1 j := by
  unfold cQ; rw [gI_s, gI_o (by decide), gF_o (by decide)]
theorem cQ_s {c : MM} {p s : Nat} {g : Nat → Int32} (j : Nat) : (cQ c p s g).1 21 j = if j = 2 then nI s else c.1 21 j := by
  unfold cQ; rw [gI_o (by decide), gI_s, gF_o (by decide)]
theorem cQ_g {c : MM} {p s : Nat} {g : Nat → Int32} : (cQ c p s g).1 22 = g := by
  unfold cQ; rw [gI_o (by decide), gI_o (by decide), gF_s]
theorem cQ_2 {c : MM} {p s : Nat} {g : Nat → Int32} : (cQ c p s g).2 = c.2 := rfl
theorem cQ_m {c : MM} {p s p' : Nat} {g : Nat → Int32} : mm_I (cQ c p s g) 1 2 (nI p') = cQ c p' s g := by
  refine cQ_ext (p := 0) (s := 0) (g := g) rfl (fun a h1 h2 h3 => by rw [gI_o h1, cQ_1 h1 h2 h3]) (by rw [gI_o (by decide), cQ_g]) (fun j => by rw [gI_o (by decide), cQ_s]) (fun j => ?_)
  rw [gI_s, cQ_p]
  by_cases e : j = 2
  · rw [if_pos e, if_pos e]
  · rw [if_neg e, if_neg e, if_neg e]
theorem cQ_e {c : MM} {p s : Nat} {g : Nat → Int32} {x : Int32} : mm_I (mm_I (cQ c p s g) 22 s x) 21 2 (nI (s + 1)) = cQ c p (s + 1) (upg g s x) := by
  refine cQ_ext (p := 0) (s := 0) (g := g) rfl (fun a h1 h2 h3 => by rw [gI_o h2, gI_o h3, cQ_1 h1 h2 h3]) ?_ (fun j => ?_) (fun j => by rw [gI_o (by decide), gI_o (by decide), cQ_p])
  · rw [gI_o (by decide)]
    funext k
    rw [gI_s, cQ_g]; rfl
  · rw [gI_s, gI_o (by decide), cQ_s]
    by_cases e : j = 2
    · rw [if_pos e, if_pos e]
    · rw [if_neg e, if_neg e, if_neg e]
theorem CT_Q {n : Nat} {Y : Nat → Nat} {c : MM} {p s : Nat} {g : Nat → Int32} (h : CT n Y c) : CT n Y (cQ c p s g) := by
  refine ⟨by rw [cQ_p, if_neg (by decide)]; exact h.1, fun j hj => by rw [cQ_1 (by decide) (by decide) (by decide)]; exact h.2 j hj⟩
theorem mQ_ext {m μ : MM} {p' : Nat} {f' d' : Int32} (h2 : μ.2 = m.2) (h1 : ∀ a, a ≠ 355 → μ.1 a = m.1 a) (h3 : ∀ j, μ.1 355 j = if j = 12 then d' else if j = 11 then f' else if j = 10 then nI p' else m.1 355 j) : μ = mQ m p' f' d' := by
  apply Prod.ext
  · funext a j
    unfold mQ
    by_cases e : a = 355
    · subst e; rw [h3 j, gI_s, gI_s, gI_s]
    · rw [gI_o e, gI_o e, gI_o e, h1 a e]
  · exact h2
theorem mQ_1 {m : MM} {p : Nat} {f d : Int32} {a : Nat} (h : a ≠ 355) : (mQ m p f d).1 a = m.1 a := by
  unfold mQ; rw [gI_o h, gI_o h, gI_o h]
theorem mQ_5 {m : MM} {p : Nat} {f d : Int32} (j : Nat) : (mQ m p f d).1 355 j = if j = 12 then d else if j = 11 then f else if j = 10 then nI p else m.1 355 j := by
  unfold mQ; rw [gI_s, gI_s, gI_s]
theorem mQ_2 {m : MM} {p : Nat} {f d : Int32} : (mQ m p f d).2 = m.2 := rfl
theorem mQ_p {m : MM} {p p' : Nat} {f d : Int32} : mm_I (mQ m p f d) 355 10 (nI p') = mQ m p' f d := by
  refine mQ_ext rfl (fun a h => by rw [gI_o h, mQ_1 h]) (fun j => ?_)
  rw [gI_s, mQ_5]
  by_cases e : j = 10
  · rw [if_pos e, if_neg (by omega), if_neg (by omega), if_pos e]
  · rw [if_neg e]
    by_cases e2 : j = 12
    · rw [if_pos e2, if_pos e2]
    · rw [if_neg e2, if_neg e2, if_neg e, if_neg e]
theorem mQ_f {m : MM} {p : Nat} {f f' d : Int32} : mm_I (mQ m p f d) 355 11 f' = mQ m p f' d := by
  refine mQ_ext rfl (fun a h => by rw [gI_o h, mQ_1 h]) (fun j => ?_)
  rw [gI_s, mQ_5]
  by_cases e : j = 11
  · rw [if_pos e, if_neg (by omega), if_pos e]
  · rw [if_neg e, if_neg e, if_neg e]
theorem mQ_d {m : MM} {p : Nat} {f d d' : Int32} : mm_I (mQ m p f d) 355 12 d' = mQ m p f d' := by
  refine mQ_ext rfl (fun a h => by rw [gI_o h, mQ_1 h]) (fun j => ?_)
  rw [gI_s, mQ_5]
  by_cases e : j = 12
  · rw [if_pos e, if_pos e]
  · rw [if_neg e, if_neg e, if_neg e]
theorem MT_Q {n : Nat} {Y : Nat → Nat} {q bg : Nat} {m : MM} {p : Nat} {f d : Int32} (h : MT n Y q bg m) : MT n Y q bg (mQ m p f d) := by
  obtain ⟨h1, h2, h3, h4, h5, h6, h7⟩ := h
  refine ⟨by rw [mQ_5]; exact h1, by rw [mQ_5]; exact h2, by rw [mQ_5]; exact h3, h4, h5, h6, fun j hj => by rw [mQ_1 h4.2.1]; exact h7 j hj⟩
/-- spaces left out -/
def skf (n : Nat) (Y : Nat → Nat) : Nat → Nat → Nat
  | 0, p => p
  | f + 1, p => if p < n ∧ Y p = 32 then skf n Y f (p + 1) else p
def sk (n : Nat) (Y : Nat → Nat) (p : Nat) : Nat := skf n Y (n + 1) p
def sg (n : Nat) (Y : Nat → Nat) (p : Nat) : Int32 := if p < n then nI (Y p) else -nI 1
theorem skf_p {n : Nat} {Y : Nat → Nat} : ∀ (f p : Nat), p ≤ n → n < p + f → p ≤ skf n Y f p ∧ skf n Y f p ≤ n ∧ ¬ (skf n Y f p < n ∧ Y (skf n Y f p) = 32) := by
  intro f
  induction f with
  | zero => intro p h1 h2; omega
  | succ f ih =>
    intro p h1 h2
    rw [skf]
    by_cases h : p < n ∧ Y p = 32
    · rw [if_pos h]
      obtain ⟨g1, g2, g3⟩ := ih (p + 1) (by omega) (by omega)
      exact ⟨by omega, g2, g3⟩
    · rw [if_neg h]
      exact ⟨Nat.le_refl _, h1, h⟩
theorem sk_p {n : Nat} {Y : Nat → Nat} {p : Nat} (h : p ≤ n) : p ≤ sk n Y p ∧ sk n Y p ≤ n ∧ ¬ (sk n Y p < n ∧ Y (sk n Y p) = 32) := skf_p (n + 1) p h (by omega)
theorem sk_id {n : Nat} {Y : Nat → Nat} {p : Nat} (h : ¬ (p < n ∧ Y p = 32)) : sk n Y p = p := by
  unfold sk; rw [skf, if_neg h]
theorem sk_sk {n : Nat} {Y : Nat → Nat} {p : Nat} (h : p ≤ n) : sk n Y (sk n Y p) = sk n Y p := sk_id (sk_p h).2.2
theorem ta_peek {N n p s : Nat} {Y : Nat → Nat} {c : MM} {g : Nat → Int32} (hN : 15000 ≤ N) (hX : TX n Y) (hC : CT n Y c) (hp : p ≤ n) : f_Ta_peek N (cQ c p s g) = some (sg n Y (sk n Y p), cQ c (sk n Y p) s g) := by
  have key : ∀ (f p fu : Nat), p ≤ n → n < p + f → f ≤ fu → f_Ta_peek_L0 N fu (cQ c p s g) = some (sg n Y (skf n Y f p), cQ c (skf n Y f p) s g) := by
    intro f
    induction f with
    | zero => intro p fu h1 h2; omega
    | succ f ih =>
      intro p fu h1 h2 h3
      obtain ⟨fu, rfl⟩ : ∃ z, fu = z + 1 := ⟨fu - 1, by omega⟩
      have e1 : (cQ c p s g).1 1 1 = nI n := (CT_Q hC).1
      have e2 : (cQ c p s g).1 1 2 = nI p := by rw [cQ_p, if_pos rfl]
      have n9 := hX.1
      have hB : f_Ta_peek_B38 N (cQ c p s g) = some (sg n Y p, cQ c p s g) := by
        unfold f_Ta_peek_B38 sg
        rw [e1, e2]
        by_cases h : p < n
        · rw [if_neg (fun z => by have := (nI_leI (by omega) (by omega)).mp z; omega), gd_in (by omega) (by omega), nI_clamp (by omega), (CT_Q hC).2 p h, if_pos h]
        · rw [if_pos ((nI_leI (by omega) (by omega)).mpr (by omega)), if_neg h]; rfl
      rw [f_Ta_peek_L0, e1, e2, hB, skf]
      by_cases h : p < n
      · have hy := hX.2 p h
        rw [if_neg (fun z => by have := (nI_leI (by omega) (by omega)).mp z; omega), gd_in (by omega) (by omega), nI_clamp (by omega), (CT_Q hC).2 p h]
        by_cases h32 : Y p = 32
        · rw [if_pos (show nI (Y p) = 32 by rw [h32]; rfl), if_pos ⟨h, h32⟩, wr_e, l_1, nI_add, cQ_m]
          exact ih (p + 1) fu (by omega) (by omega) (by omega)
        · rw [if_neg (show ¬ nI (Y p) = 32 from fun z => by rw [l_32, nI_eq (by omega) (by omega)] at z; exact h32 z), if_neg (fun z => h32 z.2)]
      · rw [if_pos ((nI_leI (by omega) (by omega)).mpr (by omega)), if_neg (fun z => h z.1)]
  exact key (n + 1) p N hp (by omega) (by have := hX.1; omega)
theorem s8_32 : ∀ v, v < 256 → (((nI v).toInt8.toInt32 = 32) = (v = 32)) := by decide +kernel
theorem s8_and : ∀ v, v < 256 → (nI v).toInt8.toInt32 &&& 255 = nI v := by decide +kernel
theorem s8_dig : ∀ v, v < 256 → (((nI v).toInt8.toInt32 < 48) = (v < 48 ∨ 128 ≤ v)) ∧ ((57 < (nI v).toInt8.toInt32) = (57 < v ∧ v < 128)) := by decide +kernel
theorem s8_v : ∀ v, v < 128 → (nI v).toInt8.toInt32 = nI v := by decide +kernel
theorem mo_look {N n p q bg : Nat} {Y : Nat → Nat} {m : MM} {f d : Int32} (hN : 15000 ≤ N) (hX : TX n Y) (hM : MT n Y q bg m) (hp : p ≤ n) : f_Mo_look N (mQ m p f d) = some (sg n Y (sk n Y p), mQ m (sk n Y p) f d) := by
  have key : ∀ (ff p fu : Nat), p ≤ n → n < p + ff → ff ≤ fu → f_Mo_look_L0 N fu (mQ m p f d) = some (sg n Y (skf n Y ff p), mQ m (skf n Y ff p) f d) := by
    intro ff
    induction ff with
    | zero => intro p fu h1 h2; omega
    | succ ff ih =>
      intro p fu h1 h2 h3
      obtain ⟨fu, rfl⟩ : ∃ z, fu = z + 1 := ⟨fu - 1, by omega⟩
      obtain ⟨g1, g2, g3, g4, g5, g6, g7⟩ := MT_Q (p := p) (f := f) (d := d) hM
      have e2 : (mQ m p f d).1 355 10 = nI p := by rw [mQ_5]; rfl
      have n9 := hX.1
      have hB : f_Mo_look_B43 N (mQ m p f d) = some (sg n Y p, mQ m p f d) := by
        unfold f_Mo_look_B43 sg
        rw [g1, g2, g3, e2]
        by_cases h : p < n
        · have hy := hX.2 p h
          rw [if_neg (fun z => by have := (nI_leI (by omega) (by omega)).mp z; omega), nI_clamp (by omega), gd_t (by simpa using g4.1), nI_add, gd_in (by omega) (by omega), nI_clamp (by omega), g7 p h, s8_and _ (by omega), if_pos h]
        · rw [if_pos ((nI_leI (by omega) (by omega)).mpr (by omega)), if_neg h]; rfl
      rw [f_Mo_look_L0, hB, g1, g2, g3, e2, skf]
      by_cases h : p < n
      · have hy := hX.2 p h
        rw [if_neg (fun z => by have := (nI_leI (by omega) (by omega)).mp z; omega), nI_clamp (by omega), gd_t (by simpa using g4.1), nI_add, gd_in (by omega) (by omega), nI_clamp (by omega), g7 p h]
        by_cases h32 : Y p = 32
        · rw [if_pos (by rw [s8_32 _ (by omega)]; exact h32), if_pos ⟨h, h32⟩, wr_e, l_1, nI_add, mQ_p]
          exact ih (p + 1) fu (by omega) (by omega) (by omega)
        · rw [if_neg (by rw [s8_32 _ (by omega)]; exact h32), if_neg (fun z => h32 z.2)]
      · rw [if_pos ((nI_leI (by omega) (by omega)).mpr (by omega)), if_neg (fun z => h z.1)]
  exact key (n + 1) p N hp (by omega) (by have := hX.1; omega)
theorem ta_step {N n p s : Nat} {Y : Nat → Nat} {c : MM} {g : Nat → Int32} (hX : TX n Y) (hC : CT n Y c) (hp : p < n) : f_Ta_step N (cQ c p s g) = some (cQ c (p + 1) s g) := by
  have e1 : (cQ c p s g).1 1 1 = nI n := (CT_Q hC).1
  have e2 : (cQ c p s g).1 1 2 = nI p := by rw [cQ_p, if_pos rfl]
  have n9 := hX.1
  unfold f_Ta_step
  rw [e1, e2, if_neg (fun z => by have := (nI_leI (by omega) (by omega)).mp z; omega), wr_e, l_1, nI_add, cQ_m]
theorem sg_lt {n : Nat} {Y : Nat → Nat} {p v : Nat} (hX : TX n Y) (hv : v < 2 ^ 31) (h : sg n Y p = nI v) : p < n ∧ Y p = v := by
  unfold sg at h
  by_cases e : p < n
  · rw [if_pos e] at h
    have hy := hX.2 p e
    exact ⟨e, (nI_eq (by omega) hv).mp h⟩
  · rw [if_neg e, m_eq' hv] at h; exact h.elim
theorem sg_m {n : Nat} {Y : Nat → Nat} {p : Nat} (hX : TX n Y) : (sg n Y p = -nI 1) = ¬ p < n := by
  unfold sg
  by_cases e : p < n
  · have hy := hX.2 p e
    rw [if_pos e, m_eq (by omega)]; simp [e]
  · rw [if_neg e]; simp [e]
/-- a sign is accepted -/
theorem ta_accept {N n p s v : Nat} {Y : Nat → Nat} {c : MM} {g : Nat → Int32} (hN : 15000 ≤ N) (hX : TX n Y) (hC : CT n Y c) (hp : p ≤ n) (hv : v < 2 ^ 31) : f_Ta_accept N (nI v) (cQ c p s g) = if sg n Y (sk n Y p) = nI v then some (nI 1, cQ c (sk n Y p + 1) s g) else some (nI 0, cQ c (sk n Y p) s g) := by
  unfold f_Ta_accept
  rw [ta_peek hN hX hC hp, ob_e]
  by_cases h : sg n Y (sk n Y p) = nI v
  · rw [if_pos h, if_pos h, ta_step hX hC (sg_lt hX hv h).1, obv_e]; rfl
  · rw [if_neg h, if_neg h]; rfl
theorem mo_fails {N p : Nat} {m : MM} {d : Int32} : f_Mo_fails N (mQ m p (-nI 1) d) = some (nI 0, mQ m p (nI p) d) := by
  unfold f_Mo_fails
  rw [show (mQ m p (-nI 1) d).1 355 11 = -nI 1 by rw [mQ_5]; rfl, if_pos (show -nI 1 = (-1 : Int32) from rfl), wr_e, show (mQ m p (-nI 1) d).1 355 10 = nI p by rw [mQ_5]; rfl, mQ_f]; rfl
theorem mo_fails2 {N p pf : Nat} {m : MM} {d : Int32} (h : pf < 2 ^ 31) : f_Mo_fails N (mQ m p (nI pf) d) = some (nI 0, mQ m p (nI pf) d) := by
  unfold f_Mo_fails
  rw [show (mQ m p (nI pf) d).1 355 11 = nI pf by rw [mQ_5]; rfl, if_neg (show ¬ nI pf = -1 from fun z => by
    have z2 : nI pf = -nI 1 := z
    rw [m_eq h] at z2; exact z2)]; rfl
theorem mo_takes {N n p q bg v : Nat} {Y : Nat → Nat} {m : MM} {d : Int32} (hN : 15000 ≤ N) (hX : TX n Y) (hM : MT n Y q bg m) (hp : p ≤ n) : f_Mo_takes N (nI v) (mQ m p (-nI 1) d) = if sg n Y (sk n Y p) = nI v then some (nI 1, mQ m (sk n Y p + 1) (-nI 1) d) else some (nI 0, mQ m (sk n Y p) (nI (sk n Y p)) d) := by
  unfold f_Mo_takes
  rw [show (mQ m p (-nI 1) d).1 355 11 = -nI 1 by rw [mQ_5]; rfl, if_pos (show -nI 1 = (-1 : Int32) from rfl), mo_look hN hX hM hp, ob_e]
  by_cases h : sg n Y (sk n Y p) = nI v
  · rw [if_pos h, if_pos h, wr_e, show (mQ m (sk n Y p) (-nI 1) d).1 355 10 = nI (sk n Y p) by rw [mQ_5]; rfl, l_1, nI_add, mQ_p]
  · rw [if_neg h, if_neg h]
    unfold f_Mo_takes_B16
    rw [mo_fails, ob_e, gd_t (by decide)]
theorem mo_takes2 {N p pf : Nat} {m : MM} {d x : Int32} (h : pf < 2 ^ 31) : f_Mo_takes N x (mQ m p (nI pf) d) = some (nI 0, mQ m p (nI pf) d) := by
  unfold f_Mo_takes
  rw [show (mQ m p (nI pf) d).1 355 11 = nI pf by rw [mQ_5]; rfl, if_neg (show ¬ nI pf = -1 from fun z => by
    have z2 : nI pf = -nI 1 := z
    rw [m_eq h] at z2; exact z2)]
  unfold f_Mo_takes_B16
  rw [mo_fails2 h, ob_e, gd_t (by decide)]
/-- a digit stands here -/
def dg (n : Nat) (Y : Nat → Nat) (p : Nat) : Bool := decide (p < n) && decide (48 ≤ Y p) && decide (Y p ≤ 57)
theorem mo_isDigit {N n p q bg : Nat} {Y : Nat → Nat} {m : MM} {f d : Int32} (hX : TX n Y) (hM : MT n Y q bg m) (hp : p ≤ n) : f_Mo_isDigit N (mQ m p f d) = some (bI (dg n Y p), mQ m p f d) := by
  obtain ⟨g1, g2, g3, g4, g5, g6, g7⟩ := MT_Q (p := p) (f := f) (d := d) hM
  have e2 : (mQ m p f d).1 355 10 = nI p := by rw [mQ_5]; rfl
  have n9 := hX.1
  unfold f_Mo_isDigit dg
  rw [g1, g2, g3, e2]
  by_cases h : p < n
  · have hy := hX.2 p h
    obtain ⟨d1, d2⟩ := s8_dig (Y p) (by omega)
    rw [if_neg (fun z => by have := (nI_leI (by omega) (by omega)).mp z; omega), nI_clamp (by omega), gd_t (by simpa using g4.1), nI_add, gd_in (by omega) (by omega), nI_clamp (by omega), g7 p h, gd_t (by simpa using g4.1), gd_in (by omega) (by omega), decide_eq_true h, Bool.true_and]
    by_cases c1 : 48 ≤ Y p
    · by_cases c2 : Y p ≤ 57
      · rw [if_neg (by rw [d1]; omega), if_neg (by rw [d2]; omega), decide_eq_true c1, decide_eq_true c2]; rfl
      · rw [decide_eq_true c1, decide_eq_false c2]
        by_cases c3 : 128 ≤ Y p
        · rw [if_pos (by rw [d1]; omega)]; rfl
        · rw [if_neg (by rw [d1]; omega), if_pos (by rw [d2]; omega)]; rfl
    · rw [if_pos (by rw [d1]; omega), decide_eq_false c1]; rfl
  · rw [if_pos ((nI_leI (by omega) (by omega)).mpr (by omega)), decide_eq_false h]; rfl
theorem lr_emit {N p s : Nat} {c : MM} {g : Nat → Int32} {x : Int32} (hs : s < 240) : f_Lr_emit N x (cQ c p s g) = some (nI 1, cQ c p (s + 1) (upg g s x)) := by
  have e : (cQ c p s g).1 21 2 = nI s := by rw [cQ_s, if_pos rfl]
  unfold f_Lr_emit
  rw [e, if_pos (show nI s < 240 from (nI_ltI (b := 240) (by omega) (by omega)).mpr hs), gd_in hs (by omega), nI_clamp (by omega), wr_e, gI_o (by decide), e, wr_e, l_1, nI_add, cQ_e]
