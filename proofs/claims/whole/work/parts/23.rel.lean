/-! ===== the relation of the two memories ===== -/
def LG (lg : Nat → Nat → Nat) (g : Nat → Int32) : Prop := g 123 = nI (min 60 (dyN g)) ∧ ∀ j, j < min 60 (dyN g) → ∀ w, w < 3 → g (124 + 3 * j + w) = nI (lg (dyN g - min 60 (dyN g) + j) w)
def LB (lg : Nat → Nat → Nat) : Prop := ∀ e, lg e 0 < 16 ∧ lg e 1 < 16 ∧ lg e 2 < 64
def RG (r : Nat → Int32) (lg : Nat → Nat → Nat) (lo d : Nat) : Prop := ∀ e, e < d → lo ≤ e + 60 → r (e % 128) = nI (lg e 0 + 16 * lg e 1 + 256 * lg e 2)
def hrow (U : Nat → Int32) (j : Nat) : Nat → Int32 := fun k => U (304 * j + k)
def hday (a : Nat) (U g : Nat → Int32) (j : Nat) : Nat := if j < a then dyN (hrow U j) else dyN g
def HB (a nx nc nt : Nat) (lg : Nat → Nat → Nat) (cs cn ma : Int32) (c : Nat → Nat → Int32) (U g : Nat → Int32) : Prop :=
  a ≤ 40 ∧ nx < 40 ∧ cs = nI a ∧ cn = nI nx ∧ ma = nI a ∧ ∀ j, j < a →
    SR nc (c (53 + 7 * ((nx + 40 - a + j) % 40))) (c (53 + 7 * ((nx + 40 - a + j) % 40) + 2)) (c (53 + 7 * ((nx + 40 - a + j) % 40) + 3)) (c (53 + 7 * ((nx + 40 - a + j) % 40) + 4)) (c (53 + 7 * ((nx + 40 - a + j) % 40) + 5)) (c (53 + 7 * ((nx + 40 - a + j) % 40) + 6)) (hrow U j) ∧
    RW nc nt (hrow U j) ∧ LG lg (hrow U j) ∧ hday a U g j ≤ hday a U g (j + 1) ∧ hday a U g (j + 1) ≤ hday a U g j + 1
def IB (nc nt : Nat) (lg : Nat → Nat → Nat) (D : Nat) (ci mi : Int32) (ob sz so ab ik un r g : Nat → Int32) : Prop :=
  (ci = nI 0 ∧ mi = nI 0) ∨ (ci = nI 1 ∧ mi = nI 1 ∧ SR nc ob sz so ab ik un g ∧ RW nc nt g ∧ LG lg g ∧ LB lg ∧ RG r lg (dyN g) (dyN g) ∧ dyN g ≤ D)
def yN (f : Nat → Int32) (j : Nat) : Nat := (f j).toNatClampNeg
def TB (tl : Nat) (cl ml : Int32) (f h : Nat → Int32) : Prop := tl ≤ 240 ∧ cl = nI tl ∧ ml = nI tl ∧ ∀ j, j < tl → f j = nI (yN f j) ∧ 0 < yN f j ∧ yN f j < 256 ∧ h j = (nI (yN f j)).toInt8.toInt32
/-- letters of a law: small numbers -/
def LO (L : Nat → Int32) : Prop := ∀ i, i < 6 → ∃ v, v ≤ 1000000 ∧ L i = nI v
/-- the steps of a law are worth w -/
def LC (w : (Nat → Int32) → Int32) (cd : Nat → Int32) (n : Int32) : Prop := ∀ (N : Nat) (μ : MM) (h lc : Nat) (L : Nat → Int32), 15000 ≤ N → h < lc → lc ≤ 4 → LO L → μ.1 34 1 = nI h → μ.1 34 0 = nI lc → (∀ k, k < 240 → μ.1 (37 + h) k = cd k) → μ.1 41 h = n → (∀ i, i < 6 → μ.1 35 i = L i) →
  ∃ μ', f_La_worth N μ = some (w L, μ') ∧ (∀ a, a ≠ 42 → μ'.1 a = μ.1 a) ∧ μ'.2 = μ.2
def ltC (i : Nat) : Nat := if i = 0 then 105 else if i = 1 then 102 else if i = 2 then 108 else if i = 3 then 112 else if i = 4 then 107 else 100
/-- the text of a law is worth w -/
def LT (w : (Nat → Int32) → Int32) (tx : Nat → Int32) (m : Int32) : Prop := ∀ (N : Nat) (μ : MM) (h : Nat) (L : Nat → Int32), 15000 ≤ N → h < 4 → LO L → (∀ k, k < 240 → μ.1 357 (240 * h + k) = tx k) → (∀ i, i < 6 → μ.1 359 (ltC i) = L i) →
  ∃ μ', f_Mo_goThrough N 357 (nI (240 * h)) m μ = some μ' ∧ μ'.1 355 14 = w L ∧ (∀ a, a ≠ 355 → μ'.1 a = μ.1 a) ∧ (∀ j, j < 5 ∨ 18 ≤ j ∨ j = 6 ∨ j = 7 ∨ j = 15 ∨ j = 16 → μ'.1 355 j = μ.1 355 j) ∧ μ'.2 = μ.2
/-- the steps of a law are what its text says -/
def LA (cd : Nat → Int32) (n : Int32) (tx : Nat → Int32) (m : Int32) : Prop := ∃ w, LC w cd n ∧ LT w tx m
theorem LA_congr {cd cd' tx tx' : Nat → Int32} {n m : Int32} (h : LA cd n tx m) (h1 : ∀ k, k < 240 → cd' k = cd k) (h2 : ∀ k, k < 240 → tx' k = tx k) : LA cd' n tx' m := by
  obtain ⟨w, g1, g2⟩ := h
  refine ⟨w, fun N μ h lc L a1 a2 a3 a4 a5 a6 a7 a8 a9 => g1 N μ h lc L a1 a2 a3 a4 a5 a6 (fun k hk => (a7 k hk).trans (h1 k hk)) a8 a9, fun N μ h L a1 a2 a3 a4 a5 => g2 N μ h L a1 a2 a3 (fun k hk => (a4 k hk).trans (h2 k hk)) a5⟩
def WB (lc : Nat) (cc ch mc mh : Int32) (k0 k1 k2 k3 sz tx ln : Nat → Int32) : Prop := lc ≤ 4 ∧ cc = nI lc ∧ mc = nI lc ∧ ch = mh ∧ (mh = -nI 1 ∨ ∃ j, j < lc ∧ mh = nI j) ∧
  (0 < lc → LA k0 (sz 0) (fun k => tx k) (ln 0)) ∧ (1 < lc → LA k1 (sz 1) (fun k => tx (240 + k)) (ln 1)) ∧ (2 < lc → LA k2 (sz 2) (fun k => tx (480 + k)) (ln 2)) ∧ (3 < lc → LA k3 (sz 3) (fun k => tx (720 + k)) (ln 3))
def rzN (R : Nat → Int32) (j : Nat) : Nat := (R (13 * j)).toNatClampNeg
def roN (R : Nat → Int32) (j k : Nat) : Nat := (R (13 * j + 1 + 2 * k)).toNatClampNeg
def raN (R : Nat → Int32) (j k : Nat) : Nat := (R (13 * j + 2 + 2 * k)).toNatClampNeg
def DB (rc : Nat) (cr mr : Int32) (sz so ab R : Nat → Int32) : Prop := rc ≤ 4 ∧ cr = nI rc ∧ mr = nI rc ∧ ∀ j, j < rc → R (13 * j) = nI (rzN R j) ∧ 1 ≤ rzN R j ∧ rzN R j ≤ 6 ∧ sz j = R (13 * j) ∧
  ∀ k, k < rzN R j → R (13 * j + 1 + 2 * k) = nI (roN R j k) ∧ roN R j k < 3 ∧ R (13 * j + 2 + 2 * k) = nI (raN R j k) ∧ raN R j k < 10 ∧ (roN R j k < 2 → raN R j k < 6) ∧ so (6 * j + k) = R (13 * j + 1 + 2 * k) ∧ ab (6 * j + k) = R (13 * j + 2 + 2 * k)
def NB (st nc nt : Nat) (cn mn : Int32) (ct cc cf mt mc mf : Nat → Int32) : Prop := st ≤ 10 ∧ cn = nI st ∧ mn = nI st ∧ ∀ i, i < st → ct i = mt i ∧ mt i = nI (yN mt i) ∧ yN mt i < nt ∧ cc i = mc i ∧ mc i = nI (yN mc i) ∧ yN mc i < nc ∧ cf i = mf i ∧ (mf i = nI 0 ∨ mf i = nI 1)
def RB (D nc nt : Nat) (lg lgI : Nat → Nat → Nat) (a nx tl lc rc st cl : Nat) (c m : MM) : Prop :=
  CC nc nt (c.1 23) (c.1 24) (c.1 25) (c.1 26) (m.1 362) (m.1 365) ∧
  (m.1 355 27 = nI nc ∧ m.1 355 26 = nI nt) ∧ TW nt (m.1 362) ∧ FW nc (m.1 365) ∧
  SR nc (c.1 27) (c.1 29) (c.1 30) (c.1 31) (c.1 32) (c.1 33) (m.1 368) ∧ RW nc nt (m.1 368) ∧ LG lg (m.1 368) ∧ LB lg ∧ RG (c.1 49) lg (hday a (m.1 370) (m.1 368) 0) (dyN (m.1 368)) ∧ dyN (m.1 368) ≤ D ∧
  HB a nx nc nt lg (c.1 51 0) (c.1 51 1) (m.1 355 37) c.1 (m.1 370) (m.1 368) ∧
  IB nc nt lgI D (c.1 0 14) (m.1 355 48) (c.1 347) (c.1 349) (c.1 350) (c.1 351) (c.1 352) (c.1 353) (c.1 354) (m.1 375) ∧
  TB tl (c.1 1 1) (m.1 355 6) (c.1 2) (m.1 356) ∧
  WB lc (c.1 34 0) (c.1 34 1) (m.1 355 7) (m.1 355 34) (c.1 37) (c.1 38) (c.1 39) (c.1 40) (c.1 41) (m.1 357) (m.1 358) ∧
  DB rc (c.1 0 6) (m.1 355 30) (c.1 44) (c.1 45) (c.1 46) (m.1 367) ∧
  NB st nc nt (c.1 341 0) (m.1 355 45) (c.1 342) (c.1 343) (c.1 344) (m.1 371) (m.1 372) (m.1 373) ∧
  (c.1 0 15 = nI cl ∧ m.1 355 35 = nI cl ∧ cl ≤ 99)
def Rel (k : Nat) (c m : MM) : Prop := ∃ (nc nt : Nat) (lg lgI : Nat → Nat → Nat) (a nx tl lc rc st cl : Nat), RB (10 * k) nc nt lg lgI a nx tl lc rc st cl c m
theorem HB_c {a nx nc nt : Nat} {lg : Nat → Nat → Nat} {cs cn ma : Int32} {c c' : Nat → Nat → Int32} {U g : Nat → Int32} (h : HB a nx nc nt lg cs cn ma c U g) (he : ∀ i, 53 ≤ i → i < 333 → c' i = c i) : HB a nx nc nt lg cs cn ma c' U g := by
  obtain ⟨h1, h2, h3, h4, h5, h6⟩ := h
  refine ⟨h1, h2, h3, h4, h5, fun j hj => ?_⟩
  have hp : (nx + 40 - a + j) % 40 < 40 := Nat.mod_lt _ (by omega)
  rw [he _ (by omega) (by omega), he (_ + 2) (by omega) (by omega), he (_ + 3) (by omega) (by omega), he (_ + 4) (by omega) (by omega), he (_ + 5) (by omega) (by omega), he (_ + 6) (by omega) (by omega)]
  exact h6 j hj
theorem IB_k {nc nt : Nat} {lg : Nat → Nat → Nat} {k k' : Nat} {ci mi : Int32} {ob sz so ab ik un r g : Nat → Int32} (h : IB nc nt lg k ci mi ob sz so ab ik un r g) (hk : k ≤ k') : IB nc nt lg k' ci mi ob sz so ab ik un r g := by
  rcases h with h | ⟨h1, h2, h3, h4, h5, h6, h7, h8⟩
  · exact Or.inl h
  · exact Or.inr ⟨h1, h2, h3, h4, h5, h6, h7, by omega⟩
theorem Rel_k {k k' : Nat} {c m : MM} (h : Rel k c m) (hk : k ≤ k') : Rel k' c m := by
  obtain ⟨nc, nt, lg, lgI, a, nx, tl, lc, rc, st, cl, h1, h2, h3, h4, h5, h6, h7, h8, h9, h10, h11, h12, h13⟩ := h
  exact ⟨nc, nt, lg, lgI, a, nx, tl, lc, rc, st, cl, h1, h2, h3, h4, h5, h6, h7, h8, h9, by omega, h11, IB_k h12 (by omega), h13⟩
theorem Rel_c {k : Nat} {c c' m : MM} (h : Rel k c m) (he : ∀ a, a < 355 → c'.1 a = c.1 a) : Rel k c' m := by
  obtain ⟨nc, nt, lg, lgI, a, nx, tl, lc, rc, st, cl, h1, h2, h3, h4, h5, h6, h7, h8, h9, h10, h11, h12, h13, h14, h15, h16, h17⟩ := h
  have h11' := HB_c h11 (c' := c'.1) (fun i _ hi => he i (by omega))
  refine ⟨nc, nt, lg, lgI, a, nx, tl, lc, rc, st, cl, ?_⟩
  unfold RB
  simp only [he 23 (by decide), he 24 (by decide), he 25 (by decide), he 26 (by decide), he 27 (by decide), he 29 (by decide), he 30 (by decide), he 31 (by decide), he 32 (by decide), he 33 (by decide), he 49 (by decide), he 51 (by decide), he 0 (by decide), he 347 (by decide), he 349 (by decide), he 350 (by decide), he 351 (by decide), he 352 (by decide), he 353 (by decide), he 354 (by decide), he 1 (by decide), he 2 (by decide), he 34 (by decide), he 37 (by decide), he 38 (by decide), he 39 (by decide), he 40 (by decide), he 41 (by decide), he 44 (by decide), he 45 (by decide), he 46 (by decide), he 341 (by decide), he 342 (by decide), he 343 (by decide), he 344 (by decide)]
  exact ⟨h1, h2, h3, h4, h5, h6, h7, h8, h9, h10, h11', h12, h13, h14, h15, h16, h17⟩
theorem Rel_m {k : Nat} {c m m' : MM} (h : Rel k c m) (he : ∀ a, 355 ≤ a → m'.1 a = m.1 a) : Rel k c m' := by
  obtain ⟨nc, nt, lg, lgI, a, nx, tl, lc, rc, st, cl, h⟩ := h
  refine ⟨nc, nt, lg, lgI, a, nx, tl, lc, rc, st, cl, ?_⟩
  unfold RB at h ⊢
  simp only [he 355 (by decide), he 356 (by decide), he 357 (by decide), he 358 (by decide), he 362 (by decide), he 365 (by decide), he 367 (by decide), he 368 (by decide), he 370 (by decide), he 371 (by decide), he 372 (by decide), he 373 (by decide), he 375 (by decide)]
  exact h
/-- the same but below 355; the same but from 355 on -/
def S_c (μ m : MM) : Prop := ∀ a, 355 ≤ a → m.1 a = μ.1 a
def S_m (μ m : MM) : Prop := ∀ a, a < 355 → m.1 a = μ.1 a
theorem S_cI {μ m : MM} {a k : Nat} {v : Int32} (ha : a < 355) (h : S_c μ m) : S_c μ (mm_I m a k v) := fun b hb => by
  show up_2 m.1 a k v b = μ.1 b
  rw [up_2_ne (by omega)]; exact h b hb
theorem S_cJ {μ m : MM} {a k : Nat} {v : Int64} (ha : a < 355) (h : S_c μ m) : S_c μ (mm_J m a k v) := h
theorem S_cF {μ m : MM} {a : Nat} {g : Nat → Int32} (ha : a < 355) (h : S_c μ m) : S_c μ (mm_F m a g) := fun b hb => by
  funext j
  show (if b = a then g j else m.1 b j) = μ.1 b j
  rw [if_neg (by omega), h b hb]
theorem S_mI {μ m : MM} {a k : Nat} {v : Int32} (ha : 355 ≤ a) (h : S_m μ m) : S_m μ (mm_I m a k v) := fun b hb => by
  show up_2 m.1 a k v b = μ.1 b
  rw [up_2_ne (by omega)]; exact h b hb
theorem S_mJ {μ m : MM} {a k : Nat} {v : Int64} (ha : 355 ≤ a) (h : S_m μ m) : S_m μ (mm_J m a k v) := h
theorem S_mF {μ m : MM} {a : Nat} {g : Nat → Int32} (ha : 355 ≤ a) (h : S_m μ m) : S_m μ (mm_F m a g) := fun b hb => by
  funext j
  show (if b = a then g j else m.1 b j) = μ.1 b j
  rw [if_neg (by omega), h b hb]
/-- a call on both sides -/
def Sp (k : Nat) (fR fM : MM → Option (Int32 × MM)) : Prop := ∀ c m, Rel k c m → ∃ r c' m', fR c = some (r, c') ∧ fM m = some (r, m') ∧ Rel (k + 6) c' m'
theorem asm {k : Nat} {fR fM : MM → Option (Int32 × MM)} (h : Sp k fR fM) (hR : ∀ μ, fm_O (S_c μ) (fR μ)) (hM : ∀ μ, fm_O (S_m μ) (fM μ)) {μ : MM} (hI : Rel k μ μ) : ∃ (r : Int32) (μ1 μ2 : MM), fR μ = some (r, μ1) ∧ fM μ1 = some (r, μ2) ∧ Rel (k + 6) μ2 μ2 := by
  obtain ⟨r, μ1, m1, e1, -, -⟩ := h μ μ hI
  have hs := hR μ r μ1 e1
  obtain ⟨r2, μ2, m2, e3, e4, h5⟩ := h μ μ1 (Rel_m hI hs)
  rw [e1] at e3
  cases e3
  exact ⟨r, μ1, m2, e1, e4, Rel_c h5 (hM μ1 r m2 e4)⟩
