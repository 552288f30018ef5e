/-! ===== what a function can change ===== -/
def fm_O {α : Type} (P : MM → Prop) (x : Option (α × MM)) : Prop := ∀ r m, x = some (r, m) → P m
def fm_V (P : MM → Prop) (x : Option MM) : Prop := ∀ m, x = some m → P m
theorem fm_none {α : Type} {P : MM → Prop} : fm_O P (none : Option (α × MM)) := fun _ _ h => by cases h
theorem fm_noneV {P : MM → Prop} : fm_V P none := fun _ h => by cases h
theorem fm_some {α : Type} {P : MM → Prop} {r : α} {m : MM} (h : P m) : fm_O P (some (r, m)) := fun _ _ e => by cases e; exact h
theorem fm_someV {P : MM → Prop} {m : MM} (h : P m) : fm_V P (some m) := fun _ e => by cases e; exact h
theorem fm_gd {α : Type} {P : MM → Prop} {b : Bool} {x : Option (α × MM)} (h : b = true → fm_O P x) : fm_O P (gd b x) := fun r m e => (gd_some e).elim (fun h1 h2 => h h1 r m h2)
theorem fm_gdV {P : MM → Prop} {b : Bool} {x : Option MM} (h : b = true → fm_V P x) : fm_V P (gd b x) := fun m e => (gd_some e).elim (fun h1 h2 => h h1 m h2)
theorem fm_ite {α : Type} {P : MM → Prop} {c : Prop} [Decidable c] {x y : Option (α × MM)} (h1 : fm_O P x) (h2 : fm_O P y) : fm_O P (if c then x else y) := by split <;> assumption
theorem fm_iteV {P : MM → Prop} {c : Prop} [Decidable c] {x y : Option MM} (h1 : fm_V P x) (h2 : fm_V P y) : fm_V P (if c then x else y) := by split <;> assumption
theorem fm_wr {α : Type} {P : MM → Prop} {m : MM} {k : MM → Option (α × MM)} (h : P m) (hk : ∀ m, P m → fm_O P (k m)) : fm_O P (wr m k) := hk m h
theorem fm_wrV {P : MM → Prop} {m : MM} {k : MM → Option MM} (h : P m) (hk : ∀ m, P m → fm_V P (k m)) : fm_V P (wr m k) := hk m h
theorem fm_ob {α β : Type} {P : MM → Prop} {x : Option (α × MM)} {k : α → MM → Option (β × MM)} (h : fm_O P x) (hk : ∀ r m, P m → fm_O P (k r m)) : fm_O P (ob x k) := fun r m e => (ob_some e).elim (fun a h1 => h1.elim (fun m1 h2 => hk a m1 (h a m1 h2.1) r m h2.2))
theorem fm_obV {α : Type} {P : MM → Prop} {x : Option (α × MM)} {k : α → MM → Option MM} (h : fm_O P x) (hk : ∀ r m, P m → fm_V P (k r m)) : fm_V P (ob x k) := fun m e => (ob_some e).elim (fun a h1 => h1.elim (fun m1 h2 => hk a m1 (h a m1 h2.1) m h2.2))
theorem fm_obv {β : Type} {P : MM → Prop} {x : Option MM} {k : MM → Option (β × MM)} (h : fm_V P x) (hk : ∀ m, P m → fm_O P (k m)) : fm_O P (obv x k) := fun r m e => (obv_some e).elim (fun m1 h2 => hk m1 (h m1 h2.1) r m h2.2)
theorem fm_obvV {P : MM → Prop} {x : Option MM} {k : MM → Option MM} (h : fm_V P x) (hk : ∀ m, P m → fm_V P (k m)) : fm_V P (obv x k) := fun m e => (obv_some e).elim (fun m1 h2 => hk m1 (h m1 h2.1) m h2.2)
set_option maxHeartbeats 1000000 in
theorem fr_Wo_leftIn_L19 {W : Nat → Prop} {P : MM → Prop} (hI : ∀ {μ : MM} {a k : Nat} {v : Int32}, W a → P μ → P (mm_I μ a k v)) (hJ : ∀ {μ : MM} {a k : Nat} {v : Int64}, W a → P μ → P (mm_J μ a k v)) (hF : ∀ {μ : MM} {a : Nat} {g : Nat → Int32}, W a → P μ → P (mm_F μ a g)) (hw : ∀ a, a < 355 → W a) {N : Nat} {w : Nat} : ∀ (n : Nat) (x1 : Int32) (x2 : Int32) (x3 : Int32) (μ : MM), P μ → fm_O P (f_Wo_leftIn_L19 N w n x1 x2 x3 μ) := by
  intro n
  induction n with
  | zero => intros; exact fm_none
  | succ n ih =>
    intro x1 x2 x3 μ h0
    rw [f_Wo_leftIn_L19]
    exact fm_gd (fun g1 => fm_ite (fm_some h0) (fm_gd (fun g2 => ih _ _ _ _ h0)))
set_option maxHeartbeats 1000000 in
theorem fr_Wo_leftIn {W : Nat → Prop} {P : MM → Prop} (hI : ∀ {μ : MM} {a k : Nat} {v : Int32}, W a → P μ → P (mm_I μ a k v)) (hJ : ∀ {μ : MM} {a k : Nat} {v : Int64}, W a → P μ → P (mm_J μ a k v)) (hF : ∀ {μ : MM} {a : Nat} {g : Nat → Int32}, W a → P μ → P (mm_F μ a g)) (hw : ∀ a, a < 355 → W a) {N : Nat} {w : Nat} {x1 : Int32} {μ : MM} (h0 : P μ) : fm_O P (f_Wo_leftIn N w x1 μ) := by
  unfold f_Wo_leftIn
  exact fm_ite (fm_some h0) (fm_ite (fr_Wo_leftIn_L19 hI hJ hF hw _ _ _ _ _ h0) (fm_some h0))
set_option maxHeartbeats 1000000 in
theorem fr_Co_goneWords_L4 {W : Nat → Prop} {P : MM → Prop} (hI : ∀ {μ : MM} {a k : Nat} {v : Int32}, W a → P μ → P (mm_I μ a k v)) (hJ : ∀ {μ : MM} {a k : Nat} {v : Int64}, W a → P μ → P (mm_J μ a k v)) (hF : ∀ {μ : MM} {a : Nat} {g : Nat → Int32}, W a → P μ → P (mm_F μ a g)) (hw : ∀ a, a < 355 → W a) {N : Nat} {c : Nat} : ∀ (n : Nat) (x1 : Int32) (x2 : Int32) (μ : MM), P μ → fm_O P (f_Co_goneWords_L4 N c n x1 x2 μ) := by
  intro n
  induction n with
  | zero => intros; exact fm_none
  | succ n ih =>
    intro x1 x2 μ h0
    rw [f_Co_goneWords_L4]
    exact fm_ite (fm_some h0) (fm_gd (fun g1 => fm_ob (fr_Wo_leftIn hI hJ hF hw h0) (fun t33 μ1z hm1z => ih _ _ _ hm1z)))
set_option maxHeartbeats 1000000 in
theorem fr_Co_goneWords {W : Nat → Prop} {P : MM → Prop} (hI : ∀ {μ : MM} {a k : Nat} {v : Int32}, W a → P μ → P (mm_I μ a k v)) (hJ : ∀ {μ : MM} {a k : Nat} {v : Int64}, W a → P μ → P (mm_J μ a k v)) (hF : ∀ {μ : MM} {a : Nat} {g : Nat → Int32}, W a → P μ → P (mm_F μ a g)) (hw : ∀ a, a < 355 → W a) {N : Nat} {c : Nat} {μ : MM} (h0 : P μ) : fm_O P (f_Co_goneWords N c μ) := by
  unfold f_Co_goneWords
  exact fr_Co_goneWords_L4 hI hJ hF hw _ _ _ _ h0
set_option maxHeartbeats 1000000 in
theorem fr_La_clauseEnd_L2 {W : Nat → Prop} {P : MM → Prop} (hI : ∀ {μ : MM} {a k : Nat} {v : Int32}, W a → P μ → P (mm_I μ a k v)) (hJ : ∀ {μ : MM} {a k : Nat} {v : Int64}, W a → P μ → P (mm_J μ a k v)) (hF : ∀ {μ : MM} {a : Nat} {g : Nat → Int32}, W a → P μ → P (mm_F μ a g)) (hw : ∀ a, a < 355 → W a) {N : Nat} : ∀ (n : Nat) (x2 : Int32) (μ : MM), P μ → fm_O P (f_La_clauseEnd_L2 N n x2 μ) := by
  intro n
  induction n with
  | zero => intros; exact fm_none
  | succ n ih =>
    intro x2 μ h0
    rw [f_La_clauseEnd_L2]
    exact fm_gd (fun g1 => fm_ite (fm_some h0) (fm_gd (fun g2 => fm_gd (fun g3 => fm_ite (fm_some h0) (ih _ _ h0)))))
set_option maxHeartbeats 1000000 in
theorem fr_La_clauseEnd {W : Nat → Prop} {P : MM → Prop} (hI : ∀ {μ : MM} {a k : Nat} {v : Int32}, W a → P μ → P (mm_I μ a k v)) (hJ : ∀ {μ : MM} {a k : Nat} {v : Int64}, W a → P μ → P (mm_J μ a k v)) (hF : ∀ {μ : MM} {a : Nat} {g : Nat → Int32}, W a → P μ → P (mm_F μ a g)) (hw : ∀ a, a < 355 → W a) {N : Nat} {x1 : Int32} {μ : MM} (h0 : P μ) : fm_O P (f_La_clauseEnd N x1 μ) := by
  unfold f_La_clauseEnd
  exact fr_La_clauseEnd_L2 hI hJ hF hw _ _ _ h0
set_option maxHeartbeats 1000000 in
theorem fr_La_within {W : Nat → Prop} {P : MM → Prop} (hI : ∀ {μ : MM} {a k : Nat} {v : Int32}, W a → P μ → P (mm_I μ a k v)) (hJ : ∀ {μ : MM} {a k : Nat} {v : Int64}, W a → P μ → P (mm_J μ a k v)) (hF : ∀ {μ : MM} {a : Nat} {g : Nat → Int32}, W a → P μ → P (mm_F μ a g)) (hw : ∀ a, a < 355 → W a) {N : Nat} {y1 : Int64} {μ : MM} (h0 : P μ) : fm_O P (f_La_within N y1 μ) := by
  unfold f_La_within
  exact fm_some h0
set_option maxHeartbeats 1000000 in
theorem fr_La_join {W : Nat → Prop} {P : MM → Prop} (hI : ∀ {μ : MM} {a k : Nat} {v : Int32}, W a → P μ → P (mm_I μ a k v)) (hJ : ∀ {μ : MM} {a k : Nat} {v : Int64}, W a → P μ → P (mm_J μ a k v)) (hF : ∀ {μ : MM} {a : Nat} {g : Nat → Int32}, W a → P μ → P (mm_F μ a g)) (hw : ∀ a, a < 355 → W a) {N : Nat} {x1 : Int32} {x2 : Int32} {x3 : Int32} {μ : MM} (h0 : P μ) : fm_O P (f_La_join N x1 x2 x3 μ) := by
  unfold f_La_join
  exact fm_ite (fm_some h0) (fm_ite (fm_some h0) (fm_ite (fm_some h0) (fm_ite (fm_some h0) (fm_ite (fm_ite (fm_some h0) (fm_gd (fun g1 => fm_ob (fr_La_within hI hJ hF hw h0) (fun t89 μ1z hm1z => fm_some hm1z)))) (fm_ite (fm_ob (fr_La_within hI hJ hF hw h0) (fun t72 μ2z hm2z => fm_some hm2z)) (fm_ite (fm_ob (fr_La_within hI hJ hF hw h0) (fun t62 μ3z hm3z => fm_some hm3z)) (fm_ite (fm_ob (fr_La_within hI hJ hF hw h0) (fun t53 μ4z hm4z => fm_some hm4z)) (fm_some h0))))))))
set_option maxHeartbeats 1000000 in
theorem fr_La_worth_B135 {W : Nat → Prop} {P : MM → Prop} (hI : ∀ {μ : MM} {a k : Nat} {v : Int32}, W a → P μ → P (mm_I μ a k v)) (hJ : ∀ {μ : MM} {a k : Nat} {v : Int64}, W a → P μ → P (mm_J μ a k v)) (hF : ∀ {μ : MM} {a : Nat} {g : Nat → Int32}, W a → P μ → P (mm_F μ a g)) (hw : ∀ a, a < 355 → W a) {N : Nat} {k34 : Nat → Int32 → Int32 → MM → Option (Int32 × MM)} {r1 : Nat} {x2 : Int32} {x3 : Int32} {s1 : Int32} {s2 : Int32} {μ : MM} (hk34 : ∀ (z0 : Nat) (z1 : Int32) (z2 : Int32) (z3 : MM), P z3 → fm_O P (k34 z0 z1 z2 z3)) (h0 : P μ) : fm_O P (f_La_worth_B135 N k34 r1 x2 x3 s1 s2 μ) := by
  unfold f_La_worth_B135
  exact fm_gd (fun g1 => fm_wr (hI (hw _ (by first | omega | (simp only [inb, Bool.and_eq_true, decide_eq_true_eq] at *; omega))) h0) (fun μ4z hm4z => hk34 _ _ _ _ hm4z))
set_option maxHeartbeats 1000000 in
theorem fr_La_worth_L34 {W : Nat → Prop} {P : MM → Prop} (hI : ∀ {μ : MM} {a k : Nat} {v : Int32}, W a → P μ → P (mm_I μ a k v)) (hJ : ∀ {μ : MM} {a k : Nat} {v : Int64}, W a → P μ → P (mm_J μ a k v)) (hF : ∀ {μ : MM} {a : Nat} {g : Nat → Int32}, W a → P μ → P (mm_F μ a g)) (hw : ∀ a, a < 355 → W a) {N : Nat} : ∀ (n : Nat) (r1 : Nat) (x2 : Int32) (x3 : Int32) (μ : MM), P μ → fm_O P (f_La_worth_L34 N n r1 x2 x3 μ) := by
  intro n
  induction n with
  | zero => intros; exact fm_none
  | succ n ih =>
    intro r1 x2 x3 μ h0
    rw [f_La_worth_L34]
    exact fm_gd (fun g1 => fm_ite (fm_some h0) (fm_gd (fun g2 => fm_ite (fm_some h0) (fm_ite (fm_ite (fm_ob (fr_La_clauseEnd hI hJ hF hw h0) (fun t86 μ5z hm5z => ih _ _ _ _ hm5z)) (ih _ _ _ _ h0)) (fm_ite (fm_ite (fm_ite (fm_gd (fun g3 => fm_gd (fun g4 => fm_wr (hI (hw _ (by first | omega | (simp only [inb, Bool.and_eq_true, decide_eq_true_eq] at *; omega))) h0) (fun μ3z hm3z => ih _ _ _ _ hm3z)))) (fm_some h0)) (fm_ite (fm_gd (fun g5 => fm_gd (fun g6 => fm_ob (fr_La_join hI hJ hF hw h0) (fun t211 μ1z hm1z => fm_gd (fun g7 => fm_wr (hI (hw _ (by first | omega | (simp only [inb, Bool.and_eq_true, decide_eq_true_eq] at *; omega))) hm1z) (fun μ2z hm2z => ih _ _ _ _ hm2z)))))) (fm_some h0))) (fm_ite (fm_ite (fm_gd (fun g8 => fr_La_worth_B135 hI hJ hF hw (ih) h0)) (fr_La_worth_B135 hI hJ hF hw (ih) h0)) (fm_some h0)))))))
set_option maxHeartbeats 1000000 in
theorem fr_La_worth {W : Nat → Prop} {P : MM → Prop} (hI : ∀ {μ : MM} {a k : Nat} {v : Int32}, W a → P μ → P (mm_I μ a k v)) (hJ : ∀ {μ : MM} {a k : Nat} {v : Int64}, W a → P μ → P (mm_J μ a k v)) (hF : ∀ {μ : MM} {a : Nat} {g : Nat → Int32}, W a → P μ → P (mm_F μ a g)) (hw : ∀ a, a < 355 → W a) {N : Nat} {μ : MM} (h0 : P μ) : fm_O P (f_La_worth N μ) := by
  unfold f_La_worth
  exact fm_ite (fm_some h0) (fm_ite (fm_gd (fun g1 => fr_La_worth_L34 hI hJ hF hw _ _ _ _ _ h0)) (fm_some h0))
set_option maxHeartbeats 1000000 in
theorem fr_Ag_inkAfter_B151 {W : Nat → Prop} {P : MM → Prop} (hI : ∀ {μ : MM} {a k : Nat} {v : Int32}, W a → P μ → P (mm_I μ a k v)) (hJ : ∀ {μ : MM} {a k : Nat} {v : Int64}, W a → P μ → P (mm_J μ a k v)) (hF : ∀ {μ : MM} {a : Nat} {g : Nat → Int32}, W a → P μ → P (mm_F μ a g)) (hw : ∀ a, a < 355 → W a) {N : Nat} {x3 : Int32} {x5 : Int32} {μ : MM} (h0 : P μ) : fm_O P (f_Ag_inkAfter_B151 N x3 x5 μ) := by
  unfold f_Ag_inkAfter_B151
  exact fm_some h0
set_option maxHeartbeats 1000000 in
theorem fr_Ag_inkAfter_B32 {W : Nat → Prop} {P : MM → Prop} (hI : ∀ {μ : MM} {a k : Nat} {v : Int32}, W a → P μ → P (mm_I μ a k v)) (hJ : ∀ {μ : MM} {a k : Nat} {v : Int64}, W a → P μ → P (mm_J μ a k v)) (hF : ∀ {μ : MM} {a : Nat} {g : Nat → Int32}, W a → P μ → P (mm_F μ a g)) (hw : ∀ a, a < 355 → W a) {N : Nat} {x1 : Int32} {x2 : Int32} {x3 : Int32} {x4 : Int32} {s0 : Int32} {μ : MM} (h0 : P μ) : fm_O P (f_Ag_inkAfter_B32 N x1 x2 x3 x4 s0 μ) := by
  unfold f_Ag_inkAfter_B32
  exact fm_ite (fr_Ag_inkAfter_B151 hI hJ hF hw h0) (fm_wr (hI (hw _ (by first | omega | (simp only [inb, Bool.and_eq_true, decide_eq_true_eq] at *; omega))) h0) (fun μ1z hm1z => fm_gd (fun g1 => fm_wr (hI (hw _ (by first | omega | (simp only [inb, Bool.and_eq_true, decide_eq_true_eq] at *; omega))) hm1z) (fun μ2z hm2z => fm_wr (hI (hw _ (by first | omega | (simp only [inb, Bool.and_eq_true, decide_eq_true_eq] at *; omega))) hm2z) (fun μ3z hm3z => fm_wr (hI (hw _ (by first | omega | (simp only [inb, Bool.and_eq_true, decide_eq_true_eq] at *; omega))) hm3z) (fun μ4z hm4z => fm_gd (fun g2 => fm_wr (hI (hw _ (by first | omega | (simp only [inb, Bool.and_eq_true, decide_eq_true_eq] at *; omega))) hm4z) (fun μ5z hm5z => fm_wr (hI (hw _ (by first | omega | (simp only [inb, Bool.and_eq_true, decide_eq_true_eq] at *; omega))) hm5z) (fun μ6z hm6z => fm_ob (fr_La_worth hI hJ hF hw hm6z) (fun t146 μ7z hm7z => fr_Ag_inkAfter_B151 hI hJ hF hw hm7z))))))))))
set_option maxHeartbeats 1000000 in
theorem fr_Ag_inkAfter {W : Nat → Prop} {P : MM → Prop} (hI : ∀ {μ : MM} {a k : Nat} {v : Int32}, W a → P μ → P (mm_I μ a k v)) (hJ : ∀ {μ : MM} {a k : Nat} {v : Int64}, W a → P μ → P (mm_J μ a k v)) (hF : ∀ {μ : MM} {a : Nat} {g : Nat → Int32}, W a → P μ → P (mm_F μ a g)) (hw : ∀ a, a < 355 → W a) {N : Nat} {x1 : Int32} {x2 : Int32} {x3 : Int32} {x4 : Int32} {μ : MM} (h0 : P μ) : fm_O P (f_Ag_inkAfter N x1 x2 x3 x4 μ) := by
  unfold f_Ag_inkAfter
  exact fm_ite (fm_ite (fr_Ag_inkAfter_B32 hI hJ hF hw h0) (fm_gd (fun g1 => fr_Ag_inkAfter_B32 hI hJ hF hw h0))) (fm_some h0)
set_option maxHeartbeats 1000000 in
theorem fr_Ag_fadeCard_L13 {W : Nat → Prop} {P : MM → Prop} (hI : ∀ {μ : MM} {a k : Nat} {v : Int32}, W a → P μ → P (mm_I μ a k v)) (hJ : ∀ {μ : MM} {a k : Nat} {v : Int64}, W a → P μ → P (mm_J μ a k v)) (hF : ∀ {μ : MM} {a : Nat} {g : Nat → Int32}, W a → P μ → P (mm_F μ a g)) (hw : ∀ a, a < 355 → W a) {N : Nat} : ∀ (n : Nat) (x1 : Int32) (x3 : Int32) (μ : MM), P μ → fm_V P (f_Ag_fadeCard_L13 N n x1 x3 μ) := by
  intro n
  induction n with
  | zero => intros; exact fm_noneV
  | succ n ih =>
    intro x1 x3 μ h0
    rw [f_Ag_fadeCard_L13]
    exact fm_gdV (fun g1 => fm_iteV (fm_someV h0) (fm_gdV (fun g2 => fm_obV (fr_Ag_inkAfter hI hJ hF hw h0) (fun t57 μ1z hm1z => fm_gdV (fun g3 => fm_wrV (hI (hw _ (by first | omega | (simp only [inb, Bool.and_eq_true, decide_eq_true_eq] at *; omega))) hm1z) (fun μ2z hm2z => ih _ _ _ hm2z))))))
set_option maxHeartbeats 1000000 in
theorem fr_Ag_fadeCard {W : Nat → Prop} {P : MM → Prop} (hI : ∀ {μ : MM} {a k : Nat} {v : Int32}, W a → P μ → P (mm_I μ a k v)) (hJ : ∀ {μ : MM} {a k : Nat} {v : Int64}, W a → P μ → P (mm_J μ a k v)) (hF : ∀ {μ : MM} {a : Nat} {g : Nat → Int32}, W a → P μ → P (mm_F μ a g)) (hw : ∀ a, a < 355 → W a) {N : Nat} {x1 : Int32} {μ : MM} (h0 : P μ) : fm_V P (f_Ag_fadeCard N x1 μ) := by
  unfold f_Ag_fadeCard
  exact fr_Ag_fadeCard_L13 hI hJ hF hw _ _ _ _ h0
set_option maxHeartbeats 1000000 in
theorem fr_Co_isCard {W : Nat → Prop} {P : MM → Prop} (hI : ∀ {μ : MM} {a k : Nat} {v : Int32}, W a → P μ → P (mm_I μ a k v)) (hJ : ∀ {μ : MM} {a k : Nat} {v : Int64}, W a → P μ → P (mm_J μ a k v)) (hF : ∀ {μ : MM} {a : Nat} {g : Nat → Int32}, W a → P μ → P (mm_F μ a g)) (hw : ∀ a, a < 355 → W a) {N : Nat} {c : Nat} {x1 : Int32} {μ : MM} (h0 : P μ) : fm_O P (f_Co_isCard N c x1 μ) := by
  unfold f_Co_isCard
  exact fm_ite (fm_some h0) (fm_ite (fm_some h0) (fm_ite (fm_some h0) (fm_some h0)))
set_option maxHeartbeats 1000000 in
theorem fr_Co_isThing {W : Nat → Prop} {P : MM → Prop} (hI : ∀ {μ : MM} {a k : Nat} {v : Int32}, W a → P μ → P (mm_I μ a k v)) (hJ : ∀ {μ : MM} {a k : Nat} {v : Int64}, W a → P μ → P (mm_J μ a k v)) (hF : ∀ {μ : MM} {a : Nat} {g : Nat → Int32}, W a → P μ → P (mm_F μ a g)) (hw : ∀ a, a < 355 → W a) {N : Nat} {c : Nat} {x1 : Int32} {μ : MM} (h0 : P μ) : fm_O P (f_Co_isThing N c x1 μ) := by
  unfold f_Co_isThing
  exact fm_ite (fm_some h0) (fm_ite (fm_some h0) (fm_ite (fm_some h0) (fm_some h0)))
set_option maxHeartbeats 1000000 in
theorem fr_Co_marksUnder {W : Nat → Prop} {P : MM → Prop} (hI : ∀ {μ : MM} {a k : Nat} {v : Int32}, W a → P μ → P (mm_I μ a k v)) (hJ : ∀ {μ : MM} {a k : Nat} {v : Int64}, W a → P μ → P (mm_J μ a k v)) (hF : ∀ {μ : MM} {a : Nat} {g : Nat → Int32}, W a → P μ → P (mm_F μ a g)) (hw : ∀ a, a < 355 → W a) {N : Nat} {c : Nat} {x1 : Int32} {μ : MM} (h0 : P μ) : fm_O P (f_Co_marksUnder N c x1 μ) := by
  unfold f_Co_marksUnder
  exact fm_ite (fm_some h0) (fm_ite (fm_gd (fun g1 => fm_ite (fm_some h0) (fm_ite (fm_gd (fun g2 => fm_some h0)) (fm_some h0)))) (fm_some h0))
set_option maxHeartbeats 1000000 in
theorem fr_Co_isTrue {W : Nat → Prop} {P : MM → Prop} (hI : ∀ {μ : MM} {a k : Nat} {v : Int32}, W a → P μ → P (mm_I μ a k v)) (hJ : ∀ {μ : MM} {a k : Nat} {v : Int64}, W a → P μ → P (mm_J μ a k v)) (hF : ∀ {μ : MM} {a : Nat} {g : Nat → Int32}, W a → P μ → P (mm_F μ a g)) (hw : ∀ a, a < 355 → W a) {N : Nat} {c : Nat} {x1 : Int32} {x2 : Int32} {x3 : Int32} {μ : MM} (h0 : P μ) : fm_O P (f_Co_isTrue N c x1 x2 x3 μ) := by
  unfold f_Co_isTrue
  exact fm_gd (fun g1 => fm_gd (fun g2 => fm_ite (fm_gd (fun g3 => fm_some h0)) (fm_ite (fm_gd (fun g4 => fm_some h0)) (fm_ite (fm_gd (fun g5 => fm_some h0)) (fm_ob (fr_Co_marksUnder hI hJ hF hw h0) (fun t104 μ1z hm1z => fm_gd (fun g6 => fm_some hm1z)))))))
set_option maxHeartbeats 1000000 in
theorem fr_Co_isFit_L28 {W : Nat → Prop} {P : MM → Prop} (hI : ∀ {μ : MM} {a k : Nat} {v : Int32}, W a → P μ → P (mm_I μ a k v)) (hJ : ∀ {μ : MM} {a k : Nat} {v : Int64}, W a → P μ → P (mm_J μ a k v)) (hF : ∀ {μ : MM} {a : Nat} {g : Nat → Int32}, W a → P μ → P (mm_F μ a g)) (hw : ∀ a, a < 355 → W a) {N : Nat} {c : Nat} : ∀ (n : Nat) (x1 : Int32) (x3 : Int32) (x4 : Int32) (μ : MM), P μ → fm_O P (f_Co_isFit_L28 N c n x1 x3 x4 μ) := by
  intro n
  induction n with
  | zero => intros; exact fm_none
  | succ n ih =>
    intro x1 x3 x4 μ h0
    rw [f_Co_isFit_L28]
    exact fm_gd (fun g1 => fm_ite (fm_some h0) (fm_gd (fun g2 => fm_ite (ih _ _ _ _ h0) (fm_ob (fr_Co_isTrue hI hJ hF hw h0) (fun t75 μ3z hm3z => fm_ite (fm_some hm3z) (ih _ _ _ _ hm3z))))))
set_option maxHeartbeats 1000000 in
theorem fr_Co_isFit {W : Nat → Prop} {P : MM → Prop} (hI : ∀ {μ : MM} {a k : Nat} {v : Int32}, W a → P μ → P (mm_I μ a k v)) (hJ : ∀ {μ : MM} {a k : Nat} {v : Int64}, W a → P μ → P (mm_J μ a k v)) (hF : ∀ {μ : MM} {a : Nat} {g : Nat → Int32}, W a → P μ → P (mm_F μ a g)) (hw : ∀ a, a < 355 → W a) {N : Nat} {c : Nat} {x1 : Int32} {x2 : Int32} {μ : MM} (h0 : P μ) : fm_O P (f_Co_isFit N c x1 x2 μ) := by
  unfold f_Co_isFit
  exact fm_ob (fr_Co_isCard hI hJ hF hw h0) (fun t2 μ1z hm1z => fm_ite (fm_some hm1z) (fm_ob (fr_Co_isThing hI hJ hF hw hm1z) (fun t10 μ2z hm2z => fm_ite (fm_some hm2z) (fm_gd (fun g1 => fr_Co_isFit_L28 hI hJ hF hw _ _ _ _ _ hm2z)))))
set_option maxHeartbeats 1000000 in
theorem fr_Co_isRight {W : Nat → Prop} {P : MM → Prop} (hI : ∀ {μ : MM} {a k : Nat} {v : Int32}, W a → P μ → P (mm_I μ a k v)) (hJ : ∀ {μ : MM} {a k : Nat} {v : Int64}, W a → P μ → P (mm_J μ a k v)) (hF : ∀ {μ : MM} {a : Nat} {g : Nat → Int32}, W a → P μ → P (mm_F μ a g)) (hw : ∀ a, a < 355 → W a) {N : Nat} {c : Nat} {x1 : Int32} {μ : MM} (h0 : P μ) : fm_O P (f_Co_isRight N c x1 μ) := by
  unfold f_Co_isRight
  exact fm_ob (fr_Co_isCard hI hJ hF hw h0) (fun t2 μ1z hm1z => fm_ite (fm_some hm1z) (fm_gd (fun g1 => fm_ob (fr_Co_isFit hI hJ hF hw hm1z) (fun t19 μ2z hm2z => fm_ite (fm_some hm2z) (fm_some hm2z)))))
set_option maxHeartbeats 1000000 in
theorem fr_Co_cardOver_L2 {W : Nat → Prop} {P : MM → Prop} (hI : ∀ {μ : MM} {a k : Nat} {v : Int32}, W a → P μ → P (mm_I μ a k v)) (hJ : ∀ {μ : MM} {a k : Nat} {v : Int64}, W a → P μ → P (mm_J μ a k v)) (hF : ∀ {μ : MM} {a : Nat} {g : Nat → Int32}, W a → P μ → P (mm_F μ a g)) (hw : ∀ a, a < 355 → W a) {N : Nat} {c : Nat} : ∀ (n : Nat) (x1 : Int32) (x2 : Int32) (μ : MM), P μ → fm_O P (f_Co_cardOver_L2 N c n x1 x2 μ) := by
  intro n
  induction n with
  | zero => intros; exact fm_none
  | succ n ih =>
    intro x1 x2 μ h0
    rw [f_Co_cardOver_L2]
    exact fm_ite (fm_some h0) (fm_gd (fun g1 => fm_ite (fm_some h0) (ih _ _ _ h0)))
set_option maxHeartbeats 1000000 in
theorem fr_Co_cardOver {W : Nat → Prop} {P : MM → Prop} (hI : ∀ {μ : MM} {a k : Nat} {v : Int32}, W a → P μ → P (mm_I μ a k v)) (hJ : ∀ {μ : MM} {a k : Nat} {v : Int64}, W a → P μ → P (mm_J μ a k v)) (hF : ∀ {μ : MM} {a : Nat} {g : Nat → Int32}, W a → P μ → P (mm_F μ a g)) (hw : ∀ a, a < 355 → W a) {N : Nat} {c : Nat} {x1 : Int32} {μ : MM} (h0 : P μ) : fm_O P (f_Co_cardOver N c x1 μ) := by
  unfold f_Co_cardOver
  exact fr_Co_cardOver_L2 hI hJ hF hw _ _ _ _ h0
set_option maxHeartbeats 1000000 in
theorem fr_Co_cheapestFor_B48 {W : Nat → Prop} {P : MM → Prop} (hI : ∀ {μ : MM} {a k : Nat} {v : Int32}, W a → P μ → P (mm_I μ a k v)) (hJ : ∀ {μ : MM} {a k : Nat} {v : Int64}, W a → P μ → P (mm_J μ a k v)) (hF : ∀ {μ : MM} {a : Nat} {g : Nat → Int32}, W a → P μ → P (mm_F μ a g)) (hw : ∀ a, a < 355 → W a) {N : Nat} {c : Nat} {k4 : Int32 → Int32 → Int32 → MM → Option (Int32 × MM)} {x1 : Int32} {x2 : Int32} {x3 : Int32} {μ : MM} (hk4 : ∀ (z0 : Int32) (z1 : Int32) (z2 : Int32) (z3 : MM), P z3 → fm_O P (k4 z0 z1 z2 z3)) (h0 : P μ) : fm_O P (f_Co_cheapestFor_B48 N c k4 x1 x2 x3 μ) := by
  unfold f_Co_cheapestFor_B48
  exact fm_ob (fr_Co_cardOver hI hJ hF hw h0) (fun t50 μ1z hm1z => fm_ite (fm_ob (fr_Co_isFit hI hJ hF hw hm1z) (fun t60 μ2z hm2z => hk4 _ _ _ _ hm2z)) (hk4 _ _ _ _ hm1z))
set_option maxHeartbeats 1000000 in
theorem fr_Co_cheapestFor_L4 {W : Nat → Prop} {P : MM → Prop} (hI : ∀ {μ : MM} {a k : Nat} {v : Int32}, W a → P μ → P (mm_I μ a k v)) (hJ : ∀ {μ : MM} {a k : Nat} {v : Int64}, W a → P μ → P (mm_J μ a k v)) (hF : ∀ {μ : MM} {a : Nat} {g : Nat → Int32}, W a → P μ → P (mm_F μ a g)) (hw : ∀ a, a < 355 → W a) {N : Nat} {c : Nat} : ∀ (n : Nat) (x1 : Int32) (x2 : Int32) (x3 : Int32) (μ : MM), P μ → fm_O P (f_Co_cheapestFor_L4 N c n x1 x2 x3 μ) := by
  intro n
  induction n with
  | zero => intros; exact fm_none
  | succ n ih =>
    intro x1 x2 x3 μ h0
    rw [f_Co_cheapestFor_L4]
    exact fm_ite (fm_some h0) (fm_gd (fun g1 => fm_ite (ih _ _ _ _ h0) (fm_ite (fr_Co_cheapestFor_B48 hI hJ hF hw (ih) h0) (fm_gd (fun g2 => fm_gd (fun g3 => fm_ite (ih _ _ _ _ h0) (fr_Co_cheapestFor_B48 hI hJ hF hw (ih) h0)))))))
set_option maxHeartbeats 1000000 in
theorem fr_Co_cheapestFor {W : Nat → Prop} {P : MM → Prop} (hI : ∀ {μ : MM} {a k : Nat} {v : Int32}, W a → P μ → P (mm_I μ a k v)) (hJ : ∀ {μ : MM} {a k : Nat} {v : Int64}, W a → P μ → P (mm_J μ a k v)) (hF : ∀ {μ : MM} {a : Nat} {g : Nat → Int32}, W a → P μ → P (mm_F μ a g)) (hw : ∀ a, a < 355 → W a) {N : Nat} {c : Nat} {x1 : Int32} {μ : MM} (h0 : P μ) : fm_O P (f_Co_cheapestFor N c x1 μ) := by
  unfold f_Co_cheapestFor
  exact fr_Co_cheapestFor_L4 hI hJ hF hw _ _ _ _ _ h0
set_option maxHeartbeats 1000000 in
theorem fr_Ag_changeThings_L4 {W : Nat → Prop} {P : MM → Prop} (hI : ∀ {μ : MM} {a k : Nat} {v : Int32}, W a → P μ → P (mm_I μ a k v)) (hJ : ∀ {μ : MM} {a k : Nat} {v : Int64}, W a → P μ → P (mm_J μ a k v)) (hF : ∀ {μ : MM} {a : Nat} {g : Nat → Int32}, W a → P μ → P (mm_F μ a g)) (hw : ∀ a, a < 355 → W a) {N : Nat} : ∀ (n : Nat) (x1 : Int32) (x2 : Int32) (μ : MM), P μ → fm_O P (f_Ag_changeThings_L4 N n x1 x2 μ) := by
  intro n
  induction n with
  | zero => intros; exact fm_none
  | succ n ih =>
    intro x1 x2 μ h0
    rw [f_Ag_changeThings_L4]
    exact fm_ite (fm_some h0) (fm_ob (fr_Co_isRight hI hJ hF hw h0) (fun t20 μ1z hm1z => fm_ite (fm_ob (fr_Co_cheapestFor hI hJ hF hw hm1z) (fun t31 μ2z hm2z => fm_ite (ih _ _ _ hm2z) (fm_gd (fun g1 => fm_wr (hI (hw _ (by first | omega | (simp only [inb, Bool.and_eq_true, decide_eq_true_eq] at *; omega))) hm2z) (fun μ3z hm3z => fm_gd (fun g2 => fm_wr (hI (hw _ (by first | omega | (simp only [inb, Bool.and_eq_true, decide_eq_true_eq] at *; omega))) hm3z) (fun μ4z hm4z => ih _ _ _ hm4z))))))) (ih _ _ _ hm1z)))
set_option maxHeartbeats 1000000 in
theorem fr_Ag_changeThings {W : Nat → Prop} {P : MM → Prop} (hI : ∀ {μ : MM} {a k : Nat} {v : Int32}, W a → P μ → P (mm_I μ a k v)) (hJ : ∀ {μ : MM} {a k : Nat} {v : Int64}, W a → P μ → P (mm_J μ a k v)) (hF : ∀ {μ : MM} {a : Nat} {g : Nat → Int32}, W a → P μ → P (mm_F μ a g)) (hw : ∀ a, a < 355 → W a) {N : Nat} {μ : MM} (h0 : P μ) : fm_O P (f_Ag_changeThings N μ) := by
  unfold f_Ag_changeThings
  exact fr_Ag_changeThings_L4 hI hJ hF hw _ _ _ _ h0
set_option maxHeartbeats 1000000 in
theorem fr_Co_wrongCards_L4 {W : Nat → Prop} {P : MM → Prop} (hI : ∀ {μ : MM} {a k : Nat} {v : Int32}, W a → P μ → P (mm_I μ a k v)) (hJ : ∀ {μ : MM} {a k : Nat} {v : Int64}, W a → P μ → P (mm_J μ a k v)) (hF : ∀ {μ : MM} {a : Nat} {g : Nat → Int32}, W a → P μ → P (mm_F μ a g)) (hw : ∀ a, a < 355 → W a) {N : Nat} {c : Nat} : ∀ (n : Nat) (x1 : Int32) (x2 : Int32) (μ : MM), P μ → fm_O P (f_Co_wrongCards_L4 N c n x1 x2 μ) := by
  intro n
  induction n with
  | zero => intros; exact fm_none
  | succ n ih =>
    intro x1 x2 μ h0
    rw [f_Co_wrongCards_L4]
    exact fm_ite (fm_some h0) (fm_ob (fr_Co_isRight hI hJ hF hw h0) (fun t14 μ1z hm1z => ih _ _ _ hm1z))
set_option maxHeartbeats 1000000 in
theorem fr_Co_wrongCards {W : Nat → Prop} {P : MM → Prop} (hI : ∀ {μ : MM} {a k : Nat} {v : Int32}, W a → P μ → P (mm_I μ a k v)) (hJ : ∀ {μ : MM} {a k : Nat} {v : Int64}, W a → P μ → P (mm_J μ a k v)) (hF : ∀ {μ : MM} {a : Nat} {g : Nat → Int32}, W a → P μ → P (mm_F μ a g)) (hw : ∀ a, a < 355 → W a) {N : Nat} {c : Nat} {μ : MM} (h0 : P μ) : fm_O P (f_Co_wrongCards N c μ) := by
  unfold f_Co_wrongCards
  exact fr_Co_wrongCards_L4 hI hJ hF hw _ _ _ _ h0
set_option maxHeartbeats 1000000 in
theorem fr_Ag_passDay_L18 {W : Nat → Prop} {P : MM → Prop} (hI : ∀ {μ : MM} {a k : Nat} {v : Int32}, W a → P μ → P (mm_I μ a k v)) (hJ : ∀ {μ : MM} {a k : Nat} {v : Int64}, W a → P μ → P (mm_J μ a k v)) (hF : ∀ {μ : MM} {a : Nat} {g : Nat → Int32}, W a → P μ → P (mm_F μ a g)) (hw : ∀ a, a < 355 → W a) {N : Nat} : ∀ (n : Nat) (x2 : Int32) (x3 : Int32) (μ : MM), P μ → fm_V P (f_Ag_passDay_L18 N n x2 x3 μ) := by
  intro n
  induction n with
  | zero => intros; exact fm_noneV
  | succ n ih =>
    intro x2 x3 μ h0
    rw [f_Ag_passDay_L18]
    exact fm_iteV (fm_obV (fr_Co_goneWords hI hJ hF hw h0) (fun t44 μ2z hm2z => fm_wrV (hI (hw _ (by first | omega | (simp only [inb, Bool.and_eq_true, decide_eq_true_eq] at *; omega))) hm2z) (fun μ3z hm3z => fm_obV (fr_Ag_changeThings hI hJ hF hw hm3z) (fun t67 μ4z hm4z => fm_obV (fr_Co_wrongCards hI hJ hF hw hm4z) (fun t89 μ5z hm5z => fm_gdV (fun g1 => fm_wrV (hI (hw _ (by first | omega | (simp only [inb, Bool.and_eq_true, decide_eq_true_eq] at *; omega))) hm5z) (fun μ6z hm6z => fm_someV hm6z))))))) (fm_obvV (fr_Ag_fadeCard hI hJ hF hw h0) (fun μ7z hm7z => ih _ _ _ hm7z))
set_option maxHeartbeats 1000000 in
theorem fr_Ag_passDay {W : Nat → Prop} {P : MM → Prop} (hI : ∀ {μ : MM} {a k : Nat} {v : Int32}, W a → P μ → P (mm_I μ a k v)) (hJ : ∀ {μ : MM} {a k : Nat} {v : Int64}, W a → P μ → P (mm_J μ a k v)) (hF : ∀ {μ : MM} {a : Nat} {g : Nat → Int32}, W a → P μ → P (mm_F μ a g)) (hw : ∀ a, a < 355 → W a) {N : Nat} {μ : MM} (h0 : P μ) : fm_V P (f_Ag_passDay N μ) := by
  unfold f_Ag_passDay
  exact fm_obV (fr_Co_goneWords hI hJ hF hw h0) (fun t12 μ1z hm1z => fr_Ag_passDay_L18 hI hJ hF hw _ _ _ _ hm1z)
set_option maxHeartbeats 1000000 in
theorem fr_Ag_logLength {W : Nat → Prop} {P : MM → Prop} (hI : ∀ {μ : MM} {a k : Nat} {v : Int32}, W a → P μ → P (mm_I μ a k v)) (hJ : ∀ {μ : MM} {a k : Nat} {v : Int64}, W a → P μ → P (mm_J μ a k v)) (hF : ∀ {μ : MM} {a : Nat} {g : Nat → Int32}, W a → P μ → P (mm_F μ a g)) (hw : ∀ a, a < 355 → W a) {N : Nat} {μ : MM} (h0 : P μ) : fm_O P (f_Ag_logLength N μ) := by
  unfold f_Ag_logLength
  exact fm_some h0
set_option maxHeartbeats 1000000 in
theorem fr_Ag_logged {W : Nat → Prop} {P : MM → Prop} (hI : ∀ {μ : MM} {a k : Nat} {v : Int32}, W a → P μ → P (mm_I μ a k v)) (hJ : ∀ {μ : MM} {a k : Nat} {v : Int64}, W a → P μ → P (mm_J μ a k v)) (hF : ∀ {μ : MM} {a : Nat} {g : Nat → Int32}, W a → P μ → P (mm_F μ a g)) (hw : ∀ a, a < 355 → W a) {N : Nat} {x1 : Int32} {x2 : Int32} {μ : MM} (h0 : P μ) : fm_O P (f_Ag_logged N x1 x2 μ) := by
  unfold f_Ag_logged
  exact fm_ite (fm_some h0) (fm_ob (fr_Ag_logLength hI hJ hF hw h0) (fun t6 μ1z hm1z => fm_ite (fm_some hm1z) (fm_ite (fm_some hm1z) (fm_ite (fm_gd (fun g1 => fm_ite (fm_some hm1z) (fm_some hm1z))) (fm_some hm1z)))))
set_option maxHeartbeats 1000000 in
theorem fr_Ag_daysTillBlank_L71 {W : Nat → Prop} {P : MM → Prop} (hI : ∀ {μ : MM} {a k : Nat} {v : Int32}, W a → P μ → P (mm_I μ a k v)) (hJ : ∀ {μ : MM} {a k : Nat} {v : Int64}, W a → P μ → P (mm_J μ a k v)) (hF : ∀ {μ : MM} {a : Nat} {g : Nat → Int32}, W a → P μ → P (mm_F μ a g)) (hw : ∀ a, a < 355 → W a) {N : Nat} {k58 : Int32 → Int32 → Int32 → MM → Option (Int32 × MM)} (hk58 : ∀ (z0 : Int32) (z1 : Int32) (z2 : Int32) (z3 : MM), P z3 → fm_O P (k58 z0 z1 z2 z3)) : ∀ (n : Nat) (x1 : Int32) (x3 : Int32) (x4 : Int32) (x5 : Int32) (x6 : Int32) (μ : MM), P μ → fm_O P (f_Ag_daysTillBlank_L71 N k58 n x1 x3 x4 x5 x6 μ) := by
  intro n
  induction n with
  | zero => intros; exact fm_none
  | succ n ih =>
    intro x1 x3 x4 x5 x6 μ h0
    rw [f_Ag_daysTillBlank_L71]
    exact fm_ite (fm_ite (fm_some h0) (hk58 _ _ _ _ h0)) (fm_gd (fun g1 => fm_gd (fun g2 => fm_ob (fr_Ag_inkAfter hI hJ hF hw h0) (fun t113 μ1z hm1z => fm_gd (fun g3 => fm_wr (hI (hw _ (by first | omega | (simp only [inb, Bool.and_eq_true, decide_eq_true_eq] at *; omega))) hm1z) (fun μ2z hm2z => ih _ _ _ _ _ _ hm2z))))))
set_option maxHeartbeats 1000000 in
theorem fr_Ag_daysTillBlank_L58 {W : Nat → Prop} {P : MM → Prop} (hI : ∀ {μ : MM} {a k : Nat} {v : Int32}, W a → P μ → P (mm_I μ a k v)) (hJ : ∀ {μ : MM} {a k : Nat} {v : Int64}, W a → P μ → P (mm_J μ a k v)) (hF : ∀ {μ : MM} {a : Nat} {g : Nat → Int32}, W a → P μ → P (mm_F μ a g)) (hw : ∀ a, a < 355 → W a) {N : Nat} : ∀ (n : Nat) (x1 : Int32) (x3 : Int32) (x4 : Int32) (μ : MM), P μ → fm_O P (f_Ag_daysTillBlank_L58 N n x1 x3 x4 μ) := by
  intro n
  induction n with
  | zero => intros; exact fm_none
  | succ n ih =>
    intro x1 x3 x4 μ h0
    rw [f_Ag_daysTillBlank_L58]
    exact fm_ite (fm_some h0) (fr_Ag_daysTillBlank_L71 hI hJ hF hw (ih) _ _ _ _ _ _ _ h0)
set_option maxHeartbeats 1000000 in
theorem fr_Ag_daysTillBlank_L21 {W : Nat → Prop} {P : MM → Prop} (hI : ∀ {μ : MM} {a k : Nat} {v : Int32}, W a → P μ → P (mm_I μ a k v)) (hJ : ∀ {μ : MM} {a k : Nat} {v : Int64}, W a → P μ → P (mm_J μ a k v)) (hF : ∀ {μ : MM} {a : Nat} {g : Nat → Int32}, W a → P μ → P (mm_F μ a g)) (hw : ∀ a, a < 355 → W a) {N : Nat} : ∀ (n : Nat) (x1 : Int32) (x3 : Int32) (x4 : Int32) (μ : MM), P μ → fm_O P (f_Ag_daysTillBlank_L21 N n x1 x3 x4 μ) := by
  intro n
  induction n with
  | zero => intros; exact fm_none
  | succ n ih =>
    intro x1 x3 x4 μ h0
    rw [f_Ag_daysTillBlank_L21]
    exact fm_ite (fr_Ag_daysTillBlank_L58 hI hJ hF hw _ _ _ _ _ h0) (fm_gd (fun g1 => fm_gd (fun g2 => fm_wr (hI (hw _ (by first | omega | (simp only [inb, Bool.and_eq_true, decide_eq_true_eq] at *; omega))) h0) (fun μ3z hm3z => ih _ _ _ _ hm3z))))
set_option maxHeartbeats 1000000 in
theorem fr_Ag_daysTillBlank {W : Nat → Prop} {P : MM → Prop} (hI : ∀ {μ : MM} {a k : Nat} {v : Int32}, W a → P μ → P (mm_I μ a k v)) (hJ : ∀ {μ : MM} {a k : Nat} {v : Int64}, W a → P μ → P (mm_J μ a k v)) (hF : ∀ {μ : MM} {a : Nat} {g : Nat → Int32}, W a → P μ → P (mm_F μ a g)) (hw : ∀ a, a < 355 → W a) {N : Nat} {x1 : Int32} {μ : MM} (h0 : P μ) : fm_O P (f_Ag_daysTillBlank N x1 μ) := by
  unfold f_Ag_daysTillBlank
  exact fm_gd (fun g1 => fr_Ag_daysTillBlank_L21 hI hJ hF hw _ _ _ _ _ h0)
set_option maxHeartbeats 1000000 in
theorem fr_Wo_takeAll {W : Nat → Prop} {P : MM → Prop} (hI : ∀ {μ : MM} {a k : Nat} {v : Int32}, W a → P μ → P (mm_I μ a k v)) (hJ : ∀ {μ : MM} {a k : Nat} {v : Int64}, W a → P μ → P (mm_J μ a k v)) (hF : ∀ {μ : MM} {a : Nat} {g : Nat → Int32}, W a → P μ → P (mm_F μ a g)) (hw : ∀ a, a < 355 → W a) {N : Nat} {w : Nat} {q1 : Nat} {μ : MM} (hw_w : w + 4 < 355) (h0 : P μ) : fm_V P (f_Wo_takeAll N w q1 μ) := by
  unfold f_Wo_takeAll
  exact fm_gdV (fun g1 => fm_wrV (hF (hw _ (by first | omega | (simp only [inb, Bool.and_eq_true, decide_eq_true_eq] at *; omega))) h0) (fun μ1z hm1z => fm_gdV (fun g2 => fm_wrV (hF (hw _ (by first | omega | (simp only [inb, Bool.and_eq_true, decide_eq_true_eq] at *; omega))) hm1z) (fun μ2z hm2z => fm_gdV (fun g3 => fm_wrV (hF (hw _ (by first | omega | (simp only [inb, Bool.and_eq_true, decide_eq_true_eq] at *; omega))) hm2z) (fun μ3z hm3z => fm_gdV (fun g4 => fm_wrV (hF (hw _ (by first | omega | (simp only [inb, Bool.and_eq_true, decide_eq_true_eq] at *; omega))) hm3z) (fun μ4z hm4z => fm_someV hm4z))))))))
set_option maxHeartbeats 1000000 in
theorem fr_Sh_takeAll {W : Nat → Prop} {P : MM → Prop} (hI : ∀ {μ : MM} {a k : Nat} {v : Int32}, W a → P μ → P (mm_I μ a k v)) (hJ : ∀ {μ : MM} {a k : Nat} {v : Int64}, W a → P μ → P (mm_J μ a k v)) (hF : ∀ {μ : MM} {a : Nat} {g : Nat → Int32}, W a → P μ → P (mm_F μ a g)) (hw : ∀ a, a < 355 → W a) {N : Nat} {s : Nat} {q1 : Nat} {μ : MM} (hw_s : s + 6 < 355) (h0 : P μ) : fm_V P (f_Sh_takeAll N s q1 μ) := by
  unfold f_Sh_takeAll
  exact fm_obvV (fr_Wo_takeAll hI hJ hF hw (by first | omega | (simp only [inb, Bool.and_eq_true, decide_eq_true_eq] at *; omega)) h0) (fun μ1z hm1z => fm_gdV (fun g1 => fm_wrV (hF (hw _ (by first | omega | (simp only [inb, Bool.and_eq_true, decide_eq_true_eq] at *; omega))) hm1z) (fun μ2z hm2z => fm_wrV (hI (hw _ (by first | omega | (simp only [inb, Bool.and_eq_true, decide_eq_true_eq] at *; omega))) hm2z) (fun μ3z hm3z => fm_wrV (hI (hw _ (by first | omega | (simp only [inb, Bool.and_eq_true, decide_eq_true_eq] at *; omega))) hm3z) (fun μ4z hm4z => fm_wrV (hI (hw _ (by first | omega | (simp only [inb, Bool.and_eq_true, decide_eq_true_eq] at *; omega))) hm4z) (fun μ5z hm5z => fm_someV hm5z))))))
set_option maxHeartbeats 1000000 in
theorem fr_Co_takeAll {W : Nat → Prop} {P : MM → Prop} (hI : ∀ {μ : MM} {a k : Nat} {v : Int32}, W a → P μ → P (mm_I μ a k v)) (hJ : ∀ {μ : MM} {a k : Nat} {v : Int64}, W a → P μ → P (mm_J μ a k v)) (hF : ∀ {μ : MM} {a : Nat} {g : Nat → Int32}, W a → P μ → P (mm_F μ a g)) (hw : ∀ a, a < 355 → W a) {N : Nat} {c : Nat} {q1 : Nat} {μ : MM} (hw_c : c + 10 < 355) (h0 : P μ) : fm_V P (f_Co_takeAll N c q1 μ) := by
  unfold f_Co_takeAll
  exact fm_wrV (hI (hw _ (by first | omega | (simp only [inb, Bool.and_eq_true, decide_eq_true_eq] at *; omega))) h0) (fun μ1z hm1z => fm_wrV (hI (hw _ (by first | omega | (simp only [inb, Bool.and_eq_true, decide_eq_true_eq] at *; omega))) hm1z) (fun μ2z hm2z => fm_gdV (fun g1 => fm_wrV (hF (hw _ (by first | omega | (simp only [inb, Bool.and_eq_true, decide_eq_true_eq] at *; omega))) hm2z) (fun μ3z hm3z => fm_gdV (fun g2 => fm_wrV (hF (hw _ (by first | omega | (simp only [inb, Bool.and_eq_true, decide_eq_true_eq] at *; omega))) hm3z) (fun μ4z hm4z => fm_gdV (fun g3 => fm_wrV (hF (hw _ (by first | omega | (simp only [inb, Bool.and_eq_true, decide_eq_true_eq] at *; omega))) hm4z) (fun μ5z hm5z => fm_obvV (fr_Sh_takeAll hI hJ hF hw (by first | omega | (simp only [inb, Bool.and_eq_true, decide_eq_true_eq] at *; omega)) hm5z) (fun μ6z hm6z => fm_someV hm6z)))))))))
set_option maxHeartbeats 1000000 in
theorem fr_Co_isNone {W : Nat → Prop} {P : MM → Prop} (hI : ∀ {μ : MM} {a k : Nat} {v : Int32}, W a → P μ → P (mm_I μ a k v)) (hJ : ∀ {μ : MM} {a k : Nat} {v : Int64}, W a → P μ → P (mm_J μ a k v)) (hF : ∀ {μ : MM} {a : Nat} {g : Nat → Int32}, W a → P μ → P (mm_F μ a g)) (hw : ∀ a, a < 355 → W a) {N : Nat} {c : Nat} {μ : MM} (h0 : P μ) : fm_O P (f_Co_isNone N c μ) := by
  unfold f_Co_isNone
  exact fm_gd (fun g1 => fm_some h0)
set_option maxHeartbeats 1000000 in
theorem fr_Co_suitedThings_L4 {W : Nat → Prop} {P : MM → Prop} (hI : ∀ {μ : MM} {a k : Nat} {v : Int32}, W a → P μ → P (mm_I μ a k v)) (hJ : ∀ {μ : MM} {a k : Nat} {v : Int64}, W a → P μ → P (mm_J μ a k v)) (hF : ∀ {μ : MM} {a : Nat} {g : Nat → Int32}, W a → P μ → P (mm_F μ a g)) (hw : ∀ a, a < 355 → W a) {N : Nat} {c : Nat} : ∀ (n : Nat) (x1 : Int32) (x2 : Int32) (x3 : Int32) (μ : MM), P μ → fm_O P (f_Co_suitedThings_L4 N c n x1 x2 x3 μ) := by
  intro n
  induction n with
  | zero => intros; exact fm_none
  | succ n ih =>
    intro x1 x2 x3 μ h0
    rw [f_Co_suitedThings_L4]
    exact fm_ite (fm_some h0) (fm_ob (fr_Co_isFit hI hJ hF hw h0) (fun t15 μ1z hm1z => ih _ _ _ _ hm1z))
set_option maxHeartbeats 1000000 in
theorem fr_Co_suitedThings {W : Nat → Prop} {P : MM → Prop} (hI : ∀ {μ : MM} {a k : Nat} {v : Int32}, W a → P μ → P (mm_I μ a k v)) (hJ : ∀ {μ : MM} {a k : Nat} {v : Int64}, W a → P μ → P (mm_J μ a k v)) (hF : ∀ {μ : MM} {a : Nat} {g : Nat → Int32}, W a → P μ → P (mm_F μ a g)) (hw : ∀ a, a < 355 → W a) {N : Nat} {c : Nat} {x1 : Int32} {μ : MM} (h0 : P μ) : fm_O P (f_Co_suitedThings N c x1 μ) := by
  unfold f_Co_suitedThings
  exact fr_Co_suitedThings_L4 hI hJ hF hw _ _ _ _ _ h0
set_option maxHeartbeats 1000000 in
theorem fr_Wo_named_L20 {W : Nat → Prop} {P : MM → Prop} (hI : ∀ {μ : MM} {a k : Nat} {v : Int32}, W a → P μ → P (mm_I μ a k v)) (hJ : ∀ {μ : MM} {a k : Nat} {v : Int64}, W a → P μ → P (mm_J μ a k v)) (hF : ∀ {μ : MM} {a : Nat} {g : Nat → Int32}, W a → P μ → P (mm_F μ a g)) (hw : ∀ a, a < 355 → W a) {N : Nat} {w : Nat} : ∀ (n : Nat) (x1 : Int32) (x2 : Int32) (x3 : Int32) (x4 : Int32) (μ : MM), P μ → fm_O P (f_Wo_named_L20 N w n x1 x2 x3 x4 μ) := by
  intro n
  induction n with
  | zero => intros; exact fm_none
  | succ n ih =>
    intro x1 x2 x3 x4 μ h0
    rw [f_Wo_named_L20]
    exact fm_gd (fun g1 => fm_ite (fm_some h0) (fm_gd (fun g2 => fm_ite (ih _ _ _ _ _ h0) (fm_gd (fun g3 => fm_ite (fm_gd (fun g4 => ih _ _ _ _ _ h0)) (ih _ _ _ _ _ h0))))))
set_option maxHeartbeats 1000000 in
theorem fr_Wo_named {W : Nat → Prop} {P : MM → Prop} (hI : ∀ {μ : MM} {a k : Nat} {v : Int32}, W a → P μ → P (mm_I μ a k v)) (hJ : ∀ {μ : MM} {a k : Nat} {v : Int64}, W a → P μ → P (mm_J μ a k v)) (hF : ∀ {μ : MM} {a : Nat} {g : Nat → Int32}, W a → P μ → P (mm_F μ a g)) (hw : ∀ a, a < 355 → W a) {N : Nat} {w : Nat} {x1 : Int32} {x2 : Int32} {μ : MM} (h0 : P μ) : fm_O P (f_Wo_named N w x1 x2 μ) := by
  unfold f_Wo_named
  exact fm_ite (fm_some h0) (fm_ite (fr_Wo_named_L20 hI hJ hF hw _ _ _ _ _ _ h0) (fm_some h0))
set_option maxHeartbeats 1000000 in
theorem fr_Co_reachedFrom_L26 {W : Nat → Prop} {P : MM → Prop} (hI : ∀ {μ : MM} {a k : Nat} {v : Int32}, W a → P μ → P (mm_I μ a k v)) (hJ : ∀ {μ : MM} {a k : Nat} {v : Int64}, W a → P μ → P (mm_J μ a k v)) (hF : ∀ {μ : MM} {a : Nat} {g : Nat → Int32}, W a → P μ → P (mm_F μ a g)) (hw : ∀ a, a < 355 → W a) {N : Nat} {c : Nat} {k15 : Int32 → Int32 → MM → Option (Int32 × MM)} (hk15 : ∀ (z0 : Int32) (z1 : Int32) (z2 : MM), P z2 → fm_O P (k15 z0 z1 z2)) : ∀ (n : Nat) (x2 : Int32) (x3 : Int32) (x4 : Int32) (μ : MM), P μ → fm_O P (f_Co_reachedFrom_L26 N c k15 n x2 x3 x4 μ) := by
  intro n
  induction n with
  | zero => intros; exact fm_none
  | succ n ih =>
    intro x2 x3 x4 μ h0
    rw [f_Co_reachedFrom_L26]
    exact fm_ite (hk15 _ _ _ h0) (fm_ite (fm_ob (fr_Wo_named hI hJ hF hw h0) (fun t56 μ2z hm2z => ih _ _ _ _ hm2z)) (ih _ _ _ _ h0))
set_option maxHeartbeats 1000000 in
theorem fr_Co_reachedFrom_L15 {W : Nat → Prop} {P : MM → Prop} (hI : ∀ {μ : MM} {a k : Nat} {v : Int32}, W a → P μ → P (mm_I μ a k v)) (hJ : ∀ {μ : MM} {a k : Nat} {v : Int64}, W a → P μ → P (mm_J μ a k v)) (hF : ∀ {μ : MM} {a : Nat} {g : Nat → Int32}, W a → P μ → P (mm_F μ a g)) (hw : ∀ a, a < 355 → W a) {N : Nat} {c : Nat} : ∀ (n : Nat) (x2 : Int32) (x3 : Int32) (μ : MM), P μ → fm_O P (f_Co_reachedFrom_L15 N c n x2 x3 μ) := by
  intro n
  induction n with
  | zero => intros; exact fm_none
  | succ n ih =>
    intro x2 x3 μ h0
    rw [f_Co_reachedFrom_L15]
    exact fm_ite (fm_some h0) (fr_Co_reachedFrom_L26 hI hJ hF hw (ih) _ _ _ _ _ h0)
set_option maxHeartbeats 1000000 in
theorem fr_Co_reachedFrom {W : Nat → Prop} {P : MM → Prop} (hI : ∀ {μ : MM} {a k : Nat} {v : Int32}, W a → P μ → P (mm_I μ a k v)) (hJ : ∀ {μ : MM} {a k : Nat} {v : Int64}, W a → P μ → P (mm_J μ a k v)) (hF : ∀ {μ : MM} {a : Nat} {g : Nat → Int32}, W a → P μ → P (mm_F μ a g)) (hw : ∀ a, a < 355 → W a) {N : Nat} {c : Nat} {x1 : Int32} {μ : MM} (h0 : P μ) : fm_O P (f_Co_reachedFrom N c x1 μ) := by
  unfold f_Co_reachedFrom
  exact fm_ob (fr_Wo_named hI hJ hF hw h0) (fun t9 μ1z hm1z => fr_Co_reachedFrom_L15 hI hJ hF hw _ _ _ _ hm1z)
set_option maxHeartbeats 1000000 in
theorem fr_Co_isToldAlone_L2 {W : Nat → Prop} {P : MM → Prop} (hI : ∀ {μ : MM} {a k : Nat} {v : Int32}, W a → P μ → P (mm_I μ a k v)) (hJ : ∀ {μ : MM} {a k : Nat} {v : Int64}, W a → P μ → P (mm_J μ a k v)) (hF : ∀ {μ : MM} {a : Nat} {g : Nat → Int32}, W a → P μ → P (mm_F μ a g)) (hw : ∀ a, a < 355 → W a) {N : Nat} {c : Nat} : ∀ (n : Nat) (x1 : Int32) (x2 : Int32) (x3 : Int32) (μ : MM), P μ → fm_O P (f_Co_isToldAlone_L2 N c n x1 x2 x3 μ) := by
  intro n
  induction n with
  | zero => intros; exact fm_none
  | succ n ih =>
    intro x1 x2 x3 μ h0
    rw [f_Co_isToldAlone_L2]
    exact fm_ite (fm_some h0) (fm_ite (ih _ _ _ _ h0) (fm_gd (fun g1 => fm_gd (fun g2 => fm_ite (fm_some h0) (ih _ _ _ _ h0)))))
set_option maxHeartbeats 1000000 in
theorem fr_Co_isToldAlone {W : Nat → Prop} {P : MM → Prop} (hI : ∀ {μ : MM} {a k : Nat} {v : Int32}, W a → P μ → P (mm_I μ a k v)) (hJ : ∀ {μ : MM} {a k : Nat} {v : Int64}, W a → P μ → P (mm_J μ a k v)) (hF : ∀ {μ : MM} {a : Nat} {g : Nat → Int32}, W a → P μ → P (mm_F μ a g)) (hw : ∀ a, a < 355 → W a) {N : Nat} {c : Nat} {x1 : Int32} {x2 : Int32} {μ : MM} (h0 : P μ) : fm_O P (f_Co_isToldAlone N c x1 x2 μ) := by
  unfold f_Co_isToldAlone
  exact fr_Co_isToldAlone_L2 hI hJ hF hw _ _ _ _ _ h0
set_option maxHeartbeats 1000000 in
theorem fr_Gu_forget {W : Nat → Prop} {P : MM → Prop} (hI : ∀ {μ : MM} {a k : Nat} {v : Int32}, W a → P μ → P (mm_I μ a k v)) (hJ : ∀ {μ : MM} {a k : Nat} {v : Int64}, W a → P μ → P (mm_J μ a k v)) (hF : ∀ {μ : MM} {a : Nat} {g : Nat → Int32}, W a → P μ → P (mm_F μ a g)) (hw : ∀ a, a < 355 → W a) {N : Nat} {μ : MM} (h0 : P μ) : fm_V P (f_Gu_forget N μ) := by
  unfold f_Gu_forget
  exact fm_wrV (hI (hw _ (by first | omega | (simp only [inb, Bool.and_eq_true, decide_eq_true_eq] at *; omega))) h0) (fun μ1z hm1z => fm_someV hm1z)
set_option maxHeartbeats 1000000 in
theorem fr_Gu_note {W : Nat → Prop} {P : MM → Prop} (hI : ∀ {μ : MM} {a k : Nat} {v : Int32}, W a → P μ → P (mm_I μ a k v)) (hJ : ∀ {μ : MM} {a k : Nat} {v : Int64}, W a → P μ → P (mm_J μ a k v)) (hF : ∀ {μ : MM} {a : Nat} {g : Nat → Int32}, W a → P μ → P (mm_F μ a g)) (hw : ∀ a, a < 355 → W a) {N : Nat} {x1 : Int32} {x2 : Int32} {x3 : Int32} {μ : MM} (h0 : P μ) : fm_O P (f_Gu_note N x1 x2 x3 μ) := by
  unfold f_Gu_note
  exact fm_ite (fm_gd (fun g1 => fm_wr (hI (hw _ (by first | omega | (simp only [inb, Bool.and_eq_true, decide_eq_true_eq] at *; omega))) h0) (fun μ1z hm1z => fm_gd (fun g2 => fm_wr (hI (hw _ (by first | omega | (simp only [inb, Bool.and_eq_true, decide_eq_true_eq] at *; omega))) hm1z) (fun μ2z hm2z => fm_gd (fun g3 => fm_wr (hI (hw _ (by first | omega | (simp only [inb, Bool.and_eq_true, decide_eq_true_eq] at *; omega))) hm2z) (fun μ3z hm3z => fm_wr (hI (hw _ (by first | omega | (simp only [inb, Bool.and_eq_true, decide_eq_true_eq] at *; omega))) hm3z) (fun μ4z hm4z => fm_some hm4z)))))))) (fm_some h0)
set_option maxHeartbeats 1000000 in
theorem fr_Gu_aim_L82 {W : Nat → Prop} {P : MM → Prop} (hI : ∀ {μ : MM} {a k : Nat} {v : Int32}, W a → P μ → P (mm_I μ a k v)) (hJ : ∀ {μ : MM} {a k : Nat} {v : Int64}, W a → P μ → P (mm_J μ a k v)) (hF : ∀ {μ : MM} {a : Nat} {g : Nat → Int32}, W a → P μ → P (mm_F μ a g)) (hw : ∀ a, a < 355 → W a) {N : Nat} : ∀ (n : Nat) (x3 : Int32) (μ : MM), P μ → fm_O P (f_Gu_aim_L82 N n x3 μ) := by
  intro n
  induction n with
  | zero => intros; exact fm_none
  | succ n ih =>
    intro x3 μ h0
    rw [f_Gu_aim_L82]
    exact fm_ite (fm_some h0) (fm_wr (hI (hw _ (by first | omega | (simp only [inb, Bool.and_eq_true, decide_eq_true_eq] at *; omega))) h0) (fun μ10z hm10z => ih _ _ hm10z))
set_option maxHeartbeats 1000000 in
theorem fr_Gu_aim {W : Nat → Prop} {P : MM → Prop} (hI : ∀ {μ : MM} {a k : Nat} {v : Int32}, W a → P μ → P (mm_I μ a k v)) (hJ : ∀ {μ : MM} {a k : Nat} {v : Int64}, W a → P μ → P (mm_J μ a k v)) (hF : ∀ {μ : MM} {a : Nat} {g : Nat → Int32}, W a → P μ → P (mm_F μ a g)) (hw : ∀ a, a < 355 → W a) {N : Nat} {x1 : Int32} {μ : MM} (h0 : P μ) : fm_O P (f_Gu_aim N x1 μ) := by
  unfold f_Gu_aim
  exact fm_ob (fr_Co_isCard hI hJ hF hw h0) (fun t5 μ1z hm1z => fm_ite (fm_some hm1z) (fm_gd (fun g1 => fm_ob (fr_Wo_leftIn hI hJ hF hw hm1z) (fun t33 μ2z hm2z => fm_wr (hI (hw _ (by first | omega | (simp only [inb, Bool.and_eq_true, decide_eq_true_eq] at *; omega))) hm2z) (fun μ3z hm3z => fm_ite (fm_wr (hI (hw _ (by first | omega | (simp only [inb, Bool.and_eq_true, decide_eq_true_eq] at *; omega))) hm3z) (fun μ4z hm4z => fm_ob (fr_Wo_named hI hJ hF hw hm4z) (fun t59 μ5z hm5z => fm_wr (hI (hw _ (by first | omega | (simp only [inb, Bool.and_eq_true, decide_eq_true_eq] at *; omega))) hm5z) (fun μ6z hm6z => fm_ob (fr_Wo_named hI hJ hF hw hm6z) (fun t69 μ7z hm7z => fm_wr (hI (hw _ (by first | omega | (simp only [inb, Bool.and_eq_true, decide_eq_true_eq] at *; omega))) hm7z) (fun μ8z hm8z => fm_wr (hI (hw _ (by first | omega | (simp only [inb, Bool.and_eq_true, decide_eq_true_eq] at *; omega))) hm8z) (fun μ9z hm9z => fr_Gu_aim_L82 hI hJ hF hw _ _ _ hm9z))))))) (fm_some hm3z))))))
set_option maxHeartbeats 1000000 in
theorem fr_Gu_layOut_L20 {W : Nat → Prop} {P : MM → Prop} (hI : ∀ {μ : MM} {a k : Nat} {v : Int32}, W a → P μ → P (mm_I μ a k v)) (hJ : ∀ {μ : MM} {a k : Nat} {v : Int64}, W a → P μ → P (mm_J μ a k v)) (hF : ∀ {μ : MM} {a : Nat} {g : Nat → Int32}, W a → P μ → P (mm_F μ a g)) (hw : ∀ a, a < 355 → W a) {N : Nat} : ∀ (n : Nat) (x2 : Int32) (x3 : Int32) (μ : MM), P μ → fm_V P (f_Gu_layOut_L20 N n x2 x3 μ) := by
  intro n
  induction n with
  | zero => intros; exact fm_noneV
  | succ n ih =>
    intro x2 x3 μ h0
    rw [f_Gu_layOut_L20]
    exact fm_iteV (fm_someV h0) (fm_iteV (fm_wrV (hI (hw _ (by first | omega | (simp only [inb, Bool.and_eq_true, decide_eq_true_eq] at *; omega))) h0) (fun μ3z hm3z => ih _ _ _ hm3z)) (fm_wrV (hI (hw _ (by first | omega | (simp only [inb, Bool.and_eq_true, decide_eq_true_eq] at *; omega))) h0) (fun μ4z hm4z => ih _ _ _ hm4z)))
set_option maxHeartbeats 1000000 in
theorem fr_Gu_layOut {W : Nat → Prop} {P : MM → Prop} (hI : ∀ {μ : MM} {a k : Nat} {v : Int32}, W a → P μ → P (mm_I μ a k v)) (hJ : ∀ {μ : MM} {a k : Nat} {v : Int64}, W a → P μ → P (mm_J μ a k v)) (hF : ∀ {μ : MM} {a : Nat} {g : Nat → Int32}, W a → P μ → P (mm_F μ a g)) (hw : ∀ a, a < 355 → W a) {N : Nat} {x1 : Int32} {μ : MM} (h0 : P μ) : fm_V P (f_Gu_layOut N x1 μ) := by
  unfold f_Gu_layOut
  exact fm_wrV (hI (hw _ (by first | omega | (simp only [inb, Bool.and_eq_true, decide_eq_true_eq] at *; omega))) h0) (fun μ1z hm1z => fm_wrV (hI (hw _ (by first | omega | (simp only [inb, Bool.and_eq_true, decide_eq_true_eq] at *; omega))) hm1z) (fun μ2z hm2z => fr_Gu_layOut_L20 hI hJ hF hw _ _ _ _ hm2z))
set_option maxHeartbeats 1000000 in
theorem fr_Gu_wouldFit {W : Nat → Prop} {P : MM → Prop} (hI : ∀ {μ : MM} {a k : Nat} {v : Int32}, W a → P μ → P (mm_I μ a k v)) (hJ : ∀ {μ : MM} {a k : Nat} {v : Int64}, W a → P μ → P (mm_J μ a k v)) (hF : ∀ {μ : MM} {a : Nat} {g : Nat → Int32}, W a → P μ → P (mm_F μ a g)) (hw : ∀ a, a < 355 → W a) {N : Nat} {x1 : Int32} {μ : MM} (h0 : P μ) : fm_O P (f_Gu_wouldFit N x1 μ) := by
  unfold f_Gu_wouldFit
  exact fm_ob (fr_Co_isThing hI hJ hF hw h0) (fun t5 μ1z hm1z => fm_ite (fm_some hm1z) (fm_gd (fun g1 => fm_ite (fm_ite (fm_some hm1z) (fm_some hm1z)) (fm_some hm1z))))
set_option maxHeartbeats 1000000 in
theorem fr_Gu_isRow_L7 {W : Nat → Prop} {P : MM → Prop} (hI : ∀ {μ : MM} {a k : Nat} {v : Int32}, W a → P μ → P (mm_I μ a k v)) (hJ : ∀ {μ : MM} {a k : Nat} {v : Int64}, W a → P μ → P (mm_J μ a k v)) (hF : ∀ {μ : MM} {a : Nat} {g : Nat → Int32}, W a → P μ → P (mm_F μ a g)) (hw : ∀ a, a < 355 → W a) {N : Nat} : ∀ (n : Nat) (x2 : Int32) (μ : MM), P μ → fm_O P (f_Gu_isRow_L7 N n x2 μ) := by
  intro n
  induction n with
  | zero => intros; exact fm_none
  | succ n ih =>
    intro x2 μ h0
    rw [f_Gu_isRow_L7]
    exact fm_ite (fm_some h0) (fm_gd (fun g1 => fm_ite (fm_gd (fun g2 => fm_ob (fr_Gu_wouldFit hI hJ hF hw h0) (fun t35 μ2z hm2z => fm_gd (fun g3 => fm_ite (ih _ _ hm2z) (fm_some hm2z))))) (ih _ _ h0)))
set_option maxHeartbeats 1000000 in
theorem fr_Gu_isRow {W : Nat → Prop} {P : MM → Prop} (hI : ∀ {μ : MM} {a k : Nat} {v : Int32}, W a → P μ → P (mm_I μ a k v)) (hJ : ∀ {μ : MM} {a k : Nat} {v : Int64}, W a → P μ → P (mm_J μ a k v)) (hF : ∀ {μ : MM} {a : Nat} {g : Nat → Int32}, W a → P μ → P (mm_F μ a g)) (hw : ∀ a, a < 355 → W a) {N : Nat} {x1 : Int32} {μ : MM} (h0 : P μ) : fm_O P (f_Gu_isRow N x1 μ) := by
  unfold f_Gu_isRow
  exact fm_obv (fr_Gu_layOut hI hJ hF hw h0) (fun μ1z hm1z => fr_Gu_isRow_L7 hI hJ hF hw _ _ _ hm1z)
set_option maxHeartbeats 1000000 in
theorem fr_Gu_countRows_L4 {W : Nat → Prop} {P : MM → Prop} (hI : ∀ {μ : MM} {a k : Nat} {v : Int32}, W a → P μ → P (mm_I μ a k v)) (hJ : ∀ {μ : MM} {a k : Nat} {v : Int64}, W a → P μ → P (mm_J μ a k v)) (hF : ∀ {μ : MM} {a : Nat} {g : Nat → Int32}, W a → P μ → P (mm_F μ a g)) (hw : ∀ a, a < 355 → W a) {N : Nat} : ∀ (n : Nat) (x1 : Int32) (x2 : Int32) (μ : MM), P μ → fm_O P (f_Gu_countRows_L4 N n x1 x2 μ) := by
  intro n
  induction n with
  | zero => intros; exact fm_none
  | succ n ih =>
    intro x1 x2 μ h0
    rw [f_Gu_countRows_L4]
    exact fm_ite (fm_some h0) (fm_ob (fr_Gu_isRow hI hJ hF hw h0) (fun t14 μ1z hm1z => ih _ _ _ hm1z))
set_option maxHeartbeats 1000000 in
theorem fr_Gu_countRows {W : Nat → Prop} {P : MM → Prop} (hI : ∀ {μ : MM} {a k : Nat} {v : Int32}, W a → P μ → P (mm_I μ a k v)) (hJ : ∀ {μ : MM} {a k : Nat} {v : Int64}, W a → P μ → P (mm_J μ a k v)) (hF : ∀ {μ : MM} {a : Nat} {g : Nat → Int32}, W a → P μ → P (mm_F μ a g)) (hw : ∀ a, a < 355 → W a) {N : Nat} {μ : MM} (h0 : P μ) : fm_O P (f_Gu_countRows N μ) := by
  unfold f_Gu_countRows
  exact fr_Gu_countRows_L4 hI hJ hF hw _ _ _ _ h0
set_option maxHeartbeats 1000000 in
theorem fr_Gu_findRow_L4 {W : Nat → Prop} {P : MM → Prop} (hI : ∀ {μ : MM} {a k : Nat} {v : Int32}, W a → P μ → P (mm_I μ a k v)) (hJ : ∀ {μ : MM} {a k : Nat} {v : Int64}, W a → P μ → P (mm_J μ a k v)) (hF : ∀ {μ : MM} {a : Nat} {g : Nat → Int32}, W a → P μ → P (mm_F μ a g)) (hw : ∀ a, a < 355 → W a) {N : Nat} : ∀ (n : Nat) (x1 : Int32) (x2 : Int32) (x3 : Int32) (μ : MM), P μ → fm_O P (f_Gu_findRow_L4 N n x1 x2 x3 μ) := by
  intro n
  induction n with
  | zero => intros; exact fm_none
  | succ n ih =>
    intro x1 x2 x3 μ h0
    rw [f_Gu_findRow_L4]
    exact fm_ite (fm_some h0) (fm_ob (fr_Gu_isRow hI hJ hF hw h0) (fun t14 μ1z hm1z => fm_ite (ih _ _ _ _ hm1z) (fm_ite (fm_some hm1z) (ih _ _ _ _ hm1z))))
set_option maxHeartbeats 1000000 in
theorem fr_Gu_findRow {W : Nat → Prop} {P : MM → Prop} (hI : ∀ {μ : MM} {a k : Nat} {v : Int32}, W a → P μ → P (mm_I μ a k v)) (hJ : ∀ {μ : MM} {a k : Nat} {v : Int64}, W a → P μ → P (mm_J μ a k v)) (hF : ∀ {μ : MM} {a : Nat} {g : Nat → Int32}, W a → P μ → P (mm_F μ a g)) (hw : ∀ a, a < 355 → W a) {N : Nat} {x1 : Int32} {μ : MM} (h0 : P μ) : fm_O P (f_Gu_findRow N x1 μ) := by
  unfold f_Gu_findRow
  exact fr_Gu_findRow_L4 hI hJ hF hw _ _ _ _ _ h0
set_option maxHeartbeats 1000000 in
theorem fr_Gu_evenThing_L98 {W : Nat → Prop} {P : MM → Prop} (hI : ∀ {μ : MM} {a k : Nat} {v : Int32}, W a → P μ → P (mm_I μ a k v)) (hJ : ∀ {μ : MM} {a k : Nat} {v : Int64}, W a → P μ → P (mm_J μ a k v)) (hF : ∀ {μ : MM} {a : Nat} {g : Nat → Int32}, W a → P μ → P (mm_F μ a g)) (hw : ∀ a, a < 355 → W a) {N : Nat} : ∀ (n : Nat) (x1 : Int32) (x2 : Int32) (x3 : Int32) (x4 : Int32) (μ : MM), P μ → fm_O P (f_Gu_evenThing_L98 N n x1 x2 x3 x4 μ) := by
  intro n
  induction n with
  | zero => intros; exact fm_none
  | succ n ih =>
    intro x1 x2 x3 x4 μ h0
    rw [f_Gu_evenThing_L98]
    exact fm_ite (fm_some h0) (fm_ite (fm_some h0) (fm_gd (fun g1 => fm_ite (ih _ _ _ _ _ h0) (fm_ite (ih _ _ _ _ _ h0) (ih _ _ _ _ _ h0)))))
set_option maxHeartbeats 1000000 in
theorem fr_Gu_evenThing_B77 {W : Nat → Prop} {P : MM → Prop} (hI : ∀ {μ : MM} {a k : Nat} {v : Int32}, W a → P μ → P (mm_I μ a k v)) (hJ : ∀ {μ : MM} {a k : Nat} {v : Int64}, W a → P μ → P (mm_J μ a k v)) (hF : ∀ {μ : MM} {a : Nat} {g : Nat → Int32}, W a → P μ → P (mm_F μ a g)) (hw : ∀ a, a < 355 → W a) {N : Nat} {k25 : Int32 → Int32 → MM → Option (Int32 × MM)} {k46 : Int32 → Int32 → Int32 → MM → Option (Int32 × MM)} {x1 : Int32} {x2 : Int32} {x3 : Int32} {s1 : Int32} {s2 : Int32} {s3 : Int32} {μ : MM} (hk25 : ∀ (z0 : Int32) (z1 : Int32) (z2 : MM), P z2 → fm_O P (k25 z0 z1 z2)) (hk46 : ∀ (z0 : Int32) (z1 : Int32) (z2 : Int32) (z3 : MM), P z3 → fm_O P (k46 z0 z1 z2 z3)) (h0 : P μ) : fm_O P (f_Gu_evenThing_B77 N k25 k46 x1 x2 x3 s1 s2 s3 μ) := by
  unfold f_Gu_evenThing_B77
  exact fm_gd (fun g1 => fm_wr (hI (hw _ (by first | omega | (simp only [inb, Bool.and_eq_true, decide_eq_true_eq] at *; omega))) h0) (fun μ3z hm3z => hk46 _ _ _ _ hm3z))
set_option maxHeartbeats 1000000 in
theorem fr_Gu_evenThing_L46 {W : Nat → Prop} {P : MM → Prop} (hI : ∀ {μ : MM} {a k : Nat} {v : Int32}, W a → P μ → P (mm_I μ a k v)) (hJ : ∀ {μ : MM} {a k : Nat} {v : Int64}, W a → P μ → P (mm_J μ a k v)) (hF : ∀ {μ : MM} {a : Nat} {g : Nat → Int32}, W a → P μ → P (mm_F μ a g)) (hw : ∀ a, a < 355 → W a) {N : Nat} {k25 : Int32 → Int32 → MM → Option (Int32 × MM)} (hk25 : ∀ (z0 : Int32) (z1 : Int32) (z2 : MM), P z2 → fm_O P (k25 z0 z1 z2)) : ∀ (n : Nat) (x1 : Int32) (x2 : Int32) (x3 : Int32) (μ : MM), P μ → fm_O P (f_Gu_evenThing_L46 N k25 n x1 x2 x3 μ) := by
  intro n
  induction n with
  | zero => intros; exact fm_none
  | succ n ih =>
    intro x1 x2 x3 μ h0
    rw [f_Gu_evenThing_L46]
    exact fm_ite (hk25 _ _ _ h0) (fm_gd (fun g1 => fm_ob (fr_Gu_wouldFit hI hJ hF hw h0) (fun t66 μ2z hm2z => fr_Gu_evenThing_B77 hI hJ hF hw (hk25) (ih) hm2z)))
set_option maxHeartbeats 1000000 in
theorem fr_Gu_evenThing_L25 {W : Nat → Prop} {P : MM → Prop} (hI : ∀ {μ : MM} {a k : Nat} {v : Int32}, W a → P μ → P (mm_I μ a k v)) (hJ : ∀ {μ : MM} {a k : Nat} {v : Int64}, W a → P μ → P (mm_J μ a k v)) (hF : ∀ {μ : MM} {a : Nat} {g : Nat → Int32}, W a → P μ → P (mm_F μ a g)) (hw : ∀ a, a < 355 → W a) {N : Nat} : ∀ (n : Nat) (x1 : Int32) (x2 : Int32) (μ : MM), P μ → fm_O P (f_Gu_evenThing_L25 N n x1 x2 μ) := by
  intro n
  induction n with
  | zero => intros; exact fm_none
  | succ n ih =>
    intro x1 x2 μ h0
    rw [f_Gu_evenThing_L25]
    exact fm_ite (fr_Gu_evenThing_L98 hI hJ hF hw _ _ _ _ _ _ h0) (fm_ob (fr_Gu_isRow hI hJ hF hw h0) (fun t35 μ1z hm1z => fm_ite (ih _ _ _ hm1z) (fr_Gu_evenThing_L46 hI hJ hF hw (ih) _ _ _ _ _ hm1z)))
set_option maxHeartbeats 1000000 in
theorem fr_Gu_evenThing_L2 {W : Nat → Prop} {P : MM → Prop} (hI : ∀ {μ : MM} {a k : Nat} {v : Int32}, W a → P μ → P (mm_I μ a k v)) (hJ : ∀ {μ : MM} {a k : Nat} {v : Int64}, W a → P μ → P (mm_J μ a k v)) (hF : ∀ {μ : MM} {a : Nat} {g : Nat → Int32}, W a → P μ → P (mm_F μ a g)) (hw : ∀ a, a < 355 → W a) {N : Nat} : ∀ (n : Nat) (x1 : Int32) (μ : MM), P μ → fm_O P (f_Gu_evenThing_L2 N n x1 μ) := by
  intro n
  induction n with
  | zero => intros; exact fm_none
  | succ n ih =>
    intro x1 μ h0
    rw [f_Gu_evenThing_L2]
    exact fm_ite (fr_Gu_evenThing_L25 hI hJ hF hw _ _ _ _ h0) (fm_gd (fun g1 => fm_wr (hI (hw _ (by first | omega | (simp only [inb, Bool.and_eq_true, decide_eq_true_eq] at *; omega))) h0) (fun μ4z hm4z => ih _ _ hm4z)))
set_option maxHeartbeats 1000000 in
theorem fr_Gu_evenThing {W : Nat → Prop} {P : MM → Prop} (hI : ∀ {μ : MM} {a k : Nat} {v : Int32}, W a → P μ → P (mm_I μ a k v)) (hJ : ∀ {μ : MM} {a k : Nat} {v : Int64}, W a → P μ → P (mm_J μ a k v)) (hF : ∀ {μ : MM} {a : Nat} {g : Nat → Int32}, W a → P μ → P (mm_F μ a g)) (hw : ∀ a, a < 355 → W a) {N : Nat} {μ : MM} (h0 : P μ) : fm_O P (f_Gu_evenThing N μ) := by
  unfold f_Gu_evenThing
  exact fr_Gu_evenThing_L2 hI hJ hF hw _ _ _ h0
set_option maxHeartbeats 1000000 in
theorem fr_Gu_thingsFitting_L9 {W : Nat → Prop} {P : MM → Prop} (hI : ∀ {μ : MM} {a k : Nat} {v : Int32}, W a → P μ → P (mm_I μ a k v)) (hJ : ∀ {μ : MM} {a k : Nat} {v : Int64}, W a → P μ → P (mm_J μ a k v)) (hF : ∀ {μ : MM} {a : Nat} {g : Nat → Int32}, W a → P μ → P (mm_F μ a g)) (hw : ∀ a, a < 355 → W a) {N : Nat} : ∀ (n : Nat) (x2 : Int32) (x3 : Int32) (μ : MM), P μ → fm_O P (f_Gu_thingsFitting_L9 N n x2 x3 μ) := by
  intro n
  induction n with
  | zero => intros; exact fm_none
  | succ n ih =>
    intro x2 x3 μ h0
    rw [f_Gu_thingsFitting_L9]
    exact fm_ite (fm_some h0) (fm_ob (fr_Gu_wouldFit hI hJ hF hw h0) (fun t23 μ2z hm2z => ih _ _ _ hm2z))
set_option maxHeartbeats 1000000 in
theorem fr_Gu_thingsFitting {W : Nat → Prop} {P : MM → Prop} (hI : ∀ {μ : MM} {a k : Nat} {v : Int32}, W a → P μ → P (mm_I μ a k v)) (hJ : ∀ {μ : MM} {a k : Nat} {v : Int64}, W a → P μ → P (mm_J μ a k v)) (hF : ∀ {μ : MM} {a : Nat} {g : Nat → Int32}, W a → P μ → P (mm_F μ a g)) (hw : ∀ a, a < 355 → W a) {N : Nat} {x1 : Int32} {μ : MM} (h0 : P μ) : fm_O P (f_Gu_thingsFitting N x1 μ) := by
  unfold f_Gu_thingsFitting
  exact fm_obv (fr_Gu_layOut hI hJ hF hw h0) (fun μ1z hm1z => fr_Gu_thingsFitting_L9 hI hJ hF hw _ _ _ _ hm1z)
set_option maxHeartbeats 1000000 in
theorem fr_Gu_kindestRow_L6 {W : Nat → Prop} {P : MM → Prop} (hI : ∀ {μ : MM} {a k : Nat} {v : Int32}, W a → P μ → P (mm_I μ a k v)) (hJ : ∀ {μ : MM} {a k : Nat} {v : Int64}, W a → P μ → P (mm_J μ a k v)) (hF : ∀ {μ : MM} {a : Nat} {g : Nat → Int32}, W a → P μ → P (mm_F μ a g)) (hw : ∀ a, a < 355 → W a) {N : Nat} : ∀ (n : Nat) (x1 : Int32) (x2 : Int32) (x3 : Int32) (μ : MM), P μ → fm_O P (f_Gu_kindestRow_L6 N n x1 x2 x3 μ) := by
  intro n
  induction n with
  | zero => intros; exact fm_none
  | succ n ih =>
    intro x1 x2 x3 μ h0
    rw [f_Gu_kindestRow_L6]
    exact fm_ite (fm_some h0) (fm_ob (fr_Gu_isRow hI hJ hF hw h0) (fun t16 μ1z hm1z => fm_ite (ih _ _ _ _ hm1z) (fm_ob (fr_Gu_thingsFitting hI hJ hF hw hm1z) (fun t24 μ2z hm2z => fm_ite (ih _ _ _ _ hm2z) (fm_ite (ih _ _ _ _ hm2z) (ih _ _ _ _ hm2z))))))
set_option maxHeartbeats 1000000 in
theorem fr_Gu_kindestRow {W : Nat → Prop} {P : MM → Prop} (hI : ∀ {μ : MM} {a k : Nat} {v : Int32}, W a → P μ → P (mm_I μ a k v)) (hJ : ∀ {μ : MM} {a k : Nat} {v : Int64}, W a → P μ → P (mm_J μ a k v)) (hF : ∀ {μ : MM} {a : Nat} {g : Nat → Int32}, W a → P μ → P (mm_F μ a g)) (hw : ∀ a, a < 355 → W a) {N : Nat} {μ : MM} (h0 : P μ) : fm_O P (f_Gu_kindestRow N μ) := by
  unfold f_Gu_kindestRow
  exact fr_Gu_kindestRow_L6 hI hJ hF hw _ _ _ _ _ h0
set_option maxHeartbeats 1000000 in
theorem fr_Hi_forget {W : Nat → Prop} {P : MM → Prop} (hI : ∀ {μ : MM} {a k : Nat} {v : Int32}, W a → P μ → P (mm_I μ a k v)) (hJ : ∀ {μ : MM} {a k : Nat} {v : Int64}, W a → P μ → P (mm_J μ a k v)) (hF : ∀ {μ : MM} {a : Nat} {g : Nat → Int32}, W a → P μ → P (mm_F μ a g)) (hw : ∀ a, a < 355 → W a) {N : Nat} {μ : MM} (h0 : P μ) : fm_V P (f_Hi_forget N μ) := by
  unfold f_Hi_forget
  exact fm_wrV (hI (hw _ (by first | omega | (simp only [inb, Bool.and_eq_true, decide_eq_true_eq] at *; omega))) h0) (fun μ1z hm1z => fm_someV hm1z)
set_option maxHeartbeats 1000000 in
theorem fr_Hi_keep {W : Nat → Prop} {P : MM → Prop} (hI : ∀ {μ : MM} {a k : Nat} {v : Int32}, W a → P μ → P (mm_I μ a k v)) (hJ : ∀ {μ : MM} {a k : Nat} {v : Int64}, W a → P μ → P (mm_J μ a k v)) (hF : ∀ {μ : MM} {a : Nat} {g : Nat → Int32}, W a → P μ → P (mm_F μ a g)) (hw : ∀ a, a < 355 → W a) {N : Nat} {q1 : Nat} {μ : MM} (h0 : P μ) : fm_V P (f_Hi_keep N q1 μ) := by
  unfold f_Hi_keep
  exact fm_gdV (fun g1 => fm_obvV (fr_Sh_takeAll hI hJ hF hw (by first | omega | (simp only [inb, Bool.and_eq_true, decide_eq_true_eq] at *; omega)) h0) (fun μ1z hm1z => fm_wrV (hI (hw _ (by first | omega | (simp only [inb, Bool.and_eq_true, decide_eq_true_eq] at *; omega))) hm1z) (fun μ2z hm2z => fm_wrV (hI (hw _ (by first | omega | (simp only [inb, Bool.and_eq_true, decide_eq_true_eq] at *; omega))) hm2z) (fun μ3z hm3z => fm_someV hm3z))))
set_option maxHeartbeats 1000000 in
theorem fr_Hi_undoInto {W : Nat → Prop} {P : MM → Prop} (hI : ∀ {μ : MM} {a k : Nat} {v : Int32}, W a → P μ → P (mm_I μ a k v)) (hJ : ∀ {μ : MM} {a k : Nat} {v : Int64}, W a → P μ → P (mm_J μ a k v)) (hF : ∀ {μ : MM} {a : Nat} {g : Nat → Int32}, W a → P μ → P (mm_F μ a g)) (hw : ∀ a, a < 355 → W a) {N : Nat} {q1 : Nat} {μ : MM} (hw_q1 : q1 + 10 < 355) (h0 : P μ) : fm_O P (f_Hi_undoInto N q1 μ) := by
  unfold f_Hi_undoInto
  exact fm_ite (fm_some h0) (fm_wr (hI (hw _ (by first | omega | (simp only [inb, Bool.and_eq_true, decide_eq_true_eq] at *; omega))) h0) (fun μ1z hm1z => fm_wr (hI (hw _ (by first | omega | (simp only [inb, Bool.and_eq_true, decide_eq_true_eq] at *; omega))) hm1z) (fun μ2z hm2z => fm_gd (fun g1 => fm_obv (fr_Sh_takeAll hI hJ hF hw (by first | omega | (simp only [inb, Bool.and_eq_true, decide_eq_true_eq] at *; omega)) hm2z) (fun μ3z hm3z => fm_some hm3z)))))
set_option maxHeartbeats 1000000 in
theorem fr_Ta_rewind {W : Nat → Prop} {P : MM → Prop} (hI : ∀ {μ : MM} {a k : Nat} {v : Int32}, W a → P μ → P (mm_I μ a k v)) (hJ : ∀ {μ : MM} {a k : Nat} {v : Int64}, W a → P μ → P (mm_J μ a k v)) (hF : ∀ {μ : MM} {a : Nat} {g : Nat → Int32}, W a → P μ → P (mm_F μ a g)) (hw : ∀ a, a < 355 → W a) {N : Nat} {μ : MM} (h0 : P μ) : fm_V P (f_Ta_rewind N μ) := by
  unfold f_Ta_rewind
  exact fm_wrV (hI (hw _ (by first | omega | (simp only [inb, Bool.and_eq_true, decide_eq_true_eq] at *; omega))) h0) (fun μ1z hm1z => fm_someV hm1z)
set_option maxHeartbeats 1000000 in
theorem fr_Ta_peek_B38 {W : Nat → Prop} {P : MM → Prop} (hI : ∀ {μ : MM} {a k : Nat} {v : Int32}, W a → P μ → P (mm_I μ a k v)) (hJ : ∀ {μ : MM} {a k : Nat} {v : Int64}, W a → P μ → P (mm_J μ a k v)) (hF : ∀ {μ : MM} {a : Nat} {g : Nat → Int32}, W a → P μ → P (mm_F μ a g)) (hw : ∀ a, a < 355 → W a) {N : Nat} {μ : MM} (h0 : P μ) : fm_O P (f_Ta_peek_B38 N μ) := by
  unfold f_Ta_peek_B38
  exact fm_ite (fm_some h0) (fm_gd (fun g1 => fm_some h0))
set_option maxHeartbeats 1000000 in
theorem fr_Ta_peek_L0 {W : Nat → Prop} {P : MM → Prop} (hI : ∀ {μ : MM} {a k : Nat} {v : Int32}, W a → P μ → P (mm_I μ a k v)) (hJ : ∀ {μ : MM} {a k : Nat} {v : Int64}, W a → P μ → P (mm_J μ a k v)) (hF : ∀ {μ : MM} {a : Nat} {g : Nat → Int32}, W a → P μ → P (mm_F μ a g)) (hw : ∀ a, a < 355 → W a) {N : Nat} : ∀ (n : Nat) (μ : MM), P μ → fm_O P (f_Ta_peek_L0 N n μ) := by
  intro n
  induction n with
  | zero => intros; exact fm_none
  | succ n ih =>
    intro μ h0
    rw [f_Ta_peek_L0]
    exact fm_ite (fr_Ta_peek_B38 hI hJ hF hw h0) (fm_gd (fun g1 => fm_ite (fm_wr (hI (hw _ (by first | omega | (simp only [inb, Bool.and_eq_true, decide_eq_true_eq] at *; omega))) h0) (fun μ1z hm1z => ih _ hm1z)) (fr_Ta_peek_B38 hI hJ hF hw h0)))
set_option maxHeartbeats 1000000 in
theorem fr_Ta_peek {W : Nat → Prop} {P : MM → Prop} (hI : ∀ {μ : MM} {a k : Nat} {v : Int32}, W a → P μ → P (mm_I μ a k v)) (hJ : ∀ {μ : MM} {a k : Nat} {v : Int64}, W a → P μ → P (mm_J μ a k v)) (hF : ∀ {μ : MM} {a : Nat} {g : Nat → Int32}, W a → P μ → P (mm_F μ a g)) (hw : ∀ a, a < 355 → W a) {N : Nat} {μ : MM} (h0 : P μ) : fm_O P (f_Ta_peek N μ) := by
  unfold f_Ta_peek
  exact fr_Ta_peek_L0 hI hJ hF hw _ _ h0
set_option maxHeartbeats 1000000 in
theorem fr_Ta_step {W : Nat → Prop} {P : MM → Prop} (hI : ∀ {μ : MM} {a k : Nat} {v : Int32}, W a → P μ → P (mm_I μ a k v)) (hJ : ∀ {μ : MM} {a k : Nat} {v : Int64}, W a → P μ → P (mm_J μ a k v)) (hF : ∀ {μ : MM} {a : Nat} {g : Nat → Int32}, W a → P μ → P (mm_F μ a g)) (hw : ∀ a, a < 355 → W a) {N : Nat} {μ : MM} (h0 : P μ) : fm_V P (f_Ta_step N μ) := by
  unfold f_Ta_step
  exact fm_iteV (fm_someV h0) (fm_wrV (hI (hw _ (by first | omega | (simp only [inb, Bool.and_eq_true, decide_eq_true_eq] at *; omega))) h0) (fun μ1z hm1z => fm_someV hm1z))
set_option maxHeartbeats 1000000 in
theorem fr_Ta_accept {W : Nat → Prop} {P : MM → Prop} (hI : ∀ {μ : MM} {a k : Nat} {v : Int32}, W a → P μ → P (mm_I μ a k v)) (hJ : ∀ {μ : MM} {a k : Nat} {v : Int64}, W a → P μ → P (mm_J μ a k v)) (hF : ∀ {μ : MM} {a : Nat} {g : Nat → Int32}, W a → P μ → P (mm_F μ a g)) (hw : ∀ a, a < 355 → W a) {N : Nat} {x1 : Int32} {μ : MM} (h0 : P μ) : fm_O P (f_Ta_accept N x1 μ) := by
  unfold f_Ta_accept
  exact fm_ob (fr_Ta_peek hI hJ hF hw h0) (fun t1 μ1z hm1z => fm_ite (fm_obv (fr_Ta_step hI hJ hF hw hm1z) (fun μ2z hm2z => fm_some hm2z)) (fm_some hm1z))
set_option maxHeartbeats 1000000 in
theorem fr_St_isLatin1_aae02 {W : Nat → Prop} {P : MM → Prop} (hI : ∀ {μ : MM} {a k : Nat} {v : Int32}, W a → P μ → P (mm_I μ a k v)) (hJ : ∀ {μ : MM} {a k : Nat} {v : Int64}, W a → P μ → P (mm_J μ a k v)) (hF : ∀ {μ : MM} {a : Nat} {g : Nat → Int32}, W a → P μ → P (mm_F μ a g)) {N : Nat} {sx : Nat} {μ : MM} (h0 : P μ) : fm_O P (f_St_isLatin1_aae02 N sx μ) := by
  unfold f_St_isLatin1_aae02
  exact fm_ite (fm_some h0) (fm_ite (fm_some h0) (fm_some h0))
set_option maxHeartbeats 1000000 in
theorem fr_St_coder_7d493 {W : Nat → Prop} {P : MM → Prop} (hI : ∀ {μ : MM} {a k : Nat} {v : Int32}, W a → P μ → P (mm_I μ a k v)) (hJ : ∀ {μ : MM} {a k : Nat} {v : Int64}, W a → P μ → P (mm_J μ a k v)) (hF : ∀ {μ : MM} {a : Nat} {g : Nat → Int32}, W a → P μ → P (mm_F μ a g)) {N : Nat} {sx : Nat} {μ : MM} (h0 : P μ) : fm_O P (f_St_coder_7d493 N sx μ) := by
  unfold f_St_coder_7d493
  exact fm_gd (fun g1 => fm_some h0)
set_option maxHeartbeats 1000000 in
theorem fr_St_length_8abf5 {W : Nat → Prop} {P : MM → Prop} (hI : ∀ {μ : MM} {a k : Nat} {v : Int32}, W a → P μ → P (mm_I μ a k v)) (hJ : ∀ {μ : MM} {a k : Nat} {v : Int64}, W a → P μ → P (mm_J μ a k v)) (hF : ∀ {μ : MM} {a : Nat} {g : Nat → Int32}, W a → P μ → P (mm_F μ a g)) {N : Nat} {sx : Nat} {μ : MM} (h0 : P μ) : fm_O P (f_St_length_8abf5 N sx μ) := by
  unfold f_St_length_8abf5
  exact fm_ob (fr_St_coder_7d493 hI hJ hF h0) (fun t6 μ1z hm1z => fm_some hm1z)
set_option maxHeartbeats 1000000 in
theorem fr_Sl_canEncode_9a6ad {W : Nat → Prop} {P : MM → Prop} (hI : ∀ {μ : MM} {a k : Nat} {v : Int32}, W a → P μ → P (mm_I μ a k v)) (hJ : ∀ {μ : MM} {a k : Nat} {v : Int64}, W a → P μ → P (mm_J μ a k v)) (hF : ∀ {μ : MM} {a : Nat} {g : Nat → Int32}, W a → P μ → P (mm_F μ a g)) {N : Nat} {x0 : Int32} {μ : MM} (h0 : P μ) : fm_O P (f_Sl_canEncode_9a6ad N x0 μ) := by
  unfold f_Sl_canEncode_9a6ad
  exact fm_ite (fm_some h0) (fm_ite (fm_some h0) (fm_some h0))
set_option maxHeartbeats 1000000 in
theorem fr_Sl_indexOfChar_4cfef_L7 {W : Nat → Prop} {P : MM → Prop} (hI : ∀ {μ : MM} {a k : Nat} {v : Int32}, W a → P μ → P (mm_I μ a k v)) (hJ : ∀ {μ : MM} {a k : Nat} {v : Int64}, W a → P μ → P (mm_J μ a k v)) (hF : ∀ {μ : MM} {a : Nat} {g : Nat → Int32}, W a → P μ → P (mm_F μ a g)) {N : Nat} {q0 : Nat} : ∀ (n : Nat) (x3 : Int32) (x4 : Int32) (x5 : Int32) (μ : MM), P μ → fm_O P (f_Sl_indexOfChar_4cfef_L7 N q0 n x3 x4 x5 μ) := by
  intro n
  induction n with
  | zero => intros; exact fm_none
  | succ n ih =>
    intro x3 x4 x5 μ h0
    rw [f_Sl_indexOfChar_4cfef_L7]
    exact fm_ite (fm_some h0) (fm_gd (fun g1 => fm_ite (fm_some h0) (ih _ _ _ _ h0)))
set_option maxHeartbeats 1000000 in
theorem fr_Sl_indexOfChar_4cfef {W : Nat → Prop} {P : MM → Prop} (hI : ∀ {μ : MM} {a k : Nat} {v : Int32}, W a → P μ → P (mm_I μ a k v)) (hJ : ∀ {μ : MM} {a k : Nat} {v : Int64}, W a → P μ → P (mm_J μ a k v)) (hF : ∀ {μ : MM} {a : Nat} {g : Nat → Int32}, W a → P μ → P (mm_F μ a g)) {N : Nat} {q0 : Nat} {x1 : Int32} {x2 : Int32} {x3 : Int32} {μ : MM} (h0 : P μ) : fm_O P (f_Sl_indexOfChar_4cfef N q0 x1 x2 x3 μ) := by
  unfold f_Sl_indexOfChar_4cfef
  exact fr_Sl_indexOfChar_4cfef_L7 hI hJ hF _ _ _ _ _ h0
set_option maxHeartbeats 1000000 in
theorem fr_Sl_indexOf_4cfef {W : Nat → Prop} {P : MM → Prop} (hI : ∀ {μ : MM} {a k : Nat} {v : Int32}, W a → P μ → P (mm_I μ a k v)) (hJ : ∀ {μ : MM} {a k : Nat} {v : Int64}, W a → P μ → P (mm_J μ a k v)) (hF : ∀ {μ : MM} {a : Nat} {g : Nat → Int32}, W a → P μ → P (mm_F μ a g)) {N : Nat} {q0 : Nat} {x1 : Int32} {x2 : Int32} {x3 : Int32} {μ : MM} (h0 : P μ) : fm_O P (f_Sl_indexOf_4cfef N q0 x1 x2 x3 μ) := by
  unfold f_Sl_indexOf_4cfef
  exact fm_ob (fr_Sl_canEncode_9a6ad hI hJ hF h0) (fun t1 μ1z hm1z => fm_ite (fm_some hm1z) (fm_ite (fm_ob (fr_Sl_indexOfChar_4cfef hI hJ hF hm1z) (fun t33 μ2z hm2z => fm_some hm2z)) (fm_some hm1z)))
set_option maxHeartbeats 1000000 in
theorem fr_St_indexOf_7cf53 {W : Nat → Prop} {P : MM → Prop} (hI : ∀ {μ : MM} {a k : Nat} {v : Int32}, W a → P μ → P (mm_I μ a k v)) (hJ : ∀ {μ : MM} {a k : Nat} {v : Int64}, W a → P μ → P (mm_J μ a k v)) (hF : ∀ {μ : MM} {a : Nat} {g : Nat → Int32}, W a → P μ → P (mm_F μ a g)) {N : Nat} {sx : Nat} {x1 : Int32} {x2 : Int32} {μ : MM} (h0 : P μ) : fm_O P (f_St_indexOf_7cf53 N sx x1 x2 μ) := by
  unfold f_St_indexOf_7cf53
  exact fm_ob (fr_St_isLatin1_aae02 hI hJ hF h0) (fun t1 μ1z hm1z => fm_ite (fm_ob (fr_St_length_8abf5 hI hJ hF hm1z) (fun t30 μ2z hm2z => fm_none)) (fm_ob (fr_St_length_8abf5 hI hJ hF hm1z) (fun t14 μ3z hm3z => fm_ob (fr_Sl_indexOf_4cfef hI hJ hF hm3z) (fun t17 μ4z hm4z => fm_some hm4z))))
set_option maxHeartbeats 1000000 in
theorem fr_St_indexOf_0f7a4 {W : Nat → Prop} {P : MM → Prop} (hI : ∀ {μ : MM} {a k : Nat} {v : Int32}, W a → P μ → P (mm_I μ a k v)) (hJ : ∀ {μ : MM} {a k : Nat} {v : Int64}, W a → P μ → P (mm_J μ a k v)) (hF : ∀ {μ : MM} {a : Nat} {g : Nat → Int32}, W a → P μ → P (mm_F μ a g)) {N : Nat} {sx : Nat} {x1 : Int32} {μ : MM} (h0 : P μ) : fm_O P (f_St_indexOf_0f7a4 N sx x1 μ) := by
  unfold f_St_indexOf_0f7a4
  exact fm_ob (fr_St_indexOf_7cf53 hI hJ hF h0) (fun t3 μ1z hm1z => fm_some hm1z)
set_option maxHeartbeats 1000000 in
theorem fr_Lr_emit {W : Nat → Prop} {P : MM → Prop} (hI : ∀ {μ : MM} {a k : Nat} {v : Int32}, W a → P μ → P (mm_I μ a k v)) (hJ : ∀ {μ : MM} {a k : Nat} {v : Int64}, W a → P μ → P (mm_J μ a k v)) (hF : ∀ {μ : MM} {a : Nat} {g : Nat → Int32}, W a → P μ → P (mm_F μ a g)) (hw : ∀ a, a < 355 → W a) {N : Nat} {x1 : Int32} {μ : MM} (h0 : P μ) : fm_O P (f_Lr_emit N x1 μ) := by
  unfold f_Lr_emit
  exact fm_ite (fm_gd (fun g1 => fm_wr (hI (hw _ (by first | omega | (simp only [inb, Bool.and_eq_true, decide_eq_true_eq] at *; omega))) h0) (fun μ1z hm1z => fm_wr (hI (hw _ (by first | omega | (simp only [inb, Bool.and_eq_true, decide_eq_true_eq] at *; omega))) hm1z) (fun μ2z hm2z => fm_some hm2z)))) (fm_some h0)
set_option maxHeartbeats 1000000 in
theorem fr_Ta_readNumber_B118 {W : Nat → Prop} {P : MM → Prop} (hI : ∀ {μ : MM} {a k : Nat} {v : Int32}, W a → P μ → P (mm_I μ a k v)) (hJ : ∀ {μ : MM} {a k : Nat} {v : Int64}, W a → P μ → P (mm_J μ a k v)) (hF : ∀ {μ : MM} {a : Nat} {g : Nat → Int32}, W a → P μ → P (mm_F μ a g)) (hw : ∀ a, a < 355 → W a) {N : Nat} {x4 : Int32} {x5 : Int32} {μ : MM} (h0 : P μ) : fm_O P (f_Ta_readNumber_B118 N x4 x5 μ) := by
  unfold f_Ta_readNumber_B118
  exact fm_some h0
set_option maxHeartbeats 1000000 in
theorem fr_Ta_readNumber_B106 {W : Nat → Prop} {P : MM → Prop} (hI : ∀ {μ : MM} {a k : Nat} {v : Int32}, W a → P μ → P (mm_I μ a k v)) (hJ : ∀ {μ : MM} {a k : Nat} {v : Int64}, W a → P μ → P (mm_J μ a k v)) (hF : ∀ {μ : MM} {a : Nat} {g : Nat → Int32}, W a → P μ → P (mm_F μ a g)) (hw : ∀ a, a < 355 → W a) {N : Nat} {μ : MM} (h0 : P μ) : fm_O P (f_Ta_readNumber_B106 N μ) := by
  unfold f_Ta_readNumber_B106
  exact fm_wr (hI (hw _ (by first | omega | (simp only [inb, Bool.and_eq_true, decide_eq_true_eq] at *; omega))) h0) (fun μ1z hm1z => fm_some hm1z)
set_option maxHeartbeats 1000000 in
theorem fr_Ta_readNumber_B89 {W : Nat → Prop} {P : MM → Prop} (hI : ∀ {μ : MM} {a k : Nat} {v : Int32}, W a → P μ → P (mm_I μ a k v)) (hJ : ∀ {μ : MM} {a k : Nat} {v : Int64}, W a → P μ → P (mm_J μ a k v)) (hF : ∀ {μ : MM} {a : Nat} {g : Nat → Int32}, W a → P μ → P (mm_F μ a g)) (hw : ∀ a, a < 355 → W a) {N : Nat} {x2 : Int32} {x3 : Int32} {x4 : Int32} {x5 : Int32} {μ : MM} (h0 : P μ) : fm_O P (f_Ta_readNumber_B89 N x2 x3 x4 x5 μ) := by
  unfold f_Ta_readNumber_B89
  exact fm_ite (fr_Ta_readNumber_B118 hI hJ hF hw h0) (fm_ite (fr_Ta_readNumber_B106 hI hJ hF hw h0) (fm_ite (fr_Ta_readNumber_B118 hI hJ hF hw h0) (fr_Ta_readNumber_B106 hI hJ hF hw h0)))
set_option maxHeartbeats 1000000 in
theorem fr_Ta_readNumber_L6 {W : Nat → Prop} {P : MM → Prop} (hI : ∀ {μ : MM} {a k : Nat} {v : Int32}, W a → P μ → P (mm_I μ a k v)) (hJ : ∀ {μ : MM} {a k : Nat} {v : Int64}, W a → P μ → P (mm_J μ a k v)) (hF : ∀ {μ : MM} {a : Nat} {g : Nat → Int32}, W a → P μ → P (mm_F μ a g)) (hw : ∀ a, a < 355 → W a) {N : Nat} : ∀ (n : Nat) (x1 : Int32) (x2 : Int32) (x3 : Int32) (x4 : Int32) (x5 : Int32) (μ : MM), P μ → fm_O P (f_Ta_readNumber_L6 N n x1 x2 x3 x4 x5 μ) := by
  intro n
  induction n with
  | zero => intros; exact fm_none
  | succ n ih =>
    intro x1 x2 x3 x4 x5 μ h0
    rw [f_Ta_readNumber_L6]
    exact fm_ite (fr_Ta_readNumber_B89 hI hJ hF hw h0) (fm_gd (fun g1 => fm_ite (fr_Ta_readNumber_B89 hI hJ hF hw h0) (fm_gd (fun g2 => fm_ite (fr_Ta_readNumber_B89 hI hJ hF hw h0) (fm_ite (fm_some h0) (fm_gd (fun g3 => fm_wr (hI (hw _ (by first | omega | (simp only [inb, Bool.and_eq_true, decide_eq_true_eq] at *; omega))) h0) (fun μ2z hm2z => ih _ _ _ _ _ _ hm2z))))))))
set_option maxHeartbeats 1000000 in
theorem fr_Ta_readNumber {W : Nat → Prop} {P : MM → Prop} (hI : ∀ {μ : MM} {a k : Nat} {v : Int32}, W a → P μ → P (mm_I μ a k v)) (hJ : ∀ {μ : MM} {a k : Nat} {v : Int64}, W a → P μ → P (mm_J μ a k v)) (hF : ∀ {μ : MM} {a : Nat} {g : Nat → Int32}, W a → P μ → P (mm_F μ a g)) (hw : ∀ a, a < 355 → W a) {N : Nat} {x1 : Int32} {x2 : Int32} {x3 : Int32} {μ : MM} (h0 : P μ) : fm_O P (f_Ta_readNumber N x1 x2 x3 μ) := by
  unfold f_Ta_readNumber
  exact fr_Ta_readNumber_L6 hI hJ hF hw _ _ _ _ _ _ _ h0
set_option maxHeartbeats 1000000 in
theorem fr_Lr_joining {W : Nat → Prop} {P : MM → Prop} (hI : ∀ {μ : MM} {a k : Nat} {v : Int32}, W a → P μ → P (mm_I μ a k v)) (hJ : ∀ {μ : MM} {a k : Nat} {v : Int64}, W a → P μ → P (mm_J μ a k v)) (hF : ∀ {μ : MM} {a : Nat} {g : Nat → Int32}, W a → P μ → P (mm_F μ a g)) (hw : ∀ a, a < 355 → W a) {N : Nat} {x1 : Int32} {μ : MM} (h0 : P μ) : fm_O P (f_Lr_joining N x1 μ) := by
  unfold f_Lr_joining
  exact fm_ite (fm_some h0) (fm_ite (fm_some h0) (fm_ite (fm_some h0) (fm_ite (fm_some h0) (fm_ite (fm_some h0) (fm_ite (fm_some h0) (fm_some h0))))))
set_option maxHeartbeats 1000000 in
theorem fr_Lr_readSum_B127 {W : Nat → Prop} {P : MM → Prop} (hI : ∀ {μ : MM} {a k : Nat} {v : Int32}, W a → P μ → P (mm_I μ a k v)) (hJ : ∀ {μ : MM} {a k : Nat} {v : Int64}, W a → P μ → P (mm_J μ a k v)) (hF : ∀ {μ : MM} {a : Nat} {g : Nat → Int32}, W a → P μ → P (mm_F μ a g)) (hw : ∀ a, a < 355 → W a) {N : Nat} {rc_X4_readSum : Int32 → MM → Option (Int32 × MM)} {rc_X4_readAtom : Int32 → MM → Option (Int32 × MM)} {x2 : Int32} {μ : MM} (hrc_X4_readSum : ∀ (z0 : Int32) (z1 : MM), P z1 → fm_O P (rc_X4_readSum z0 z1)) (hrc_X4_readAtom : ∀ (z0 : Int32) (z1 : MM), P z1 → fm_O P (rc_X4_readAtom z0 z1)) (h0 : P μ) : fm_O P (f_Lr_readSum_B127 N rc_X4_readSum rc_X4_readAtom x2 μ) := by
  unfold f_Lr_readSum_B127
  exact fm_ite (fm_some h0) (fm_ob (fr_Lr_emit hI hJ hF hw h0) (fun t133 μ2z hm2z => fm_ite (fm_some hm2z) (fm_some hm2z)))
set_option maxHeartbeats 1000000 in
theorem fr_Lr_readSum_B113 {W : Nat → Prop} {P : MM → Prop} (hI : ∀ {μ : MM} {a k : Nat} {v : Int32}, W a → P μ → P (mm_I μ a k v)) (hJ : ∀ {μ : MM} {a k : Nat} {v : Int64}, W a → P μ → P (mm_J μ a k v)) (hF : ∀ {μ : MM} {a : Nat} {g : Nat → Int32}, W a → P μ → P (mm_F μ a g)) (hw : ∀ a, a < 355 → W a) {N : Nat} {rc_X4_readSum : Int32 → MM → Option (Int32 × MM)} {rc_X4_readAtom : Int32 → MM → Option (Int32 × MM)} {k14 : Int32 → Int32 → Int32 → MM → Option (Int32 × MM)} {x1 : Int32} {x2 : Int32} {x3 : Int32} {x4 : Int32} {x5 : Int32} {μ : MM} (hrc_X4_readSum : ∀ (z0 : Int32) (z1 : MM), P z1 → fm_O P (rc_X4_readSum z0 z1)) (hrc_X4_readAtom : ∀ (z0 : Int32) (z1 : MM), P z1 → fm_O P (rc_X4_readAtom z0 z1)) (hk14 : ∀ (z0 : Int32) (z1 : Int32) (z2 : Int32) (z3 : MM), P z3 → fm_O P (k14 z0 z1 z2 z3)) (h0 : P μ) : fm_O P (f_Lr_readSum_B113 N rc_X4_readSum rc_X4_readAtom k14 x1 x2 x3 x4 x5 μ) := by
  unfold f_Lr_readSum_B113
  exact hk14 _ _ _ _ h0
set_option maxHeartbeats 1000000 in
theorem fr_Lr_readSum_B89 {W : Nat → Prop} {P : MM → Prop} (hI : ∀ {μ : MM} {a k : Nat} {v : Int32}, W a → P μ → P (mm_I μ a k v)) (hJ : ∀ {μ : MM} {a k : Nat} {v : Int64}, W a → P μ → P (mm_J μ a k v)) (hF : ∀ {μ : MM} {a : Nat} {g : Nat → Int32}, W a → P μ → P (mm_F μ a g)) (hw : ∀ a, a < 355 → W a) {N : Nat} {rc_X4_readSum : Int32 → MM → Option (Int32 × MM)} {rc_X4_readAtom : Int32 → MM → Option (Int32 × MM)} {k14 : Int32 → Int32 → Int32 → MM → Option (Int32 × MM)} {x1 : Int32} {x2 : Int32} {x3 : Int32} {x4 : Int32} {x5 : Int32} {μ : MM} (hrc_X4_readSum : ∀ (z0 : Int32) (z1 : MM), P z1 → fm_O P (rc_X4_readSum z0 z1)) (hrc_X4_readAtom : ∀ (z0 : Int32) (z1 : MM), P z1 → fm_O P (rc_X4_readAtom z0 z1)) (hk14 : ∀ (z0 : Int32) (z1 : Int32) (z2 : Int32) (z3 : MM), P z3 → fm_O P (k14 z0 z1 z2 z3)) (h0 : P μ) : fm_O P (f_Lr_readSum_B89 N rc_X4_readSum rc_X4_readAtom k14 x1 x2 x3 x4 x5 μ) := by
  unfold f_Lr_readSum_B89
  exact fm_ob (hrc_X4_readAtom _ _ h0) (fun t91 μ6z hm6z => fm_ite (fm_some hm6z) (fm_ite (fm_ob (fr_Lr_emit hI hJ hF hw hm6z) (fun t105 μ7z hm7z => fm_ite (fm_some hm7z) (fr_Lr_readSum_B113 hI hJ hF hw (hrc_X4_readSum) (hrc_X4_readAtom) (hk14) hm7z))) (fr_Lr_readSum_B113 hI hJ hF hw (hrc_X4_readSum) (hrc_X4_readAtom) (hk14) hm6z)))
set_option maxHeartbeats 1000000 in
theorem fr_Lr_readSum_B61 {W : Nat → Prop} {P : MM → Prop} (hI : ∀ {μ : MM} {a k : Nat} {v : Int32}, W a → P μ → P (mm_I μ a k v)) (hJ : ∀ {μ : MM} {a k : Nat} {v : Int64}, W a → P μ → P (mm_J μ a k v)) (hF : ∀ {μ : MM} {a : Nat} {g : Nat → Int32}, W a → P μ → P (mm_F μ a g)) (hw : ∀ a, a < 355 → W a) {N : Nat} {rc_X4_readSum : Int32 → MM → Option (Int32 × MM)} {rc_X4_readAtom : Int32 → MM → Option (Int32 × MM)} {k14 : Int32 → Int32 → Int32 → MM → Option (Int32 × MM)} {x1 : Int32} {x2 : Int32} {x3 : Int32} {x4 : Int32} {s0 : Int32} {μ : MM} (hrc_X4_readSum : ∀ (z0 : Int32) (z1 : MM), P z1 → fm_O P (rc_X4_readSum z0 z1)) (hrc_X4_readAtom : ∀ (z0 : Int32) (z1 : MM), P z1 → fm_O P (rc_X4_readAtom z0 z1)) (hk14 : ∀ (z0 : Int32) (z1 : Int32) (z2 : Int32) (z3 : MM), P z3 → fm_O P (k14 z0 z1 z2 z3)) (h0 : P μ) : fm_O P (f_Lr_readSum_B61 N rc_X4_readSum rc_X4_readAtom k14 x1 x2 x3 x4 s0 μ) := by
  unfold f_Lr_readSum_B61
  exact fm_obv (fr_Ta_step hI hJ hF hw h0) (fun μ5z hm5z => fm_ite (fr_Lr_readSum_B89 hI hJ hF hw (hrc_X4_readSum) (hrc_X4_readAtom) (hk14) hm5z) (fm_ite (fr_Lr_readSum_B89 hI hJ hF hw (hrc_X4_readSum) (hrc_X4_readAtom) (hk14) hm5z) (fm_ob (fr_Lr_emit hI hJ hF hw hm5z) (fun t81 μ8z hm8z => fm_ite (fm_some hm8z) (fr_Lr_readSum_B89 hI hJ hF hw (hrc_X4_readSum) (hrc_X4_readAtom) (hk14) hm8z)))))
set_option maxHeartbeats 1000000 in
theorem fr_Lr_readSum_B56 {W : Nat → Prop} {P : MM → Prop} (hI : ∀ {μ : MM} {a k : Nat} {v : Int32}, W a → P μ → P (mm_I μ a k v)) (hJ : ∀ {μ : MM} {a k : Nat} {v : Int64}, W a → P μ → P (mm_J μ a k v)) (hF : ∀ {μ : MM} {a : Nat} {g : Nat → Int32}, W a → P μ → P (mm_F μ a g)) (hw : ∀ a, a < 355 → W a) {N : Nat} {rc_X4_readSum : Int32 → MM → Option (Int32 × MM)} {rc_X4_readAtom : Int32 → MM → Option (Int32 × MM)} {k14 : Int32 → Int32 → Int32 → MM → Option (Int32 × MM)} {x1 : Int32} {x2 : Int32} {x3 : Int32} {x4 : Int32} {μ : MM} (hrc_X4_readSum : ∀ (z0 : Int32) (z1 : MM), P z1 → fm_O P (rc_X4_readSum z0 z1)) (hrc_X4_readAtom : ∀ (z0 : Int32) (z1 : MM), P z1 → fm_O P (rc_X4_readAtom z0 z1)) (hk14 : ∀ (z0 : Int32) (z1 : Int32) (z2 : Int32) (z3 : MM), P z3 → fm_O P (k14 z0 z1 z2 z3)) (h0 : P μ) : fm_O P (f_Lr_readSum_B56 N rc_X4_readSum rc_X4_readAtom k14 x1 x2 x3 x4 μ) := by
  unfold f_Lr_readSum_B56
  exact fr_Lr_readSum_B61 hI hJ hF hw (hrc_X4_readSum) (hrc_X4_readAtom) (hk14) h0
set_option maxHeartbeats 1000000 in
theorem fr_Lr_readSum_L14 {W : Nat → Prop} {P : MM → Prop} (hI : ∀ {μ : MM} {a k : Nat} {v : Int32}, W a → P μ → P (mm_I μ a k v)) (hJ : ∀ {μ : MM} {a k : Nat} {v : Int64}, W a → P μ → P (mm_J μ a k v)) (hF : ∀ {μ : MM} {a : Nat} {g : Nat → Int32}, W a → P μ → P (mm_F μ a g)) (hw : ∀ a, a < 355 → W a) {N : Nat} {rc_X4_readSum : Int32 → MM → Option (Int32 × MM)} {rc_X4_readAtom : Int32 → MM → Option (Int32 × MM)} (hrc_X4_readSum : ∀ (z0 : Int32) (z1 : MM), P z1 → fm_O P (rc_X4_readSum z0 z1)) (hrc_X4_readAtom : ∀ (z0 : Int32) (z1 : MM), P z1 → fm_O P (rc_X4_readAtom z0 z1)) : ∀ (n : Nat) (x1 : Int32) (x2 : Int32) (x3 : Int32) (μ : MM), P μ → fm_O P (f_Lr_readSum_L14 N rc_X4_readSum rc_X4_readAtom n x1 x2 x3 μ) := by
  intro n
  induction n with
  | zero => intros; exact fm_none
  | succ n ih =>
    intro x1 x2 x3 μ h0
    rw [f_Lr_readSum_L14]
    exact fm_ite (fr_Lr_readSum_B127 hI hJ hF hw (hrc_X4_readSum) (hrc_X4_readAtom) h0) (fm_ob (fr_Ta_peek hI hJ hF hw h0) (fun t26 μ3z hm3z => fm_ob (fr_Lr_joining hI hJ hF hw hm3z) (fun t29 μ4z hm4z => fm_ite (fr_Lr_readSum_B127 hI hJ hF hw (hrc_X4_readSum) (hrc_X4_readAtom) hm4z) (fm_ite (fr_Lr_readSum_B56 hI hJ hF hw (hrc_X4_readSum) (hrc_X4_readAtom) (ih) hm4z) (fm_ite (fr_Lr_readSum_B56 hI hJ hF hw (hrc_X4_readSum) (hrc_X4_readAtom) (ih) hm4z) (fr_Lr_readSum_B61 hI hJ hF hw (hrc_X4_readSum) (hrc_X4_readAtom) (ih) hm4z))))))
set_option maxHeartbeats 1000000 in
theorem fr_Lr_readSum_body {W : Nat → Prop} {P : MM → Prop} (hI : ∀ {μ : MM} {a k : Nat} {v : Int32}, W a → P μ → P (mm_I μ a k v)) (hJ : ∀ {μ : MM} {a k : Nat} {v : Int64}, W a → P μ → P (mm_J μ a k v)) (hF : ∀ {μ : MM} {a : Nat} {g : Nat → Int32}, W a → P μ → P (mm_F μ a g)) (hw : ∀ a, a < 355 → W a) {N : Nat} {rc_X4_readSum : Int32 → MM → Option (Int32 × MM)} {rc_X4_readAtom : Int32 → MM → Option (Int32 × MM)} {x1 : Int32} {μ : MM} (hrc_X4_readSum : ∀ (z0 : Int32) (z1 : MM), P z1 → fm_O P (rc_X4_readSum z0 z1)) (hrc_X4_readAtom : ∀ (z0 : Int32) (z1 : MM), P z1 → fm_O P (rc_X4_readAtom z0 z1)) (h0 : P μ) : fm_O P (f_Lr_readSum_body N rc_X4_readSum rc_X4_readAtom x1 μ) := by
  unfold f_Lr_readSum_body
  exact fm_ob (hrc_X4_readAtom _ _ h0) (fun t2 μ1z hm1z => fm_ite (fm_some hm1z) (fr_Lr_readSum_L14 hI hJ hF hw (hrc_X4_readSum) (hrc_X4_readAtom) _ _ _ _ _ hm1z))
set_option maxHeartbeats 1000000 in
theorem fr_Lr_readAtom_B78 {W : Nat → Prop} {P : MM → Prop} (hI : ∀ {μ : MM} {a k : Nat} {v : Int32}, W a → P μ → P (mm_I μ a k v)) (hJ : ∀ {μ : MM} {a k : Nat} {v : Int64}, W a → P μ → P (mm_J μ a k v)) (hF : ∀ {μ : MM} {a : Nat} {g : Nat → Int32}, W a → P μ → P (mm_F μ a g)) (hw : ∀ a, a < 355 → W a) {N : Nat} {rc_X4_readSum : Int32 → MM → Option (Int32 × MM)} {rc_X4_readAtom : Int32 → MM → Option (Int32 × MM)} {s0 : Int32} {μ : MM} (hrc_X4_readSum : ∀ (z0 : Int32) (z1 : MM), P z1 → fm_O P (rc_X4_readSum z0 z1)) (hrc_X4_readAtom : ∀ (z0 : Int32) (z1 : MM), P z1 → fm_O P (rc_X4_readAtom z0 z1)) (h0 : P μ) : fm_O P (f_Lr_readAtom_B78 N rc_X4_readSum rc_X4_readAtom s0 μ) := by
  unfold f_Lr_readAtom_B78
  exact fm_ite (fm_ob (fr_Ta_readNumber hI hJ hF hw h0) (fun t107 μ3z hm3z => fm_ite (fm_some hm3z) (fm_ob (fr_Lr_emit hI hJ hF hw hm3z) (fun t121 μ4z hm4z => fm_ite (fm_some hm4z) (fm_some hm4z))))) (fm_obv (fr_Ta_step hI hJ hF hw h0) (fun μ5z hm5z => fm_ob (fr_Lr_emit hI hJ hF hw hm5z) (fun t94 μ6z hm6z => fm_gd (fun g1 => fm_some hm6z))))
set_option maxHeartbeats 1000000 in
theorem fr_Lr_readAtom_body {W : Nat → Prop} {P : MM → Prop} (hI : ∀ {μ : MM} {a k : Nat} {v : Int32}, W a → P μ → P (mm_I μ a k v)) (hJ : ∀ {μ : MM} {a k : Nat} {v : Int64}, W a → P μ → P (mm_J μ a k v)) (hF : ∀ {μ : MM} {a : Nat} {g : Nat → Int32}, W a → P μ → P (mm_F μ a g)) (hw : ∀ a, a < 355 → W a) {N : Nat} {rc_X4_readSum : Int32 → MM → Option (Int32 × MM)} {rc_X4_readAtom : Int32 → MM → Option (Int32 × MM)} {x1 : Int32} {μ : MM} (hrc_X4_readSum : ∀ (z0 : Int32) (z1 : MM), P z1 → fm_O P (rc_X4_readSum z0 z1)) (hrc_X4_readAtom : ∀ (z0 : Int32) (z1 : MM), P z1 → fm_O P (rc_X4_readAtom z0 z1)) (h0 : P μ) : fm_O P (f_Lr_readAtom_body N rc_X4_readSum rc_X4_readAtom x1 μ) := by
  unfold f_Lr_readAtom_body
  exact fm_ob (fr_Ta_peek hI hJ hF hw h0) (fun t4 μ1z hm1z => fm_ite (fm_ite (fm_obv (fr_Ta_step hI hJ hF hw hm1z) (fun μ7z hm7z => fm_ob (hrc_X4_readSum _ _ hm7z) (fun t33 μ8z hm8z => fm_ite (fm_some hm8z) (fm_ob (fr_Ta_peek hI hJ hF hw hm8z) (fun t43 μ9z hm9z => fm_ite (fm_obv (fr_Ta_step hI hJ hF hw hm9z) (fun μ10z hm10z => fm_some hm10z)) (fm_some hm9z)))))) (fm_some hm1z)) (fm_ite (fr_Lr_readAtom_B78 hI hJ hF hw (hrc_X4_readSum) (hrc_X4_readAtom) hm1z) (fm_ob (fr_St_indexOf_0f7a4 hI hJ hF hm1z) (fun t75 μ2z hm2z => fr_Lr_readAtom_B78 hI hJ hF hw (hrc_X4_readSum) (hrc_X4_readAtom) hm2z))))
set_option maxHeartbeats 1000000 in
theorem fr_cl_Lr_readSum {W : Nat → Prop} {P : MM → Prop} (hI : ∀ {μ : MM} {a k : Nat} {v : Int32}, W a → P μ → P (mm_I μ a k v)) (hJ : ∀ {μ : MM} {a k : Nat} {v : Int64}, W a → P μ → P (mm_J μ a k v)) (hF : ∀ {μ : MM} {a : Nat} {g : Nat → Int32}, W a → P μ → P (mm_F μ a g)) (hw : ∀ a, a < 355 → W a) {N : Nat} : ∀ (t : Nat) (g : Nat) (a0 : Int32) (μ : MM), P μ → fm_O P (f_cl_Lr_readSum N t g a0 μ) := by
  intro t
  induction t with
  | zero => intros; exact fm_none
  | succ t ih =>
    intro g a0 μ h0
    rw [f_cl_Lr_readSum]
    exact fm_ite (fr_Lr_readSum_body hI hJ hF hw (fun _ _ h9 => ih _ _ _ h9) (fun _ _ h9 => ih _ _ _ h9) h0) (fr_Lr_readAtom_body hI hJ hF hw (fun _ _ h9 => ih _ _ _ h9) (fun _ _ h9 => ih _ _ _ h9) h0)
set_option maxHeartbeats 1000000 in
theorem fr_Lr_readSum {W : Nat → Prop} {P : MM → Prop} (hI : ∀ {μ : MM} {a k : Nat} {v : Int32}, W a → P μ → P (mm_I μ a k v)) (hJ : ∀ {μ : MM} {a k : Nat} {v : Int64}, W a → P μ → P (mm_J μ a k v)) (hF : ∀ {μ : MM} {a : Nat} {g : Nat → Int32}, W a → P μ → P (mm_F μ a g)) (hw : ∀ a, a < 355 → W a) {N : Nat} {x1 : Int32} {μ : MM} (h0 : P μ) : fm_O P (f_Lr_readSum N x1 μ) := by
  unfold f_Lr_readSum
  exact fr_cl_Lr_readSum hI hJ hF hw _ _ _ _ h0
set_option maxHeartbeats 1000000 in
theorem fr_Lr_readAtom {W : Nat → Prop} {P : MM → Prop} (hI : ∀ {μ : MM} {a k : Nat} {v : Int32}, W a → P μ → P (mm_I μ a k v)) (hJ : ∀ {μ : MM} {a k : Nat} {v : Int64}, W a → P μ → P (mm_J μ a k v)) (hF : ∀ {μ : MM} {a : Nat} {g : Nat → Int32}, W a → P μ → P (mm_F μ a g)) (hw : ∀ a, a < 355 → W a) {N : Nat} {x1 : Int32} {μ : MM} (h0 : P μ) : fm_O P (f_Lr_readAtom N x1 μ) := by
  unfold f_Lr_readAtom
  exact fr_cl_Lr_readSum hI hJ hF hw _ _ _ _ h0
set_option maxHeartbeats 1000000 in
theorem fr_Lr_isComparing {W : Nat → Prop} {P : MM → Prop} (hI : ∀ {μ : MM} {a k : Nat} {v : Int32}, W a → P μ → P (mm_I μ a k v)) (hJ : ∀ {μ : MM} {a k : Nat} {v : Int64}, W a → P μ → P (mm_J μ a k v)) (hF : ∀ {μ : MM} {a : Nat} {g : Nat → Int32}, W a → P μ → P (mm_F μ a g)) (hw : ∀ a, a < 355 → W a) {N : Nat} {x1 : Int32} {μ : MM} (h0 : P μ) : fm_O P (f_Lr_isComparing N x1 μ) := by
  unfold f_Lr_isComparing
  exact fm_ite (fm_some h0) (fm_ite (fm_some h0) (fm_ite (fm_some h0) (fm_some h0)))
set_option maxHeartbeats 1000000 in
theorem fr_Lr_readComparison_B49 {W : Nat → Prop} {P : MM → Prop} (hI : ∀ {μ : MM} {a k : Nat} {v : Int32}, W a → P μ → P (mm_I μ a k v)) (hJ : ∀ {μ : MM} {a k : Nat} {v : Int64}, W a → P μ → P (mm_J μ a k v)) (hF : ∀ {μ : MM} {a : Nat} {g : Nat → Int32}, W a → P μ → P (mm_F μ a g)) (hw : ∀ a, a < 355 → W a) {N : Nat} {x1 : Int32} {s0 : Int32} {μ : MM} (h0 : P μ) : fm_O P (f_Lr_readComparison_B49 N x1 s0 μ) := by
  unfold f_Lr_readComparison_B49
  exact fm_ob (fr_Lr_readSum hI hJ hF hw h0) (fun t52 μ4z hm4z => fm_ite (fm_some hm4z) (fm_ob (fr_Lr_emit hI hJ hF hw hm4z) (fun t60 μ5z hm5z => fm_ite (fm_some hm5z) (fm_some hm5z))))
set_option maxHeartbeats 1000000 in
theorem fr_Lr_readComparison {W : Nat → Prop} {P : MM → Prop} (hI : ∀ {μ : MM} {a k : Nat} {v : Int32}, W a → P μ → P (mm_I μ a k v)) (hJ : ∀ {μ : MM} {a k : Nat} {v : Int64}, W a → P μ → P (mm_J μ a k v)) (hF : ∀ {μ : MM} {a : Nat} {g : Nat → Int32}, W a → P μ → P (mm_F μ a g)) (hw : ∀ a, a < 355 → W a) {N : Nat} {x1 : Int32} {μ : MM} (h0 : P μ) : fm_O P (f_Lr_readComparison N x1 μ) := by
  unfold f_Lr_readComparison
  exact fm_ob (fr_Ta_peek hI hJ hF hw h0) (fun t4 μ1z hm1z => fm_ob (fr_Lr_isComparing hI hJ hF hw hm1z) (fun t10 μ2z hm2z => fm_ite (fm_some hm2z) (fm_obv (fr_Ta_step hI hJ hF hw hm2z) (fun μ3z hm3z => fr_Lr_readComparison_B49 hI hJ hF hw hm3z))))
set_option maxHeartbeats 1000000 in
theorem fr_Lr_readUnit_B42 {W : Nat → Prop} {P : MM → Prop} (hI : ∀ {μ : MM} {a k : Nat} {v : Int32}, W a → P μ → P (mm_I μ a k v)) (hJ : ∀ {μ : MM} {a k : Nat} {v : Int64}, W a → P μ → P (mm_J μ a k v)) (hF : ∀ {μ : MM} {a : Nat} {g : Nat → Int32}, W a → P μ → P (mm_F μ a g)) (hw : ∀ a, a < 355 → W a) {N : Nat} {rc_X4_readUnit : Int32 → MM → Option (Int32 × MM)} {rc_X4_readMoreUnits : Int32 → MM → Option (Int32 × MM)} {x1 : Int32} {x2 : Int32} {μ : MM} (hrc_X4_readUnit : ∀ (z0 : Int32) (z1 : MM), P z1 → fm_O P (rc_X4_readUnit z0 z1)) (hrc_X4_readMoreUnits : ∀ (z0 : Int32) (z1 : MM), P z1 → fm_O P (rc_X4_readMoreUnits z0 z1)) (h0 : P μ) : fm_O P (f_Lr_readUnit_B42 N rc_X4_readUnit rc_X4_readMoreUnits x1 x2 μ) := by
  unfold f_Lr_readUnit_B42
  exact fm_ite (fm_obv (fr_Ta_step hI hJ hF hw h0) (fun μ2z hm2z => fm_ite (fm_ob (hrc_X4_readUnit _ _ hm2z) (fun t67 μ6z hm6z => fm_ite (fm_some hm6z) (fm_ob (fr_Lr_emit hI hJ hF hw hm6z) (fun t76 μ7z hm7z => fm_ite (fm_some hm7z) (fm_some hm7z))))) (fm_ob (hrc_X4_readUnit _ _ hm2z) (fun t92 μ3z hm3z => fm_ite (fm_some hm3z) (fm_ob (hrc_X4_readMoreUnits _ _ hm3z) (fun t102 μ4z hm4z => fm_ite (fm_some hm4z) (fm_ob (fr_Ta_accept hI hJ hF hw hm4z) (fun t114 μ5z hm5z => fm_ite (fm_some hm5z) (fm_some hm5z))))))))) (fm_some h0)
set_option maxHeartbeats 1000000 in
theorem fr_Lr_readUnit_body {W : Nat → Prop} {P : MM → Prop} (hI : ∀ {μ : MM} {a k : Nat} {v : Int32}, W a → P μ → P (mm_I μ a k v)) (hJ : ∀ {μ : MM} {a k : Nat} {v : Int64}, W a → P μ → P (mm_J μ a k v)) (hF : ∀ {μ : MM} {a : Nat} {g : Nat → Int32}, W a → P μ → P (mm_F μ a g)) (hw : ∀ a, a < 355 → W a) {N : Nat} {rc_X4_readUnit : Int32 → MM → Option (Int32 × MM)} {rc_X4_readMoreUnits : Int32 → MM → Option (Int32 × MM)} {x1 : Int32} {μ : MM} (hrc_X4_readUnit : ∀ (z0 : Int32) (z1 : MM), P z1 → fm_O P (rc_X4_readUnit z0 z1)) (hrc_X4_readMoreUnits : ∀ (z0 : Int32) (z1 : MM), P z1 → fm_O P (rc_X4_readMoreUnits z0 z1)) (h0 : P μ) : fm_O P (f_Lr_readUnit_body N rc_X4_readUnit rc_X4_readMoreUnits x1 μ) := by
  unfold f_Lr_readUnit_body
  exact fm_ob (fr_Ta_peek hI hJ hF hw h0) (fun t4 μ1z hm1z => fm_ite (fr_Lr_readUnit_B42 hI hJ hF hw (hrc_X4_readUnit) (hrc_X4_readMoreUnits) hm1z) (fm_ite (fr_Lr_readUnit_B42 hI hJ hF hw (hrc_X4_readUnit) (hrc_X4_readMoreUnits) hm1z) (fm_ob (fr_Lr_readSum hI hJ hF hw hm1z) (fun t22 μ8z hm8z => fm_ite (fm_some hm8z) (fm_ob (fr_Lr_readComparison hI hJ hF hw hm8z) (fun t30 μ9z hm9z => fm_ite (fm_some hm9z) (fm_some hm9z)))))))
set_option maxHeartbeats 1000000 in
theorem fr_Lr_readMoreUnits_B100 {W : Nat → Prop} {P : MM → Prop} (hI : ∀ {μ : MM} {a k : Nat} {v : Int32}, W a → P μ → P (mm_I μ a k v)) (hJ : ∀ {μ : MM} {a k : Nat} {v : Int64}, W a → P μ → P (mm_J μ a k v)) (hF : ∀ {μ : MM} {a : Nat} {g : Nat → Int32}, W a → P μ → P (mm_F μ a g)) (hw : ∀ a, a < 355 → W a) {N : Nat} {rc_X4_readUnit : Int32 → MM → Option (Int32 × MM)} {rc_X4_readMoreUnits : Int32 → MM → Option (Int32 × MM)} {x2 : Int32} {μ : MM} (hrc_X4_readUnit : ∀ (z0 : Int32) (z1 : MM), P z1 → fm_O P (rc_X4_readUnit z0 z1)) (hrc_X4_readMoreUnits : ∀ (z0 : Int32) (z1 : MM), P z1 → fm_O P (rc_X4_readMoreUnits z0 z1)) (h0 : P μ) : fm_O P (f_Lr_readMoreUnits_B100 N rc_X4_readUnit rc_X4_readMoreUnits x2 μ) := by
  unfold f_Lr_readMoreUnits_B100
  exact fm_ite (fm_some h0) (fm_ob (fr_Lr_emit hI hJ hF hw h0) (fun t107 μ1z hm1z => fm_ite (fm_some hm1z) (fm_some hm1z)))
set_option maxHeartbeats 1000000 in
theorem fr_Lr_readMoreUnits_B68 {W : Nat → Prop} {P : MM → Prop} (hI : ∀ {μ : MM} {a k : Nat} {v : Int32}, W a → P μ → P (mm_I μ a k v)) (hJ : ∀ {μ : MM} {a k : Nat} {v : Int64}, W a → P μ → P (mm_J μ a k v)) (hF : ∀ {μ : MM} {a : Nat} {g : Nat → Int32}, W a → P μ → P (mm_F μ a g)) (hw : ∀ a, a < 355 → W a) {N : Nat} {rc_X4_readUnit : Int32 → MM → Option (Int32 × MM)} {rc_X4_readMoreUnits : Int32 → MM → Option (Int32 × MM)} {k4 : Int32 → Int32 → Int32 → MM → Option (Int32 × MM)} {x1 : Int32} {x2 : Int32} {x3 : Int32} {x4 : Int32} {μ : MM} (hrc_X4_readUnit : ∀ (z0 : Int32) (z1 : MM), P z1 → fm_O P (rc_X4_readUnit z0 z1)) (hrc_X4_readMoreUnits : ∀ (z0 : Int32) (z1 : MM), P z1 → fm_O P (rc_X4_readMoreUnits z0 z1)) (hk4 : ∀ (z0 : Int32) (z1 : Int32) (z2 : Int32) (z3 : MM), P z3 → fm_O P (k4 z0 z1 z2 z3)) (h0 : P μ) : fm_O P (f_Lr_readMoreUnits_B68 N rc_X4_readUnit rc_X4_readMoreUnits k4 x1 x2 x3 x4 μ) := by
  unfold f_Lr_readMoreUnits_B68
  exact fm_ob (hrc_X4_readUnit _ _ h0) (fun t70 μ4z hm4z => fm_ite (fm_some hm4z) (fm_ite (fm_ob (fr_Lr_emit hI hJ hF hw hm4z) (fun t86 μ5z hm5z => fm_ite (fm_some hm5z) (hk4 _ _ _ _ hm5z))) (hk4 _ _ _ _ hm4z)))
set_option maxHeartbeats 1000000 in
theorem fr_Lr_readMoreUnits_B66 {W : Nat → Prop} {P : MM → Prop} (hI : ∀ {μ : MM} {a k : Nat} {v : Int32}, W a → P μ → P (mm_I μ a k v)) (hJ : ∀ {μ : MM} {a k : Nat} {v : Int64}, W a → P μ → P (mm_J μ a k v)) (hF : ∀ {μ : MM} {a : Nat} {g : Nat → Int32}, W a → P μ → P (mm_F μ a g)) (hw : ∀ a, a < 355 → W a) {N : Nat} {rc_X4_readUnit : Int32 → MM → Option (Int32 × MM)} {rc_X4_readMoreUnits : Int32 → MM → Option (Int32 × MM)} {k4 : Int32 → Int32 → Int32 → MM → Option (Int32 × MM)} {x1 : Int32} {x3 : Int32} {x4 : Int32} {μ : MM} (hrc_X4_readUnit : ∀ (z0 : Int32) (z1 : MM), P z1 → fm_O P (rc_X4_readUnit z0 z1)) (hrc_X4_readMoreUnits : ∀ (z0 : Int32) (z1 : MM), P z1 → fm_O P (rc_X4_readMoreUnits z0 z1)) (hk4 : ∀ (z0 : Int32) (z1 : Int32) (z2 : Int32) (z3 : MM), P z3 → fm_O P (k4 z0 z1 z2 z3)) (h0 : P μ) : fm_O P (f_Lr_readMoreUnits_B66 N rc_X4_readUnit rc_X4_readMoreUnits k4 x1 x3 x4 μ) := by
  unfold f_Lr_readMoreUnits_B66
  exact fr_Lr_readMoreUnits_B68 hI hJ hF hw (hrc_X4_readUnit) (hrc_X4_readMoreUnits) (hk4) h0
set_option maxHeartbeats 1000000 in
theorem fr_Lr_readMoreUnits_B37 {W : Nat → Prop} {P : MM → Prop} (hI : ∀ {μ : MM} {a k : Nat} {v : Int32}, W a → P μ → P (mm_I μ a k v)) (hJ : ∀ {μ : MM} {a k : Nat} {v : Int64}, W a → P μ → P (mm_J μ a k v)) (hF : ∀ {μ : MM} {a : Nat} {g : Nat → Int32}, W a → P μ → P (mm_F μ a g)) (hw : ∀ a, a < 355 → W a) {N : Nat} {rc_X4_readUnit : Int32 → MM → Option (Int32 × MM)} {rc_X4_readMoreUnits : Int32 → MM → Option (Int32 × MM)} {k4 : Int32 → Int32 → Int32 → MM → Option (Int32 × MM)} {x1 : Int32} {x2 : Int32} {x3 : Int32} {x4 : Int32} {μ : MM} (hrc_X4_readUnit : ∀ (z0 : Int32) (z1 : MM), P z1 → fm_O P (rc_X4_readUnit z0 z1)) (hrc_X4_readMoreUnits : ∀ (z0 : Int32) (z1 : MM), P z1 → fm_O P (rc_X4_readMoreUnits z0 z1)) (hk4 : ∀ (z0 : Int32) (z1 : Int32) (z2 : Int32) (z3 : MM), P z3 → fm_O P (k4 z0 z1 z2 z3)) (h0 : P μ) : fm_O P (f_Lr_readMoreUnits_B37 N rc_X4_readUnit rc_X4_readMoreUnits k4 x1 x2 x3 x4 μ) := by
  unfold f_Lr_readMoreUnits_B37
  exact fm_obv (fr_Ta_step hI hJ hF hw h0) (fun μ3z hm3z => fm_ite (fm_ite (fr_Lr_readMoreUnits_B66 hI hJ hF hw (hrc_X4_readUnit) (hrc_X4_readMoreUnits) (hk4) hm3z) (fm_ob (fr_Lr_emit hI hJ hF hw hm3z) (fun t58 μ6z hm6z => fm_ite (fm_some hm6z) (fr_Lr_readMoreUnits_B66 hI hJ hF hw (hrc_X4_readUnit) (hrc_X4_readMoreUnits) (hk4) hm6z)))) (fr_Lr_readMoreUnits_B68 hI hJ hF hw (hrc_X4_readUnit) (hrc_X4_readMoreUnits) (hk4) hm3z))
set_option maxHeartbeats 1000000 in
theorem fr_Lr_readMoreUnits_L4 {W : Nat → Prop} {P : MM → Prop} (hI : ∀ {μ : MM} {a k : Nat} {v : Int32}, W a → P μ → P (mm_I μ a k v)) (hJ : ∀ {μ : MM} {a k : Nat} {v : Int64}, W a → P μ → P (mm_J μ a k v)) (hF : ∀ {μ : MM} {a : Nat} {g : Nat → Int32}, W a → P μ → P (mm_F μ a g)) (hw : ∀ a, a < 355 → W a) {N : Nat} {rc_X4_readUnit : Int32 → MM → Option (Int32 × MM)} {rc_X4_readMoreUnits : Int32 → MM → Option (Int32 × MM)} (hrc_X4_readUnit : ∀ (z0 : Int32) (z1 : MM), P z1 → fm_O P (rc_X4_readUnit z0 z1)) (hrc_X4_readMoreUnits : ∀ (z0 : Int32) (z1 : MM), P z1 → fm_O P (rc_X4_readMoreUnits z0 z1)) : ∀ (n : Nat) (x1 : Int32) (x2 : Int32) (x3 : Int32) (μ : MM), P μ → fm_O P (f_Lr_readMoreUnits_L4 N rc_X4_readUnit rc_X4_readMoreUnits n x1 x2 x3 μ) := by
  intro n
  induction n with
  | zero => intros; exact fm_none
  | succ n ih =>
    intro x1 x2 x3 μ h0
    rw [f_Lr_readMoreUnits_L4]
    exact fm_ite (fr_Lr_readMoreUnits_B100 hI hJ hF hw (hrc_X4_readUnit) (hrc_X4_readMoreUnits) h0) (fm_ob (fr_Ta_peek hI hJ hF hw h0) (fun t15 μ2z hm2z => fm_ite (fr_Lr_readMoreUnits_B37 hI hJ hF hw (hrc_X4_readUnit) (hrc_X4_readMoreUnits) (ih) hm2z) (fm_ite (fr_Lr_readMoreUnits_B37 hI hJ hF hw (hrc_X4_readUnit) (hrc_X4_readMoreUnits) (ih) hm2z) (fr_Lr_readMoreUnits_B100 hI hJ hF hw (hrc_X4_readUnit) (hrc_X4_readMoreUnits) hm2z))))
set_option maxHeartbeats 1000000 in
theorem fr_Lr_readMoreUnits_body {W : Nat → Prop} {P : MM → Prop} (hI : ∀ {μ : MM} {a k : Nat} {v : Int32}, W a → P μ → P (mm_I μ a k v)) (hJ : ∀ {μ : MM} {a k : Nat} {v : Int64}, W a → P μ → P (mm_J μ a k v)) (hF : ∀ {μ : MM} {a : Nat} {g : Nat → Int32}, W a → P μ → P (mm_F μ a g)) (hw : ∀ a, a < 355 → W a) {N : Nat} {rc_X4_readUnit : Int32 → MM → Option (Int32 × MM)} {rc_X4_readMoreUnits : Int32 → MM → Option (Int32 × MM)} {x1 : Int32} {μ : MM} (hrc_X4_readUnit : ∀ (z0 : Int32) (z1 : MM), P z1 → fm_O P (rc_X4_readUnit z0 z1)) (hrc_X4_readMoreUnits : ∀ (z0 : Int32) (z1 : MM), P z1 → fm_O P (rc_X4_readMoreUnits z0 z1)) (h0 : P μ) : fm_O P (f_Lr_readMoreUnits_body N rc_X4_readUnit rc_X4_readMoreUnits x1 μ) := by
  unfold f_Lr_readMoreUnits_body
  exact fr_Lr_readMoreUnits_L4 hI hJ hF hw (hrc_X4_readUnit) (hrc_X4_readMoreUnits) _ _ _ _ _ h0
set_option maxHeartbeats 1000000 in
theorem fr_cl_Lr_readUnit {W : Nat → Prop} {P : MM → Prop} (hI : ∀ {μ : MM} {a k : Nat} {v : Int32}, W a → P μ → P (mm_I μ a k v)) (hJ : ∀ {μ : MM} {a k : Nat} {v : Int64}, W a → P μ → P (mm_J μ a k v)) (hF : ∀ {μ : MM} {a : Nat} {g : Nat → Int32}, W a → P μ → P (mm_F μ a g)) (hw : ∀ a, a < 355 → W a) {N : Nat} : ∀ (t : Nat) (g : Nat) (a0 : Int32) (μ : MM), P μ → fm_O P (f_cl_Lr_readUnit N t g a0 μ) := by
  intro t
  induction t with
  | zero => intros; exact fm_none
  | succ t ih =>
    intro g a0 μ h0
    rw [f_cl_Lr_readUnit]
    exact fm_ite (fr_Lr_readUnit_body hI hJ hF hw (fun _ _ h9 => ih _ _ _ h9) (fun _ _ h9 => ih _ _ _ h9) h0) (fr_Lr_readMoreUnits_body hI hJ hF hw (fun _ _ h9 => ih _ _ _ h9) (fun _ _ h9 => ih _ _ _ h9) h0)
set_option maxHeartbeats 1000000 in
theorem fr_Lr_readUnit {W : Nat → Prop} {P : MM → Prop} (hI : ∀ {μ : MM} {a k : Nat} {v : Int32}, W a → P μ → P (mm_I μ a k v)) (hJ : ∀ {μ : MM} {a k : Nat} {v : Int64}, W a → P μ → P (mm_J μ a k v)) (hF : ∀ {μ : MM} {a : Nat} {g : Nat → Int32}, W a → P μ → P (mm_F μ a g)) (hw : ∀ a, a < 355 → W a) {N : Nat} {x1 : Int32} {μ : MM} (h0 : P μ) : fm_O P (f_Lr_readUnit N x1 μ) := by
  unfold f_Lr_readUnit
  exact fr_cl_Lr_readUnit hI hJ hF hw _ _ _ _ h0
set_option maxHeartbeats 1000000 in
theorem fr_Lr_readMoreUnits {W : Nat → Prop} {P : MM → Prop} (hI : ∀ {μ : MM} {a k : Nat} {v : Int32}, W a → P μ → P (mm_I μ a k v)) (hJ : ∀ {μ : MM} {a k : Nat} {v : Int64}, W a → P μ → P (mm_J μ a k v)) (hF : ∀ {μ : MM} {a : Nat} {g : Nat → Int32}, W a → P μ → P (mm_F μ a g)) (hw : ∀ a, a < 355 → W a) {N : Nat} {x1 : Int32} {μ : MM} (h0 : P μ) : fm_O P (f_Lr_readMoreUnits N x1 μ) := by
  unfold f_Lr_readMoreUnits
  exact fr_cl_Lr_readUnit hI hJ hF hw _ _ _ _ h0
set_option maxHeartbeats 1000000 in
theorem fr_Lr_readClause_B99 {W : Nat → Prop} {P : MM → Prop} (hI : ∀ {μ : MM} {a k : Nat} {v : Int32}, W a → P μ → P (mm_I μ a k v)) (hJ : ∀ {μ : MM} {a k : Nat} {v : Int64}, W a → P μ → P (mm_J μ a k v)) (hF : ∀ {μ : MM} {a : Nat} {g : Nat → Int32}, W a → P μ → P (mm_F μ a g)) (hw : ∀ a, a < 355 → W a) {N : Nat} {s0 : Int32} {μ : MM} (h0 : P μ) : fm_O P (f_Lr_readClause_B99 N s0 μ) := by
  unfold f_Lr_readClause_B99
  exact fm_ite (fm_some h0) (fm_ob (fr_Lr_readMoreUnits hI hJ hF hw h0) (fun t106 μ5z hm5z => fm_ite (fm_some hm5z) (fm_ob (fr_Ta_accept hI hJ hF hw hm5z) (fun t118 μ6z hm6z => fm_ite (fm_some hm6z) (fm_ob (fr_Lr_emit hI hJ hF hw hm6z) (fun t127 μ7z hm7z => fm_ite (fm_some hm7z) (fm_ob (fr_Lr_readSum hI hJ hF hw hm7z) (fun t135 μ8z hm8z => fm_ite (fm_some hm8z) (fm_some hm8z)))))))))
set_option maxHeartbeats 1000000 in
theorem fr_Lr_readClause_B82 {W : Nat → Prop} {P : MM → Prop} (hI : ∀ {μ : MM} {a k : Nat} {v : Int32}, W a → P μ → P (mm_I μ a k v)) (hJ : ∀ {μ : MM} {a k : Nat} {v : Int64}, W a → P μ → P (mm_J μ a k v)) (hF : ∀ {μ : MM} {a : Nat} {g : Nat → Int32}, W a → P μ → P (mm_F μ a g)) (hw : ∀ a, a < 355 → W a) {N : Nat} {x2 : Int32} {μ : MM} (h0 : P μ) : fm_O P (f_Lr_readClause_B82 N x2 μ) := by
  unfold f_Lr_readClause_B82
  exact fm_ite (fm_ob (fr_Lr_readComparison hI hJ hF hw h0) (fun t96 μ4z hm4z => fr_Lr_readClause_B99 hI hJ hF hw hm4z)) (fm_ob (fr_Lr_readUnit hI hJ hF hw h0) (fun t88 μ9z hm9z => fr_Lr_readClause_B99 hI hJ hF hw hm9z))
set_option maxHeartbeats 1000000 in
theorem fr_Lr_readClause_B51 {W : Nat → Prop} {P : MM → Prop} (hI : ∀ {μ : MM} {a k : Nat} {v : Int32}, W a → P μ → P (mm_I μ a k v)) (hJ : ∀ {μ : MM} {a k : Nat} {v : Int64}, W a → P μ → P (mm_J μ a k v)) (hF : ∀ {μ : MM} {a : Nat} {g : Nat → Int32}, W a → P μ → P (mm_F μ a g)) (hw : ∀ a, a < 355 → W a) {N : Nat} {s0 : Int32} {μ : MM} (h0 : P μ) : fm_O P (f_Lr_readClause_B51 N s0 μ) := by
  unfold f_Lr_readClause_B51
  exact fm_ite (fm_ob (fr_Lr_readSum hI hJ hF hw h0) (fun t58 μ10z hm10z => fm_ite (fm_some hm10z) (fm_ob (fr_Ta_peek hI hJ hF hw hm10z) (fun t71 μ11z hm11z => fm_ob (fr_Lr_isComparing hI hJ hF hw hm11z) (fun t74 μ12z hm12z => fm_ite (fm_some hm12z) (fr_Lr_readClause_B82 hI hJ hF hw hm12z)))))) (fr_Lr_readClause_B82 hI hJ hF hw h0)
set_option maxHeartbeats 1000000 in
theorem fr_Lr_readClause_B46 {W : Nat → Prop} {P : MM → Prop} (hI : ∀ {μ : MM} {a k : Nat} {v : Int32}, W a → P μ → P (mm_I μ a k v)) (hJ : ∀ {μ : MM} {a k : Nat} {v : Int64}, W a → P μ → P (mm_J μ a k v)) (hF : ∀ {μ : MM} {a : Nat} {g : Nat → Int32}, W a → P μ → P (mm_F μ a g)) (hw : ∀ a, a < 355 → W a) {N : Nat} {μ : MM} (h0 : P μ) : fm_O P (f_Lr_readClause_B46 N μ) := by
  unfold f_Lr_readClause_B46
  exact fr_Lr_readClause_B51 hI hJ hF hw h0
set_option maxHeartbeats 1000000 in
theorem fr_Lr_readClause {W : Nat → Prop} {P : MM → Prop} (hI : ∀ {μ : MM} {a k : Nat} {v : Int32}, W a → P μ → P (mm_I μ a k v)) (hJ : ∀ {μ : MM} {a k : Nat} {v : Int64}, W a → P μ → P (mm_J μ a k v)) (hF : ∀ {μ : MM} {a : Nat} {g : Nat → Int32}, W a → P μ → P (mm_F μ a g)) (hw : ∀ a, a < 355 → W a) {N : Nat} {μ : MM} (h0 : P μ) : fm_O P (f_Lr_readClause N μ) := by
  unfold f_Lr_readClause
  exact fm_ob (fr_Ta_accept hI hJ hF hw h0) (fun t6 μ1z hm1z => fm_ite (fm_some hm1z) (fm_ob (fr_Ta_accept hI hJ hF hw hm1z) (fun t18 μ2z hm2z => fm_ite (fm_some hm2z) (fm_ob (fr_Ta_peek hI hJ hF hw hm2z) (fun t30 μ3z hm3z => fm_ite (fr_Lr_readClause_B46 hI hJ hF hw hm3z) (fm_ite (fr_Lr_readClause_B46 hI hJ hF hw hm3z) (fr_Lr_readClause_B51 hI hJ hF hw hm3z)))))))
set_option maxHeartbeats 1000000 in
theorem fr_Lr_readLaw_L14 {W : Nat → Prop} {P : MM → Prop} (hI : ∀ {μ : MM} {a k : Nat} {v : Int32}, W a → P μ → P (mm_I μ a k v)) (hJ : ∀ {μ : MM} {a k : Nat} {v : Int64}, W a → P μ → P (mm_J μ a k v)) (hF : ∀ {μ : MM} {a : Nat} {g : Nat → Int32}, W a → P μ → P (mm_F μ a g)) (hw : ∀ a, a < 355 → W a) {N : Nat} : ∀ (n : Nat) (x1 : Int32) (μ : MM), P μ → fm_O P (f_Lr_readLaw_L14 N n x1 μ) := by
  intro n
  induction n with
  | zero => intros; exact fm_none
  | succ n ih =>
    intro x1 μ h0
    rw [f_Lr_readLaw_L14]
    exact fm_ite (fm_some h0) (fm_ob (fr_Lr_readClause hI hJ hF hw h0) (fun t22 μ3z hm3z => fm_ite (fm_some hm3z) (fm_ob (fr_Lr_emit hI hJ hF hw hm3z) (fun t31 μ4z hm4z => fm_ite (fm_some hm4z) (fm_ob (fr_Ta_accept hI hJ hF hw hm4z) (fun t45 μ5z hm5z => fm_ite (fm_ob (fr_Ta_peek hI hJ hF hw hm5z) (fun t55 μ6z hm6z => fm_gd (fun g1 => fm_some hm6z))) (ih _ _ hm5z)))))))
set_option maxHeartbeats 1000000 in
theorem fr_Lr_readLaw {W : Nat → Prop} {P : MM → Prop} (hI : ∀ {μ : MM} {a k : Nat} {v : Int32}, W a → P μ → P (mm_I μ a k v)) (hJ : ∀ {μ : MM} {a k : Nat} {v : Int64}, W a → P μ → P (mm_J μ a k v)) (hF : ∀ {μ : MM} {a : Nat} {g : Nat → Int32}, W a → P μ → P (mm_F μ a g)) (hw : ∀ a, a < 355 → W a) {N : Nat} {μ : MM} (h0 : P μ) : fm_O P (f_Lr_readLaw N μ) := by
  unfold f_Lr_readLaw
  exact fm_obv (fr_Ta_rewind hI hJ hF hw h0) (fun μ1z hm1z => fm_wr (hI (hw _ (by first | omega | (simp only [inb, Bool.and_eq_true, decide_eq_true_eq] at *; omega))) hm1z) (fun μ2z hm2z => fr_Lr_readLaw_L14 hI hJ hF hw _ _ _ hm2z))
set_option maxHeartbeats 1000000 in
theorem fr_La_keepNext {W : Nat → Prop} {P : MM → Prop} (hI : ∀ {μ : MM} {a k : Nat} {v : Int32}, W a → P μ → P (mm_I μ a k v)) (hJ : ∀ {μ : MM} {a k : Nat} {v : Int64}, W a → P μ → P (mm_J μ a k v)) (hF : ∀ {μ : MM} {a : Nat} {g : Nat → Int32}, W a → P μ → P (mm_F μ a g)) (hw : ∀ a, a < 355 → W a) {N : Nat} {q1 : Nat} {x2 : Int32} {μ : MM} (h0 : P μ) : fm_O P (f_La_keepNext N q1 x2 μ) := by
  unfold f_La_keepNext
  exact fm_ite (fm_some h0) (fm_ite (fm_some h0) (fm_ite (fm_some h0) (fm_ite (fm_gd (fun g1 => fm_gd (fun g2 => fm_wr (hF (hw _ (by first | omega | (simp only [inb, Bool.and_eq_true, decide_eq_true_eq] at *; omega))) h0) (fun μ1z hm1z => fm_gd (fun g3 => fm_wr (hI (hw _ (by first | omega | (simp only [inb, Bool.and_eq_true, decide_eq_true_eq] at *; omega))) hm1z) (fun μ2z hm2z => fm_wr (hI (hw _ (by first | omega | (simp only [inb, Bool.and_eq_true, decide_eq_true_eq] at *; omega))) hm2z) (fun μ3z hm3z => fm_some hm3z))))))) (fm_some h0))))
set_option maxHeartbeats 1000000 in
theorem fr_Ma_alikeThings_L4 {W : Nat → Prop} {P : MM → Prop} (hI : ∀ {μ : MM} {a k : Nat} {v : Int32}, W a → P μ → P (mm_I μ a k v)) (hJ : ∀ {μ : MM} {a k : Nat} {v : Int64}, W a → P μ → P (mm_J μ a k v)) (hF : ∀ {μ : MM} {a : Nat} {g : Nat → Int32}, W a → P μ → P (mm_F μ a g)) (hw : ∀ a, a < 355 → W a) {N : Nat} : ∀ (n : Nat) (x1 : Int32) (x2 : Int32) (x3 : Int32) (μ : MM), P μ → fm_O P (f_Ma_alikeThings_L4 N n x1 x2 x3 μ) := by
  intro n
  induction n with
  | zero => intros; exact fm_none
  | succ n ih =>
    intro x1 x2 x3 μ h0
    rw [f_Ma_alikeThings_L4]
    exact fm_ite (fm_some h0) (fm_ite (ih _ _ _ _ h0) (fm_gd (fun g1 => fm_gd (fun g2 => ih _ _ _ _ h0))))
set_option maxHeartbeats 1000000 in
theorem fr_Ma_alikeThings {W : Nat → Prop} {P : MM → Prop} (hI : ∀ {μ : MM} {a k : Nat} {v : Int32}, W a → P μ → P (mm_I μ a k v)) (hJ : ∀ {μ : MM} {a k : Nat} {v : Int64}, W a → P μ → P (mm_J μ a k v)) (hF : ∀ {μ : MM} {a : Nat} {g : Nat → Int32}, W a → P μ → P (mm_F μ a g)) (hw : ∀ a, a < 355 → W a) {N : Nat} {x1 : Int32} {μ : MM} (h0 : P μ) : fm_O P (f_Ma_alikeThings N x1 μ) := by
  unfold f_Ma_alikeThings
  exact fr_Ma_alikeThings_L4 hI hJ hF hw _ _ _ _ _ h0
set_option maxHeartbeats 1000000 in
theorem fr_Ma_sortByPrice_B67 {W : Nat → Prop} {P : MM → Prop} (hI : ∀ {μ : MM} {a k : Nat} {v : Int32}, W a → P μ → P (mm_I μ a k v)) (hJ : ∀ {μ : MM} {a k : Nat} {v : Int64}, W a → P μ → P (mm_J μ a k v)) (hF : ∀ {μ : MM} {a : Nat} {g : Nat → Int32}, W a → P μ → P (mm_F μ a g)) (hw : ∀ a, a < 355 → W a) {N : Nat} {k2 : Int32 → MM → Option MM} {x1 : Int32} {x2 : Int32} {μ : MM} (hk2 : ∀ (z0 : Int32) (z1 : MM), P z1 → fm_V P (k2 z0 z1)) (h0 : P μ) : fm_V P (f_Ma_sortByPrice_B67 N k2 x1 x2 μ) := by
  unfold f_Ma_sortByPrice_B67
  exact fm_gdV (fun g1 => fm_wrV (hI (hw _ (by first | omega | (simp only [inb, Bool.and_eq_true, decide_eq_true_eq] at *; omega))) h0) (fun μ1z hm1z => hk2 _ _ hm1z))
set_option maxHeartbeats 1000000 in
theorem fr_Ma_sortByPrice_L15 {W : Nat → Prop} {P : MM → Prop} (hI : ∀ {μ : MM} {a k : Nat} {v : Int32}, W a → P μ → P (mm_I μ a k v)) (hJ : ∀ {μ : MM} {a k : Nat} {v : Int64}, W a → P μ → P (mm_J μ a k v)) (hF : ∀ {μ : MM} {a : Nat} {g : Nat → Int32}, W a → P μ → P (mm_F μ a g)) (hw : ∀ a, a < 355 → W a) {N : Nat} {k2 : Int32 → MM → Option MM} (hk2 : ∀ (z0 : Int32) (z1 : MM), P z1 → fm_V P (k2 z0 z1)) : ∀ (n : Nat) (x1 : Int32) (x2 : Int32) (μ : MM), P μ → fm_V P (f_Ma_sortByPrice_L15 N k2 n x1 x2 μ) := by
  intro n
  induction n with
  | zero => intros; exact fm_noneV
  | succ n ih =>
    intro x1 x2 μ h0
    rw [f_Ma_sortByPrice_L15]
    exact fm_iteV (fr_Ma_sortByPrice_B67 hI hJ hF hw (hk2) h0) (fm_gdV (fun g1 => fm_gdV (fun g2 => fm_gdV (fun g3 => fm_iteV (fr_Ma_sortByPrice_B67 hI hJ hF hw (hk2) h0) (fm_gdV (fun g4 => fm_gdV (fun g5 => fm_wrV (hI (hw _ (by first | omega | (simp only [inb, Bool.and_eq_true, decide_eq_true_eq] at *; omega))) h0) (fun μ2z hm2z => ih _ _ _ hm2z))))))))
set_option maxHeartbeats 1000000 in
theorem fr_Ma_sortByPrice_L2 {W : Nat → Prop} {P : MM → Prop} (hI : ∀ {μ : MM} {a k : Nat} {v : Int32}, W a → P μ → P (mm_I μ a k v)) (hJ : ∀ {μ : MM} {a k : Nat} {v : Int64}, W a → P μ → P (mm_J μ a k v)) (hF : ∀ {μ : MM} {a : Nat} {g : Nat → Int32}, W a → P μ → P (mm_F μ a g)) (hw : ∀ a, a < 355 → W a) {N : Nat} : ∀ (n : Nat) (x1 : Int32) (μ : MM), P μ → fm_V P (f_Ma_sortByPrice_L2 N n x1 μ) := by
  intro n
  induction n with
  | zero => intros; exact fm_noneV
  | succ n ih =>
    intro x1 μ h0
    rw [f_Ma_sortByPrice_L2]
    exact fm_iteV (fm_someV h0) (fr_Ma_sortByPrice_L15 hI hJ hF hw (ih) _ _ _ _ h0)
set_option maxHeartbeats 1000000 in
theorem fr_Ma_sortByPrice {W : Nat → Prop} {P : MM → Prop} (hI : ∀ {μ : MM} {a k : Nat} {v : Int32}, W a → P μ → P (mm_I μ a k v)) (hJ : ∀ {μ : MM} {a k : Nat} {v : Int64}, W a → P μ → P (mm_J μ a k v)) (hF : ∀ {μ : MM} {a : Nat} {g : Nat → Int32}, W a → P μ → P (mm_F μ a g)) (hw : ∀ a, a < 355 → W a) {N : Nat} {μ : MM} (h0 : P μ) : fm_V P (f_Ma_sortByPrice N μ) := by
  unfold f_Ma_sortByPrice
  exact fr_Ma_sortByPrice_L2 hI hJ hF hw _ _ _ h0
set_option maxHeartbeats 1000000 in
theorem fr_Ma_ableThings_B88 {W : Nat → Prop} {P : MM → Prop} (hI : ∀ {μ : MM} {a k : Nat} {v : Int32}, W a → P μ → P (mm_I μ a k v)) (hJ : ∀ {μ : MM} {a k : Nat} {v : Int64}, W a → P μ → P (mm_J μ a k v)) (hF : ∀ {μ : MM} {a : Nat} {g : Nat → Int32}, W a → P μ → P (mm_F μ a g)) (hw : ∀ a, a < 355 → W a) {N : Nat} {k39 : Int32 → Int32 → Int32 → Int32 → Int32 → MM → Option (Int32 × MM)} {x2 : Int32} {x3 : Int32} {x4 : Int32} {x5 : Int32} {x6 : Int32} {μ : MM} (hk39 : ∀ (z0 : Int32) (z1 : Int32) (z2 : Int32) (z3 : Int32) (z4 : Int32) (z5 : MM), P z5 → fm_O P (k39 z0 z1 z2 z3 z4 z5)) (h0 : P μ) : fm_O P (f_Ma_ableThings_B88 N k39 x2 x3 x4 x5 x6 μ) := by
  unfold f_Ma_ableThings_B88
  exact hk39 _ _ _ _ _ _ h0
set_option maxHeartbeats 1000000 in
theorem fr_Ma_ableThings_L39 {W : Nat → Prop} {P : MM → Prop} (hI : ∀ {μ : MM} {a k : Nat} {v : Int32}, W a → P μ → P (mm_I μ a k v)) (hJ : ∀ {μ : MM} {a k : Nat} {v : Int64}, W a → P μ → P (mm_J μ a k v)) (hF : ∀ {μ : MM} {a : Nat} {g : Nat → Int32}, W a → P μ → P (mm_F μ a g)) (hw : ∀ a, a < 355 → W a) {N : Nat} : ∀ (n : Nat) (x2 : Int32) (x3 : Int32) (x4 : Int32) (x5 : Int32) (x6 : Int32) (μ : MM), P μ → fm_O P (f_Ma_ableThings_L39 N n x2 x3 x4 x5 x6 μ) := by
  intro n
  induction n with
  | zero => intros; exact fm_none
  | succ n ih =>
    intro x2 x3 x4 x5 x6 μ h0
    rw [f_Ma_ableThings_L39]
    exact fm_ite (fm_some h0) (fm_gd (fun g1 => fm_ite (fm_ite (fm_ite (fr_Ma_ableThings_B88 hI hJ hF hw (ih) h0) (fm_ite (ih _ _ _ _ _ _ h0) (fr_Ma_ableThings_B88 hI hJ hF hw (ih) h0))) (ih _ _ _ _ _ _ h0)) (ih _ _ _ _ _ _ h0)))
set_option maxHeartbeats 1000000 in
theorem fr_Ma_ableThings {W : Nat → Prop} {P : MM → Prop} (hI : ∀ {μ : MM} {a k : Nat} {v : Int32}, W a → P μ → P (mm_I μ a k v)) (hJ : ∀ {μ : MM} {a k : Nat} {v : Int64}, W a → P μ → P (mm_J μ a k v)) (hF : ∀ {μ : MM} {a : Nat} {g : Nat → Int32}, W a → P μ → P (mm_F μ a g)) (hw : ∀ a, a < 355 → W a) {N : Nat} {x1 : Int32} {x2 : Int32} {μ : MM} (h0 : P μ) : fm_O P (f_Ma_ableThings N x1 x2 μ) := by
  unfold f_Ma_ableThings
  exact fm_ob (fr_Wo_named hI hJ hF hw h0) (fun t12 μ1z hm1z => fm_ob (fr_Wo_named hI hJ hF hw hm1z) (fun t28 μ2z hm2z => fr_Ma_ableThings_L39 hI hJ hF hw _ _ _ _ _ _ _ hm2z))
set_option maxHeartbeats 1000000 in
theorem fr_Ma_narrow_L29 {W : Nat → Prop} {P : MM → Prop} (hI : ∀ {μ : MM} {a k : Nat} {v : Int32}, W a → P μ → P (mm_I μ a k v)) (hJ : ∀ {μ : MM} {a k : Nat} {v : Int64}, W a → P μ → P (mm_J μ a k v)) (hF : ∀ {μ : MM} {a : Nat} {g : Nat → Int32}, W a → P μ → P (mm_F μ a g)) (hw : ∀ a, a < 355 → W a) {N : Nat} {k2 : Int32 → Int32 → MM → Option MM} (hk2 : ∀ (z0 : Int32) (z1 : Int32) (z2 : MM), P z2 → fm_V P (k2 z0 z1 z2)) : ∀ (n : Nat) (x1 : Int32) (x2 : Int32) (x3 : Int32) (μ : MM), P μ → fm_V P (f_Ma_narrow_L29 N k2 n x1 x2 x3 μ) := by
  intro n
  induction n with
  | zero => intros; exact fm_noneV
  | succ n ih =>
    intro x1 x2 x3 μ h0
    rw [f_Ma_narrow_L29]
    exact fm_iteV (hk2 _ _ _ h0) (fm_gdV (fun g1 => fm_gdV (fun g2 => fm_iteV (fm_gdV (fun g3 => fm_gdV (fun g4 => fm_wrV (hI (hw _ (by first | omega | (simp only [inb, Bool.and_eq_true, decide_eq_true_eq] at *; omega))) h0) (fun μ1z hm1z => ih _ _ _ _ hm1z)))) (ih _ _ _ _ h0))))
set_option maxHeartbeats 1000000 in
theorem fr_Ma_narrow_L2 {W : Nat → Prop} {P : MM → Prop} (hI : ∀ {μ : MM} {a k : Nat} {v : Int32}, W a → P μ → P (mm_I μ a k v)) (hJ : ∀ {μ : MM} {a k : Nat} {v : Int64}, W a → P μ → P (mm_J μ a k v)) (hF : ∀ {μ : MM} {a : Nat} {g : Nat → Int32}, W a → P μ → P (mm_F μ a g)) (hw : ∀ a, a < 355 → W a) {N : Nat} : ∀ (n : Nat) (x1 : Int32) (x2 : Int32) (μ : MM), P μ → fm_V P (f_Ma_narrow_L2 N n x1 x2 μ) := by
  intro n
  induction n with
  | zero => intros; exact fm_noneV
  | succ n ih =>
    intro x1 x2 μ h0
    rw [f_Ma_narrow_L2]
    exact fm_iteV (fm_someV h0) (fm_gdV (fun g1 => fm_iteV (fr_Ma_narrow_L29 hI hJ hF hw (ih) _ _ _ _ _ h0) (ih _ _ _ h0)))
set_option maxHeartbeats 1000000 in
theorem fr_Ma_narrow {W : Nat → Prop} {P : MM → Prop} (hI : ∀ {μ : MM} {a k : Nat} {v : Int32}, W a → P μ → P (mm_I μ a k v)) (hJ : ∀ {μ : MM} {a k : Nat} {v : Int64}, W a → P μ → P (mm_J μ a k v)) (hF : ∀ {μ : MM} {a : Nat} {g : Nat → Int32}, W a → P μ → P (mm_F μ a g)) (hw : ∀ a, a < 355 → W a) {N : Nat} {x1 : Int32} {μ : MM} (h0 : P μ) : fm_V P (f_Ma_narrow N x1 μ) := by
  unfold f_Ma_narrow
  exact fr_Ma_narrow_L2 hI hJ hF hw _ _ _ _ h0
set_option maxHeartbeats 1000000 in
theorem fr_Ma_linkedAhead_B37 {W : Nat → Prop} {P : MM → Prop} (hI : ∀ {μ : MM} {a k : Nat} {v : Int32}, W a → P μ → P (mm_I μ a k v)) (hJ : ∀ {μ : MM} {a k : Nat} {v : Int64}, W a → P μ → P (mm_J μ a k v)) (hF : ∀ {μ : MM} {a : Nat} {g : Nat → Int32}, W a → P μ → P (mm_F μ a g)) (hw : ∀ a, a < 355 → W a) {N : Nat} {k4 : Int32 → Int32 → Int32 → MM → Option (Int32 × MM)} {x1 : Int32} {x2 : Int32} {x3 : Int32} {μ : MM} (hk4 : ∀ (z0 : Int32) (z1 : Int32) (z2 : Int32) (z3 : MM), P z3 → fm_O P (k4 z0 z1 z2 z3)) (h0 : P μ) : fm_O P (f_Ma_linkedAhead_B37 N k4 x1 x2 x3 μ) := by
  unfold f_Ma_linkedAhead_B37
  exact hk4 _ _ _ _ h0
set_option maxHeartbeats 1000000 in
theorem fr_Ma_linkedAhead_L4 {W : Nat → Prop} {P : MM → Prop} (hI : ∀ {μ : MM} {a k : Nat} {v : Int32}, W a → P μ → P (mm_I μ a k v)) (hJ : ∀ {μ : MM} {a k : Nat} {v : Int64}, W a → P μ → P (mm_J μ a k v)) (hF : ∀ {μ : MM} {a : Nat} {g : Nat → Int32}, W a → P μ → P (mm_F μ a g)) (hw : ∀ a, a < 355 → W a) {N : Nat} : ∀ (n : Nat) (x1 : Int32) (x2 : Int32) (x3 : Int32) (μ : MM), P μ → fm_O P (f_Ma_linkedAhead_L4 N n x1 x2 x3 μ) := by
  intro n
  induction n with
  | zero => intros; exact fm_none
  | succ n ih =>
    intro x1 x2 x3 μ h0
    rw [f_Ma_linkedAhead_L4]
    exact fm_ite (fm_some h0) (fm_gd (fun g1 => fm_ite (fr_Ma_linkedAhead_B37 hI hJ hF hw (ih) h0) (fm_gd (fun g2 => fm_ite (fr_Ma_linkedAhead_B37 hI hJ hF hw (ih) h0) (ih _ _ _ _ h0)))))
set_option maxHeartbeats 1000000 in
theorem fr_Ma_linkedAhead {W : Nat → Prop} {P : MM → Prop} (hI : ∀ {μ : MM} {a k : Nat} {v : Int32}, W a → P μ → P (mm_I μ a k v)) (hJ : ∀ {μ : MM} {a k : Nat} {v : Int64}, W a → P μ → P (mm_J μ a k v)) (hF : ∀ {μ : MM} {a : Nat} {g : Nat → Int32}, W a → P μ → P (mm_F μ a g)) (hw : ∀ a, a < 355 → W a) {N : Nat} {x1 : Int32} {μ : MM} (h0 : P μ) : fm_O P (f_Ma_linkedAhead N x1 μ) := by
  unfold f_Ma_linkedAhead
  exact fr_Ma_linkedAhead_L4 hI hJ hF hw _ _ _ _ _ h0
set_option maxHeartbeats 1000000 in
theorem fr_Ma_prepare_B254 {W : Nat → Prop} {P : MM → Prop} (hI : ∀ {μ : MM} {a k : Nat} {v : Int32}, W a → P μ → P (mm_I μ a k v)) (hJ : ∀ {μ : MM} {a k : Nat} {v : Int64}, W a → P μ → P (mm_J μ a k v)) (hF : ∀ {μ : MM} {a : Nat} {g : Nat → Int32}, W a → P μ → P (mm_F μ a g)) (hw : ∀ a, a < 355 → W a) {N : Nat} {k212 : Int32 → MM → Option MM} {x2 : Int32} {s1 : Int32} {s2 : Int32} {s3 : Int32} {μ : MM} (hk212 : ∀ (z0 : Int32) (z1 : MM), P z1 → fm_V P (k212 z0 z1)) (h0 : P μ) : fm_V P (f_Ma_prepare_B254 N k212 x2 s1 s2 s3 μ) := by
  unfold f_Ma_prepare_B254
  exact fm_gdV (fun g1 => fm_wrV (hI (hw _ (by first | omega | (simp only [inb, Bool.and_eq_true, decide_eq_true_eq] at *; omega))) h0) (fun μ5z hm5z => hk212 _ _ hm5z))
set_option maxHeartbeats 1000000 in
theorem fr_Ma_prepare_L212 {W : Nat → Prop} {P : MM → Prop} (hI : ∀ {μ : MM} {a k : Nat} {v : Int32}, W a → P μ → P (mm_I μ a k v)) (hJ : ∀ {μ : MM} {a k : Nat} {v : Int64}, W a → P μ → P (mm_J μ a k v)) (hF : ∀ {μ : MM} {a : Nat} {g : Nat → Int32}, W a → P μ → P (mm_F μ a g)) (hw : ∀ a, a < 355 → W a) {N : Nat} : ∀ (n : Nat) (x2 : Int32) (μ : MM), P μ → fm_V P (f_Ma_prepare_L212 N n x2 μ) := by
  intro n
  induction n with
  | zero => intros; exact fm_noneV
  | succ n ih =>
    intro x2 μ h0
    rw [f_Ma_prepare_L212]
    exact fm_iteV (fm_someV h0) (fm_obV (fr_Ma_linkedAhead hI hJ hF hw h0) (fun t223 μ3z hm3z => fm_gdV (fun g1 => fm_wrV (hI (hw _ (by first | omega | (simp only [inb, Bool.and_eq_true, decide_eq_true_eq] at *; omega))) hm3z) (fun μ4z hm4z => fm_gdV (fun g2 => fm_gdV (fun g3 => fr_Ma_prepare_B254 hI hJ hF hw (ih) hm4z))))))
set_option maxHeartbeats 1000000 in
theorem fr_Ma_prepare_L161 {W : Nat → Prop} {P : MM → Prop} (hI : ∀ {μ : MM} {a k : Nat} {v : Int32}, W a → P μ → P (mm_I μ a k v)) (hJ : ∀ {μ : MM} {a k : Nat} {v : Int64}, W a → P μ → P (mm_J μ a k v)) (hF : ∀ {μ : MM} {a : Nat} {g : Nat → Int32}, W a → P μ → P (mm_F μ a g)) (hw : ∀ a, a < 355 → W a) {N : Nat} {k148 : Int32 → MM → Option MM} (hk148 : ∀ (z0 : Int32) (z1 : MM), P z1 → fm_V P (k148 z0 z1)) : ∀ (n : Nat) (x2 : Int32) (x3 : Int32) (μ : MM), P μ → fm_V P (f_Ma_prepare_L161 N k148 n x2 x3 μ) := by
  intro n
  induction n with
  | zero => intros; exact fm_noneV
  | succ n ih =>
    intro x2 x3 μ h0
    rw [f_Ma_prepare_L161]
    exact fm_iteV (hk148 _ _ h0) (fm_obvV (fr_Ma_narrow hI hJ hF hw h0) (fun μ6z hm6z => ih _ _ _ hm6z))
set_option maxHeartbeats 1000000 in
theorem fr_Ma_prepare_L148 {W : Nat → Prop} {P : MM → Prop} (hI : ∀ {μ : MM} {a k : Nat} {v : Int32}, W a → P μ → P (mm_I μ a k v)) (hJ : ∀ {μ : MM} {a k : Nat} {v : Int64}, W a → P μ → P (mm_J μ a k v)) (hF : ∀ {μ : MM} {a : Nat} {g : Nat → Int32}, W a → P μ → P (mm_F μ a g)) (hw : ∀ a, a < 355 → W a) {N : Nat} : ∀ (n : Nat) (x2 : Int32) (μ : MM), P μ → fm_V P (f_Ma_prepare_L148 N n x2 μ) := by
  intro n
  induction n with
  | zero => intros; exact fm_noneV
  | succ n ih =>
    intro x2 μ h0
    rw [f_Ma_prepare_L148]
    exact fm_iteV (fm_gdV (fun g1 => fm_wrV (hI (hw _ (by first | omega | (simp only [inb, Bool.and_eq_true, decide_eq_true_eq] at *; omega))) h0) (fun μ2z hm2z => fr_Ma_prepare_L212 hI hJ hF hw _ _ _ hm2z))) (fr_Ma_prepare_L161 hI hJ hF hw (ih) _ _ _ _ h0)
set_option maxHeartbeats 1000000 in
theorem fr_Ma_prepare_B139 {W : Nat → Prop} {P : MM → Prop} (hI : ∀ {μ : MM} {a k : Nat} {v : Int32}, W a → P μ → P (mm_I μ a k v)) (hJ : ∀ {μ : MM} {a k : Nat} {v : Int64}, W a → P μ → P (mm_J μ a k v)) (hF : ∀ {μ : MM} {a : Nat} {g : Nat → Int32}, W a → P μ → P (mm_F μ a g)) (hw : ∀ a, a < 355 → W a) {N : Nat} {k47 : Int32 → MM → Option MM} {x2 : Int32} {s1 : Int32} {s2 : Int32} {μ : MM} (hk47 : ∀ (z0 : Int32) (z1 : MM), P z1 → fm_V P (k47 z0 z1)) (h0 : P μ) : fm_V P (f_Ma_prepare_B139 N k47 x2 s1 s2 μ) := by
  unfold f_Ma_prepare_B139
  exact fm_gdV (fun g1 => fm_wrV (hI (hw _ (by first | omega | (simp only [inb, Bool.and_eq_true, decide_eq_true_eq] at *; omega))) h0) (fun μ10z hm10z => hk47 _ _ hm10z))
set_option maxHeartbeats 1000000 in
theorem fr_Ma_prepare_B136 {W : Nat → Prop} {P : MM → Prop} (hI : ∀ {μ : MM} {a k : Nat} {v : Int32}, W a → P μ → P (mm_I μ a k v)) (hJ : ∀ {μ : MM} {a k : Nat} {v : Int64}, W a → P μ → P (mm_J μ a k v)) (hF : ∀ {μ : MM} {a : Nat} {g : Nat → Int32}, W a → P μ → P (mm_F μ a g)) (hw : ∀ a, a < 355 → W a) {N : Nat} {k47 : Int32 → MM → Option MM} {x2 : Int32} {s1 : Int32} {s3 : Int32} {s4 : Int32} {μ : MM} (hk47 : ∀ (z0 : Int32) (z1 : MM), P z1 → fm_V P (k47 z0 z1)) (h0 : P μ) : fm_V P (f_Ma_prepare_B136 N k47 x2 s1 s3 s4 μ) := by
  unfold f_Ma_prepare_B136
  exact fm_obV (fr_Ma_ableThings hI hJ hF hw h0) (fun t136 μ9z hm9z => fr_Ma_prepare_B139 hI hJ hF hw (hk47) hm9z)
set_option maxHeartbeats 1000000 in
theorem fr_Ma_prepare_B105 {W : Nat → Prop} {P : MM → Prop} (hI : ∀ {μ : MM} {a k : Nat} {v : Int32}, W a → P μ → P (mm_I μ a k v)) (hJ : ∀ {μ : MM} {a k : Nat} {v : Int64}, W a → P μ → P (mm_J μ a k v)) (hF : ∀ {μ : MM} {a : Nat} {g : Nat → Int32}, W a → P μ → P (mm_F μ a g)) (hw : ∀ a, a < 355 → W a) {N : Nat} {k47 : Int32 → MM → Option MM} {x2 : Int32} {x3 : Int32} {x4 : Int32} {s1 : Int32} {s2 : Int32} {μ : MM} (hk47 : ∀ (z0 : Int32) (z1 : MM), P z1 → fm_V P (k47 z0 z1)) (h0 : P μ) : fm_V P (f_Ma_prepare_B105 N k47 x2 x3 x4 s1 s2 μ) := by
  unfold f_Ma_prepare_B105
  exact fm_gdV (fun g1 => fm_wrV (hI (hw _ (by first | omega | (simp only [inb, Bool.and_eq_true, decide_eq_true_eq] at *; omega))) h0) (fun μ8z hm8z => fm_iteV (fr_Ma_prepare_B136 hI hJ hF hw (hk47) hm8z) (fr_Ma_prepare_B139 hI hJ hF hw (hk47) hm8z)))
set_option maxHeartbeats 1000000 in
theorem fr_Ma_prepare_B82 {W : Nat → Prop} {P : MM → Prop} (hI : ∀ {μ : MM} {a k : Nat} {v : Int32}, W a → P μ → P (mm_I μ a k v)) (hJ : ∀ {μ : MM} {a k : Nat} {v : Int64}, W a → P μ → P (mm_J μ a k v)) (hF : ∀ {μ : MM} {a : Nat} {g : Nat → Int32}, W a → P μ → P (mm_F μ a g)) (hw : ∀ a, a < 355 → W a) {N : Nat} {k47 : Int32 → MM → Option MM} {x2 : Int32} {x3 : Int32} {s0 : Int32} {μ : MM} (hk47 : ∀ (z0 : Int32) (z1 : MM), P z1 → fm_V P (k47 z0 z1)) (h0 : P μ) : fm_V P (f_Ma_prepare_B82 N k47 x2 x3 s0 μ) := by
  unfold f_Ma_prepare_B82
  exact fr_Ma_prepare_B105 hI hJ hF hw (hk47) h0
set_option maxHeartbeats 1000000 in
theorem fr_Ma_prepare_L47 {W : Nat → Prop} {P : MM → Prop} (hI : ∀ {μ : MM} {a k : Nat} {v : Int32}, W a → P μ → P (mm_I μ a k v)) (hJ : ∀ {μ : MM} {a k : Nat} {v : Int64}, W a → P μ → P (mm_J μ a k v)) (hF : ∀ {μ : MM} {a : Nat} {g : Nat → Int32}, W a → P μ → P (mm_F μ a g)) (hw : ∀ a, a < 355 → W a) {N : Nat} : ∀ (n : Nat) (x2 : Int32) (μ : MM), P μ → fm_V P (f_Ma_prepare_L47 N n x2 μ) := by
  intro n
  induction n with
  | zero => intros; exact fm_noneV
  | succ n ih =>
    intro x2 μ h0
    rw [f_Ma_prepare_L47]
    exact fm_iteV (fr_Ma_prepare_L148 hI hJ hF hw _ _ _ h0) (fm_obV (fr_Wo_named hI hJ hF hw h0) (fun t61 μ7z hm7z => fr_Ma_prepare_B82 hI hJ hF hw (ih) hm7z))
set_option maxHeartbeats 1000000 in
theorem fr_Ma_prepare_L2 {W : Nat → Prop} {P : MM → Prop} (hI : ∀ {μ : MM} {a k : Nat} {v : Int32}, W a → P μ → P (mm_I μ a k v)) (hJ : ∀ {μ : MM} {a k : Nat} {v : Int64}, W a → P μ → P (mm_J μ a k v)) (hF : ∀ {μ : MM} {a : Nat} {g : Nat → Int32}, W a → P μ → P (mm_F μ a g)) (hw : ∀ a, a < 355 → W a) {N : Nat} : ∀ (n : Nat) (x1 : Int32) (μ : MM), P μ → fm_V P (f_Ma_prepare_L2 N n x1 μ) := by
  intro n
  induction n with
  | zero => intros; exact fm_noneV
  | succ n ih =>
    intro x1 μ h0
    rw [f_Ma_prepare_L2]
    exact fm_iteV (fm_obvV (fr_Ma_sortByPrice hI hJ hF hw h0) (fun μ1z hm1z => fr_Ma_prepare_L47 hI hJ hF hw _ _ _ hm1z)) (fm_obV (fr_Ma_alikeThings hI hJ hF hw h0) (fun t20 μ11z hm11z => fm_gdV (fun g1 => fm_wrV (hI (hw _ (by first | omega | (simp only [inb, Bool.and_eq_true, decide_eq_true_eq] at *; omega))) hm11z) (fun μ12z hm12z => ih _ _ hm12z))))
set_option maxHeartbeats 1000000 in
theorem fr_Ma_prepare {W : Nat → Prop} {P : MM → Prop} (hI : ∀ {μ : MM} {a k : Nat} {v : Int32}, W a → P μ → P (mm_I μ a k v)) (hJ : ∀ {μ : MM} {a k : Nat} {v : Int64}, W a → P μ → P (mm_J μ a k v)) (hF : ∀ {μ : MM} {a : Nat} {g : Nat → Int32}, W a → P μ → P (mm_F μ a g)) (hw : ∀ a, a < 355 → W a) {N : Nat} {μ : MM} (h0 : P μ) : fm_V P (f_Ma_prepare N μ) := by
  unfold f_Ma_prepare
  exact fr_Ma_prepare_L2 hI hJ hF hw _ _ _ h0
set_option maxHeartbeats 1000000 in
theorem fr_Ma_leastPrices_L8 {W : Nat → Prop} {P : MM → Prop} (hI : ∀ {μ : MM} {a k : Nat} {v : Int32}, W a → P μ → P (mm_I μ a k v)) (hJ : ∀ {μ : MM} {a k : Nat} {v : Int64}, W a → P μ → P (mm_J μ a k v)) (hF : ∀ {μ : MM} {a : Nat} {g : Nat → Int32}, W a → P μ → P (mm_F μ a g)) (hw : ∀ a, a < 355 → W a) {N : Nat} : ∀ (n : Nat) (x1 : Int32) (x2 : Int32) (x3 : Int32) (x4 : Int32) (x5 : Int32) (μ : MM), P μ → fm_O P (f_Ma_leastPrices_L8 N n x1 x2 x3 x4 x5 μ) := by
  intro n
  induction n with
  | zero => intros; exact fm_none
  | succ n ih =>
    intro x1 x2 x3 x4 x5 μ h0
    rw [f_Ma_leastPrices_L8]
    exact fm_ite (fm_some h0) (fm_ite (fm_some h0) (fm_gd (fun g1 => fm_ite (fm_gd (fun g2 => fm_gd (fun g3 => ih _ _ _ _ _ _ h0))) (ih _ _ _ _ _ _ h0))))
set_option maxHeartbeats 1000000 in
theorem fr_Ma_leastPrices {W : Nat → Prop} {P : MM → Prop} (hI : ∀ {μ : MM} {a k : Nat} {v : Int32}, W a → P μ → P (mm_I μ a k v)) (hJ : ∀ {μ : MM} {a k : Nat} {v : Int64}, W a → P μ → P (mm_J μ a k v)) (hF : ∀ {μ : MM} {a : Nat} {g : Nat → Int32}, W a → P μ → P (mm_F μ a g)) (hw : ∀ a, a < 355 → W a) {N : Nat} {x1 : Int32} {x2 : Int32} {μ : MM} (h0 : P μ) : fm_O P (f_Ma_leastPrices N x1 x2 μ) := by
  unfold f_Ma_leastPrices
  exact fr_Ma_leastPrices_L8 hI hJ hF hw _ _ _ _ _ _ _ h0
set_option maxHeartbeats 1000000 in
theorem fr_Ma_agrees_B89 {W : Nat → Prop} {P : MM → Prop} (hI : ∀ {μ : MM} {a k : Nat} {v : Int32}, W a → P μ → P (mm_I μ a k v)) (hJ : ∀ {μ : MM} {a k : Nat} {v : Int64}, W a → P μ → P (mm_J μ a k v)) (hF : ∀ {μ : MM} {a : Nat} {g : Nat → Int32}, W a → P μ → P (mm_F μ a g)) (hw : ∀ a, a < 355 → W a) {N : Nat} {k13 : Int32 → Int32 → Int32 → MM → Option (Int32 × MM)} {x1 : Int32} {x2 : Int32} {x3 : Int32} {x4 : Int32} {μ : MM} (hk13 : ∀ (z0 : Int32) (z1 : Int32) (z2 : Int32) (z3 : MM), P z3 → fm_O P (k13 z0 z1 z2 z3)) (h0 : P μ) : fm_O P (f_Ma_agrees_B89 N k13 x1 x2 x3 x4 μ) := by
  unfold f_Ma_agrees_B89
  exact fm_ite (fm_some h0) (fm_ite (fm_some h0) (fm_gd (fun g1 => fm_ite (fm_some h0) (hk13 _ _ _ _ h0))))
set_option maxHeartbeats 1000000 in
theorem fr_Ma_agrees_B77 {W : Nat → Prop} {P : MM → Prop} (hI : ∀ {μ : MM} {a k : Nat} {v : Int32}, W a → P μ → P (mm_I μ a k v)) (hJ : ∀ {μ : MM} {a k : Nat} {v : Int64}, W a → P μ → P (mm_J μ a k v)) (hF : ∀ {μ : MM} {a : Nat} {g : Nat → Int32}, W a → P μ → P (mm_F μ a g)) (hw : ∀ a, a < 355 → W a) {N : Nat} {k13 : Int32 → Int32 → Int32 → MM → Option (Int32 × MM)} {x1 : Int32} {x2 : Int32} {x3 : Int32} {x4 : Int32} {x5 : Int32} {s0 : Int32} {μ : MM} (hk13 : ∀ (z0 : Int32) (z1 : Int32) (z2 : Int32) (z3 : MM), P z3 → fm_O P (k13 z0 z1 z2 z3)) (h0 : P μ) : fm_O P (f_Ma_agrees_B77 N k13 x1 x2 x3 x4 x5 s0 μ) := by
  unfold f_Ma_agrees_B77
  exact fm_ite (fm_ite (hk13 _ _ _ _ h0) (fr_Ma_agrees_B89 hI hJ hF hw (hk13) h0)) (fr_Ma_agrees_B89 hI hJ hF hw (hk13) h0)
set_option maxHeartbeats 1000000 in
theorem fr_Ma_agrees_B76 {W : Nat → Prop} {P : MM → Prop} (hI : ∀ {μ : MM} {a k : Nat} {v : Int32}, W a → P μ → P (mm_I μ a k v)) (hJ : ∀ {μ : MM} {a k : Nat} {v : Int64}, W a → P μ → P (mm_J μ a k v)) (hF : ∀ {μ : MM} {a : Nat} {g : Nat → Int32}, W a → P μ → P (mm_F μ a g)) (hw : ∀ a, a < 355 → W a) {N : Nat} {k13 : Int32 → Int32 → Int32 → MM → Option (Int32 × MM)} {x1 : Int32} {x2 : Int32} {x3 : Int32} {x4 : Int32} {x5 : Int32} {μ : MM} (hk13 : ∀ (z0 : Int32) (z1 : Int32) (z2 : Int32) (z3 : MM), P z3 → fm_O P (k13 z0 z1 z2 z3)) (h0 : P μ) : fm_O P (f_Ma_agrees_B76 N k13 x1 x2 x3 x4 x5 μ) := by
  unfold f_Ma_agrees_B76
  exact fr_Ma_agrees_B77 hI hJ hF hw (hk13) h0
set_option maxHeartbeats 1000000 in
theorem fr_Ma_agrees_B50 {W : Nat → Prop} {P : MM → Prop} (hI : ∀ {μ : MM} {a k : Nat} {v : Int32}, W a → P μ → P (mm_I μ a k v)) (hJ : ∀ {μ : MM} {a k : Nat} {v : Int64}, W a → P μ → P (mm_J μ a k v)) (hF : ∀ {μ : MM} {a : Nat} {g : Nat → Int32}, W a → P μ → P (mm_F μ a g)) (hw : ∀ a, a < 355 → W a) {N : Nat} {k13 : Int32 → Int32 → Int32 → MM → Option (Int32 × MM)} {x1 : Int32} {x2 : Int32} {x3 : Int32} {x4 : Int32} {s0 : Int32} {μ : MM} (hk13 : ∀ (z0 : Int32) (z1 : Int32) (z2 : Int32) (z3 : MM), P z3 → fm_O P (k13 z0 z1 z2 z3)) (h0 : P μ) : fm_O P (f_Ma_agrees_B50 N k13 x1 x2 x3 x4 s0 μ) := by
  unfold f_Ma_agrees_B50
  exact fm_ite (fr_Ma_agrees_B76 hI hJ hF hw (hk13) h0) (fm_gd (fun g1 => fm_ite (fr_Ma_agrees_B77 hI hJ hF hw (hk13) h0) (fr_Ma_agrees_B76 hI hJ hF hw (hk13) h0)))
set_option maxHeartbeats 1000000 in
theorem fr_Ma_agrees_B49 {W : Nat → Prop} {P : MM → Prop} (hI : ∀ {μ : MM} {a k : Nat} {v : Int32}, W a → P μ → P (mm_I μ a k v)) (hJ : ∀ {μ : MM} {a k : Nat} {v : Int64}, W a → P μ → P (mm_J μ a k v)) (hF : ∀ {μ : MM} {a : Nat} {g : Nat → Int32}, W a → P μ → P (mm_F μ a g)) (hw : ∀ a, a < 355 → W a) {N : Nat} {k13 : Int32 → Int32 → Int32 → MM → Option (Int32 × MM)} {x1 : Int32} {x2 : Int32} {x3 : Int32} {x4 : Int32} {μ : MM} (hk13 : ∀ (z0 : Int32) (z1 : Int32) (z2 : Int32) (z3 : MM), P z3 → fm_O P (k13 z0 z1 z2 z3)) (h0 : P μ) : fm_O P (f_Ma_agrees_B49 N k13 x1 x2 x3 x4 μ) := by
  unfold f_Ma_agrees_B49
  exact fr_Ma_agrees_B50 hI hJ hF hw (hk13) h0
set_option maxHeartbeats 1000000 in
theorem fr_Ma_agrees_L13 {W : Nat → Prop} {P : MM → Prop} (hI : ∀ {μ : MM} {a k : Nat} {v : Int32}, W a → P μ → P (mm_I μ a k v)) (hJ : ∀ {μ : MM} {a k : Nat} {v : Int64}, W a → P μ → P (mm_J μ a k v)) (hF : ∀ {μ : MM} {a : Nat} {g : Nat → Int32}, W a → P μ → P (mm_F μ a g)) (hw : ∀ a, a < 355 → W a) {N : Nat} : ∀ (n : Nat) (x1 : Int32) (x2 : Int32) (x3 : Int32) (μ : MM), P μ → fm_O P (f_Ma_agrees_L13 N n x1 x2 x3 μ) := by
  intro n
  induction n with
  | zero => intros; exact fm_none
  | succ n ih =>
    intro x1 x2 x3 μ h0
    rw [f_Ma_agrees_L13]
    exact fm_ite (fm_some h0) (fm_gd (fun g1 => fm_ite (fr_Ma_agrees_B49 hI hJ hF hw (ih) h0) (fm_gd (fun g2 => fm_ite (fr_Ma_agrees_B50 hI hJ hF hw (ih) h0) (fr_Ma_agrees_B49 hI hJ hF hw (ih) h0)))))
set_option maxHeartbeats 1000000 in
theorem fr_Ma_agrees {W : Nat → Prop} {P : MM → Prop} (hI : ∀ {μ : MM} {a k : Nat} {v : Int32}, W a → P μ → P (mm_I μ a k v)) (hJ : ∀ {μ : MM} {a k : Nat} {v : Int64}, W a → P μ → P (mm_J μ a k v)) (hF : ∀ {μ : MM} {a : Nat} {g : Nat → Int32}, W a → P μ → P (mm_F μ a g)) (hw : ∀ a, a < 355 → W a) {N : Nat} {x1 : Int32} {x2 : Int32} {μ : MM} (h0 : P μ) : fm_O P (f_Ma_agrees N x1 x2 μ) := by
  unfold f_Ma_agrees
  exact fm_gd (fun g1 => fm_ite (fm_some h0) (fr_Ma_agrees_L13 hI hJ hF hw _ _ _ _ _ h0))
set_option maxHeartbeats 1000000 in
theorem fr_Ma_search_L107 {W : Nat → Prop} {P : MM → Prop} (hI : ∀ {μ : MM} {a k : Nat} {v : Int32}, W a → P μ → P (mm_I μ a k v)) (hJ : ∀ {μ : MM} {a k : Nat} {v : Int64}, W a → P μ → P (mm_J μ a k v)) (hF : ∀ {μ : MM} {a : Nat} {g : Nat → Int32}, W a → P μ → P (mm_F μ a g)) (hw : ∀ a, a < 355 → W a) {N : Nat} {rc_X6_search : Int32 → Int32 → Int32 → Int32 → Int32 → MM → Option MM} (hrc_X6_search : ∀ (z0 : Int32) (z1 : Int32) (z2 : Int32) (z3 : Int32) (z4 : Int32) (z5 : MM), P z5 → fm_V P (rc_X6_search z0 z1 z2 z3 z4 z5)) : ∀ (n : Nat) (x1 : Int32) (x2 : Int32) (x3 : Int32) (x4 : Int32) (x5 : Int32) (x7 : Int32) (x8 : Int32) (μ : MM), P μ → fm_V P (f_Ma_search_L107 N rc_X6_search n x1 x2 x3 x4 x5 x7 x8 μ) := by
  intro n
  induction n with
  | zero => intros; exact fm_noneV
  | succ n ih =>
    intro x1 x2 x3 x4 x5 x7 x8 μ h0
    rw [f_Ma_search_L107]
    exact fm_iteV (fm_obV (fr_Ma_agrees hI hJ hF hw h0) (fun t194 μ1z hm1z => fm_iteV (fm_someV hm1z) (fm_gdV (fun g1 => fm_wrV (hI (hw _ (by first | omega | (simp only [inb, Bool.and_eq_true, decide_eq_true_eq] at *; omega))) hm1z) (fun μ2z hm2z => fm_obvV (hrc_X6_search _ _ _ _ _ _ hm2z) (fun μ3z hm3z => fm_someV hm3z)))))) (fm_iteV (fm_obV (fr_Ma_agrees hI hJ hF hw h0) (fun t134 μ4z hm4z => fm_iteV (ih _ _ _ _ _ _ _ _ hm4z) (fm_gdV (fun g2 => fm_wrV (hI (hw _ (by first | omega | (simp only [inb, Bool.and_eq_true, decide_eq_true_eq] at *; omega))) hm4z) (fun μ5z hm5z => fm_gdV (fun g3 => fm_obvV (hrc_X6_search _ _ _ _ _ _ hm5z) (fun μ6z hm6z => ih _ _ _ _ _ _ _ _ hm6z))))))) (ih _ _ _ _ _ _ _ _ h0))
set_option maxHeartbeats 1000000 in
theorem fr_Ma_search_B63 {W : Nat → Prop} {P : MM → Prop} (hI : ∀ {μ : MM} {a k : Nat} {v : Int32}, W a → P μ → P (mm_I μ a k v)) (hJ : ∀ {μ : MM} {a k : Nat} {v : Int64}, W a → P μ → P (mm_J μ a k v)) (hF : ∀ {μ : MM} {a : Nat} {g : Nat → Int32}, W a → P μ → P (mm_F μ a g)) (hw : ∀ a, a < 355 → W a) {N : Nat} {rc_X6_search : Int32 → Int32 → Int32 → Int32 → Int32 → MM → Option MM} {x1 : Int32} {x2 : Int32} {x3 : Int32} {x4 : Int32} {x5 : Int32} {μ : MM} (hrc_X6_search : ∀ (z0 : Int32) (z1 : Int32) (z2 : Int32) (z3 : Int32) (z4 : Int32) (z5 : MM), P z5 → fm_V P (rc_X6_search z0 z1 z2 z3 z4 z5)) (h0 : P μ) : fm_V P (f_Ma_search_B63 N rc_X6_search x1 x2 x3 x4 x5 μ) := by
  unfold f_Ma_search_B63
  exact fm_iteV (fm_gdV (fun g1 => fr_Ma_search_L107 hI hJ hF hw (hrc_X6_search) _ _ _ _ _ _ _ _ _ h0)) (fm_wrV (hI (hw _ (by first | omega | (simp only [inb, Bool.and_eq_true, decide_eq_true_eq] at *; omega))) h0) (fun μ7z hm7z => fm_wrV (hI (hw _ (by first | omega | (simp only [inb, Bool.and_eq_true, decide_eq_true_eq] at *; omega))) hm7z) (fun μ8z hm8z => fm_wrV (hI (hw _ (by first | omega | (simp only [inb, Bool.and_eq_true, decide_eq_true_eq] at *; omega))) hm8z) (fun μ9z hm9z => fm_someV hm9z))))
set_option maxHeartbeats 1000000 in
theorem fr_Ma_search_B23 {W : Nat → Prop} {P : MM → Prop} (hI : ∀ {μ : MM} {a k : Nat} {v : Int32}, W a → P μ → P (mm_I μ a k v)) (hJ : ∀ {μ : MM} {a k : Nat} {v : Int64}, W a → P μ → P (mm_J μ a k v)) (hF : ∀ {μ : MM} {a : Nat} {g : Nat → Int32}, W a → P μ → P (mm_F μ a g)) (hw : ∀ a, a < 355 → W a) {N : Nat} {rc_X6_search : Int32 → Int32 → Int32 → Int32 → Int32 → MM → Option MM} {x1 : Int32} {x2 : Int32} {x3 : Int32} {x4 : Int32} {x5 : Int32} {s0 : Int32} {μ : MM} (hrc_X6_search : ∀ (z0 : Int32) (z1 : Int32) (z2 : Int32) (z3 : Int32) (z4 : Int32) (z5 : MM), P z5 → fm_V P (rc_X6_search z0 z1 z2 z3 z4 z5)) (h0 : P μ) : fm_V P (f_Ma_search_B23 N rc_X6_search x1 x2 x3 x4 x5 s0 μ) := by
  unfold f_Ma_search_B23
  exact fm_iteV (fm_someV h0) (fm_iteV (fm_obV (fr_Ma_leastPrices hI hJ hF hw h0) (fun t51 μ10z hm10z => fm_iteV (fr_Ma_search_B63 hI hJ hF hw (hrc_X6_search) hm10z) (fm_someV hm10z))) (fr_Ma_search_B63 hI hJ hF hw (hrc_X6_search) h0))
set_option maxHeartbeats 1000000 in
theorem fr_Ma_search_body {W : Nat → Prop} {P : MM → Prop} (hI : ∀ {μ : MM} {a k : Nat} {v : Int32}, W a → P μ → P (mm_I μ a k v)) (hJ : ∀ {μ : MM} {a k : Nat} {v : Int64}, W a → P μ → P (mm_J μ a k v)) (hF : ∀ {μ : MM} {a : Nat} {g : Nat → Int32}, W a → P μ → P (mm_F μ a g)) (hw : ∀ a, a < 355 → W a) {N : Nat} {rc_X6_search : Int32 → Int32 → Int32 → Int32 → Int32 → MM → Option MM} {x1 : Int32} {x2 : Int32} {x3 : Int32} {x4 : Int32} {x5 : Int32} {μ : MM} (hrc_X6_search : ∀ (z0 : Int32) (z1 : Int32) (z2 : Int32) (z3 : Int32) (z4 : Int32) (z5 : MM), P z5 → fm_V P (rc_X6_search z0 z1 z2 z3 z4 z5)) (h0 : P μ) : fm_V P (f_Ma_search_body N rc_X6_search x1 x2 x3 x4 x5 μ) := by
  unfold f_Ma_search_body
  exact fm_iteV (fm_gdV (fun g1 => fr_Ma_search_B23 hI hJ hF hw (hrc_X6_search) h0)) (fr_Ma_search_B23 hI hJ hF hw (hrc_X6_search) h0)
set_option maxHeartbeats 1000000 in
theorem fr_Ma_search_t {W : Nat → Prop} {P : MM → Prop} (hI : ∀ {μ : MM} {a k : Nat} {v : Int32}, W a → P μ → P (mm_I μ a k v)) (hJ : ∀ {μ : MM} {a k : Nat} {v : Int64}, W a → P μ → P (mm_J μ a k v)) (hF : ∀ {μ : MM} {a : Nat} {g : Nat → Int32}, W a → P μ → P (mm_F μ a g)) (hw : ∀ a, a < 355 → W a) {N : Nat} : ∀ (t : Nat) (x1 : Int32) (x2 : Int32) (x3 : Int32) (x4 : Int32) (x5 : Int32) (μ : MM), P μ → fm_V P (f_Ma_search_t N t x1 x2 x3 x4 x5 μ) := by
  intro t
  induction t with
  | zero => intros; exact fm_noneV
  | succ t ih =>
    intro x1 x2 x3 x4 x5 μ h0
    rw [f_Ma_search_t]
    exact fr_Ma_search_body hI hJ hF hw (fun _ _ _ _ _ _ h9 => ih _ _ _ _ _ _ h9) h0
set_option maxHeartbeats 1000000 in
theorem fr_Ma_search {W : Nat → Prop} {P : MM → Prop} (hI : ∀ {μ : MM} {a k : Nat} {v : Int32}, W a → P μ → P (mm_I μ a k v)) (hJ : ∀ {μ : MM} {a k : Nat} {v : Int64}, W a → P μ → P (mm_J μ a k v)) (hF : ∀ {μ : MM} {a : Nat} {g : Nat → Int32}, W a → P μ → P (mm_F μ a g)) (hw : ∀ a, a < 355 → W a) {N : Nat} {x1 : Int32} {x2 : Int32} {x3 : Int32} {x4 : Int32} {x5 : Int32} {μ : MM} (h0 : P μ) : fm_V P (f_Ma_search N x1 x2 x3 x4 x5 μ) := by
  unfold f_Ma_search
  exact fr_Ma_search_t hI hJ hF hw _ _ _ _ _ _ _ h0
set_option maxHeartbeats 1000000 in
theorem fr_Ma_findBest {W : Nat → Prop} {P : MM → Prop} (hI : ∀ {μ : MM} {a k : Nat} {v : Int32}, W a → P μ → P (mm_I μ a k v)) (hJ : ∀ {μ : MM} {a k : Nat} {v : Int64}, W a → P μ → P (mm_J μ a k v)) (hF : ∀ {μ : MM} {a : Nat} {g : Nat → Int32}, W a → P μ → P (mm_F μ a g)) (hw : ∀ a, a < 355 → W a) {N : Nat} {μ : MM} (h0 : P μ) : fm_V P (f_Ma_findBest N μ) := by
  unfold f_Ma_findBest
  exact fm_obvV (fr_Ma_prepare hI hJ hF hw h0) (fun μ1z hm1z => fm_wrV (hI (hw _ (by first | omega | (simp only [inb, Bool.and_eq_true, decide_eq_true_eq] at *; omega))) hm1z) (fun μ2z hm2z => fm_wrV (hI (hw _ (by first | omega | (simp only [inb, Bool.and_eq_true, decide_eq_true_eq] at *; omega))) hm2z) (fun μ3z hm3z => fm_wrV (hI (hw _ (by first | omega | (simp only [inb, Bool.and_eq_true, decide_eq_true_eq] at *; omega))) hm3z) (fun μ4z hm4z => fm_obvV (fr_Ma_search hI hJ hF hw hm4z) (fun μ5z hm5z => fm_someV hm5z)))))
set_option maxHeartbeats 1000000 in
theorem fr_In_bitCount_0f7a4 {W : Nat → Prop} {P : MM → Prop} (hI : ∀ {μ : MM} {a k : Nat} {v : Int32}, W a → P μ → P (mm_I μ a k v)) (hJ : ∀ {μ : MM} {a k : Nat} {v : Int64}, W a → P μ → P (mm_J μ a k v)) (hF : ∀ {μ : MM} {a : Nat} {g : Nat → Int32}, W a → P μ → P (mm_F μ a g)) {N : Nat} {x0 : Int32} {μ : MM} (h0 : P μ) : fm_O P (f_In_bitCount_0f7a4 N x0 μ) := by
  unfold f_In_bitCount_0f7a4
  exact fm_some h0
set_option maxHeartbeats 1000000 in
theorem fr_Ma_canAll_L70 {W : Nat → Prop} {P : MM → Prop} (hI : ∀ {μ : MM} {a k : Nat} {v : Int32}, W a → P μ → P (mm_I μ a k v)) (hJ : ∀ {μ : MM} {a k : Nat} {v : Int64}, W a → P μ → P (mm_J μ a k v)) (hF : ∀ {μ : MM} {a : Nat} {g : Nat → Int32}, W a → P μ → P (mm_F μ a g)) (hw : ∀ a, a < 355 → W a) {N : Nat} {rc_X6_canAll : Int32 → Int32 → Int32 → MM → Option (Int32 × MM)} (hrc_X6_canAll : ∀ (z0 : Int32) (z1 : Int32) (z2 : Int32) (z3 : MM), P z3 → fm_O P (rc_X6_canAll z0 z1 z2 z3)) : ∀ (n : Nat) (x1 : Int32) (x2 : Int32) (x3 : Int32) (x4 : Int32) (x5 : Int32) (μ : MM), P μ → fm_O P (f_Ma_canAll_L70 N rc_X6_canAll n x1 x2 x3 x4 x5 μ) := by
  intro n
  induction n with
  | zero => intros; exact fm_none
  | succ n ih =>
    intro x1 x2 x3 x4 x5 μ h0
    rw [f_Ma_canAll_L70]
    exact fm_ite (fm_some h0) (fm_ite (fm_ob (fr_Ma_agrees hI hJ hF hw h0) (fun t97 μ1z hm1z => fm_ite (ih _ _ _ _ _ _ hm1z) (fm_gd (fun g1 => fm_wr (hI (hw _ (by first | omega | (simp only [inb, Bool.and_eq_true, decide_eq_true_eq] at *; omega))) hm1z) (fun μ2z hm2z => fm_ob (hrc_X6_canAll _ _ _ _ hm2z) (fun t122 μ3z hm3z => fm_ite (ih _ _ _ _ _ _ hm3z) (fm_some hm3z))))))) (ih _ _ _ _ _ _ h0))
set_option maxHeartbeats 1000000 in
theorem fr_Ma_canAll_body {W : Nat → Prop} {P : MM → Prop} (hI : ∀ {μ : MM} {a k : Nat} {v : Int32}, W a → P μ → P (mm_I μ a k v)) (hJ : ∀ {μ : MM} {a k : Nat} {v : Int64}, W a → P μ → P (mm_J μ a k v)) (hF : ∀ {μ : MM} {a : Nat} {g : Nat → Int32}, W a → P μ → P (mm_F μ a g)) (hw : ∀ a, a < 355 → W a) {N : Nat} {rc_X6_canAll : Int32 → Int32 → Int32 → MM → Option (Int32 × MM)} {x1 : Int32} {x2 : Int32} {x3 : Int32} {μ : MM} (hrc_X6_canAll : ∀ (z0 : Int32) (z1 : Int32) (z2 : Int32) (z3 : MM), P z3 → fm_O P (rc_X6_canAll z0 z1 z2 z3)) (h0 : P μ) : fm_O P (f_Ma_canAll_body N rc_X6_canAll x1 x2 x3 μ) := by
  unfold f_Ma_canAll_body
  exact fm_ite (fm_ite (fm_gd (fun g1 => fm_wr (hI (hw _ (by first | omega | (simp only [inb, Bool.and_eq_true, decide_eq_true_eq] at *; omega))) h0) (fun μ4z hm4z => fm_ob (fr_Ma_agrees hI hJ hF hw hm4z) (fun t31 μ5z hm5z => fm_ite (fm_some hm5z) (fm_ob (hrc_X6_canAll _ _ _ _ hm5z) (fun t43 μ6z hm6z => fm_ite (fm_some hm6z) (fm_some hm6z))))))) (fm_gd (fun g2 => fr_Ma_canAll_L70 hI hJ hF hw (hrc_X6_canAll) _ _ _ _ _ _ _ h0))) (fm_some h0)
set_option maxHeartbeats 1000000 in
theorem fr_Ma_canAll_t {W : Nat → Prop} {P : MM → Prop} (hI : ∀ {μ : MM} {a k : Nat} {v : Int32}, W a → P μ → P (mm_I μ a k v)) (hJ : ∀ {μ : MM} {a k : Nat} {v : Int64}, W a → P μ → P (mm_J μ a k v)) (hF : ∀ {μ : MM} {a : Nat} {g : Nat → Int32}, W a → P μ → P (mm_F μ a g)) (hw : ∀ a, a < 355 → W a) {N : Nat} : ∀ (t : Nat) (x1 : Int32) (x2 : Int32) (x3 : Int32) (μ : MM), P μ → fm_O P (f_Ma_canAll_t N t x1 x2 x3 μ) := by
  intro t
  induction t with
  | zero => intros; exact fm_none
  | succ t ih =>
    intro x1 x2 x3 μ h0
    rw [f_Ma_canAll_t]
    exact fr_Ma_canAll_body hI hJ hF hw (fun _ _ _ _ h9 => ih _ _ _ _ h9) h0
