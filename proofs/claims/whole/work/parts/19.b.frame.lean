set_option maxHeartbeats 1000000 in
theorem fr_Ma_canAll {W : Nat → Prop} {P : MM → Prop} (hI : ∀ {μ : MM} {a k : Nat} {v : Int32}, W a → P μ → P (mm_I μ a k v)) (hJ : ∀ {μ : MM} {a k : Nat} {v : Int64}, W a → P μ → P (mm_J μ a k v)) (hF : ∀ {μ : MM} {a : Nat} {g : Nat → Int32}, W a → P μ → P (mm_F μ a g)) (hw : ∀ a, a < 355 → W a) {N : Nat} {x1 : Int32} {x2 : Int32} {x3 : Int32} {μ : MM} (h0 : P μ) : fm_O P (f_Ma_canAll N x1 x2 x3 μ) := by
  unfold f_Ma_canAll
  exact fr_Ma_canAll_t hI hJ hF hw _ _ _ _ _ h0
set_option maxHeartbeats 1000000 in
theorem fr_Ma_leastClash_B37 {W : Nat → Prop} {P : MM → Prop} (hI : ∀ {μ : MM} {a k : Nat} {v : Int32}, W a → P μ → P (mm_I μ a k v)) (hJ : ∀ {μ : MM} {a k : Nat} {v : Int64}, W a → P μ → P (mm_J μ a k v)) (hF : ∀ {μ : MM} {a : Nat} {g : Nat → Int32}, W a → P μ → P (mm_F μ a g)) (hw : ∀ a, a < 355 → W a) {N : Nat} {k8 : Int32 → Int32 → MM → Option (Int32 × MM)} {x1 : Int32} {x2 : Int32} {μ : MM} (hk8 : ∀ (z0 : Int32) (z1 : Int32) (z2 : MM), P z2 → fm_O P (k8 z0 z1 z2)) (h0 : P μ) : fm_O P (f_Ma_leastClash_B37 N k8 x1 x2 μ) := by
  unfold f_Ma_leastClash_B37
  exact fm_ob (fr_Ma_canAll hI hJ hF hw h0) (fun t41 μ2z hm2z => hk8 _ _ _ hm2z)
set_option maxHeartbeats 1000000 in
theorem fr_Ma_leastClash_L8 {W : Nat → Prop} {P : MM → Prop} (hI : ∀ {μ : MM} {a k : Nat} {v : Int32}, W a → P μ → P (mm_I μ a k v)) (hJ : ∀ {μ : MM} {a k : Nat} {v : Int64}, W a → P μ → P (mm_J μ a k v)) (hF : ∀ {μ : MM} {a : Nat} {g : Nat → Int32}, W a → P μ → P (mm_F μ a g)) (hw : ∀ a, a < 355 → W a) {N : Nat} : ∀ (n : Nat) (x1 : Int32) (x2 : Int32) (μ : MM), P μ → fm_O P (f_Ma_leastClash_L8 N n x1 x2 μ) := by
  intro n
  induction n with
  | zero => intros; exact fm_none
  | succ n ih =>
    intro x1 x2 μ h0
    rw [f_Ma_leastClash_L8]
    exact fm_ite (fm_some h0) (fm_ite (fr_Ma_leastClash_B37 hI hJ hF hw (ih) h0) (fm_ob (fr_In_bitCount_0f7a4 hI hJ hF h0) (fun t27 μ3z hm3z => fm_ob (fr_In_bitCount_0f7a4 hI hJ hF hm3z) (fun t31 μ4z hm4z => fm_ite (ih _ _ _ hm4z) (fr_Ma_leastClash_B37 hI hJ hF hw (ih) hm4z)))))
set_option maxHeartbeats 1000000 in
theorem fr_Ma_leastClash {W : Nat → Prop} {P : MM → Prop} (hI : ∀ {μ : MM} {a k : Nat} {v : Int32}, W a → P μ → P (mm_I μ a k v)) (hJ : ∀ {μ : MM} {a k : Nat} {v : Int64}, W a → P μ → P (mm_J μ a k v)) (hF : ∀ {μ : MM} {a : Nat} {g : Nat → Int32}, W a → P μ → P (mm_F μ a g)) (hw : ∀ a, a < 355 → W a) {N : Nat} {μ : MM} (h0 : P μ) : fm_O P (f_Ma_leastClash N μ) := by
  unfold f_Ma_leastClash
  exact fm_obv (fr_Ma_prepare hI hJ hF hw h0) (fun μ1z hm1z => fr_Ma_leastClash_L8 hI hJ hF hw _ _ _ _ hm1z)
set_option maxHeartbeats 1000000 in
theorem fr_Ta_solidBytes_L5 {W : Nat → Prop} {P : MM → Prop} (hI : ∀ {μ : MM} {a k : Nat} {v : Int32}, W a → P μ → P (mm_I μ a k v)) (hJ : ∀ {μ : MM} {a k : Nat} {v : Int64}, W a → P μ → P (mm_J μ a k v)) (hF : ∀ {μ : MM} {a : Nat} {g : Nat → Int32}, W a → P μ → P (mm_F μ a g)) (hw : ∀ a, a < 355 → W a) {N : Nat} : ∀ (n : Nat) (x1 : Int32) (x2 : Int32) (x3 : Int32) (μ : MM), P μ → fm_O P (f_Ta_solidBytes_L5 N n x1 x2 x3 μ) := by
  intro n
  induction n with
  | zero => intros; exact fm_none
  | succ n ih =>
    intro x1 x2 x3 μ h0
    rw [f_Ta_solidBytes_L5]
    exact fm_ite (fm_some h0) (ih _ _ _ _ h0)
set_option maxHeartbeats 1000000 in
theorem fr_Ta_solidBytes {W : Nat → Prop} {P : MM → Prop} (hI : ∀ {μ : MM} {a k : Nat} {v : Int32}, W a → P μ → P (mm_I μ a k v)) (hJ : ∀ {μ : MM} {a k : Nat} {v : Int64}, W a → P μ → P (mm_J μ a k v)) (hF : ∀ {μ : MM} {a : Nat} {g : Nat → Int32}, W a → P μ → P (mm_F μ a g)) (hw : ∀ a, a < 355 → W a) {N : Nat} {x1 : Int32} {μ : MM} (h0 : P μ) : fm_O P (f_Ta_solidBytes N x1 μ) := by
  unfold f_Ta_solidBytes
  exact fr_Ta_solidBytes_L5 hI hJ hF hw _ _ _ _ _ h0
set_option maxHeartbeats 1000000 in
theorem fr_Ta_append_L3 {W : Nat → Prop} {P : MM → Prop} (hI : ∀ {μ : MM} {a k : Nat} {v : Int32}, W a → P μ → P (mm_I μ a k v)) (hJ : ∀ {μ : MM} {a k : Nat} {v : Int64}, W a → P μ → P (mm_J μ a k v)) (hF : ∀ {μ : MM} {a : Nat} {g : Nat → Int32}, W a → P μ → P (mm_F μ a g)) (hw : ∀ a, a < 355 → W a) {N : Nat} : ∀ (n : Nat) (x1 : Int32) (x2 : Int32) (μ : MM), P μ → fm_V P (f_Ta_append_L3 N n x1 x2 μ) := by
  intro n
  induction n with
  | zero => intros; exact fm_noneV
  | succ n ih =>
    intro x1 x2 μ h0
    rw [f_Ta_append_L3]
    exact fm_iteV (fm_someV h0) (fm_iteV (ih _ _ _ h0) (fm_iteV (ih _ _ _ h0) (fm_gdV (fun g1 => fm_wrV (hI (hw _ (by first | omega | (simp only [inb, Bool.and_eq_true, decide_eq_true_eq] at *; omega))) h0) (fun μ1z hm1z => fm_wrV (hI (hw _ (by first | omega | (simp only [inb, Bool.and_eq_true, decide_eq_true_eq] at *; omega))) hm1z) (fun μ2z hm2z => ih _ _ _ hm2z))))))
set_option maxHeartbeats 1000000 in
theorem fr_Ta_append {W : Nat → Prop} {P : MM → Prop} (hI : ∀ {μ : MM} {a k : Nat} {v : Int32}, W a → P μ → P (mm_I μ a k v)) (hJ : ∀ {μ : MM} {a k : Nat} {v : Int64}, W a → P μ → P (mm_J μ a k v)) (hF : ∀ {μ : MM} {a : Nat} {g : Nat → Int32}, W a → P μ → P (mm_F μ a g)) (hw : ∀ a, a < 355 → W a) {N : Nat} {x1 : Int32} {μ : MM} (h0 : P μ) : fm_V P (f_Ta_append N x1 μ) := by
  unfold f_Ta_append
  exact fr_Ta_append_L3 hI hJ hF hw _ _ _ _ h0
set_option maxHeartbeats 1000000 in
theorem fr_Tr_readAbout_B25 {W : Nat → Prop} {P : MM → Prop} (hI : ∀ {μ : MM} {a k : Nat} {v : Int32}, W a → P μ → P (mm_I μ a k v)) (hJ : ∀ {μ : MM} {a k : Nat} {v : Int64}, W a → P μ → P (mm_J μ a k v)) (hF : ∀ {μ : MM} {a : Nat} {g : Nat → Int32}, W a → P μ → P (mm_F μ a g)) (hw : ∀ a, a < 355 → W a) {N : Nat} {x2 : Int32} {s0 : Int32} {μ : MM} (h0 : P μ) : fm_O P (f_Tr_readAbout_B25 N x2 s0 μ) := by
  unfold f_Tr_readAbout_B25
  exact fm_ob (fr_Ta_peek hI hJ hF hw h0) (fun t30 μ1z hm1z => fm_ite (fm_some hm1z) (fm_ite (fm_obv (fr_Ta_step hI hJ hF hw hm1z) (fun μ2z hm2z => fm_some hm2z)) (fm_some hm1z)))
set_option maxHeartbeats 1000000 in
theorem fr_Tr_readAbout_B12 {W : Nat → Prop} {P : MM → Prop} (hI : ∀ {μ : MM} {a k : Nat} {v : Int32}, W a → P μ → P (mm_I μ a k v)) (hJ : ∀ {μ : MM} {a k : Nat} {v : Int64}, W a → P μ → P (mm_J μ a k v)) (hF : ∀ {μ : MM} {a : Nat} {g : Nat → Int32}, W a → P μ → P (mm_F μ a g)) (hw : ∀ a, a < 355 → W a) {N : Nat} {x1 : Int32} {s0 : Int32} {μ : MM} (h0 : P μ) : fm_O P (f_Tr_readAbout_B12 N x1 s0 μ) := by
  unfold f_Tr_readAbout_B12
  exact fr_Tr_readAbout_B25 hI hJ hF hw h0
set_option maxHeartbeats 1000000 in
theorem fr_Tr_readAbout {W : Nat → Prop} {P : MM → Prop} (hI : ∀ {μ : MM} {a k : Nat} {v : Int32}, W a → P μ → P (mm_I μ a k v)) (hJ : ∀ {μ : MM} {a k : Nat} {v : Int64}, W a → P μ → P (mm_J μ a k v)) (hF : ∀ {μ : MM} {a : Nat} {g : Nat → Int32}, W a → P μ → P (mm_F μ a g)) (hw : ∀ a, a < 355 → W a) {N : Nat} {x1 : Int32} {μ : MM} (h0 : P μ) : fm_O P (f_Tr_readAbout N x1 μ) := by
  unfold f_Tr_readAbout
  exact fr_Tr_readAbout_B12 hI hJ hF hw h0
set_option maxHeartbeats 1000000 in
theorem fr_Wo_add {W : Nat → Prop} {P : MM → Prop} (hI : ∀ {μ : MM} {a k : Nat} {v : Int32}, W a → P μ → P (mm_I μ a k v)) (hJ : ∀ {μ : MM} {a k : Nat} {v : Int64}, W a → P μ → P (mm_J μ a k v)) (hF : ∀ {μ : MM} {a : Nat} {g : Nat → Int32}, W a → P μ → P (mm_F μ a g)) (hw : ∀ a, a < 355 → W a) {N : Nat} {w : Nat} {x1 : Int32} {x2 : Int32} {x3 : Int32} {x4 : Int32} {μ : MM} (hw_w : w + 4 < 355) (h0 : P μ) : fm_O P (f_Wo_add N w x1 x2 x3 x4 μ) := by
  unfold f_Wo_add
  exact fm_ite (fm_some h0) (fm_ite (fm_some h0) (fm_gd (fun g1 => fm_ite (fm_gd (fun g2 => fm_gd (fun g3 => fm_wr (hI (hw _ (by first | omega | (simp only [inb, Bool.and_eq_true, decide_eq_true_eq] at *; omega))) h0) (fun μ1z hm1z => fm_gd (fun g4 => fm_wr (hI (hw _ (by first | omega | (simp only [inb, Bool.and_eq_true, decide_eq_true_eq] at *; omega))) hm1z) (fun μ2z hm2z => fm_gd (fun g5 => fm_wr (hI (hw _ (by first | omega | (simp only [inb, Bool.and_eq_true, decide_eq_true_eq] at *; omega))) hm2z) (fun μ3z hm3z => fm_gd (fun g6 => fm_gd (fun g7 => fm_wr (hI (hw _ (by first | omega | (simp only [inb, Bool.and_eq_true, decide_eq_true_eq] at *; omega))) hm3z) (fun μ4z hm4z => fm_some hm4z))))))))))) (fm_some h0))))
set_option maxHeartbeats 1000000 in
theorem fr_Tr_readWords_B95 {W : Nat → Prop} {P : MM → Prop} (hI : ∀ {μ : MM} {a k : Nat} {v : Int32}, W a → P μ → P (mm_I μ a k v)) (hJ : ∀ {μ : MM} {a k : Nat} {v : Int64}, W a → P μ → P (mm_J μ a k v)) (hF : ∀ {μ : MM} {a : Nat} {g : Nat → Int32}, W a → P μ → P (mm_F μ a g)) (hw : ∀ a, a < 355 → W a) {N : Nat} {q1 : Nat} {k3 : Int32 → Int32 → Int32 → MM → Option (Int32 × MM)} {x2 : Int32} {x3 : Int32} {x4 : Int32} {x6 : Int32} {μ : MM} (hw_q1 : q1 + 10 < 355) (hk3 : ∀ (z0 : Int32) (z1 : Int32) (z2 : Int32) (z3 : MM), P z3 → fm_O P (k3 z0 z1 z2 z3)) (h0 : P μ) : fm_O P (f_Tr_readWords_B95 N q1 k3 x2 x3 x4 x6 μ) := by
  unfold f_Tr_readWords_B95
  exact fm_ob (fr_Tr_readAbout hI hJ hF hw h0) (fun t98 μ2z hm2z => fm_ite (fm_some hm2z) (fm_ob (fr_Wo_add hI hJ hF hw (by first | omega | (simp only [inb, Bool.and_eq_true, decide_eq_true_eq] at *; omega)) hm2z) (fun t116 μ3z hm3z => fm_ite (fm_some hm3z) (hk3 _ _ _ _ hm3z))))
set_option maxHeartbeats 1000000 in
theorem fr_Tr_readWords_B74 {W : Nat → Prop} {P : MM → Prop} (hI : ∀ {μ : MM} {a k : Nat} {v : Int32}, W a → P μ → P (mm_I μ a k v)) (hJ : ∀ {μ : MM} {a k : Nat} {v : Int64}, W a → P μ → P (mm_J μ a k v)) (hF : ∀ {μ : MM} {a : Nat} {g : Nat → Int32}, W a → P μ → P (mm_F μ a g)) (hw : ∀ a, a < 355 → W a) {N : Nat} {q1 : Nat} {k3 : Int32 → Int32 → Int32 → MM → Option (Int32 × MM)} {x2 : Int32} {x3 : Int32} {x4 : Int32} {x6 : Int32} {μ : MM} (hw_q1 : q1 + 10 < 355) (hk3 : ∀ (z0 : Int32) (z1 : Int32) (z2 : Int32) (z3 : MM), P z3 → fm_O P (k3 z0 z1 z2 z3)) (h0 : P μ) : fm_O P (f_Tr_readWords_B74 N q1 k3 x2 x3 x4 x6 μ) := by
  unfold f_Tr_readWords_B74
  exact fm_ite (fm_some h0) (fm_ite (fr_Tr_readWords_B95 hI hJ hF hw (by first | omega | (simp only [inb, Bool.and_eq_true, decide_eq_true_eq] at *; omega)) (hk3) h0) (fm_obv (fr_Ta_step hI hJ hF hw h0) (fun μ4z hm4z => fr_Tr_readWords_B95 hI hJ hF hw (by first | omega | (simp only [inb, Bool.and_eq_true, decide_eq_true_eq] at *; omega)) (hk3) hm4z)))
set_option maxHeartbeats 1000000 in
theorem fr_Tr_readWords_B63 {W : Nat → Prop} {P : MM → Prop} (hI : ∀ {μ : MM} {a k : Nat} {v : Int32}, W a → P μ → P (mm_I μ a k v)) (hJ : ∀ {μ : MM} {a k : Nat} {v : Int64}, W a → P μ → P (mm_J μ a k v)) (hF : ∀ {μ : MM} {a : Nat} {g : Nat → Int32}, W a → P μ → P (mm_F μ a g)) (hw : ∀ a, a < 355 → W a) {N : Nat} {q1 : Nat} {x4 : Int32} {μ : MM} (h0 : P μ) : fm_O P (f_Tr_readWords_B63 N q1 x4 μ) := by
  unfold f_Tr_readWords_B63
  exact fm_gd (fun g1 => fm_some h0)
set_option maxHeartbeats 1000000 in
theorem fr_Tr_readWords_B42 {W : Nat → Prop} {P : MM → Prop} (hI : ∀ {μ : MM} {a k : Nat} {v : Int32}, W a → P μ → P (mm_I μ a k v)) (hJ : ∀ {μ : MM} {a k : Nat} {v : Int64}, W a → P μ → P (mm_J μ a k v)) (hF : ∀ {μ : MM} {a : Nat} {g : Nat → Int32}, W a → P μ → P (mm_F μ a g)) (hw : ∀ a, a < 355 → W a) {N : Nat} {q1 : Nat} {k3 : Int32 → Int32 → Int32 → MM → Option (Int32 × MM)} {x2 : Int32} {x3 : Int32} {x4 : Int32} {x5 : Int32} {s0 : Int32} {μ : MM} (hw_q1 : q1 + 10 < 355) (hk3 : ∀ (z0 : Int32) (z1 : Int32) (z2 : Int32) (z3 : MM), P z3 → fm_O P (k3 z0 z1 z2 z3)) (h0 : P μ) : fm_O P (f_Tr_readWords_B42 N q1 k3 x2 x3 x4 x5 s0 μ) := by
  unfold f_Tr_readWords_B42
  exact fm_ite (fm_ite (fr_Tr_readWords_B63 hI hJ hF hw h0) (fm_ite (fr_Tr_readWords_B74 hI hJ hF hw (by first | omega | (simp only [inb, Bool.and_eq_true, decide_eq_true_eq] at *; omega)) (hk3) h0) (fr_Tr_readWords_B63 hI hJ hF hw h0))) (fr_Tr_readWords_B74 hI hJ hF hw (by first | omega | (simp only [inb, Bool.and_eq_true, decide_eq_true_eq] at *; omega)) (hk3) h0)
set_option maxHeartbeats 1000000 in
theorem fr_Tr_readWords_L3 {W : Nat → Prop} {P : MM → Prop} (hI : ∀ {μ : MM} {a k : Nat} {v : Int32}, W a → P μ → P (mm_I μ a k v)) (hJ : ∀ {μ : MM} {a k : Nat} {v : Int64}, W a → P μ → P (mm_J μ a k v)) (hF : ∀ {μ : MM} {a : Nat} {g : Nat → Int32}, W a → P μ → P (mm_F μ a g)) (hw : ∀ a, a < 355 → W a) {N : Nat} {q1 : Nat} (hw_q1 : q1 + 10 < 355) : ∀ (n : Nat) (x2 : Int32) (x3 : Int32) (x4 : Int32) (μ : MM), P μ → fm_O P (f_Tr_readWords_L3 N q1 n x2 x3 x4 μ) := by
  intro n
  induction n with
  | zero => intros; exact fm_none
  | succ n ih =>
    intro x2 x3 x4 μ h0
    rw [f_Tr_readWords_L3]
    exact fm_ite (fm_some h0) (fm_ob (fr_Ta_peek hI hJ hF hw h0) (fun t14 μ1z hm1z => fr_Tr_readWords_B42 hI hJ hF hw (by first | omega | (simp only [inb, Bool.and_eq_true, decide_eq_true_eq] at *; omega)) (ih) hm1z))
set_option maxHeartbeats 1000000 in
theorem fr_Tr_readWords {W : Nat → Prop} {P : MM → Prop} (hI : ∀ {μ : MM} {a k : Nat} {v : Int32}, W a → P μ → P (mm_I μ a k v)) (hJ : ∀ {μ : MM} {a k : Nat} {v : Int64}, W a → P μ → P (mm_J μ a k v)) (hF : ∀ {μ : MM} {a : Nat} {g : Nat → Int32}, W a → P μ → P (mm_F μ a g)) (hw : ∀ a, a < 355 → W a) {N : Nat} {q1 : Nat} {x2 : Int32} {x3 : Int32} {μ : MM} (hw_q1 : q1 + 10 < 355) (h0 : P μ) : fm_O P (f_Tr_readWords N q1 x2 x3 μ) := by
  unfold f_Tr_readWords
  exact fr_Tr_readWords_L3 hI hJ hF hw (by first | omega | (simp only [inb, Bool.and_eq_true, decide_eq_true_eq] at *; omega)) _ _ _ _ _ h0
set_option maxHeartbeats 1000000 in
theorem fr_Tr_readReading {W : Nat → Prop} {P : MM → Prop} (hI : ∀ {μ : MM} {a k : Nat} {v : Int32}, W a → P μ → P (mm_I μ a k v)) (hJ : ∀ {μ : MM} {a k : Nat} {v : Int64}, W a → P μ → P (mm_J μ a k v)) (hF : ∀ {μ : MM} {a : Nat} {g : Nat → Int32}, W a → P μ → P (mm_F μ a g)) (hw : ∀ a, a < 355 → W a) {N : Nat} {μ : MM} (h0 : P μ) : fm_O P (f_Tr_readReading N μ) := by
  unfold f_Tr_readReading
  exact fm_obv (fr_Ta_rewind hI hJ hF hw h0) (fun μ1z hm1z => fm_wr (hI (hw _ (by first | omega | (simp only [inb, Bool.and_eq_true, decide_eq_true_eq] at *; omega))) hm1z) (fun μ2z hm2z => fm_ob (fr_Tr_readWords hI hJ hF hw (by first | omega | (simp only [inb, Bool.and_eq_true, decide_eq_true_eq] at *; omega)) hm2z) (fun t25 μ3z hm3z => fm_ite (fm_some hm3z) (fm_ob (fr_Ta_peek hI hJ hF hw hm3z) (fun t35 μ4z hm4z => fm_ite (fm_some hm4z) (fm_some hm4z))))))
set_option maxHeartbeats 1000000 in
theorem fr_Tr_readItems_B62 {W : Nat → Prop} {P : MM → Prop} (hI : ∀ {μ : MM} {a k : Nat} {v : Int32}, W a → P μ → P (mm_I μ a k v)) (hJ : ∀ {μ : MM} {a k : Nat} {v : Int64}, W a → P μ → P (mm_J μ a k v)) (hF : ∀ {μ : MM} {a : Nat} {g : Nat → Int32}, W a → P μ → P (mm_F μ a g)) (hw : ∀ a, a < 355 → W a) {N : Nat} {q1 : Nat} {q2 : Nat} {q3 : Nat} {q4 : Nat} {k26 : Int32 → Int32 → MM → Option (Int32 × MM)} {x5 : Int32} {x6 : Int32} {s0 : Int32} {μ : MM} (hk26 : ∀ (z0 : Int32) (z1 : Int32) (z2 : MM), P z2 → fm_O P (k26 z0 z1 z2)) (h0 : P μ) : fm_O P (f_Tr_readItems_B62 N q1 q2 q3 q4 k26 x5 x6 s0 μ) := by
  unfold f_Tr_readItems_B62
  exact fm_ite (fm_some h0) (fm_ite (fm_some h0) (fm_ite (fm_some h0) (fm_ite (fm_ite (fm_some h0) (fm_obv (fr_Ta_step hI hJ hF hw h0) (fun μ4z hm4z => fm_ob (fr_Ta_peek hI hJ hF hw hm4z) (fun t129 μ5z hm5z => fm_gd (fun g1 => fm_gd (fun g2 => fm_ob (fr_Ta_readNumber hI hJ hF hw hm5z) (fun t147 μ6z hm6z => fm_ite (fm_some hm6z) (fm_gd (fun g3 => fm_wr (hI (hw _ (by first | omega | (simp only [inb, Bool.and_eq_true, decide_eq_true_eq] at *; omega))) hm6z) (fun μ7z hm7z => hk26 _ _ _ hm7z)))))))))) (fm_some h0))))
set_option maxHeartbeats 1000000 in
theorem fr_Tr_readItems_L26 {W : Nat → Prop} {P : MM → Prop} (hI : ∀ {μ : MM} {a k : Nat} {v : Int32}, W a → P μ → P (mm_I μ a k v)) (hJ : ∀ {μ : MM} {a k : Nat} {v : Int64}, W a → P μ → P (mm_J μ a k v)) (hF : ∀ {μ : MM} {a : Nat} {g : Nat → Int32}, W a → P μ → P (mm_F μ a g)) (hw : ∀ a, a < 355 → W a) {N : Nat} {q1 : Nat} {q2 : Nat} {q3 : Nat} {q4 : Nat} : ∀ (n : Nat) (x5 : Int32) (x6 : Int32) (μ : MM), P μ → fm_O P (f_Tr_readItems_L26 N q1 q2 q3 q4 n x5 x6 μ) := by
  intro n
  induction n with
  | zero => intros; exact fm_none
  | succ n ih =>
    intro x5 x6 μ h0
    rw [f_Tr_readItems_L26]
    exact fm_ite (fm_some h0) (fm_ob (fr_Ta_peek hI hJ hF hw h0) (fun t40 μ2z hm2z => fm_ite (fr_Tr_readItems_B62 hI hJ hF hw (ih) hm2z) (fm_ob (fr_St_indexOf_0f7a4 hI hJ hF hm2z) (fun t59 μ3z hm3z => fr_Tr_readItems_B62 hI hJ hF hw (ih) hm3z))))
set_option maxHeartbeats 1000000 in
theorem fr_Tr_readItems {W : Nat → Prop} {P : MM → Prop} (hI : ∀ {μ : MM} {a k : Nat} {v : Int32}, W a → P μ → P (mm_I μ a k v)) (hJ : ∀ {μ : MM} {a k : Nat} {v : Int64}, W a → P μ → P (mm_J μ a k v)) (hF : ∀ {μ : MM} {a : Nat} {g : Nat → Int32}, W a → P μ → P (mm_F μ a g)) (hw : ∀ a, a < 355 → W a) {N : Nat} {q1 : Nat} {q2 : Nat} {q3 : Nat} {q4 : Nat} {μ : MM} (h0 : P μ) : fm_O P (f_Tr_readItems N q1 q2 q3 q4 μ) := by
  unfold f_Tr_readItems
  exact fm_gd (fun g1 => fm_wr (hF (hw _ (by first | omega | (simp only [inb, Bool.and_eq_true, decide_eq_true_eq] at *; omega))) h0) (fun μ1z hm1z => fr_Tr_readItems_L26 hI hJ hF hw _ _ _ _ hm1z))
set_option maxHeartbeats 1000000 in
theorem fr_Tr_readRules {W : Nat → Prop} {P : MM → Prop} (hI : ∀ {μ : MM} {a k : Nat} {v : Int32}, W a → P μ → P (mm_I μ a k v)) (hJ : ∀ {μ : MM} {a k : Nat} {v : Int64}, W a → P μ → P (mm_J μ a k v)) (hF : ∀ {μ : MM} {a : Nat} {g : Nat → Int32}, W a → P μ → P (mm_F μ a g)) (hw : ∀ a, a < 355 → W a) {N : Nat} {μ : MM} (h0 : P μ) : fm_O P (f_Tr_readRules N μ) := by
  unfold f_Tr_readRules
  exact fm_wr (hI (hw _ (by first | omega | (simp only [inb, Bool.and_eq_true, decide_eq_true_eq] at *; omega))) h0) (fun μ1z hm1z => fm_ob (fr_Tr_readItems hI hJ hF hw hm1z) (fun t17 μ2z hm2z => fm_ite (fm_some hm2z) (fm_wr (hI (hw _ (by first | omega | (simp only [inb, Bool.and_eq_true, decide_eq_true_eq] at *; omega))) hm2z) (fun μ3z hm3z => fm_wr (hI (hw _ (by first | omega | (simp only [inb, Bool.and_eq_true, decide_eq_true_eq] at *; omega))) hm3z) (fun μ4z hm4z => fm_some hm4z)))))
set_option maxHeartbeats 1000000 in
theorem fr_Tr_readMarks_L4 {W : Nat → Prop} {P : MM → Prop} (hI : ∀ {μ : MM} {a k : Nat} {v : Int32}, W a → P μ → P (mm_I μ a k v)) (hJ : ∀ {μ : MM} {a k : Nat} {v : Int64}, W a → P μ → P (mm_J μ a k v)) (hF : ∀ {μ : MM} {a : Nat} {g : Nat → Int32}, W a → P μ → P (mm_F μ a g)) (hw : ∀ a, a < 355 → W a) {N : Nat} : ∀ (n : Nat) (x1 : Int32) (x2 : Int32) (μ : MM), P μ → fm_O P (f_Tr_readMarks_L4 N n x1 x2 μ) := by
  intro n
  induction n with
  | zero => intros; exact fm_none
  | succ n ih =>
    intro x1 x2 μ h0
    rw [f_Tr_readMarks_L4]
    exact fm_ite (fm_some h0) (fm_ob (fr_Ta_peek hI hJ hF hw h0) (fun t14 μ1z hm1z => fm_ite (fm_some hm1z) (fm_ite (fm_ite (fm_obv (fr_Ta_step hI hJ hF hw hm1z) (fun μ2z hm2z => ih _ _ _ hm2z)) (fm_some hm1z)) (fm_some hm1z))))
set_option maxHeartbeats 1000000 in
theorem fr_Tr_readMarks {W : Nat → Prop} {P : MM → Prop} (hI : ∀ {μ : MM} {a k : Nat} {v : Int32}, W a → P μ → P (mm_I μ a k v)) (hJ : ∀ {μ : MM} {a k : Nat} {v : Int64}, W a → P μ → P (mm_J μ a k v)) (hF : ∀ {μ : MM} {a : Nat} {g : Nat → Int32}, W a → P μ → P (mm_F μ a g)) (hw : ∀ a, a < 355 → W a) {N : Nat} {μ : MM} (h0 : P μ) : fm_O P (f_Tr_readMarks N μ) := by
  unfold f_Tr_readMarks
  exact fr_Tr_readMarks_L4 hI hJ hF hw _ _ _ _ h0
set_option maxHeartbeats 1000000 in
theorem fr_Tr_readThing {W : Nat → Prop} {P : MM → Prop} (hI : ∀ {μ : MM} {a k : Nat} {v : Int32}, W a → P μ → P (mm_I μ a k v)) (hJ : ∀ {μ : MM} {a k : Nat} {v : Int64}, W a → P μ → P (mm_J μ a k v)) (hF : ∀ {μ : MM} {a : Nat} {g : Nat → Int32}, W a → P μ → P (mm_F μ a g)) (hw : ∀ a, a < 355 → W a) {N : Nat} {μ : MM} (h0 : P μ) : fm_O P (f_Tr_readThing N μ) := by
  unfold f_Tr_readThing
  exact fm_ob (fr_Tr_readItems hI hJ hF hw h0) (fun t12 μ1z hm1z => fm_ite (fm_some hm1z) (fm_ob (fr_Ta_accept hI hJ hF hw hm1z) (fun t24 μ2z hm2z => fm_ite (fm_some hm2z) (fm_ob (fr_Tr_readMarks hI hJ hF hw hm2z) (fun t33 μ3z hm3z => fm_ite (fm_some hm3z) (fm_gd (fun g1 => fm_wr (hI (hw _ (by first | omega | (simp only [inb, Bool.and_eq_true, decide_eq_true_eq] at *; omega))) hm3z) (fun μ4z hm4z => fm_gd (fun g2 => fm_wr (hI (hw _ (by first | omega | (simp only [inb, Bool.and_eq_true, decide_eq_true_eq] at *; omega))) hm4z) (fun μ5z hm5z => fm_wr (hI (hw _ (by first | omega | (simp only [inb, Bool.and_eq_true, decide_eq_true_eq] at *; omega))) hm5z) (fun μ6z hm6z => fm_some hm6z)))))))))))
set_option maxHeartbeats 1000000 in
theorem fr_Tr_readCard_B87 {W : Nat → Prop} {P : MM → Prop} (hI : ∀ {μ : MM} {a k : Nat} {v : Int32}, W a → P μ → P (mm_I μ a k v)) (hJ : ∀ {μ : MM} {a k : Nat} {v : Int64}, W a → P μ → P (mm_J μ a k v)) (hF : ∀ {μ : MM} {a : Nat} {g : Nat → Int32}, W a → P μ → P (mm_F μ a g)) (hw : ∀ a, a < 355 → W a) {N : Nat} {x1 : Int32} {s1 : Int32} {s2 : Int32} {μ : MM} (h0 : P μ) : fm_O P (f_Tr_readCard_B87 N x1 s1 s2 μ) := by
  unfold f_Tr_readCard_B87
  exact fm_gd (fun g1 => fm_wr (hI (hw _ (by first | omega | (simp only [inb, Bool.and_eq_true, decide_eq_true_eq] at *; omega))) h0) (fun μ4z hm4z => fm_gd (fun g2 => fm_wr (hI (hw _ (by first | omega | (simp only [inb, Bool.and_eq_true, decide_eq_true_eq] at *; omega))) hm4z) (fun μ5z hm5z => fm_wr (hI (hw _ (by first | omega | (simp only [inb, Bool.and_eq_true, decide_eq_true_eq] at *; omega))) hm5z) (fun μ6z hm6z => fm_ob (fr_Tr_readWords hI hJ hF hw (by first | omega | (simp only [inb, Bool.and_eq_true, decide_eq_true_eq] at *; omega)) hm6z) (fun t135 μ7z hm7z => fm_gd (fun g3 => fm_some hm7z)))))))
set_option maxHeartbeats 1000000 in
theorem fr_Tr_readCard {W : Nat → Prop} {P : MM → Prop} (hI : ∀ {μ : MM} {a k : Nat} {v : Int32}, W a → P μ → P (mm_I μ a k v)) (hJ : ∀ {μ : MM} {a k : Nat} {v : Int64}, W a → P μ → P (mm_J μ a k v)) (hF : ∀ {μ : MM} {a : Nat} {g : Nat → Int32}, W a → P μ → P (mm_F μ a g)) (hw : ∀ a, a < 355 → W a) {N : Nat} {μ : MM} (h0 : P μ) : fm_O P (f_Tr_readCard N μ) := by
  unfold f_Tr_readCard
  exact fm_ob (fr_Tr_readItems hI hJ hF hw h0) (fun t12 μ1z hm1z => fm_ite (fm_some hm1z) (fm_ob (fr_Ta_accept hI hJ hF hw hm1z) (fun t24 μ2z hm2z => fm_ite (fm_some hm2z) (fm_gd (fun g1 => fm_wr (hI (hw _ (by first | omega | (simp only [inb, Bool.and_eq_true, decide_eq_true_eq] at *; omega))) hm2z) (fun μ3z hm3z => fm_ite (fr_Tr_readCard_B87 hI hJ hF hw hm3z) (fr_Tr_readCard_B87 hI hJ hF hw hm3z)))))))
set_option maxHeartbeats 1000000 in
theorem fr_Tr_readClause_B63 {W : Nat → Prop} {P : MM → Prop} (hI : ∀ {μ : MM} {a k : Nat} {v : Int32}, W a → P μ → P (mm_I μ a k v)) (hJ : ∀ {μ : MM} {a k : Nat} {v : Int64}, W a → P μ → P (mm_J μ a k v)) (hF : ∀ {μ : MM} {a : Nat} {g : Nat → Int32}, W a → P μ → P (mm_F μ a g)) (hw : ∀ a, a < 355 → W a) {N : Nat} {x1 : Int32} {μ : MM} (h0 : P μ) : fm_O P (f_Tr_readClause_B63 N x1 μ) := by
  unfold f_Tr_readClause_B63
  exact fm_ite (fm_ite (fm_some h0) (fm_obv (fr_Ta_step hI hJ hF hw h0) (fun μ2z hm2z => fm_ob (fr_Tr_readCard hI hJ hF hw hm2z) (fun t89 μ3z hm3z => fm_gd (fun g1 => fm_some hm3z))))) (fm_some h0)
set_option maxHeartbeats 1000000 in
theorem fr_Tr_readClause_B33 {W : Nat → Prop} {P : MM → Prop} (hI : ∀ {μ : MM} {a k : Nat} {v : Int32}, W a → P μ → P (mm_I μ a k v)) (hJ : ∀ {μ : MM} {a k : Nat} {v : Int64}, W a → P μ → P (mm_J μ a k v)) (hF : ∀ {μ : MM} {a : Nat} {g : Nat → Int32}, W a → P μ → P (mm_F μ a g)) (hw : ∀ a, a < 355 → W a) {N : Nat} {x1 : Int32} {μ : MM} (h0 : P μ) : fm_O P (f_Tr_readClause_B33 N x1 μ) := by
  unfold f_Tr_readClause_B33
  exact fm_ite (fm_ite (fr_Tr_readClause_B63 hI hJ hF hw h0) (fm_obv (fr_Ta_step hI hJ hF hw h0) (fun μ4z hm4z => fm_ob (fr_Tr_readThing hI hJ hF hw hm4z) (fun t59 μ5z hm5z => fm_gd (fun g1 => fm_some hm5z))))) (fr_Tr_readClause_B63 hI hJ hF hw h0)
set_option maxHeartbeats 1000000 in
theorem fr_Tr_readClause {W : Nat → Prop} {P : MM → Prop} (hI : ∀ {μ : MM} {a k : Nat} {v : Int32}, W a → P μ → P (mm_I μ a k v)) (hJ : ∀ {μ : MM} {a k : Nat} {v : Int64}, W a → P μ → P (mm_J μ a k v)) (hF : ∀ {μ : MM} {a : Nat} {g : Nat → Int32}, W a → P μ → P (mm_F μ a g)) (hw : ∀ a, a < 355 → W a) {N : Nat} {μ : MM} (h0 : P μ) : fm_O P (f_Tr_readClause N μ) := by
  unfold f_Tr_readClause
  exact fm_ob (fr_Ta_peek hI hJ hF hw h0) (fun t4 μ1z hm1z => fm_ite (fm_ite (fm_obv (fr_Ta_step hI hJ hF hw hm1z) (fun μ6z hm6z => fm_ob (fr_Tr_readRules hI hJ hF hw hm6z) (fun t29 μ7z hm7z => fm_gd (fun g1 => fm_some hm7z)))) (fr_Tr_readClause_B33 hI hJ hF hw hm1z)) (fr_Tr_readClause_B33 hI hJ hF hw hm1z))
set_option maxHeartbeats 1000000 in
theorem fr_Tr_isWhole_L4 {W : Nat → Prop} {P : MM → Prop} (hI : ∀ {μ : MM} {a k : Nat} {v : Int32}, W a → P μ → P (mm_I μ a k v)) (hJ : ∀ {μ : MM} {a k : Nat} {v : Int64}, W a → P μ → P (mm_J μ a k v)) (hF : ∀ {μ : MM} {a : Nat} {g : Nat → Int32}, W a → P μ → P (mm_F μ a g)) (hw : ∀ a, a < 355 → W a) {N : Nat} : ∀ (n : Nat) (x1 : Int32) (x2 : Int32) (μ : MM), P μ → fm_O P (f_Tr_isWhole_L4 N n x1 x2 μ) := by
  intro n
  induction n with
  | zero => intros; exact fm_none
  | succ n ih =>
    intro x1 x2 μ h0
    rw [f_Tr_isWhole_L4]
    exact fm_ite (fm_ite (fm_some h0) (fm_ite (fm_some h0) (fm_some h0))) (fm_gd (fun g1 => fm_ite (ih _ _ _ h0) (fm_ob (fr_Co_isThing hI hJ hF hw h0) (fun t38 μ1z hm1z => fm_ite (fm_some hm1z) (fm_ite (fm_some hm1z) (ih _ _ _ hm1z))))))
set_option maxHeartbeats 1000000 in
theorem fr_Tr_isWhole {W : Nat → Prop} {P : MM → Prop} (hI : ∀ {μ : MM} {a k : Nat} {v : Int32}, W a → P μ → P (mm_I μ a k v)) (hJ : ∀ {μ : MM} {a k : Nat} {v : Int64}, W a → P μ → P (mm_J μ a k v)) (hF : ∀ {μ : MM} {a : Nat} {g : Nat → Int32}, W a → P μ → P (mm_F μ a g)) (hw : ∀ a, a < 355 → W a) {N : Nat} {μ : MM} (h0 : P μ) : fm_O P (f_Tr_isWhole N μ) := by
  unfold f_Tr_isWhole
  exact fr_Tr_isWhole_L4 hI hJ hF hw _ _ _ _ h0
set_option maxHeartbeats 1000000 in
theorem fr_Tr_readCollection_L71 {W : Nat → Prop} {P : MM → Prop} (hI : ∀ {μ : MM} {a k : Nat} {v : Int32}, W a → P μ → P (mm_I μ a k v)) (hJ : ∀ {μ : MM} {a k : Nat} {v : Int64}, W a → P μ → P (mm_J μ a k v)) (hF : ∀ {μ : MM} {a : Nat} {g : Nat → Int32}, W a → P μ → P (mm_F μ a g)) (hw : ∀ a, a < 355 → W a) {N : Nat} : ∀ (n : Nat) (x1 : Int32) (μ : MM), P μ → fm_O P (f_Tr_readCollection_L71 N n x1 μ) := by
  intro n
  induction n with
  | zero => intros; exact fm_none
  | succ n ih =>
    intro x1 μ h0
    rw [f_Tr_readCollection_L71]
    exact fm_ite (fm_some h0) (fm_ob (fr_Tr_readClause hI hJ hF hw h0) (fun t79 μ8z hm8z => fm_ite (fm_some hm8z) (fm_ob (fr_Ta_accept hI hJ hF hw hm8z) (fun t93 μ9z hm9z => fm_ite (fm_ob (fr_Ta_peek hI hJ hF hw hm9z) (fun t103 μ10z hm10z => fm_ite (fm_ob (fr_Tr_isWhole hI hJ hF hw hm10z) (fun t111 μ11z hm11z => fm_ite (fm_some hm11z) (fm_some hm11z))) (fm_some hm10z))) (ih _ _ hm9z)))))
set_option maxHeartbeats 1000000 in
theorem fr_Tr_readCollection {W : Nat → Prop} {P : MM → Prop} (hI : ∀ {μ : MM} {a k : Nat} {v : Int32}, W a → P μ → P (mm_I μ a k v)) (hJ : ∀ {μ : MM} {a k : Nat} {v : Int64}, W a → P μ → P (mm_J μ a k v)) (hF : ∀ {μ : MM} {a : Nat} {g : Nat → Int32}, W a → P μ → P (mm_F μ a g)) (hw : ∀ a, a < 355 → W a) {N : Nat} {μ : MM} (h0 : P μ) : fm_O P (f_Tr_readCollection N μ) := by
  unfold f_Tr_readCollection
  exact fm_obv (fr_Ta_rewind hI hJ hF hw h0) (fun μ1z hm1z => fm_wr (hI (hw _ (by first | omega | (simp only [inb, Bool.and_eq_true, decide_eq_true_eq] at *; omega))) hm1z) (fun μ2z hm2z => fm_wr (hI (hw _ (by first | omega | (simp only [inb, Bool.and_eq_true, decide_eq_true_eq] at *; omega))) hm2z) (fun μ3z hm3z => fm_wr (hI (hw _ (by first | omega | (simp only [inb, Bool.and_eq_true, decide_eq_true_eq] at *; omega))) hm3z) (fun μ4z hm4z => fm_wr (hI (hw _ (by first | omega | (simp only [inb, Bool.and_eq_true, decide_eq_true_eq] at *; omega))) hm4z) (fun μ5z hm5z => fm_wr (hI (hw _ (by first | omega | (simp only [inb, Bool.and_eq_true, decide_eq_true_eq] at *; omega))) hm5z) (fun μ6z hm6z => fm_wr (hI (hw _ (by first | omega | (simp only [inb, Bool.and_eq_true, decide_eq_true_eq] at *; omega))) hm6z) (fun μ7z hm7z => fr_Tr_readCollection_L71 hI hJ hF hw _ _ _ hm7z)))))))
set_option maxHeartbeats 1000000 in
theorem fr_Wo_takeRow_L37 {W : Nat → Prop} {P : MM → Prop} (hI : ∀ {μ : MM} {a k : Nat} {v : Int32}, W a → P μ → P (mm_I μ a k v)) (hJ : ∀ {μ : MM} {a k : Nat} {v : Int64}, W a → P μ → P (mm_J μ a k v)) (hF : ∀ {μ : MM} {a : Nat} {g : Nat → Int32}, W a → P μ → P (mm_F μ a g)) (hw : ∀ a, a < 355 → W a) {N : Nat} {w : Nat} {q2 : Nat} (hw_w : w + 4 < 355) : ∀ (n : Nat) (x1 : Int32) (x3 : Int32) (x4 : Int32) (μ : MM), P μ → fm_V P (f_Wo_takeRow_L37 N w q2 n x1 x3 x4 μ) := by
  intro n
  induction n with
  | zero => intros; exact fm_noneV
  | succ n ih =>
    intro x1 x3 x4 μ h0
    rw [f_Wo_takeRow_L37]
    exact fm_gdV (fun g1 => fm_iteV (fm_someV h0) (fm_gdV (fun g2 => fm_gdV (fun g3 => fm_obV (fr_Wo_add hI hJ hF hw (by first | omega | (simp only [inb, Bool.and_eq_true, decide_eq_true_eq] at *; omega)) h0) (fun t75 μ2z hm2z => ih _ _ _ _ hm2z)))))
set_option maxHeartbeats 1000000 in
theorem fr_Wo_takeRow {W : Nat → Prop} {P : MM → Prop} (hI : ∀ {μ : MM} {a k : Nat} {v : Int32}, W a → P μ → P (mm_I μ a k v)) (hJ : ∀ {μ : MM} {a k : Nat} {v : Int64}, W a → P μ → P (mm_J μ a k v)) (hF : ∀ {μ : MM} {a : Nat} {g : Nat → Int32}, W a → P μ → P (mm_F μ a g)) (hw : ∀ a, a < 355 → W a) {N : Nat} {w : Nat} {q2 : Nat} {x1 : Int32} {x3 : Int32} {μ : MM} (hw_w : w + 4 < 355) (h0 : P μ) : fm_V P (f_Wo_takeRow N w q2 x1 x3 μ) := by
  unfold f_Wo_takeRow
  exact fm_iteV (fm_someV h0) (fm_iteV (fm_someV h0) (fm_iteV (fm_someV h0) (fm_iteV (fm_gdV (fun g1 => fm_wrV (hI (hw _ (by first | omega | (simp only [inb, Bool.and_eq_true, decide_eq_true_eq] at *; omega))) h0) (fun μ1z hm1z => fr_Wo_takeRow_L37 hI hJ hF hw (by first | omega | (simp only [inb, Bool.and_eq_true, decide_eq_true_eq] at *; omega)) _ _ _ _ _ hm1z))) (fm_someV h0))))
set_option maxHeartbeats 1000000 in
theorem fr_Wo_tell {W : Nat → Prop} {P : MM → Prop} (hI : ∀ {μ : MM} {a k : Nat} {v : Int32}, W a → P μ → P (mm_I μ a k v)) (hJ : ∀ {μ : MM} {a k : Nat} {v : Int64}, W a → P μ → P (mm_J μ a k v)) (hF : ∀ {μ : MM} {a : Nat} {g : Nat → Int32}, W a → P μ → P (mm_F μ a g)) (hw : ∀ a, a < 355 → W a) {N : Nat} {w : Nat} {x1 : Int32} {x2 : Int32} {x3 : Int32} {μ : MM} (h0 : P μ) : fm_O P (f_Wo_tell N w x1 x2 x3 μ) := by
  unfold f_Wo_tell
  exact fm_ite (fm_some h0) (fm_ite (fm_some h0) (fm_ite (fm_some h0) (fm_gd (fun g1 => fm_ite (fm_ite (fm_gd (fun g2 => fm_some h0)) (fm_ite (fm_gd (fun g3 => fm_some h0)) (fm_ite (fm_gd (fun g4 => fm_some h0)) (fm_some h0)))) (fm_some h0)))))
set_option maxHeartbeats 1000000 in
theorem fr_Wo_freshen_L16 {W : Nat → Prop} {P : MM → Prop} (hI : ∀ {μ : MM} {a k : Nat} {v : Int32}, W a → P μ → P (mm_I μ a k v)) (hJ : ∀ {μ : MM} {a k : Nat} {v : Int64}, W a → P μ → P (mm_J μ a k v)) (hF : ∀ {μ : MM} {a : Nat} {g : Nat → Int32}, W a → P μ → P (mm_F μ a g)) (hw : ∀ a, a < 355 → W a) {N : Nat} {w : Nat} (hw_w : w + 4 < 355) : ∀ (n : Nat) (x1 : Int32) (x2 : Int32) (μ : MM), P μ → fm_V P (f_Wo_freshen_L16 N w n x1 x2 μ) := by
  intro n
  induction n with
  | zero => intros; exact fm_noneV
  | succ n ih =>
    intro x1 x2 μ h0
    rw [f_Wo_freshen_L16]
    exact fm_gdV (fun g1 => fm_iteV (fm_someV h0) (fm_gdV (fun g2 => fm_iteV (ih _ _ _ h0) (fm_gdV (fun g3 => fm_wrV (hI (hw _ (by first | omega | (simp only [inb, Bool.and_eq_true, decide_eq_true_eq] at *; omega))) h0) (fun μ1z hm1z => ih _ _ _ hm1z))))))
set_option maxHeartbeats 1000000 in
theorem fr_Wo_freshen {W : Nat → Prop} {P : MM → Prop} (hI : ∀ {μ : MM} {a k : Nat} {v : Int32}, W a → P μ → P (mm_I μ a k v)) (hJ : ∀ {μ : MM} {a k : Nat} {v : Int64}, W a → P μ → P (mm_J μ a k v)) (hF : ∀ {μ : MM} {a : Nat} {g : Nat → Int32}, W a → P μ → P (mm_F μ a g)) (hw : ∀ a, a < 355 → W a) {N : Nat} {w : Nat} {x1 : Int32} {μ : MM} (hw_w : w + 4 < 355) (h0 : P μ) : fm_V P (f_Wo_freshen N w x1 μ) := by
  unfold f_Wo_freshen
  exact fm_iteV (fm_someV h0) (fm_iteV (fr_Wo_freshen_L16 hI hJ hF hw (by first | omega | (simp only [inb, Bool.and_eq_true, decide_eq_true_eq] at *; omega)) _ _ _ _ h0) (fm_someV h0))
set_option maxHeartbeats 1000000 in
theorem fr_Wo_dim_L16 {W : Nat → Prop} {P : MM → Prop} (hI : ∀ {μ : MM} {a k : Nat} {v : Int32}, W a → P μ → P (mm_I μ a k v)) (hJ : ∀ {μ : MM} {a k : Nat} {v : Int64}, W a → P μ → P (mm_J μ a k v)) (hF : ∀ {μ : MM} {a : Nat} {g : Nat → Int32}, W a → P μ → P (mm_F μ a g)) (hw : ∀ a, a < 355 → W a) {N : Nat} {w : Nat} (hw_w : w + 4 < 355) : ∀ (n : Nat) (x1 : Int32) (x2 : Int32) (μ : MM), P μ → fm_V P (f_Wo_dim_L16 N w n x1 x2 μ) := by
  intro n
  induction n with
  | zero => intros; exact fm_noneV
  | succ n ih =>
    intro x1 x2 μ h0
    rw [f_Wo_dim_L16]
    exact fm_gdV (fun g1 => fm_iteV (fm_someV h0) (fm_gdV (fun g2 => fm_iteV (ih _ _ _ h0) (fm_gdV (fun g3 => fm_gdV (fun g4 => fm_wrV (hI (hw _ (by first | omega | (simp only [inb, Bool.and_eq_true, decide_eq_true_eq] at *; omega))) h0) (fun μ1z hm1z => ih _ _ _ hm1z)))))))
set_option maxHeartbeats 1000000 in
theorem fr_Wo_dim {W : Nat → Prop} {P : MM → Prop} (hI : ∀ {μ : MM} {a k : Nat} {v : Int32}, W a → P μ → P (mm_I μ a k v)) (hJ : ∀ {μ : MM} {a k : Nat} {v : Int64}, W a → P μ → P (mm_J μ a k v)) (hF : ∀ {μ : MM} {a : Nat} {g : Nat → Int32}, W a → P μ → P (mm_F μ a g)) (hw : ∀ a, a < 355 → W a) {N : Nat} {w : Nat} {x1 : Int32} {μ : MM} (hw_w : w + 4 < 355) (h0 : P μ) : fm_V P (f_Wo_dim N w x1 μ) := by
  unfold f_Wo_dim
  exact fm_iteV (fm_someV h0) (fm_iteV (fr_Wo_dim_L16 hI hJ hF hw (by first | omega | (simp only [inb, Bool.and_eq_true, decide_eq_true_eq] at *; omega)) _ _ _ _ h0) (fm_someV h0))
set_option maxHeartbeats 1000000 in
theorem fr_Wo_weakestInk_L19 {W : Nat → Prop} {P : MM → Prop} (hI : ∀ {μ : MM} {a k : Nat} {v : Int32}, W a → P μ → P (mm_I μ a k v)) (hJ : ∀ {μ : MM} {a k : Nat} {v : Int64}, W a → P μ → P (mm_J μ a k v)) (hF : ∀ {μ : MM} {a : Nat} {g : Nat → Int32}, W a → P μ → P (mm_F μ a g)) (hw : ∀ a, a < 355 → W a) {N : Nat} {w : Nat} : ∀ (n : Nat) (x1 : Int32) (x2 : Int32) (x3 : Int32) (μ : MM), P μ → fm_O P (f_Wo_weakestInk_L19 N w n x1 x2 x3 μ) := by
  intro n
  induction n with
  | zero => intros; exact fm_none
  | succ n ih =>
    intro x1 x2 x3 μ h0
    rw [f_Wo_weakestInk_L19]
    exact fm_gd (fun g1 => fm_ite (fm_some h0) (fm_gd (fun g2 => fm_ite (ih _ _ _ _ h0) (fm_ite (ih _ _ _ _ h0) (fm_ite (ih _ _ _ _ h0) (ih _ _ _ _ h0))))))
set_option maxHeartbeats 1000000 in
theorem fr_Wo_weakestInk {W : Nat → Prop} {P : MM → Prop} (hI : ∀ {μ : MM} {a k : Nat} {v : Int32}, W a → P μ → P (mm_I μ a k v)) (hJ : ∀ {μ : MM} {a k : Nat} {v : Int64}, W a → P μ → P (mm_J μ a k v)) (hF : ∀ {μ : MM} {a : Nat} {g : Nat → Int32}, W a → P μ → P (mm_F μ a g)) (hw : ∀ a, a < 355 → W a) {N : Nat} {w : Nat} {x1 : Int32} {μ : MM} (h0 : P μ) : fm_O P (f_Wo_weakestInk N w x1 μ) := by
  unfold f_Wo_weakestInk
  exact fm_ite (fm_some h0) (fm_ite (fr_Wo_weakestInk_L19 hI hJ hF hw _ _ _ _ _ h0) (fm_some h0))
set_option maxHeartbeats 1000000 in
theorem fr_Ro_feed {W : Nat → Prop} {P : MM → Prop} (hI : ∀ {μ : MM} {a k : Nat} {v : Int32}, W a → P μ → P (mm_I μ a k v)) (hJ : ∀ {μ : MM} {a k : Nat} {v : Int64}, W a → P μ → P (mm_J μ a k v)) (hF : ∀ {μ : MM} {a : Nat} {g : Nat → Int32}, W a → P μ → P (mm_F μ a g)) (hw : ∀ a, a < 355 → W a) {N : Nat} {x1 : Int32} {x2 : Int32} {x3 : Int32} {x4 : Int32} {x5 : Int32} {μ : MM} (h0 : P μ) : fm_O P (f_Ro_feed N x1 x2 x3 x4 x5 μ) := by
  unfold f_Ro_feed
  exact fm_ob (fr_Ta_solidBytes hI hJ hF hw h0) (fun t5 μ1z hm1z => fm_ob (fr_Ta_solidBytes hI hJ hF hw hm1z) (fun t13 μ2z hm2z => fm_ob (fr_Ta_solidBytes hI hJ hF hw hm2z) (fun t22 μ3z hm3z => fm_ob (fr_Ta_solidBytes hI hJ hF hw hm3z) (fun t32 μ4z hm4z => fm_ob (fr_Ta_solidBytes hI hJ hF hw hm4z) (fun t42 μ5z hm5z => fm_ite (fm_obv (fr_Ta_append hI hJ hF hw hm5z) (fun μ6z hm6z => fm_obv (fr_Ta_append hI hJ hF hw hm6z) (fun μ7z hm7z => fm_obv (fr_Ta_append hI hJ hF hw hm7z) (fun μ8z hm8z => fm_obv (fr_Ta_append hI hJ hF hw hm8z) (fun μ9z hm9z => fm_obv (fr_Ta_append hI hJ hF hw hm9z) (fun μ10z hm10z => fm_some hm10z)))))) (fm_some hm5z))))))
set_option maxHeartbeats 1000000 in
theorem fr_Ro_end {W : Nat → Prop} {P : MM → Prop} (hI : ∀ {μ : MM} {a k : Nat} {v : Int32}, W a → P μ → P (mm_I μ a k v)) (hJ : ∀ {μ : MM} {a k : Nat} {v : Int64}, W a → P μ → P (mm_J μ a k v)) (hF : ∀ {μ : MM} {a : Nat} {g : Nat → Int32}, W a → P μ → P (mm_F μ a g)) (hw : ∀ a, a < 355 → W a) {N : Nat} {x1 : Int32} {μ : MM} (h0 : P μ) : fm_O P (f_Ro_end N x1 μ) := by
  unfold f_Ro_end
  exact fm_ite (fm_some h0) (fm_ite (fm_wr (hI (hw _ (by first | omega | (simp only [inb, Bool.and_eq_true, decide_eq_true_eq] at *; omega))) h0) (fun μ1z hm1z => fm_some hm1z)) (fm_some h0))
set_option maxHeartbeats 1000000 in
theorem fr_Ro_fault_B49 {W : Nat → Prop} {P : MM → Prop} (hI : ∀ {μ : MM} {a k : Nat} {v : Int32}, W a → P μ → P (mm_I μ a k v)) (hJ : ∀ {μ : MM} {a k : Nat} {v : Int64}, W a → P μ → P (mm_J μ a k v)) (hF : ∀ {μ : MM} {a : Nat} {g : Nat → Int32}, W a → P μ → P (mm_F μ a g)) (hw : ∀ a, a < 355 → W a) {N : Nat} {s0 : Int32} {μ : MM} (h0 : P μ) : fm_O P (f_Ro_fault_B49 N s0 μ) := by
  unfold f_Ro_fault_B49
  exact fm_some h0
set_option maxHeartbeats 1000000 in
theorem fr_Ro_fault {W : Nat → Prop} {P : MM → Prop} (hI : ∀ {μ : MM} {a k : Nat} {v : Int32}, W a → P μ → P (mm_I μ a k v)) (hJ : ∀ {μ : MM} {a k : Nat} {v : Int64}, W a → P μ → P (mm_J μ a k v)) (hF : ∀ {μ : MM} {a : Nat} {g : Nat → Int32}, W a → P μ → P (mm_F μ a g)) (hw : ∀ a, a < 355 → W a) {N : Nat} {x1 : Int32} {μ : MM} (h0 : P μ) : fm_O P (f_Ro_fault N x1 μ) := by
  unfold f_Ro_fault
  exact fm_ite (fm_some h0) (fm_ite (fm_ite (fm_ob (fr_Lr_readLaw hI hJ hF hw h0) (fun t21 μ3z hm3z => fr_Ro_fault_B49 hI hJ hF hw hm3z)) (fm_ite (fm_ob (fr_Tr_readReading hI hJ hF hw h0) (fun t36 μ2z hm2z => fr_Ro_fault_B49 hI hJ hF hw hm2z)) (fm_ob (fr_Tr_readCollection hI hJ hF hw h0) (fun t46 μ1z hm1z => fr_Ro_fault_B49 hI hJ hF hw hm1z)))) (fm_some h0))
set_option maxHeartbeats 1000000 in
theorem fr_Ro_isFull {W : Nat → Prop} {P : MM → Prop} (hI : ∀ {μ : MM} {a k : Nat} {v : Int32}, W a → P μ → P (mm_I μ a k v)) (hJ : ∀ {μ : MM} {a k : Nat} {v : Int64}, W a → P μ → P (mm_J μ a k v)) (hF : ∀ {μ : MM} {a : Nat} {g : Nat → Int32}, W a → P μ → P (mm_F μ a g)) (hw : ∀ a, a < 355 → W a) {N : Nat} {x1 : Int32} {μ : MM} (h0 : P μ) : fm_O P (f_Ro_isFull N x1 μ) := by
  unfold f_Ro_isFull
  exact fm_ite (fm_gd (fun g1 => fm_some h0)) (fm_ite (fm_ite (fm_some h0) (fm_some h0)) (fm_some h0))
set_option maxHeartbeats 1000000 in
theorem fr_Ro_text {W : Nat → Prop} {P : MM → Prop} (hI : ∀ {μ : MM} {a k : Nat} {v : Int32}, W a → P μ → P (mm_I μ a k v)) (hJ : ∀ {μ : MM} {a k : Nat} {v : Int64}, W a → P μ → P (mm_J μ a k v)) (hF : ∀ {μ : MM} {a : Nat} {g : Nat → Int32}, W a → P μ → P (mm_F μ a g)) (hw : ∀ a, a < 355 → W a) {N : Nat} {x1 : Int32} {μ : MM} (h0 : P μ) : fm_O P (f_Ro_text N x1 μ) := by
  unfold f_Ro_text
  exact fm_ob (fr_Ro_isFull hI hJ hF hw h0) (fun t2 μ1z hm1z => fm_ite (fm_ob (fr_Ro_fault hI hJ hF hw hm1z) (fun t10 μ2z hm2z => fm_ite (fm_wr (hI (hw _ (by first | omega | (simp only [inb, Bool.and_eq_true, decide_eq_true_eq] at *; omega))) hm2z) (fun μ3z hm3z => fm_ite (fm_ob (fr_La_keepNext hI hJ hF hw hm3z) (fun t50 μ10z hm10z => fm_some hm10z)) (fm_ite (fm_obv (fr_Wo_takeRow hI hJ hF hw (by first | omega | (simp only [inb, Bool.and_eq_true, decide_eq_true_eq] at *; omega)) hm3z) (fun μ8z hm8z => fm_wr (hI (hw _ (by first | omega | (simp only [inb, Bool.and_eq_true, decide_eq_true_eq] at *; omega))) hm8z) (fun μ9z hm9z => fm_some hm9z))) (fm_obv (fr_Co_takeAll hI hJ hF hw (by first | omega | (simp only [inb, Bool.and_eq_true, decide_eq_true_eq] at *; omega)) hm3z) (fun μ4z hm4z => fm_obv (fr_Hi_forget hI hJ hF hw hm4z) (fun μ5z hm5z => fm_obv (fr_Gu_forget hI hJ hF hw hm5z) (fun μ6z hm6z => fm_wr (hI (hw _ (by first | omega | (simp only [inb, Bool.and_eq_true, decide_eq_true_eq] at *; omega))) hm6z) (fun μ7z hm7z => fm_some hm7z)))))))) (fm_some hm2z))) (fm_some hm1z))
set_option maxHeartbeats 1000000 in
theorem fr_Ro_card {W : Nat → Prop} {P : MM → Prop} (hI : ∀ {μ : MM} {a k : Nat} {v : Int32}, W a → P μ → P (mm_I μ a k v)) (hJ : ∀ {μ : MM} {a k : Nat} {v : Int64}, W a → P μ → P (mm_J μ a k v)) (hF : ∀ {μ : MM} {a : Nat} {g : Nat → Int32}, W a → P μ → P (mm_F μ a g)) (hw : ∀ a, a < 355 → W a) {N : Nat} {x1 : Int32} {x2 : Int32} {μ : MM} (h0 : P μ) : fm_O P (f_Ro_card N x1 x2 μ) := by
  unfold f_Ro_card
  exact fm_ob (fr_Co_isCard hI hJ hF hw h0) (fun t5 μ1z hm1z => fm_ite (fm_some hm1z) (fm_ite (fm_gd (fun g1 => fm_some hm1z)) (fm_ite (fm_gd (fun g2 => fm_some hm1z)) (fm_ite (fm_gd (fun g3 => fm_some hm1z)) (fm_ite (fm_ob (fr_Co_isRight hI hJ hF hw hm1z) (fun t88 μ2z hm2z => fm_some hm2z)) (fm_some hm1z))))))
set_option maxHeartbeats 1000000 in
theorem fr_Ro_word {W : Nat → Prop} {P : MM → Prop} (hI : ∀ {μ : MM} {a k : Nat} {v : Int32}, W a → P μ → P (mm_I μ a k v)) (hJ : ∀ {μ : MM} {a k : Nat} {v : Int64}, W a → P μ → P (mm_J μ a k v)) (hF : ∀ {μ : MM} {a : Nat} {g : Nat → Int32}, W a → P μ → P (mm_F μ a g)) (hw : ∀ a, a < 355 → W a) {N : Nat} {x1 : Int32} {x2 : Int32} {x3 : Int32} {μ : MM} (h0 : P μ) : fm_O P (f_Ro_word N x1 x2 x3 μ) := by
  unfold f_Ro_word
  exact fm_ob (fr_Co_isCard hI hJ hF hw h0) (fun t5 μ1z hm1z => fm_ite (fm_some hm1z) (fm_ob (fr_Wo_tell hI hJ hF hw hm1z) (fun t26 μ2z hm2z => fm_some hm2z)))
set_option maxHeartbeats 1000000 in
theorem fr_Ro_law {W : Nat → Prop} {P : MM → Prop} (hI : ∀ {μ : MM} {a k : Nat} {v : Int32}, W a → P μ → P (mm_I μ a k v)) (hJ : ∀ {μ : MM} {a k : Nat} {v : Int64}, W a → P μ → P (mm_J μ a k v)) (hF : ∀ {μ : MM} {a : Nat} {g : Nat → Int32}, W a → P μ → P (mm_F μ a g)) (hw : ∀ a, a < 355 → W a) {N : Nat} {x1 : Int32} {μ : MM} (h0 : P μ) : fm_O P (f_Ro_law N x1 μ) := by
  unfold f_Ro_law
  exact fm_ite (fm_some h0) (fm_ite (fm_wr (hI (hw _ (by first | omega | (simp only [inb, Bool.and_eq_true, decide_eq_true_eq] at *; omega))) h0) (fun μ1z hm1z => fm_some hm1z)) (fm_some h0))
set_option maxHeartbeats 1000000 in
theorem fr_Ro_cleaner {W : Nat → Prop} {P : MM → Prop} (hI : ∀ {μ : MM} {a k : Nat} {v : Int32}, W a → P μ → P (mm_I μ a k v)) (hJ : ∀ {μ : MM} {a k : Nat} {v : Int64}, W a → P μ → P (mm_J μ a k v)) (hF : ∀ {μ : MM} {a : Nat} {g : Nat → Int32}, W a → P μ → P (mm_F μ a g)) (hw : ∀ a, a < 355 → W a) {N : Nat} {x1 : Int32} {μ : MM} (h0 : P μ) : fm_O P (f_Ro_cleaner N x1 μ) := by
  unfold f_Ro_cleaner
  exact fm_ite (fm_some h0) (fm_ite (fm_some h0) (fm_ite (fm_some h0) (fm_wr (hI (hw _ (by first | omega | (simp only [inb, Bool.and_eq_true, decide_eq_true_eq] at *; omega))) h0) (fun μ1z hm1z => fm_some hm1z))))
set_option maxHeartbeats 1000000 in
theorem fr_Ro_fits {W : Nat → Prop} {P : MM → Prop} (hI : ∀ {μ : MM} {a k : Nat} {v : Int32}, W a → P μ → P (mm_I μ a k v)) (hJ : ∀ {μ : MM} {a k : Nat} {v : Int64}, W a → P μ → P (mm_J μ a k v)) (hF : ∀ {μ : MM} {a : Nat} {g : Nat → Int32}, W a → P μ → P (mm_F μ a g)) (hw : ∀ a, a < 355 → W a) {N : Nat} {x1 : Int32} {x2 : Int32} {μ : MM} (h0 : P μ) : fm_O P (f_Ro_fits N x1 x2 μ) := by
  unfold f_Ro_fits
  exact fm_ob (fr_Co_isCard hI hJ hF hw h0) (fun t5 μ1z hm1z => fm_ite (fm_some hm1z) (fm_ob (fr_Co_isThing hI hJ hF hw hm1z) (fun t16 μ2z hm2z => fm_ite (fm_some hm2z) (fm_ob (fr_Co_isFit hI hJ hF hw hm2z) (fun t30 μ3z hm3z => fm_some hm3z)))))
set_option maxHeartbeats 1000000 in
theorem fr_Ro_reading {W : Nat → Prop} {P : MM → Prop} (hI : ∀ {μ : MM} {a k : Nat} {v : Int32}, W a → P μ → P (mm_I μ a k v)) (hJ : ∀ {μ : MM} {a k : Nat} {v : Int64}, W a → P μ → P (mm_J μ a k v)) (hF : ∀ {μ : MM} {a : Nat} {g : Nat → Int32}, W a → P μ → P (mm_F μ a g)) (hw : ∀ a, a < 355 → W a) {N : Nat} {x1 : Int32} {x2 : Int32} {x3 : Int32} {μ : MM} (h0 : P μ) : fm_O P (f_Ro_reading N x1 x2 x3 μ) := by
  unfold f_Ro_reading
  exact fm_ite (fm_some h0) (fm_ite (fm_some h0) (fm_ite (fm_some h0) (fm_ob (fr_Wo_tell hI hJ hF hw h0) (fun t26 μ1z hm1z => fm_some hm1z))))
set_option maxHeartbeats 1000000 in
theorem fr_Ro_count {W : Nat → Prop} {P : MM → Prop} (hI : ∀ {μ : MM} {a k : Nat} {v : Int32}, W a → P μ → P (mm_I μ a k v)) (hJ : ∀ {μ : MM} {a k : Nat} {v : Int64}, W a → P μ → P (mm_J μ a k v)) (hF : ∀ {μ : MM} {a : Nat} {g : Nat → Int32}, W a → P μ → P (mm_F μ a g)) (hw : ∀ a, a < 355 → W a) {N : Nat} {x1 : Int32} {μ : MM} (h0 : P μ) : fm_O P (f_Ro_count N x1 μ) := by
  unfold f_Ro_count
  exact fm_ite (fm_some h0) (fm_ite (fm_some h0) (fm_ite (fm_some h0) (fm_ite (fm_some h0) (fm_ite (fm_some h0) (fm_ite (fm_some h0) (fm_ite (fm_some h0) (fm_ite (fm_some h0) (fm_ite (fm_some h0) (fm_ite (fm_some h0) (fm_ite (fm_some h0) (fm_ite (fm_ob (fr_Co_goneWords hI hJ hF hw h0) (fun t167 μ1z hm1z => fm_some hm1z)) (fm_ite (fm_ob (fr_Ag_logLength hI hJ hF hw h0) (fun t175 μ2z hm2z => fm_some hm2z)) (fm_ite (fm_some h0) (fm_some h0))))))))))))))
set_option maxHeartbeats 1000000 in
theorem fr_Ro_put {W : Nat → Prop} {P : MM → Prop} (hI : ∀ {μ : MM} {a k : Nat} {v : Int32}, W a → P μ → P (mm_I μ a k v)) (hJ : ∀ {μ : MM} {a k : Nat} {v : Int64}, W a → P μ → P (mm_J μ a k v)) (hF : ∀ {μ : MM} {a : Nat} {g : Nat → Int32}, W a → P μ → P (mm_F μ a g)) (hw : ∀ a, a < 355 → W a) {N : Nat} {x1 : Int32} {x2 : Int32} {μ : MM} (h0 : P μ) : fm_O P (f_Ro_put N x1 x2 μ) := by
  unfold f_Ro_put
  exact fm_ob (fr_Co_isThing hI hJ hF hw h0) (fun t5 μ1z hm1z => fm_ite (fm_some hm1z) (fm_ob (fr_Co_isCard hI hJ hF hw hm1z) (fun t16 μ2z hm2z => fm_ite (fm_some hm2z) (fm_ob (fr_Co_cardOver hI hJ hF hw hm2z) (fun t27 μ3z hm3z => fm_ite (fm_gd (fun g1 => fm_ite (fm_obv (fr_Hi_keep hI hJ hF hw hm3z) (fun μ4z hm4z => fm_gd (fun g2 => fm_wr (hI (hw _ (by first | omega | (simp only [inb, Bool.and_eq_true, decide_eq_true_eq] at *; omega))) hm4z) (fun μ5z hm5z => fm_some hm5z)))) (fm_some hm3z))) (fm_some hm3z))))))
set_option maxHeartbeats 1000000 in
theorem fr_Ro_take {W : Nat → Prop} {P : MM → Prop} (hI : ∀ {μ : MM} {a k : Nat} {v : Int32}, W a → P μ → P (mm_I μ a k v)) (hJ : ∀ {μ : MM} {a k : Nat} {v : Int64}, W a → P μ → P (mm_J μ a k v)) (hF : ∀ {μ : MM} {a : Nat} {g : Nat → Int32}, W a → P μ → P (mm_F μ a g)) (hw : ∀ a, a < 355 → W a) {N : Nat} {x1 : Int32} {μ : MM} (h0 : P μ) : fm_O P (f_Ro_take N x1 μ) := by
  unfold f_Ro_take
  exact fm_ob (fr_Co_isCard hI hJ hF hw h0) (fun t5 μ1z hm1z => fm_ite (fm_some hm1z) (fm_gd (fun g1 => fm_ite (fm_some hm1z) (fm_obv (fr_Hi_keep hI hJ hF hw hm1z) (fun μ2z hm2z => fm_gd (fun g2 => fm_gd (fun g3 => fm_wr (hI (hw _ (by first | omega | (simp only [inb, Bool.and_eq_true, decide_eq_true_eq] at *; omega))) hm2z) (fun μ3z hm3z => fm_some hm3z))))))))
set_option maxHeartbeats 1000000 in
theorem fr_Ro_hasWordLeft {W : Nat → Prop} {P : MM → Prop} (hI : ∀ {μ : MM} {a k : Nat} {v : Int32}, W a → P μ → P (mm_I μ a k v)) (hJ : ∀ {μ : MM} {a k : Nat} {v : Int64}, W a → P μ → P (mm_J μ a k v)) (hF : ∀ {μ : MM} {a : Nat} {g : Nat → Int32}, W a → P μ → P (mm_F μ a g)) (hw : ∀ a, a < 355 → W a) {N : Nat} {x1 : Int32} {μ : MM} (h0 : P μ) : fm_O P (f_Ro_hasWordLeft N x1 μ) := by
  unfold f_Ro_hasWordLeft
  exact fm_ob (fr_Co_isCard hI hJ hF hw h0) (fun t5 μ1z hm1z => fm_ite (fm_some hm1z) (fm_ob (fr_Wo_leftIn hI hJ hF hw hm1z) (fun t22 μ2z hm2z => fm_ite (fm_some hm2z) (fm_some hm2z))))
set_option maxHeartbeats 1000000 in
theorem fr_Ro_copy {W : Nat → Prop} {P : MM → Prop} (hI : ∀ {μ : MM} {a k : Nat} {v : Int32}, W a → P μ → P (mm_I μ a k v)) (hJ : ∀ {μ : MM} {a k : Nat} {v : Int64}, W a → P μ → P (mm_J μ a k v)) (hF : ∀ {μ : MM} {a : Nat} {g : Nat → Int32}, W a → P μ → P (mm_F μ a g)) (hw : ∀ a, a < 355 → W a) {N : Nat} {x1 : Int32} {μ : MM} (h0 : P μ) : fm_O P (f_Ro_copy N x1 μ) := by
  unfold f_Ro_copy
  exact fm_ob (fr_Ro_hasWordLeft hI hJ hF hw h0) (fun t2 μ1z hm1z => fm_ite (fm_some hm1z) (fm_ite (fm_obv (fr_Hi_keep hI hJ hF hw hm1z) (fun μ2z hm2z => fm_wr (hI (hw _ (by first | omega | (simp only [inb, Bool.and_eq_true, decide_eq_true_eq] at *; omega))) hm2z) (fun μ3z hm3z => fm_obv (fr_Wo_freshen hI hJ hF hw (by first | omega | (simp only [inb, Bool.and_eq_true, decide_eq_true_eq] at *; omega)) hm3z) (fun μ4z hm4z => fm_some hm4z)))) (fm_some hm1z)))
set_option maxHeartbeats 1000000 in
theorem fr_Ro_lamp {W : Nat → Prop} {P : MM → Prop} (hI : ∀ {μ : MM} {a k : Nat} {v : Int32}, W a → P μ → P (mm_I μ a k v)) (hJ : ∀ {μ : MM} {a k : Nat} {v : Int64}, W a → P μ → P (mm_J μ a k v)) (hF : ∀ {μ : MM} {a : Nat} {g : Nat → Int32}, W a → P μ → P (mm_F μ a g)) (hw : ∀ a, a < 355 → W a) {N : Nat} {x1 : Int32} {μ : MM} (h0 : P μ) : fm_O P (f_Ro_lamp N x1 μ) := by
  unfold f_Ro_lamp
  exact fm_ob (fr_Ro_hasWordLeft hI hJ hF hw h0) (fun t2 μ1z hm1z => fm_ite (fm_some hm1z) (fm_obv (fr_Hi_keep hI hJ hF hw hm1z) (fun μ2z hm2z => fm_obv (fr_Wo_dim hI hJ hF hw (by first | omega | (simp only [inb, Bool.and_eq_true, decide_eq_true_eq] at *; omega)) hm2z) (fun μ3z hm3z => fm_ob (fr_Wo_leftIn hI hJ hF hw hm3z) (fun t49 μ4z hm4z => fm_some hm4z)))))
set_option maxHeartbeats 1000000 in
theorem fr_Ro_light {W : Nat → Prop} {P : MM → Prop} (hI : ∀ {μ : MM} {a k : Nat} {v : Int32}, W a → P μ → P (mm_I μ a k v)) (hJ : ∀ {μ : MM} {a k : Nat} {v : Int64}, W a → P μ → P (mm_J μ a k v)) (hF : ∀ {μ : MM} {a : Nat} {g : Nat → Int32}, W a → P μ → P (mm_F μ a g)) (hw : ∀ a, a < 355 → W a) {N : Nat} {x1 : Int32} {μ : MM} (h0 : P μ) : fm_O P (f_Ro_light N x1 μ) := by
  unfold f_Ro_light
  exact fm_ob (fr_Co_isNone hI hJ hF hw h0) (fun t4 μ1z hm1z => fm_ite (fm_ite (fm_some hm1z) (fm_ite (fm_some hm1z) (fm_ite (fm_some hm1z) (fm_obv (fr_Hi_keep hI hJ hF hw hm1z) (fun μ2z hm2z => fm_wr (hI (hw _ (by first | omega | (simp only [inb, Bool.and_eq_true, decide_eq_true_eq] at *; omega))) hm2z) (fun μ3z hm3z => fm_some hm3z)))))) (fm_some hm1z))
set_option maxHeartbeats 1000000 in
theorem fr_Ro_write {W : Nat → Prop} {P : MM → Prop} (hI : ∀ {μ : MM} {a k : Nat} {v : Int32}, W a → P μ → P (mm_I μ a k v)) (hJ : ∀ {μ : MM} {a k : Nat} {v : Int64}, W a → P μ → P (mm_J μ a k v)) (hF : ∀ {μ : MM} {a : Nat} {g : Nat → Int32}, W a → P μ → P (mm_F μ a g)) (hw : ∀ a, a < 355 → W a) {N : Nat} {x1 : Int32} {x2 : Int32} {μ : MM} (h0 : P μ) : fm_O P (f_Ro_write N x1 x2 μ) := by
  unfold f_Ro_write
  exact fm_ob (fr_Co_isCard hI hJ hF hw h0) (fun t5 μ1z hm1z => fm_ite (fm_some hm1z) (fm_ite (fm_some hm1z) (fm_ite (fm_some hm1z) (fm_gd (fun g1 => fm_ite (fm_obv (fr_Hi_keep hI hJ hF hw hm1z) (fun μ2z hm2z => fm_obv (fr_Wo_takeRow hI hJ hF hw (by first | omega | (simp only [inb, Bool.and_eq_true, decide_eq_true_eq] at *; omega)) hm2z) (fun μ3z hm3z => fm_gd (fun g2 => fm_some hm3z)))) (fm_some hm1z))))))
set_option maxHeartbeats 1000000 in
theorem fr_Ro_days_L25 {W : Nat → Prop} {P : MM → Prop} (hI : ∀ {μ : MM} {a k : Nat} {v : Int32}, W a → P μ → P (mm_I μ a k v)) (hJ : ∀ {μ : MM} {a k : Nat} {v : Int64}, W a → P μ → P (mm_J μ a k v)) (hF : ∀ {μ : MM} {a : Nat} {g : Nat → Int32}, W a → P μ → P (mm_F μ a g)) (hw : ∀ a, a < 355 → W a) {N : Nat} : ∀ (n : Nat) (x1 : Int32) (x2 : Int32) (μ : MM), P μ → fm_O P (f_Ro_days_L25 N n x1 x2 μ) := by
  intro n
  induction n with
  | zero => intros; exact fm_none
  | succ n ih =>
    intro x1 x2 μ h0
    rw [f_Ro_days_L25]
    exact fm_ite (fm_some h0) (fm_obv (fr_Hi_keep hI hJ hF hw h0) (fun μ2z hm2z => fm_obv (fr_Ag_passDay hI hJ hF hw hm2z) (fun μ3z hm3z => ih _ _ _ hm3z)))
set_option maxHeartbeats 1000000 in
theorem fr_Ro_days {W : Nat → Prop} {P : MM → Prop} (hI : ∀ {μ : MM} {a k : Nat} {v : Int32}, W a → P μ → P (mm_I μ a k v)) (hJ : ∀ {μ : MM} {a k : Nat} {v : Int64}, W a → P μ → P (mm_J μ a k v)) (hF : ∀ {μ : MM} {a : Nat} {g : Nat → Int32}, W a → P μ → P (mm_F μ a g)) (hw : ∀ a, a < 355 → W a) {N : Nat} {x1 : Int32} {μ : MM} (h0 : P μ) : fm_O P (f_Ro_days N x1 μ) := by
  unfold f_Ro_days
  exact fm_ob (fr_Co_isNone hI hJ hF hw h0) (fun t4 μ1z hm1z => fm_ite (fm_ite (fm_some hm1z) (fm_ite (fr_Ro_days_L25 hI hJ hF hw _ _ _ _ hm1z) (fm_some hm1z))) (fm_some hm1z))
set_option maxHeartbeats 1000000 in
theorem fr_Ro_draw {W : Nat → Prop} {P : MM → Prop} (hI : ∀ {μ : MM} {a k : Nat} {v : Int32}, W a → P μ → P (mm_I μ a k v)) (hJ : ∀ {μ : MM} {a k : Nat} {v : Int64}, W a → P μ → P (mm_J μ a k v)) (hF : ∀ {μ : MM} {a : Nat} {g : Nat → Int32}, W a → P μ → P (mm_F μ a g)) (hw : ∀ a, a < 355 → W a) {N : Nat} {x1 : Int32} {μ : MM} (h0 : P μ) : fm_O P (f_Ro_draw N x1 μ) := by
  unfold f_Ro_draw
  exact fm_wr (hJ (hw _ (by first | omega | (simp only [inb, Bool.and_eq_true, decide_eq_true_eq] at *; omega))) h0) (fun μ1z hm1z => fm_ite (fm_gd (fun g1 => fm_some hm1z)) (fm_some hm1z))
set_option maxHeartbeats 1000000 in
theorem fr_Ro_clean {W : Nat → Prop} {P : MM → Prop} (hI : ∀ {μ : MM} {a k : Nat} {v : Int32}, W a → P μ → P (mm_I μ a k v)) (hJ : ∀ {μ : MM} {a k : Nat} {v : Int64}, W a → P μ → P (mm_J μ a k v)) (hF : ∀ {μ : MM} {a : Nat} {g : Nat → Int32}, W a → P μ → P (mm_F μ a g)) (hw : ∀ a, a < 355 → W a) {N : Nat} {μ : MM} (h0 : P μ) : fm_V P (f_Ro_clean N μ) := by
  unfold f_Ro_clean
  exact fm_obV (fr_Ro_draw hI hJ hF hw h0) (fun t3 μ1z hm1z => fm_iteV (fm_obV (fr_Ro_draw hI hJ hF hw hm1z) (fun t22 μ2z hm2z => fm_obV (fr_Ro_draw hI hJ hF hw hm2z) (fun t34 μ3z hm3z => fm_iteV (fm_someV hm3z) (fm_obV (fr_Co_isCard hI hJ hF hw hm3z) (fun t48 μ4z hm4z => fm_iteV (fm_someV hm4z) (fm_obV (fr_Co_isCard hI hJ hF hw hm4z) (fun t59 μ5z hm5z => fm_iteV (fm_someV hm5z) (fm_gdV (fun g1 => fm_gdV (fun g2 => fm_gdV (fun g3 => fm_wrV (hI (hw _ (by first | omega | (simp only [inb, Bool.and_eq_true, decide_eq_true_eq] at *; omega))) hm5z) (fun μ6z hm6z => fm_gdV (fun g4 => fm_wrV (hI (hw _ (by first | omega | (simp only [inb, Bool.and_eq_true, decide_eq_true_eq] at *; omega))) hm6z) (fun μ7z hm7z => fm_someV hm7z)))))))))))))) (fm_someV hm1z))
set_option maxHeartbeats 1000000 in
theorem fr_Ro_decades_L31 {W : Nat → Prop} {P : MM → Prop} (hI : ∀ {μ : MM} {a k : Nat} {v : Int32}, W a → P μ → P (mm_I μ a k v)) (hJ : ∀ {μ : MM} {a k : Nat} {v : Int64}, W a → P μ → P (mm_J μ a k v)) (hF : ∀ {μ : MM} {a : Nat} {g : Nat → Int32}, W a → P μ → P (mm_F μ a g)) (hw : ∀ a, a < 355 → W a) {N : Nat} : ∀ (n : Nat) (x1 : Int32) (x4 : Int32) (μ : MM), P μ → fm_O P (f_Ro_decades_L31 N n x1 x4 μ) := by
  intro n
  induction n with
  | zero => intros; exact fm_none
  | succ n ih =>
    intro x1 x4 μ h0
    rw [f_Ro_decades_L31]
    exact fm_ite (fm_some h0) (fm_obv (fr_Hi_keep hI hJ hF hw h0) (fun μ3z hm3z => fm_obv (fr_Ro_clean hI hJ hF hw hm3z) (fun μ4z hm4z => fm_obv (fr_Ag_passDay hI hJ hF hw hm4z) (fun μ5z hm5z => ih _ _ _ hm5z))))
set_option maxHeartbeats 1000000 in
theorem fr_Ro_decades {W : Nat → Prop} {P : MM → Prop} (hI : ∀ {μ : MM} {a k : Nat} {v : Int32}, W a → P μ → P (mm_I μ a k v)) (hJ : ∀ {μ : MM} {a k : Nat} {v : Int64}, W a → P μ → P (mm_J μ a k v)) (hF : ∀ {μ : MM} {a : Nat} {g : Nat → Int32}, W a → P μ → P (mm_F μ a g)) (hw : ∀ a, a < 355 → W a) {N : Nat} {x1 : Int32} {y2 : Int64} {μ : MM} (h0 : P μ) : fm_O P (f_Ro_decades N x1 y2 μ) := by
  unfold f_Ro_decades
  exact fm_ob (fr_Co_isNone hI hJ hF hw h0) (fun t4 μ1z hm1z => fm_ite (fm_ite (fm_some hm1z) (fm_ite (fm_wr (hJ (hw _ (by first | omega | (simp only [inb, Bool.and_eq_true, decide_eq_true_eq] at *; omega))) hm1z) (fun μ2z hm2z => fr_Ro_decades_L31 hI hJ hF hw _ _ _ _ hm2z)) (fm_some hm1z))) (fm_some hm1z))
set_option maxHeartbeats 1000000 in
theorem fr_Ro_undo {W : Nat → Prop} {P : MM → Prop} (hI : ∀ {μ : MM} {a k : Nat} {v : Int32}, W a → P μ → P (mm_I μ a k v)) (hJ : ∀ {μ : MM} {a k : Nat} {v : Int64}, W a → P μ → P (mm_J μ a k v)) (hF : ∀ {μ : MM} {a : Nat} {g : Nat → Int32}, W a → P μ → P (mm_F μ a g)) (hw : ∀ a, a < 355 → W a) {N : Nat} {μ : MM} (h0 : P μ) : fm_O P (f_Ro_undo N μ) := by
  unfold f_Ro_undo
  exact fm_ob (fr_Hi_undoInto hI hJ hF hw (by first | omega | (simp only [inb, Bool.and_eq_true, decide_eq_true_eq] at *; omega)) h0) (fun t11 μ1z hm1z => fm_some hm1z)
set_option maxHeartbeats 1000000 in
theorem fr_Ro_log {W : Nat → Prop} {P : MM → Prop} (hI : ∀ {μ : MM} {a k : Nat} {v : Int32}, W a → P μ → P (mm_I μ a k v)) (hJ : ∀ {μ : MM} {a k : Nat} {v : Int64}, W a → P μ → P (mm_J μ a k v)) (hF : ∀ {μ : MM} {a : Nat} {g : Nat → Int32}, W a → P μ → P (mm_F μ a g)) (hw : ∀ a, a < 355 → W a) {N : Nat} {x1 : Int32} {x2 : Int32} {μ : MM} (h0 : P μ) : fm_O P (f_Ro_log N x1 x2 μ) := by
  unfold f_Ro_log
  exact fm_ob (fr_Ag_logged hI hJ hF hw h0) (fun t6 μ1z hm1z => fm_some hm1z)
set_option maxHeartbeats 1000000 in
theorem fr_Ro_image {W : Nat → Prop} {P : MM → Prop} (hI : ∀ {μ : MM} {a k : Nat} {v : Int32}, W a → P μ → P (mm_I μ a k v)) (hJ : ∀ {μ : MM} {a k : Nat} {v : Int64}, W a → P μ → P (mm_J μ a k v)) (hF : ∀ {μ : MM} {a : Nat} {g : Nat → Int32}, W a → P μ → P (mm_F μ a g)) (hw : ∀ a, a < 355 → W a) {N : Nat} {μ : MM} (h0 : P μ) : fm_O P (f_Ro_image N μ) := by
  unfold f_Ro_image
  exact fm_ob (fr_Co_isNone hI hJ hF hw h0) (fun t4 μ1z hm1z => fm_ite (fm_obv (fr_Sh_takeAll hI hJ hF hw (by first | omega | (simp only [inb, Bool.and_eq_true, decide_eq_true_eq] at *; omega)) hm1z) (fun μ2z hm2z => fm_gd (fun g1 => fm_wr (hF (hw _ (by first | omega | (simp only [inb, Bool.and_eq_true, decide_eq_true_eq] at *; omega))) hm2z) (fun μ3z hm3z => fm_wr (hI (hw _ (by first | omega | (simp only [inb, Bool.and_eq_true, decide_eq_true_eq] at *; omega))) hm3z) (fun μ4z hm4z => fm_some hm4z))))) (fm_some hm1z))
set_option maxHeartbeats 1000000 in
theorem fr_Ro_back {W : Nat → Prop} {P : MM → Prop} (hI : ∀ {μ : MM} {a k : Nat} {v : Int32}, W a → P μ → P (mm_I μ a k v)) (hJ : ∀ {μ : MM} {a k : Nat} {v : Int64}, W a → P μ → P (mm_J μ a k v)) (hF : ∀ {μ : MM} {a : Nat} {g : Nat → Int32}, W a → P μ → P (mm_F μ a g)) (hw : ∀ a, a < 355 → W a) {N : Nat} {μ : MM} (h0 : P μ) : fm_O P (f_Ro_back N μ) := by
  unfold f_Ro_back
  exact fm_ite (fm_some h0) (fm_obv (fr_Sh_takeAll hI hJ hF hw (by first | omega | (simp only [inb, Bool.and_eq_true, decide_eq_true_eq] at *; omega)) h0) (fun μ1z hm1z => fm_gd (fun g1 => fm_wr (hF (hw _ (by first | omega | (simp only [inb, Bool.and_eq_true, decide_eq_true_eq] at *; omega))) hm1z) (fun μ2z hm2z => fm_obv (fr_Hi_forget hI hJ hF hw hm2z) (fun μ3z hm3z => fm_some hm3z)))))
set_option maxHeartbeats 1000000 in
theorem fr_Ro_right_L16 {W : Nat → Prop} {P : MM → Prop} (hI : ∀ {μ : MM} {a k : Nat} {v : Int32}, W a → P μ → P (mm_I μ a k v)) (hJ : ∀ {μ : MM} {a k : Nat} {v : Int64}, W a → P μ → P (mm_J μ a k v)) (hF : ∀ {μ : MM} {a : Nat} {g : Nat → Int32}, W a → P μ → P (mm_F μ a g)) (hw : ∀ a, a < 355 → W a) {N : Nat} : ∀ (n : Nat) (x1 : Int32) (x2 : Int32) (μ : MM), P μ → fm_O P (f_Ro_right_L16 N n x1 x2 μ) := by
  intro n
  induction n with
  | zero => intros; exact fm_none
  | succ n ih =>
    intro x1 x2 μ h0
    rw [f_Ro_right_L16]
    exact fm_ite (fm_some h0) (fm_ob (fr_Co_isRight hI hJ hF hw h0) (fun t32 μ2z hm2z => ih _ _ _ hm2z))
set_option maxHeartbeats 1000000 in
theorem fr_Ro_right {W : Nat → Prop} {P : MM → Prop} (hI : ∀ {μ : MM} {a k : Nat} {v : Int32}, W a → P μ → P (mm_I μ a k v)) (hJ : ∀ {μ : MM} {a k : Nat} {v : Int64}, W a → P μ → P (mm_J μ a k v)) (hF : ∀ {μ : MM} {a : Nat} {g : Nat → Int32}, W a → P μ → P (mm_F μ a g)) (hw : ∀ a, a < 355 → W a) {N : Nat} {μ : MM} (h0 : P μ) : fm_O P (f_Ro_right N μ) := by
  unfold f_Ro_right
  exact fm_ob (fr_Co_isNone hI hJ hF hw h0) (fun t4 μ1z hm1z => fm_ite (fr_Ro_right_L16 hI hJ hF hw _ _ _ _ hm1z) (fm_some hm1z))
set_option maxHeartbeats 1000000 in
theorem fr_Ro_matched {W : Nat → Prop} {P : MM → Prop} (hI : ∀ {μ : MM} {a k : Nat} {v : Int32}, W a → P μ → P (mm_I μ a k v)) (hJ : ∀ {μ : MM} {a k : Nat} {v : Int64}, W a → P μ → P (mm_J μ a k v)) (hF : ∀ {μ : MM} {a : Nat} {g : Nat → Int32}, W a → P μ → P (mm_F μ a g)) (hw : ∀ a, a < 355 → W a) {N : Nat} {x1 : Int32} {μ : MM} (h0 : P μ) : fm_O P (f_Ro_matched N x1 μ) := by
  unfold f_Ro_matched
  exact fm_ob (fr_Co_isNone hI hJ hF hw h0) (fun t4 μ1z hm1z => fm_ite (fm_ite (fm_some hm1z) (fm_ite (fm_obv (fr_Ma_findBest hI hJ hF hw hm1z) (fun μ2z hm2z => fm_ite (fm_some hm2z) (fm_some hm2z))) (fm_some hm1z))) (fm_some hm1z))
set_option maxHeartbeats 1000000 in
theorem fr_Ro_clash {W : Nat → Prop} {P : MM → Prop} (hI : ∀ {μ : MM} {a k : Nat} {v : Int32}, W a → P μ → P (mm_I μ a k v)) (hJ : ∀ {μ : MM} {a k : Nat} {v : Int64}, W a → P μ → P (mm_J μ a k v)) (hF : ∀ {μ : MM} {a : Nat} {g : Nat → Int32}, W a → P μ → P (mm_F μ a g)) (hw : ∀ a, a < 355 → W a) {N : Nat} {μ : MM} (h0 : P μ) : fm_O P (f_Ro_clash N μ) := by
  unfold f_Ro_clash
  exact fm_ob (fr_Co_isNone hI hJ hF hw h0) (fun t4 μ1z hm1z => fm_ite (fm_ob (fr_Ma_leastClash hI hJ hF hw hm1z) (fun t18 μ2z hm2z => fm_some hm2z)) (fm_some hm1z))
set_option maxHeartbeats 1000000 in
theorem fr_Ro_blank {W : Nat → Prop} {P : MM → Prop} (hI : ∀ {μ : MM} {a k : Nat} {v : Int32}, W a → P μ → P (mm_I μ a k v)) (hJ : ∀ {μ : MM} {a k : Nat} {v : Int64}, W a → P μ → P (mm_J μ a k v)) (hF : ∀ {μ : MM} {a : Nat} {g : Nat → Int32}, W a → P μ → P (mm_F μ a g)) (hw : ∀ a, a < 355 → W a) {N : Nat} {x1 : Int32} {μ : MM} (h0 : P μ) : fm_O P (f_Ro_blank N x1 μ) := by
  unfold f_Ro_blank
  exact fm_ob (fr_Co_isCard hI hJ hF hw h0) (fun t5 μ1z hm1z => fm_ite (fm_some hm1z) (fm_ob (fr_Ag_daysTillBlank hI hJ hF hw hm1z) (fun t16 μ2z hm2z => fm_some hm2z)))
set_option maxHeartbeats 1000000 in
theorem fr_Ro_stood {W : Nat → Prop} {P : MM → Prop} (hI : ∀ {μ : MM} {a k : Nat} {v : Int32}, W a → P μ → P (mm_I μ a k v)) (hJ : ∀ {μ : MM} {a k : Nat} {v : Int64}, W a → P μ → P (mm_J μ a k v)) (hF : ∀ {μ : MM} {a : Nat} {g : Nat → Int32}, W a → P μ → P (mm_F μ a g)) (hw : ∀ a, a < 355 → W a) {N : Nat} {x1 : Int32} {x2 : Int32} {x3 : Int32} {μ : MM} (h0 : P μ) : fm_O P (f_Ro_stood N x1 x2 x3 μ) := by
  unfold f_Ro_stood
  exact fm_ob (fr_Co_isThing hI hJ hF hw h0) (fun t5 μ1z hm1z => fm_ite (fm_some hm1z) (fm_ob (fr_Co_isCard hI hJ hF hw hm1z) (fun t16 μ2z hm2z => fm_ite (fm_some hm2z) (fm_ob (fr_Gu_note hI hJ hF hw hm2z) (fun t31 μ3z hm3z => fm_some hm3z)))))
set_option maxHeartbeats 1000000 in
theorem fr_Ro_once {W : Nat → Prop} {P : MM → Prop} (hI : ∀ {μ : MM} {a k : Nat} {v : Int32}, W a → P μ → P (mm_I μ a k v)) (hJ : ∀ {μ : MM} {a k : Nat} {v : Int64}, W a → P μ → P (mm_J μ a k v)) (hF : ∀ {μ : MM} {a : Nat} {g : Nat → Int32}, W a → P μ → P (mm_F μ a g)) (hw : ∀ a, a < 355 → W a) {N : Nat} {x1 : Int32} {x2 : Int32} {μ : MM} (h0 : P μ) : fm_O P (f_Ro_once N x1 x2 μ) := by
  unfold f_Ro_once
  exact fm_ite (fm_some h0) (fm_ob (fr_Gu_aim hI hJ hF hw h0) (fun t10 μ1z hm1z => fm_ite (fm_some hm1z) (fm_ite (fm_ob (fr_Gu_countRows hI hJ hF hw hm1z) (fun t27 μ3z hm3z => fm_some hm3z)) (fm_ob (fr_Gu_findRow hI hJ hF hw hm1z) (fun t38 μ2z hm2z => fm_some hm2z)))))
set_option maxHeartbeats 1000000 in
theorem fr_Ro_probe {W : Nat → Prop} {P : MM → Prop} (hI : ∀ {μ : MM} {a k : Nat} {v : Int32}, W a → P μ → P (mm_I μ a k v)) (hJ : ∀ {μ : MM} {a k : Nat} {v : Int64}, W a → P μ → P (mm_J μ a k v)) (hF : ∀ {μ : MM} {a : Nat} {g : Nat → Int32}, W a → P μ → P (mm_F μ a g)) (hw : ∀ a, a < 355 → W a) {N : Nat} {x1 : Int32} {μ : MM} (h0 : P μ) : fm_O P (f_Ro_probe N x1 μ) := by
  unfold f_Ro_probe
  exact fm_ob (fr_Gu_aim hI hJ hF hw h0) (fun t5 μ1z hm1z => fm_ite (fm_some hm1z) (fm_ob (fr_Gu_evenThing hI hJ hF hw hm1z) (fun t15 μ2z hm2z => fm_some hm2z)))
set_option maxHeartbeats 1000000 in
theorem fr_Ro_saves {W : Nat → Prop} {P : MM → Prop} (hI : ∀ {μ : MM} {a k : Nat} {v : Int32}, W a → P μ → P (mm_I μ a k v)) (hJ : ∀ {μ : MM} {a k : Nat} {v : Int64}, W a → P μ → P (mm_J μ a k v)) (hF : ∀ {μ : MM} {a : Nat} {g : Nat → Int32}, W a → P μ → P (mm_F μ a g)) (hw : ∀ a, a < 355 → W a) {N : Nat} {x1 : Int32} {x2 : Int32} {μ : MM} (h0 : P μ) : fm_O P (f_Ro_saves N x1 x2 μ) := by
  unfold f_Ro_saves
  exact fm_ite (fm_some h0) (fm_ite (fm_some h0) (fm_ob (fr_Gu_aim hI hJ hF hw h0) (fun t14 μ1z hm1z => fm_ite (fm_some hm1z) (fm_ob (fr_Gu_kindestRow hI hJ hF hw hm1z) (fun t26 μ2z hm2z => fm_ite (fm_some hm2z) (fm_ite (fm_some hm2z) (fm_ob (fr_Gu_thingsFitting hI hJ hF hw hm2z) (fun t48 μ3z hm3z => fm_some hm3z))))))))
set_option maxHeartbeats 1000000 in
theorem fr_Ro_round_L16 {W : Nat → Prop} {P : MM → Prop} (hI : ∀ {μ : MM} {a k : Nat} {v : Int32}, W a → P μ → P (mm_I μ a k v)) (hJ : ∀ {μ : MM} {a k : Nat} {v : Int64}, W a → P μ → P (mm_J μ a k v)) (hF : ∀ {μ : MM} {a : Nat} {g : Nat → Int32}, W a → P μ → P (mm_F μ a g)) (hw : ∀ a, a < 355 → W a) {N : Nat} : ∀ (n : Nat) (x1 : Int32) (x2 : Int32) (μ : MM), P μ → fm_O P (f_Ro_round_L16 N n x1 x2 μ) := by
  intro n
  induction n with
  | zero => intros; exact fm_none
  | succ n ih =>
    intro x1 x2 μ h0
    rw [f_Ro_round_L16]
    exact fm_ite (fm_some h0) (fm_ob (fr_Co_reachedFrom hI hJ hF hw h0) (fun t32 μ2z hm2z => ih _ _ _ hm2z))
set_option maxHeartbeats 1000000 in
theorem fr_Ro_round {W : Nat → Prop} {P : MM → Prop} (hI : ∀ {μ : MM} {a k : Nat} {v : Int32}, W a → P μ → P (mm_I μ a k v)) (hJ : ∀ {μ : MM} {a k : Nat} {v : Int64}, W a → P μ → P (mm_J μ a k v)) (hF : ∀ {μ : MM} {a : Nat} {g : Nat → Int32}, W a → P μ → P (mm_F μ a g)) (hw : ∀ a, a < 355 → W a) {N : Nat} {μ : MM} (h0 : P μ) : fm_O P (f_Ro_round N μ) := by
  unfold f_Ro_round
  exact fm_ob (fr_Co_isNone hI hJ hF hw h0) (fun t4 μ1z hm1z => fm_ite (fr_Ro_round_L16 hI hJ hF hw _ _ _ _ hm1z) (fm_some hm1z))
set_option maxHeartbeats 1000000 in
theorem fr_Ro_nowhere_L16 {W : Nat → Prop} {P : MM → Prop} (hI : ∀ {μ : MM} {a k : Nat} {v : Int32}, W a → P μ → P (mm_I μ a k v)) (hJ : ∀ {μ : MM} {a k : Nat} {v : Int64}, W a → P μ → P (mm_J μ a k v)) (hF : ∀ {μ : MM} {a : Nat} {g : Nat → Int32}, W a → P μ → P (mm_F μ a g)) (hw : ∀ a, a < 355 → W a) {N : Nat} : ∀ (n : Nat) (x1 : Int32) (x2 : Int32) (μ : MM), P μ → fm_O P (f_Ro_nowhere_L16 N n x1 x2 μ) := by
  intro n
  induction n with
  | zero => intros; exact fm_none
  | succ n ih =>
    intro x1 x2 μ h0
    rw [f_Ro_nowhere_L16]
    exact fm_ite (fm_some h0) (fm_ob (fr_Wo_named hI hJ hF hw h0) (fun t39 μ2z hm2z => ih _ _ _ hm2z))
set_option maxHeartbeats 1000000 in
theorem fr_Ro_nowhere {W : Nat → Prop} {P : MM → Prop} (hI : ∀ {μ : MM} {a k : Nat} {v : Int32}, W a → P μ → P (mm_I μ a k v)) (hJ : ∀ {μ : MM} {a k : Nat} {v : Int64}, W a → P μ → P (mm_J μ a k v)) (hF : ∀ {μ : MM} {a : Nat} {g : Nat → Int32}, W a → P μ → P (mm_F μ a g)) (hw : ∀ a, a < 355 → W a) {N : Nat} {μ : MM} (h0 : P μ) : fm_O P (f_Ro_nowhere N μ) := by
  unfold f_Ro_nowhere
  exact fm_ob (fr_Co_isNone hI hJ hF hw h0) (fun t4 μ1z hm1z => fm_ite (fr_Ro_nowhere_L16 hI hJ hF hw _ _ _ _ hm1z) (fm_some hm1z))
set_option maxHeartbeats 1000000 in
theorem fr_Ro_forged_L27 {W : Nat → Prop} {P : MM → Prop} (hI : ∀ {μ : MM} {a k : Nat} {v : Int32}, W a → P μ → P (mm_I μ a k v)) (hJ : ∀ {μ : MM} {a k : Nat} {v : Int64}, W a → P μ → P (mm_J μ a k v)) (hF : ∀ {μ : MM} {a : Nat} {g : Nat → Int32}, W a → P μ → P (mm_F μ a g)) (hw : ∀ a, a < 355 → W a) {N : Nat} : ∀ (n : Nat) (x2 : Int32) (x3 : Int32) (μ : MM), P μ → fm_O P (f_Ro_forged_L27 N n x2 x3 μ) := by
  intro n
  induction n with
  | zero => intros; exact fm_none
  | succ n ih =>
    intro x2 x3 μ h0
    rw [f_Ro_forged_L27]
    exact fm_ite (fm_some h0) (fm_ob (fr_Wo_named hI hJ hF hw h0) (fun t41 μ2z hm2z => fm_ob (fr_Wo_named hI hJ hF hw hm2z) (fun t47 μ3z hm3z => ih _ _ _ hm3z)))
set_option maxHeartbeats 1000000 in
theorem fr_Ro_forged {W : Nat → Prop} {P : MM → Prop} (hI : ∀ {μ : MM} {a k : Nat} {v : Int32}, W a → P μ → P (mm_I μ a k v)) (hJ : ∀ {μ : MM} {a k : Nat} {v : Int64}, W a → P μ → P (mm_J μ a k v)) (hF : ∀ {μ : MM} {a : Nat} {g : Nat → Int32}, W a → P μ → P (mm_F μ a g)) (hw : ∀ a, a < 355 → W a) {N : Nat} {μ : MM} (h0 : P μ) : fm_O P (f_Ro_forged N μ) := by
  unfold f_Ro_forged
  exact fm_ob (fr_Co_isNone hI hJ hF hw h0) (fun t4 μ1z hm1z => fm_ite (fr_Ro_forged_L27 hI hJ hF hw _ _ _ _ hm1z) (fm_some hm1z))
set_option maxHeartbeats 1000000 in
theorem fr_Ro_alone_B39 {W : Nat → Prop} {P : MM → Prop} (hI : ∀ {μ : MM} {a k : Nat} {v : Int32}, W a → P μ → P (mm_I μ a k v)) (hJ : ∀ {μ : MM} {a k : Nat} {v : Int64}, W a → P μ → P (mm_J μ a k v)) (hF : ∀ {μ : MM} {a : Nat} {g : Nat → Int32}, W a → P μ → P (mm_F μ a g)) (hw : ∀ a, a < 355 → W a) {N : Nat} {k17 : Int32 → Int32 → Int32 → MM → Option (Int32 × MM)} {x1 : Int32} {x2 : Int32} {x3 : Int32} {μ : MM} (hk17 : ∀ (z0 : Int32) (z1 : Int32) (z2 : Int32) (z3 : MM), P z3 → fm_O P (k17 z0 z1 z2 z3)) (h0 : P μ) : fm_O P (f_Ro_alone_B39 N k17 x1 x2 x3 μ) := by
  unfold f_Ro_alone_B39
  exact fm_ob (fr_Co_isToldAlone hI hJ hF hw h0) (fun t45 μ2z hm2z => hk17 _ _ _ _ hm2z)
set_option maxHeartbeats 1000000 in
theorem fr_Ro_alone_L17 {W : Nat → Prop} {P : MM → Prop} (hI : ∀ {μ : MM} {a k : Nat} {v : Int32}, W a → P μ → P (mm_I μ a k v)) (hJ : ∀ {μ : MM} {a k : Nat} {v : Int64}, W a → P μ → P (mm_J μ a k v)) (hF : ∀ {μ : MM} {a : Nat} {g : Nat → Int32}, W a → P μ → P (mm_F μ a g)) (hw : ∀ a, a < 355 → W a) {N : Nat} : ∀ (n : Nat) (x1 : Int32) (x2 : Int32) (x3 : Int32) (μ : MM), P μ → fm_O P (f_Ro_alone_L17 N n x1 x2 x3 μ) := by
  intro n
  induction n with
  | zero => intros; exact fm_none
  | succ n ih =>
    intro x1 x2 x3 μ h0
    rw [f_Ro_alone_L17]
    exact fm_ite (fm_some h0) (fm_ite (fr_Ro_alone_B39 hI hJ hF hw (ih) h0) (fm_ob (fr_In_bitCount_0f7a4 hI hJ hF h0) (fun t29 μ3z hm3z => fm_ob (fr_In_bitCount_0f7a4 hI hJ hF hm3z) (fun t33 μ4z hm4z => fm_ite (ih _ _ _ _ hm4z) (fr_Ro_alone_B39 hI hJ hF hw (ih) hm4z)))))
set_option maxHeartbeats 1000000 in
theorem fr_Ro_alone {W : Nat → Prop} {P : MM → Prop} (hI : ∀ {μ : MM} {a k : Nat} {v : Int32}, W a → P μ → P (mm_I μ a k v)) (hJ : ∀ {μ : MM} {a k : Nat} {v : Int64}, W a → P μ → P (mm_J μ a k v)) (hF : ∀ {μ : MM} {a : Nat} {g : Nat → Int32}, W a → P μ → P (mm_F μ a g)) (hw : ∀ a, a < 355 → W a) {N : Nat} {x1 : Int32} {μ : MM} (h0 : P μ) : fm_O P (f_Ro_alone N x1 μ) := by
  unfold f_Ro_alone
  exact fm_ob (fr_Co_isThing hI hJ hF hw h0) (fun t5 μ1z hm1z => fm_ite (fm_some hm1z) (fr_Ro_alone_L17 hI hJ hF hw _ _ _ _ _ hm1z))
set_option maxHeartbeats 1000000 in
theorem fr_Ro_suits {W : Nat → Prop} {P : MM → Prop} (hI : ∀ {μ : MM} {a k : Nat} {v : Int32}, W a → P μ → P (mm_I μ a k v)) (hJ : ∀ {μ : MM} {a k : Nat} {v : Int64}, W a → P μ → P (mm_J μ a k v)) (hF : ∀ {μ : MM} {a : Nat} {g : Nat → Int32}, W a → P μ → P (mm_F μ a g)) (hw : ∀ a, a < 355 → W a) {N : Nat} {x1 : Int32} {μ : MM} (h0 : P μ) : fm_O P (f_Ro_suits N x1 μ) := by
  unfold f_Ro_suits
  exact fm_ob (fr_Co_isCard hI hJ hF hw h0) (fun t5 μ1z hm1z => fm_ite (fm_some hm1z) (fm_ob (fr_Co_suitedThings hI hJ hF hw hm1z) (fun t16 μ2z hm2z => fm_some hm2z)))
set_option maxHeartbeats 1000000 in
theorem fr_Ro_wanted_L29 {W : Nat → Prop} {P : MM → Prop} (hI : ∀ {μ : MM} {a k : Nat} {v : Int32}, W a → P μ → P (mm_I μ a k v)) (hJ : ∀ {μ : MM} {a k : Nat} {v : Int64}, W a → P μ → P (mm_J μ a k v)) (hF : ∀ {μ : MM} {a : Nat} {g : Nat → Int32}, W a → P μ → P (mm_F μ a g)) (hw : ∀ a, a < 355 → W a) {N : Nat} : ∀ (n : Nat) (x1 : Int32) (x2 : Int32) (x3 : Int32) (x4 : Int32) (μ : MM), P μ → fm_O P (f_Ro_wanted_L29 N n x1 x2 x3 x4 μ) := by
  intro n
  induction n with
  | zero => intros; exact fm_none
  | succ n ih =>
    intro x1 x2 x3 x4 μ h0
    rw [f_Ro_wanted_L29]
    exact fm_ite (fm_some h0) (fm_ob (fr_Co_suitedThings hI hJ hF hw h0) (fun t47 μ2z hm2z => fm_ob (fr_In_bitCount_0f7a4 hI hJ hF hm2z) (fun t50 μ3z hm3z => ih _ _ _ _ _ hm3z)))
set_option maxHeartbeats 1000000 in
theorem fr_Ro_wanted {W : Nat → Prop} {P : MM → Prop} (hI : ∀ {μ : MM} {a k : Nat} {v : Int32}, W a → P μ → P (mm_I μ a k v)) (hJ : ∀ {μ : MM} {a k : Nat} {v : Int64}, W a → P μ → P (mm_J μ a k v)) (hF : ∀ {μ : MM} {a : Nat} {g : Nat → Int32}, W a → P μ → P (mm_F μ a g)) (hw : ∀ a, a < 355 → W a) {N : Nat} {x1 : Int32} {μ : MM} (h0 : P μ) : fm_O P (f_Ro_wanted N x1 μ) := by
  unfold f_Ro_wanted
  exact fm_ob (fr_Co_isNone hI hJ hF hw h0) (fun t4 μ1z hm1z => fm_ite (fm_ite (fm_some hm1z) (fm_ite (fr_Ro_wanted_L29 hI hJ hF hw _ _ _ _ _ _ hm1z) (fm_some hm1z))) (fm_some hm1z))
set_option maxHeartbeats 1000000 in
theorem fr_Ro_perhaps_L27 {W : Nat → Prop} {P : MM → Prop} (hI : ∀ {μ : MM} {a k : Nat} {v : Int32}, W a → P μ → P (mm_I μ a k v)) (hJ : ∀ {μ : MM} {a k : Nat} {v : Int64}, W a → P μ → P (mm_J μ a k v)) (hF : ∀ {μ : MM} {a : Nat} {g : Nat → Int32}, W a → P μ → P (mm_F μ a g)) (hw : ∀ a, a < 355 → W a) {N : Nat} : ∀ (n : Nat) (x2 : Int32) (x3 : Int32) (μ : MM), P μ → fm_O P (f_Ro_perhaps_L27 N n x2 x3 μ) := by
  intro n
  induction n with
  | zero => intros; exact fm_none
  | succ n ih =>
    intro x2 x3 μ h0
    rw [f_Ro_perhaps_L27]
    exact fm_ite (fm_some h0) (fm_ob (fr_Wo_leftIn hI hJ hF hw h0) (fun t40 μ2z hm2z => fm_gd (fun g1 => ih _ _ _ hm2z)))
set_option maxHeartbeats 1000000 in
theorem fr_Ro_perhaps {W : Nat → Prop} {P : MM → Prop} (hI : ∀ {μ : MM} {a k : Nat} {v : Int32}, W a → P μ → P (mm_I μ a k v)) (hJ : ∀ {μ : MM} {a k : Nat} {v : Int64}, W a → P μ → P (mm_J μ a k v)) (hF : ∀ {μ : MM} {a : Nat} {g : Nat → Int32}, W a → P μ → P (mm_F μ a g)) (hw : ∀ a, a < 355 → W a) {N : Nat} {μ : MM} (h0 : P μ) : fm_O P (f_Ro_perhaps N μ) := by
  unfold f_Ro_perhaps
  exact fm_ob (fr_Co_isNone hI hJ hF hw h0) (fun t4 μ1z hm1z => fm_ite (fr_Ro_perhaps_L27 hI hJ hF hw _ _ _ _ hm1z) (fm_some hm1z))
set_option maxHeartbeats 1000000 in
theorem fr_Ro_shared {W : Nat → Prop} {P : MM → Prop} (hI : ∀ {μ : MM} {a k : Nat} {v : Int32}, W a → P μ → P (mm_I μ a k v)) (hJ : ∀ {μ : MM} {a k : Nat} {v : Int64}, W a → P μ → P (mm_J μ a k v)) (hF : ∀ {μ : MM} {a : Nat} {g : Nat → Int32}, W a → P μ → P (mm_F μ a g)) (hw : ∀ a, a < 355 → W a) {N : Nat} {x1 : Int32} {x2 : Int32} {μ : MM} (h0 : P μ) : fm_O P (f_Ro_shared N x1 x2 μ) := by
  unfold f_Ro_shared
  exact fm_ob (fr_Co_isThing hI hJ hF hw h0) (fun t5 μ1z hm1z => fm_ite (fm_some hm1z) (fm_ob (fr_Co_isThing hI hJ hF hw hm1z) (fun t16 μ2z hm2z => fm_ite (fm_some hm2z) (fm_gd (fun g1 => fm_gd (fun g2 => fm_some hm2z))))))
set_option maxHeartbeats 1000000 in
theorem fr_Ro_twins_L37 {W : Nat → Prop} {P : MM → Prop} (hI : ∀ {μ : MM} {a k : Nat} {v : Int32}, W a → P μ → P (mm_I μ a k v)) (hJ : ∀ {μ : MM} {a k : Nat} {v : Int64}, W a → P μ → P (mm_J μ a k v)) (hF : ∀ {μ : MM} {a : Nat} {g : Nat → Int32}, W a → P μ → P (mm_F μ a g)) (hw : ∀ a, a < 355 → W a) {N : Nat} {k21 : Int32 → Int32 → Int32 → MM → Option (Int32 × MM)} (hk21 : ∀ (z0 : Int32) (z1 : Int32) (z2 : Int32) (z3 : MM), P z3 → fm_O P (k21 z0 z1 z2 z3)) : ∀ (n : Nat) (x1 : Int32) (x2 : Int32) (x3 : Int32) (x4 : Int32) (μ : MM), P μ → fm_O P (f_Ro_twins_L37 N k21 n x1 x2 x3 x4 μ) := by
  intro n
  induction n with
  | zero => intros; exact fm_none
  | succ n ih =>
    intro x1 x2 x3 x4 μ h0
    rw [f_Ro_twins_L37]
    exact fm_ite (hk21 _ _ _ _ h0) (fm_gd (fun g1 => fm_gd (fun g2 => fm_ite (fm_ite (fm_some h0) (ih _ _ _ _ _ h0)) (ih _ _ _ _ _ h0))))
set_option maxHeartbeats 1000000 in
theorem fr_Ro_twins_L21 {W : Nat → Prop} {P : MM → Prop} (hI : ∀ {μ : MM} {a k : Nat} {v : Int32}, W a → P μ → P (mm_I μ a k v)) (hJ : ∀ {μ : MM} {a k : Nat} {v : Int64}, W a → P μ → P (mm_J μ a k v)) (hF : ∀ {μ : MM} {a : Nat} {g : Nat → Int32}, W a → P μ → P (mm_F μ a g)) (hw : ∀ a, a < 355 → W a) {N : Nat} : ∀ (n : Nat) (x1 : Int32) (x2 : Int32) (x3 : Int32) (μ : MM), P μ → fm_O P (f_Ro_twins_L21 N n x1 x2 x3 μ) := by
  intro n
  induction n with
  | zero => intros; exact fm_none
  | succ n ih =>
    intro x1 x2 x3 μ h0
    rw [f_Ro_twins_L21]
    exact fm_ite (fm_some h0) (fr_Ro_twins_L37 hI hJ hF hw (ih) _ _ _ _ _ _ h0)
set_option maxHeartbeats 1000000 in
theorem fr_Ro_twins {W : Nat → Prop} {P : MM → Prop} (hI : ∀ {μ : MM} {a k : Nat} {v : Int32}, W a → P μ → P (mm_I μ a k v)) (hJ : ∀ {μ : MM} {a k : Nat} {v : Int64}, W a → P μ → P (mm_J μ a k v)) (hF : ∀ {μ : MM} {a : Nat} {g : Nat → Int32}, W a → P μ → P (mm_F μ a g)) (hw : ∀ a, a < 355 → W a) {N : Nat} {x1 : Int32} {μ : MM} (h0 : P μ) : fm_O P (f_Ro_twins N x1 μ) := by
  unfold f_Ro_twins
  exact fm_ob (fr_Co_isNone hI hJ hF hw h0) (fun t4 μ1z hm1z => fm_ite (fm_ite (fr_Ro_twins_L21 hI hJ hF hw _ _ _ _ _ hm1z) (fm_some hm1z)) (fm_some hm1z))
set_option maxHeartbeats 1000000 in
theorem fr_Ro_spread_L65 {W : Nat → Prop} {P : MM → Prop} (hI : ∀ {μ : MM} {a k : Nat} {v : Int32}, W a → P μ → P (mm_I μ a k v)) (hJ : ∀ {μ : MM} {a k : Nat} {v : Int64}, W a → P μ → P (mm_J μ a k v)) (hF : ∀ {μ : MM} {a : Nat} {g : Nat → Int32}, W a → P μ → P (mm_F μ a g)) (hw : ∀ a, a < 355 → W a) {N : Nat} {k57 : Int32 → Int32 → Int32 → MM → Option (Int32 × MM)} (hk57 : ∀ (z0 : Int32) (z1 : Int32) (z2 : Int32) (z3 : MM), P z3 → fm_O P (k57 z0 z1 z2 z3)) : ∀ (n : Nat) (x1 : Int32) (x2 : Int32) (x3 : Int32) (x4 : Int32) (μ : MM), P μ → fm_O P (f_Ro_spread_L65 N k57 n x1 x2 x3 x4 μ) := by
  intro n
  induction n with
  | zero => intros; exact fm_none
  | succ n ih =>
    intro x1 x2 x3 x4 μ h0
    rw [f_Ro_spread_L65]
    exact fm_ite (hk57 _ _ _ _ h0) (fm_gd (fun g1 => fm_gd (fun g2 => fm_gd (fun g3 => fm_wr (hJ (hw _ (by first | omega | (simp only [inb, Bool.and_eq_true, decide_eq_true_eq] at *; omega))) h0) (fun μ2z hm2z => fm_gd (fun g4 => fm_gd (fun g5 => fm_wr (hJ (hw _ (by first | omega | (simp only [inb, Bool.and_eq_true, decide_eq_true_eq] at *; omega))) hm2z) (fun μ3z hm3z => ih _ _ _ _ _ hm3z))))))))
set_option maxHeartbeats 1000000 in
theorem fr_Ro_spread_L57 {W : Nat → Prop} {P : MM → Prop} (hI : ∀ {μ : MM} {a k : Nat} {v : Int32}, W a → P μ → P (mm_I μ a k v)) (hJ : ∀ {μ : MM} {a k : Nat} {v : Int64}, W a → P μ → P (mm_J μ a k v)) (hF : ∀ {μ : MM} {a : Nat} {g : Nat → Int32}, W a → P μ → P (mm_F μ a g)) (hw : ∀ a, a < 355 → W a) {N : Nat} : ∀ (n : Nat) (x1 : Int32) (x2 : Int32) (x3 : Int32) (μ : MM), P μ → fm_O P (f_Ro_spread_L57 N n x1 x2 x3 μ) := by
  intro n
  induction n with
  | zero => intros; exact fm_none
  | succ n ih =>
    intro x1 x2 x3 μ h0
    rw [f_Ro_spread_L57]
    exact fm_ite (fm_some h0) (fr_Ro_spread_L65 hI hJ hF hw (ih) _ _ _ _ _ _ h0)
set_option maxHeartbeats 1000000 in
theorem fr_Ro_spread_L24 {W : Nat → Prop} {P : MM → Prop} (hI : ∀ {μ : MM} {a k : Nat} {v : Int32}, W a → P μ → P (mm_I μ a k v)) (hJ : ∀ {μ : MM} {a k : Nat} {v : Int64}, W a → P μ → P (mm_J μ a k v)) (hF : ∀ {μ : MM} {a : Nat} {g : Nat → Int32}, W a → P μ → P (mm_F μ a g)) (hw : ∀ a, a < 355 → W a) {N : Nat} : ∀ (n : Nat) (x1 : Int32) (x2 : Int32) (x3 : Int32) (μ : MM), P μ → fm_O P (f_Ro_spread_L24 N n x1 x2 x3 μ) := by
  intro n
  induction n with
  | zero => intros; exact fm_none
  | succ n ih =>
    intro x1 x2 x3 μ h0
    rw [f_Ro_spread_L24]
    exact fm_ite (fm_wr (hJ (hw _ (by first | omega | (simp only [inb, Bool.and_eq_true, decide_eq_true_eq] at *; omega))) h0) (fun μ1z hm1z => fr_Ro_spread_L57 hI hJ hF hw _ _ _ _ _ hm1z)) (fm_gd (fun g1 => fm_wr (hJ (hw _ (by first | omega | (simp only [inb, Bool.and_eq_true, decide_eq_true_eq] at *; omega))) h0) (fun μ4z hm4z => ih _ _ _ _ hm4z)))
set_option maxHeartbeats 1000000 in
theorem fr_Ro_spread {W : Nat → Prop} {P : MM → Prop} (hI : ∀ {μ : MM} {a k : Nat} {v : Int32}, W a → P μ → P (mm_I μ a k v)) (hJ : ∀ {μ : MM} {a k : Nat} {v : Int64}, W a → P μ → P (mm_J μ a k v)) (hF : ∀ {μ : MM} {a : Nat} {g : Nat → Int32}, W a → P μ → P (mm_F μ a g)) (hw : ∀ a, a < 355 → W a) {N : Nat} {x1 : Int32} {x2 : Int32} {μ : MM} (h0 : P μ) : fm_O P (f_Ro_spread N x1 x2 μ) := by
  unfold f_Ro_spread
  exact fm_ite (fm_some h0) (fm_ite (fm_some h0) (fm_ite (fm_some h0) (fm_ite (fr_Ro_spread_L24 hI hJ hF hw _ _ _ _ _ h0) (fm_some h0))))
set_option maxHeartbeats 1000000 in
theorem fr_Ro_partsUnhurt_B40 {W : Nat → Prop} {P : MM → Prop} (hI : ∀ {μ : MM} {a k : Nat} {v : Int32}, W a → P μ → P (mm_I μ a k v)) (hJ : ∀ {μ : MM} {a k : Nat} {v : Int64}, W a → P μ → P (mm_J μ a k v)) (hF : ∀ {μ : MM} {a : Nat} {g : Nat → Int32}, W a → P μ → P (mm_F μ a g)) (hw : ∀ a, a < 355 → W a) {N : Nat} {k20 : Int32 → Int64 → Int32 → MM → Option (Int64 × MM)} {x2 : Int32} {y3 : Int64} {x5 : Int32} {μ : MM} (hk20 : ∀ (z0 : Int32) (z1 : Int64) (z2 : Int32) (z3 : MM), P z3 → fm_O P (k20 z0 z1 z2 z3)) (h0 : P μ) : fm_O P (f_Ro_partsUnhurt_B40 N k20 x2 y3 x5 μ) := by
  unfold f_Ro_partsUnhurt_B40
  exact fm_gd (fun g1 => hk20 _ _ _ _ h0)
set_option maxHeartbeats 1000000 in
theorem fr_Ro_partsUnhurt_L20 {W : Nat → Prop} {P : MM → Prop} (hI : ∀ {μ : MM} {a k : Nat} {v : Int32}, W a → P μ → P (mm_I μ a k v)) (hJ : ∀ {μ : MM} {a k : Nat} {v : Int64}, W a → P μ → P (mm_J μ a k v)) (hF : ∀ {μ : MM} {a : Nat} {g : Nat → Int32}, W a → P μ → P (mm_F μ a g)) (hw : ∀ a, a < 355 → W a) {N : Nat} : ∀ (n : Nat) (x2 : Int32) (y3 : Int64) (x5 : Int32) (μ : MM), P μ → fm_O P (f_Ro_partsUnhurt_L20 N n x2 y3 x5 μ) := by
  intro n
  induction n with
  | zero => intros; exact fm_none
  | succ n ih =>
    intro x2 y3 x5 μ h0
    rw [f_Ro_partsUnhurt_L20]
    exact fm_ite (fm_some h0) (fm_ite (fr_Ro_partsUnhurt_B40 hI hJ hF hw (ih) h0) (fm_ite (fm_some h0) (fr_Ro_partsUnhurt_B40 hI hJ hF hw (ih) h0)))
set_option maxHeartbeats 1000000 in
theorem fr_Ro_partsUnhurt {W : Nat → Prop} {P : MM → Prop} (hI : ∀ {μ : MM} {a k : Nat} {v : Int32}, W a → P μ → P (mm_I μ a k v)) (hJ : ∀ {μ : MM} {a k : Nat} {v : Int64}, W a → P μ → P (mm_J μ a k v)) (hF : ∀ {μ : MM} {a : Nat} {g : Nat → Int32}, W a → P μ → P (mm_F μ a g)) (hw : ∀ a, a < 355 → W a) {N : Nat} {x1 : Int32} {μ : MM} (h0 : P μ) : fm_O P (f_Ro_partsUnhurt N x1 μ) := by
  unfold f_Ro_partsUnhurt
  exact fm_ob (fr_Wo_weakestInk hI hJ hF hw h0) (fun t11 μ1z hm1z => fr_Ro_partsUnhurt_L20 hI hJ hF hw _ _ _ _ _ hm1z)
set_option maxHeartbeats 1000000 in
theorem fr_Ro_odds {W : Nat → Prop} {P : MM → Prop} (hI : ∀ {μ : MM} {a k : Nat} {v : Int32}, W a → P μ → P (mm_I μ a k v)) (hJ : ∀ {μ : MM} {a k : Nat} {v : Int64}, W a → P μ → P (mm_J μ a k v)) (hF : ∀ {μ : MM} {a : Nat} {g : Nat → Int32}, W a → P μ → P (mm_F μ a g)) (hw : ∀ a, a < 355 → W a) {N : Nat} {x1 : Int32} {x2 : Int32} {x3 : Int32} {μ : MM} (h0 : P μ) : fm_O P (f_Ro_odds N x1 x2 x3 μ) := by
  unfold f_Ro_odds
  exact fm_ob (fr_Co_isCard hI hJ hF hw h0) (fun t5 μ1z hm1z => fm_ite (fm_some hm1z) (fm_ob (fr_Ro_spread hI hJ hF hw hm1z) (fun t14 μ2z hm2z => fm_ite (fm_some hm2z) (fm_ob (fr_Ro_partsUnhurt hI hJ hF hw hm2z) (fun t24 μ3z hm3z => fm_some hm3z)))))
set_option maxHeartbeats 1000000 in
theorem fr_Ro_rescue_L29 {W : Nat → Prop} {P : MM → Prop} (hI : ∀ {μ : MM} {a k : Nat} {v : Int32}, W a → P μ → P (mm_I μ a k v)) (hJ : ∀ {μ : MM} {a k : Nat} {v : Int64}, W a → P μ → P (mm_J μ a k v)) (hF : ∀ {μ : MM} {a : Nat} {g : Nat → Int32}, W a → P μ → P (mm_F μ a g)) (hw : ∀ a, a < 355 → W a) {N : Nat} : ∀ (n : Nat) (x3 : Int32) (y4 : Int64) (x6 : Int32) (μ : MM), P μ → fm_O P (f_Ro_rescue_L29 N n x3 y4 x6 μ) := by
  intro n
  induction n with
  | zero => intros; exact fm_none
  | succ n ih =>
    intro x3 y4 x6 μ h0
    rw [f_Ro_rescue_L29]
    exact fm_ite (fm_some h0) (fm_ob (fr_Ro_hasWordLeft hI hJ hF hw h0) (fun t44 μ3z hm3z => fm_ite (ih _ _ _ _ hm3z) (fm_ob (fr_Ro_partsUnhurt hI hJ hF hw hm3z) (fun t53 μ4z hm4z => fm_ite (ih _ _ _ _ hm4z) (fm_ite (ih _ _ _ _ hm4z) (ih _ _ _ _ hm4z))))))
set_option maxHeartbeats 1000000 in
theorem fr_Ro_rescue {W : Nat → Prop} {P : MM → Prop} (hI : ∀ {μ : MM} {a k : Nat} {v : Int32}, W a → P μ → P (mm_I μ a k v)) (hJ : ∀ {μ : MM} {a k : Nat} {v : Int64}, W a → P μ → P (mm_J μ a k v)) (hF : ∀ {μ : MM} {a : Nat} {g : Nat → Int32}, W a → P μ → P (mm_F μ a g)) (hw : ∀ a, a < 355 → W a) {N : Nat} {x1 : Int32} {x2 : Int32} {μ : MM} (h0 : P μ) : fm_O P (f_Ro_rescue N x1 x2 μ) := by
  unfold f_Ro_rescue
  exact fm_ob (fr_Co_isNone hI hJ hF hw h0) (fun t4 μ1z hm1z => fm_ite (fm_ob (fr_Ro_spread hI hJ hF hw hm1z) (fun t13 μ2z hm2z => fm_ite (fm_some hm2z) (fr_Ro_rescue_L29 hI hJ hF hw _ _ _ _ _ hm2z))) (fm_some hm1z))
set_option maxHeartbeats 1000000 in
theorem fr_Mo_thrown {W : Nat → Prop} {P : MM → Prop} (hI : ∀ {μ : MM} {a k : Nat} {v : Int32}, W a → P μ → P (mm_I μ a k v)) (hJ : ∀ {μ : MM} {a k : Nat} {v : Int64}, W a → P μ → P (mm_J μ a k v)) (hF : ∀ {μ : MM} {a : Nat} {g : Nat → Int32}, W a → P μ → P (mm_F μ a g)) (hw : ∀ a, 355 ≤ a → W a) {N : Nat} {μ : MM} (h0 : P μ) : fm_O P (f_Mo_thrown N μ) := by
  unfold f_Mo_thrown
  exact fm_some h0
set_option maxHeartbeats 1000000 in
theorem fr_Mo_isIn {W : Nat → Prop} {P : MM → Prop} (hI : ∀ {μ : MM} {a k : Nat} {v : Int32}, W a → P μ → P (mm_I μ a k v)) (hJ : ∀ {μ : MM} {a k : Nat} {v : Int64}, W a → P μ → P (mm_J μ a k v)) (hF : ∀ {μ : MM} {a : Nat} {g : Nat → Int32}, W a → P μ → P (mm_F μ a g)) (hw : ∀ a, 355 ≤ a → W a) {N : Nat} {y0 : Int64} {y2 : Int64} {y4 : Int64} {μ : MM} (h0 : P μ) : fm_O P (f_Mo_isIn N y0 y2 y4 μ) := by
  unfold f_Mo_isIn
  exact fm_ite (fm_some h0) (fm_ite (fm_some h0) (fm_some h0))
set_option maxHeartbeats 1000000 in
theorem fr_Mo_has {W : Nat → Prop} {P : MM → Prop} (hI : ∀ {μ : MM} {a k : Nat} {v : Int32}, W a → P μ → P (mm_I μ a k v)) (hJ : ∀ {μ : MM} {a k : Nat} {v : Int64}, W a → P μ → P (mm_J μ a k v)) (hF : ∀ {μ : MM} {a : Nat} {g : Nat → Int32}, W a → P μ → P (mm_F μ a g)) (hw : ∀ a, 355 ≤ a → W a) {N : Nat} {x0 : Int32} {x1 : Int32} {μ : MM} (h0 : P μ) : fm_O P (f_Mo_has N x0 x1 μ) := by
  unfold f_Mo_has
  exact fm_gd (fun g1 => fm_some h0)
set_option maxHeartbeats 1000000 in
theorem fr_Pr_checkIndex_8e157 {W : Nat → Prop} {P : MM → Prop} (hI : ∀ {μ : MM} {a k : Nat} {v : Int32}, W a → P μ → P (mm_I μ a k v)) (hJ : ∀ {μ : MM} {a k : Nat} {v : Int64}, W a → P μ → P (mm_J μ a k v)) (hF : ∀ {μ : MM} {a : Nat} {g : Nat → Int32}, W a → P μ → P (mm_F μ a g)) {N : Nat} {x0 : Int32} {x1 : Int32} {μ : MM} (h0 : P μ) : fm_O P (f_Pr_checkIndex_8e157 N x0 x1 μ) := by
  unfold f_Pr_checkIndex_8e157
  exact fm_ite (fm_none) (fm_ite (fm_some h0) (fm_none))
set_option maxHeartbeats 1000000 in
theorem fr_St_checkIndex_df160 {W : Nat → Prop} {P : MM → Prop} (hI : ∀ {μ : MM} {a k : Nat} {v : Int32}, W a → P μ → P (mm_I μ a k v)) (hJ : ∀ {μ : MM} {a k : Nat} {v : Int64}, W a → P μ → P (mm_J μ a k v)) (hF : ∀ {μ : MM} {a : Nat} {g : Nat → Int32}, W a → P μ → P (mm_F μ a g)) {N : Nat} {x0 : Int32} {x1 : Int32} {μ : MM} (h0 : P μ) : fm_V P (f_St_checkIndex_df160 N x0 x1 μ) := by
  unfold f_St_checkIndex_df160
  exact fm_obV (fr_Pr_checkIndex_8e157 hI hJ hF h0) (fun t5 μ1z hm1z => fm_someV hm1z)
set_option maxHeartbeats 1000000 in
theorem fr_Sl_charAt_3b067 {W : Nat → Prop} {P : MM → Prop} (hI : ∀ {μ : MM} {a k : Nat} {v : Int32}, W a → P μ → P (mm_I μ a k v)) (hJ : ∀ {μ : MM} {a k : Nat} {v : Int64}, W a → P μ → P (mm_J μ a k v)) (hF : ∀ {μ : MM} {a : Nat} {g : Nat → Int32}, W a → P μ → P (mm_F μ a g)) {N : Nat} {q0 : Nat} {x1 : Int32} {μ : MM} (h0 : P μ) : fm_O P (f_Sl_charAt_3b067 N q0 x1 μ) := by
  unfold f_Sl_charAt_3b067
  exact fm_obv (fr_St_checkIndex_df160 hI hJ hF h0) (fun μ1z hm1z => fm_gd (fun g1 => fm_some hm1z))
set_option maxHeartbeats 1000000 in
theorem fr_St_charAt_5068e {W : Nat → Prop} {P : MM → Prop} (hI : ∀ {μ : MM} {a k : Nat} {v : Int32}, W a → P μ → P (mm_I μ a k v)) (hJ : ∀ {μ : MM} {a k : Nat} {v : Int64}, W a → P μ → P (mm_J μ a k v)) (hF : ∀ {μ : MM} {a : Nat} {g : Nat → Int32}, W a → P μ → P (mm_F μ a g)) {N : Nat} {sx : Nat} {x1 : Int32} {μ : MM} (h0 : P μ) : fm_O P (f_St_charAt_5068e N sx x1 μ) := by
  unfold f_St_charAt_5068e
  exact fm_ob (fr_St_isLatin1_aae02 hI hJ hF h0) (fun t1 μ1z hm1z => fm_ite (fm_none) (fm_ob (fr_Sl_charAt_3b067 hI hJ hF hm1z) (fun t12 μ2z hm2z => fm_gd (fun g1 => fm_some hm2z))))
set_option maxHeartbeats 1000000 in
theorem fr_Mo_isAmong_L2 {W : Nat → Prop} {P : MM → Prop} (hI : ∀ {μ : MM} {a k : Nat} {v : Int32}, W a → P μ → P (mm_I μ a k v)) (hJ : ∀ {μ : MM} {a k : Nat} {v : Int64}, W a → P μ → P (mm_J μ a k v)) (hF : ∀ {μ : MM} {a : Nat} {g : Nat → Int32}, W a → P μ → P (mm_F μ a g)) (hw : ∀ a, 355 ≤ a → W a) {N : Nat} {q0 : Nat} : ∀ (n : Nat) (x1 : Int32) (x2 : Int32) (μ : MM), P μ → fm_O P (f_Mo_isAmong_L2 N q0 n x1 x2 μ) := by
  intro n
  induction n with
  | zero => intros; exact fm_none
  | succ n ih =>
    intro x1 x2 μ h0
    rw [f_Mo_isAmong_L2]
    exact fm_ob (fr_St_length_8abf5 hI hJ hF h0) (fun t4 μ1z hm1z => fm_ite (fm_some hm1z) (fm_ob (fr_St_charAt_5068e hI hJ hF hm1z) (fun t12 μ2z hm2z => fm_ite (fm_some hm2z) (ih _ _ _ hm2z))))
set_option maxHeartbeats 1000000 in
theorem fr_Mo_isAmong {W : Nat → Prop} {P : MM → Prop} (hI : ∀ {μ : MM} {a k : Nat} {v : Int32}, W a → P μ → P (mm_I μ a k v)) (hJ : ∀ {μ : MM} {a k : Nat} {v : Int64}, W a → P μ → P (mm_J μ a k v)) (hF : ∀ {μ : MM} {a : Nat} {g : Nat → Int32}, W a → P μ → P (mm_F μ a g)) (hw : ∀ a, 355 ≤ a → W a) {N : Nat} {q0 : Nat} {x1 : Int32} {μ : MM} (h0 : P μ) : fm_O P (f_Mo_isAmong N q0 x1 μ) := by
  unfold f_Mo_isAmong
  exact fr_Mo_isAmong_L2 hI hJ hF hw _ _ _ _ h0
set_option maxHeartbeats 1000000 in
theorem fr_Mo_bytesIn_L5 {W : Nat → Prop} {P : MM → Prop} (hI : ∀ {μ : MM} {a k : Nat} {v : Int32}, W a → P μ → P (mm_I μ a k v)) (hJ : ∀ {μ : MM} {a k : Nat} {v : Int64}, W a → P μ → P (mm_J μ a k v)) (hF : ∀ {μ : MM} {a : Nat} {g : Nat → Int32}, W a → P μ → P (mm_F μ a g)) (hw : ∀ a, 355 ≤ a → W a) {N : Nat} : ∀ (n : Nat) (x0 : Int32) (x1 : Int32) (x2 : Int32) (μ : MM), P μ → fm_O P (f_Mo_bytesIn_L5 N n x0 x1 x2 μ) := by
  intro n
  induction n with
  | zero => intros; exact fm_none
  | succ n ih =>
    intro x0 x1 x2 μ h0
    rw [f_Mo_bytesIn_L5]
    exact fm_ite (fm_some h0) (ih _ _ _ _ h0)
set_option maxHeartbeats 1000000 in
theorem fr_Mo_bytesIn {W : Nat → Prop} {P : MM → Prop} (hI : ∀ {μ : MM} {a k : Nat} {v : Int32}, W a → P μ → P (mm_I μ a k v)) (hJ : ∀ {μ : MM} {a k : Nat} {v : Int64}, W a → P μ → P (mm_J μ a k v)) (hF : ∀ {μ : MM} {a : Nat} {g : Nat → Int32}, W a → P μ → P (mm_F μ a g)) (hw : ∀ a, 355 ≤ a → W a) {N : Nat} {x0 : Int32} {μ : MM} (h0 : P μ) : fm_O P (f_Mo_bytesIn N x0 μ) := by
  unfold f_Mo_bytesIn
  exact fr_Mo_bytesIn_L5 hI hJ hF hw _ _ _ _ _ h0
set_option maxHeartbeats 1000000 in
theorem fr_Mo_put_L3 {W : Nat → Prop} {P : MM → Prop} (hI : ∀ {μ : MM} {a k : Nat} {v : Int32}, W a → P μ → P (mm_I μ a k v)) (hJ : ∀ {μ : MM} {a k : Nat} {v : Int64}, W a → P μ → P (mm_J μ a k v)) (hF : ∀ {μ : MM} {a : Nat} {g : Nat → Int32}, W a → P μ → P (mm_F μ a g)) (hw : ∀ a, 355 ≤ a → W a) {N : Nat} : ∀ (n : Nat) (x1 : Int32) (x2 : Int32) (μ : MM), P μ → fm_V P (f_Mo_put_L3 N n x1 x2 μ) := by
  intro n
  induction n with
  | zero => intros; exact fm_noneV
  | succ n ih =>
    intro x1 x2 μ h0
    rw [f_Mo_put_L3]
    exact fm_iteV (fm_someV h0) (fm_iteV (ih _ _ _ h0) (fm_gdV (fun g1 => fm_wrV (hI (hw _ (by first | omega | (simp only [inb, Bool.and_eq_true, decide_eq_true_eq] at *; omega))) h0) (fun μ1z hm1z => fm_wrV (hI (hw _ (by first | omega | (simp only [inb, Bool.and_eq_true, decide_eq_true_eq] at *; omega))) hm1z) (fun μ2z hm2z => ih _ _ _ hm2z)))))
set_option maxHeartbeats 1000000 in
theorem fr_Mo_put {W : Nat → Prop} {P : MM → Prop} (hI : ∀ {μ : MM} {a k : Nat} {v : Int32}, W a → P μ → P (mm_I μ a k v)) (hJ : ∀ {μ : MM} {a k : Nat} {v : Int64}, W a → P μ → P (mm_J μ a k v)) (hF : ∀ {μ : MM} {a : Nat} {g : Nat → Int32}, W a → P μ → P (mm_F μ a g)) (hw : ∀ a, 355 ≤ a → W a) {N : Nat} {x1 : Int32} {μ : MM} (h0 : P μ) : fm_V P (f_Mo_put N x1 μ) := by
  unfold f_Mo_put
  exact fr_Mo_put_L3 hI hJ hF hw _ _ _ _ h0
set_option maxHeartbeats 1000000 in
theorem fr_Mo_feed {W : Nat → Prop} {P : MM → Prop} (hI : ∀ {μ : MM} {a k : Nat} {v : Int32}, W a → P μ → P (mm_I μ a k v)) (hJ : ∀ {μ : MM} {a k : Nat} {v : Int64}, W a → P μ → P (mm_J μ a k v)) (hF : ∀ {μ : MM} {a : Nat} {g : Nat → Int32}, W a → P μ → P (mm_F μ a g)) (hw : ∀ a, 355 ≤ a → W a) {N : Nat} {x1 : Int32} {x2 : Int32} {x3 : Int32} {x4 : Int32} {x5 : Int32} {μ : MM} (h0 : P μ) : fm_O P (f_Mo_feed N x1 x2 x3 x4 x5 μ) := by
  unfold f_Mo_feed
  exact fm_wr (hI (hw _ (by first | omega | (simp only [inb, Bool.and_eq_true, decide_eq_true_eq] at *; omega))) h0) (fun μ1z hm1z => fm_ob (fr_Mo_bytesIn hI hJ hF hw hm1z) (fun t10 μ2z hm2z => fm_ob (fr_Mo_bytesIn hI hJ hF hw hm2z) (fun t15 μ3z hm3z => fm_ob (fr_Mo_bytesIn hI hJ hF hw hm3z) (fun t20 μ4z hm4z => fm_ob (fr_Mo_bytesIn hI hJ hF hw hm4z) (fun t26 μ5z hm5z => fm_ob (fr_Mo_bytesIn hI hJ hF hw hm5z) (fun t32 μ6z hm6z => fm_ite (fm_obv (fr_Mo_put hI hJ hF hw hm6z) (fun μ7z hm7z => fm_obv (fr_Mo_put hI hJ hF hw hm7z) (fun μ8z hm8z => fm_obv (fr_Mo_put hI hJ hF hw hm8z) (fun μ9z hm9z => fm_obv (fr_Mo_put hI hJ hF hw hm9z) (fun μ10z hm10z => fm_obv (fr_Mo_put hI hJ hF hw hm10z) (fun μ11z hm11z => fm_some hm11z)))))) (fm_some hm6z)))))))
set_option maxHeartbeats 1000000 in
theorem fr_Mo_end {W : Nat → Prop} {P : MM → Prop} (hI : ∀ {μ : MM} {a k : Nat} {v : Int32}, W a → P μ → P (mm_I μ a k v)) (hJ : ∀ {μ : MM} {a k : Nat} {v : Int64}, W a → P μ → P (mm_J μ a k v)) (hF : ∀ {μ : MM} {a : Nat} {g : Nat → Int32}, W a → P μ → P (mm_F μ a g)) (hw : ∀ a, 355 ≤ a → W a) {N : Nat} {x1 : Int32} {μ : MM} (h0 : P μ) : fm_O P (f_Mo_end N x1 μ) := by
  unfold f_Mo_end
  exact fm_wr (hI (hw _ (by first | omega | (simp only [inb, Bool.and_eq_true, decide_eq_true_eq] at *; omega))) h0) (fun μ1z hm1z => fm_ite (fm_some hm1z) (fm_ite (fm_wr (hI (hw _ (by first | omega | (simp only [inb, Bool.and_eq_true, decide_eq_true_eq] at *; omega))) hm1z) (fun μ2z hm2z => fm_some hm2z)) (fm_some hm1z)))
set_option maxHeartbeats 1000000 in
theorem fr_Mo_look_B43 {W : Nat → Prop} {P : MM → Prop} (hI : ∀ {μ : MM} {a k : Nat} {v : Int32}, W a → P μ → P (mm_I μ a k v)) (hJ : ∀ {μ : MM} {a k : Nat} {v : Int64}, W a → P μ → P (mm_J μ a k v)) (hF : ∀ {μ : MM} {a : Nat} {g : Nat → Int32}, W a → P μ → P (mm_F μ a g)) (hw : ∀ a, 355 ≤ a → W a) {N : Nat} {μ : MM} (h0 : P μ) : fm_O P (f_Mo_look_B43 N μ) := by
  unfold f_Mo_look_B43
  exact fm_ite (fm_some h0) (fm_gd (fun g1 => fm_gd (fun g2 => fm_some h0)))
set_option maxHeartbeats 1000000 in
theorem fr_Mo_look_L0 {W : Nat → Prop} {P : MM → Prop} (hI : ∀ {μ : MM} {a k : Nat} {v : Int32}, W a → P μ → P (mm_I μ a k v)) (hJ : ∀ {μ : MM} {a k : Nat} {v : Int64}, W a → P μ → P (mm_J μ a k v)) (hF : ∀ {μ : MM} {a : Nat} {g : Nat → Int32}, W a → P μ → P (mm_F μ a g)) (hw : ∀ a, 355 ≤ a → W a) {N : Nat} : ∀ (n : Nat) (μ : MM), P μ → fm_O P (f_Mo_look_L0 N n μ) := by
  intro n
  induction n with
  | zero => intros; exact fm_none
  | succ n ih =>
    intro μ h0
    rw [f_Mo_look_L0]
    exact fm_ite (fr_Mo_look_B43 hI hJ hF hw h0) (fm_gd (fun g1 => fm_gd (fun g2 => fm_ite (fm_wr (hI (hw _ (by first | omega | (simp only [inb, Bool.and_eq_true, decide_eq_true_eq] at *; omega))) h0) (fun μ1z hm1z => ih _ hm1z)) (fr_Mo_look_B43 hI hJ hF hw h0))))
set_option maxHeartbeats 1000000 in
theorem fr_Mo_look {W : Nat → Prop} {P : MM → Prop} (hI : ∀ {μ : MM} {a k : Nat} {v : Int32}, W a → P μ → P (mm_I μ a k v)) (hJ : ∀ {μ : MM} {a k : Nat} {v : Int64}, W a → P μ → P (mm_J μ a k v)) (hF : ∀ {μ : MM} {a : Nat} {g : Nat → Int32}, W a → P μ → P (mm_F μ a g)) (hw : ∀ a, 355 ≤ a → W a) {N : Nat} {μ : MM} (h0 : P μ) : fm_O P (f_Mo_look N μ) := by
  unfold f_Mo_look
  exact fr_Mo_look_L0 hI hJ hF hw _ _ h0
set_option maxHeartbeats 1000000 in
theorem fr_Mo_fails {W : Nat → Prop} {P : MM → Prop} (hI : ∀ {μ : MM} {a k : Nat} {v : Int32}, W a → P μ → P (mm_I μ a k v)) (hJ : ∀ {μ : MM} {a k : Nat} {v : Int64}, W a → P μ → P (mm_J μ a k v)) (hF : ∀ {μ : MM} {a : Nat} {g : Nat → Int32}, W a → P μ → P (mm_F μ a g)) (hw : ∀ a, 355 ≤ a → W a) {N : Nat} {μ : MM} (h0 : P μ) : fm_O P (f_Mo_fails N μ) := by
  unfold f_Mo_fails
  exact fm_ite (fm_wr (hI (hw _ (by first | omega | (simp only [inb, Bool.and_eq_true, decide_eq_true_eq] at *; omega))) h0) (fun μ1z hm1z => fm_some hm1z)) (fm_some h0)
set_option maxHeartbeats 1000000 in
theorem fr_Mo_goesIn {W : Nat → Prop} {P : MM → Prop} (hI : ∀ {μ : MM} {a k : Nat} {v : Int32}, W a → P μ → P (mm_I μ a k v)) (hJ : ∀ {μ : MM} {a k : Nat} {v : Int64}, W a → P μ → P (mm_J μ a k v)) (hF : ∀ {μ : MM} {a : Nat} {g : Nat → Int32}, W a → P μ → P (mm_F μ a g)) (hw : ∀ a, 355 ≤ a → W a) {N : Nat} {μ : MM} (h0 : P μ) : fm_O P (f_Mo_goesIn N μ) := by
  unfold f_Mo_goesIn
  exact fm_ite (fm_ob (fr_Mo_fails hI hJ hF hw h0) (fun t10 μ3z hm3z => fm_gd (fun g1 => fm_some hm3z))) (fm_wr (hI (hw _ (by first | omega | (simp only [inb, Bool.and_eq_true, decide_eq_true_eq] at *; omega))) h0) (fun μ1z hm1z => fm_wr (hI (hw _ (by first | omega | (simp only [inb, Bool.and_eq_true, decide_eq_true_eq] at *; omega))) hm1z) (fun μ2z hm2z => fm_some hm2z)))
set_option maxHeartbeats 1000000 in
theorem fr_Mo_takes_B16 {W : Nat → Prop} {P : MM → Prop} (hI : ∀ {μ : MM} {a k : Nat} {v : Int32}, W a → P μ → P (mm_I μ a k v)) (hJ : ∀ {μ : MM} {a k : Nat} {v : Int64}, W a → P μ → P (mm_J μ a k v)) (hF : ∀ {μ : MM} {a : Nat} {g : Nat → Int32}, W a → P μ → P (mm_F μ a g)) (hw : ∀ a, 355 ≤ a → W a) {N : Nat} {μ : MM} (h0 : P μ) : fm_O P (f_Mo_takes_B16 N μ) := by
  unfold f_Mo_takes_B16
  exact fm_ob (fr_Mo_fails hI hJ hF hw h0) (fun t17 μ1z hm1z => fm_gd (fun g1 => fm_some hm1z))
set_option maxHeartbeats 1000000 in
theorem fr_Mo_takes {W : Nat → Prop} {P : MM → Prop} (hI : ∀ {μ : MM} {a k : Nat} {v : Int32}, W a → P μ → P (mm_I μ a k v)) (hJ : ∀ {μ : MM} {a k : Nat} {v : Int64}, W a → P μ → P (mm_J μ a k v)) (hF : ∀ {μ : MM} {a : Nat} {g : Nat → Int32}, W a → P μ → P (mm_F μ a g)) (hw : ∀ a, 355 ≤ a → W a) {N : Nat} {x1 : Int32} {μ : MM} (h0 : P μ) : fm_O P (f_Mo_takes N x1 μ) := by
  unfold f_Mo_takes
  exact fm_ite (fm_ob (fr_Mo_look hI hJ hF hw h0) (fun t9 μ2z hm2z => fm_ite (fm_wr (hI (hw _ (by first | omega | (simp only [inb, Bool.and_eq_true, decide_eq_true_eq] at *; omega))) hm2z) (fun μ3z hm3z => fm_some hm3z)) (fr_Mo_takes_B16 hI hJ hF hw hm2z))) (fr_Mo_takes_B16 hI hJ hF hw h0)
set_option maxHeartbeats 1000000 in
theorem fr_Mo_isDigit {W : Nat → Prop} {P : MM → Prop} (hI : ∀ {μ : MM} {a k : Nat} {v : Int32}, W a → P μ → P (mm_I μ a k v)) (hJ : ∀ {μ : MM} {a k : Nat} {v : Int64}, W a → P μ → P (mm_J μ a k v)) (hF : ∀ {μ : MM} {a : Nat} {g : Nat → Int32}, W a → P μ → P (mm_F μ a g)) (hw : ∀ a, 355 ≤ a → W a) {N : Nat} {μ : MM} (h0 : P μ) : fm_O P (f_Mo_isDigit N μ) := by
  unfold f_Mo_isDigit
  exact fm_ite (fm_some h0) (fm_gd (fun g1 => fm_gd (fun g2 => fm_ite (fm_some h0) (fm_gd (fun g3 => fm_gd (fun g4 => fm_ite (fm_some h0) (fm_some h0)))))))
set_option maxHeartbeats 1000000 in
theorem fr_Mo_within {W : Nat → Prop} {P : MM → Prop} (hI : ∀ {μ : MM} {a k : Nat} {v : Int32}, W a → P μ → P (mm_I μ a k v)) (hJ : ∀ {μ : MM} {a k : Nat} {v : Int64}, W a → P μ → P (mm_J μ a k v)) (hF : ∀ {μ : MM} {a : Nat} {g : Nat → Int32}, W a → P μ → P (mm_F μ a g)) (hw : ∀ a, 355 ≤ a → W a) {N : Nat} {y0 : Int64} {μ : MM} (h0 : P μ) : fm_O P (f_Mo_within N y0 μ) := by
  unfold f_Mo_within
  exact fm_some h0
set_option maxHeartbeats 1000000 in
theorem fr_Mo_atom_L90 {W : Nat → Prop} {P : MM → Prop} (hI : ∀ {μ : MM} {a k : Nat} {v : Int32}, W a → P μ → P (mm_I μ a k v)) (hJ : ∀ {μ : MM} {a k : Nat} {v : Int64}, W a → P μ → P (mm_J μ a k v)) (hF : ∀ {μ : MM} {a : Nat} {g : Nat → Int32}, W a → P μ → P (mm_F μ a g)) (hw : ∀ a, 355 ≤ a → W a) {N : Nat} {rc_X12_atom : MM → Option (Int32 × MM)} {rc_X12_term : MM → Option (Int32 × MM)} {rc_X12_sum : MM → Option (Int32 × MM)} (hrc_X12_atom : ∀ (z0 : MM), P z0 → fm_O P (rc_X12_atom z0)) (hrc_X12_term : ∀ (z0 : MM), P z0 → fm_O P (rc_X12_term z0)) (hrc_X12_sum : ∀ (z0 : MM), P z0 → fm_O P (rc_X12_sum z0)) : ∀ (n : Nat) (x2 : Int32) (x3 : Int32) (μ : MM), P μ → fm_O P (f_Mo_atom_L90 N rc_X12_atom rc_X12_term rc_X12_sum n x2 x3 μ) := by
  intro n
  induction n with
  | zero => intros; exact fm_none
  | succ n ih =>
    intro x2 x3 μ h0
    rw [f_Mo_atom_L90]
    exact fm_ob (fr_Mo_isDigit hI hJ hF hw h0) (fun t91 μ4z hm4z => fm_ite (fm_some hm4z) (fm_ite (fm_ite (fm_ob (fr_Mo_fails hI hJ hF hw hm4z) (fun t111 μ6z hm6z => fm_some hm6z)) (fm_gd (fun g1 => fm_gd (fun g2 => fm_wr (hI (hw _ (by first | omega | (simp only [inb, Bool.and_eq_true, decide_eq_true_eq] at *; omega))) hm4z) (fun μ5z hm5z => ih _ _ _ hm5z))))) (fm_some hm4z)))
set_option maxHeartbeats 1000000 in
theorem fr_Mo_atom_body {W : Nat → Prop} {P : MM → Prop} (hI : ∀ {μ : MM} {a k : Nat} {v : Int32}, W a → P μ → P (mm_I μ a k v)) (hJ : ∀ {μ : MM} {a k : Nat} {v : Int64}, W a → P μ → P (mm_J μ a k v)) (hF : ∀ {μ : MM} {a : Nat} {g : Nat → Int32}, W a → P μ → P (mm_F μ a g)) (hw : ∀ a, 355 ≤ a → W a) {N : Nat} {rc_X12_atom : MM → Option (Int32 × MM)} {rc_X12_term : MM → Option (Int32 × MM)} {rc_X12_sum : MM → Option (Int32 × MM)} {μ : MM} (hrc_X12_atom : ∀ (z0 : MM), P z0 → fm_O P (rc_X12_atom z0)) (hrc_X12_term : ∀ (z0 : MM), P z0 → fm_O P (rc_X12_term z0)) (hrc_X12_sum : ∀ (z0 : MM), P z0 → fm_O P (rc_X12_sum z0)) (h0 : P μ) : fm_O P (f_Mo_atom_body N rc_X12_atom rc_X12_term rc_X12_sum μ) := by
  unfold f_Mo_atom_body
  exact fm_ob (fr_Mo_look hI hJ hF hw h0) (fun t1 μ1z hm1z => fm_ob (fr_Mo_isAmong hI hJ hF hw hm1z) (fun t8 μ2z hm2z => fm_ite (fm_ite (fm_ob (fr_Mo_goesIn hI hJ hF hw hm2z) (fun t38 μ8z hm8z => fm_ite (fm_some hm8z) (fm_ob (hrc_X12_sum _ hm8z) (fun t47 μ9z hm9z => fm_ob (fr_Mo_takes hI hJ hF hw hm9z) (fun t54 μ10z hm10z => fm_ite (fm_some hm10z) (fm_wr (hI (hw _ (by first | omega | (simp only [inb, Bool.and_eq_true, decide_eq_true_eq] at *; omega))) hm10z) (fun μ11z hm11z => fm_some hm11z))))))) (fm_ob (fr_Mo_isDigit hI hJ hF hw hm2z) (fun t75 μ3z hm3z => fm_ite (fm_ob (fr_Mo_fails hI hJ hF hw hm3z) (fun t82 μ7z hm7z => fr_Mo_atom_L90 hI hJ hF hw (hrc_X12_atom) (hrc_X12_term) (hrc_X12_sum) _ _ _ _ hm7z)) (fr_Mo_atom_L90 hI hJ hF hw (hrc_X12_atom) (hrc_X12_term) (hrc_X12_sum) _ _ _ _ hm3z)))) (fm_wr (hI (hw _ (by first | omega | (simp only [inb, Bool.and_eq_true, decide_eq_true_eq] at *; omega))) hm2z) (fun μ12z hm12z => fm_gd (fun g1 => fm_some hm12z)))))
set_option maxHeartbeats 1000000 in
theorem fr_Mo_term_B87 {W : Nat → Prop} {P : MM → Prop} (hI : ∀ {μ : MM} {a k : Nat} {v : Int32}, W a → P μ → P (mm_I μ a k v)) (hJ : ∀ {μ : MM} {a k : Nat} {v : Int64}, W a → P μ → P (mm_J μ a k v)) (hF : ∀ {μ : MM} {a : Nat} {g : Nat → Int32}, W a → P μ → P (mm_F μ a g)) (hw : ∀ a, 355 ≤ a → W a) {N : Nat} {rc_X12_atom : MM → Option (Int32 × MM)} {rc_X12_term : MM → Option (Int32 × MM)} {rc_X12_sum : MM → Option (Int32 × MM)} {k5 : Int32 → MM → Option (Int32 × MM)} {s0 : Int64} {μ : MM} (hrc_X12_atom : ∀ (z0 : MM), P z0 → fm_O P (rc_X12_atom z0)) (hrc_X12_term : ∀ (z0 : MM), P z0 → fm_O P (rc_X12_term z0)) (hrc_X12_sum : ∀ (z0 : MM), P z0 → fm_O P (rc_X12_sum z0)) (hk5 : ∀ (z0 : Int32) (z1 : MM), P z1 → fm_O P (k5 z0 z1)) (h0 : P μ) : fm_O P (f_Mo_term_B87 N rc_X12_atom rc_X12_term rc_X12_sum k5 s0 μ) := by
  unfold f_Mo_term_B87
  exact fm_ob (fr_Mo_within hI hJ hF hw h0) (fun t87 μ6z hm6z => hk5 _ _ hm6z)
set_option maxHeartbeats 1000000 in
theorem fr_Mo_term_B45 {W : Nat → Prop} {P : MM → Prop} (hI : ∀ {μ : MM} {a k : Nat} {v : Int32}, W a → P μ → P (mm_I μ a k v)) (hJ : ∀ {μ : MM} {a k : Nat} {v : Int64}, W a → P μ → P (mm_J μ a k v)) (hF : ∀ {μ : MM} {a : Nat} {g : Nat → Int32}, W a → P μ → P (mm_F μ a g)) (hw : ∀ a, 355 ≤ a → W a) {N : Nat} {rc_X12_atom : MM → Option (Int32 × MM)} {rc_X12_term : MM → Option (Int32 × MM)} {rc_X12_sum : MM → Option (Int32 × MM)} {k5 : Int32 → MM → Option (Int32 × MM)} {x1 : Int32} {s0 : Int32} {μ : MM} (hrc_X12_atom : ∀ (z0 : MM), P z0 → fm_O P (rc_X12_atom z0)) (hrc_X12_term : ∀ (z0 : MM), P z0 → fm_O P (rc_X12_term z0)) (hrc_X12_sum : ∀ (z0 : MM), P z0 → fm_O P (rc_X12_sum z0)) (hk5 : ∀ (z0 : Int32) (z1 : MM), P z1 → fm_O P (k5 z0 z1)) (h0 : P μ) : fm_O P (f_Mo_term_B45 N rc_X12_atom rc_X12_term rc_X12_sum k5 x1 s0 μ) := by
  unfold f_Mo_term_B45
  exact fm_wr (hI (hw _ (by first | omega | (simp only [inb, Bool.and_eq_true, decide_eq_true_eq] at *; omega))) h0) (fun μ4z hm4z => fm_ob (hrc_X12_atom _ hm4z) (fun t57 μ5z hm5z => fm_ite (fm_ite (fr_Mo_term_B87 hI hJ hF hw (hrc_X12_atom) (hrc_X12_term) (hrc_X12_sum) (hk5) hm5z) (fm_gd (fun g1 => fr_Mo_term_B87 hI hJ hF hw (hrc_X12_atom) (hrc_X12_term) (hrc_X12_sum) (hk5) hm5z))) (fr_Mo_term_B87 hI hJ hF hw (hrc_X12_atom) (hrc_X12_term) (hrc_X12_sum) (hk5) hm5z)))
set_option maxHeartbeats 1000000 in
theorem fr_Mo_term_B31 {W : Nat → Prop} {P : MM → Prop} (hI : ∀ {μ : MM} {a k : Nat} {v : Int32}, W a → P μ → P (mm_I μ a k v)) (hJ : ∀ {μ : MM} {a k : Nat} {v : Int64}, W a → P μ → P (mm_J μ a k v)) (hF : ∀ {μ : MM} {a : Nat} {g : Nat → Int32}, W a → P μ → P (mm_F μ a g)) (hw : ∀ a, 355 ≤ a → W a) {N : Nat} {rc_X12_atom : MM → Option (Int32 × MM)} {rc_X12_term : MM → Option (Int32 × MM)} {rc_X12_sum : MM → Option (Int32 × MM)} {k5 : Int32 → MM → Option (Int32 × MM)} {x1 : Int32} {μ : MM} (hrc_X12_atom : ∀ (z0 : MM), P z0 → fm_O P (rc_X12_atom z0)) (hrc_X12_term : ∀ (z0 : MM), P z0 → fm_O P (rc_X12_term z0)) (hrc_X12_sum : ∀ (z0 : MM), P z0 → fm_O P (rc_X12_sum z0)) (hk5 : ∀ (z0 : Int32) (z1 : MM), P z1 → fm_O P (k5 z0 z1)) (h0 : P μ) : fm_O P (f_Mo_term_B31 N rc_X12_atom rc_X12_term rc_X12_sum k5 x1 μ) := by
  unfold f_Mo_term_B31
  exact fm_ob (fr_Mo_look hI hJ hF hw h0) (fun t32 μ3z hm3z => fr_Mo_term_B45 hI hJ hF hw (hrc_X12_atom) (hrc_X12_term) (hrc_X12_sum) (hk5) hm3z)
set_option maxHeartbeats 1000000 in
theorem fr_Mo_term_L5 {W : Nat → Prop} {P : MM → Prop} (hI : ∀ {μ : MM} {a k : Nat} {v : Int32}, W a → P μ → P (mm_I μ a k v)) (hJ : ∀ {μ : MM} {a k : Nat} {v : Int64}, W a → P μ → P (mm_J μ a k v)) (hF : ∀ {μ : MM} {a : Nat} {g : Nat → Int32}, W a → P μ → P (mm_F μ a g)) (hw : ∀ a, 355 ≤ a → W a) {N : Nat} {rc_X12_atom : MM → Option (Int32 × MM)} {rc_X12_term : MM → Option (Int32 × MM)} {rc_X12_sum : MM → Option (Int32 × MM)} (hrc_X12_atom : ∀ (z0 : MM), P z0 → fm_O P (rc_X12_atom z0)) (hrc_X12_term : ∀ (z0 : MM), P z0 → fm_O P (rc_X12_term z0)) (hrc_X12_sum : ∀ (z0 : MM), P z0 → fm_O P (rc_X12_sum z0)) : ∀ (n : Nat) (x1 : Int32) (μ : MM), P μ → fm_O P (f_Mo_term_L5 N rc_X12_atom rc_X12_term rc_X12_sum n x1 μ) := by
  intro n
  induction n with
  | zero => intros; exact fm_none
  | succ n ih =>
    intro x1 μ h0
    rw [f_Mo_term_L5]
    exact fm_ite (fm_ob (fr_Mo_look hI hJ hF hw h0) (fun t14 μ2z hm2z => fm_ite (fr_Mo_term_B31 hI hJ hF hw (hrc_X12_atom) (hrc_X12_term) (hrc_X12_sum) (ih) hm2z) (fm_ob (fr_Mo_look hI hJ hF hw hm2z) (fun t23 μ7z hm7z => fm_ite (fr_Mo_term_B31 hI hJ hF hw (hrc_X12_atom) (hrc_X12_term) (hrc_X12_sum) (ih) hm7z) (fm_some hm7z))))) (fm_some h0)
set_option maxHeartbeats 1000000 in
theorem fr_Mo_term_body {W : Nat → Prop} {P : MM → Prop} (hI : ∀ {μ : MM} {a k : Nat} {v : Int32}, W a → P μ → P (mm_I μ a k v)) (hJ : ∀ {μ : MM} {a k : Nat} {v : Int64}, W a → P μ → P (mm_J μ a k v)) (hF : ∀ {μ : MM} {a : Nat} {g : Nat → Int32}, W a → P μ → P (mm_F μ a g)) (hw : ∀ a, 355 ≤ a → W a) {N : Nat} {rc_X12_atom : MM → Option (Int32 × MM)} {rc_X12_term : MM → Option (Int32 × MM)} {rc_X12_sum : MM → Option (Int32 × MM)} {μ : MM} (hrc_X12_atom : ∀ (z0 : MM), P z0 → fm_O P (rc_X12_atom z0)) (hrc_X12_term : ∀ (z0 : MM), P z0 → fm_O P (rc_X12_term z0)) (hrc_X12_sum : ∀ (z0 : MM), P z0 → fm_O P (rc_X12_sum z0)) (h0 : P μ) : fm_O P (f_Mo_term_body N rc_X12_atom rc_X12_term rc_X12_sum μ) := by
  unfold f_Mo_term_body
  exact fm_ob (hrc_X12_atom _ h0) (fun t1 μ1z hm1z => fr_Mo_term_L5 hI hJ hF hw (hrc_X12_atom) (hrc_X12_term) (hrc_X12_sum) _ _ _ hm1z)
set_option maxHeartbeats 1000000 in
theorem fr_Mo_sum_B77 {W : Nat → Prop} {P : MM → Prop} (hI : ∀ {μ : MM} {a k : Nat} {v : Int32}, W a → P μ → P (mm_I μ a k v)) (hJ : ∀ {μ : MM} {a k : Nat} {v : Int64}, W a → P μ → P (mm_J μ a k v)) (hF : ∀ {μ : MM} {a : Nat} {g : Nat → Int32}, W a → P μ → P (mm_F μ a g)) (hw : ∀ a, 355 ≤ a → W a) {N : Nat} {rc_X12_atom : MM → Option (Int32 × MM)} {rc_X12_term : MM → Option (Int32 × MM)} {rc_X12_sum : MM → Option (Int32 × MM)} {k5 : Int32 → MM → Option (Int32 × MM)} {s0 : Int64} {μ : MM} (hrc_X12_atom : ∀ (z0 : MM), P z0 → fm_O P (rc_X12_atom z0)) (hrc_X12_term : ∀ (z0 : MM), P z0 → fm_O P (rc_X12_term z0)) (hrc_X12_sum : ∀ (z0 : MM), P z0 → fm_O P (rc_X12_sum z0)) (hk5 : ∀ (z0 : Int32) (z1 : MM), P z1 → fm_O P (k5 z0 z1)) (h0 : P μ) : fm_O P (f_Mo_sum_B77 N rc_X12_atom rc_X12_term rc_X12_sum k5 s0 μ) := by
  unfold f_Mo_sum_B77
  exact fm_ob (fr_Mo_within hI hJ hF hw h0) (fun t77 μ6z hm6z => hk5 _ _ hm6z)
set_option maxHeartbeats 1000000 in
theorem fr_Mo_sum_B45 {W : Nat → Prop} {P : MM → Prop} (hI : ∀ {μ : MM} {a k : Nat} {v : Int32}, W a → P μ → P (mm_I μ a k v)) (hJ : ∀ {μ : MM} {a k : Nat} {v : Int64}, W a → P μ → P (mm_J μ a k v)) (hF : ∀ {μ : MM} {a : Nat} {g : Nat → Int32}, W a → P μ → P (mm_F μ a g)) (hw : ∀ a, 355 ≤ a → W a) {N : Nat} {rc_X12_atom : MM → Option (Int32 × MM)} {rc_X12_term : MM → Option (Int32 × MM)} {rc_X12_sum : MM → Option (Int32 × MM)} {k5 : Int32 → MM → Option (Int32 × MM)} {x1 : Int32} {s0 : Int32} {μ : MM} (hrc_X12_atom : ∀ (z0 : MM), P z0 → fm_O P (rc_X12_atom z0)) (hrc_X12_term : ∀ (z0 : MM), P z0 → fm_O P (rc_X12_term z0)) (hrc_X12_sum : ∀ (z0 : MM), P z0 → fm_O P (rc_X12_sum z0)) (hk5 : ∀ (z0 : Int32) (z1 : MM), P z1 → fm_O P (k5 z0 z1)) (h0 : P μ) : fm_O P (f_Mo_sum_B45 N rc_X12_atom rc_X12_term rc_X12_sum k5 x1 s0 μ) := by
  unfold f_Mo_sum_B45
  exact fm_wr (hI (hw _ (by first | omega | (simp only [inb, Bool.and_eq_true, decide_eq_true_eq] at *; omega))) h0) (fun μ4z hm4z => fm_ob (hrc_X12_term _ hm4z) (fun t57 μ5z hm5z => fr_Mo_sum_B77 hI hJ hF hw (hrc_X12_atom) (hrc_X12_term) (hrc_X12_sum) (hk5) hm5z))
set_option maxHeartbeats 1000000 in
theorem fr_Mo_sum_B31 {W : Nat → Prop} {P : MM → Prop} (hI : ∀ {μ : MM} {a k : Nat} {v : Int32}, W a → P μ → P (mm_I μ a k v)) (hJ : ∀ {μ : MM} {a k : Nat} {v : Int64}, W a → P μ → P (mm_J μ a k v)) (hF : ∀ {μ : MM} {a : Nat} {g : Nat → Int32}, W a → P μ → P (mm_F μ a g)) (hw : ∀ a, 355 ≤ a → W a) {N : Nat} {rc_X12_atom : MM → Option (Int32 × MM)} {rc_X12_term : MM → Option (Int32 × MM)} {rc_X12_sum : MM → Option (Int32 × MM)} {k5 : Int32 → MM → Option (Int32 × MM)} {x1 : Int32} {μ : MM} (hrc_X12_atom : ∀ (z0 : MM), P z0 → fm_O P (rc_X12_atom z0)) (hrc_X12_term : ∀ (z0 : MM), P z0 → fm_O P (rc_X12_term z0)) (hrc_X12_sum : ∀ (z0 : MM), P z0 → fm_O P (rc_X12_sum z0)) (hk5 : ∀ (z0 : Int32) (z1 : MM), P z1 → fm_O P (k5 z0 z1)) (h0 : P μ) : fm_O P (f_Mo_sum_B31 N rc_X12_atom rc_X12_term rc_X12_sum k5 x1 μ) := by
  unfold f_Mo_sum_B31
  exact fm_ob (fr_Mo_look hI hJ hF hw h0) (fun t32 μ3z hm3z => fr_Mo_sum_B45 hI hJ hF hw (hrc_X12_atom) (hrc_X12_term) (hrc_X12_sum) (hk5) hm3z)
set_option maxHeartbeats 1000000 in
theorem fr_Mo_sum_L5 {W : Nat → Prop} {P : MM → Prop} (hI : ∀ {μ : MM} {a k : Nat} {v : Int32}, W a → P μ → P (mm_I μ a k v)) (hJ : ∀ {μ : MM} {a k : Nat} {v : Int64}, W a → P μ → P (mm_J μ a k v)) (hF : ∀ {μ : MM} {a : Nat} {g : Nat → Int32}, W a → P μ → P (mm_F μ a g)) (hw : ∀ a, 355 ≤ a → W a) {N : Nat} {rc_X12_atom : MM → Option (Int32 × MM)} {rc_X12_term : MM → Option (Int32 × MM)} {rc_X12_sum : MM → Option (Int32 × MM)} (hrc_X12_atom : ∀ (z0 : MM), P z0 → fm_O P (rc_X12_atom z0)) (hrc_X12_term : ∀ (z0 : MM), P z0 → fm_O P (rc_X12_term z0)) (hrc_X12_sum : ∀ (z0 : MM), P z0 → fm_O P (rc_X12_sum z0)) : ∀ (n : Nat) (x1 : Int32) (μ : MM), P μ → fm_O P (f_Mo_sum_L5 N rc_X12_atom rc_X12_term rc_X12_sum n x1 μ) := by
  intro n
  induction n with
  | zero => intros; exact fm_none
  | succ n ih =>
    intro x1 μ h0
    rw [f_Mo_sum_L5]
    exact fm_ite (fm_ob (fr_Mo_look hI hJ hF hw h0) (fun t14 μ2z hm2z => fm_ite (fr_Mo_sum_B31 hI hJ hF hw (hrc_X12_atom) (hrc_X12_term) (hrc_X12_sum) (ih) hm2z) (fm_ob (fr_Mo_look hI hJ hF hw hm2z) (fun t23 μ7z hm7z => fm_ite (fr_Mo_sum_B31 hI hJ hF hw (hrc_X12_atom) (hrc_X12_term) (hrc_X12_sum) (ih) hm7z) (fm_some hm7z))))) (fm_some h0)
set_option maxHeartbeats 1000000 in
theorem fr_Mo_sum_body {W : Nat → Prop} {P : MM → Prop} (hI : ∀ {μ : MM} {a k : Nat} {v : Int32}, W a → P μ → P (mm_I μ a k v)) (hJ : ∀ {μ : MM} {a k : Nat} {v : Int64}, W a → P μ → P (mm_J μ a k v)) (hF : ∀ {μ : MM} {a : Nat} {g : Nat → Int32}, W a → P μ → P (mm_F μ a g)) (hw : ∀ a, 355 ≤ a → W a) {N : Nat} {rc_X12_atom : MM → Option (Int32 × MM)} {rc_X12_term : MM → Option (Int32 × MM)} {rc_X12_sum : MM → Option (Int32 × MM)} {μ : MM} (hrc_X12_atom : ∀ (z0 : MM), P z0 → fm_O P (rc_X12_atom z0)) (hrc_X12_term : ∀ (z0 : MM), P z0 → fm_O P (rc_X12_term z0)) (hrc_X12_sum : ∀ (z0 : MM), P z0 → fm_O P (rc_X12_sum z0)) (h0 : P μ) : fm_O P (f_Mo_sum_body N rc_X12_atom rc_X12_term rc_X12_sum μ) := by
  unfold f_Mo_sum_body
  exact fm_ob (hrc_X12_term _ h0) (fun t1 μ1z hm1z => fr_Mo_sum_L5 hI hJ hF hw (hrc_X12_atom) (hrc_X12_term) (hrc_X12_sum) _ _ _ hm1z)
set_option maxHeartbeats 1000000 in
theorem fr_cl_Mo_atom {W : Nat → Prop} {P : MM → Prop} (hI : ∀ {μ : MM} {a k : Nat} {v : Int32}, W a → P μ → P (mm_I μ a k v)) (hJ : ∀ {μ : MM} {a k : Nat} {v : Int64}, W a → P μ → P (mm_J μ a k v)) (hF : ∀ {μ : MM} {a : Nat} {g : Nat → Int32}, W a → P μ → P (mm_F μ a g)) (hw : ∀ a, 355 ≤ a → W a) {N : Nat} : ∀ (t : Nat) (g : Nat) (u : Unit) (μ : MM), P μ → fm_O P (f_cl_Mo_atom N t g u μ) := by
  intro t
  induction t with
  | zero => intros; exact fm_none
  | succ t ih =>
    intro g u μ h0
    rw [f_cl_Mo_atom]
    exact fm_ite (fr_Mo_atom_body hI hJ hF hw (fun  _ h9 => ih _ _ _ h9) (fun  _ h9 => ih _ _ _ h9) (fun  _ h9 => ih _ _ _ h9) h0) (fm_ite (fr_Mo_term_body hI hJ hF hw (fun  _ h9 => ih _ _ _ h9) (fun  _ h9 => ih _ _ _ h9) (fun  _ h9 => ih _ _ _ h9) h0) (fr_Mo_sum_body hI hJ hF hw (fun  _ h9 => ih _ _ _ h9) (fun  _ h9 => ih _ _ _ h9) (fun  _ h9 => ih _ _ _ h9) h0))
set_option maxHeartbeats 1000000 in
theorem fr_Mo_atom {W : Nat → Prop} {P : MM → Prop} (hI : ∀ {μ : MM} {a k : Nat} {v : Int32}, W a → P μ → P (mm_I μ a k v)) (hJ : ∀ {μ : MM} {a k : Nat} {v : Int64}, W a → P μ → P (mm_J μ a k v)) (hF : ∀ {μ : MM} {a : Nat} {g : Nat → Int32}, W a → P μ → P (mm_F μ a g)) (hw : ∀ a, 355 ≤ a → W a) {N : Nat} {μ : MM} (h0 : P μ) : fm_O P (f_Mo_atom N μ) := by
  unfold f_Mo_atom
  exact fr_cl_Mo_atom hI hJ hF hw _ _ _ _ h0
set_option maxHeartbeats 1000000 in
theorem fr_Mo_term {W : Nat → Prop} {P : MM → Prop} (hI : ∀ {μ : MM} {a k : Nat} {v : Int32}, W a → P μ → P (mm_I μ a k v)) (hJ : ∀ {μ : MM} {a k : Nat} {v : Int64}, W a → P μ → P (mm_J μ a k v)) (hF : ∀ {μ : MM} {a : Nat} {g : Nat → Int32}, W a → P μ → P (mm_F μ a g)) (hw : ∀ a, 355 ≤ a → W a) {N : Nat} {μ : MM} (h0 : P μ) : fm_O P (f_Mo_term N μ) := by
  unfold f_Mo_term
  exact fr_cl_Mo_atom hI hJ hF hw _ _ _ _ h0
set_option maxHeartbeats 1000000 in
theorem fr_Mo_sum {W : Nat → Prop} {P : MM → Prop} (hI : ∀ {μ : MM} {a k : Nat} {v : Int32}, W a → P μ → P (mm_I μ a k v)) (hJ : ∀ {μ : MM} {a k : Nat} {v : Int64}, W a → P μ → P (mm_J μ a k v)) (hF : ∀ {μ : MM} {a : Nat} {g : Nat → Int32}, W a → P μ → P (mm_F μ a g)) (hw : ∀ a, 355 ≤ a → W a) {N : Nat} {μ : MM} (h0 : P μ) : fm_O P (f_Mo_sum N μ) := by
  unfold f_Mo_sum
  exact fr_cl_Mo_atom hI hJ hF hw _ _ _ _ h0
set_option maxHeartbeats 1000000 in
theorem fr_Mo_isSign {W : Nat → Prop} {P : MM → Prop} (hI : ∀ {μ : MM} {a k : Nat} {v : Int32}, W a → P μ → P (mm_I μ a k v)) (hJ : ∀ {μ : MM} {a k : Nat} {v : Int64}, W a → P μ → P (mm_J μ a k v)) (hF : ∀ {μ : MM} {a : Nat} {g : Nat → Int32}, W a → P μ → P (mm_F μ a g)) (hw : ∀ a, 355 ≤ a → W a) {N : Nat} {x0 : Int32} {μ : MM} (h0 : P μ) : fm_O P (f_Mo_isSign N x0 μ) := by
  unfold f_Mo_isSign
  exact fm_ite (fm_some h0) (fm_ite (fm_some h0) (fm_ite (fm_some h0) (fm_some h0)))
set_option maxHeartbeats 1000000 in
theorem fr_Mo_compares_B12 {W : Nat → Prop} {P : MM → Prop} (hI : ∀ {μ : MM} {a k : Nat} {v : Int32}, W a → P μ → P (mm_I μ a k v)) (hJ : ∀ {μ : MM} {a k : Nat} {v : Int64}, W a → P μ → P (mm_J μ a k v)) (hF : ∀ {μ : MM} {a : Nat} {g : Nat → Int32}, W a → P μ → P (mm_F μ a g)) (hw : ∀ a, 355 ≤ a → W a) {N : Nat} {s0 : Int32} {μ : MM} (h0 : P μ) : fm_O P (f_Mo_compares_B12 N s0 μ) := by
  unfold f_Mo_compares_B12
  exact fm_ite (fm_ob (fr_Mo_look hI hJ hF hw h0) (fun t24 μ2z hm2z => fm_ob (fr_Mo_isSign hI hJ hF hw hm2z) (fun t31 μ3z hm3z => fm_ite (fm_ob (fr_Mo_fails hI hJ hF hw hm3z) (fun t38 μ6z hm6z => fm_gd (fun g1 => fm_some hm6z))) (fm_wr (hI (hw _ (by first | omega | (simp only [inb, Bool.and_eq_true, decide_eq_true_eq] at *; omega))) hm3z) (fun μ4z hm4z => fm_ob (fr_Mo_sum hI hJ hF hw hm4z) (fun t53 μ5z hm5z => fm_gd (fun g2 => fm_some hm5z))))))) (fm_some h0)
set_option maxHeartbeats 1000000 in
theorem fr_Mo_compares {W : Nat → Prop} {P : MM → Prop} (hI : ∀ {μ : MM} {a k : Nat} {v : Int32}, W a → P μ → P (mm_I μ a k v)) (hJ : ∀ {μ : MM} {a k : Nat} {v : Int64}, W a → P μ → P (mm_J μ a k v)) (hF : ∀ {μ : MM} {a : Nat} {g : Nat → Int32}, W a → P μ → P (mm_F μ a g)) (hw : ∀ a, 355 ≤ a → W a) {N : Nat} {x1 : Int32} {x2 : Int32} {μ : MM} (h0 : P μ) : fm_O P (f_Mo_compares N x1 x2 μ) := by
  unfold f_Mo_compares
  exact fm_ite (fm_ob (fr_Mo_sum hI hJ hF hw h0) (fun t9 μ1z hm1z => fr_Mo_compares_B12 hI hJ hF hw hm1z)) (fr_Mo_compares_B12 hI hJ hF hw h0)
set_option maxHeartbeats 1000000 in
theorem fr_Mo_unit_body {W : Nat → Prop} {P : MM → Prop} (hI : ∀ {μ : MM} {a k : Nat} {v : Int32}, W a → P μ → P (mm_I μ a k v)) (hJ : ∀ {μ : MM} {a k : Nat} {v : Int64}, W a → P μ → P (mm_J μ a k v)) (hF : ∀ {μ : MM} {a : Nat} {g : Nat → Int32}, W a → P μ → P (mm_F μ a g)) (hw : ∀ a, 355 ≤ a → W a) {N : Nat} {rc_X12_unit : MM → Option (Int32 × MM)} {rc_X12_part : Int32 → Int32 → MM → Option (Int32 × MM)} {rc_X12_condition : Int32 → Int32 → MM → Option (Int32 × MM)} {μ : MM} (hrc_X12_unit : ∀ (z0 : MM), P z0 → fm_O P (rc_X12_unit z0)) (hrc_X12_part : ∀ (z0 : Int32) (z1 : Int32) (z2 : MM), P z2 → fm_O P (rc_X12_part z0 z1 z2)) (hrc_X12_condition : ∀ (z0 : Int32) (z1 : Int32) (z2 : MM), P z2 → fm_O P (rc_X12_condition z0 z1 z2)) (h0 : P μ) : fm_O P (f_Mo_unit_body N rc_X12_unit rc_X12_part rc_X12_condition μ) := by
  unfold f_Mo_unit_body
  exact fm_ob (fr_Mo_look hI hJ hF hw h0) (fun t1 μ1z hm1z => fm_ite (fm_ob (fr_Mo_goesIn hI hJ hF hw hm1z) (fun t12 μ7z hm7z => fm_ite (fm_some hm7z) (fm_ob (hrc_X12_unit _ hm7z) (fun t21 μ8z hm8z => fm_wr (hI (hw _ (by first | omega | (simp only [inb, Bool.and_eq_true, decide_eq_true_eq] at *; omega))) hm8z) (fun μ9z hm9z => fm_gd (fun g1 => fm_some hm9z)))))) (fm_ite (fm_ob (fr_Mo_goesIn hI hJ hF hw hm1z) (fun t52 μ3z hm3z => fm_ite (fm_some hm3z) (fm_ob (hrc_X12_condition _ _ _ hm3z) (fun t63 μ4z hm4z => fm_ob (fr_Mo_takes hI hJ hF hw hm4z) (fun t70 μ5z hm5z => fm_ite (fm_some hm5z) (fm_wr (hI (hw _ (by first | omega | (simp only [inb, Bool.and_eq_true, decide_eq_true_eq] at *; omega))) hm5z) (fun μ6z hm6z => fm_gd (fun g2 => fm_some hm6z)))))))) (fm_ob (fr_Mo_compares hI hJ hF hw hm1z) (fun t93 μ2z hm2z => fm_gd (fun g3 => fm_some hm2z)))))
set_option maxHeartbeats 1000000 in
theorem fr_Mo_part_L18 {W : Nat → Prop} {P : MM → Prop} (hI : ∀ {μ : MM} {a k : Nat} {v : Int32}, W a → P μ → P (mm_I μ a k v)) (hJ : ∀ {μ : MM} {a k : Nat} {v : Int64}, W a → P μ → P (mm_J μ a k v)) (hF : ∀ {μ : MM} {a : Nat} {g : Nat → Int32}, W a → P μ → P (mm_F μ a g)) (hw : ∀ a, 355 ≤ a → W a) {N : Nat} {rc_X12_unit : MM → Option (Int32 × MM)} {rc_X12_part : Int32 → Int32 → MM → Option (Int32 × MM)} {rc_X12_condition : Int32 → Int32 → MM → Option (Int32 × MM)} (hrc_X12_unit : ∀ (z0 : MM), P z0 → fm_O P (rc_X12_unit z0)) (hrc_X12_part : ∀ (z0 : Int32) (z1 : Int32) (z2 : MM), P z2 → fm_O P (rc_X12_part z0 z1 z2)) (hrc_X12_condition : ∀ (z0 : Int32) (z1 : Int32) (z2 : MM), P z2 → fm_O P (rc_X12_condition z0 z1 z2)) : ∀ (n : Nat) (x3 : Int32) (μ : MM), P μ → fm_O P (f_Mo_part_L18 N rc_X12_unit rc_X12_part rc_X12_condition n x3 μ) := by
  intro n
  induction n with
  | zero => intros; exact fm_none
  | succ n ih =>
    intro x3 μ h0
    rw [f_Mo_part_L18]
    exact fm_ite (fm_ob (fr_Mo_look hI hJ hF hw h0) (fun t27 μ2z hm2z => fm_ite (fm_wr (hI (hw _ (by first | omega | (simp only [inb, Bool.and_eq_true, decide_eq_true_eq] at *; omega))) hm2z) (fun μ3z hm3z => fm_ob (hrc_X12_unit _ hm3z) (fun t46 μ4z hm4z => fm_ite (ih _ _ hm4z) (fm_ite (ih _ _ hm4z) (ih _ _ hm4z))))) (fm_gd (fun g1 => fm_some hm2z)))) (fm_gd (fun g2 => fm_some h0))
set_option maxHeartbeats 1000000 in
theorem fr_Mo_part_body {W : Nat → Prop} {P : MM → Prop} (hI : ∀ {μ : MM} {a k : Nat} {v : Int32}, W a → P μ → P (mm_I μ a k v)) (hJ : ∀ {μ : MM} {a k : Nat} {v : Int64}, W a → P μ → P (mm_J μ a k v)) (hF : ∀ {μ : MM} {a : Nat} {g : Nat → Int32}, W a → P μ → P (mm_F μ a g)) (hw : ∀ a, 355 ≤ a → W a) {N : Nat} {rc_X12_unit : MM → Option (Int32 × MM)} {rc_X12_part : Int32 → Int32 → MM → Option (Int32 × MM)} {rc_X12_condition : Int32 → Int32 → MM → Option (Int32 × MM)} {x1 : Int32} {x2 : Int32} {μ : MM} (hrc_X12_unit : ∀ (z0 : MM), P z0 → fm_O P (rc_X12_unit z0)) (hrc_X12_part : ∀ (z0 : Int32) (z1 : Int32) (z2 : MM), P z2 → fm_O P (rc_X12_part z0 z1 z2)) (hrc_X12_condition : ∀ (z0 : Int32) (z1 : Int32) (z2 : MM), P z2 → fm_O P (rc_X12_condition z0 z1 z2)) (h0 : P μ) : fm_O P (f_Mo_part_body N rc_X12_unit rc_X12_part rc_X12_condition x1 x2 μ) := by
  unfold f_Mo_part_body
  exact fm_ite (fm_ob (hrc_X12_unit _ h0) (fun t14 μ1z hm1z => fr_Mo_part_L18 hI hJ hF hw (hrc_X12_unit) (hrc_X12_part) (hrc_X12_condition) _ _ _ hm1z)) (fm_ob (fr_Mo_compares hI hJ hF hw h0) (fun t7 μ5z hm5z => fr_Mo_part_L18 hI hJ hF hw (hrc_X12_unit) (hrc_X12_part) (hrc_X12_condition) _ _ _ hm5z))
set_option maxHeartbeats 1000000 in
theorem fr_Mo_condition_L7 {W : Nat → Prop} {P : MM → Prop} (hI : ∀ {μ : MM} {a k : Nat} {v : Int32}, W a → P μ → P (mm_I μ a k v)) (hJ : ∀ {μ : MM} {a k : Nat} {v : Int64}, W a → P μ → P (mm_J μ a k v)) (hF : ∀ {μ : MM} {a : Nat} {g : Nat → Int32}, W a → P μ → P (mm_F μ a g)) (hw : ∀ a, 355 ≤ a → W a) {N : Nat} {rc_X12_unit : MM → Option (Int32 × MM)} {rc_X12_part : Int32 → Int32 → MM → Option (Int32 × MM)} {rc_X12_condition : Int32 → Int32 → MM → Option (Int32 × MM)} (hrc_X12_unit : ∀ (z0 : MM), P z0 → fm_O P (rc_X12_unit z0)) (hrc_X12_part : ∀ (z0 : Int32) (z1 : Int32) (z2 : MM), P z2 → fm_O P (rc_X12_part z0 z1 z2)) (hrc_X12_condition : ∀ (z0 : Int32) (z1 : Int32) (z2 : MM), P z2 → fm_O P (rc_X12_condition z0 z1 z2)) : ∀ (n : Nat) (x3 : Int32) (μ : MM), P μ → fm_O P (f_Mo_condition_L7 N rc_X12_unit rc_X12_part rc_X12_condition n x3 μ) := by
  intro n
  induction n with
  | zero => intros; exact fm_none
  | succ n ih =>
    intro x3 μ h0
    rw [f_Mo_condition_L7]
    exact fm_ite (fm_ob (fr_Mo_look hI hJ hF hw h0) (fun t16 μ2z hm2z => fm_ite (fm_wr (hI (hw _ (by first | omega | (simp only [inb, Bool.and_eq_true, decide_eq_true_eq] at *; omega))) hm2z) (fun μ3z hm3z => fm_ob (hrc_X12_part _ _ _ hm3z) (fun t37 μ4z hm4z => fm_ite (fm_ite (ih _ _ hm4z) (ih _ _ hm4z)) (ih _ _ hm4z)))) (fm_gd (fun g1 => fm_some hm2z)))) (fm_gd (fun g2 => fm_some h0))
set_option maxHeartbeats 1000000 in
theorem fr_Mo_condition_body {W : Nat → Prop} {P : MM → Prop} (hI : ∀ {μ : MM} {a k : Nat} {v : Int32}, W a → P μ → P (mm_I μ a k v)) (hJ : ∀ {μ : MM} {a k : Nat} {v : Int64}, W a → P μ → P (mm_J μ a k v)) (hF : ∀ {μ : MM} {a : Nat} {g : Nat → Int32}, W a → P μ → P (mm_F μ a g)) (hw : ∀ a, 355 ≤ a → W a) {N : Nat} {rc_X12_unit : MM → Option (Int32 × MM)} {rc_X12_part : Int32 → Int32 → MM → Option (Int32 × MM)} {rc_X12_condition : Int32 → Int32 → MM → Option (Int32 × MM)} {x1 : Int32} {x2 : Int32} {μ : MM} (hrc_X12_unit : ∀ (z0 : MM), P z0 → fm_O P (rc_X12_unit z0)) (hrc_X12_part : ∀ (z0 : Int32) (z1 : Int32) (z2 : MM), P z2 → fm_O P (rc_X12_part z0 z1 z2)) (hrc_X12_condition : ∀ (z0 : Int32) (z1 : Int32) (z2 : MM), P z2 → fm_O P (rc_X12_condition z0 z1 z2)) (h0 : P μ) : fm_O P (f_Mo_condition_body N rc_X12_unit rc_X12_part rc_X12_condition x1 x2 μ) := by
  unfold f_Mo_condition_body
  exact fm_ob (hrc_X12_part _ _ _ h0) (fun t3 μ1z hm1z => fr_Mo_condition_L7 hI hJ hF hw (hrc_X12_unit) (hrc_X12_part) (hrc_X12_condition) _ _ _ hm1z)
set_option maxHeartbeats 1000000 in
theorem fr_cl_Mo_unit {W : Nat → Prop} {P : MM → Prop} (hI : ∀ {μ : MM} {a k : Nat} {v : Int32}, W a → P μ → P (mm_I μ a k v)) (hJ : ∀ {μ : MM} {a k : Nat} {v : Int64}, W a → P μ → P (mm_J μ a k v)) (hF : ∀ {μ : MM} {a : Nat} {g : Nat → Int32}, W a → P μ → P (mm_F μ a g)) (hw : ∀ a, 355 ≤ a → W a) {N : Nat} : ∀ (t : Nat) (g : Nat) (a0 : Int32) (a1 : Int32) (μ : MM), P μ → fm_O P (f_cl_Mo_unit N t g a0 a1 μ) := by
  intro t
  induction t with
  | zero => intros; exact fm_none
  | succ t ih =>
    intro g a0 a1 μ h0
    rw [f_cl_Mo_unit]
    exact fm_ite (fr_Mo_unit_body hI hJ hF hw (fun  _ h9 => ih _ _ _ _ h9) (fun _ _ _ h9 => ih _ _ _ _ h9) (fun _ _ _ h9 => ih _ _ _ _ h9) h0) (fm_ite (fr_Mo_part_body hI hJ hF hw (fun  _ h9 => ih _ _ _ _ h9) (fun _ _ _ h9 => ih _ _ _ _ h9) (fun _ _ _ h9 => ih _ _ _ _ h9) h0) (fr_Mo_condition_body hI hJ hF hw (fun  _ h9 => ih _ _ _ _ h9) (fun _ _ _ h9 => ih _ _ _ _ h9) (fun _ _ _ h9 => ih _ _ _ _ h9) h0))
set_option maxHeartbeats 1000000 in
theorem fr_Mo_unit {W : Nat → Prop} {P : MM → Prop} (hI : ∀ {μ : MM} {a k : Nat} {v : Int32}, W a → P μ → P (mm_I μ a k v)) (hJ : ∀ {μ : MM} {a k : Nat} {v : Int64}, W a → P μ → P (mm_J μ a k v)) (hF : ∀ {μ : MM} {a : Nat} {g : Nat → Int32}, W a → P μ → P (mm_F μ a g)) (hw : ∀ a, 355 ≤ a → W a) {N : Nat} {μ : MM} (h0 : P μ) : fm_O P (f_Mo_unit N μ) := by
  unfold f_Mo_unit
  exact fr_cl_Mo_unit hI hJ hF hw _ _ _ _ _ h0
set_option maxHeartbeats 1000000 in
theorem fr_Mo_part {W : Nat → Prop} {P : MM → Prop} (hI : ∀ {μ : MM} {a k : Nat} {v : Int32}, W a → P μ → P (mm_I μ a k v)) (hJ : ∀ {μ : MM} {a k : Nat} {v : Int64}, W a → P μ → P (mm_J μ a k v)) (hF : ∀ {μ : MM} {a : Nat} {g : Nat → Int32}, W a → P μ → P (mm_F μ a g)) (hw : ∀ a, 355 ≤ a → W a) {N : Nat} {x1 : Int32} {x2 : Int32} {μ : MM} (h0 : P μ) : fm_O P (f_Mo_part N x1 x2 μ) := by
  unfold f_Mo_part
  exact fr_cl_Mo_unit hI hJ hF hw _ _ _ _ _ h0
set_option maxHeartbeats 1000000 in
theorem fr_Mo_condition {W : Nat → Prop} {P : MM → Prop} (hI : ∀ {μ : MM} {a k : Nat} {v : Int32}, W a → P μ → P (mm_I μ a k v)) (hJ : ∀ {μ : MM} {a k : Nat} {v : Int64}, W a → P μ → P (mm_J μ a k v)) (hF : ∀ {μ : MM} {a : Nat} {g : Nat → Int32}, W a → P μ → P (mm_F μ a g)) (hw : ∀ a, 355 ≤ a → W a) {N : Nat} {x1 : Int32} {x2 : Int32} {μ : MM} (h0 : P μ) : fm_O P (f_Mo_condition N x1 x2 μ) := by
  unfold f_Mo_condition
  exact fr_cl_Mo_unit hI hJ hF hw _ _ _ _ _ h0
set_option maxHeartbeats 1000000 in
theorem fr_Mo_clause_B134 {W : Nat → Prop} {P : MM → Prop} (hI : ∀ {μ : MM} {a k : Nat} {v : Int32}, W a → P μ → P (mm_I μ a k v)) (hJ : ∀ {μ : MM} {a k : Nat} {v : Int64}, W a → P μ → P (mm_J μ a k v)) (hF : ∀ {μ : MM} {a : Nat} {g : Nat → Int32}, W a → P μ → P (mm_F μ a g)) (hw : ∀ a, 355 ≤ a → W a) {N : Nat} {x1 : Int32} {x2 : Int32} {x3 : Int32} {μ : MM} (h0 : P μ) : fm_V P (f_Mo_clause_B134 N x1 x2 x3 μ) := by
  unfold f_Mo_clause_B134
  exact fm_iteV (fm_iteV (fm_iteV (fm_iteV (fm_someV h0) (fm_wrV (hI (hw _ (by first | omega | (simp only [inb, Bool.and_eq_true, decide_eq_true_eq] at *; omega))) h0) (fun μ9z hm9z => fm_wrV (hI (hw _ (by first | omega | (simp only [inb, Bool.and_eq_true, decide_eq_true_eq] at *; omega))) hm9z) (fun μ10z hm10z => fm_someV hm10z)))) (fm_someV h0)) (fm_someV h0)) (fm_someV h0)
set_option maxHeartbeats 1000000 in
theorem fr_Mo_clause_B64 {W : Nat → Prop} {P : MM → Prop} (hI : ∀ {μ : MM} {a k : Nat} {v : Int32}, W a → P μ → P (mm_I μ a k v)) (hJ : ∀ {μ : MM} {a k : Nat} {v : Int64}, W a → P μ → P (mm_J μ a k v)) (hF : ∀ {μ : MM} {a : Nat} {g : Nat → Int32}, W a → P μ → P (mm_F μ a g)) (hw : ∀ a, 355 ≤ a → W a) {N : Nat} {x1 : Int32} {μ : MM} (h0 : P μ) : fm_V P (f_Mo_clause_B64 N x1 μ) := by
  unfold f_Mo_clause_B64
  exact fm_obV (fr_Mo_condition hI hJ hF hw h0) (fun t67 μ6z hm6z => fm_obV (fr_Mo_takes hI hJ hF hw hm6z) (fun t74 μ7z hm7z => fm_iteV (fm_someV hm7z) (fm_obV (fr_Mo_sum hI hJ hF hw hm7z) (fun t82 μ8z hm8z => fr_Mo_clause_B134 hI hJ hF hw hm8z))))
set_option maxHeartbeats 1000000 in
theorem fr_Mo_clause {W : Nat → Prop} {P : MM → Prop} (hI : ∀ {μ : MM} {a k : Nat} {v : Int32}, W a → P μ → P (mm_I μ a k v)) (hJ : ∀ {μ : MM} {a k : Nat} {v : Int64}, W a → P μ → P (mm_J μ a k v)) (hF : ∀ {μ : MM} {a : Nat} {g : Nat → Int32}, W a → P μ → P (mm_F μ a g)) (hw : ∀ a, 355 ≤ a → W a) {N : Nat} {μ : MM} (h0 : P μ) : fm_V P (f_Mo_clause N μ) := by
  unfold f_Mo_clause
  exact fm_obV (fr_Mo_look hI hJ hF hw h0) (fun t1 μ1z hm1z => fm_obV (fr_Mo_isAmong hI hJ hF hw hm1z) (fun t8 μ2z hm2z => fm_iteV (fm_obV (fr_Mo_fails hI hJ hF hw hm2z) (fun t15 μ17z hm17z => fm_someV hm17z)) (fm_wrV (hI (hw _ (by first | omega | (simp only [inb, Bool.and_eq_true, decide_eq_true_eq] at *; omega))) hm2z) (fun μ3z hm3z => fm_obV (fr_Mo_takes hI hJ hF hw hm3z) (fun t33 μ4z hm4z => fm_iteV (fm_someV hm4z) (fm_obV (fr_Mo_look hI hJ hF hw hm4z) (fun t45 μ5z hm5z => fm_iteV (fr_Mo_clause_B64 hI hJ hF hw hm5z) (fm_iteV (fr_Mo_clause_B64 hI hJ hF hw hm5z) (fm_obV (fr_Mo_sum hI hJ hF hw hm5z) (fun t90 μ11z hm11z => fm_iteV (fm_obV (fr_Mo_look hI hJ hF hw hm11z) (fun t103 μ12z hm12z => fm_obV (fr_Mo_isSign hI hJ hF hw hm12z) (fun t106 μ13z hm13z => fm_iteV (fr_Mo_clause_B134 hI hJ hF hw hm13z) (fm_obV (fr_Mo_condition hI hJ hF hw hm13z) (fun t115 μ14z hm14z => fm_obV (fr_Mo_takes hI hJ hF hw hm14z) (fun t122 μ15z hm15z => fm_iteV (fm_someV hm15z) (fm_obV (fr_Mo_sum hI hJ hF hw hm15z) (fun t130 μ16z hm16z => fr_Mo_clause_B134 hI hJ hF hw hm16z)))))))) (fr_Mo_clause_B134 hI hJ hF hw hm11z)))))))))))
set_option maxHeartbeats 1000000 in
theorem fr_Mo_starts {W : Nat → Prop} {P : MM → Prop} (hI : ∀ {μ : MM} {a k : Nat} {v : Int32}, W a → P μ → P (mm_I μ a k v)) (hJ : ∀ {μ : MM} {a k : Nat} {v : Int64}, W a → P μ → P (mm_J μ a k v)) (hF : ∀ {μ : MM} {a : Nat} {g : Nat → Int32}, W a → P μ → P (mm_F μ a g)) (hw : ∀ a, 355 ≤ a → W a) {N : Nat} {q1 : Nat} {x2 : Int32} {x3 : Int32} {μ : MM} (h0 : P μ) : fm_V P (f_Mo_starts N q1 x2 x3 μ) := by
  unfold f_Mo_starts
  exact fm_wrV (hI (hw _ (by first | omega | (simp only [inb, Bool.and_eq_true, decide_eq_true_eq] at *; omega))) h0) (fun μ1z hm1z => fm_wrV (hI (hw _ (by first | omega | (simp only [inb, Bool.and_eq_true, decide_eq_true_eq] at *; omega))) hm1z) (fun μ2z hm2z => fm_wrV (hI (hw _ (by first | omega | (simp only [inb, Bool.and_eq_true, decide_eq_true_eq] at *; omega))) hm2z) (fun μ3z hm3z => fm_wrV (hI (hw _ (by first | omega | (simp only [inb, Bool.and_eq_true, decide_eq_true_eq] at *; omega))) hm3z) (fun μ4z hm4z => fm_wrV (hI (hw _ (by first | omega | (simp only [inb, Bool.and_eq_true, decide_eq_true_eq] at *; omega))) hm4z) (fun μ5z hm5z => fm_someV hm5z)))))
set_option maxHeartbeats 1000000 in
theorem fr_Mo_goThrough_B66 {W : Nat → Prop} {P : MM → Prop} (hI : ∀ {μ : MM} {a k : Nat} {v : Int32}, W a → P μ → P (mm_I μ a k v)) (hJ : ∀ {μ : MM} {a k : Nat} {v : Int64}, W a → P μ → P (mm_J μ a k v)) (hF : ∀ {μ : MM} {a : Nat} {g : Nat → Int32}, W a → P μ → P (mm_F μ a g)) (hw : ∀ a, 355 ≤ a → W a) {N : Nat} {q1 : Nat} {μ : MM} (h0 : P μ) : fm_V P (f_Mo_goThrough_B66 N q1 μ) := by
  unfold f_Mo_goThrough_B66
  exact fm_iteV (fm_obV (fr_Mo_look hI hJ hF hw h0) (fun t75 μ7z hm7z => fm_iteV (fm_someV hm7z) (fm_obV (fr_Mo_fails hI hJ hF hw hm7z) (fun t83 μ8z hm8z => fm_someV hm8z)))) (fm_someV h0)
set_option maxHeartbeats 1000000 in
theorem fr_Mo_goThrough_L32 {W : Nat → Prop} {P : MM → Prop} (hI : ∀ {μ : MM} {a k : Nat} {v : Int32}, W a → P μ → P (mm_I μ a k v)) (hJ : ∀ {μ : MM} {a k : Nat} {v : Int64}, W a → P μ → P (mm_J μ a k v)) (hF : ∀ {μ : MM} {a : Nat} {g : Nat → Int32}, W a → P μ → P (mm_F μ a g)) (hw : ∀ a, 355 ≤ a → W a) {N : Nat} {q1 : Nat} : ∀ (n : Nat) (μ : MM), P μ → fm_V P (f_Mo_goThrough_L32 N q1 n μ) := by
  intro n
  induction n with
  | zero => intros; exact fm_noneV
  | succ n ih =>
    intro μ h0
    rw [f_Mo_goThrough_L32]
    exact fm_iteV (fm_obV (fr_Mo_look hI hJ hF hw h0) (fun t41 μ9z hm9z => fm_iteV (fm_wrV (hI (hw _ (by first | omega | (simp only [inb, Bool.and_eq_true, decide_eq_true_eq] at *; omega))) hm9z) (fun μ10z hm10z => fm_obvV (fr_Mo_clause hI hJ hF hw hm10z) (fun μ11z hm11z => ih _ hm11z))) (fr_Mo_goThrough_B66 hI hJ hF hw hm9z))) (fr_Mo_goThrough_B66 hI hJ hF hw h0)
set_option maxHeartbeats 1000000 in
theorem fr_Mo_goThrough {W : Nat → Prop} {P : MM → Prop} (hI : ∀ {μ : MM} {a k : Nat} {v : Int32}, W a → P μ → P (mm_I μ a k v)) (hJ : ∀ {μ : MM} {a k : Nat} {v : Int64}, W a → P μ → P (mm_J μ a k v)) (hF : ∀ {μ : MM} {a : Nat} {g : Nat → Int32}, W a → P μ → P (mm_F μ a g)) (hw : ∀ a, 355 ≤ a → W a) {N : Nat} {q1 : Nat} {x2 : Int32} {x3 : Int32} {μ : MM} (h0 : P μ) : fm_V P (f_Mo_goThrough N q1 x2 x3 μ) := by
  unfold f_Mo_goThrough
  exact fm_obvV (fr_Mo_starts hI hJ hF hw h0) (fun μ1z hm1z => fm_wrV (hI (hw _ (by first | omega | (simp only [inb, Bool.and_eq_true, decide_eq_true_eq] at *; omega))) hm1z) (fun μ2z hm2z => fm_wrV (hI (hw _ (by first | omega | (simp only [inb, Bool.and_eq_true, decide_eq_true_eq] at *; omega))) hm2z) (fun μ3z hm3z => fm_wrV (hI (hw _ (by first | omega | (simp only [inb, Bool.and_eq_true, decide_eq_true_eq] at *; omega))) hm3z) (fun μ4z hm4z => fm_wrV (hI (hw _ (by first | omega | (simp only [inb, Bool.and_eq_true, decide_eq_true_eq] at *; omega))) hm4z) (fun μ5z hm5z => fm_obvV (fr_Mo_clause hI hJ hF hw hm5z) (fun μ6z hm6z => fr_Mo_goThrough_L32 hI hJ hF hw _ _ hm6z))))))
set_option maxHeartbeats 1000000 in
theorem fr_Mo_here {W : Nat → Prop} {P : MM → Prop} (hI : ∀ {μ : MM} {a k : Nat} {v : Int32}, W a → P μ → P (mm_I μ a k v)) (hJ : ∀ {μ : MM} {a k : Nat} {v : Int64}, W a → P μ → P (mm_J μ a k v)) (hF : ∀ {μ : MM} {a : Nat} {g : Nat → Int32}, W a → P μ → P (mm_F μ a g)) (hw : ∀ a, 355 ≤ a → W a) {N : Nat} {μ : MM} (h0 : P μ) : fm_O P (f_Mo_here N μ) := by
  unfold f_Mo_here
  exact fm_ite (fm_some h0) (fm_gd (fun g1 => fm_gd (fun g2 => fm_some h0)))
set_option maxHeartbeats 1000000 in
theorem fr_Mo_spotOf_L2 {W : Nat → Prop} {P : MM → Prop} (hI : ∀ {μ : MM} {a k : Nat} {v : Int32}, W a → P μ → P (mm_I μ a k v)) (hJ : ∀ {μ : MM} {a k : Nat} {v : Int64}, W a → P μ → P (mm_J μ a k v)) (hF : ∀ {μ : MM} {a : Nat} {g : Nat → Int32}, W a → P μ → P (mm_F μ a g)) (hw : ∀ a, 355 ≤ a → W a) {N : Nat} {q0 : Nat} : ∀ (n : Nat) (x1 : Int32) (x2 : Int32) (μ : MM), P μ → fm_O P (f_Mo_spotOf_L2 N q0 n x1 x2 μ) := by
  intro n
  induction n with
  | zero => intros; exact fm_none
  | succ n ih =>
    intro x1 x2 μ h0
    rw [f_Mo_spotOf_L2]
    exact fm_ob (fr_St_length_8abf5 hI hJ hF h0) (fun t4 μ1z hm1z => fm_ite (fm_some hm1z) (fm_ob (fr_St_charAt_5068e hI hJ hF hm1z) (fun t12 μ2z hm2z => fm_ite (fm_some hm2z) (ih _ _ _ hm2z))))
set_option maxHeartbeats 1000000 in
theorem fr_Mo_spotOf {W : Nat → Prop} {P : MM → Prop} (hI : ∀ {μ : MM} {a k : Nat} {v : Int32}, W a → P μ → P (mm_I μ a k v)) (hJ : ∀ {μ : MM} {a k : Nat} {v : Int64}, W a → P μ → P (mm_J μ a k v)) (hF : ∀ {μ : MM} {a : Nat} {g : Nat → Int32}, W a → P μ → P (mm_F μ a g)) (hw : ∀ a, 355 ≤ a → W a) {N : Nat} {q0 : Nat} {x1 : Int32} {μ : MM} (h0 : P μ) : fm_O P (f_Mo_spotOf N q0 x1 μ) := by
  unfold f_Mo_spotOf
  exact fr_Mo_spotOf_L2 hI hJ hF hw _ _ _ _ h0
set_option maxHeartbeats 1000000 in
theorem fr_Mo_number_B67 {W : Nat → Prop} {P : MM → Prop} (hI : ∀ {μ : MM} {a k : Nat} {v : Int32}, W a → P μ → P (mm_I μ a k v)) (hJ : ∀ {μ : MM} {a k : Nat} {v : Int64}, W a → P μ → P (mm_J μ a k v)) (hF : ∀ {μ : MM} {a : Nat} {g : Nat → Int32}, W a → P μ → P (mm_F μ a g)) (hw : ∀ a, 355 ≤ a → W a) {N : Nat} {x1 : Int32} {x2 : Int32} {x4 : Int32} {μ : MM} (h0 : P μ) : fm_O P (f_Mo_number_B67 N x1 x2 x4 μ) := by
  unfold f_Mo_number_B67
  exact fm_ob (fr_Mo_isDigit hI hJ hF hw h0) (fun t68 μ5z hm5z => fm_ite (fm_ob (fr_Mo_isIn hI hJ hF hw hm5z) (fun t88 μ6z hm6z => fm_ite (fm_wr (hI (hw _ (by first | omega | (simp only [inb, Bool.and_eq_true, decide_eq_true_eq] at *; omega))) hm6z) (fun μ7z hm7z => fm_ob (fr_Mo_fails hI hJ hF hw hm7z) (fun t105 μ8z hm8z => fm_some hm8z))) (fm_some hm6z))) (fm_ob (fr_Mo_fails hI hJ hF hw hm5z) (fun t75 μ9z hm9z => fm_some hm9z)))
set_option maxHeartbeats 1000000 in
theorem fr_Mo_number {W : Nat → Prop} {P : MM → Prop} (hI : ∀ {μ : MM} {a k : Nat} {v : Int32}, W a → P μ → P (mm_I μ a k v)) (hJ : ∀ {μ : MM} {a k : Nat} {v : Int64}, W a → P μ → P (mm_J μ a k v)) (hF : ∀ {μ : MM} {a : Nat} {g : Nat → Int32}, W a → P μ → P (mm_F μ a g)) (hw : ∀ a, 355 ≤ a → W a) {N : Nat} {x1 : Int32} {x2 : Int32} {μ : MM} (h0 : P μ) : fm_O P (f_Mo_number N x1 x2 μ) := by
  unfold f_Mo_number
  exact fm_ob (fr_Mo_look hI hJ hF hw h0) (fun t1 μ1z hm1z => fm_ob (fr_Mo_isDigit hI hJ hF hw hm1z) (fun t6 μ2z hm2z => fm_ite (fm_ob (fr_Mo_fails hI hJ hF hw hm2z) (fun t13 μ12z hm12z => fm_some hm12z)) (fm_wr (hI (hw _ (by first | omega | (simp only [inb, Bool.and_eq_true, decide_eq_true_eq] at *; omega))) hm2z) (fun μ3z hm3z => fm_ob (fr_Mo_isDigit hI hJ hF hw hm3z) (fun t36 μ4z hm4z => fm_ite (fr_Mo_number_B67 hI hJ hF hw hm4z) (fm_ob (fr_Mo_here hI hJ hF hw hm4z) (fun t48 μ10z hm10z => fm_wr (hI (hw _ (by first | omega | (simp only [inb, Bool.and_eq_true, decide_eq_true_eq] at *; omega))) hm10z) (fun μ11z hm11z => fr_Mo_number_B67 hI hJ hF hw hm11z))))))))
set_option maxHeartbeats 1000000 in
theorem fr_Mo_mostOf_B16 {W : Nat → Prop} {P : MM → Prop} (hI : ∀ {μ : MM} {a k : Nat} {v : Int32}, W a → P μ → P (mm_I μ a k v)) (hJ : ∀ {μ : MM} {a k : Nat} {v : Int64}, W a → P μ → P (mm_J μ a k v)) (hF : ∀ {μ : MM} {a : Nat} {g : Nat → Int32}, W a → P μ → P (mm_F μ a g)) (hw : ∀ a, 355 ≤ a → W a) {N : Nat} {x0 : Int32} {x1 : Int32} {μ : MM} (h0 : P μ) : fm_O P (f_Mo_mostOf_B16 N x0 x1 μ) := by
  unfold f_Mo_mostOf_B16
  exact fm_ite (fm_ite (fm_some h0) (fm_some h0)) (fm_some h0)
set_option maxHeartbeats 1000000 in
theorem fr_Mo_mostOf {W : Nat → Prop} {P : MM → Prop} (hI : ∀ {μ : MM} {a k : Nat} {v : Int32}, W a → P μ → P (mm_I μ a k v)) (hJ : ∀ {μ : MM} {a k : Nat} {v : Int64}, W a → P μ → P (mm_J μ a k v)) (hF : ∀ {μ : MM} {a : Nat} {g : Nat → Int32}, W a → P μ → P (mm_F μ a g)) (hw : ∀ a, 355 ≤ a → W a) {N : Nat} {x0 : Int32} {x1 : Int32} {μ : MM} (h0 : P μ) : fm_O P (f_Mo_mostOf N x0 x1 μ) := by
  unfold f_Mo_mostOf
  exact fm_ite (fm_ite (fm_some h0) (fr_Mo_mostOf_B16 hI hJ hF hw h0)) (fr_Mo_mostOf_B16 hI hJ hF hw h0)
set_option maxHeartbeats 1000000 in
theorem fr_Mo_usual {W : Nat → Prop} {P : MM → Prop} (hI : ∀ {μ : MM} {a k : Nat} {v : Int32}, W a → P μ → P (mm_I μ a k v)) (hJ : ∀ {μ : MM} {a k : Nat} {v : Int64}, W a → P μ → P (mm_J μ a k v)) (hF : ∀ {μ : MM} {a : Nat} {g : Nat → Int32}, W a → P μ → P (mm_F μ a g)) (hw : ∀ a, 355 ≤ a → W a) {N : Nat} {x0 : Int32} {x1 : Int32} {μ : MM} (h0 : P μ) : fm_O P (f_Mo_usual N x0 x1 μ) := by
  unfold f_Mo_usual
  exact fm_ite (fm_some h0) (fm_ite (fm_some h0) (fm_some h0))
set_option maxHeartbeats 1000000 in
theorem fr_Mo_readItems_B116 {W : Nat → Prop} {P : MM → Prop} (hI : ∀ {μ : MM} {a k : Nat} {v : Int32}, W a → P μ → P (mm_I μ a k v)) (hJ : ∀ {μ : MM} {a k : Nat} {v : Int64}, W a → P μ → P (mm_J μ a k v)) (hF : ∀ {μ : MM} {a : Nat} {g : Nat → Int32}, W a → P μ → P (mm_F μ a g)) (hw : ∀ a, 355 ≤ a → W a) {N : Nat} {q2 : Nat} {q4 : Nat} {k45 : Int32 → Int32 → Int32 → Int32 → MM → Option MM} {x1 : Int32} {x3 : Int32} {x5 : Int32} {x6 : Int32} {s1 : Int32} {s3 : Int32} {μ : MM} (hw_q2 : 355 ≤ q2) (hk45 : ∀ (z0 : Int32) (z1 : Int32) (z2 : Int32) (z3 : Int32) (z4 : MM), P z4 → fm_V P (k45 z0 z1 z2 z3 z4)) (h0 : P μ) : fm_V P (f_Mo_readItems_B116 N q2 q4 k45 x1 x3 x5 x6 s1 s3 μ) := by
  unfold f_Mo_readItems_B116
  exact fm_obV (fr_Mo_mostOf hI hJ hF hw h0) (fun t119 μ6z hm6z => fm_obV (fr_Mo_number hI hJ hF hw hm6z) (fun t122 μ7z hm7z => fm_gdV (fun g1 => fm_wrV (hI (hw _ (by first | omega | (simp only [inb, Bool.and_eq_true, decide_eq_true_eq] at *; omega))) hm7z) (fun μ8z hm8z => fm_iteV (fm_obV (fr_Mo_look hI hJ hF hw hm8z) (fun t137 μ9z hm9z => fm_obV (fr_Mo_spotOf hI hJ hF hw hm9z) (fun t140 μ10z hm10z => hk45 _ _ _ _ _ hm10z))) (hk45 _ _ _ _ _ hm8z)))))
set_option maxHeartbeats 1000000 in
theorem fr_Mo_readItems_B115 {W : Nat → Prop} {P : MM → Prop} (hI : ∀ {μ : MM} {a k : Nat} {v : Int32}, W a → P μ → P (mm_I μ a k v)) (hJ : ∀ {μ : MM} {a k : Nat} {v : Int64}, W a → P μ → P (mm_J μ a k v)) (hF : ∀ {μ : MM} {a : Nat} {g : Nat → Int32}, W a → P μ → P (mm_F μ a g)) (hw : ∀ a, 355 ≤ a → W a) {N : Nat} {q2 : Nat} {q4 : Nat} {k45 : Int32 → Int32 → Int32 → Int32 → MM → Option MM} {x1 : Int32} {x3 : Int32} {x5 : Int32} {x6 : Int32} {s1 : Int32} {μ : MM} (hw_q2 : 355 ≤ q2) (hk45 : ∀ (z0 : Int32) (z1 : Int32) (z2 : Int32) (z3 : Int32) (z4 : MM), P z4 → fm_V P (k45 z0 z1 z2 z3 z4)) (h0 : P μ) : fm_V P (f_Mo_readItems_B115 N q2 q4 k45 x1 x3 x5 x6 s1 μ) := by
  unfold f_Mo_readItems_B115
  exact fr_Mo_readItems_B116 hI hJ hF hw (by first | omega | (simp only [inb, Bool.and_eq_true, decide_eq_true_eq] at *; omega)) (hk45) h0
set_option maxHeartbeats 1000000 in
theorem fr_Mo_readItems_L45 {W : Nat → Prop} {P : MM → Prop} (hI : ∀ {μ : MM} {a k : Nat} {v : Int32}, W a → P μ → P (mm_I μ a k v)) (hJ : ∀ {μ : MM} {a k : Nat} {v : Int64}, W a → P μ → P (mm_J μ a k v)) (hF : ∀ {μ : MM} {a : Nat} {g : Nat → Int32}, W a → P μ → P (mm_F μ a g)) (hw : ∀ a, 355 ≤ a → W a) {N : Nat} {q2 : Nat} {q4 : Nat} (hw_q2 : 355 ≤ q2) : ∀ (n : Nat) (x1 : Int32) (x3 : Int32) (x5 : Int32) (x6 : Int32) (μ : MM), P μ → fm_V P (f_Mo_readItems_L45 N q2 q4 n x1 x3 x5 x6 μ) := by
  intro n
  induction n with
  | zero => intros; exact fm_noneV
  | succ n ih =>
    intro x1 x3 x5 x6 μ h0
    rw [f_Mo_readItems_L45]
    exact fm_iteV (fm_someV h0) (fm_iteV (fm_obV (fr_Mo_has hI hJ hF hw h0) (fun t63 μ4z hm4z => fm_iteV (fm_wrV (hI (hw _ (by first | omega | (simp only [inb, Bool.and_eq_true, decide_eq_true_eq] at *; omega))) hm4z) (fun μ5z hm5z => fm_iteV (fm_iteV (fr_Mo_readItems_B116 hI hJ hF hw (by first | omega | (simp only [inb, Bool.and_eq_true, decide_eq_true_eq] at *; omega)) (ih) hm5z) (fr_Mo_readItems_B115 hI hJ hF hw (by first | omega | (simp only [inb, Bool.and_eq_true, decide_eq_true_eq] at *; omega)) (ih) hm5z)) (fr_Mo_readItems_B115 hI hJ hF hw (by first | omega | (simp only [inb, Bool.and_eq_true, decide_eq_true_eq] at *; omega)) (ih) hm5z))) (fm_obV (fr_Mo_fails hI hJ hF hw hm4z) (fun t70 μ11z hm11z => fm_someV hm11z)))) (fm_someV h0))
