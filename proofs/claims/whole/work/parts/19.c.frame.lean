set_option maxHeartbeats 1000000 in
theorem fr_Mo_readItems_L3 {W : Nat → Prop} {P : MM → Prop} (hI : ∀ {μ : MM} {a k : Nat} {v : Int32}, W a → P μ → P (mm_I μ a k v)) (hJ : ∀ {μ : MM} {a k : Nat} {v : Int64}, W a → P μ → P (mm_J μ a k v)) (hF : ∀ {μ : MM} {a : Nat} {g : Nat → Int32}, W a → P μ → P (mm_F μ a g)) (hw : ∀ a, 355 ≤ a → W a) {N : Nat} {q2 : Nat} {q4 : Nat} (hw_q2 : 355 ≤ q2) : ∀ (n : Nat) (x1 : Int32) (x3 : Int32) (x5 : Int32) (μ : MM), P μ → fm_V P (f_Mo_readItems_L3 N q2 q4 n x1 x3 x5 μ) := by
  intro n
  induction n with
  | zero => intros; exact fm_noneV
  | succ n ih =>
    intro x1 x3 x5 μ h0
    rw [f_Mo_readItems_L3]
    exact fm_obV (fr_St_length_8abf5 hI hJ hF h0) (fun t7 μ1z hm1z => fm_iteV (fm_obV (fr_Mo_look hI hJ hF hw hm1z) (fun t37 μ2z hm2z => fm_obV (fr_Mo_spotOf hI hJ hF hw hm2z) (fun t40 μ3z hm3z => fr_Mo_readItems_L45 hI hJ hF hw (by first | omega | (simp only [inb, Bool.and_eq_true, decide_eq_true_eq] at *; omega)) _ _ _ _ _ _ hm3z))) (fm_obV (fr_Mo_usual hI hJ hF hw hm1z) (fun t21 μ12z hm12z => fm_gdV (fun g1 => fm_wrV (hI (hw _ (by first | omega | (simp only [inb, Bool.and_eq_true, decide_eq_true_eq] at *; omega))) hm12z) (fun μ13z hm13z => ih _ _ _ _ hm13z)))))
set_option maxHeartbeats 1000000 in
theorem fr_Mo_readItems {W : Nat → Prop} {P : MM → Prop} (hI : ∀ {μ : MM} {a k : Nat} {v : Int32}, W a → P μ → P (mm_I μ a k v)) (hJ : ∀ {μ : MM} {a k : Nat} {v : Int64}, W a → P μ → P (mm_J μ a k v)) (hF : ∀ {μ : MM} {a : Nat} {g : Nat → Int32}, W a → P μ → P (mm_F μ a g)) (hw : ∀ a, 355 ≤ a → W a) {N : Nat} {q2 : Nat} {q4 : Nat} {x1 : Int32} {x3 : Int32} {μ : MM} (hw_q2 : 355 ≤ q2) (h0 : P μ) : fm_V P (f_Mo_readItems N q2 q4 x1 x3 μ) := by
  unfold f_Mo_readItems
  exact fr_Mo_readItems_L3 hI hJ hF hw (by first | omega | (simp only [inb, Bool.and_eq_true, decide_eq_true_eq] at *; omega)) _ _ _ _ _ h0
set_option maxHeartbeats 1000000 in
theorem fr_Mo_isBehindColon {W : Nat → Prop} {P : MM → Prop} (hI : ∀ {μ : MM} {a k : Nat} {v : Int32}, W a → P μ → P (mm_I μ a k v)) (hJ : ∀ {μ : MM} {a k : Nat} {v : Int64}, W a → P μ → P (mm_J μ a k v)) (hF : ∀ {μ : MM} {a : Nat} {g : Nat → Int32}, W a → P μ → P (mm_F μ a g)) (hw : ∀ a, 355 ≤ a → W a) {N : Nat} {μ : MM} (h0 : P μ) : fm_O P (f_Mo_isBehindColon N μ) := by
  unfold f_Mo_isBehindColon
  exact fm_ite (fm_ob (fr_Mo_look hI hJ hF hw h0) (fun t11 μ1z hm1z => fm_ite (fm_wr (hI (hw _ (by first | omega | (simp only [inb, Bool.and_eq_true, decide_eq_true_eq] at *; omega))) hm1z) (fun μ2z hm2z => fm_some hm2z)) (fm_ob (fr_Mo_fails hI hJ hF hw hm1z) (fun t20 μ3z hm3z => fm_some hm3z)))) (fm_some h0)
set_option maxHeartbeats 1000000 in
theorem fr_Mo_readMarks_L12 {W : Nat → Prop} {P : MM → Prop} (hI : ∀ {μ : MM} {a k : Nat} {v : Int32}, W a → P μ → P (mm_I μ a k v)) (hJ : ∀ {μ : MM} {a k : Nat} {v : Int64}, W a → P μ → P (mm_J μ a k v)) (hF : ∀ {μ : MM} {a : Nat} {g : Nat → Int32}, W a → P μ → P (mm_F μ a g)) (hw : ∀ a, 355 ≤ a → W a) {N : Nat} : ∀ (n : Nat) (x1 : Int32) (x2 : Int32) (μ : MM), P μ → fm_O P (f_Mo_readMarks_L12 N n x1 x2 μ) := by
  intro n
  induction n with
  | zero => intros; exact fm_none
  | succ n ih =>
    intro x1 x2 μ h0
    rw [f_Mo_readMarks_L12]
    exact fm_ite (fm_some h0) (fm_ob (fr_Mo_has hI hJ hF hw h0) (fun t19 μ3z hm3z => fm_ite (fm_wr (hI (hw _ (by first | omega | (simp only [inb, Bool.and_eq_true, decide_eq_true_eq] at *; omega))) hm3z) (fun μ4z hm4z => fm_ob (fr_Mo_look hI hJ hF hw hm4z) (fun t51 μ5z hm5z => fm_ob (fr_Mo_spotOf hI hJ hF hw hm5z) (fun t54 μ6z hm6z => ih _ _ _ hm6z)))) (fm_ob (fr_Mo_fails hI hJ hF hw hm3z) (fun t26 μ7z hm7z => fm_some hm7z))))
set_option maxHeartbeats 1000000 in
theorem fr_Mo_readMarks {W : Nat → Prop} {P : MM → Prop} (hI : ∀ {μ : MM} {a k : Nat} {v : Int32}, W a → P μ → P (mm_I μ a k v)) (hJ : ∀ {μ : MM} {a k : Nat} {v : Int64}, W a → P μ → P (mm_J μ a k v)) (hF : ∀ {μ : MM} {a : Nat} {g : Nat → Int32}, W a → P μ → P (mm_F μ a g)) (hw : ∀ a, 355 ≤ a → W a) {N : Nat} {μ : MM} (h0 : P μ) : fm_O P (f_Mo_readMarks N μ) := by
  unfold f_Mo_readMarks
  exact fm_ob (fr_Mo_look hI hJ hF hw h0) (fun t5 μ1z hm1z => fm_ob (fr_Mo_spotOf hI hJ hF hw hm1z) (fun t8 μ2z hm2z => fr_Mo_readMarks_L12 hI hJ hF hw _ _ _ _ hm2z))
set_option maxHeartbeats 1000000 in
theorem fr_Mo_begins {W : Nat → Prop} {P : MM → Prop} (hI : ∀ {μ : MM} {a k : Nat} {v : Int32}, W a → P μ → P (mm_I μ a k v)) (hJ : ∀ {μ : MM} {a k : Nat} {v : Int64}, W a → P μ → P (mm_J μ a k v)) (hF : ∀ {μ : MM} {a : Nat} {g : Nat → Int32}, W a → P μ → P (mm_F μ a g)) (hw : ∀ a, 355 ≤ a → W a) {N : Nat} {x0 : Int32} {μ : MM} (h0 : P μ) : fm_O P (f_Mo_begins N x0 μ) := by
  unfold f_Mo_begins
  exact fm_ob (fr_Mo_spotOf hI hJ hF hw h0) (fun t3 μ1z hm1z => fm_gd (fun g1 => fm_some hm1z))
set_option maxHeartbeats 1000000 in
theorem fr_Mo_readWord_B78 {W : Nat → Prop} {P : MM → Prop} (hI : ∀ {μ : MM} {a k : Nat} {v : Int32}, W a → P μ → P (mm_I μ a k v)) (hJ : ∀ {μ : MM} {a k : Nat} {v : Int64}, W a → P μ → P (mm_J μ a k v)) (hF : ∀ {μ : MM} {a : Nat} {g : Nat → Int32}, W a → P μ → P (mm_F μ a g)) (hw : ∀ a, 355 ≤ a → W a) {N : Nat} {q1 : Nat} {x2 : Int32} {x4 : Int32} {s0 : Int32} {μ : MM} (hw_q1 : 355 ≤ q1) (h0 : P μ) : fm_V P (f_Mo_readWord_B78 N q1 x2 x4 s0 μ) := by
  unfold f_Mo_readWord_B78
  exact fm_iteV (fm_obV (fr_Mo_fails hI hJ hF hw h0) (fun t87 μ7z hm7z => fm_someV hm7z)) (fm_wrV (hI (hw _ (by first | omega | (simp only [inb, Bool.and_eq_true, decide_eq_true_eq] at *; omega))) h0) (fun μ4z hm4z => fm_gdV (fun g1 => fm_wrV (hI (hw _ (by first | omega | (simp only [inb, Bool.and_eq_true, decide_eq_true_eq] at *; omega))) hm4z) (fun μ5z hm5z => fm_gdV (fun g2 => fm_wrV (hI (hw _ (by first | omega | (simp only [inb, Bool.and_eq_true, decide_eq_true_eq] at *; omega))) hm5z) (fun μ6z hm6z => fm_someV hm6z))))))
set_option maxHeartbeats 1000000 in
theorem fr_Mo_readWord_B43 {W : Nat → Prop} {P : MM → Prop} (hI : ∀ {μ : MM} {a k : Nat} {v : Int32}, W a → P μ → P (mm_I μ a k v)) (hJ : ∀ {μ : MM} {a k : Nat} {v : Int64}, W a → P μ → P (mm_J μ a k v)) (hF : ∀ {μ : MM} {a : Nat} {g : Nat → Int32}, W a → P μ → P (mm_F μ a g)) (hw : ∀ a, 355 ≤ a → W a) {N : Nat} {q1 : Nat} {x2 : Int32} {x4 : Int32} {μ : MM} (hw_q1 : 355 ≤ q1) (h0 : P μ) : fm_V P (f_Mo_readWord_B43 N q1 x2 x4 μ) := by
  unfold f_Mo_readWord_B43
  exact fm_obV (fr_Mo_look hI hJ hF hw h0) (fun t44 μ2z hm2z => fm_iteV (fm_obV (fr_Mo_isDigit hI hJ hF hw hm2z) (fun t55 μ8z hm8z => fr_Mo_readWord_B78 hI hJ hF hw (by first | omega | (simp only [inb, Bool.and_eq_true, decide_eq_true_eq] at *; omega)) hm8z)) (fm_obV (fr_Mo_spotOf hI hJ hF hw hm2z) (fun t75 μ3z hm3z => fr_Mo_readWord_B78 hI hJ hF hw (by first | omega | (simp only [inb, Bool.and_eq_true, decide_eq_true_eq] at *; omega)) hm3z)))
set_option maxHeartbeats 1000000 in
theorem fr_Mo_readWord_B26 {W : Nat → Prop} {P : MM → Prop} (hI : ∀ {μ : MM} {a k : Nat} {v : Int32}, W a → P μ → P (mm_I μ a k v)) (hJ : ∀ {μ : MM} {a k : Nat} {v : Int64}, W a → P μ → P (mm_J μ a k v)) (hF : ∀ {μ : MM} {a : Nat} {g : Nat → Int32}, W a → P μ → P (mm_F μ a g)) (hw : ∀ a, 355 ≤ a → W a) {N : Nat} {q1 : Nat} {x2 : Int32} {s0 : Int32} {μ : MM} (hw_q1 : 355 ≤ q1) (h0 : P μ) : fm_V P (f_Mo_readWord_B26 N q1 x2 s0 μ) := by
  unfold f_Mo_readWord_B26
  exact fm_iteV (fr_Mo_readWord_B43 hI hJ hF hw (by first | omega | (simp only [inb, Bool.and_eq_true, decide_eq_true_eq] at *; omega)) h0) (fm_wrV (hI (hw _ (by first | omega | (simp only [inb, Bool.and_eq_true, decide_eq_true_eq] at *; omega))) h0) (fun μ9z hm9z => fr_Mo_readWord_B43 hI hJ hF hw (by first | omega | (simp only [inb, Bool.and_eq_true, decide_eq_true_eq] at *; omega)) hm9z))
set_option maxHeartbeats 1000000 in
theorem fr_Mo_readWord {W : Nat → Prop} {P : MM → Prop} (hI : ∀ {μ : MM} {a k : Nat} {v : Int32}, W a → P μ → P (mm_I μ a k v)) (hJ : ∀ {μ : MM} {a k : Nat} {v : Int64}, W a → P μ → P (mm_J μ a k v)) (hF : ∀ {μ : MM} {a : Nat} {g : Nat → Int32}, W a → P μ → P (mm_F μ a g)) (hw : ∀ a, 355 ≤ a → W a) {N : Nat} {q1 : Nat} {x2 : Int32} {μ : MM} (hw_q1 : 355 ≤ q1) (h0 : P μ) : fm_V P (f_Mo_readWord N q1 x2 μ) := by
  unfold f_Mo_readWord
  exact fm_obV (fr_Mo_look hI hJ hF hw h0) (fun t1 μ1z hm1z => fr_Mo_readWord_B26 hI hJ hF hw (by first | omega | (simp only [inb, Bool.and_eq_true, decide_eq_true_eq] at *; omega)) hm1z)
set_option maxHeartbeats 1000000 in
theorem fr_Mo_readWords_B32 {W : Nat → Prop} {P : MM → Prop} (hI : ∀ {μ : MM} {a k : Nat} {v : Int32}, W a → P μ → P (mm_I μ a k v)) (hJ : ∀ {μ : MM} {a k : Nat} {v : Int64}, W a → P μ → P (mm_J μ a k v)) (hF : ∀ {μ : MM} {a : Nat} {g : Nat → Int32}, W a → P μ → P (mm_F μ a g)) (hw : ∀ a, 355 ≤ a → W a) {N : Nat} {q1 : Nat} {μ : MM} (h0 : P μ) : fm_V P (f_Mo_readWords_B32 N q1 μ) := by
  unfold f_Mo_readWords_B32
  exact fm_obV (fr_Mo_fails hI hJ hF hw h0) (fun t33 μ1z hm1z => fm_someV hm1z)
set_option maxHeartbeats 1000000 in
theorem fr_Mo_readWords_B16 {W : Nat → Prop} {P : MM → Prop} (hI : ∀ {μ : MM} {a k : Nat} {v : Int32}, W a → P μ → P (mm_I μ a k v)) (hJ : ∀ {μ : MM} {a k : Nat} {v : Int64}, W a → P μ → P (mm_J μ a k v)) (hF : ∀ {μ : MM} {a : Nat} {g : Nat → Int32}, W a → P μ → P (mm_F μ a g)) (hw : ∀ a, 355 ≤ a → W a) {N : Nat} {q1 : Nat} {k2 : Int32 → Int32 → MM → Option MM} {x2 : Int32} {x3 : Int32} {μ : MM} (hw_q1 : 355 ≤ q1) (hk2 : ∀ (z0 : Int32) (z1 : Int32) (z2 : MM), P z2 → fm_V P (k2 z0 z1 z2)) (h0 : P μ) : fm_V P (f_Mo_readWords_B16 N q1 k2 x2 x3 μ) := by
  unfold f_Mo_readWords_B16
  exact fm_iteV (fr_Mo_readWords_B32 hI hJ hF hw h0) (fm_obV (fr_Mo_look hI hJ hF hw h0) (fun t23 μ2z hm2z => fm_obV (fr_Mo_begins hI hJ hF hw hm2z) (fun t26 μ3z hm3z => fm_iteV (fr_Mo_readWords_B32 hI hJ hF hw hm3z) (fm_obvV (fr_Mo_readWord hI hJ hF hw (by first | omega | (simp only [inb, Bool.and_eq_true, decide_eq_true_eq] at *; omega)) hm3z) (fun μ4z hm4z => fm_iteV (hk2 _ _ _ hm4z) (fm_someV hm4z))))))
set_option maxHeartbeats 1000000 in
theorem fr_Mo_readWords_L2 {W : Nat → Prop} {P : MM → Prop} (hI : ∀ {μ : MM} {a k : Nat} {v : Int32}, W a → P μ → P (mm_I μ a k v)) (hJ : ∀ {μ : MM} {a k : Nat} {v : Int64}, W a → P μ → P (mm_J μ a k v)) (hF : ∀ {μ : MM} {a : Nat} {g : Nat → Int32}, W a → P μ → P (mm_F μ a g)) (hw : ∀ a, 355 ≤ a → W a) {N : Nat} {q1 : Nat} (hw_q1 : 355 ≤ q1) : ∀ (n : Nat) (x2 : Int32) (x3 : Int32) (μ : MM), P μ → fm_V P (f_Mo_readWords_L2 N q1 n x2 x3 μ) := by
  intro n
  induction n with
  | zero => intros; exact fm_noneV
  | succ n ih =>
    intro x2 x3 μ h0
    rw [f_Mo_readWords_L2]
    exact fm_iteV (fr_Mo_readWords_B16 hI hJ hF hw (by first | omega | (simp only [inb, Bool.and_eq_true, decide_eq_true_eq] at *; omega)) (ih) h0) (fm_obV (fr_Mo_look hI hJ hF hw h0) (fun t7 μ5z hm5z => fm_obV (fr_Mo_begins hI hJ hF hw hm5z) (fun t10 μ6z hm6z => fm_iteV (fm_gdV (fun g1 => fm_wrV (hI (hw _ (by first | omega | (simp only [inb, Bool.and_eq_true, decide_eq_true_eq] at *; omega))) hm6z) (fun μ7z hm7z => fm_someV hm7z))) (fr_Mo_readWords_B16 hI hJ hF hw (by first | omega | (simp only [inb, Bool.and_eq_true, decide_eq_true_eq] at *; omega)) (ih) hm6z))))
set_option maxHeartbeats 1000000 in
theorem fr_Mo_readWords {W : Nat → Prop} {P : MM → Prop} (hI : ∀ {μ : MM} {a k : Nat} {v : Int32}, W a → P μ → P (mm_I μ a k v)) (hJ : ∀ {μ : MM} {a k : Nat} {v : Int64}, W a → P μ → P (mm_J μ a k v)) (hF : ∀ {μ : MM} {a : Nat} {g : Nat → Int32}, W a → P μ → P (mm_F μ a g)) (hw : ∀ a, 355 ≤ a → W a) {N : Nat} {q1 : Nat} {x2 : Int32} {μ : MM} (hw_q1 : 355 ≤ q1) (h0 : P μ) : fm_V P (f_Mo_readWords N q1 x2 μ) := by
  unfold f_Mo_readWords
  exact fr_Mo_readWords_L2 hI hJ hF hw (by first | omega | (simp only [inb, Bool.and_eq_true, decide_eq_true_eq] at *; omega)) _ _ _ _ h0
set_option maxHeartbeats 1000000 in
theorem fr_Mo_readClause_B53 {W : Nat → Prop} {P : MM → Prop} (hI : ∀ {μ : MM} {a k : Nat} {v : Int32}, W a → P μ → P (mm_I μ a k v)) (hJ : ∀ {μ : MM} {a k : Nat} {v : Int64}, W a → P μ → P (mm_J μ a k v)) (hF : ∀ {μ : MM} {a : Nat} {g : Nat → Int32}, W a → P μ → P (mm_F μ a g)) (hw : ∀ a, 355 ≤ a → W a) {N : Nat} {x1 : Int32} {s0 : Int32} {μ : MM} (h0 : P μ) : fm_V P (f_Mo_readClause_B53 N x1 s0 μ) := by
  unfold f_Mo_readClause_B53
  exact fm_iteV (fm_obV (fr_Mo_fails hI hJ hF hw h0) (fun t59 μ14z hm14z => fm_someV hm14z)) (fm_wrV (hI (hw _ (by first | omega | (simp only [inb, Bool.and_eq_true, decide_eq_true_eq] at *; omega))) h0) (fun μ2z hm2z => fm_iteV (fm_wrV (hI (hw _ (by first | omega | (simp only [inb, Bool.and_eq_true, decide_eq_true_eq] at *; omega))) hm2z) (fun μ12z hm12z => fm_obvV (fr_Mo_readItems hI hJ hF hw (by first | omega | (simp only [inb, Bool.and_eq_true, decide_eq_true_eq] at *; omega)) hm12z) (fun μ13z hm13z => fm_someV hm13z))) (fm_iteV (fm_wrV (hI (hw _ (by first | omega | (simp only [inb, Bool.and_eq_true, decide_eq_true_eq] at *; omega))) hm2z) (fun μ7z hm7z => fm_obvV (fr_Mo_readItems hI hJ hF hw (by first | omega | (simp only [inb, Bool.and_eq_true, decide_eq_true_eq] at *; omega)) hm7z) (fun μ8z hm8z => fm_obV (fr_Mo_isBehindColon hI hJ hF hw hm8z) (fun t137 μ9z hm9z => fm_iteV (fm_someV hm9z) (fm_obV (fr_Mo_readMarks hI hJ hF hw hm9z) (fun t156 μ10z hm10z => fm_gdV (fun g1 => fm_wrV (hI (hw _ (by first | omega | (simp only [inb, Bool.and_eq_true, decide_eq_true_eq] at *; omega))) hm10z) (fun μ11z hm11z => fm_someV hm11z)))))))) (fm_wrV (hI (hw _ (by first | omega | (simp only [inb, Bool.and_eq_true, decide_eq_true_eq] at *; omega))) hm2z) (fun μ3z hm3z => fm_obvV (fr_Mo_readItems hI hJ hF hw (by first | omega | (simp only [inb, Bool.and_eq_true, decide_eq_true_eq] at *; omega)) hm3z) (fun μ4z hm4z => fm_obV (fr_Mo_isBehindColon hI hJ hF hw hm4z) (fun t195 μ5z hm5z => fm_iteV (fm_someV hm5z) (fm_obvV (fr_Mo_readWords hI hJ hF hw (by first | omega | (simp only [inb, Bool.and_eq_true, decide_eq_true_eq] at *; omega)) hm5z) (fun μ6z hm6z => fm_someV hm6z)))))))))
set_option maxHeartbeats 1000000 in
theorem fr_Mo_readClause_B52 {W : Nat → Prop} {P : MM → Prop} (hI : ∀ {μ : MM} {a k : Nat} {v : Int32}, W a → P μ → P (mm_I μ a k v)) (hJ : ∀ {μ : MM} {a k : Nat} {v : Int64}, W a → P μ → P (mm_J μ a k v)) (hF : ∀ {μ : MM} {a : Nat} {g : Nat → Int32}, W a → P μ → P (mm_F μ a g)) (hw : ∀ a, 355 ≤ a → W a) {N : Nat} {x1 : Int32} {μ : MM} (h0 : P μ) : fm_V P (f_Mo_readClause_B52 N x1 μ) := by
  unfold f_Mo_readClause_B52
  exact fr_Mo_readClause_B53 hI hJ hF hw h0
set_option maxHeartbeats 1000000 in
theorem fr_Mo_readClause_B48 {W : Nat → Prop} {P : MM → Prop} (hI : ∀ {μ : MM} {a k : Nat} {v : Int32}, W a → P μ → P (mm_I μ a k v)) (hJ : ∀ {μ : MM} {a k : Nat} {v : Int64}, W a → P μ → P (mm_J μ a k v)) (hF : ∀ {μ : MM} {a : Nat} {g : Nat → Int32}, W a → P μ → P (mm_F μ a g)) (hw : ∀ a, 355 ≤ a → W a) {N : Nat} {x1 : Int32} {μ : MM} (h0 : P μ) : fm_V P (f_Mo_readClause_B48 N x1 μ) := by
  unfold f_Mo_readClause_B48
  exact fr_Mo_readClause_B53 hI hJ hF hw h0
set_option maxHeartbeats 1000000 in
theorem fr_Mo_readClause_B33 {W : Nat → Prop} {P : MM → Prop} (hI : ∀ {μ : MM} {a k : Nat} {v : Int32}, W a → P μ → P (mm_I μ a k v)) (hJ : ∀ {μ : MM} {a k : Nat} {v : Int64}, W a → P μ → P (mm_J μ a k v)) (hF : ∀ {μ : MM} {a : Nat} {g : Nat → Int32}, W a → P μ → P (mm_F μ a g)) (hw : ∀ a, 355 ≤ a → W a) {N : Nat} {x1 : Int32} {μ : MM} (h0 : P μ) : fm_V P (f_Mo_readClause_B33 N x1 μ) := by
  unfold f_Mo_readClause_B33
  exact fm_iteV (fm_iteV (fr_Mo_readClause_B52 hI hJ hF hw h0) (fr_Mo_readClause_B48 hI hJ hF hw h0)) (fr_Mo_readClause_B52 hI hJ hF hw h0)
set_option maxHeartbeats 1000000 in
theorem fr_Mo_readClause_B18 {W : Nat → Prop} {P : MM → Prop} (hI : ∀ {μ : MM} {a k : Nat} {v : Int32}, W a → P μ → P (mm_I μ a k v)) (hJ : ∀ {μ : MM} {a k : Nat} {v : Int64}, W a → P μ → P (mm_J μ a k v)) (hF : ∀ {μ : MM} {a : Nat} {g : Nat → Int32}, W a → P μ → P (mm_F μ a g)) (hw : ∀ a, 355 ≤ a → W a) {N : Nat} {x1 : Int32} {μ : MM} (h0 : P μ) : fm_V P (f_Mo_readClause_B18 N x1 μ) := by
  unfold f_Mo_readClause_B18
  exact fm_iteV (fm_iteV (fr_Mo_readClause_B48 hI hJ hF hw h0) (fr_Mo_readClause_B33 hI hJ hF hw h0)) (fr_Mo_readClause_B33 hI hJ hF hw h0)
set_option maxHeartbeats 1000000 in
theorem fr_Mo_readClause {W : Nat → Prop} {P : MM → Prop} (hI : ∀ {μ : MM} {a k : Nat} {v : Int32}, W a → P μ → P (mm_I μ a k v)) (hJ : ∀ {μ : MM} {a k : Nat} {v : Int64}, W a → P μ → P (mm_J μ a k v)) (hF : ∀ {μ : MM} {a : Nat} {g : Nat → Int32}, W a → P μ → P (mm_F μ a g)) (hw : ∀ a, 355 ≤ a → W a) {N : Nat} {μ : MM} (h0 : P μ) : fm_V P (f_Mo_readClause N μ) := by
  unfold f_Mo_readClause
  exact fm_obV (fr_Mo_look hI hJ hF hw h0) (fun t1 μ1z hm1z => fm_iteV (fm_iteV (fr_Mo_readClause_B48 hI hJ hF hw hm1z) (fr_Mo_readClause_B18 hI hJ hF hw hm1z)) (fr_Mo_readClause_B18 hI hJ hF hw hm1z))
set_option maxHeartbeats 1000000 in
theorem fr_Mo_isWhole_L4 {W : Nat → Prop} {P : MM → Prop} (hI : ∀ {μ : MM} {a k : Nat} {v : Int32}, W a → P μ → P (mm_I μ a k v)) (hJ : ∀ {μ : MM} {a k : Nat} {v : Int64}, W a → P μ → P (mm_J μ a k v)) (hF : ∀ {μ : MM} {a : Nat} {g : Nat → Int32}, W a → P μ → P (mm_F μ a g)) (hw : ∀ a, 355 ≤ a → W a) {N : Nat} : ∀ (n : Nat) (x1 : Int32) (x2 : Int32) (μ : MM), P μ → fm_O P (f_Mo_isWhole_L4 N n x1 x2 μ) := by
  intro n
  induction n with
  | zero => intros; exact fm_none
  | succ n ih =>
    intro x1 x2 μ h0
    rw [f_Mo_isWhole_L4]
    exact fm_ite (fm_ite (fm_some h0) (fm_ite (fm_some h0) (fm_some h0))) (fm_gd (fun g1 => fm_ite (ih _ _ _ h0) (fm_ite (fm_some h0) (fm_ob (fr_Mo_has hI hJ hF hw h0) (fun t43 μ1z hm1z => fm_ite (ih _ _ _ hm1z) (fm_some hm1z))))))
set_option maxHeartbeats 1000000 in
theorem fr_Mo_isWhole {W : Nat → Prop} {P : MM → Prop} (hI : ∀ {μ : MM} {a k : Nat} {v : Int32}, W a → P μ → P (mm_I μ a k v)) (hJ : ∀ {μ : MM} {a k : Nat} {v : Int64}, W a → P μ → P (mm_J μ a k v)) (hF : ∀ {μ : MM} {a : Nat} {g : Nat → Int32}, W a → P μ → P (mm_F μ a g)) (hw : ∀ a, 355 ≤ a → W a) {N : Nat} {μ : MM} (h0 : P μ) : fm_O P (f_Mo_isWhole N μ) := by
  unfold f_Mo_isWhole
  exact fr_Mo_isWhole_L4 hI hJ hF hw _ _ _ _ h0
set_option maxHeartbeats 1000000 in
theorem fr_Mo_readCollection_B134 {W : Nat → Prop} {P : MM → Prop} (hI : ∀ {μ : MM} {a k : Nat} {v : Int32}, W a → P μ → P (mm_I μ a k v)) (hJ : ∀ {μ : MM} {a k : Nat} {v : Int64}, W a → P μ → P (mm_J μ a k v)) (hF : ∀ {μ : MM} {a : Nat} {g : Nat → Int32}, W a → P μ → P (mm_F μ a g)) (hw : ∀ a, 355 ≤ a → W a) {N : Nat} {μ : MM} (h0 : P μ) : fm_V P (f_Mo_readCollection_B134 N μ) := by
  unfold f_Mo_readCollection_B134
  exact fm_obV (fr_Mo_fails hI hJ hF hw h0) (fun t135 μ6z hm6z => fm_someV hm6z)
set_option maxHeartbeats 1000000 in
theorem fr_Mo_readCollection_B111 {W : Nat → Prop} {P : MM → Prop} (hI : ∀ {μ : MM} {a k : Nat} {v : Int32}, W a → P μ → P (mm_I μ a k v)) (hJ : ∀ {μ : MM} {a k : Nat} {v : Int64}, W a → P μ → P (mm_J μ a k v)) (hF : ∀ {μ : MM} {a : Nat} {g : Nat → Int32}, W a → P μ → P (mm_F μ a g)) (hw : ∀ a, 355 ≤ a → W a) {N : Nat} {μ : MM} (h0 : P μ) : fm_V P (f_Mo_readCollection_B111 N μ) := by
  unfold f_Mo_readCollection_B111
  exact fm_iteV (fm_obV (fr_Mo_look hI hJ hF hw h0) (fun t120 μ5z hm5z => fm_iteV (fm_obV (fr_Mo_isWhole hI hJ hF hw hm5z) (fun t128 μ7z hm7z => fm_iteV (fr_Mo_readCollection_B134 hI hJ hF hw hm7z) (fm_someV hm7z))) (fr_Mo_readCollection_B134 hI hJ hF hw hm5z))) (fm_someV h0)
set_option maxHeartbeats 1000000 in
theorem fr_Mo_readCollection_B93 {W : Nat → Prop} {P : MM → Prop} (hI : ∀ {μ : MM} {a k : Nat} {v : Int32}, W a → P μ → P (mm_I μ a k v)) (hJ : ∀ {μ : MM} {a k : Nat} {v : Int64}, W a → P μ → P (mm_J μ a k v)) (hF : ∀ {μ : MM} {a : Nat} {g : Nat → Int32}, W a → P μ → P (mm_F μ a g)) (hw : ∀ a, 355 ≤ a → W a) {N : Nat} {k55 : Int32 → MM → Option MM} {s0 : Int32} {μ : MM} (hk55 : ∀ (z0 : Int32) (z1 : MM), P z1 → fm_V P (k55 z0 z1)) (h0 : P μ) : fm_V P (f_Mo_readCollection_B93 N k55 s0 μ) := by
  unfold f_Mo_readCollection_B93
  exact fm_iteV (hk55 _ _ h0) (fm_wrV (hI (hw _ (by first | omega | (simp only [inb, Bool.and_eq_true, decide_eq_true_eq] at *; omega))) h0) (fun μ9z hm9z => hk55 _ _ hm9z))
set_option maxHeartbeats 1000000 in
theorem fr_Mo_readCollection_B92 {W : Nat → Prop} {P : MM → Prop} (hI : ∀ {μ : MM} {a k : Nat} {v : Int32}, W a → P μ → P (mm_I μ a k v)) (hJ : ∀ {μ : MM} {a k : Nat} {v : Int64}, W a → P μ → P (mm_J μ a k v)) (hF : ∀ {μ : MM} {a : Nat} {g : Nat → Int32}, W a → P μ → P (mm_F μ a g)) (hw : ∀ a, 355 ≤ a → W a) {N : Nat} {k55 : Int32 → MM → Option MM} {μ : MM} (hk55 : ∀ (z0 : Int32) (z1 : MM), P z1 → fm_V P (k55 z0 z1)) (h0 : P μ) : fm_V P (f_Mo_readCollection_B92 N k55 μ) := by
  unfold f_Mo_readCollection_B92
  exact fr_Mo_readCollection_B93 hI hJ hF hw (hk55) h0
set_option maxHeartbeats 1000000 in
theorem fr_Mo_readCollection_L55 {W : Nat → Prop} {P : MM → Prop} (hI : ∀ {μ : MM} {a k : Nat} {v : Int32}, W a → P μ → P (mm_I μ a k v)) (hJ : ∀ {μ : MM} {a k : Nat} {v : Int64}, W a → P μ → P (mm_J μ a k v)) (hF : ∀ {μ : MM} {a : Nat} {g : Nat → Int32}, W a → P μ → P (mm_F μ a g)) (hw : ∀ a, 355 ≤ a → W a) {N : Nat} : ∀ (n : Nat) (x1 : Int32) (μ : MM), P μ → fm_V P (f_Mo_readCollection_L55 N n x1 μ) := by
  intro n
  induction n with
  | zero => intros; exact fm_noneV
  | succ n ih =>
    intro x1 μ h0
    rw [f_Mo_readCollection_L55]
    exact fm_iteV (fr_Mo_readCollection_B111 hI hJ hF hw h0) (fm_iteV (fm_obvV (fr_Mo_readClause hI hJ hF hw h0) (fun μ8z hm8z => fm_iteV (fm_obV (fr_Mo_look hI hJ hF hw hm8z) (fun t80 μ10z hm10z => fm_iteV (fr_Mo_readCollection_B93 hI hJ hF hw (ih) hm10z) (fr_Mo_readCollection_B92 hI hJ hF hw (ih) hm10z))) (fr_Mo_readCollection_B92 hI hJ hF hw (ih) hm8z))) (fr_Mo_readCollection_B111 hI hJ hF hw h0))
set_option maxHeartbeats 1000000 in
theorem fr_Mo_readCollection_L30 {W : Nat → Prop} {P : MM → Prop} (hI : ∀ {μ : MM} {a k : Nat} {v : Int32}, W a → P μ → P (mm_I μ a k v)) (hJ : ∀ {μ : MM} {a k : Nat} {v : Int64}, W a → P μ → P (mm_J μ a k v)) (hF : ∀ {μ : MM} {a : Nat} {g : Nat → Int32}, W a → P μ → P (mm_F μ a g)) (hw : ∀ a, 355 ≤ a → W a) {N : Nat} : ∀ (n : Nat) (x1 : Int32) (μ : MM), P μ → fm_V P (f_Mo_readCollection_L30 N n x1 μ) := by
  intro n
  induction n with
  | zero => intros; exact fm_noneV
  | succ n ih =>
    intro x1 μ h0
    rw [f_Mo_readCollection_L30]
    exact fm_iteV (fr_Mo_readCollection_L55 hI hJ hF hw _ _ _ h0) (fm_obV (fr_Mo_usual hI hJ hF hw h0) (fun t43 μ11z hm11z => fm_gdV (fun g1 => fm_wrV (hI (hw _ (by first | omega | (simp only [inb, Bool.and_eq_true, decide_eq_true_eq] at *; omega))) hm11z) (fun μ12z hm12z => ih _ _ hm12z))))
set_option maxHeartbeats 1000000 in
theorem fr_Mo_readCollection {W : Nat → Prop} {P : MM → Prop} (hI : ∀ {μ : MM} {a k : Nat} {v : Int32}, W a → P μ → P (mm_I μ a k v)) (hJ : ∀ {μ : MM} {a k : Nat} {v : Int64}, W a → P μ → P (mm_J μ a k v)) (hF : ∀ {μ : MM} {a : Nat} {g : Nat → Int32}, W a → P μ → P (mm_F μ a g)) (hw : ∀ a, 355 ≤ a → W a) {N : Nat} {μ : MM} (h0 : P μ) : fm_V P (f_Mo_readCollection N μ) := by
  unfold f_Mo_readCollection
  exact fm_obvV (fr_Mo_starts hI hJ hF hw h0) (fun μ1z hm1z => fm_wrV (hI (hw _ (by first | omega | (simp only [inb, Bool.and_eq_true, decide_eq_true_eq] at *; omega))) hm1z) (fun μ2z hm2z => fm_wrV (hI (hw _ (by first | omega | (simp only [inb, Bool.and_eq_true, decide_eq_true_eq] at *; omega))) hm2z) (fun μ3z hm3z => fm_wrV (hI (hw _ (by first | omega | (simp only [inb, Bool.and_eq_true, decide_eq_true_eq] at *; omega))) hm3z) (fun μ4z hm4z => fr_Mo_readCollection_L30 hI hJ hF hw _ _ _ hm4z))))
set_option maxHeartbeats 1000000 in
theorem fr_Mo_fault_B46 {W : Nat → Prop} {P : MM → Prop} (hI : ∀ {μ : MM} {a k : Nat} {v : Int32}, W a → P μ → P (mm_I μ a k v)) (hJ : ∀ {μ : MM} {a k : Nat} {v : Int64}, W a → P μ → P (mm_J μ a k v)) (hF : ∀ {μ : MM} {a : Nat} {g : Nat → Int32}, W a → P μ → P (mm_F μ a g)) (hw : ∀ a, 355 ≤ a → W a) {N : Nat} {x1 : Int32} {μ : MM} (h0 : P μ) : fm_O P (f_Mo_fault_B46 N x1 μ) := by
  unfold f_Mo_fault_B46
  exact fm_ite (fm_obv (fr_Mo_starts hI hJ hF hw h0) (fun μ3z hm3z => fm_obv (fr_Mo_readWords hI hJ hF hw (by first | omega | (simp only [inb, Bool.and_eq_true, decide_eq_true_eq] at *; omega)) hm3z) (fun μ4z hm4z => fm_ite (fm_ob (fr_Mo_look hI hJ hF hw hm4z) (fun t83 μ5z hm5z => fm_ite (fm_some hm5z) (fm_ob (fr_Mo_fails hI hJ hF hw hm5z) (fun t91 μ6z hm6z => fm_some hm6z)))) (fm_some hm4z)))) (fm_some h0)
set_option maxHeartbeats 1000000 in
theorem fr_Mo_fault_B28 {W : Nat → Prop} {P : MM → Prop} (hI : ∀ {μ : MM} {a k : Nat} {v : Int32}, W a → P μ → P (mm_I μ a k v)) (hJ : ∀ {μ : MM} {a k : Nat} {v : Int64}, W a → P μ → P (mm_J μ a k v)) (hF : ∀ {μ : MM} {a : Nat} {g : Nat → Int32}, W a → P μ → P (mm_F μ a g)) (hw : ∀ a, 355 ≤ a → W a) {N : Nat} {x1 : Int32} {μ : MM} (h0 : P μ) : fm_O P (f_Mo_fault_B28 N x1 μ) := by
  unfold f_Mo_fault_B28
  exact fm_ite (fm_obv (fr_Mo_goThrough hI hJ hF hw h0) (fun μ7z hm7z => fr_Mo_fault_B46 hI hJ hF hw hm7z)) (fr_Mo_fault_B46 hI hJ hF hw h0)
set_option maxHeartbeats 1000000 in
theorem fr_Mo_fault {W : Nat → Prop} {P : MM → Prop} (hI : ∀ {μ : MM} {a k : Nat} {v : Int32}, W a → P μ → P (mm_I μ a k v)) (hJ : ∀ {μ : MM} {a k : Nat} {v : Int64}, W a → P μ → P (mm_J μ a k v)) (hF : ∀ {μ : MM} {a : Nat} {g : Nat → Int32}, W a → P μ → P (mm_F μ a g)) (hw : ∀ a, 355 ≤ a → W a) {N : Nat} {x1 : Int32} {μ : MM} (h0 : P μ) : fm_O P (f_Mo_fault N x1 μ) := by
  unfold f_Mo_fault
  exact fm_wr (hI (hw _ (by first | omega | (simp only [inb, Bool.and_eq_true, decide_eq_true_eq] at *; omega))) h0) (fun μ1z hm1z => fm_ob (fr_Mo_isIn hI hJ hF hw hm1z) (fun t11 μ2z hm2z => fm_ite (fm_some hm2z) (fm_ite (fm_obv (fr_Mo_readCollection hI hJ hF hw hm2z) (fun μ8z hm8z => fr_Mo_fault_B28 hI hJ hF hw hm8z)) (fr_Mo_fault_B28 hI hJ hF hw hm2z))))
set_option maxHeartbeats 1000000 in
theorem fr_Mo_lays_L18 {W : Nat → Prop} {P : MM → Prop} (hI : ∀ {μ : MM} {a k : Nat} {v : Int32}, W a → P μ → P (mm_I μ a k v)) (hJ : ∀ {μ : MM} {a k : Nat} {v : Int64}, W a → P μ → P (mm_J μ a k v)) (hF : ∀ {μ : MM} {a : Nat} {g : Nat → Int32}, W a → P μ → P (mm_F μ a g)) (hw : ∀ a, 355 ≤ a → W a) {N : Nat} {q0 : Nat} {q2 : Nat} (hw_q0 : 355 ≤ q0) : ∀ (n : Nat) (x1 : Int32) (x3 : Int32) (x4 : Int32) (x5 : Int32) (x6 : Int32) (μ : MM), P μ → fm_V P (f_Mo_lays_L18 N q0 q2 n x1 x3 x4 x5 x6 μ) := by
  intro n
  induction n with
  | zero => intros; exact fm_noneV
  | succ n ih =>
    intro x1 x3 x4 x5 x6 μ h0
    rw [f_Mo_lays_L18]
    exact fm_iteV (fm_someV h0) (fm_gdV (fun g1 => fm_gdV (fun g2 => fm_wrV (hI (hw _ (by first | omega | (simp only [inb, Bool.and_eq_true, decide_eq_true_eq] at *; omega))) h0) (fun μ2z hm2z => fm_gdV (fun g3 => fm_gdV (fun g4 => fm_wrV (hI (hw _ (by first | omega | (simp only [inb, Bool.and_eq_true, decide_eq_true_eq] at *; omega))) hm2z) (fun μ3z hm3z => fm_gdV (fun g5 => fm_wrV (hI (hw _ (by first | omega | (simp only [inb, Bool.and_eq_true, decide_eq_true_eq] at *; omega))) hm3z) (fun μ4z hm4z => ih _ _ _ _ _ _ hm4z)))))))))
set_option maxHeartbeats 1000000 in
theorem fr_Mo_lays {W : Nat → Prop} {P : MM → Prop} (hI : ∀ {μ : MM} {a k : Nat} {v : Int32}, W a → P μ → P (mm_I μ a k v)) (hJ : ∀ {μ : MM} {a k : Nat} {v : Int64}, W a → P μ → P (mm_J μ a k v)) (hF : ∀ {μ : MM} {a : Nat} {g : Nat → Int32}, W a → P μ → P (mm_F μ a g)) (hw : ∀ a, 355 ≤ a → W a) {N : Nat} {q0 : Nat} {q2 : Nat} {x1 : Int32} {x3 : Int32} {x4 : Int32} {μ : MM} (hw_q0 : 355 ≤ q0) (h0 : P μ) : fm_V P (f_Mo_lays N q0 q2 x1 x3 x4 μ) := by
  unfold f_Mo_lays
  exact fm_gdV (fun g1 => fm_gdV (fun g2 => fm_wrV (hI (hw _ (by first | omega | (simp only [inb, Bool.and_eq_true, decide_eq_true_eq] at *; omega))) h0) (fun μ1z hm1z => fr_Mo_lays_L18 hI hJ hF hw (by first | omega | (simp only [inb, Bool.and_eq_true, decide_eq_true_eq] at *; omega)) _ _ _ _ _ _ _ hm1z)))
set_option maxHeartbeats 1000000 in
theorem fr_Mo_text_B353 {W : Nat → Prop} {P : MM → Prop} (hI : ∀ {μ : MM} {a k : Nat} {v : Int32}, W a → P μ → P (mm_I μ a k v)) (hJ : ∀ {μ : MM} {a k : Nat} {v : Int64}, W a → P μ → P (mm_J μ a k v)) (hF : ∀ {μ : MM} {a : Nat} {g : Nat → Int32}, W a → P μ → P (mm_F μ a g)) (hw : ∀ a, 355 ≤ a → W a) {N : Nat} {k306 : Int32 → MM → Option (Int32 × MM)} {x3 : Int32} {s1 : Int32} {s2 : Int32} {μ : MM} (hk306 : ∀ (z0 : Int32) (z1 : MM), P z1 → fm_O P (k306 z0 z1)) (h0 : P μ) : fm_O P (f_Mo_text_B353 N k306 x3 s1 s2 μ) := by
  unfold f_Mo_text_B353
  exact fm_gd (fun g1 => fm_wr (hI (hw _ (by first | omega | (simp only [inb, Bool.and_eq_true, decide_eq_true_eq] at *; omega))) h0) (fun μ12z hm12z => fm_gd (fun g2 => fm_obv (fr_Mo_lays hI hJ hF hw (by first | omega | (simp only [inb, Bool.and_eq_true, decide_eq_true_eq] at *; omega)) hm12z) (fun μ13z hm13z => hk306 _ _ hm13z))))
set_option maxHeartbeats 1000000 in
theorem fr_Mo_text_L306 {W : Nat → Prop} {P : MM → Prop} (hI : ∀ {μ : MM} {a k : Nat} {v : Int32}, W a → P μ → P (mm_I μ a k v)) (hJ : ∀ {μ : MM} {a k : Nat} {v : Int64}, W a → P μ → P (mm_J μ a k v)) (hF : ∀ {μ : MM} {a : Nat} {g : Nat → Int32}, W a → P μ → P (mm_F μ a g)) (hw : ∀ a, 355 ≤ a → W a) {N : Nat} : ∀ (n : Nat) (x3 : Int32) (μ : MM), P μ → fm_O P (f_Mo_text_L306 N n x3 μ) := by
  intro n
  induction n with
  | zero => intros; exact fm_none
  | succ n ih =>
    intro x3 μ h0
    rw [f_Mo_text_L306]
    exact fm_ite (fm_wr (hI (hw _ (by first | omega | (simp only [inb, Bool.and_eq_true, decide_eq_true_eq] at *; omega))) h0) (fun μ7z hm7z => fm_wr (hI (hw _ (by first | omega | (simp only [inb, Bool.and_eq_true, decide_eq_true_eq] at *; omega))) hm7z) (fun μ8z hm8z => fm_wr (hI (hw _ (by first | omega | (simp only [inb, Bool.and_eq_true, decide_eq_true_eq] at *; omega))) hm8z) (fun μ9z hm9z => fm_wr (hI (hw _ (by first | omega | (simp only [inb, Bool.and_eq_true, decide_eq_true_eq] at *; omega))) hm9z) (fun μ10z hm10z => fm_wr (hI (hw _ (by first | omega | (simp only [inb, Bool.and_eq_true, decide_eq_true_eq] at *; omega))) hm10z) (fun μ11z hm11z => fm_some hm11z)))))) (fm_gd (fun g1 => fm_ite (fr_Mo_text_B353 hI hJ hF hw (ih) h0) (fm_gd (fun g2 => fr_Mo_text_B353 hI hJ hF hw (ih) h0))))
set_option maxHeartbeats 1000000 in
theorem fr_Mo_text_L284 {W : Nat → Prop} {P : MM → Prop} (hI : ∀ {μ : MM} {a k : Nat} {v : Int32}, W a → P μ → P (mm_I μ a k v)) (hJ : ∀ {μ : MM} {a k : Nat} {v : Int64}, W a → P μ → P (mm_J μ a k v)) (hF : ∀ {μ : MM} {a : Nat} {g : Nat → Int32}, W a → P μ → P (mm_F μ a g)) (hw : ∀ a, 355 ≤ a → W a) {N : Nat} : ∀ (n : Nat) (x3 : Int32) (μ : MM), P μ → fm_O P (f_Mo_text_L284 N n x3 μ) := by
  intro n
  induction n with
  | zero => intros; exact fm_none
  | succ n ih =>
    intro x3 μ h0
    rw [f_Mo_text_L284]
    exact fm_ite (fr_Mo_text_L306 hI hJ hF hw _ _ _ h0) (fm_gd (fun g1 => fm_wr (hI (hw _ (by first | omega | (simp only [inb, Bool.and_eq_true, decide_eq_true_eq] at *; omega))) h0) (fun μ14z hm14z => ih _ _ hm14z)))
set_option maxHeartbeats 1000000 in
theorem fr_Mo_text_L258 {W : Nat → Prop} {P : MM → Prop} (hI : ∀ {μ : MM} {a k : Nat} {v : Int32}, W a → P μ → P (mm_I μ a k v)) (hJ : ∀ {μ : MM} {a k : Nat} {v : Int64}, W a → P μ → P (mm_J μ a k v)) (hF : ∀ {μ : MM} {a : Nat} {g : Nat → Int32}, W a → P μ → P (mm_F μ a g)) (hw : ∀ a, 355 ≤ a → W a) {N : Nat} : ∀ (n : Nat) (x3 : Int32) (μ : MM), P μ → fm_O P (f_Mo_text_L258 N n x3 μ) := by
  intro n
  induction n with
  | zero => intros; exact fm_none
  | succ n ih =>
    intro x3 μ h0
    rw [f_Mo_text_L258]
    exact fm_ite (fr_Mo_text_L284 hI hJ hF hw _ _ _ h0) (fm_gd (fun g1 => fm_gd (fun g2 => fm_wr (hI (hw _ (by first | omega | (simp only [inb, Bool.and_eq_true, decide_eq_true_eq] at *; omega))) h0) (fun μ15z hm15z => ih _ _ hm15z))))
set_option maxHeartbeats 1000000 in
theorem fr_Mo_text_L232 {W : Nat → Prop} {P : MM → Prop} (hI : ∀ {μ : MM} {a k : Nat} {v : Int32}, W a → P μ → P (mm_I μ a k v)) (hJ : ∀ {μ : MM} {a k : Nat} {v : Int64}, W a → P μ → P (mm_J μ a k v)) (hF : ∀ {μ : MM} {a : Nat} {g : Nat → Int32}, W a → P μ → P (mm_F μ a g)) (hw : ∀ a, 355 ≤ a → W a) {N : Nat} : ∀ (n : Nat) (x3 : Int32) (μ : MM), P μ → fm_O P (f_Mo_text_L232 N n x3 μ) := by
  intro n
  induction n with
  | zero => intros; exact fm_none
  | succ n ih =>
    intro x3 μ h0
    rw [f_Mo_text_L232]
    exact fm_ite (fr_Mo_text_L258 hI hJ hF hw _ _ _ h0) (fm_gd (fun g1 => fm_gd (fun g2 => fm_wr (hI (hw _ (by first | omega | (simp only [inb, Bool.and_eq_true, decide_eq_true_eq] at *; omega))) h0) (fun μ16z hm16z => ih _ _ hm16z))))
set_option maxHeartbeats 1000000 in
theorem fr_Mo_text_L207 {W : Nat → Prop} {P : MM → Prop} (hI : ∀ {μ : MM} {a k : Nat} {v : Int32}, W a → P μ → P (mm_I μ a k v)) (hJ : ∀ {μ : MM} {a k : Nat} {v : Int64}, W a → P μ → P (mm_J μ a k v)) (hF : ∀ {μ : MM} {a : Nat} {g : Nat → Int32}, W a → P μ → P (mm_F μ a g)) (hw : ∀ a, 355 ≤ a → W a) {N : Nat} : ∀ (n : Nat) (x3 : Int32) (μ : MM), P μ → fm_O P (f_Mo_text_L207 N n x3 μ) := by
  intro n
  induction n with
  | zero => intros; exact fm_none
  | succ n ih =>
    intro x3 μ h0
    rw [f_Mo_text_L207]
    exact fm_ite (fr_Mo_text_L232 hI hJ hF hw _ _ _ h0) (fm_gd (fun g1 => fm_gd (fun g2 => fm_wr (hI (hw _ (by first | omega | (simp only [inb, Bool.and_eq_true, decide_eq_true_eq] at *; omega))) h0) (fun μ17z hm17z => ih _ _ hm17z))))
set_option maxHeartbeats 1000000 in
theorem fr_Mo_text_L137 {W : Nat → Prop} {P : MM → Prop} (hI : ∀ {μ : MM} {a k : Nat} {v : Int32}, W a → P μ → P (mm_I μ a k v)) (hJ : ∀ {μ : MM} {a k : Nat} {v : Int64}, W a → P μ → P (mm_J μ a k v)) (hF : ∀ {μ : MM} {a : Nat} {g : Nat → Int32}, W a → P μ → P (mm_F μ a g)) (hw : ∀ a, 355 ≤ a → W a) {N : Nat} : ∀ (n : Nat) (x3 : Int32) (μ : MM), P μ → fm_O P (f_Mo_text_L137 N n x3 μ) := by
  intro n
  induction n with
  | zero => intros; exact fm_none
  | succ n ih =>
    intro x3 μ h0
    rw [f_Mo_text_L137]
    exact fm_ite (fm_wr (hI (hw _ (by first | omega | (simp only [inb, Bool.and_eq_true, decide_eq_true_eq] at *; omega))) h0) (fun μ18z hm18z => fm_some hm18z)) (fm_gd (fun g1 => fm_gd (fun g2 => fm_wr (hI (hw _ (by first | omega | (simp only [inb, Bool.and_eq_true, decide_eq_true_eq] at *; omega))) h0) (fun μ19z hm19z => ih _ _ hm19z))))
set_option maxHeartbeats 1000000 in
theorem fr_Mo_text_L71 {W : Nat → Prop} {P : MM → Prop} (hI : ∀ {μ : MM} {a k : Nat} {v : Int32}, W a → P μ → P (mm_I μ a k v)) (hJ : ∀ {μ : MM} {a k : Nat} {v : Int64}, W a → P μ → P (mm_J μ a k v)) (hF : ∀ {μ : MM} {a : Nat} {g : Nat → Int32}, W a → P μ → P (mm_F μ a g)) (hw : ∀ a, 355 ≤ a → W a) {N : Nat} : ∀ (n : Nat) (x2 : Int32) (x3 : Int32) (μ : MM), P μ → fm_O P (f_Mo_text_L71 N n x2 x3 μ) := by
  intro n
  induction n with
  | zero => intros; exact fm_none
  | succ n ih =>
    intro x2 x3 μ h0
    rw [f_Mo_text_L71]
    exact fm_ite (fm_gd (fun g1 => fm_wr (hI (hw _ (by first | omega | (simp only [inb, Bool.and_eq_true, decide_eq_true_eq] at *; omega))) h0) (fun μ20z hm20z => fm_wr (hI (hw _ (by first | omega | (simp only [inb, Bool.and_eq_true, decide_eq_true_eq] at *; omega))) hm20z) (fun μ21z hm21z => fm_some hm21z)))) (fm_gd (fun g2 => fm_gd (fun g3 => fm_wr (hI (hw _ (by first | omega | (simp only [inb, Bool.and_eq_true, decide_eq_true_eq] at *; omega))) h0) (fun μ22z hm22z => ih _ _ _ hm22z))))
set_option maxHeartbeats 1000000 in
theorem fr_Mo_text_B43 {W : Nat → Prop} {P : MM → Prop} (hI : ∀ {μ : MM} {a k : Nat} {v : Int32}, W a → P μ → P (mm_I μ a k v)) (hJ : ∀ {μ : MM} {a k : Nat} {v : Int64}, W a → P μ → P (mm_J μ a k v)) (hF : ∀ {μ : MM} {a : Nat} {g : Nat → Int32}, W a → P μ → P (mm_F μ a g)) (hw : ∀ a, 355 ≤ a → W a) {N : Nat} {x1 : Int32} {μ : MM} (h0 : P μ) : fm_O P (f_Mo_text_B43 N x1 μ) := by
  unfold f_Mo_text_B43
  exact fm_ob (fr_Mo_fault hI hJ hF hw h0) (fun t45 μ3z hm3z => fm_ite (fm_wr (hI (hw _ (by first | omega | (simp only [inb, Bool.and_eq_true, decide_eq_true_eq] at *; omega))) hm3z) (fun μ4z hm4z => fm_ite (fr_Mo_text_L71 hI hJ hF hw _ _ _ _ hm4z) (fm_ite (fr_Mo_text_L137 hI hJ hF hw _ _ _ hm4z) (fm_wr (hI (hw _ (by first | omega | (simp only [inb, Bool.and_eq_true, decide_eq_true_eq] at *; omega))) hm4z) (fun μ5z hm5z => fm_wr (hI (hw _ (by first | omega | (simp only [inb, Bool.and_eq_true, decide_eq_true_eq] at *; omega))) hm5z) (fun μ6z hm6z => fr_Mo_text_L207 hI hJ hF hw _ _ _ hm6z)))))) (fm_some hm3z))
set_option maxHeartbeats 1000000 in
theorem fr_Mo_text_B30 {W : Nat → Prop} {P : MM → Prop} (hI : ∀ {μ : MM} {a k : Nat} {v : Int32}, W a → P μ → P (mm_I μ a k v)) (hJ : ∀ {μ : MM} {a k : Nat} {v : Int64}, W a → P μ → P (mm_J μ a k v)) (hF : ∀ {μ : MM} {a : Nat} {g : Nat → Int32}, W a → P μ → P (mm_F μ a g)) (hw : ∀ a, 355 ≤ a → W a) {N : Nat} {x1 : Int32} {μ : MM} (h0 : P μ) : fm_O P (f_Mo_text_B30 N x1 μ) := by
  unfold f_Mo_text_B30
  exact fm_ite (fm_ite (fm_some h0) (fr_Mo_text_B43 hI hJ hF hw h0)) (fr_Mo_text_B43 hI hJ hF hw h0)
set_option maxHeartbeats 1000000 in
theorem fr_Mo_text {W : Nat → Prop} {P : MM → Prop} (hI : ∀ {μ : MM} {a k : Nat} {v : Int32}, W a → P μ → P (mm_I μ a k v)) (hJ : ∀ {μ : MM} {a k : Nat} {v : Int64}, W a → P μ → P (mm_J μ a k v)) (hF : ∀ {μ : MM} {a : Nat} {g : Nat → Int32}, W a → P μ → P (mm_F μ a g)) (hw : ∀ a, 355 ≤ a → W a) {N : Nat} {x1 : Int32} {μ : MM} (h0 : P μ) : fm_O P (f_Mo_text N x1 μ) := by
  unfold f_Mo_text
  exact fm_wr (hI (hw _ (by first | omega | (simp only [inb, Bool.and_eq_true, decide_eq_true_eq] at *; omega))) h0) (fun μ1z hm1z => fm_ob (fr_Mo_isIn hI hJ hF hw hm1z) (fun t11 μ2z hm2z => fm_ite (fm_some hm2z) (fm_ite (fm_ite (fm_some hm2z) (fr_Mo_text_B30 hI hJ hF hw hm2z)) (fr_Mo_text_B30 hI hJ hF hw hm2z))))
set_option maxHeartbeats 1000000 in
theorem fr_Mo_copies_L2 {W : Nat → Prop} {P : MM → Prop} (hI : ∀ {μ : MM} {a k : Nat} {v : Int32}, W a → P μ → P (mm_I μ a k v)) (hJ : ∀ {μ : MM} {a k : Nat} {v : Int64}, W a → P μ → P (mm_J μ a k v)) (hF : ∀ {μ : MM} {a : Nat} {g : Nat → Int32}, W a → P μ → P (mm_F μ a g)) (hw : ∀ a, 355 ≤ a → W a) {N : Nat} {q0 : Nat} {q1 : Nat} (hw_q1 : 355 ≤ q1) : ∀ (n : Nat) (x2 : Int32) (μ : MM), P μ → fm_V P (f_Mo_copies_L2 N q0 q1 n x2 μ) := by
  intro n
  induction n with
  | zero => intros; exact fm_noneV
  | succ n ih =>
    intro x2 μ h0
    rw [f_Mo_copies_L2]
    exact fm_iteV (fm_someV h0) (fm_gdV (fun g1 => fm_gdV (fun g2 => fm_wrV (hI (hw _ (by first | omega | (simp only [inb, Bool.and_eq_true, decide_eq_true_eq] at *; omega))) h0) (fun μ1z hm1z => ih _ _ hm1z))))
set_option maxHeartbeats 1000000 in
theorem fr_Mo_copies {W : Nat → Prop} {P : MM → Prop} (hI : ∀ {μ : MM} {a k : Nat} {v : Int32}, W a → P μ → P (mm_I μ a k v)) (hJ : ∀ {μ : MM} {a k : Nat} {v : Int64}, W a → P μ → P (mm_J μ a k v)) (hF : ∀ {μ : MM} {a : Nat} {g : Nat → Int32}, W a → P μ → P (mm_F μ a g)) (hw : ∀ a, 355 ≤ a → W a) {N : Nat} {q0 : Nat} {q1 : Nat} {μ : MM} (hw_q1 : 355 ≤ q1) (h0 : P μ) : fm_V P (f_Mo_copies N q0 q1 μ) := by
  unfold f_Mo_copies
  exact fr_Mo_copies_L2 hI hJ hF hw (by first | omega | (simp only [inb, Bool.and_eq_true, decide_eq_true_eq] at *; omega)) _ _ _ h0
set_option maxHeartbeats 1000000 in
theorem fr_Mo_isThing {W : Nat → Prop} {P : MM → Prop} (hI : ∀ {μ : MM} {a k : Nat} {v : Int32}, W a → P μ → P (mm_I μ a k v)) (hJ : ∀ {μ : MM} {a k : Nat} {v : Int64}, W a → P μ → P (mm_J μ a k v)) (hF : ∀ {μ : MM} {a : Nat} {g : Nat → Int32}, W a → P μ → P (mm_F μ a g)) (hw : ∀ a, 355 ≤ a → W a) {N : Nat} {x1 : Int32} {μ : MM} (h0 : P μ) : fm_O P (f_Mo_isThing N x1 μ) := by
  unfold f_Mo_isThing
  exact fm_ite (fm_some h0) (fm_ite (fm_some h0) (fm_some h0))
set_option maxHeartbeats 1000000 in
theorem fr_Mo_isCard {W : Nat → Prop} {P : MM → Prop} (hI : ∀ {μ : MM} {a k : Nat} {v : Int32}, W a → P μ → P (mm_I μ a k v)) (hJ : ∀ {μ : MM} {a k : Nat} {v : Int64}, W a → P μ → P (mm_J μ a k v)) (hF : ∀ {μ : MM} {a : Nat} {g : Nat → Int32}, W a → P μ → P (mm_F μ a g)) (hw : ∀ a, 355 ≤ a → W a) {N : Nat} {x1 : Int32} {μ : MM} (h0 : P μ) : fm_O P (f_Mo_isCard N x1 μ) := by
  unfold f_Mo_isCard
  exact fm_ite (fm_some h0) (fm_ite (fm_some h0) (fm_some h0))
set_option maxHeartbeats 1000000 in
theorem fr_Mo_wordsOf {W : Nat → Prop} {P : MM → Prop} (hI : ∀ {μ : MM} {a k : Nat} {v : Int32}, W a → P μ → P (mm_I μ a k v)) (hJ : ∀ {μ : MM} {a k : Nat} {v : Int64}, W a → P μ → P (mm_J μ a k v)) (hF : ∀ {μ : MM} {a : Nat} {g : Nat → Int32}, W a → P μ → P (mm_F μ a g)) (hw : ∀ a, 355 ≤ a → W a) {N : Nat} {q0 : Nat} {x1 : Int32} {μ : MM} (h0 : P μ) : fm_O P (f_Mo_wordsOf N q0 x1 μ) := by
  unfold f_Mo_wordsOf
  exact fm_gd (fun g1 => fm_some h0)
set_option maxHeartbeats 1000000 in
theorem fr_Mo_sortOf {W : Nat → Prop} {P : MM → Prop} (hI : ∀ {μ : MM} {a k : Nat} {v : Int32}, W a → P μ → P (mm_I μ a k v)) (hJ : ∀ {μ : MM} {a k : Nat} {v : Int64}, W a → P μ → P (mm_J μ a k v)) (hF : ∀ {μ : MM} {a : Nat} {g : Nat → Int32}, W a → P μ → P (mm_F μ a g)) (hw : ∀ a, 355 ≤ a → W a) {N : Nat} {q0 : Nat} {x1 : Int32} {x2 : Int32} {μ : MM} (h0 : P μ) : fm_O P (f_Mo_sortOf N q0 x1 x2 μ) := by
  unfold f_Mo_sortOf
  exact fm_gd (fun g1 => fm_some h0)
set_option maxHeartbeats 1000000 in
theorem fr_Mo_whatOf {W : Nat → Prop} {P : MM → Prop} (hI : ∀ {μ : MM} {a k : Nat} {v : Int32}, W a → P μ → P (mm_I μ a k v)) (hJ : ∀ {μ : MM} {a k : Nat} {v : Int64}, W a → P μ → P (mm_J μ a k v)) (hF : ∀ {μ : MM} {a : Nat} {g : Nat → Int32}, W a → P μ → P (mm_F μ a g)) (hw : ∀ a, 355 ≤ a → W a) {N : Nat} {q0 : Nat} {x1 : Int32} {x2 : Int32} {μ : MM} (h0 : P μ) : fm_O P (f_Mo_whatOf N q0 x1 x2 μ) := by
  unfold f_Mo_whatOf
  exact fm_gd (fun g1 => fm_some h0)
set_option maxHeartbeats 1000000 in
theorem fr_Mo_inkOf {W : Nat → Prop} {P : MM → Prop} (hI : ∀ {μ : MM} {a k : Nat} {v : Int32}, W a → P μ → P (mm_I μ a k v)) (hJ : ∀ {μ : MM} {a k : Nat} {v : Int64}, W a → P μ → P (mm_J μ a k v)) (hF : ∀ {μ : MM} {a : Nat} {g : Nat → Int32}, W a → P μ → P (mm_F μ a g)) (hw : ∀ a, 355 ≤ a → W a) {N : Nat} {q0 : Nat} {x1 : Int32} {x2 : Int32} {μ : MM} (h0 : P μ) : fm_O P (f_Mo_inkOf N q0 x1 x2 μ) := by
  unfold f_Mo_inkOf
  exact fm_gd (fun g1 => fm_some h0)
set_option maxHeartbeats 1000000 in
theorem fr_Mo_marks {W : Nat → Prop} {P : MM → Prop} (hI : ∀ {μ : MM} {a k : Nat} {v : Int32}, W a → P μ → P (mm_I μ a k v)) (hJ : ∀ {μ : MM} {a k : Nat} {v : Int64}, W a → P μ → P (mm_J μ a k v)) (hF : ∀ {μ : MM} {a : Nat} {g : Nat → Int32}, W a → P μ → P (mm_F μ a g)) (hw : ∀ a, 355 ≤ a → W a) {N : Nat} {x1 : Int32} {μ : MM} (h0 : P μ) : fm_O P (f_Mo_marks N x1 μ) := by
  unfold f_Mo_marks
  exact fm_gd (fun g1 => fm_some h0)
set_option maxHeartbeats 1000000 in
theorem fr_Mo_isTrue_B43 {W : Nat → Prop} {P : MM → Prop} (hI : ∀ {μ : MM} {a k : Nat} {v : Int32}, W a → P μ → P (mm_I μ a k v)) (hJ : ∀ {μ : MM} {a k : Nat} {v : Int64}, W a → P μ → P (mm_J μ a k v)) (hF : ∀ {μ : MM} {a : Nat} {g : Nat → Int32}, W a → P μ → P (mm_F μ a g)) (hw : ∀ a, 355 ≤ a → W a) {N : Nat} {q1 : Nat} {s0 : Int32} {s1 : Int32} {μ : MM} (h0 : P μ) : fm_O P (f_Mo_isTrue_B43 N q1 s0 s1 μ) := by
  unfold f_Mo_isTrue_B43
  exact fm_gd (fun g1 => fm_some h0)
set_option maxHeartbeats 1000000 in
theorem fr_Mo_isTrue {W : Nat → Prop} {P : MM → Prop} (hI : ∀ {μ : MM} {a k : Nat} {v : Int32}, W a → P μ → P (mm_I μ a k v)) (hJ : ∀ {μ : MM} {a k : Nat} {v : Int64}, W a → P μ → P (mm_J μ a k v)) (hF : ∀ {μ : MM} {a : Nat} {g : Nat → Int32}, W a → P μ → P (mm_F μ a g)) (hw : ∀ a, 355 ≤ a → W a) {N : Nat} {q1 : Nat} {x2 : Int32} {x3 : Int32} {x4 : Int32} {μ : MM} (h0 : P μ) : fm_O P (f_Mo_isTrue N q1 x2 x3 x4 μ) := by
  unfold f_Mo_isTrue
  exact fm_ob (fr_Mo_whatOf hI hJ hF hw h0) (fun t3 μ1z hm1z => fm_ob (fr_Mo_sortOf hI hJ hF hw hm1z) (fun t11 μ2z hm2z => fm_ite (fm_ite (fm_ob (fr_Mo_marks hI hJ hF hw hm2z) (fun t61 μ5z hm5z => fm_gd (fun g1 => fm_some hm5z))) (fm_ite (fm_some hm2z) (fm_gd (fun g2 => fm_ite (fm_some hm2z) (fm_ob (fr_Mo_marks hI hJ hF hw hm2z) (fun t98 μ3z hm3z => fm_gd (fun g3 => fm_ob (fr_Mo_marks hI hJ hF hw hm3z) (fun t109 μ4z hm4z => fm_gd (fun g4 => fm_some hm4z))))))))) (fm_ob (fr_Mo_marks hI hJ hF hw hm2z) (fun t21 μ6z hm6z => fm_ob (fr_Mo_has hI hJ hF hw hm6z) (fun t26 μ7z hm7z => fm_ob (fr_Mo_sortOf hI hJ hF hw hm7z) (fun t32 μ8z hm8z => fr_Mo_isTrue_B43 hI hJ hF hw hm8z))))))
set_option maxHeartbeats 1000000 in
theorem fr_Mo_fitsIn_L3 {W : Nat → Prop} {P : MM → Prop} (hI : ∀ {μ : MM} {a k : Nat} {v : Int32}, W a → P μ → P (mm_I μ a k v)) (hJ : ∀ {μ : MM} {a k : Nat} {v : Int64}, W a → P μ → P (mm_J μ a k v)) (hF : ∀ {μ : MM} {a : Nat} {g : Nat → Int32}, W a → P μ → P (mm_F μ a g)) (hw : ∀ a, 355 ≤ a → W a) {N : Nat} {q1 : Nat} : ∀ (n : Nat) (x2 : Int32) (x3 : Int32) (x4 : Int32) (μ : MM), P μ → fm_O P (f_Mo_fitsIn_L3 N q1 n x2 x3 x4 μ) := by
  intro n
  induction n with
  | zero => intros; exact fm_none
  | succ n ih =>
    intro x2 x3 x4 μ h0
    rw [f_Mo_fitsIn_L3]
    exact fm_ob (fr_Mo_wordsOf hI hJ hF hw h0) (fun t7 μ1z hm1z => fm_ite (fm_some hm1z) (fm_ob (fr_Mo_inkOf hI hJ hF hw hm1z) (fun t17 μ2z hm2z => fm_ite (ih _ _ _ _ hm2z) (fm_ob (fr_Mo_isTrue hI hJ hF hw hm2z) (fun t29 μ3z hm3z => fm_ite (fm_some hm3z) (ih _ _ _ _ hm3z))))))
set_option maxHeartbeats 1000000 in
theorem fr_Mo_fitsIn {W : Nat → Prop} {P : MM → Prop} (hI : ∀ {μ : MM} {a k : Nat} {v : Int32}, W a → P μ → P (mm_I μ a k v)) (hJ : ∀ {μ : MM} {a k : Nat} {v : Int64}, W a → P μ → P (mm_J μ a k v)) (hF : ∀ {μ : MM} {a : Nat} {g : Nat → Int32}, W a → P μ → P (mm_F μ a g)) (hw : ∀ a, 355 ≤ a → W a) {N : Nat} {q1 : Nat} {x2 : Int32} {x3 : Int32} {μ : MM} (h0 : P μ) : fm_O P (f_Mo_fitsIn N q1 x2 x3 μ) := by
  unfold f_Mo_fitsIn
  exact fr_Mo_fitsIn_L3 hI hJ hF hw _ _ _ _ _ h0
set_option maxHeartbeats 1000000 in
theorem fr_Mo_isRight {W : Nat → Prop} {P : MM → Prop} (hI : ∀ {μ : MM} {a k : Nat} {v : Int32}, W a → P μ → P (mm_I μ a k v)) (hJ : ∀ {μ : MM} {a k : Nat} {v : Int64}, W a → P μ → P (mm_J μ a k v)) (hF : ∀ {μ : MM} {a : Nat} {g : Nat → Int32}, W a → P μ → P (mm_F μ a g)) (hw : ∀ a, 355 ≤ a → W a) {N : Nat} {q1 : Nat} {x2 : Int32} {μ : MM} (h0 : P μ) : fm_O P (f_Mo_isRight N q1 x2 μ) := by
  unfold f_Mo_isRight
  exact fm_gd (fun g1 => fm_ite (fm_some h0) (fm_gd (fun g2 => fm_ob (fr_Mo_fitsIn hI hJ hF hw h0) (fun t19 μ1z hm1z => fm_ite (fm_some hm1z) (fm_some hm1z)))))
set_option maxHeartbeats 1000000 in
theorem fr_Mo_cardOver_L2 {W : Nat → Prop} {P : MM → Prop} (hI : ∀ {μ : MM} {a k : Nat} {v : Int32}, W a → P μ → P (mm_I μ a k v)) (hJ : ∀ {μ : MM} {a k : Nat} {v : Int64}, W a → P μ → P (mm_J μ a k v)) (hF : ∀ {μ : MM} {a : Nat} {g : Nat → Int32}, W a → P μ → P (mm_F μ a g)) (hw : ∀ a, 355 ≤ a → W a) {N : Nat} {q1 : Nat} : ∀ (n : Nat) (x2 : Int32) (x3 : Int32) (μ : MM), P μ → fm_O P (f_Mo_cardOver_L2 N q1 n x2 x3 μ) := by
  intro n
  induction n with
  | zero => intros; exact fm_none
  | succ n ih =>
    intro x2 x3 μ h0
    rw [f_Mo_cardOver_L2]
    exact fm_ite (fm_some h0) (fm_gd (fun g1 => fm_ite (fm_some h0) (ih _ _ _ h0)))
set_option maxHeartbeats 1000000 in
theorem fr_Mo_cardOver {W : Nat → Prop} {P : MM → Prop} (hI : ∀ {μ : MM} {a k : Nat} {v : Int32}, W a → P μ → P (mm_I μ a k v)) (hJ : ∀ {μ : MM} {a k : Nat} {v : Int64}, W a → P μ → P (mm_J μ a k v)) (hF : ∀ {μ : MM} {a : Nat} {g : Nat → Int32}, W a → P μ → P (mm_F μ a g)) (hw : ∀ a, 355 ≤ a → W a) {N : Nat} {q1 : Nat} {x2 : Int32} {μ : MM} (h0 : P μ) : fm_O P (f_Mo_cardOver N q1 x2 μ) := by
  unfold f_Mo_cardOver
  exact fr_Mo_cardOver_L2 hI hJ hF hw _ _ _ _ h0
set_option maxHeartbeats 1000000 in
theorem fr_Mo_fadeOf {W : Nat → Prop} {P : MM → Prop} (hI : ∀ {μ : MM} {a k : Nat} {v : Int32}, W a → P μ → P (mm_I μ a k v)) (hJ : ∀ {μ : MM} {a k : Nat} {v : Int64}, W a → P μ → P (mm_J μ a k v)) (hF : ∀ {μ : MM} {a : Nat} {g : Nat → Int32}, W a → P μ → P (mm_F μ a g)) (hw : ∀ a, 355 ≤ a → W a) {N : Nat} {q1 : Nat} {x2 : Int32} {x3 : Int32} {μ : MM} (h0 : P μ) : fm_O P (f_Mo_fadeOf N q1 x2 x3 μ) := by
  unfold f_Mo_fadeOf
  exact fm_gd (fun g1 => fm_ite (fm_gd (fun g2 => fm_some h0)) (fm_ob (fr_Mo_inkOf hI hJ hF hw h0) (fun t44 μ1z hm1z => fm_wr (hI (hw _ (by first | omega | (simp only [inb, Bool.and_eq_true, decide_eq_true_eq] at *; omega))) hm1z) (fun μ2z hm2z => fm_wr (hI (hw _ (by first | omega | (simp only [inb, Bool.and_eq_true, decide_eq_true_eq] at *; omega))) hm2z) (fun μ3z hm3z => fm_gd (fun g3 => fm_wr (hI (hw _ (by first | omega | (simp only [inb, Bool.and_eq_true, decide_eq_true_eq] at *; omega))) hm3z) (fun μ4z hm4z => fm_wr (hI (hw _ (by first | omega | (simp only [inb, Bool.and_eq_true, decide_eq_true_eq] at *; omega))) hm4z) (fun μ5z hm5z => fm_ob (fr_Mo_sortOf hI hJ hF hw hm5z) (fun t85 μ6z hm6z => fm_wr (hI (hw _ (by first | omega | (simp only [inb, Bool.and_eq_true, decide_eq_true_eq] at *; omega))) hm6z) (fun μ7z hm7z => fm_gd (fun g4 => fm_wr (hI (hw _ (by first | omega | (simp only [inb, Bool.and_eq_true, decide_eq_true_eq] at *; omega))) hm7z) (fun μ8z hm8z => fm_gd (fun g5 => fm_obv (fr_Mo_goThrough hI hJ hF hw hm8z) (fun μ9z hm9z => fm_some hm9z))))))))))))))
set_option maxHeartbeats 1000000 in
theorem fr_Mo_fades_L15 {W : Nat → Prop} {P : MM → Prop} (hI : ∀ {μ : MM} {a k : Nat} {v : Int32}, W a → P μ → P (mm_I μ a k v)) (hJ : ∀ {μ : MM} {a k : Nat} {v : Int64}, W a → P μ → P (mm_J μ a k v)) (hF : ∀ {μ : MM} {a : Nat} {g : Nat → Int32}, W a → P μ → P (mm_F μ a g)) (hw : ∀ a, 355 ≤ a → W a) {N : Nat} {q1 : Nat} {k4 : Int32 → Int32 → MM → Option (Int32 × MM)} (hw_q1 : 355 ≤ q1) (hk4 : ∀ (z0 : Int32) (z1 : Int32) (z2 : MM), P z2 → fm_O P (k4 z0 z1 z2)) : ∀ (n : Nat) (x2 : Int32) (x3 : Int32) (x4 : Int32) (μ : MM), P μ → fm_O P (f_Mo_fades_L15 N q1 k4 n x2 x3 x4 μ) := by
  intro n
  induction n with
  | zero => intros; exact fm_none
  | succ n ih =>
    intro x2 x3 x4 μ h0
    rw [f_Mo_fades_L15]
    exact fm_ob (fr_Mo_wordsOf hI hJ hF hw h0) (fun t19 μ1z hm1z => fm_ite (hk4 _ _ _ hm1z) (fm_ob (fr_Mo_inkOf hI hJ hF hw hm1z) (fun t29 μ2z hm2z => fm_ite (ih _ _ _ _ hm2z) (fm_ob (fr_Mo_fadeOf hI hJ hF hw hm2z) (fun t50 μ3z hm3z => fm_gd (fun g1 => fm_wr (hI (hw _ (by first | omega | (simp only [inb, Bool.and_eq_true, decide_eq_true_eq] at *; omega))) hm3z) (fun μ4z hm4z => ih _ _ _ _ hm4z)))))))
set_option maxHeartbeats 1000000 in
theorem fr_Mo_fades_L4 {W : Nat → Prop} {P : MM → Prop} (hI : ∀ {μ : MM} {a k : Nat} {v : Int32}, W a → P μ → P (mm_I μ a k v)) (hJ : ∀ {μ : MM} {a k : Nat} {v : Int64}, W a → P μ → P (mm_J μ a k v)) (hF : ∀ {μ : MM} {a : Nat} {g : Nat → Int32}, W a → P μ → P (mm_F μ a g)) (hw : ∀ a, 355 ≤ a → W a) {N : Nat} {q1 : Nat} (hw_q1 : 355 ≤ q1) : ∀ (n : Nat) (x2 : Int32) (x3 : Int32) (μ : MM), P μ → fm_O P (f_Mo_fades_L4 N q1 n x2 x3 μ) := by
  intro n
  induction n with
  | zero => intros; exact fm_none
  | succ n ih =>
    intro x2 x3 μ h0
    rw [f_Mo_fades_L4]
    exact fm_ite (fm_some h0) (fr_Mo_fades_L15 hI hJ hF hw (by first | omega | (simp only [inb, Bool.and_eq_true, decide_eq_true_eq] at *; omega)) (ih) _ _ _ _ _ h0)
set_option maxHeartbeats 1000000 in
theorem fr_Mo_fades {W : Nat → Prop} {P : MM → Prop} (hI : ∀ {μ : MM} {a k : Nat} {v : Int32}, W a → P μ → P (mm_I μ a k v)) (hJ : ∀ {μ : MM} {a k : Nat} {v : Int64}, W a → P μ → P (mm_J μ a k v)) (hF : ∀ {μ : MM} {a : Nat} {g : Nat → Int32}, W a → P μ → P (mm_F μ a g)) (hw : ∀ a, 355 ≤ a → W a) {N : Nat} {q1 : Nat} {μ : MM} (hw_q1 : 355 ≤ q1) (h0 : P μ) : fm_O P (f_Mo_fades N q1 μ) := by
  unfold f_Mo_fades
  exact fr_Mo_fades_L4 hI hJ hF hw (by first | omega | (simp only [inb, Bool.and_eq_true, decide_eq_true_eq] at *; omega)) _ _ _ _ h0
set_option maxHeartbeats 1000000 in
theorem fr_Mo_isChanged_L5 {W : Nat → Prop} {P : MM → Prop} (hI : ∀ {μ : MM} {a k : Nat} {v : Int32}, W a → P μ → P (mm_I μ a k v)) (hJ : ∀ {μ : MM} {a k : Nat} {v : Int64}, W a → P μ → P (mm_J μ a k v)) (hF : ∀ {μ : MM} {a : Nat} {g : Nat → Int32}, W a → P μ → P (mm_F μ a g)) (hw : ∀ a, 355 ≤ a → W a) {N : Nat} {q1 : Nat} (hw_q1 : 355 ≤ q1) : ∀ (n : Nat) (x2 : Int32) (x3 : Int32) (x4 : Int32) (μ : MM), P μ → fm_O P (f_Mo_isChanged_L5 N q1 n x2 x3 x4 μ) := by
  intro n
  induction n with
  | zero => intros; exact fm_none
  | succ n ih =>
    intro x2 x3 x4 μ h0
    rw [f_Mo_isChanged_L5]
    exact fm_ite (fm_ite (fm_some h0) (fm_gd (fun g1 => fm_wr (hI (hw _ (by first | omega | (simp only [inb, Bool.and_eq_true, decide_eq_true_eq] at *; omega))) h0) (fun μ1z hm1z => fm_gd (fun g2 => fm_gd (fun g3 => fm_gd (fun g4 => fm_wr (hI (hw _ (by first | omega | (simp only [inb, Bool.and_eq_true, decide_eq_true_eq] at *; omega))) hm1z) (fun μ2z hm2z => fm_some hm2z)))))))) (fm_ob (fr_Mo_cardOver hI hJ hF hw h0) (fun t18 μ3z hm3z => fm_ite (fm_gd (fun g5 => fm_gd (fun g6 => fm_ite (ih _ _ _ _ hm3z) (fm_ob (fr_Mo_fitsIn hI hJ hF hw hm3z) (fun t46 μ4z hm4z => fm_ite (ih _ _ _ _ hm4z) (fm_ite (ih _ _ _ _ hm4z) (fm_gd (fun g7 => fm_gd (fun g8 => fm_ite (ih _ _ _ _ hm4z) (ih _ _ _ _ hm4z)))))))))) (ih _ _ _ _ hm3z)))
set_option maxHeartbeats 1000000 in
theorem fr_Mo_isChanged {W : Nat → Prop} {P : MM → Prop} (hI : ∀ {μ : MM} {a k : Nat} {v : Int32}, W a → P μ → P (mm_I μ a k v)) (hJ : ∀ {μ : MM} {a k : Nat} {v : Int64}, W a → P μ → P (mm_J μ a k v)) (hF : ∀ {μ : MM} {a : Nat} {g : Nat → Int32}, W a → P μ → P (mm_F μ a g)) (hw : ∀ a, 355 ≤ a → W a) {N : Nat} {q1 : Nat} {x2 : Int32} {μ : MM} (hw_q1 : 355 ≤ q1) (h0 : P μ) : fm_O P (f_Mo_isChanged N q1 x2 μ) := by
  unfold f_Mo_isChanged
  exact fr_Mo_isChanged_L5 hI hJ hF hw (by first | omega | (simp only [inb, Bool.and_eq_true, decide_eq_true_eq] at *; omega)) _ _ _ _ _ h0
set_option maxHeartbeats 1000000 in
theorem fr_Mo_goDay_B153 {W : Nat → Prop} {P : MM → Prop} (hI : ∀ {μ : MM} {a k : Nat} {v : Int32}, W a → P μ → P (mm_I μ a k v)) (hJ : ∀ {μ : MM} {a k : Nat} {v : Int64}, W a → P μ → P (mm_J μ a k v)) (hF : ∀ {μ : MM} {a : Nat} {g : Nat → Int32}, W a → P μ → P (mm_F μ a g)) (hw : ∀ a, 355 ≤ a → W a) {N : Nat} {q1 : Nat} {x2 : Int32} {x3 : Int32} {x4 : Int32} {μ : MM} (hw_q1 : 355 ≤ q1) (h0 : P μ) : fm_V P (f_Mo_goDay_B153 N q1 x2 x3 x4 μ) := by
  unfold f_Mo_goDay_B153
  exact fm_gdV (fun g1 => fm_gdV (fun g2 => fm_wrV (hI (hw _ (by first | omega | (simp only [inb, Bool.and_eq_true, decide_eq_true_eq] at *; omega))) h0) (fun μ3z hm3z => fm_gdV (fun g3 => fm_wrV (hI (hw _ (by first | omega | (simp only [inb, Bool.and_eq_true, decide_eq_true_eq] at *; omega))) hm3z) (fun μ4z hm4z => fm_gdV (fun g4 => fm_wrV (hI (hw _ (by first | omega | (simp only [inb, Bool.and_eq_true, decide_eq_true_eq] at *; omega))) hm4z) (fun μ5z hm5z => fm_gdV (fun g5 => fm_gdV (fun g6 => fm_wrV (hI (hw _ (by first | omega | (simp only [inb, Bool.and_eq_true, decide_eq_true_eq] at *; omega))) hm5z) (fun μ6z hm6z => fm_someV hm6z))))))))))
set_option maxHeartbeats 1000000 in
theorem fr_Mo_goDay_L115 {W : Nat → Prop} {P : MM → Prop} (hI : ∀ {μ : MM} {a k : Nat} {v : Int32}, W a → P μ → P (mm_I μ a k v)) (hJ : ∀ {μ : MM} {a k : Nat} {v : Int64}, W a → P μ → P (mm_J μ a k v)) (hF : ∀ {μ : MM} {a : Nat} {g : Nat → Int32}, W a → P μ → P (mm_F μ a g)) (hw : ∀ a, 355 ≤ a → W a) {N : Nat} {q1 : Nat} (hw_q1 : 355 ≤ q1) : ∀ (n : Nat) (x2 : Int32) (x3 : Int32) (x4 : Int32) (x5 : Int32) (μ : MM), P μ → fm_V P (f_Mo_goDay_L115 N q1 n x2 x3 x4 x5 μ) := by
  intro n
  induction n with
  | zero => intros; exact fm_noneV
  | succ n ih =>
    intro x2 x3 x4 x5 μ h0
    rw [f_Mo_goDay_L115]
    exact fm_iteV (fm_gdV (fun g1 => fm_gdV (fun g2 => fm_wrV (hI (hw _ (by first | omega | (simp only [inb, Bool.and_eq_true, decide_eq_true_eq] at *; omega))) h0) (fun μ7z hm7z => fr_Mo_goDay_B153 hI hJ hF hw (by first | omega | (simp only [inb, Bool.and_eq_true, decide_eq_true_eq] at *; omega)) hm7z)))) (fm_gdV (fun g3 => fm_gdV (fun g4 => fm_wrV (hI (hw _ (by first | omega | (simp only [inb, Bool.and_eq_true, decide_eq_true_eq] at *; omega))) h0) (fun μ8z hm8z => ih _ _ _ _ _ hm8z))))
set_option maxHeartbeats 1000000 in
theorem fr_Mo_goDay_L68 {W : Nat → Prop} {P : MM → Prop} (hI : ∀ {μ : MM} {a k : Nat} {v : Int32}, W a → P μ → P (mm_I μ a k v)) (hJ : ∀ {μ : MM} {a k : Nat} {v : Int64}, W a → P μ → P (mm_J μ a k v)) (hF : ∀ {μ : MM} {a : Nat} {g : Nat → Int32}, W a → P μ → P (mm_F μ a g)) (hw : ∀ a, 355 ≤ a → W a) {N : Nat} {q1 : Nat} (hw_q1 : 355 ≤ q1) : ∀ (n : Nat) (x2 : Int32) (x3 : Int32) (x4 : Int32) (x5 : Int32) (μ : MM), P μ → fm_V P (f_Mo_goDay_L68 N q1 n x2 x3 x4 x5 μ) := by
  intro n
  induction n with
  | zero => intros; exact fm_noneV
  | succ n ih =>
    intro x2 x3 x4 x5 μ h0
    rw [f_Mo_goDay_L68]
    exact fm_iteV (fm_gdV (fun g1 => fm_iteV (fr_Mo_goDay_L115 hI hJ hF hw (by first | omega | (simp only [inb, Bool.and_eq_true, decide_eq_true_eq] at *; omega)) _ _ _ _ _ _ h0) (fr_Mo_goDay_B153 hI hJ hF hw (by first | omega | (simp only [inb, Bool.and_eq_true, decide_eq_true_eq] at *; omega)) h0))) (fm_obV (fr_Mo_isRight hI hJ hF hw h0) (fun t83 μ9z hm9z => ih _ _ _ _ _ hm9z))
set_option maxHeartbeats 1000000 in
theorem fr_Mo_goDay_L22 {W : Nat → Prop} {P : MM → Prop} (hI : ∀ {μ : MM} {a k : Nat} {v : Int32}, W a → P μ → P (mm_I μ a k v)) (hJ : ∀ {μ : MM} {a k : Nat} {v : Int64}, W a → P μ → P (mm_J μ a k v)) (hF : ∀ {μ : MM} {a : Nat} {g : Nat → Int32}, W a → P μ → P (mm_F μ a g)) (hw : ∀ a, 355 ≤ a → W a) {N : Nat} {q1 : Nat} (hw_q1 : 355 ≤ q1) : ∀ (n : Nat) (x2 : Int32) (x3 : Int32) (x4 : Int32) (x5 : Int32) (μ : MM), P μ → fm_V P (f_Mo_goDay_L22 N q1 n x2 x3 x4 x5 μ) := by
  intro n
  induction n with
  | zero => intros; exact fm_noneV
  | succ n ih =>
    intro x2 x3 x4 x5 μ h0
    rw [f_Mo_goDay_L22]
    exact fm_iteV (fr_Mo_goDay_L68 hI hJ hF hw (by first | omega | (simp only [inb, Bool.and_eq_true, decide_eq_true_eq] at *; omega)) _ _ _ _ _ _ h0) (fm_obV (fr_Mo_isRight hI hJ hF hw h0) (fun t35 μ10z hm10z => fm_iteV (fm_obV (fr_Mo_isChanged hI hJ hF hw (by first | omega | (simp only [inb, Bool.and_eq_true, decide_eq_true_eq] at *; omega)) hm10z) (fun t46 μ11z hm11z => ih _ _ _ _ _ hm11z)) (ih _ _ _ _ _ hm10z)))
set_option maxHeartbeats 1000000 in
theorem fr_Mo_goDay {W : Nat → Prop} {P : MM → Prop} (hI : ∀ {μ : MM} {a k : Nat} {v : Int32}, W a → P μ → P (mm_I μ a k v)) (hJ : ∀ {μ : MM} {a k : Nat} {v : Int64}, W a → P μ → P (mm_J μ a k v)) (hF : ∀ {μ : MM} {a : Nat} {g : Nat → Int32}, W a → P μ → P (mm_F μ a g)) (hw : ∀ a, 355 ≤ a → W a) {N : Nat} {q1 : Nat} {μ : MM} (hw_q1 : 355 ≤ q1) (h0 : P μ) : fm_V P (f_Mo_goDay N q1 μ) := by
  unfold f_Mo_goDay
  exact fm_obV (fr_Mo_fades hI hJ hF hw (by first | omega | (simp only [inb, Bool.and_eq_true, decide_eq_true_eq] at *; omega)) h0) (fun t2 μ1z hm1z => fm_gdV (fun g1 => fm_gdV (fun g2 => fm_wrV (hI (hw _ (by first | omega | (simp only [inb, Bool.and_eq_true, decide_eq_true_eq] at *; omega))) hm1z) (fun μ2z hm2z => fr_Mo_goDay_L22 hI hJ hF hw (by first | omega | (simp only [inb, Bool.and_eq_true, decide_eq_true_eq] at *; omega)) _ _ _ _ _ _ hm2z))))
set_option maxHeartbeats 1000000 in
theorem fr_Mo_thing_B26 {W : Nat → Prop} {P : MM → Prop} (hI : ∀ {μ : MM} {a k : Nat} {v : Int32}, W a → P μ → P (mm_I μ a k v)) (hJ : ∀ {μ : MM} {a k : Nat} {v : Int64}, W a → P μ → P (mm_J μ a k v)) (hF : ∀ {μ : MM} {a : Nat} {g : Nat → Int32}, W a → P μ → P (mm_F μ a g)) (hw : ∀ a, 355 ≤ a → W a) {N : Nat} {x1 : Int32} {x2 : Int32} {s1 : Int32} {μ : MM} (h0 : P μ) : fm_O P (f_Mo_thing_B26 N x1 x2 s1 μ) := by
  unfold f_Mo_thing_B26
  exact fm_wr (hI (hw _ (by first | omega | (simp only [inb, Bool.and_eq_true, decide_eq_true_eq] at *; omega))) h0) (fun μ2z hm2z => fm_ite (fm_ite (fm_ob (fr_Mo_cardOver hI hJ hF hw hm2z) (fun t49 μ3z hm3z => fm_some hm3z)) (fm_gd (fun g1 => fm_some hm2z))) (fm_some hm2z))
set_option maxHeartbeats 1000000 in
theorem fr_Mo_thing_B25 {W : Nat → Prop} {P : MM → Prop} (hI : ∀ {μ : MM} {a k : Nat} {v : Int32}, W a → P μ → P (mm_I μ a k v)) (hJ : ∀ {μ : MM} {a k : Nat} {v : Int64}, W a → P μ → P (mm_J μ a k v)) (hF : ∀ {μ : MM} {a : Nat} {g : Nat → Int32}, W a → P μ → P (mm_F μ a g)) (hw : ∀ a, 355 ≤ a → W a) {N : Nat} {x1 : Int32} {x2 : Int32} {μ : MM} (h0 : P μ) : fm_O P (f_Mo_thing_B25 N x1 x2 μ) := by
  unfold f_Mo_thing_B25
  exact fr_Mo_thing_B26 hI hJ hF hw h0
set_option maxHeartbeats 1000000 in
theorem fr_Mo_thing {W : Nat → Prop} {P : MM → Prop} (hI : ∀ {μ : MM} {a k : Nat} {v : Int32}, W a → P μ → P (mm_I μ a k v)) (hJ : ∀ {μ : MM} {a k : Nat} {v : Int64}, W a → P μ → P (mm_J μ a k v)) (hF : ∀ {μ : MM} {a : Nat} {g : Nat → Int32}, W a → P μ → P (mm_F μ a g)) (hw : ∀ a, 355 ≤ a → W a) {N : Nat} {x1 : Int32} {x2 : Int32} {μ : MM} (h0 : P μ) : fm_O P (f_Mo_thing N x1 x2 μ) := by
  unfold f_Mo_thing
  exact fm_ob (fr_Mo_isThing hI hJ hF hw h0) (fun t3 μ1z hm1z => fm_ite (fr_Mo_thing_B25 hI hJ hF hw hm1z) (fm_ob (fr_Mo_isIn hI hJ hF hw hm1z) (fun t15 μ4z hm4z => fm_ite (fr_Mo_thing_B25 hI hJ hF hw hm4z) (fr_Mo_thing_B26 hI hJ hF hw hm4z))))
set_option maxHeartbeats 1000000 in
theorem fr_Mo_card {W : Nat → Prop} {P : MM → Prop} (hI : ∀ {μ : MM} {a k : Nat} {v : Int32}, W a → P μ → P (mm_I μ a k v)) (hJ : ∀ {μ : MM} {a k : Nat} {v : Int64}, W a → P μ → P (mm_J μ a k v)) (hF : ∀ {μ : MM} {a : Nat} {g : Nat → Int32}, W a → P μ → P (mm_F μ a g)) (hw : ∀ a, 355 ≤ a → W a) {N : Nat} {x1 : Int32} {x2 : Int32} {μ : MM} (h0 : P μ) : fm_O P (f_Mo_card N x1 x2 μ) := by
  unfold f_Mo_card
  exact fm_wr (hI (hw _ (by first | omega | (simp only [inb, Bool.and_eq_true, decide_eq_true_eq] at *; omega))) h0) (fun μ1z hm1z => fm_ob (fr_Mo_isCard hI hJ hF hw hm1z) (fun t7 μ2z hm2z => fm_ite (fm_some hm2z) (fm_ob (fr_Mo_isIn hI hJ hF hw hm2z) (fun t19 μ3z hm3z => fm_ite (fm_some hm3z) (fm_ite (fm_gd (fun g1 => fm_some hm3z)) (fm_ite (fm_gd (fun g2 => fm_some hm3z)) (fm_ite (fm_ob (fr_Mo_wordsOf hI hJ hF hw hm3z) (fun t70 μ5z hm5z => fm_some hm5z)) (fm_ob (fr_Mo_isRight hI hJ hF hw hm3z) (fun t82 μ4z hm4z => fm_some hm4z)))))))))
set_option maxHeartbeats 1000000 in
theorem fr_Mo_word {W : Nat → Prop} {P : MM → Prop} (hI : ∀ {μ : MM} {a k : Nat} {v : Int32}, W a → P μ → P (mm_I μ a k v)) (hJ : ∀ {μ : MM} {a k : Nat} {v : Int64}, W a → P μ → P (mm_J μ a k v)) (hF : ∀ {μ : MM} {a : Nat} {g : Nat → Int32}, W a → P μ → P (mm_F μ a g)) (hw : ∀ a, 355 ≤ a → W a) {N : Nat} {x1 : Int32} {x2 : Int32} {x3 : Int32} {μ : MM} (h0 : P μ) : fm_O P (f_Mo_word N x1 x2 x3 μ) := by
  unfold f_Mo_word
  exact fm_wr (hI (hw _ (by first | omega | (simp only [inb, Bool.and_eq_true, decide_eq_true_eq] at *; omega))) h0) (fun μ1z hm1z => fm_ob (fr_Mo_isCard hI hJ hF hw hm1z) (fun t7 μ2z hm2z => fm_ite (fm_some hm2z) (fm_ite (fm_some hm2z) (fm_ob (fr_Mo_wordsOf hI hJ hF hw hm2z) (fun t23 μ3z hm3z => fm_ite (fm_some hm3z) (fm_ob (fr_Mo_isIn hI hJ hF hw hm3z) (fun t35 μ4z hm4z => fm_ite (fm_some hm4z) (fm_gd (fun g1 => fm_some hm4z)))))))))
set_option maxHeartbeats 1000000 in
theorem fr_Mo_law_B28 {W : Nat → Prop} {P : MM → Prop} (hI : ∀ {μ : MM} {a k : Nat} {v : Int32}, W a → P μ → P (mm_I μ a k v)) (hJ : ∀ {μ : MM} {a k : Nat} {v : Int64}, W a → P μ → P (mm_J μ a k v)) (hF : ∀ {μ : MM} {a : Nat} {g : Nat → Int32}, W a → P μ → P (mm_F μ a g)) (hw : ∀ a, 355 ≤ a → W a) {N : Nat} {x1 : Int32} {μ : MM} (h0 : P μ) : fm_O P (f_Mo_law_B28 N x1 μ) := by
  unfold f_Mo_law_B28
  exact fm_wr (hI (hw _ (by first | omega | (simp only [inb, Bool.and_eq_true, decide_eq_true_eq] at *; omega))) h0) (fun μ2z hm2z => fm_some hm2z)
set_option maxHeartbeats 1000000 in
theorem fr_Mo_law {W : Nat → Prop} {P : MM → Prop} (hI : ∀ {μ : MM} {a k : Nat} {v : Int32}, W a → P μ → P (mm_I μ a k v)) (hJ : ∀ {μ : MM} {a k : Nat} {v : Int64}, W a → P μ → P (mm_J μ a k v)) (hF : ∀ {μ : MM} {a : Nat} {g : Nat → Int32}, W a → P μ → P (mm_F μ a g)) (hw : ∀ a, 355 ≤ a → W a) {N : Nat} {x1 : Int32} {μ : MM} (h0 : P μ) : fm_O P (f_Mo_law N x1 μ) := by
  unfold f_Mo_law
  exact fm_wr (hI (hw _ (by first | omega | (simp only [inb, Bool.and_eq_true, decide_eq_true_eq] at *; omega))) h0) (fun μ1z hm1z => fm_ite (fr_Mo_law_B28 hI hJ hF hw hm1z) (fm_ob (fr_Mo_isIn hI hJ hF hw hm1z) (fun t20 μ3z hm3z => fm_ite (fm_some hm3z) (fr_Mo_law_B28 hI hJ hF hw hm3z))))
set_option maxHeartbeats 1000000 in
theorem fr_Mo_cleaner {W : Nat → Prop} {P : MM → Prop} (hI : ∀ {μ : MM} {a k : Nat} {v : Int32}, W a → P μ → P (mm_I μ a k v)) (hJ : ∀ {μ : MM} {a k : Nat} {v : Int64}, W a → P μ → P (mm_J μ a k v)) (hF : ∀ {μ : MM} {a : Nat} {g : Nat → Int32}, W a → P μ → P (mm_F μ a g)) (hw : ∀ a, 355 ≤ a → W a) {N : Nat} {x1 : Int32} {μ : MM} (h0 : P μ) : fm_O P (f_Mo_cleaner N x1 μ) := by
  unfold f_Mo_cleaner
  exact fm_wr (hI (hw _ (by first | omega | (simp only [inb, Bool.and_eq_true, decide_eq_true_eq] at *; omega))) h0) (fun μ1z hm1z => fm_ob (fr_Mo_isIn hI hJ hF hw hm1z) (fun t11 μ2z hm2z => fm_ite (fm_some hm2z) (fm_ite (fm_some hm2z) (fm_wr (hI (hw _ (by first | omega | (simp only [inb, Bool.and_eq_true, decide_eq_true_eq] at *; omega))) hm2z) (fun μ3z hm3z => fm_some hm3z)))))
set_option maxHeartbeats 1000000 in
theorem fr_Mo_fits {W : Nat → Prop} {P : MM → Prop} (hI : ∀ {μ : MM} {a k : Nat} {v : Int32}, W a → P μ → P (mm_I μ a k v)) (hJ : ∀ {μ : MM} {a k : Nat} {v : Int64}, W a → P μ → P (mm_J μ a k v)) (hF : ∀ {μ : MM} {a : Nat} {g : Nat → Int32}, W a → P μ → P (mm_F μ a g)) (hw : ∀ a, 355 ≤ a → W a) {N : Nat} {x1 : Int32} {x2 : Int32} {μ : MM} (h0 : P μ) : fm_O P (f_Mo_fits N x1 x2 μ) := by
  unfold f_Mo_fits
  exact fm_wr (hI (hw _ (by first | omega | (simp only [inb, Bool.and_eq_true, decide_eq_true_eq] at *; omega))) h0) (fun μ1z hm1z => fm_ob (fr_Mo_isCard hI hJ hF hw hm1z) (fun t7 μ2z hm2z => fm_ite (fm_some hm2z) (fm_ob (fr_Mo_isThing hI hJ hF hw hm2z) (fun t15 μ3z hm3z => fm_ite (fm_some hm3z) (fm_ob (fr_Mo_fitsIn hI hJ hF hw hm3z) (fun t28 μ4z hm4z => fm_some hm4z))))))
set_option maxHeartbeats 1000000 in
theorem fr_Mo_remember_L52 {W : Nat → Prop} {P : MM → Prop} (hI : ∀ {μ : MM} {a k : Nat} {v : Int32}, W a → P μ → P (mm_I μ a k v)) (hJ : ∀ {μ : MM} {a k : Nat} {v : Int64}, W a → P μ → P (mm_J μ a k v)) (hF : ∀ {μ : MM} {a : Nat} {g : Nat → Int32}, W a → P μ → P (mm_F μ a g)) (hw : ∀ a, 355 ≤ a → W a) {N : Nat} : ∀ (n : Nat) (x1 : Int32) (μ : MM), P μ → fm_V P (f_Mo_remember_L52 N n x1 μ) := by
  intro n
  induction n with
  | zero => intros; exact fm_noneV
  | succ n ih =>
    intro x1 μ h0
    rw [f_Mo_remember_L52]
    exact fm_iteV (fm_wrV (hI (hw _ (by first | omega | (simp only [inb, Bool.and_eq_true, decide_eq_true_eq] at *; omega))) h0) (fun μ1z hm1z => fm_someV hm1z)) (fm_gdV (fun g1 => fm_gdV (fun g2 => fm_wrV (hI (hw _ (by first | omega | (simp only [inb, Bool.and_eq_true, decide_eq_true_eq] at *; omega))) h0) (fun μ2z hm2z => ih _ _ hm2z))))
set_option maxHeartbeats 1000000 in
theorem fr_Mo_remember_L11 {W : Nat → Prop} {P : MM → Prop} (hI : ∀ {μ : MM} {a k : Nat} {v : Int32}, W a → P μ → P (mm_I μ a k v)) (hJ : ∀ {μ : MM} {a k : Nat} {v : Int64}, W a → P μ → P (mm_J μ a k v)) (hF : ∀ {μ : MM} {a : Nat} {g : Nat → Int32}, W a → P μ → P (mm_F μ a g)) (hw : ∀ a, 355 ≤ a → W a) {N : Nat} : ∀ (n : Nat) (x1 : Int32) (μ : MM), P μ → fm_V P (f_Mo_remember_L11 N n x1 μ) := by
  intro n
  induction n with
  | zero => intros; exact fm_noneV
  | succ n ih =>
    intro x1 μ h0
    rw [f_Mo_remember_L11]
    exact fm_iteV (fm_wrV (hI (hw _ (by first | omega | (simp only [inb, Bool.and_eq_true, decide_eq_true_eq] at *; omega))) h0) (fun μ3z hm3z => fr_Mo_remember_L52 hI hJ hF hw _ _ _ hm3z)) (fm_gdV (fun g1 => fm_gdV (fun g2 => fm_wrV (hI (hw _ (by first | omega | (simp only [inb, Bool.and_eq_true, decide_eq_true_eq] at *; omega))) h0) (fun μ4z hm4z => ih _ _ hm4z))))
set_option maxHeartbeats 1000000 in
theorem fr_Mo_remember {W : Nat → Prop} {P : MM → Prop} (hI : ∀ {μ : MM} {a k : Nat} {v : Int32}, W a → P μ → P (mm_I μ a k v)) (hJ : ∀ {μ : MM} {a k : Nat} {v : Int64}, W a → P μ → P (mm_J μ a k v)) (hF : ∀ {μ : MM} {a : Nat} {g : Nat → Int32}, W a → P μ → P (mm_F μ a g)) (hw : ∀ a, 355 ≤ a → W a) {N : Nat} {μ : MM} (h0 : P μ) : fm_V P (f_Mo_remember N μ) := by
  unfold f_Mo_remember
  exact fm_iteV (fr_Mo_remember_L11 hI hJ hF hw _ _ _ h0) (fr_Mo_remember_L52 hI hJ hF hw _ _ _ h0)
set_option maxHeartbeats 1000000 in
theorem fr_Mo_put_ {W : Nat → Prop} {P : MM → Prop} (hI : ∀ {μ : MM} {a k : Nat} {v : Int32}, W a → P μ → P (mm_I μ a k v)) (hJ : ∀ {μ : MM} {a k : Nat} {v : Int64}, W a → P μ → P (mm_J μ a k v)) (hF : ∀ {μ : MM} {a : Nat} {g : Nat → Int32}, W a → P μ → P (mm_F μ a g)) (hw : ∀ a, 355 ≤ a → W a) {N : Nat} {x1 : Int32} {x2 : Int32} {μ : MM} (h0 : P μ) : fm_O P (f_Mo_put_ N x1 x2 μ) := by
  unfold f_Mo_put_
  exact fm_wr (hI (hw _ (by first | omega | (simp only [inb, Bool.and_eq_true, decide_eq_true_eq] at *; omega))) h0) (fun μ1z hm1z => fm_ob (fr_Mo_isThing hI hJ hF hw hm1z) (fun t7 μ2z hm2z => fm_ite (fm_some hm2z) (fm_ob (fr_Mo_isCard hI hJ hF hw hm2z) (fun t15 μ3z hm3z => fm_ite (fm_some hm3z) (fm_ob (fr_Mo_cardOver hI hJ hF hw hm3z) (fun t27 μ4z hm4z => fm_ite (fm_gd (fun g1 => fm_ite (fm_obv (fr_Mo_remember hI hJ hF hw hm4z) (fun μ5z hm5z => fm_gd (fun g2 => fm_wr (hI (hw _ (by first | omega | (simp only [inb, Bool.and_eq_true, decide_eq_true_eq] at *; omega))) hm5z) (fun μ6z hm6z => fm_some hm6z)))) (fm_some hm4z))) (fm_some hm4z)))))))
set_option maxHeartbeats 1000000 in
theorem fr_Mo_take {W : Nat → Prop} {P : MM → Prop} (hI : ∀ {μ : MM} {a k : Nat} {v : Int32}, W a → P μ → P (mm_I μ a k v)) (hJ : ∀ {μ : MM} {a k : Nat} {v : Int64}, W a → P μ → P (mm_J μ a k v)) (hF : ∀ {μ : MM} {a : Nat} {g : Nat → Int32}, W a → P μ → P (mm_F μ a g)) (hw : ∀ a, 355 ≤ a → W a) {N : Nat} {x1 : Int32} {μ : MM} (h0 : P μ) : fm_O P (f_Mo_take N x1 μ) := by
  unfold f_Mo_take
  exact fm_wr (hI (hw _ (by first | omega | (simp only [inb, Bool.and_eq_true, decide_eq_true_eq] at *; omega))) h0) (fun μ1z hm1z => fm_ob (fr_Mo_isCard hI hJ hF hw hm1z) (fun t7 μ2z hm2z => fm_ite (fm_some hm2z) (fm_gd (fun g1 => fm_ite (fm_some hm2z) (fm_obv (fr_Mo_remember hI hJ hF hw hm2z) (fun μ3z hm3z => fm_gd (fun g2 => fm_gd (fun g3 => fm_wr (hI (hw _ (by first | omega | (simp only [inb, Bool.and_eq_true, decide_eq_true_eq] at *; omega))) hm3z) (fun μ4z hm4z => fm_some hm4z)))))))))
set_option maxHeartbeats 1000000 in
theorem fr_Mo_leftOf_L4 {W : Nat → Prop} {P : MM → Prop} (hI : ∀ {μ : MM} {a k : Nat} {v : Int32}, W a → P μ → P (mm_I μ a k v)) (hJ : ∀ {μ : MM} {a k : Nat} {v : Int64}, W a → P μ → P (mm_J μ a k v)) (hF : ∀ {μ : MM} {a : Nat} {g : Nat → Int32}, W a → P μ → P (mm_F μ a g)) (hw : ∀ a, 355 ≤ a → W a) {N : Nat} {q0 : Nat} : ∀ (n : Nat) (x1 : Int32) (x2 : Int32) (x3 : Int32) (μ : MM), P μ → fm_O P (f_Mo_leftOf_L4 N q0 n x1 x2 x3 μ) := by
  intro n
  induction n with
  | zero => intros; exact fm_none
  | succ n ih =>
    intro x1 x2 x3 μ h0
    rw [f_Mo_leftOf_L4]
    exact fm_ob (fr_Mo_wordsOf hI hJ hF hw h0) (fun t7 μ1z hm1z => fm_ite (fm_some hm1z) (fm_ob (fr_Mo_inkOf hI hJ hF hw hm1z) (fun t17 μ2z hm2z => ih _ _ _ _ hm2z)))
set_option maxHeartbeats 1000000 in
theorem fr_Mo_leftOf {W : Nat → Prop} {P : MM → Prop} (hI : ∀ {μ : MM} {a k : Nat} {v : Int32}, W a → P μ → P (mm_I μ a k v)) (hJ : ∀ {μ : MM} {a k : Nat} {v : Int64}, W a → P μ → P (mm_J μ a k v)) (hF : ∀ {μ : MM} {a : Nat} {g : Nat → Int32}, W a → P μ → P (mm_F μ a g)) (hw : ∀ a, 355 ≤ a → W a) {N : Nat} {q0 : Nat} {x1 : Int32} {μ : MM} (h0 : P μ) : fm_O P (f_Mo_leftOf N q0 x1 μ) := by
  unfold f_Mo_leftOf
  exact fr_Mo_leftOf_L4 hI hJ hF hw _ _ _ _ _ h0
set_option maxHeartbeats 1000000 in
theorem fr_Mo_copy_L53 {W : Nat → Prop} {P : MM → Prop} (hI : ∀ {μ : MM} {a k : Nat} {v : Int32}, W a → P μ → P (mm_I μ a k v)) (hJ : ∀ {μ : MM} {a k : Nat} {v : Int64}, W a → P μ → P (mm_J μ a k v)) (hF : ∀ {μ : MM} {a : Nat} {g : Nat → Int32}, W a → P μ → P (mm_F μ a g)) (hw : ∀ a, 355 ≤ a → W a) {N : Nat} : ∀ (n : Nat) (x1 : Int32) (x2 : Int32) (μ : MM), P μ → fm_O P (f_Mo_copy_L53 N n x1 x2 μ) := by
  intro n
  induction n with
  | zero => intros; exact fm_none
  | succ n ih =>
    intro x1 x2 μ h0
    rw [f_Mo_copy_L53]
    exact fm_ob (fr_Mo_wordsOf hI hJ hF hw h0) (fun t59 μ6z hm6z => fm_ite (fm_some hm6z) (fm_ob (fr_Mo_inkOf hI hJ hF hw hm6z) (fun t71 μ7z hm7z => fm_ite (ih _ _ _ hm7z) (fm_gd (fun g1 => fm_wr (hI (hw _ (by first | omega | (simp only [inb, Bool.and_eq_true, decide_eq_true_eq] at *; omega))) hm7z) (fun μ8z hm8z => ih _ _ _ hm8z))))))
set_option maxHeartbeats 1000000 in
theorem fr_Mo_copy {W : Nat → Prop} {P : MM → Prop} (hI : ∀ {μ : MM} {a k : Nat} {v : Int32}, W a → P μ → P (mm_I μ a k v)) (hJ : ∀ {μ : MM} {a k : Nat} {v : Int64}, W a → P μ → P (mm_J μ a k v)) (hF : ∀ {μ : MM} {a : Nat} {g : Nat → Int32}, W a → P μ → P (mm_F μ a g)) (hw : ∀ a, 355 ≤ a → W a) {N : Nat} {x1 : Int32} {μ : MM} (h0 : P μ) : fm_O P (f_Mo_copy N x1 μ) := by
  unfold f_Mo_copy
  exact fm_wr (hI (hw _ (by first | omega | (simp only [inb, Bool.and_eq_true, decide_eq_true_eq] at *; omega))) h0) (fun μ1z hm1z => fm_ob (fr_Mo_isCard hI hJ hF hw hm1z) (fun t7 μ2z hm2z => fm_ite (fm_some hm2z) (fm_ite (fm_some hm2z) (fm_ob (fr_Mo_leftOf hI hJ hF hw hm2z) (fun t28 μ3z hm3z => fm_ite (fm_some hm3z) (fm_obv (fr_Mo_remember hI hJ hF hw hm3z) (fun μ4z hm4z => fm_wr (hI (hw _ (by first | omega | (simp only [inb, Bool.and_eq_true, decide_eq_true_eq] at *; omega))) hm4z) (fun μ5z hm5z => fr_Mo_copy_L53 hI hJ hF hw _ _ _ _ hm5z))))))))
set_option maxHeartbeats 1000000 in
theorem fr_Mo_lamp_B77 {W : Nat → Prop} {P : MM → Prop} (hI : ∀ {μ : MM} {a k : Nat} {v : Int32}, W a → P μ → P (mm_I μ a k v)) (hJ : ∀ {μ : MM} {a k : Nat} {v : Int64}, W a → P μ → P (mm_J μ a k v)) (hF : ∀ {μ : MM} {a : Nat} {g : Nat → Int32}, W a → P μ → P (mm_F μ a g)) (hw : ∀ a, 355 ≤ a → W a) {N : Nat} {k32 : Int32 → Int32 → MM → Option (Int32 × MM)} {x1 : Int32} {x2 : Int32} {s1 : Int32} {s2 : Int32} {s3 : Int32} {μ : MM} (hk32 : ∀ (z0 : Int32) (z1 : Int32) (z2 : MM), P z2 → fm_O P (k32 z0 z1 z2)) (h0 : P μ) : fm_O P (f_Mo_lamp_B77 N k32 x1 x2 s1 s2 s3 μ) := by
  unfold f_Mo_lamp_B77
  exact fm_gd (fun g1 => fm_wr (hI (hw _ (by first | omega | (simp only [inb, Bool.and_eq_true, decide_eq_true_eq] at *; omega))) h0) (fun μ8z hm8z => hk32 _ _ _ hm8z))
set_option maxHeartbeats 1000000 in
theorem fr_Mo_lamp_L32 {W : Nat → Prop} {P : MM → Prop} (hI : ∀ {μ : MM} {a k : Nat} {v : Int32}, W a → P μ → P (mm_I μ a k v)) (hJ : ∀ {μ : MM} {a k : Nat} {v : Int64}, W a → P μ → P (mm_J μ a k v)) (hF : ∀ {μ : MM} {a : Nat} {g : Nat → Int32}, W a → P μ → P (mm_F μ a g)) (hw : ∀ a, 355 ≤ a → W a) {N : Nat} : ∀ (n : Nat) (x1 : Int32) (x2 : Int32) (μ : MM), P μ → fm_O P (f_Mo_lamp_L32 N n x1 x2 μ) := by
  intro n
  induction n with
  | zero => intros; exact fm_none
  | succ n ih =>
    intro x1 x2 μ h0
    rw [f_Mo_lamp_L32]
    exact fm_ob (fr_Mo_wordsOf hI hJ hF hw h0) (fun t38 μ5z hm5z => fm_ite (fm_ob (fr_Mo_leftOf hI hJ hF hw hm5z) (fun t90 μ6z hm6z => fm_some hm6z)) (fm_gd (fun g1 => fm_ob (fr_Mo_inkOf hI hJ hF hw hm5z) (fun t66 μ7z hm7z => fr_Mo_lamp_B77 hI hJ hF hw (ih) hm7z))))
set_option maxHeartbeats 1000000 in
theorem fr_Mo_lamp {W : Nat → Prop} {P : MM → Prop} (hI : ∀ {μ : MM} {a k : Nat} {v : Int32}, W a → P μ → P (mm_I μ a k v)) (hJ : ∀ {μ : MM} {a k : Nat} {v : Int64}, W a → P μ → P (mm_J μ a k v)) (hF : ∀ {μ : MM} {a : Nat} {g : Nat → Int32}, W a → P μ → P (mm_F μ a g)) (hw : ∀ a, 355 ≤ a → W a) {N : Nat} {x1 : Int32} {μ : MM} (h0 : P μ) : fm_O P (f_Mo_lamp N x1 μ) := by
  unfold f_Mo_lamp
  exact fm_wr (hI (hw _ (by first | omega | (simp only [inb, Bool.and_eq_true, decide_eq_true_eq] at *; omega))) h0) (fun μ1z hm1z => fm_ob (fr_Mo_isCard hI hJ hF hw hm1z) (fun t7 μ2z hm2z => fm_ite (fm_some hm2z) (fm_ob (fr_Mo_leftOf hI hJ hF hw hm2z) (fun t18 μ3z hm3z => fm_ite (fm_some hm3z) (fm_obv (fr_Mo_remember hI hJ hF hw hm3z) (fun μ4z hm4z => fr_Mo_lamp_L32 hI hJ hF hw _ _ _ _ hm4z))))))
set_option maxHeartbeats 1000000 in
theorem fr_Mo_light {W : Nat → Prop} {P : MM → Prop} (hI : ∀ {μ : MM} {a k : Nat} {v : Int32}, W a → P μ → P (mm_I μ a k v)) (hJ : ∀ {μ : MM} {a k : Nat} {v : Int64}, W a → P μ → P (mm_J μ a k v)) (hF : ∀ {μ : MM} {a : Nat} {g : Nat → Int32}, W a → P μ → P (mm_F μ a g)) (hw : ∀ a, 355 ≤ a → W a) {N : Nat} {x1 : Int32} {μ : MM} (h0 : P μ) : fm_O P (f_Mo_light N x1 μ) := by
  unfold f_Mo_light
  exact fm_wr (hI (hw _ (by first | omega | (simp only [inb, Bool.and_eq_true, decide_eq_true_eq] at *; omega))) h0) (fun μ1z hm1z => fm_ite (fm_some hm1z) (fm_ob (fr_Mo_isIn hI hJ hF hw hm1z) (fun t18 μ2z hm2z => fm_ite (fm_some hm2z) (fm_ite (fm_some hm2z) (fm_obv (fr_Mo_remember hI hJ hF hw hm2z) (fun μ3z hm3z => fm_wr (hI (hw _ (by first | omega | (simp only [inb, Bool.and_eq_true, decide_eq_true_eq] at *; omega))) hm3z) (fun μ4z hm4z => fm_some hm4z)))))))
set_option maxHeartbeats 1000000 in
theorem fr_Mo_isReading {W : Nat → Prop} {P : MM → Prop} (hI : ∀ {μ : MM} {a k : Nat} {v : Int32}, W a → P μ → P (mm_I μ a k v)) (hJ : ∀ {μ : MM} {a k : Nat} {v : Int64}, W a → P μ → P (mm_J μ a k v)) (hF : ∀ {μ : MM} {a : Nat} {g : Nat → Int32}, W a → P μ → P (mm_F μ a g)) (hw : ∀ a, 355 ≤ a → W a) {N : Nat} {x1 : Int32} {μ : MM} (h0 : P μ) : fm_O P (f_Mo_isReading N x1 μ) := by
  unfold f_Mo_isReading
  exact fm_ite (fm_some h0) (fm_ite (fm_some h0) (fm_some h0))
set_option maxHeartbeats 1000000 in
theorem fr_Mo_write {W : Nat → Prop} {P : MM → Prop} (hI : ∀ {μ : MM} {a k : Nat} {v : Int32}, W a → P μ → P (mm_I μ a k v)) (hJ : ∀ {μ : MM} {a k : Nat} {v : Int64}, W a → P μ → P (mm_J μ a k v)) (hF : ∀ {μ : MM} {a : Nat} {g : Nat → Int32}, W a → P μ → P (mm_F μ a g)) (hw : ∀ a, 355 ≤ a → W a) {N : Nat} {x1 : Int32} {x2 : Int32} {μ : MM} (h0 : P μ) : fm_O P (f_Mo_write N x1 x2 μ) := by
  unfold f_Mo_write
  exact fm_wr (hI (hw _ (by first | omega | (simp only [inb, Bool.and_eq_true, decide_eq_true_eq] at *; omega))) h0) (fun μ1z hm1z => fm_ob (fr_Mo_isCard hI hJ hF hw hm1z) (fun t7 μ2z hm2z => fm_ite (fm_some hm2z) (fm_ob (fr_Mo_isReading hI hJ hF hw hm2z) (fun t15 μ3z hm3z => fm_ite (fm_some hm3z) (fm_gd (fun g1 => fm_ite (fm_obv (fr_Mo_remember hI hJ hF hw hm3z) (fun μ4z hm4z => fm_obv (fr_Mo_lays hI hJ hF hw (by first | omega | (simp only [inb, Bool.and_eq_true, decide_eq_true_eq] at *; omega)) hm4z) (fun μ5z hm5z => fm_ob (fr_Mo_wordsOf hI hJ hF hw hm5z) (fun t63 μ6z hm6z => fm_some hm6z)))) (fm_some hm3z)))))))
set_option maxHeartbeats 1000000 in
theorem fr_Mo_days_L28 {W : Nat → Prop} {P : MM → Prop} (hI : ∀ {μ : MM} {a k : Nat} {v : Int32}, W a → P μ → P (mm_I μ a k v)) (hJ : ∀ {μ : MM} {a k : Nat} {v : Int64}, W a → P μ → P (mm_J μ a k v)) (hF : ∀ {μ : MM} {a : Nat} {g : Nat → Int32}, W a → P μ → P (mm_F μ a g)) (hw : ∀ a, 355 ≤ a → W a) {N : Nat} : ∀ (n : Nat) (x1 : Int32) (x2 : Int32) (μ : MM), P μ → fm_O P (f_Mo_days_L28 N n x1 x2 μ) := by
  intro n
  induction n with
  | zero => intros; exact fm_none
  | succ n ih =>
    intro x1 x2 μ h0
    rw [f_Mo_days_L28]
    exact fm_ite (fm_some h0) (fm_obv (fr_Mo_remember hI hJ hF hw h0) (fun μ3z hm3z => fm_obv (fr_Mo_goDay hI hJ hF hw (by first | omega | (simp only [inb, Bool.and_eq_true, decide_eq_true_eq] at *; omega)) hm3z) (fun μ4z hm4z => ih _ _ _ hm4z)))
set_option maxHeartbeats 1000000 in
theorem fr_Mo_days {W : Nat → Prop} {P : MM → Prop} (hI : ∀ {μ : MM} {a k : Nat} {v : Int32}, W a → P μ → P (mm_I μ a k v)) (hJ : ∀ {μ : MM} {a k : Nat} {v : Int64}, W a → P μ → P (mm_J μ a k v)) (hF : ∀ {μ : MM} {a : Nat} {g : Nat → Int32}, W a → P μ → P (mm_F μ a g)) (hw : ∀ a, 355 ≤ a → W a) {N : Nat} {x1 : Int32} {μ : MM} (h0 : P μ) : fm_O P (f_Mo_days N x1 μ) := by
  unfold f_Mo_days
  exact fm_wr (hI (hw _ (by first | omega | (simp only [inb, Bool.and_eq_true, decide_eq_true_eq] at *; omega))) h0) (fun μ1z hm1z => fm_ite (fm_some hm1z) (fm_ob (fr_Mo_isIn hI hJ hF hw hm1z) (fun t18 μ2z hm2z => fm_ite (fm_some hm2z) (fr_Mo_days_L28 hI hJ hF hw _ _ _ _ hm2z))))
set_option maxHeartbeats 1000000 in
theorem fr_Mo_draw {W : Nat → Prop} {P : MM → Prop} (hI : ∀ {μ : MM} {a k : Nat} {v : Int32}, W a → P μ → P (mm_I μ a k v)) (hJ : ∀ {μ : MM} {a k : Nat} {v : Int64}, W a → P μ → P (mm_J μ a k v)) (hF : ∀ {μ : MM} {a : Nat} {g : Nat → Int32}, W a → P μ → P (mm_F μ a g)) (hw : ∀ a, 355 ≤ a → W a) {N : Nat} {x1 : Int32} {μ : MM} (h0 : P μ) : fm_O P (f_Mo_draw N x1 μ) := by
  unfold f_Mo_draw
  exact fm_wr (hJ (hw _ (by first | omega | (simp only [inb, Bool.and_eq_true, decide_eq_true_eq] at *; omega))) h0) (fun μ1z hm1z => fm_gd (fun g1 => fm_some hm1z))
set_option maxHeartbeats 1000000 in
theorem fr_Mo_decades_B121 {W : Nat → Prop} {P : MM → Prop} (hI : ∀ {μ : MM} {a k : Nat} {v : Int32}, W a → P μ → P (mm_I μ a k v)) (hJ : ∀ {μ : MM} {a k : Nat} {v : Int64}, W a → P μ → P (mm_J μ a k v)) (hF : ∀ {μ : MM} {a : Nat} {g : Nat → Int32}, W a → P μ → P (mm_F μ a g)) (hw : ∀ a, 355 ≤ a → W a) {N : Nat} {k34 : Int32 → Int32 → MM → Option (Int32 × MM)} {x1 : Int32} {x4 : Int32} {μ : MM} (hk34 : ∀ (z0 : Int32) (z1 : Int32) (z2 : MM), P z2 → fm_O P (k34 z0 z1 z2)) (h0 : P μ) : fm_O P (f_Mo_decades_B121 N k34 x1 x4 μ) := by
  unfold f_Mo_decades_B121
  exact fm_obv (fr_Mo_goDay hI hJ hF hw (by first | omega | (simp only [inb, Bool.and_eq_true, decide_eq_true_eq] at *; omega)) h0) (fun μ6z hm6z => hk34 _ _ _ hm6z)
set_option maxHeartbeats 1000000 in
theorem fr_Mo_decades_L34 {W : Nat → Prop} {P : MM → Prop} (hI : ∀ {μ : MM} {a k : Nat} {v : Int32}, W a → P μ → P (mm_I μ a k v)) (hJ : ∀ {μ : MM} {a k : Nat} {v : Int64}, W a → P μ → P (mm_J μ a k v)) (hF : ∀ {μ : MM} {a : Nat} {g : Nat → Int32}, W a → P μ → P (mm_F μ a g)) (hw : ∀ a, 355 ≤ a → W a) {N : Nat} : ∀ (n : Nat) (x1 : Int32) (x4 : Int32) (μ : MM), P μ → fm_O P (f_Mo_decades_L34 N n x1 x4 μ) := by
  intro n
  induction n with
  | zero => intros; exact fm_none
  | succ n ih =>
    intro x1 x4 μ h0
    rw [f_Mo_decades_L34]
    exact fm_ite (fm_some h0) (fm_obv (fr_Mo_remember hI hJ hF hw h0) (fun μ4z hm4z => fm_ob (fr_Mo_draw hI hJ hF hw hm4z) (fun t47 μ5z hm5z => fm_ite (fr_Mo_decades_B121 hI hJ hF hw (ih) hm5z) (fm_ob (fr_Mo_draw hI hJ hF hw hm5z) (fun t62 μ7z hm7z => fm_ob (fr_Mo_draw hI hJ hF hw hm7z) (fun t72 μ8z hm8z => fm_gd (fun g1 => fm_gd (fun g2 => fm_gd (fun g3 => fm_wr (hI (hw _ (by first | omega | (simp only [inb, Bool.and_eq_true, decide_eq_true_eq] at *; omega))) hm8z) (fun μ9z hm9z => fm_gd (fun g4 => fm_wr (hI (hw _ (by first | omega | (simp only [inb, Bool.and_eq_true, decide_eq_true_eq] at *; omega))) hm9z) (fun μ10z hm10z => fr_Mo_decades_B121 hI hJ hF hw (ih) hm10z))))))))))))
set_option maxHeartbeats 1000000 in
theorem fr_Mo_decades {W : Nat → Prop} {P : MM → Prop} (hI : ∀ {μ : MM} {a k : Nat} {v : Int32}, W a → P μ → P (mm_I μ a k v)) (hJ : ∀ {μ : MM} {a k : Nat} {v : Int64}, W a → P μ → P (mm_J μ a k v)) (hF : ∀ {μ : MM} {a : Nat} {g : Nat → Int32}, W a → P μ → P (mm_F μ a g)) (hw : ∀ a, 355 ≤ a → W a) {N : Nat} {x1 : Int32} {y2 : Int64} {μ : MM} (h0 : P μ) : fm_O P (f_Mo_decades N x1 y2 μ) := by
  unfold f_Mo_decades
  exact fm_wr (hI (hw _ (by first | omega | (simp only [inb, Bool.and_eq_true, decide_eq_true_eq] at *; omega))) h0) (fun μ1z hm1z => fm_ite (fm_some hm1z) (fm_ob (fr_Mo_isIn hI hJ hF hw hm1z) (fun t18 μ2z hm2z => fm_ite (fm_some hm2z) (fm_wr (hJ (hw _ (by first | omega | (simp only [inb, Bool.and_eq_true, decide_eq_true_eq] at *; omega))) hm2z) (fun μ3z hm3z => fr_Mo_decades_L34 hI hJ hF hw _ _ _ _ hm3z)))))
set_option maxHeartbeats 1000000 in
theorem fr_Mo_undo_L26 {W : Nat → Prop} {P : MM → Prop} (hI : ∀ {μ : MM} {a k : Nat} {v : Int32}, W a → P μ → P (mm_I μ a k v)) (hJ : ∀ {μ : MM} {a k : Nat} {v : Int64}, W a → P μ → P (mm_J μ a k v)) (hF : ∀ {μ : MM} {a : Nat} {g : Nat → Int32}, W a → P μ → P (mm_F μ a g)) (hw : ∀ a, 355 ≤ a → W a) {N : Nat} : ∀ (n : Nat) (x1 : Int32) (μ : MM), P μ → fm_O P (f_Mo_undo_L26 N n x1 μ) := by
  intro n
  induction n with
  | zero => intros; exact fm_none
  | succ n ih =>
    intro x1 μ h0
    rw [f_Mo_undo_L26]
    exact fm_ite (fm_some h0) (fm_gd (fun g1 => fm_gd (fun g2 => fm_wr (hI (hw _ (by first | omega | (simp only [inb, Bool.and_eq_true, decide_eq_true_eq] at *; omega))) h0) (fun μ3z hm3z => ih _ _ hm3z))))
set_option maxHeartbeats 1000000 in
theorem fr_Mo_undo {W : Nat → Prop} {P : MM → Prop} (hI : ∀ {μ : MM} {a k : Nat} {v : Int32}, W a → P μ → P (mm_I μ a k v)) (hJ : ∀ {μ : MM} {a k : Nat} {v : Int64}, W a → P μ → P (mm_J μ a k v)) (hF : ∀ {μ : MM} {a : Nat} {g : Nat → Int32}, W a → P μ → P (mm_F μ a g)) (hw : ∀ a, 355 ≤ a → W a) {N : Nat} {μ : MM} (h0 : P μ) : fm_O P (f_Mo_undo N μ) := by
  unfold f_Mo_undo
  exact fm_wr (hI (hw _ (by first | omega | (simp only [inb, Bool.and_eq_true, decide_eq_true_eq] at *; omega))) h0) (fun μ1z hm1z => fm_ite (fm_some hm1z) (fm_wr (hI (hw _ (by first | omega | (simp only [inb, Bool.and_eq_true, decide_eq_true_eq] at *; omega))) hm1z) (fun μ2z hm2z => fr_Mo_undo_L26 hI hJ hF hw _ _ _ hm2z)))
set_option maxHeartbeats 1000000 in
theorem fr_Mo_log {W : Nat → Prop} {P : MM → Prop} (hI : ∀ {μ : MM} {a k : Nat} {v : Int32}, W a → P μ → P (mm_I μ a k v)) (hJ : ∀ {μ : MM} {a k : Nat} {v : Int64}, W a → P μ → P (mm_J μ a k v)) (hF : ∀ {μ : MM} {a : Nat} {g : Nat → Int32}, W a → P μ → P (mm_F μ a g)) (hw : ∀ a, 355 ≤ a → W a) {N : Nat} {x1 : Int32} {x2 : Int32} {μ : MM} (h0 : P μ) : fm_O P (f_Mo_log N x1 x2 μ) := by
  unfold f_Mo_log
  exact fm_wr (hI (hw _ (by first | omega | (simp only [inb, Bool.and_eq_true, decide_eq_true_eq] at *; omega))) h0) (fun μ1z hm1z => fm_ob (fr_Mo_isIn hI hJ hF hw hm1z) (fun t18 μ2z hm2z => fm_ite (fm_some hm2z) (fm_ob (fr_Mo_isIn hI hJ hF hw hm2z) (fun t30 μ3z hm3z => fm_ite (fm_some hm3z) (fm_gd (fun g1 => fm_some hm3z))))))
set_option maxHeartbeats 1000000 in
theorem fr_Mo_reading {W : Nat → Prop} {P : MM → Prop} (hI : ∀ {μ : MM} {a k : Nat} {v : Int32}, W a → P μ → P (mm_I μ a k v)) (hJ : ∀ {μ : MM} {a k : Nat} {v : Int64}, W a → P μ → P (mm_J μ a k v)) (hF : ∀ {μ : MM} {a : Nat} {g : Nat → Int32}, W a → P μ → P (mm_F μ a g)) (hw : ∀ a, 355 ≤ a → W a) {N : Nat} {x1 : Int32} {x2 : Int32} {x3 : Int32} {μ : MM} (h0 : P μ) : fm_O P (f_Mo_reading N x1 x2 x3 μ) := by
  unfold f_Mo_reading
  exact fm_wr (hI (hw _ (by first | omega | (simp only [inb, Bool.and_eq_true, decide_eq_true_eq] at *; omega))) h0) (fun μ1z hm1z => fm_ob (fr_Mo_isReading hI hJ hF hw hm1z) (fun t7 μ2z hm2z => fm_ite (fm_some hm2z) (fm_ite (fm_some hm2z) (fm_gd (fun g1 => fm_ite (fm_some hm2z) (fm_ob (fr_Mo_isIn hI hJ hF hw hm2z) (fun t34 μ3z hm3z => fm_ite (fm_some hm3z) (fm_gd (fun g2 => fm_some hm3z)))))))))
set_option maxHeartbeats 1000000 in
theorem fr_Mo_right_L18 {W : Nat → Prop} {P : MM → Prop} (hI : ∀ {μ : MM} {a k : Nat} {v : Int32}, W a → P μ → P (mm_I μ a k v)) (hJ : ∀ {μ : MM} {a k : Nat} {v : Int64}, W a → P μ → P (mm_J μ a k v)) (hF : ∀ {μ : MM} {a : Nat} {g : Nat → Int32}, W a → P μ → P (mm_F μ a g)) (hw : ∀ a, 355 ≤ a → W a) {N : Nat} : ∀ (n : Nat) (x1 : Int32) (x2 : Int32) (μ : MM), P μ → fm_O P (f_Mo_right_L18 N n x1 x2 μ) := by
  intro n
  induction n with
  | zero => intros; exact fm_none
  | succ n ih =>
    intro x1 x2 μ h0
    rw [f_Mo_right_L18]
    exact fm_ite (fm_some h0) (fm_ob (fr_Mo_isRight hI hJ hF hw h0) (fun t33 μ2z hm2z => ih _ _ _ hm2z))
set_option maxHeartbeats 1000000 in
theorem fr_Mo_right {W : Nat → Prop} {P : MM → Prop} (hI : ∀ {μ : MM} {a k : Nat} {v : Int32}, W a → P μ → P (mm_I μ a k v)) (hJ : ∀ {μ : MM} {a k : Nat} {v : Int64}, W a → P μ → P (mm_J μ a k v)) (hF : ∀ {μ : MM} {a : Nat} {g : Nat → Int32}, W a → P μ → P (mm_F μ a g)) (hw : ∀ a, 355 ≤ a → W a) {N : Nat} {μ : MM} (h0 : P μ) : fm_O P (f_Mo_right N μ) := by
  unfold f_Mo_right
  exact fm_wr (hI (hw _ (by first | omega | (simp only [inb, Bool.and_eq_true, decide_eq_true_eq] at *; omega))) h0) (fun μ1z hm1z => fm_ite (fm_some hm1z) (fr_Mo_right_L18 hI hJ hF hw _ _ _ _ hm1z))
set_option maxHeartbeats 1000000 in
theorem fr_Mo_goMatch_L119 {W : Nat → Prop} {P : MM → Prop} (hI : ∀ {μ : MM} {a k : Nat} {v : Int32}, W a → P μ → P (mm_I μ a k v)) (hJ : ∀ {μ : MM} {a k : Nat} {v : Int64}, W a → P μ → P (mm_J μ a k v)) (hF : ∀ {μ : MM} {a : Nat} {g : Nat → Int32}, W a → P μ → P (mm_F μ a g)) (hw : ∀ a, 355 ≤ a → W a) {N : Nat} {rc_X12_goMatch : Int32 → Int32 → Int32 → Int32 → Int32 → MM → Option MM} (hrc_X12_goMatch : ∀ (z0 : Int32) (z1 : Int32) (z2 : Int32) (z3 : Int32) (z4 : Int32) (z5 : MM), P z5 → fm_V P (rc_X12_goMatch z0 z1 z2 z3 z4 z5)) : ∀ (n : Nat) (x1 : Int32) (x2 : Int32) (x3 : Int32) (x4 : Int32) (x5 : Int32) (x6 : Int32) (μ : MM), P μ → fm_V P (f_Mo_goMatch_L119 N rc_X12_goMatch n x1 x2 x3 x4 x5 x6 μ) := by
  intro n
  induction n with
  | zero => intros; exact fm_noneV
  | succ n ih =>
    intro x1 x2 x3 x4 x5 x6 μ h0
    rw [f_Mo_goMatch_L119]
    exact fm_iteV (fm_gdV (fun g1 => fm_wrV (hI (hw _ (by first | omega | (simp only [inb, Bool.and_eq_true, decide_eq_true_eq] at *; omega))) h0) (fun μ1z hm1z => fm_obvV (hrc_X12_goMatch _ _ _ _ _ _ hm1z) (fun μ2z hm2z => fm_someV hm2z)))) (fm_obV (fr_Mo_has hI hJ hF hw h0) (fun t131 μ3z hm3z => fm_iteV (fm_gdV (fun g2 => fm_wrV (hI (hw _ (by first | omega | (simp only [inb, Bool.and_eq_true, decide_eq_true_eq] at *; omega))) hm3z) (fun μ4z hm4z => fm_gdV (fun g3 => fm_obvV (hrc_X12_goMatch _ _ _ _ _ _ hm4z) (fun μ5z hm5z => ih _ _ _ _ _ _ _ hm5z))))) (ih _ _ _ _ _ _ _ hm3z)))
set_option maxHeartbeats 1000000 in
theorem fr_Mo_goMatch_L45 {W : Nat → Prop} {P : MM → Prop} (hI : ∀ {μ : MM} {a k : Nat} {v : Int32}, W a → P μ → P (mm_I μ a k v)) (hJ : ∀ {μ : MM} {a k : Nat} {v : Int64}, W a → P μ → P (mm_J μ a k v)) (hF : ∀ {μ : MM} {a : Nat} {g : Nat → Int32}, W a → P μ → P (mm_F μ a g)) (hw : ∀ a, 355 ≤ a → W a) {N : Nat} {rc_X12_goMatch : Int32 → Int32 → Int32 → Int32 → Int32 → MM → Option MM} (hrc_X12_goMatch : ∀ (z0 : Int32) (z1 : Int32) (z2 : Int32) (z3 : Int32) (z4 : Int32) (z5 : MM), P z5 → fm_V P (rc_X12_goMatch z0 z1 z2 z3 z4 z5)) : ∀ (n : Nat) (x3 : Int32) (x4 : Int32) (x5 : Int32) (x6 : Int32) (μ : MM), P μ → fm_V P (f_Mo_goMatch_L45 N rc_X12_goMatch n x3 x4 x5 x6 μ) := by
  intro n
  induction n with
  | zero => intros; exact fm_noneV
  | succ n ih =>
    intro x3 x4 x5 x6 μ h0
    rw [f_Mo_goMatch_L45]
    exact fm_iteV (fm_wrV (hI (hw _ (by first | omega | (simp only [inb, Bool.and_eq_true, decide_eq_true_eq] at *; omega))) h0) (fun μ6z hm6z => fm_wrV (hI (hw _ (by first | omega | (simp only [inb, Bool.and_eq_true, decide_eq_true_eq] at *; omega))) hm6z) (fun μ7z hm7z => fm_wrV (hI (hw _ (by first | omega | (simp only [inb, Bool.and_eq_true, decide_eq_true_eq] at *; omega))) hm7z) (fun μ8z hm8z => fm_someV hm8z)))) (fm_gdV (fun g1 => fm_iteV (ih _ _ _ _ _ h0) (fm_gdV (fun g2 => fm_obV (fr_Mo_fitsIn hI hJ hF hw h0) (fun t85 μ9z hm9z => fm_iteV (fm_someV hm9z) (ih _ _ _ _ _ hm9z))))))
set_option maxHeartbeats 1000000 in
theorem fr_Mo_goMatch_body {W : Nat → Prop} {P : MM → Prop} (hI : ∀ {μ : MM} {a k : Nat} {v : Int32}, W a → P μ → P (mm_I μ a k v)) (hJ : ∀ {μ : MM} {a k : Nat} {v : Int64}, W a → P μ → P (mm_J μ a k v)) (hF : ∀ {μ : MM} {a : Nat} {g : Nat → Int32}, W a → P μ → P (mm_F μ a g)) (hw : ∀ a, 355 ≤ a → W a) {N : Nat} {rc_X12_goMatch : Int32 → Int32 → Int32 → Int32 → Int32 → MM → Option MM} {x1 : Int32} {x2 : Int32} {x3 : Int32} {x4 : Int32} {x5 : Int32} {μ : MM} (hrc_X12_goMatch : ∀ (z0 : Int32) (z1 : Int32) (z2 : Int32) (z3 : Int32) (z4 : Int32) (z5 : MM), P z5 → fm_V P (rc_X12_goMatch z0 z1 z2 z3 z4 z5)) (h0 : P μ) : fm_V P (f_Mo_goMatch_body N rc_X12_goMatch x1 x2 x3 x4 x5 μ) := by
  unfold f_Mo_goMatch_body
  exact fm_iteV (fm_iteV (fm_iteV (fm_iteV (fr_Mo_goMatch_L45 hI hJ hF hw (hrc_X12_goMatch) _ _ _ _ _ _ h0) (fm_someV h0)) (fr_Mo_goMatch_L45 hI hJ hF hw (hrc_X12_goMatch) _ _ _ _ _ _ h0)) (fr_Mo_goMatch_L119 hI hJ hF hw (hrc_X12_goMatch) _ _ _ _ _ _ _ _ h0)) (fm_someV h0)
set_option maxHeartbeats 1000000 in
theorem fr_Mo_goMatch_t {W : Nat → Prop} {P : MM → Prop} (hI : ∀ {μ : MM} {a k : Nat} {v : Int32}, W a → P μ → P (mm_I μ a k v)) (hJ : ∀ {μ : MM} {a k : Nat} {v : Int64}, W a → P μ → P (mm_J μ a k v)) (hF : ∀ {μ : MM} {a : Nat} {g : Nat → Int32}, W a → P μ → P (mm_F μ a g)) (hw : ∀ a, 355 ≤ a → W a) {N : Nat} : ∀ (t : Nat) (x1 : Int32) (x2 : Int32) (x3 : Int32) (x4 : Int32) (x5 : Int32) (μ : MM), P μ → fm_V P (f_Mo_goMatch_t N t x1 x2 x3 x4 x5 μ) := by
  intro t
  induction t with
  | zero => intros; exact fm_noneV
  | succ t ih =>
    intro x1 x2 x3 x4 x5 μ h0
    rw [f_Mo_goMatch_t]
    exact fr_Mo_goMatch_body hI hJ hF hw (fun _ _ _ _ _ _ h9 => ih _ _ _ _ _ _ h9) h0
set_option maxHeartbeats 1000000 in
theorem fr_Mo_goMatch {W : Nat → Prop} {P : MM → Prop} (hI : ∀ {μ : MM} {a k : Nat} {v : Int32}, W a → P μ → P (mm_I μ a k v)) (hJ : ∀ {μ : MM} {a k : Nat} {v : Int64}, W a → P μ → P (mm_J μ a k v)) (hF : ∀ {μ : MM} {a : Nat} {g : Nat → Int32}, W a → P μ → P (mm_F μ a g)) (hw : ∀ a, 355 ≤ a → W a) {N : Nat} {x1 : Int32} {x2 : Int32} {x3 : Int32} {x4 : Int32} {x5 : Int32} {μ : MM} (h0 : P μ) : fm_V P (f_Mo_goMatch N x1 x2 x3 x4 x5 μ) := by
  unfold f_Mo_goMatch
  exact fr_Mo_goMatch_t hI hJ hF hw _ _ _ _ _ _ _ h0
set_option maxHeartbeats 1000000 in
theorem fr_Mo_matched {W : Nat → Prop} {P : MM → Prop} (hI : ∀ {μ : MM} {a k : Nat} {v : Int32}, W a → P μ → P (mm_I μ a k v)) (hJ : ∀ {μ : MM} {a k : Nat} {v : Int64}, W a → P μ → P (mm_J μ a k v)) (hF : ∀ {μ : MM} {a : Nat} {g : Nat → Int32}, W a → P μ → P (mm_F μ a g)) (hw : ∀ a, 355 ≤ a → W a) {N : Nat} {x1 : Int32} {μ : MM} (h0 : P μ) : fm_O P (f_Mo_matched N x1 μ) := by
  unfold f_Mo_matched
  exact fm_wr (hI (hw _ (by first | omega | (simp only [inb, Bool.and_eq_true, decide_eq_true_eq] at *; omega))) h0) (fun μ1z hm1z => fm_ite (fm_some hm1z) (fm_ob (fr_Mo_isIn hI hJ hF hw hm1z) (fun t18 μ2z hm2z => fm_ite (fm_some hm2z) (fm_obv (fr_Mo_copies hI hJ hF hw (by first | omega | (simp only [inb, Bool.and_eq_true, decide_eq_true_eq] at *; omega)) hm2z) (fun μ3z hm3z => fm_wr (hI (hw _ (by first | omega | (simp only [inb, Bool.and_eq_true, decide_eq_true_eq] at *; omega))) hm3z) (fun μ4z hm4z => fm_wr (hI (hw _ (by first | omega | (simp only [inb, Bool.and_eq_true, decide_eq_true_eq] at *; omega))) hm4z) (fun μ5z hm5z => fm_obv (fr_Mo_goMatch hI hJ hF hw hm5z) (fun μ6z hm6z => fm_some hm6z))))))))
set_option maxHeartbeats 1000000 in
theorem fr_Mo_canBeRight_L93 {W : Nat → Prop} {P : MM → Prop} (hI : ∀ {μ : MM} {a k : Nat} {v : Int32}, W a → P μ → P (mm_I μ a k v)) (hJ : ∀ {μ : MM} {a k : Nat} {v : Int64}, W a → P μ → P (mm_J μ a k v)) (hF : ∀ {μ : MM} {a : Nat} {g : Nat → Int32}, W a → P μ → P (mm_F μ a g)) (hw : ∀ a, 355 ≤ a → W a) {N : Nat} {rc_X12_canBeRight : Int32 → Int32 → Int32 → MM → Option (Int32 × MM)} (hrc_X12_canBeRight : ∀ (z0 : Int32) (z1 : Int32) (z2 : Int32) (z3 : MM), P z3 → fm_O P (rc_X12_canBeRight z0 z1 z2 z3)) : ∀ (n : Nat) (x1 : Int32) (x2 : Int32) (x3 : Int32) (x4 : Int32) (μ : MM), P μ → fm_O P (f_Mo_canBeRight_L93 N rc_X12_canBeRight n x1 x2 x3 x4 μ) := by
  intro n
  induction n with
  | zero => intros; exact fm_none
  | succ n ih =>
    intro x1 x2 x3 x4 μ h0
    rw [f_Mo_canBeRight_L93]
    exact fm_ite (fm_some h0) (fm_ob (fr_Mo_has hI hJ hF hw h0) (fun t105 μ3z hm3z => fm_ite (fm_gd (fun g1 => fm_wr (hI (hw _ (by first | omega | (simp only [inb, Bool.and_eq_true, decide_eq_true_eq] at *; omega))) hm3z) (fun μ4z hm4z => fm_ob (hrc_X12_canBeRight _ _ _ _ hm4z) (fun t136 μ5z hm5z => fm_ite (ih _ _ _ _ _ hm5z) (fm_some hm5z))))) (ih _ _ _ _ _ hm3z)))
set_option maxHeartbeats 1000000 in
theorem fr_Mo_canBeRight_L11 {W : Nat → Prop} {P : MM → Prop} (hI : ∀ {μ : MM} {a k : Nat} {v : Int32}, W a → P μ → P (mm_I μ a k v)) (hJ : ∀ {μ : MM} {a k : Nat} {v : Int64}, W a → P μ → P (mm_J μ a k v)) (hF : ∀ {μ : MM} {a : Nat} {g : Nat → Int32}, W a → P μ → P (mm_F μ a g)) (hw : ∀ a, 355 ≤ a → W a) {N : Nat} {rc_X12_canBeRight : Int32 → Int32 → Int32 → MM → Option (Int32 × MM)} (hrc_X12_canBeRight : ∀ (z0 : Int32) (z1 : Int32) (z2 : Int32) (z3 : MM), P z3 → fm_O P (rc_X12_canBeRight z0 z1 z2 z3)) : ∀ (n : Nat) (x1 : Int32) (x4 : Int32) (μ : MM), P μ → fm_O P (f_Mo_canBeRight_L11 N rc_X12_canBeRight n x1 x4 μ) := by
  intro n
  induction n with
  | zero => intros; exact fm_none
  | succ n ih =>
    intro x1 x4 μ h0
    rw [f_Mo_canBeRight_L11]
    exact fm_ite (fm_some h0) (fm_ob (fr_Mo_has hI hJ hF hw h0) (fun t23 μ7z hm7z => fm_ite (ih _ _ _ hm7z) (fm_gd (fun g1 => fm_ob (fr_Mo_fitsIn hI hJ hF hw hm7z) (fun t46 μ8z hm8z => fm_ite (fm_some hm8z) (ih _ _ _ hm8z))))))
set_option maxHeartbeats 1000000 in
theorem fr_Mo_canBeRight_body {W : Nat → Prop} {P : MM → Prop} (hI : ∀ {μ : MM} {a k : Nat} {v : Int32}, W a → P μ → P (mm_I μ a k v)) (hJ : ∀ {μ : MM} {a k : Nat} {v : Int64}, W a → P μ → P (mm_J μ a k v)) (hF : ∀ {μ : MM} {a : Nat} {g : Nat → Int32}, W a → P μ → P (mm_F μ a g)) (hw : ∀ a, 355 ≤ a → W a) {N : Nat} {rc_X12_canBeRight : Int32 → Int32 → Int32 → MM → Option (Int32 × MM)} {x1 : Int32} {x2 : Int32} {x3 : Int32} {μ : MM} (hrc_X12_canBeRight : ∀ (z0 : Int32) (z1 : Int32) (z2 : Int32) (z3 : MM), P z3 → fm_O P (rc_X12_canBeRight z0 z1 z2 z3)) (h0 : P μ) : fm_O P (f_Mo_canBeRight_body N rc_X12_canBeRight x1 x2 x3 μ) := by
  unfold f_Mo_canBeRight_body
  exact fm_ite (fr_Mo_canBeRight_L11 hI hJ hF hw (hrc_X12_canBeRight) _ _ _ _ h0) (fm_gd (fun g1 => fm_wr (hI (hw _ (by first | omega | (simp only [inb, Bool.and_eq_true, decide_eq_true_eq] at *; omega))) h0) (fun μ1z hm1z => fm_ob (fr_Mo_has hI hJ hF hw hm1z) (fun t74 μ2z hm2z => fm_ite (fm_ob (hrc_X12_canBeRight _ _ _ _ hm2z) (fun t86 μ6z hm6z => fm_gd (fun g2 => fm_some hm6z))) (fr_Mo_canBeRight_L93 hI hJ hF hw (hrc_X12_canBeRight) _ _ _ _ _ _ hm2z)))))
set_option maxHeartbeats 1000000 in
theorem fr_Mo_canBeRight_t {W : Nat → Prop} {P : MM → Prop} (hI : ∀ {μ : MM} {a k : Nat} {v : Int32}, W a → P μ → P (mm_I μ a k v)) (hJ : ∀ {μ : MM} {a k : Nat} {v : Int64}, W a → P μ → P (mm_J μ a k v)) (hF : ∀ {μ : MM} {a : Nat} {g : Nat → Int32}, W a → P μ → P (mm_F μ a g)) (hw : ∀ a, 355 ≤ a → W a) {N : Nat} : ∀ (t : Nat) (x1 : Int32) (x2 : Int32) (x3 : Int32) (μ : MM), P μ → fm_O P (f_Mo_canBeRight_t N t x1 x2 x3 μ) := by
  intro t
  induction t with
  | zero => intros; exact fm_none
  | succ t ih =>
    intro x1 x2 x3 μ h0
    rw [f_Mo_canBeRight_t]
    exact fr_Mo_canBeRight_body hI hJ hF hw (fun _ _ _ _ h9 => ih _ _ _ _ h9) h0
set_option maxHeartbeats 1000000 in
theorem fr_Mo_canBeRight {W : Nat → Prop} {P : MM → Prop} (hI : ∀ {μ : MM} {a k : Nat} {v : Int32}, W a → P μ → P (mm_I μ a k v)) (hJ : ∀ {μ : MM} {a k : Nat} {v : Int64}, W a → P μ → P (mm_J μ a k v)) (hF : ∀ {μ : MM} {a : Nat} {g : Nat → Int32}, W a → P μ → P (mm_F μ a g)) (hw : ∀ a, 355 ≤ a → W a) {N : Nat} {x1 : Int32} {x2 : Int32} {x3 : Int32} {μ : MM} (h0 : P μ) : fm_O P (f_Mo_canBeRight N x1 x2 x3 μ) := by
  unfold f_Mo_canBeRight
  exact fr_Mo_canBeRight_t hI hJ hF hw _ _ _ _ _ h0
set_option maxHeartbeats 1000000 in
theorem fr_Mo_clash_B55 {W : Nat → Prop} {P : MM → Prop} (hI : ∀ {μ : MM} {a k : Nat} {v : Int32}, W a → P μ → P (mm_I μ a k v)) (hJ : ∀ {μ : MM} {a k : Nat} {v : Int64}, W a → P μ → P (mm_J μ a k v)) (hF : ∀ {μ : MM} {a : Nat} {g : Nat → Int32}, W a → P μ → P (mm_F μ a g)) (hw : ∀ a, 355 ≤ a → W a) {N : Nat} {k29 : Int32 → Int32 → MM → Option (Int32 × MM)} {x1 : Int32} {x2 : Int32} {μ : MM} (hk29 : ∀ (z0 : Int32) (z1 : Int32) (z2 : MM), P z2 → fm_O P (k29 z0 z1 z2)) (h0 : P μ) : fm_O P (f_Mo_clash_B55 N k29 x1 x2 μ) := by
  unfold f_Mo_clash_B55
  exact fm_ob (fr_Mo_canBeRight hI hJ hF hw h0) (fun t59 μ3z hm3z => hk29 _ _ _ hm3z)
set_option maxHeartbeats 1000000 in
theorem fr_Mo_clash_L29 {W : Nat → Prop} {P : MM → Prop} (hI : ∀ {μ : MM} {a k : Nat} {v : Int32}, W a → P μ → P (mm_I μ a k v)) (hJ : ∀ {μ : MM} {a k : Nat} {v : Int64}, W a → P μ → P (mm_J μ a k v)) (hF : ∀ {μ : MM} {a : Nat} {g : Nat → Int32}, W a → P μ → P (mm_F μ a g)) (hw : ∀ a, 355 ≤ a → W a) {N : Nat} : ∀ (n : Nat) (x1 : Int32) (x2 : Int32) (μ : MM), P μ → fm_O P (f_Mo_clash_L29 N n x1 x2 μ) := by
  intro n
  induction n with
  | zero => intros; exact fm_none
  | succ n ih =>
    intro x1 x2 μ h0
    rw [f_Mo_clash_L29]
    exact fm_ite (fm_some h0) (fm_ite (fr_Mo_clash_B55 hI hJ hF hw (ih) h0) (fm_ob (fr_In_bitCount_0f7a4 hI hJ hF h0) (fun t45 μ4z hm4z => fm_ob (fr_In_bitCount_0f7a4 hI hJ hF hm4z) (fun t49 μ5z hm5z => fm_ite (ih _ _ _ hm5z) (fr_Mo_clash_B55 hI hJ hF hw (ih) hm5z)))))
set_option maxHeartbeats 1000000 in
theorem fr_Mo_clash {W : Nat → Prop} {P : MM → Prop} (hI : ∀ {μ : MM} {a k : Nat} {v : Int32}, W a → P μ → P (mm_I μ a k v)) (hJ : ∀ {μ : MM} {a k : Nat} {v : Int64}, W a → P μ → P (mm_J μ a k v)) (hF : ∀ {μ : MM} {a : Nat} {g : Nat → Int32}, W a → P μ → P (mm_F μ a g)) (hw : ∀ a, 355 ≤ a → W a) {N : Nat} {μ : MM} (h0 : P μ) : fm_O P (f_Mo_clash N μ) := by
  unfold f_Mo_clash
  exact fm_wr (hI (hw _ (by first | omega | (simp only [inb, Bool.and_eq_true, decide_eq_true_eq] at *; omega))) h0) (fun μ1z hm1z => fm_ite (fm_some hm1z) (fm_obv (fr_Mo_copies hI hJ hF hw (by first | omega | (simp only [inb, Bool.and_eq_true, decide_eq_true_eq] at *; omega)) hm1z) (fun μ2z hm2z => fr_Mo_clash_L29 hI hJ hF hw _ _ _ _ hm2z)))
set_option maxHeartbeats 1000000 in
theorem fr_Mo_blank_L28 {W : Nat → Prop} {P : MM → Prop} (hI : ∀ {μ : MM} {a k : Nat} {v : Int32}, W a → P μ → P (mm_I μ a k v)) (hJ : ∀ {μ : MM} {a k : Nat} {v : Int64}, W a → P μ → P (mm_J μ a k v)) (hF : ∀ {μ : MM} {a : Nat} {g : Nat → Int32}, W a → P μ → P (mm_F μ a g)) (hw : ∀ a, 355 ≤ a → W a) {N : Nat} : ∀ (n : Nat) (x1 : Int32) (x2 : Int32) (μ : MM), P μ → fm_O P (f_Mo_blank_L28 N n x1 x2 μ) := by
  intro n
  induction n with
  | zero => intros; exact fm_none
  | succ n ih =>
    intro x1 x2 μ h0
    rw [f_Mo_blank_L28]
    exact fm_ite (fm_some h0) (fm_ob (fr_Mo_leftOf hI hJ hF hw h0) (fun t39 μ4z hm4z => fm_ite (fm_some hm4z) (fm_ob (fr_Mo_fades hI hJ hF hw (by first | omega | (simp only [inb, Bool.and_eq_true, decide_eq_true_eq] at *; omega)) hm4z) (fun t52 μ5z hm5z => fm_wr (hI (hw _ (by first | omega | (simp only [inb, Bool.and_eq_true, decide_eq_true_eq] at *; omega))) hm5z) (fun μ6z hm6z => ih _ _ _ hm6z)))))
set_option maxHeartbeats 1000000 in
theorem fr_Mo_blank {W : Nat → Prop} {P : MM → Prop} (hI : ∀ {μ : MM} {a k : Nat} {v : Int32}, W a → P μ → P (mm_I μ a k v)) (hJ : ∀ {μ : MM} {a k : Nat} {v : Int64}, W a → P μ → P (mm_J μ a k v)) (hF : ∀ {μ : MM} {a : Nat} {g : Nat → Int32}, W a → P μ → P (mm_F μ a g)) (hw : ∀ a, 355 ≤ a → W a) {N : Nat} {x1 : Int32} {μ : MM} (h0 : P μ) : fm_O P (f_Mo_blank N x1 μ) := by
  unfold f_Mo_blank
  exact fm_wr (hI (hw _ (by first | omega | (simp only [inb, Bool.and_eq_true, decide_eq_true_eq] at *; omega))) h0) (fun μ1z hm1z => fm_ob (fr_Mo_isCard hI hJ hF hw hm1z) (fun t7 μ2z hm2z => fm_ite (fm_some hm2z) (fm_obv (fr_Mo_copies hI hJ hF hw (by first | omega | (simp only [inb, Bool.and_eq_true, decide_eq_true_eq] at *; omega)) hm2z) (fun μ3z hm3z => fr_Mo_blank_L28 hI hJ hF hw _ _ _ _ hm3z))))
set_option maxHeartbeats 1000000 in
theorem fr_Mo_stood {W : Nat → Prop} {P : MM → Prop} (hI : ∀ {μ : MM} {a k : Nat} {v : Int32}, W a → P μ → P (mm_I μ a k v)) (hJ : ∀ {μ : MM} {a k : Nat} {v : Int64}, W a → P μ → P (mm_J μ a k v)) (hF : ∀ {μ : MM} {a : Nat} {g : Nat → Int32}, W a → P μ → P (mm_F μ a g)) (hw : ∀ a, 355 ≤ a → W a) {N : Nat} {x1 : Int32} {x2 : Int32} {x3 : Int32} {μ : MM} (h0 : P μ) : fm_O P (f_Mo_stood N x1 x2 x3 μ) := by
  unfold f_Mo_stood
  exact fm_wr (hI (hw _ (by first | omega | (simp only [inb, Bool.and_eq_true, decide_eq_true_eq] at *; omega))) h0) (fun μ1z hm1z => fm_ob (fr_Mo_isThing hI hJ hF hw hm1z) (fun t7 μ2z hm2z => fm_ite (fm_some hm2z) (fm_ob (fr_Mo_isCard hI hJ hF hw hm2z) (fun t15 μ3z hm3z => fm_ite (fm_some hm3z) (fm_ite (fm_some hm3z) (fm_gd (fun g1 => fm_wr (hI (hw _ (by first | omega | (simp only [inb, Bool.and_eq_true, decide_eq_true_eq] at *; omega))) hm3z) (fun μ4z hm4z => fm_gd (fun g2 => fm_wr (hI (hw _ (by first | omega | (simp only [inb, Bool.and_eq_true, decide_eq_true_eq] at *; omega))) hm4z) (fun μ5z hm5z => fm_gd (fun g3 => fm_wr (hI (hw _ (by first | omega | (simp only [inb, Bool.and_eq_true, decide_eq_true_eq] at *; omega))) hm5z) (fun μ6z hm6z => fm_wr (hI (hw _ (by first | omega | (simp only [inb, Bool.and_eq_true, decide_eq_true_eq] at *; omega))) hm6z) (fun μ7z hm7z => fm_some hm7z)))))))))))))
set_option maxHeartbeats 1000000 in
theorem fr_Mo_goneOf {W : Nat → Prop} {P : MM → Prop} (hI : ∀ {μ : MM} {a k : Nat} {v : Int32}, W a → P μ → P (mm_I μ a k v)) (hJ : ∀ {μ : MM} {a k : Nat} {v : Int64}, W a → P μ → P (mm_J μ a k v)) (hF : ∀ {μ : MM} {a : Nat} {g : Nat → Int32}, W a → P μ → P (mm_F μ a g)) (hw : ∀ a, 355 ≤ a → W a) {N : Nat} {x1 : Int32} {μ : MM} (h0 : P μ) : fm_O P (f_Mo_goneOf N x1 μ) := by
  unfold f_Mo_goneOf
  exact fm_ob (fr_Mo_wordsOf hI hJ hF hw h0) (fun t5 μ1z hm1z => fm_ob (fr_Mo_leftOf hI hJ hF hw hm1z) (fun t13 μ2z hm2z => fm_some hm2z))
set_option maxHeartbeats 1000000 in
theorem fr_Mo_rowsOf {W : Nat → Prop} {P : MM → Prop} (hI : ∀ {μ : MM} {a k : Nat} {v : Int32}, W a → P μ → P (mm_I μ a k v)) (hJ : ∀ {μ : MM} {a k : Nat} {v : Int64}, W a → P μ → P (mm_J μ a k v)) (hF : ∀ {μ : MM} {a : Nat} {g : Nat → Int32}, W a → P μ → P (mm_F μ a g)) (hw : ∀ a, 355 ≤ a → W a) {N : Nat} {x0 : Int32} {μ : MM} (h0 : P μ) : fm_O P (f_Mo_rowsOf N x0 μ) := by
  unfold f_Mo_rowsOf
  exact fm_some h0
set_option maxHeartbeats 1000000 in
theorem fr_Mo_fitsBy_B121 {W : Nat → Prop} {P : MM → Prop} (hI : ∀ {μ : MM} {a k : Nat} {v : Int32}, W a → P μ → P (mm_I μ a k v)) (hJ : ∀ {μ : MM} {a k : Nat} {v : Int64}, W a → P μ → P (mm_J μ a k v)) (hF : ∀ {μ : MM} {a : Nat} {g : Nat → Int32}, W a → P μ → P (mm_F μ a g)) (hw : ∀ a, 355 ≤ a → W a) {N : Nat} {k72 : Int32 → Int32 → Int32 → Int32 → MM → Option (Int32 × MM)} {x1 : Int32} {x3 : Int32} {x4 : Int32} {x5 : Int32} {s0 : Int32} {s1 : Int32} {μ : MM} (hk72 : ∀ (z0 : Int32) (z1 : Int32) (z2 : Int32) (z3 : Int32) (z4 : MM), P z4 → fm_O P (k72 z0 z1 z2 z3 z4)) (h0 : P μ) : fm_O P (f_Mo_fitsBy_B121 N k72 x1 x3 x4 x5 s0 s1 μ) := by
  unfold f_Mo_fitsBy_B121
  exact fm_ite (hk72 _ _ _ _ _ h0) (fm_some h0)
set_option maxHeartbeats 1000000 in
theorem fr_Mo_fitsBy_L72 {W : Nat → Prop} {P : MM → Prop} (hI : ∀ {μ : MM} {a k : Nat} {v : Int32}, W a → P μ → P (mm_I μ a k v)) (hJ : ∀ {μ : MM} {a k : Nat} {v : Int64}, W a → P μ → P (mm_J μ a k v)) (hF : ∀ {μ : MM} {a : Nat} {g : Nat → Int32}, W a → P μ → P (mm_F μ a g)) (hw : ∀ a, 355 ≤ a → W a) {N : Nat} : ∀ (n : Nat) (x1 : Int32) (x3 : Int32) (x4 : Int32) (x5 : Int32) (μ : MM), P μ → fm_O P (f_Mo_fitsBy_L72 N n x1 x3 x4 x5 μ) := by
  intro n
  induction n with
  | zero => intros; exact fm_none
  | succ n ih =>
    intro x1 x3 x4 x5 μ h0
    rw [f_Mo_fitsBy_L72]
    exact fm_ob (fr_Mo_goneOf hI hJ hF hw h0) (fun t76 μ2z hm2z => fm_ite (fm_some hm2z) (fm_ob (fr_Mo_marks hI hJ hF hw hm2z) (fun t98 μ3z hm3z => fm_ob (fr_Mo_has hI hJ hF hw hm3z) (fun t106 μ4z hm4z => fr_Mo_fitsBy_B121 hI hJ hF hw (ih) hm4z))))
set_option maxHeartbeats 1000000 in
theorem fr_Mo_fitsBy_L3 {W : Nat → Prop} {P : MM → Prop} (hI : ∀ {μ : MM} {a k : Nat} {v : Int32}, W a → P μ → P (mm_I μ a k v)) (hJ : ∀ {μ : MM} {a k : Nat} {v : Int64}, W a → P μ → P (mm_J μ a k v)) (hF : ∀ {μ : MM} {a : Nat} {g : Nat → Int32}, W a → P μ → P (mm_F μ a g)) (hw : ∀ a, 355 ≤ a → W a) {N : Nat} : ∀ (n : Nat) (x1 : Int32) (x2 : Int32) (x3 : Int32) (x4 : Int32) (μ : MM), P μ → fm_O P (f_Mo_fitsBy_L3 N n x1 x2 x3 x4 μ) := by
  intro n
  induction n with
  | zero => intros; exact fm_none
  | succ n ih =>
    intro x1 x2 x3 x4 μ h0
    rw [f_Mo_fitsBy_L3]
    exact fm_ob (fr_Mo_wordsOf hI hJ hF hw h0) (fun t10 μ1z hm1z => fm_ite (fr_Mo_fitsBy_L72 hI hJ hF hw _ _ _ _ _ _ hm1z) (fm_ob (fr_Mo_inkOf hI hJ hF hw hm1z) (fun t23 μ5z hm5z => fm_ite (ih _ _ _ _ _ hm5z) (fm_ob (fr_Mo_sortOf hI hJ hF hw hm5z) (fun t36 μ6z hm6z => fm_ite (ih _ _ _ _ _ hm6z) (fm_ob (fr_Mo_isTrue hI hJ hF hw hm6z) (fun t52 μ7z hm7z => fm_ite (fm_some hm7z) (ih _ _ _ _ _ hm7z))))))))
set_option maxHeartbeats 1000000 in
theorem fr_Mo_fitsBy {W : Nat → Prop} {P : MM → Prop} (hI : ∀ {μ : MM} {a k : Nat} {v : Int32}, W a → P μ → P (mm_I μ a k v)) (hJ : ∀ {μ : MM} {a k : Nat} {v : Int64}, W a → P μ → P (mm_J μ a k v)) (hF : ∀ {μ : MM} {a : Nat} {g : Nat → Int32}, W a → P μ → P (mm_F μ a g)) (hw : ∀ a, 355 ≤ a → W a) {N : Nat} {x1 : Int32} {x2 : Int32} {x3 : Int32} {μ : MM} (h0 : P μ) : fm_O P (f_Mo_fitsBy N x1 x2 x3 μ) := by
  unfold f_Mo_fitsBy
  exact fr_Mo_fitsBy_L3 hI hJ hF hw _ _ _ _ _ _ h0
set_option maxHeartbeats 1000000 in
theorem fr_Mo_isRow_L2 {W : Nat → Prop} {P : MM → Prop} (hI : ∀ {μ : MM} {a k : Nat} {v : Int32}, W a → P μ → P (mm_I μ a k v)) (hJ : ∀ {μ : MM} {a k : Nat} {v : Int64}, W a → P μ → P (mm_J μ a k v)) (hF : ∀ {μ : MM} {a : Nat} {g : Nat → Int32}, W a → P μ → P (mm_F μ a g)) (hw : ∀ a, 355 ≤ a → W a) {N : Nat} : ∀ (n : Nat) (x1 : Int32) (x2 : Int32) (x3 : Int32) (μ : MM), P μ → fm_O P (f_Mo_isRow_L2 N n x1 x2 x3 μ) := by
  intro n
  induction n with
  | zero => intros; exact fm_none
  | succ n ih =>
    intro x1 x2 x3 μ h0
    rw [f_Mo_isRow_L2]
    exact fm_ite (fm_some h0) (fm_gd (fun g1 => fm_ite (fm_gd (fun g2 => fm_ob (fr_Mo_fitsBy hI hJ hF hw h0) (fun t29 μ1z hm1z => fm_gd (fun g3 => fm_ite (ih _ _ _ _ hm1z) (fm_some hm1z))))) (ih _ _ _ _ h0)))
set_option maxHeartbeats 1000000 in
theorem fr_Mo_isRow {W : Nat → Prop} {P : MM → Prop} (hI : ∀ {μ : MM} {a k : Nat} {v : Int32}, W a → P μ → P (mm_I μ a k v)) (hJ : ∀ {μ : MM} {a k : Nat} {v : Int64}, W a → P μ → P (mm_J μ a k v)) (hF : ∀ {μ : MM} {a : Nat} {g : Nat → Int32}, W a → P μ → P (mm_F μ a g)) (hw : ∀ a, 355 ≤ a → W a) {N : Nat} {x1 : Int32} {x2 : Int32} {μ : MM} (h0 : P μ) : fm_O P (f_Mo_isRow N x1 x2 μ) := by
  unfold f_Mo_isRow
  exact fr_Mo_isRow_L2 hI hJ hF hw _ _ _ _ _ h0
set_option maxHeartbeats 1000000 in
theorem fr_Mo_canAsk {W : Nat → Prop} {P : MM → Prop} (hI : ∀ {μ : MM} {a k : Nat} {v : Int32}, W a → P μ → P (mm_I μ a k v)) (hJ : ∀ {μ : MM} {a k : Nat} {v : Int64}, W a → P μ → P (mm_J μ a k v)) (hF : ∀ {μ : MM} {a : Nat} {g : Nat → Int32}, W a → P μ → P (mm_F μ a g)) (hw : ∀ a, 355 ≤ a → W a) {N : Nat} {x1 : Int32} {μ : MM} (h0 : P μ) : fm_O P (f_Mo_canAsk N x1 μ) := by
  unfold f_Mo_canAsk
  exact fm_ob (fr_Mo_isCard hI hJ hF hw h0) (fun t2 μ1z hm1z => fm_ite (fm_some hm1z) (fm_ob (fr_Mo_goneOf hI hJ hF hw hm1z) (fun t10 μ2z hm2z => fm_ite (fm_some hm2z) (fm_some hm2z))))
set_option maxHeartbeats 1000000 in
theorem fr_Mo_once_L25 {W : Nat → Prop} {P : MM → Prop} (hI : ∀ {μ : MM} {a k : Nat} {v : Int32}, W a → P μ → P (mm_I μ a k v)) (hJ : ∀ {μ : MM} {a k : Nat} {v : Int64}, W a → P μ → P (mm_J μ a k v)) (hF : ∀ {μ : MM} {a : Nat} {g : Nat → Int32}, W a → P μ → P (mm_F μ a g)) (hw : ∀ a, 355 ≤ a → W a) {N : Nat} : ∀ (n : Nat) (x1 : Int32) (x2 : Int32) (x3 : Int32) (x4 : Int32) (μ : MM), P μ → fm_O P (f_Mo_once_L25 N n x1 x2 x3 x4 μ) := by
  intro n
  induction n with
  | zero => intros; exact fm_none
  | succ n ih =>
    intro x1 x2 x3 x4 μ h0
    rw [f_Mo_once_L25]
    exact fm_ob (fr_Mo_goneOf hI hJ hF hw h0) (fun t29 μ3z hm3z => fm_ob (fr_Mo_rowsOf hI hJ hF hw hm3z) (fun t32 μ4z hm4z => fm_ite (fm_some hm4z) (fm_ob (fr_Mo_isRow hI hJ hF hw hm4z) (fun t42 μ5z hm5z => fm_ite (ih _ _ _ _ _ hm5z) (fm_ite (fm_some hm5z) (ih _ _ _ _ _ hm5z))))))
set_option maxHeartbeats 1000000 in
theorem fr_Mo_once {W : Nat → Prop} {P : MM → Prop} (hI : ∀ {μ : MM} {a k : Nat} {v : Int32}, W a → P μ → P (mm_I μ a k v)) (hJ : ∀ {μ : MM} {a k : Nat} {v : Int64}, W a → P μ → P (mm_J μ a k v)) (hF : ∀ {μ : MM} {a : Nat} {g : Nat → Int32}, W a → P μ → P (mm_F μ a g)) (hw : ∀ a, 355 ≤ a → W a) {N : Nat} {x1 : Int32} {x2 : Int32} {μ : MM} (h0 : P μ) : fm_O P (f_Mo_once N x1 x2 μ) := by
  unfold f_Mo_once
  exact fm_wr (hI (hw _ (by first | omega | (simp only [inb, Bool.and_eq_true, decide_eq_true_eq] at *; omega))) h0) (fun μ1z hm1z => fm_ob (fr_Mo_canAsk hI hJ hF hw hm1z) (fun t7 μ2z hm2z => fm_ite (fm_some hm2z) (fm_ite (fr_Mo_once_L25 hI hJ hF hw _ _ _ _ _ _ hm2z) (fm_some hm2z))))
set_option maxHeartbeats 1000000 in
theorem fr_Mo_probe_L46 {W : Nat → Prop} {P : MM → Prop} (hI : ∀ {μ : MM} {a k : Nat} {v : Int32}, W a → P μ → P (mm_I μ a k v)) (hJ : ∀ {μ : MM} {a k : Nat} {v : Int64}, W a → P μ → P (mm_J μ a k v)) (hF : ∀ {μ : MM} {a : Nat} {g : Nat → Int32}, W a → P μ → P (mm_F μ a g)) (hw : ∀ a, 355 ≤ a → W a) {N : Nat} {k31 : Int32 → Int32 → Int32 → Int32 → MM → Option (Int32 × MM)} (hk31 : ∀ (z0 : Int32) (z1 : Int32) (z2 : Int32) (z3 : Int32) (z4 : MM), P z4 → fm_O P (k31 z0 z1 z2 z3 z4)) : ∀ (n : Nat) (x1 : Int32) (x2 : Int32) (x3 : Int32) (x4 : Int32) (x5 : Int32) (x6 : Int32) (μ : MM), P μ → fm_O P (f_Mo_probe_L46 N k31 n x1 x2 x3 x4 x5 x6 μ) := by
  intro n
  induction n with
  | zero => intros; exact fm_none
  | succ n ih =>
    intro x1 x2 x3 x4 x5 x6 μ h0
    rw [f_Mo_probe_L46]
    exact fm_ob (fr_Mo_goneOf hI hJ hF hw h0) (fun t50 μ4z hm4z => fm_ob (fr_Mo_rowsOf hI hJ hF hw hm4z) (fun t53 μ5z hm5z => fm_ite (fm_ite (hk31 _ _ _ _ _ hm5z) (fm_ite (hk31 _ _ _ _ _ hm5z) (hk31 _ _ _ _ _ hm5z))) (fm_ob (fr_Mo_isRow hI hJ hF hw hm5z) (fun t63 μ6z hm6z => fm_ite (ih _ _ _ _ _ _ _ hm6z) (fm_ob (fr_Mo_fitsBy hI hJ hF hw hm6z) (fun t77 μ7z hm7z => ih _ _ _ _ _ _ _ hm7z))))))
set_option maxHeartbeats 1000000 in
theorem fr_Mo_probe_L31 {W : Nat → Prop} {P : MM → Prop} (hI : ∀ {μ : MM} {a k : Nat} {v : Int32}, W a → P μ → P (mm_I μ a k v)) (hJ : ∀ {μ : MM} {a k : Nat} {v : Int64}, W a → P μ → P (mm_J μ a k v)) (hF : ∀ {μ : MM} {a : Nat} {g : Nat → Int32}, W a → P μ → P (mm_F μ a g)) (hw : ∀ a, 355 ≤ a → W a) {N : Nat} : ∀ (n : Nat) (x1 : Int32) (x2 : Int32) (x3 : Int32) (x4 : Int32) (μ : MM), P μ → fm_O P (f_Mo_probe_L31 N n x1 x2 x3 x4 μ) := by
  intro n
  induction n with
  | zero => intros; exact fm_none
  | succ n ih =>
    intro x1 x2 x3 x4 μ h0
    rw [f_Mo_probe_L31]
    exact fm_ite (fm_some h0) (fr_Mo_probe_L46 hI hJ hF hw (ih) _ _ _ _ _ _ _ _ h0)
set_option maxHeartbeats 1000000 in
theorem fr_Mo_probe {W : Nat → Prop} {P : MM → Prop} (hI : ∀ {μ : MM} {a k : Nat} {v : Int32}, W a → P μ → P (mm_I μ a k v)) (hJ : ∀ {μ : MM} {a k : Nat} {v : Int64}, W a → P μ → P (mm_J μ a k v)) (hF : ∀ {μ : MM} {a : Nat} {g : Nat → Int32}, W a → P μ → P (mm_F μ a g)) (hw : ∀ a, 355 ≤ a → W a) {N : Nat} {x1 : Int32} {μ : MM} (h0 : P μ) : fm_O P (f_Mo_probe N x1 μ) := by
  unfold f_Mo_probe
  exact fm_wr (hI (hw _ (by first | omega | (simp only [inb, Bool.and_eq_true, decide_eq_true_eq] at *; omega))) h0) (fun μ1z hm1z => fm_ob (fr_Mo_canAsk hI hJ hF hw hm1z) (fun t7 μ2z hm2z => fm_ite (fm_some hm2z) (fm_ob (fr_Mo_once hI hJ hF hw hm2z) (fun t16 μ3z hm3z => fm_ite (fm_some hm3z) (fr_Mo_probe_L31 hI hJ hF hw _ _ _ _ _ _ hm3z)))))
set_option maxHeartbeats 1000000 in
theorem fr_Mo_saves_L65 {W : Nat → Prop} {P : MM → Prop} (hI : ∀ {μ : MM} {a k : Nat} {v : Int32}, W a → P μ → P (mm_I μ a k v)) (hJ : ∀ {μ : MM} {a k : Nat} {v : Int64}, W a → P μ → P (mm_J μ a k v)) (hF : ∀ {μ : MM} {a : Nat} {g : Nat → Int32}, W a → P μ → P (mm_F μ a g)) (hw : ∀ a, 355 ≤ a → W a) {N : Nat} {k33 : Int32 → Int32 → Int32 → Int32 → Int32 → MM → Option (Int32 × MM)} (hk33 : ∀ (z0 : Int32) (z1 : Int32) (z2 : Int32) (z3 : Int32) (z4 : Int32) (z5 : MM), P z5 → fm_O P (k33 z0 z1 z2 z3 z4 z5)) : ∀ (n : Nat) (x1 : Int32) (x2 : Int32) (x3 : Int32) (x4 : Int32) (x5 : Int32) (x6 : Int32) (x7 : Int32) (μ : MM), P μ → fm_O P (f_Mo_saves_L65 N k33 n x1 x2 x3 x4 x5 x6 x7 μ) := by
  intro n
  induction n with
  | zero => intros; exact fm_none
  | succ n ih =>
    intro x1 x2 x3 x4 x5 x6 x7 μ h0
    rw [f_Mo_saves_L65]
    exact fm_ite (fm_ite (hk33 _ _ _ _ _ _ h0) (fm_ite (hk33 _ _ _ _ _ _ h0) (hk33 _ _ _ _ _ _ h0))) (fm_ob (fr_Mo_fitsBy hI hJ hF hw h0) (fun t82 μ7z hm7z => ih _ _ _ _ _ _ _ _ hm7z))
set_option maxHeartbeats 1000000 in
theorem fr_Mo_saves_L33 {W : Nat → Prop} {P : MM → Prop} (hI : ∀ {μ : MM} {a k : Nat} {v : Int32}, W a → P μ → P (mm_I μ a k v)) (hJ : ∀ {μ : MM} {a k : Nat} {v : Int64}, W a → P μ → P (mm_J μ a k v)) (hF : ∀ {μ : MM} {a : Nat} {g : Nat → Int32}, W a → P μ → P (mm_F μ a g)) (hw : ∀ a, 355 ≤ a → W a) {N : Nat} : ∀ (n : Nat) (x1 : Int32) (x2 : Int32) (x3 : Int32) (x4 : Int32) (x5 : Int32) (μ : MM), P μ → fm_O P (f_Mo_saves_L33 N n x1 x2 x3 x4 x5 μ) := by
  intro n
  induction n with
  | zero => intros; exact fm_none
  | succ n ih =>
    intro x1 x2 x3 x4 x5 μ h0
    rw [f_Mo_saves_L33]
    exact fm_ob (fr_Mo_goneOf hI hJ hF hw h0) (fun t37 μ4z hm4z => fm_ob (fr_Mo_rowsOf hI hJ hF hw hm4z) (fun t40 μ5z hm5z => fm_ite (fm_ite (fm_some hm5z) (fm_ite (fm_some hm5z) (fm_some hm5z))) (fm_ob (fr_Mo_isRow hI hJ hF hw hm5z) (fun t50 μ6z hm6z => fm_ite (ih _ _ _ _ _ _ hm6z) (fr_Mo_saves_L65 hI hJ hF hw (ih) _ _ _ _ _ _ _ _ _ hm6z)))))
set_option maxHeartbeats 1000000 in
theorem fr_Mo_saves {W : Nat → Prop} {P : MM → Prop} (hI : ∀ {μ : MM} {a k : Nat} {v : Int32}, W a → P μ → P (mm_I μ a k v)) (hJ : ∀ {μ : MM} {a k : Nat} {v : Int64}, W a → P μ → P (mm_J μ a k v)) (hF : ∀ {μ : MM} {a : Nat} {g : Nat → Int32}, W a → P μ → P (mm_F μ a g)) (hw : ∀ a, 355 ≤ a → W a) {N : Nat} {x1 : Int32} {x2 : Int32} {μ : MM} (h0 : P μ) : fm_O P (f_Mo_saves N x1 x2 μ) := by
  unfold f_Mo_saves
  exact fm_wr (hI (hw _ (by first | omega | (simp only [inb, Bool.and_eq_true, decide_eq_true_eq] at *; omega))) h0) (fun μ1z hm1z => fm_ob (fr_Mo_canAsk hI hJ hF hw hm1z) (fun t7 μ2z hm2z => fm_ite (fm_some hm2z) (fm_ob (fr_Mo_isIn hI hJ hF hw hm2z) (fun t17 μ3z hm3z => fm_ite (fm_some hm3z) (fr_Mo_saves_L33 hI hJ hF hw _ _ _ _ _ _ _ hm3z)))))
set_option maxHeartbeats 1000000 in
theorem fr_Mo_leads_L4 {W : Nat → Prop} {P : MM → Prop} (hI : ∀ {μ : MM} {a k : Nat} {v : Int32}, W a → P μ → P (mm_I μ a k v)) (hJ : ∀ {μ : MM} {a k : Nat} {v : Int64}, W a → P μ → P (mm_J μ a k v)) (hF : ∀ {μ : MM} {a : Nat} {g : Nat → Int32}, W a → P μ → P (mm_F μ a g)) (hw : ∀ a, 355 ≤ a → W a) {N : Nat} : ∀ (n : Nat) (x1 : Int32) (x2 : Int32) (x3 : Int32) (μ : MM), P μ → fm_O P (f_Mo_leads_L4 N n x1 x2 x3 μ) := by
  intro n
  induction n with
  | zero => intros; exact fm_none
  | succ n ih =>
    intro x1 x2 x3 μ h0
    rw [f_Mo_leads_L4]
    exact fm_ob (fr_Mo_wordsOf hI hJ hF hw h0) (fun t10 μ1z hm1z => fm_ite (fm_some hm1z) (fm_ob (fr_Mo_inkOf hI hJ hF hw hm1z) (fun t23 μ2z hm2z => fm_ite (ih _ _ _ _ hm2z) (fm_ob (fr_Mo_sortOf hI hJ hF hw hm2z) (fun t35 μ3z hm3z => fm_ite (fm_ob (fr_Mo_whatOf hI hJ hF hw hm3z) (fun t49 μ4z hm4z => ih _ _ _ _ hm4z)) (ih _ _ _ _ hm3z))))))
set_option maxHeartbeats 1000000 in
theorem fr_Mo_leads {W : Nat → Prop} {P : MM → Prop} (hI : ∀ {μ : MM} {a k : Nat} {v : Int32}, W a → P μ → P (mm_I μ a k v)) (hJ : ∀ {μ : MM} {a k : Nat} {v : Int64}, W a → P μ → P (mm_J μ a k v)) (hF : ∀ {μ : MM} {a : Nat} {g : Nat → Int32}, W a → P μ → P (mm_F μ a g)) (hw : ∀ a, 355 ≤ a → W a) {N : Nat} {x1 : Int32} {μ : MM} (h0 : P μ) : fm_O P (f_Mo_leads N x1 μ) := by
  unfold f_Mo_leads
  exact fr_Mo_leads_L4 hI hJ hF hw _ _ _ _ _ h0
set_option maxHeartbeats 1000000 in
theorem fr_Mo_round_L47 {W : Nat → Prop} {P : MM → Prop} (hI : ∀ {μ : MM} {a k : Nat} {v : Int32}, W a → P μ → P (mm_I μ a k v)) (hJ : ∀ {μ : MM} {a k : Nat} {v : Int64}, W a → P μ → P (mm_J μ a k v)) (hF : ∀ {μ : MM} {a : Nat} {g : Nat → Int32}, W a → P μ → P (mm_F μ a g)) (hw : ∀ a, 355 ≤ a → W a) {N : Nat} {k18 : Int32 → Int32 → MM → Option (Int32 × MM)} {k35 : Int32 → Int32 → Int32 → Int32 → MM → Option (Int32 × MM)} (hk18 : ∀ (z0 : Int32) (z1 : Int32) (z2 : MM), P z2 → fm_O P (k18 z0 z1 z2)) (hk35 : ∀ (z0 : Int32) (z1 : Int32) (z2 : Int32) (z3 : Int32) (z4 : MM), P z4 → fm_O P (k35 z0 z1 z2 z3 z4)) : ∀ (n : Nat) (x1 : Int32) (x2 : Int32) (x3 : Int32) (x4 : Int32) (x5 : Int32) (μ : MM), P μ → fm_O P (f_Mo_round_L47 N k18 k35 n x1 x2 x3 x4 x5 μ) := by
  intro n
  induction n with
  | zero => intros; exact fm_none
  | succ n ih =>
    intro x1 x2 x3 x4 x5 μ h0
    rw [f_Mo_round_L47]
    exact fm_ite (hk35 _ _ _ _ _ h0) (fm_ob (fr_Mo_has hI hJ hF hw h0) (fun t60 μ4z hm4z => fm_ite (ih _ _ _ _ _ _ hm4z) (fm_ob (fr_Mo_leads hI hJ hF hw hm4z) (fun t69 μ5z hm5z => ih _ _ _ _ _ _ hm5z))))
set_option maxHeartbeats 1000000 in
theorem fr_Mo_round_L35 {W : Nat → Prop} {P : MM → Prop} (hI : ∀ {μ : MM} {a k : Nat} {v : Int32}, W a → P μ → P (mm_I μ a k v)) (hJ : ∀ {μ : MM} {a k : Nat} {v : Int64}, W a → P μ → P (mm_J μ a k v)) (hF : ∀ {μ : MM} {a : Nat} {g : Nat → Int32}, W a → P μ → P (mm_F μ a g)) (hw : ∀ a, 355 ≤ a → W a) {N : Nat} {k18 : Int32 → Int32 → MM → Option (Int32 × MM)} (hk18 : ∀ (z0 : Int32) (z1 : Int32) (z2 : MM), P z2 → fm_O P (k18 z0 z1 z2)) : ∀ (n : Nat) (x1 : Int32) (x2 : Int32) (x3 : Int32) (x4 : Int32) (μ : MM), P μ → fm_O P (f_Mo_round_L35 N k18 n x1 x2 x3 x4 μ) := by
  intro n
  induction n with
  | zero => intros; exact fm_none
  | succ n ih =>
    intro x1 x2 x3 x4 μ h0
    rw [f_Mo_round_L35]
    exact fm_ite (fm_ob (fr_Mo_has hI hJ hF hw h0) (fun t93 μ3z hm3z => hk18 _ _ _ hm3z)) (fr_Mo_round_L47 hI hJ hF hw (hk18) (ih) _ _ _ _ _ _ _ h0)
set_option maxHeartbeats 1000000 in
theorem fr_Mo_round_L18 {W : Nat → Prop} {P : MM → Prop} (hI : ∀ {μ : MM} {a k : Nat} {v : Int32}, W a → P μ → P (mm_I μ a k v)) (hJ : ∀ {μ : MM} {a k : Nat} {v : Int64}, W a → P μ → P (mm_J μ a k v)) (hF : ∀ {μ : MM} {a : Nat} {g : Nat → Int32}, W a → P μ → P (mm_F μ a g)) (hw : ∀ a, 355 ≤ a → W a) {N : Nat} : ∀ (n : Nat) (x1 : Int32) (x2 : Int32) (μ : MM), P μ → fm_O P (f_Mo_round_L18 N n x1 x2 μ) := by
  intro n
  induction n with
  | zero => intros; exact fm_none
  | succ n ih =>
    intro x1 x2 μ h0
    rw [f_Mo_round_L18]
    exact fm_ite (fm_some h0) (fm_ob (fr_Mo_leads hI hJ hF hw h0) (fun t28 μ2z hm2z => fr_Mo_round_L35 hI hJ hF hw (ih) _ _ _ _ _ _ hm2z))
set_option maxHeartbeats 1000000 in
theorem fr_Mo_round {W : Nat → Prop} {P : MM → Prop} (hI : ∀ {μ : MM} {a k : Nat} {v : Int32}, W a → P μ → P (mm_I μ a k v)) (hJ : ∀ {μ : MM} {a k : Nat} {v : Int64}, W a → P μ → P (mm_J μ a k v)) (hF : ∀ {μ : MM} {a : Nat} {g : Nat → Int32}, W a → P μ → P (mm_F μ a g)) (hw : ∀ a, 355 ≤ a → W a) {N : Nat} {μ : MM} (h0 : P μ) : fm_O P (f_Mo_round N μ) := by
  unfold f_Mo_round
  exact fm_wr (hI (hw _ (by first | omega | (simp only [inb, Bool.and_eq_true, decide_eq_true_eq] at *; omega))) h0) (fun μ1z hm1z => fm_ite (fm_some hm1z) (fr_Mo_round_L18 hI hJ hF hw _ _ _ _ hm1z))
set_option maxHeartbeats 1000000 in
theorem fr_Mo_nowhere_L18 {W : Nat → Prop} {P : MM → Prop} (hI : ∀ {μ : MM} {a k : Nat} {v : Int32}, W a → P μ → P (mm_I μ a k v)) (hJ : ∀ {μ : MM} {a k : Nat} {v : Int64}, W a → P μ → P (mm_J μ a k v)) (hF : ∀ {μ : MM} {a : Nat} {g : Nat → Int32}, W a → P μ → P (mm_F μ a g)) (hw : ∀ a, 355 ≤ a → W a) {N : Nat} : ∀ (n : Nat) (x1 : Int32) (x2 : Int32) (μ : MM), P μ → fm_O P (f_Mo_nowhere_L18 N n x1 x2 μ) := by
  intro n
  induction n with
  | zero => intros; exact fm_none
  | succ n ih =>
    intro x1 x2 μ h0
    rw [f_Mo_nowhere_L18]
    exact fm_ite (fm_some h0) (fm_ob (fr_Mo_leads hI hJ hF hw h0) (fun t29 μ2z hm2z => ih _ _ _ hm2z))
set_option maxHeartbeats 1000000 in
theorem fr_Mo_nowhere {W : Nat → Prop} {P : MM → Prop} (hI : ∀ {μ : MM} {a k : Nat} {v : Int32}, W a → P μ → P (mm_I μ a k v)) (hJ : ∀ {μ : MM} {a k : Nat} {v : Int64}, W a → P μ → P (mm_J μ a k v)) (hF : ∀ {μ : MM} {a : Nat} {g : Nat → Int32}, W a → P μ → P (mm_F μ a g)) (hw : ∀ a, 355 ≤ a → W a) {N : Nat} {μ : MM} (h0 : P μ) : fm_O P (f_Mo_nowhere N μ) := by
  unfold f_Mo_nowhere
  exact fm_wr (hI (hw _ (by first | omega | (simp only [inb, Bool.and_eq_true, decide_eq_true_eq] at *; omega))) h0) (fun μ1z hm1z => fm_ite (fm_some hm1z) (fr_Mo_nowhere_L18 hI hJ hF hw _ _ _ _ hm1z))
set_option maxHeartbeats 1000000 in
theorem fr_Mo_forged_B93 {W : Nat → Prop} {P : MM → Prop} (hI : ∀ {μ : MM} {a k : Nat} {v : Int32}, W a → P μ → P (mm_I μ a k v)) (hJ : ∀ {μ : MM} {a k : Nat} {v : Int64}, W a → P μ → P (mm_J μ a k v)) (hF : ∀ {μ : MM} {a : Nat} {g : Nat → Int32}, W a → P μ → P (mm_F μ a g)) (hw : ∀ a, 355 ≤ a → W a) {N : Nat} {k18 : Int32 → Int32 → MM → Option (Int32 × MM)} {k34 : Int32 → Int32 → Int32 → Int32 → Int32 → MM → Option (Int32 × MM)} {x1 : Int32} {x2 : Int32} {x4 : Int32} {x5 : Int32} {s0 : Int32} {s1 : Int32} {μ : MM} (hk18 : ∀ (z0 : Int32) (z1 : Int32) (z2 : MM), P z2 → fm_O P (k18 z0 z1 z2)) (hk34 : ∀ (z0 : Int32) (z1 : Int32) (z2 : Int32) (z3 : Int32) (z4 : Int32) (z5 : MM), P z5 → fm_O P (k34 z0 z1 z2 z3 z4 z5)) (h0 : P μ) : fm_O P (f_Mo_forged_B93 N k18 k34 x1 x2 x4 x5 s0 s1 μ) := by
  unfold f_Mo_forged_B93
  exact fm_ob (fr_Mo_sortOf hI hJ hF hw h0) (fun t104 μ5z hm5z => fm_ite (fm_ob (fr_Mo_whatOf hI hJ hF hw hm5z) (fun t119 μ6z hm6z => hk34 _ _ _ _ _ _ hm6z)) (hk34 _ _ _ _ _ _ hm5z))
set_option maxHeartbeats 1000000 in
theorem fr_Mo_forged_L34 {W : Nat → Prop} {P : MM → Prop} (hI : ∀ {μ : MM} {a k : Nat} {v : Int32}, W a → P μ → P (mm_I μ a k v)) (hJ : ∀ {μ : MM} {a k : Nat} {v : Int64}, W a → P μ → P (mm_J μ a k v)) (hF : ∀ {μ : MM} {a : Nat} {g : Nat → Int32}, W a → P μ → P (mm_F μ a g)) (hw : ∀ a, 355 ≤ a → W a) {N : Nat} {k18 : Int32 → Int32 → MM → Option (Int32 × MM)} (hk18 : ∀ (z0 : Int32) (z1 : Int32) (z2 : MM), P z2 → fm_O P (k18 z0 z1 z2)) : ∀ (n : Nat) (x1 : Int32) (x2 : Int32) (x3 : Int32) (x4 : Int32) (x5 : Int32) (μ : MM), P μ → fm_O P (f_Mo_forged_L34 N k18 n x1 x2 x3 x4 x5 μ) := by
  intro n
  induction n with
  | zero => intros; exact fm_none
  | succ n ih =>
    intro x1 x2 x3 x4 x5 μ h0
    rw [f_Mo_forged_L34]
    exact fm_ob (fr_Mo_wordsOf hI hJ hF hw h0) (fun t41 μ2z hm2z => fm_ite (hk18 _ _ _ hm2z) (fm_ob (fr_Mo_inkOf hI hJ hF hw hm2z) (fun t54 μ3z hm3z => fm_ite (ih _ _ _ _ _ _ hm3z) (fm_ob (fr_Mo_sortOf hI hJ hF hw hm3z) (fun t71 μ4z hm4z => fm_ite (fm_ob (fr_Mo_whatOf hI hJ hF hw hm4z) (fun t85 μ7z hm7z => fr_Mo_forged_B93 hI hJ hF hw (hk18) (ih) hm7z)) (fr_Mo_forged_B93 hI hJ hF hw (hk18) (ih) hm4z))))))
set_option maxHeartbeats 1000000 in
theorem fr_Mo_forged_L18 {W : Nat → Prop} {P : MM → Prop} (hI : ∀ {μ : MM} {a k : Nat} {v : Int32}, W a → P μ → P (mm_I μ a k v)) (hJ : ∀ {μ : MM} {a k : Nat} {v : Int64}, W a → P μ → P (mm_J μ a k v)) (hF : ∀ {μ : MM} {a : Nat} {g : Nat → Int32}, W a → P μ → P (mm_F μ a g)) (hw : ∀ a, 355 ≤ a → W a) {N : Nat} : ∀ (n : Nat) (x1 : Int32) (x2 : Int32) (μ : MM), P μ → fm_O P (f_Mo_forged_L18 N n x1 x2 μ) := by
  intro n
  induction n with
  | zero => intros; exact fm_none
  | succ n ih =>
    intro x1 x2 μ h0
    rw [f_Mo_forged_L18]
    exact fm_ite (fm_some h0) (fr_Mo_forged_L34 hI hJ hF hw (ih) _ _ _ _ _ _ _ h0)
set_option maxHeartbeats 1000000 in
theorem fr_Mo_forged {W : Nat → Prop} {P : MM → Prop} (hI : ∀ {μ : MM} {a k : Nat} {v : Int32}, W a → P μ → P (mm_I μ a k v)) (hJ : ∀ {μ : MM} {a k : Nat} {v : Int64}, W a → P μ → P (mm_J μ a k v)) (hF : ∀ {μ : MM} {a : Nat} {g : Nat → Int32}, W a → P μ → P (mm_F μ a g)) (hw : ∀ a, 355 ≤ a → W a) {N : Nat} {μ : MM} (h0 : P μ) : fm_O P (f_Mo_forged N μ) := by
  unfold f_Mo_forged
  exact fm_wr (hI (hw _ (by first | omega | (simp only [inb, Bool.and_eq_true, decide_eq_true_eq] at *; omega))) h0) (fun μ1z hm1z => fm_ite (fm_some hm1z) (fr_Mo_forged_L18 hI hJ hF hw _ _ _ _ hm1z))
set_option maxHeartbeats 1000000 in
theorem fr_Mo_alone_L50 {W : Nat → Prop} {P : MM → Prop} (hI : ∀ {μ : MM} {a k : Nat} {v : Int32}, W a → P μ → P (mm_I μ a k v)) (hJ : ∀ {μ : MM} {a k : Nat} {v : Int64}, W a → P μ → P (mm_J μ a k v)) (hF : ∀ {μ : MM} {a : Nat} {g : Nat → Int32}, W a → P μ → P (mm_F μ a g)) (hw : ∀ a, 355 ≤ a → W a) {N : Nat} {k19 : Int32 → Int32 → Int32 → MM → Option (Int32 × MM)} (hk19 : ∀ (z0 : Int32) (z1 : Int32) (z2 : Int32) (z3 : MM), P z3 → fm_O P (k19 z0 z1 z2 z3)) : ∀ (n : Nat) (x1 : Int32) (x2 : Int32) (x3 : Int32) (x4 : Int32) (x5 : Int32) (μ : MM), P μ → fm_O P (f_Mo_alone_L50 N k19 n x1 x2 x3 x4 x5 μ) := by
  intro n
  induction n with
  | zero => intros; exact fm_none
  | succ n ih =>
    intro x1 x2 x3 x4 x5 μ h0
    rw [f_Mo_alone_L50]
    exact fm_ite (hk19 _ _ _ _ h0) (fm_ite (ih _ _ _ _ _ _ h0) (fm_ite (ih _ _ _ _ _ _ h0) (fm_ob (fr_Mo_marks hI hJ hF hw h0) (fun t73 μ3z hm3z => fm_ob (fr_Mo_marks hI hJ hF hw hm3z) (fun t78 μ4z hm4z => fm_ite (ih _ _ _ _ _ _ hm4z) (ih _ _ _ _ _ _ hm4z))))))
set_option maxHeartbeats 1000000 in
theorem fr_Mo_alone_L19 {W : Nat → Prop} {P : MM → Prop} (hI : ∀ {μ : MM} {a k : Nat} {v : Int32}, W a → P μ → P (mm_I μ a k v)) (hJ : ∀ {μ : MM} {a k : Nat} {v : Int64}, W a → P μ → P (mm_J μ a k v)) (hF : ∀ {μ : MM} {a : Nat} {g : Nat → Int32}, W a → P μ → P (mm_F μ a g)) (hw : ∀ a, 355 ≤ a → W a) {N : Nat} : ∀ (n : Nat) (x1 : Int32) (x2 : Int32) (x3 : Int32) (μ : MM), P μ → fm_O P (f_Mo_alone_L19 N n x1 x2 x3 μ) := by
  intro n
  induction n with
  | zero => intros; exact fm_none
  | succ n ih =>
    intro x1 x2 x3 μ h0
    rw [f_Mo_alone_L19]
    exact fm_ite (fm_some h0) (fm_ite (fr_Mo_alone_L50 hI hJ hF hw (ih) _ _ _ _ _ _ _ h0) (fm_ob (fr_In_bitCount_0f7a4 hI hJ hF h0) (fun t31 μ5z hm5z => fm_ob (fr_In_bitCount_0f7a4 hI hJ hF hm5z) (fun t35 μ6z hm6z => fm_ite (fr_Mo_alone_L50 hI hJ hF hw (ih) _ _ _ _ _ _ _ hm6z) (ih _ _ _ _ hm6z)))))
set_option maxHeartbeats 1000000 in
theorem fr_Mo_alone {W : Nat → Prop} {P : MM → Prop} (hI : ∀ {μ : MM} {a k : Nat} {v : Int32}, W a → P μ → P (mm_I μ a k v)) (hJ : ∀ {μ : MM} {a k : Nat} {v : Int64}, W a → P μ → P (mm_J μ a k v)) (hF : ∀ {μ : MM} {a : Nat} {g : Nat → Int32}, W a → P μ → P (mm_F μ a g)) (hw : ∀ a, 355 ≤ a → W a) {N : Nat} {x1 : Int32} {μ : MM} (h0 : P μ) : fm_O P (f_Mo_alone N x1 μ) := by
  unfold f_Mo_alone
  exact fm_wr (hI (hw _ (by first | omega | (simp only [inb, Bool.and_eq_true, decide_eq_true_eq] at *; omega))) h0) (fun μ1z hm1z => fm_ob (fr_Mo_isThing hI hJ hF hw hm1z) (fun t7 μ2z hm2z => fm_ite (fm_some hm2z) (fr_Mo_alone_L19 hI hJ hF hw _ _ _ _ _ hm2z)))
set_option maxHeartbeats 1000000 in
theorem fr_Mo_suitsOf_L4 {W : Nat → Prop} {P : MM → Prop} (hI : ∀ {μ : MM} {a k : Nat} {v : Int32}, W a → P μ → P (mm_I μ a k v)) (hJ : ∀ {μ : MM} {a k : Nat} {v : Int64}, W a → P μ → P (mm_J μ a k v)) (hF : ∀ {μ : MM} {a : Nat} {g : Nat → Int32}, W a → P μ → P (mm_F μ a g)) (hw : ∀ a, 355 ≤ a → W a) {N : Nat} : ∀ (n : Nat) (x1 : Int32) (x2 : Int32) (x3 : Int32) (μ : MM), P μ → fm_O P (f_Mo_suitsOf_L4 N n x1 x2 x3 μ) := by
  intro n
  induction n with
  | zero => intros; exact fm_none
  | succ n ih =>
    intro x1 x2 x3 μ h0
    rw [f_Mo_suitsOf_L4]
    exact fm_ite (fm_some h0) (fm_ob (fr_Mo_fitsIn hI hJ hF hw h0) (fun t20 μ1z hm1z => ih _ _ _ _ hm1z))
set_option maxHeartbeats 1000000 in
theorem fr_Mo_suitsOf {W : Nat → Prop} {P : MM → Prop} (hI : ∀ {μ : MM} {a k : Nat} {v : Int32}, W a → P μ → P (mm_I μ a k v)) (hJ : ∀ {μ : MM} {a k : Nat} {v : Int64}, W a → P μ → P (mm_J μ a k v)) (hF : ∀ {μ : MM} {a : Nat} {g : Nat → Int32}, W a → P μ → P (mm_F μ a g)) (hw : ∀ a, 355 ≤ a → W a) {N : Nat} {x1 : Int32} {μ : MM} (h0 : P μ) : fm_O P (f_Mo_suitsOf N x1 μ) := by
  unfold f_Mo_suitsOf
  exact fr_Mo_suitsOf_L4 hI hJ hF hw _ _ _ _ _ h0
set_option maxHeartbeats 1000000 in
theorem fr_Mo_suits {W : Nat → Prop} {P : MM → Prop} (hI : ∀ {μ : MM} {a k : Nat} {v : Int32}, W a → P μ → P (mm_I μ a k v)) (hJ : ∀ {μ : MM} {a k : Nat} {v : Int64}, W a → P μ → P (mm_J μ a k v)) (hF : ∀ {μ : MM} {a : Nat} {g : Nat → Int32}, W a → P μ → P (mm_F μ a g)) (hw : ∀ a, 355 ≤ a → W a) {N : Nat} {x1 : Int32} {μ : MM} (h0 : P μ) : fm_O P (f_Mo_suits N x1 μ) := by
  unfold f_Mo_suits
  exact fm_wr (hI (hw _ (by first | omega | (simp only [inb, Bool.and_eq_true, decide_eq_true_eq] at *; omega))) h0) (fun μ1z hm1z => fm_ob (fr_Mo_isCard hI hJ hF hw hm1z) (fun t7 μ2z hm2z => fm_ite (fm_some hm2z) (fm_ob (fr_Mo_suitsOf hI hJ hF hw hm2z) (fun t15 μ3z hm3z => fm_some hm3z))))
set_option maxHeartbeats 1000000 in
theorem fr_Mo_wanted_L28 {W : Nat → Prop} {P : MM → Prop} (hI : ∀ {μ : MM} {a k : Nat} {v : Int32}, W a → P μ → P (mm_I μ a k v)) (hJ : ∀ {μ : MM} {a k : Nat} {v : Int64}, W a → P μ → P (mm_J μ a k v)) (hF : ∀ {μ : MM} {a : Nat} {g : Nat → Int32}, W a → P μ → P (mm_F μ a g)) (hw : ∀ a, 355 ≤ a → W a) {N : Nat} : ∀ (n : Nat) (x1 : Int32) (x2 : Int32) (x3 : Int32) (μ : MM), P μ → fm_O P (f_Mo_wanted_L28 N n x1 x2 x3 μ) := by
  intro n
  induction n with
  | zero => intros; exact fm_none
  | succ n ih =>
    intro x1 x2 x3 μ h0
    rw [f_Mo_wanted_L28]
    exact fm_ite (fm_ite (fm_some h0) (fm_ob (fr_Mo_suitsOf hI hJ hF hw h0) (fun t73 μ3z hm3z => fm_ob (fr_In_bitCount_0f7a4 hI hJ hF hm3z) (fun t76 μ4z hm4z => fm_some hm4z)))) (fm_ob (fr_Mo_suitsOf hI hJ hF hw h0) (fun t38 μ5z hm5z => fm_ob (fr_In_bitCount_0f7a4 hI hJ hF hm5z) (fun t41 μ6z hm6z => fm_ob (fr_Mo_suitsOf hI hJ hF hw hm6z) (fun t46 μ7z hm7z => fm_ob (fr_In_bitCount_0f7a4 hI hJ hF hm7z) (fun t49 μ8z hm8z => ih _ _ _ _ hm8z)))))
set_option maxHeartbeats 1000000 in
theorem fr_Mo_wanted {W : Nat → Prop} {P : MM → Prop} (hI : ∀ {μ : MM} {a k : Nat} {v : Int32}, W a → P μ → P (mm_I μ a k v)) (hJ : ∀ {μ : MM} {a k : Nat} {v : Int64}, W a → P μ → P (mm_J μ a k v)) (hF : ∀ {μ : MM} {a : Nat} {g : Nat → Int32}, W a → P μ → P (mm_F μ a g)) (hw : ∀ a, 355 ≤ a → W a) {N : Nat} {x1 : Int32} {μ : MM} (h0 : P μ) : fm_O P (f_Mo_wanted N x1 μ) := by
  unfold f_Mo_wanted
  exact fm_wr (hI (hw _ (by first | omega | (simp only [inb, Bool.and_eq_true, decide_eq_true_eq] at *; omega))) h0) (fun μ1z hm1z => fm_ite (fm_some hm1z) (fm_ob (fr_Mo_isIn hI hJ hF hw hm1z) (fun t16 μ2z hm2z => fm_ite (fm_some hm2z) (fr_Mo_wanted_L28 hI hJ hF hw _ _ _ _ _ hm2z))))
set_option maxHeartbeats 1000000 in
theorem fr_Mo_perhaps_L18 {W : Nat → Prop} {P : MM → Prop} (hI : ∀ {μ : MM} {a k : Nat} {v : Int32}, W a → P μ → P (mm_I μ a k v)) (hJ : ∀ {μ : MM} {a k : Nat} {v : Int64}, W a → P μ → P (mm_J μ a k v)) (hF : ∀ {μ : MM} {a : Nat} {g : Nat → Int32}, W a → P μ → P (mm_F μ a g)) (hw : ∀ a, 355 ≤ a → W a) {N : Nat} : ∀ (n : Nat) (x1 : Int32) (x2 : Int32) (μ : MM), P μ → fm_O P (f_Mo_perhaps_L18 N n x1 x2 μ) := by
  intro n
  induction n with
  | zero => intros; exact fm_none
  | succ n ih =>
    intro x1 x2 μ h0
    rw [f_Mo_perhaps_L18]
    exact fm_ite (fm_some h0) (fm_ob (fr_Mo_goneOf hI hJ hF hw h0) (fun t30 μ2z hm2z => fm_ob (fr_Mo_wordsOf hI hJ hF hw hm2z) (fun t39 μ3z hm3z => ih _ _ _ hm3z)))
set_option maxHeartbeats 1000000 in
theorem fr_Mo_perhaps {W : Nat → Prop} {P : MM → Prop} (hI : ∀ {μ : MM} {a k : Nat} {v : Int32}, W a → P μ → P (mm_I μ a k v)) (hJ : ∀ {μ : MM} {a k : Nat} {v : Int64}, W a → P μ → P (mm_J μ a k v)) (hF : ∀ {μ : MM} {a : Nat} {g : Nat → Int32}, W a → P μ → P (mm_F μ a g)) (hw : ∀ a, 355 ≤ a → W a) {N : Nat} {μ : MM} (h0 : P μ) : fm_O P (f_Mo_perhaps N μ) := by
  unfold f_Mo_perhaps
  exact fm_wr (hI (hw _ (by first | omega | (simp only [inb, Bool.and_eq_true, decide_eq_true_eq] at *; omega))) h0) (fun μ1z hm1z => fm_ite (fm_some hm1z) (fr_Mo_perhaps_L18 hI hJ hF hw _ _ _ _ hm1z))
set_option maxHeartbeats 1000000 in
theorem fr_Mo_shared {W : Nat → Prop} {P : MM → Prop} (hI : ∀ {μ : MM} {a k : Nat} {v : Int32}, W a → P μ → P (mm_I μ a k v)) (hJ : ∀ {μ : MM} {a k : Nat} {v : Int64}, W a → P μ → P (mm_J μ a k v)) (hF : ∀ {μ : MM} {a : Nat} {g : Nat → Int32}, W a → P μ → P (mm_F μ a g)) (hw : ∀ a, 355 ≤ a → W a) {N : Nat} {x1 : Int32} {x2 : Int32} {μ : MM} (h0 : P μ) : fm_O P (f_Mo_shared N x1 x2 μ) := by
  unfold f_Mo_shared
  exact fm_wr (hI (hw _ (by first | omega | (simp only [inb, Bool.and_eq_true, decide_eq_true_eq] at *; omega))) h0) (fun μ1z hm1z => fm_ob (fr_Mo_isThing hI hJ hF hw hm1z) (fun t7 μ2z hm2z => fm_ite (fm_some hm2z) (fm_ob (fr_Mo_isThing hI hJ hF hw hm2z) (fun t15 μ3z hm3z => fm_ite (fm_some hm3z) (fm_ob (fr_Mo_marks hI hJ hF hw hm3z) (fun t23 μ4z hm4z => fm_ob (fr_Mo_marks hI hJ hF hw hm4z) (fun t28 μ5z hm5z => fm_some hm5z)))))))
set_option maxHeartbeats 1000000 in
theorem fr_Mo_twins_L36 {W : Nat → Prop} {P : MM → Prop} (hI : ∀ {μ : MM} {a k : Nat} {v : Int32}, W a → P μ → P (mm_I μ a k v)) (hJ : ∀ {μ : MM} {a k : Nat} {v : Int64}, W a → P μ → P (mm_J μ a k v)) (hF : ∀ {μ : MM} {a : Nat} {g : Nat → Int32}, W a → P μ → P (mm_F μ a g)) (hw : ∀ a, 355 ≤ a → W a) {N : Nat} {k23 : Int32 → Int32 → Int32 → MM → Option (Int32 × MM)} (hk23 : ∀ (z0 : Int32) (z1 : Int32) (z2 : Int32) (z3 : MM), P z3 → fm_O P (k23 z0 z1 z2 z3)) : ∀ (n : Nat) (x1 : Int32) (x2 : Int32) (x3 : Int32) (x4 : Int32) (μ : MM), P μ → fm_O P (f_Mo_twins_L36 N k23 n x1 x2 x3 x4 μ) := by
  intro n
  induction n with
  | zero => intros; exact fm_none
  | succ n ih =>
    intro x1 x2 x3 x4 μ h0
    rw [f_Mo_twins_L36]
    exact fm_ite (hk23 _ _ _ _ h0) (fm_ob (fr_Mo_marks hI hJ hF hw h0) (fun t47 μ2z hm2z => fm_ob (fr_Mo_marks hI hJ hF hw hm2z) (fun t53 μ3z hm3z => fm_ite (fm_ite (fm_some hm3z) (ih _ _ _ _ _ hm3z)) (ih _ _ _ _ _ hm3z))))
set_option maxHeartbeats 1000000 in
theorem fr_Mo_twins_L23 {W : Nat → Prop} {P : MM → Prop} (hI : ∀ {μ : MM} {a k : Nat} {v : Int32}, W a → P μ → P (mm_I μ a k v)) (hJ : ∀ {μ : MM} {a k : Nat} {v : Int64}, W a → P μ → P (mm_J μ a k v)) (hF : ∀ {μ : MM} {a : Nat} {g : Nat → Int32}, W a → P μ → P (mm_F μ a g)) (hw : ∀ a, 355 ≤ a → W a) {N : Nat} : ∀ (n : Nat) (x1 : Int32) (x2 : Int32) (x3 : Int32) (μ : MM), P μ → fm_O P (f_Mo_twins_L23 N n x1 x2 x3 μ) := by
  intro n
  induction n with
  | zero => intros; exact fm_none
  | succ n ih =>
    intro x1 x2 x3 μ h0
    rw [f_Mo_twins_L23]
    exact fm_ite (fm_some h0) (fr_Mo_twins_L36 hI hJ hF hw (ih) _ _ _ _ _ _ h0)
set_option maxHeartbeats 1000000 in
theorem fr_Mo_twins {W : Nat → Prop} {P : MM → Prop} (hI : ∀ {μ : MM} {a k : Nat} {v : Int32}, W a → P μ → P (mm_I μ a k v)) (hJ : ∀ {μ : MM} {a k : Nat} {v : Int64}, W a → P μ → P (mm_J μ a k v)) (hF : ∀ {μ : MM} {a : Nat} {g : Nat → Int32}, W a → P μ → P (mm_F μ a g)) (hw : ∀ a, 355 ≤ a → W a) {N : Nat} {x1 : Int32} {μ : MM} (h0 : P μ) : fm_O P (f_Mo_twins N x1 μ) := by
  unfold f_Mo_twins
  exact fm_wr (hI (hw _ (by first | omega | (simp only [inb, Bool.and_eq_true, decide_eq_true_eq] at *; omega))) h0) (fun μ1z hm1z => fm_ite (fm_some hm1z) (fm_ite (fr_Mo_twins_L23 hI hJ hF hw _ _ _ _ _ hm1z) (fm_some hm1z)))
set_option maxHeartbeats 1000000 in
theorem fr_Mo_oddsOf_L169 {W : Nat → Prop} {P : MM → Prop} (hI : ∀ {μ : MM} {a k : Nat} {v : Int32}, W a → P μ → P (mm_I μ a k v)) (hJ : ∀ {μ : MM} {a k : Nat} {v : Int64}, W a → P μ → P (mm_J μ a k v)) (hF : ∀ {μ : MM} {a : Nat} {g : Nat → Int32}, W a → P μ → P (mm_F μ a g)) (hw : ∀ a, 355 ≤ a → W a) {N : Nat} : ∀ (n : Nat) (x4 : Int32) (y5 : Int64) (x7 : Int32) (μ : MM), P μ → fm_O P (f_Mo_oddsOf_L169 N n x4 y5 x7 μ) := by
  intro n
  induction n with
  | zero => intros; exact fm_none
  | succ n ih =>
    intro x4 y5 x7 μ h0
    rw [f_Mo_oddsOf_L169]
    exact fm_ite (fm_some h0) (fm_ite (fm_some h0) (fm_gd (fun g1 => ih _ _ _ _ h0)))
set_option maxHeartbeats 1000000 in
theorem fr_Mo_oddsOf_L104 {W : Nat → Prop} {P : MM → Prop} (hI : ∀ {μ : MM} {a k : Nat} {v : Int32}, W a → P μ → P (mm_I μ a k v)) (hJ : ∀ {μ : MM} {a k : Nat} {v : Int64}, W a → P μ → P (mm_J μ a k v)) (hF : ∀ {μ : MM} {a : Nat} {g : Nat → Int32}, W a → P μ → P (mm_F μ a g)) (hw : ∀ a, 355 ≤ a → W a) {N : Nat} {k94 : Int32 → Int32 → Int32 → Int32 → MM → Option (Int32 × MM)} (hk94 : ∀ (z0 : Int32) (z1 : Int32) (z2 : Int32) (z3 : Int32) (z4 : MM), P z4 → fm_O P (k94 z0 z1 z2 z3 z4)) : ∀ (n : Nat) (x2 : Int32) (x3 : Int32) (x4 : Int32) (x5 : Int32) (x6 : Int32) (μ : MM), P μ → fm_O P (f_Mo_oddsOf_L104 N k94 n x2 x3 x4 x5 x6 μ) := by
  intro n
  induction n with
  | zero => intros; exact fm_none
  | succ n ih =>
    intro x2 x3 x4 x5 x6 μ h0
    rw [f_Mo_oddsOf_L104]
    exact fm_ite (hk94 _ _ _ _ _ h0) (fm_gd (fun g1 => fm_gd (fun g2 => fm_gd (fun g3 => fm_wr (hJ (hw _ (by first | omega | (simp only [inb, Bool.and_eq_true, decide_eq_true_eq] at *; omega))) h0) (fun μ2z hm2z => fm_gd (fun g4 => fm_gd (fun g5 => fm_wr (hJ (hw _ (by first | omega | (simp only [inb, Bool.and_eq_true, decide_eq_true_eq] at *; omega))) hm2z) (fun μ3z hm3z => ih _ _ _ _ _ _ hm3z))))))))
set_option maxHeartbeats 1000000 in
theorem fr_Mo_oddsOf_L94 {W : Nat → Prop} {P : MM → Prop} (hI : ∀ {μ : MM} {a k : Nat} {v : Int32}, W a → P μ → P (mm_I μ a k v)) (hJ : ∀ {μ : MM} {a k : Nat} {v : Int64}, W a → P μ → P (mm_J μ a k v)) (hF : ∀ {μ : MM} {a : Nat} {g : Nat → Int32}, W a → P μ → P (mm_F μ a g)) (hw : ∀ a, 355 ≤ a → W a) {N : Nat} : ∀ (n : Nat) (x2 : Int32) (x3 : Int32) (x4 : Int32) (x5 : Int32) (μ : MM), P μ → fm_O P (f_Mo_oddsOf_L94 N n x2 x3 x4 x5 μ) := by
  intro n
  induction n with
  | zero => intros; exact fm_none
  | succ n ih =>
    intro x2 x3 x4 x5 μ h0
    rw [f_Mo_oddsOf_L94]
    exact fm_ite (fr_Mo_oddsOf_L169 hI hJ hF hw _ _ _ _ _ h0) (fr_Mo_oddsOf_L104 hI hJ hF hw (ih) _ _ _ _ _ _ _ h0)
set_option maxHeartbeats 1000000 in
theorem fr_Mo_oddsOf_B84 {W : Nat → Prop} {P : MM → Prop} (hI : ∀ {μ : MM} {a k : Nat} {v : Int32}, W a → P μ → P (mm_I μ a k v)) (hJ : ∀ {μ : MM} {a k : Nat} {v : Int64}, W a → P μ → P (mm_J μ a k v)) (hF : ∀ {μ : MM} {a : Nat} {g : Nat → Int32}, W a → P μ → P (mm_F μ a g)) (hw : ∀ a, 355 ≤ a → W a) {N : Nat} {k59 : Int32 → Int32 → Int32 → Int32 → MM → Option (Int32 × MM)} {x2 : Int32} {x3 : Int32} {x4 : Int32} {x5 : Int32} {s1 : Int32} {s2 : Int64} {μ : MM} (hk59 : ∀ (z0 : Int32) (z1 : Int32) (z2 : Int32) (z3 : Int32) (z4 : MM), P z4 → fm_O P (k59 z0 z1 z2 z3 z4)) (h0 : P μ) : fm_O P (f_Mo_oddsOf_B84 N k59 x2 x3 x4 x5 s1 s2 μ) := by
  unfold f_Mo_oddsOf_B84
  exact fm_gd (fun g1 => fm_wr (hJ (hw _ (by first | omega | (simp only [inb, Bool.and_eq_true, decide_eq_true_eq] at *; omega))) h0) (fun μ4z hm4z => hk59 _ _ _ _ _ hm4z))
set_option maxHeartbeats 1000000 in
theorem fr_Mo_oddsOf_L59 {W : Nat → Prop} {P : MM → Prop} (hI : ∀ {μ : MM} {a k : Nat} {v : Int32}, W a → P μ → P (mm_I μ a k v)) (hJ : ∀ {μ : MM} {a k : Nat} {v : Int64}, W a → P μ → P (mm_J μ a k v)) (hF : ∀ {μ : MM} {a : Nat} {g : Nat → Int32}, W a → P μ → P (mm_F μ a g)) (hw : ∀ a, 355 ≤ a → W a) {N : Nat} : ∀ (n : Nat) (x2 : Int32) (x3 : Int32) (x4 : Int32) (x5 : Int32) (μ : MM), P μ → fm_O P (f_Mo_oddsOf_L59 N n x2 x3 x4 x5 μ) := by
  intro n
  induction n with
  | zero => intros; exact fm_none
  | succ n ih =>
    intro x2 x3 x4 x5 μ h0
    rw [f_Mo_oddsOf_L59]
    exact fm_ite (fr_Mo_oddsOf_L94 hI hJ hF hw _ _ _ _ _ _ h0) (fr_Mo_oddsOf_B84 hI hJ hF hw (ih) h0)
set_option maxHeartbeats 1000000 in
theorem fr_Mo_oddsOf_L7 {W : Nat → Prop} {P : MM → Prop} (hI : ∀ {μ : MM} {a k : Nat} {v : Int32}, W a → P μ → P (mm_I μ a k v)) (hJ : ∀ {μ : MM} {a k : Nat} {v : Int64}, W a → P μ → P (mm_J μ a k v)) (hF : ∀ {μ : MM} {a : Nat} {g : Nat → Int32}, W a → P μ → P (mm_F μ a g)) (hw : ∀ a, 355 ≤ a → W a) {N : Nat} : ∀ (n : Nat) (x1 : Int32) (x2 : Int32) (x3 : Int32) (x4 : Int32) (x5 : Int32) (μ : MM), P μ → fm_O P (f_Mo_oddsOf_L7 N n x1 x2 x3 x4 x5 μ) := by
  intro n
  induction n with
  | zero => intros; exact fm_none
  | succ n ih =>
    intro x1 x2 x3 x4 x5 μ h0
    rw [f_Mo_oddsOf_L7]
    exact fm_ob (fr_Mo_wordsOf hI hJ hF hw h0) (fun t14 μ1z hm1z => fm_ite (fr_Mo_oddsOf_L59 hI hJ hF hw _ _ _ _ _ _ hm1z) (fm_ob (fr_Mo_inkOf hI hJ hF hw hm1z) (fun t27 μ5z hm5z => fm_ite (ih _ _ _ _ _ _ hm5z) (fm_ob (fr_Mo_inkOf hI hJ hF hw hm5z) (fun t42 μ6z hm6z => ih _ _ _ _ _ _ hm6z)))))
set_option maxHeartbeats 1000000 in
theorem fr_Mo_oddsOf {W : Nat → Prop} {P : MM → Prop} (hI : ∀ {μ : MM} {a k : Nat} {v : Int32}, W a → P μ → P (mm_I μ a k v)) (hJ : ∀ {μ : MM} {a k : Nat} {v : Int64}, W a → P μ → P (mm_J μ a k v)) (hF : ∀ {μ : MM} {a : Nat} {g : Nat → Int32}, W a → P μ → P (mm_F μ a g)) (hw : ∀ a, 355 ≤ a → W a) {N : Nat} {x1 : Int32} {x2 : Int32} {x3 : Int32} {μ : MM} (h0 : P μ) : fm_O P (f_Mo_oddsOf N x1 x2 x3 μ) := by
  unfold f_Mo_oddsOf
  exact fr_Mo_oddsOf_L7 hI hJ hF hw _ _ _ _ _ _ _ h0
set_option maxHeartbeats 1000000 in
theorem fr_Mo_odds {W : Nat → Prop} {P : MM → Prop} (hI : ∀ {μ : MM} {a k : Nat} {v : Int32}, W a → P μ → P (mm_I μ a k v)) (hJ : ∀ {μ : MM} {a k : Nat} {v : Int64}, W a → P μ → P (mm_J μ a k v)) (hF : ∀ {μ : MM} {a : Nat} {g : Nat → Int32}, W a → P μ → P (mm_F μ a g)) (hw : ∀ a, 355 ≤ a → W a) {N : Nat} {x1 : Int32} {x2 : Int32} {x3 : Int32} {μ : MM} (h0 : P μ) : fm_O P (f_Mo_odds N x1 x2 x3 μ) := by
  unfold f_Mo_odds
  exact fm_wr (hI (hw _ (by first | omega | (simp only [inb, Bool.and_eq_true, decide_eq_true_eq] at *; omega))) h0) (fun μ1z hm1z => fm_ob (fr_Mo_isCard hI hJ hF hw hm1z) (fun t7 μ2z hm2z => fm_ite (fm_some hm2z) (fm_ob (fr_Mo_isIn hI hJ hF hw hm2z) (fun t19 μ3z hm3z => fm_ite (fm_some hm3z) (fm_ob (fr_Mo_isIn hI hJ hF hw hm3z) (fun t31 μ4z hm4z => fm_ite (fm_some hm4z) (fm_ob (fr_Mo_oddsOf hI hJ hF hw hm4z) (fun t41 μ5z hm5z => fm_some hm5z))))))))
set_option maxHeartbeats 1000000 in
theorem fr_Mo_rescue_L43 {W : Nat → Prop} {P : MM → Prop} (hI : ∀ {μ : MM} {a k : Nat} {v : Int32}, W a → P μ → P (mm_I μ a k v)) (hJ : ∀ {μ : MM} {a k : Nat} {v : Int64}, W a → P μ → P (mm_J μ a k v)) (hF : ∀ {μ : MM} {a : Nat} {g : Nat → Int32}, W a → P μ → P (mm_F μ a g)) (hw : ∀ a, 355 ≤ a → W a) {N : Nat} : ∀ (n : Nat) (x1 : Int32) (x2 : Int32) (x3 : Int32) (x4 : Int32) (μ : MM), P μ → fm_O P (f_Mo_rescue_L43 N n x1 x2 x3 x4 μ) := by
  intro n
  induction n with
  | zero => intros; exact fm_none
  | succ n ih =>
    intro x1 x2 x3 x4 μ h0
    rw [f_Mo_rescue_L43]
    exact fm_ite (fm_some h0) (fm_ob (fr_Mo_leftOf hI hJ hF hw h0) (fun t58 μ4z hm4z => fm_ite (ih _ _ _ _ _ hm4z) (fm_ite (ih _ _ _ _ _ hm4z) (fm_ob (fr_Mo_oddsOf hI hJ hF hw hm4z) (fun t74 μ5z hm5z => fm_ob (fr_Mo_oddsOf hI hJ hF hw hm5z) (fun t81 μ6z hm6z => fm_ite (ih _ _ _ _ _ hm6z) (ih _ _ _ _ _ hm6z)))))))
set_option maxHeartbeats 1000000 in
theorem fr_Mo_rescue {W : Nat → Prop} {P : MM → Prop} (hI : ∀ {μ : MM} {a k : Nat} {v : Int32}, W a → P μ → P (mm_I μ a k v)) (hJ : ∀ {μ : MM} {a k : Nat} {v : Int64}, W a → P μ → P (mm_J μ a k v)) (hF : ∀ {μ : MM} {a : Nat} {g : Nat → Int32}, W a → P μ → P (mm_F μ a g)) (hw : ∀ a, 355 ≤ a → W a) {N : Nat} {x1 : Int32} {x2 : Int32} {μ : MM} (h0 : P μ) : fm_O P (f_Mo_rescue N x1 x2 μ) := by
  unfold f_Mo_rescue
  exact fm_wr (hI (hw _ (by first | omega | (simp only [inb, Bool.and_eq_true, decide_eq_true_eq] at *; omega))) h0) (fun μ1z hm1z => fm_ite (fm_some hm1z) (fm_ob (fr_Mo_isIn hI hJ hF hw hm1z) (fun t18 μ2z hm2z => fm_ite (fm_some hm2z) (fm_ob (fr_Mo_isIn hI hJ hF hw hm2z) (fun t30 μ3z hm3z => fm_ite (fm_some hm3z) (fr_Mo_rescue_L43 hI hJ hF hw _ _ _ _ _ _ hm3z))))))
set_option maxHeartbeats 1000000 in
theorem fr_Mo_image {W : Nat → Prop} {P : MM → Prop} (hI : ∀ {μ : MM} {a k : Nat} {v : Int32}, W a → P μ → P (mm_I μ a k v)) (hJ : ∀ {μ : MM} {a k : Nat} {v : Int64}, W a → P μ → P (mm_J μ a k v)) (hF : ∀ {μ : MM} {a : Nat} {g : Nat → Int32}, W a → P μ → P (mm_F μ a g)) (hw : ∀ a, 355 ≤ a → W a) {N : Nat} {μ : MM} (h0 : P μ) : fm_O P (f_Mo_image N μ) := by
  unfold f_Mo_image
  exact fm_wr (hI (hw _ (by first | omega | (simp only [inb, Bool.and_eq_true, decide_eq_true_eq] at *; omega))) h0) (fun μ1z hm1z => fm_ite (fm_some hm1z) (fm_obv (fr_Mo_copies hI hJ hF hw (by first | omega | (simp only [inb, Bool.and_eq_true, decide_eq_true_eq] at *; omega)) hm1z) (fun μ2z hm2z => fm_wr (hI (hw _ (by first | omega | (simp only [inb, Bool.and_eq_true, decide_eq_true_eq] at *; omega))) hm2z) (fun μ3z hm3z => fm_some hm3z))))
set_option maxHeartbeats 1000000 in
theorem fr_Mo_back {W : Nat → Prop} {P : MM → Prop} (hI : ∀ {μ : MM} {a k : Nat} {v : Int32}, W a → P μ → P (mm_I μ a k v)) (hJ : ∀ {μ : MM} {a k : Nat} {v : Int64}, W a → P μ → P (mm_J μ a k v)) (hF : ∀ {μ : MM} {a : Nat} {g : Nat → Int32}, W a → P μ → P (mm_F μ a g)) (hw : ∀ a, 355 ≤ a → W a) {N : Nat} {μ : MM} (h0 : P μ) : fm_O P (f_Mo_back N μ) := by
  unfold f_Mo_back
  exact fm_wr (hI (hw _ (by first | omega | (simp only [inb, Bool.and_eq_true, decide_eq_true_eq] at *; omega))) h0) (fun μ1z hm1z => fm_ite (fm_some hm1z) (fm_obv (fr_Mo_copies hI hJ hF hw (by first | omega | (simp only [inb, Bool.and_eq_true, decide_eq_true_eq] at *; omega)) hm1z) (fun μ2z hm2z => fm_wr (hI (hw _ (by first | omega | (simp only [inb, Bool.and_eq_true, decide_eq_true_eq] at *; omega))) hm2z) (fun μ3z hm3z => fm_some hm3z))))
set_option maxHeartbeats 1000000 in
theorem fr_Mo_count_L144 {W : Nat → Prop} {P : MM → Prop} (hI : ∀ {μ : MM} {a k : Nat} {v : Int32}, W a → P μ → P (mm_I μ a k v)) (hJ : ∀ {μ : MM} {a k : Nat} {v : Int64}, W a → P μ → P (mm_J μ a k v)) (hF : ∀ {μ : MM} {a : Nat} {g : Nat → Int32}, W a → P μ → P (mm_F μ a g)) (hw : ∀ a, 355 ≤ a → W a) {N : Nat} : ∀ (n : Nat) (x2 : Int32) (x3 : Int32) (μ : MM), P μ → fm_O P (f_Mo_count_L144 N n x2 x3 μ) := by
  intro n
  induction n with
  | zero => intros; exact fm_none
  | succ n ih =>
    intro x2 x3 μ h0
    rw [f_Mo_count_L144]
    exact fm_ite (fm_some h0) (fm_ob (fr_Mo_goneOf hI hJ hF hw h0) (fun t155 μ2z hm2z => ih _ _ _ hm2z))
set_option maxHeartbeats 1000000 in
theorem fr_Mo_count {W : Nat → Prop} {P : MM → Prop} (hI : ∀ {μ : MM} {a k : Nat} {v : Int32}, W a → P μ → P (mm_I μ a k v)) (hJ : ∀ {μ : MM} {a k : Nat} {v : Int64}, W a → P μ → P (mm_J μ a k v)) (hF : ∀ {μ : MM} {a : Nat} {g : Nat → Int32}, W a → P μ → P (mm_F μ a g)) (hw : ∀ a, 355 ≤ a → W a) {N : Nat} {x1 : Int32} {μ : MM} (h0 : P μ) : fm_O P (f_Mo_count N x1 μ) := by
  unfold f_Mo_count
  exact fm_wr (hI (hw _ (by first | omega | (simp only [inb, Bool.and_eq_true, decide_eq_true_eq] at *; omega))) h0) (fun μ1z hm1z => fm_ite (fm_some hm1z) (fm_ite (fm_some hm1z) (fm_ite (fm_some hm1z) (fm_ite (fm_some hm1z) (fm_ite (fm_some hm1z) (fm_ite (fm_some hm1z) (fm_ite (fm_some hm1z) (fm_ite (fm_some hm1z) (fm_ite (fm_some hm1z) (fm_ite (fm_some hm1z) (fm_ite (fm_some hm1z) (fm_ite (fr_Mo_count_L144 hI hJ hF hw _ _ _ _ hm1z) (fm_ite (fm_some hm1z) (fm_ite (fm_some hm1z) (fm_some hm1z)))))))))))))))
