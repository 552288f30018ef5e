/-! ===== plain numbers: rows begun from the kit's pages of numbers and bits ===== -/
/-! ===== order of ints, in all its forms, and through longs ===== -/
theorem fa_lt (a b : Int32) : a < b ↔ a.toInt < b.toInt := Int32.lt_iff_toInt_lt
theorem fa_le (a b : Int32) : a ≤ b ↔ a.toInt ≤ b.toInt := Int32.le_iff_toInt_le
theorem fa_eq (a b : Int32) : a = b ↔ a.toInt = b.toInt := Int32.toInt_inj.symm
theorem fa_lt64 (a b : Int64) : a < b ↔ a.toInt < b.toInt := Int64.lt_iff_toInt_lt
theorem fa_le64 (a b : Int64) : a ≤ b ↔ a.toInt ≤ b.toInt := Int64.le_iff_toInt_le
theorem fa_eq64 (a b : Int64) : a = b ↔ a.toInt = b.toInt := Int64.toInt_inj.symm
/-- a comparison of two ints taken as longs -/
theorem fa_wide_lt (a b : Int32) : a.toInt64 < b.toInt64 ↔ a < b := by rw [fa_lt64, fa_lt, Int32.toInt_toInt64, Int32.toInt_toInt64]
theorem fa_wide_le (a b : Int32) : a.toInt64 ≤ b.toInt64 ↔ a ≤ b := by rw [fa_le64, fa_le, Int32.toInt_toInt64, Int32.toInt_toInt64]
theorem fa_wide_eq (a b : Int32) : a.toInt64 = b.toInt64 ↔ a = b := by rw [fa_eq64, fa_eq, Int32.toInt_toInt64, Int32.toInt_toInt64]
/-- one strict comparison gives all the others -/
theorem fa_of_lt {a b : Int32} (h : a < b) : a ≤ b ∧ ¬ b ≤ a ∧ ¬ b < a ∧ a ≠ b ∧ b ≠ a := by
  rw [fa_lt] at h
  refine ⟨?_, ?_, ?_, ?_, ?_⟩
  · rw [fa_le]; omega
  · rw [fa_le]; omega
  · rw [fa_lt]; omega
  · intro e; rw [fa_eq] at e; omega
  · intro e; rw [fa_eq] at e; omega
theorem fa_of_nlt {a b : Int32} (h : ¬ a < b) : b ≤ a := by
  rw [fa_lt] at h
  rw [fa_le]
  omega
theorem fa_of_nle {a b : Int32} (h : ¬ a ≤ b) : b < a := by
  rw [fa_le] at h
  rw [fa_lt]
  omega
theorem fa_le_ne {a b : Int32} (h : a ≤ b) (h2 : a ≠ b) : a < b := by
  rw [fa_le] at h
  rw [fa_lt]
  have h3 : a.toInt ≠ b.toInt := fun e => h2 ((fa_eq a b).mpr e)
  omega
theorem fa_three (a b : Int32) : a < b ∨ a = b ∨ b < a := by
  rw [fa_lt, fa_lt, fa_eq]
  omega
theorem fa_trans {a b c : Int32} (h : a < b) (h2 : b ≤ c) : a < c := by
  rw [fa_lt] at *
  rw [fa_le] at h2
  omega
/-! ===== small literals as numbers ===== -/
theorem fa_lit (n : Nat) : (OfNat.ofNat n : Int32) = nI n := rfl
theorem fa_litL (n : Nat) : (OfNat.ofNat n : Int64) = lN n := rfl
/-! ===== bits of a number: 'or', masks, one bit ===== -/
theorem fa_and (a b : Nat) : nI a &&& nI b = nI (a &&& b) := by
  apply Int32.toBitVec_inj.1
  show BitVec.ofNat 32 a &&& BitVec.ofNat 32 b = BitVec.ofNat 32 (a &&& b)
  apply BitVec.eq_of_getLsbD_eq
  intro i hi
  simp [hi]
theorem fa_or (a b : Nat) : nI a ||| nI b = nI (a ||| b) := by
  apply Int32.toBitVec_inj.1
  show BitVec.ofNat 32 a ||| BitVec.ofNat 32 b = BitVec.ofNat 32 (a ||| b)
  apply BitVec.eq_of_getLsbD_eq
  intro i hi
  simp [hi]
/-- a remainder by a power of two, as a mask -/
theorem fa_mask (n k : Nat) : nI n &&& nI (2 ^ k - 1) = nI (n % 2 ^ k) := by rw [fa_and, Nat.and_two_pow_sub_one_eq_mod]
/-- 'or' of a high part and a low one that don't meet is their sum -/
theorem fa_or_sum {a k : Nat} (b : Nat) (h : a < 2 ^ k) : nI (2 ^ k * b) ||| nI a = nI (2 ^ k * b + a) := by rw [fa_or, Nat.two_pow_add_eq_or_of_lt h]
/-- one bit, by 'and' with a power of two -/
theorem fa_bit {n j : Nat} (hj : j < 31) : nI n &&& nI (2 ^ j) = 0 ↔ n.testBit j = false := by
  have h2 : (2 : Nat) ^ j < 2 ^ 31 := Nat.pow_lt_pow_right (by decide) hj
  have hle : n &&& 2 ^ j ≤ 2 ^ j := Nat.and_le_right
  have e : n &&& 2 ^ j = 0 ↔ n.testBit j = false := by
    constructor
    · intro h
      have h1 : (n &&& 2 ^ j).testBit j = false := by rw [h]; simp
      rw [Nat.testBit_and] at h1
      first | simpa using h1 | simpa [Nat.testBit_two_pow_self] using h1 | simpa [Nat.testBit_two_pow] using h1
    · intro h
      apply Nat.eq_of_testBit_eq
      intro i
      rw [Nat.testBit_and]
      by_cases hi : j = i
      · subst hi; simp [h]
      · first | (simp [Nat.testBit_two_pow, hi]; done) | (simp [Nat.testBit_two_pow_of_ne hi]; done)
  rw [fa_and]
  constructor
  · intro h
    apply e.mp
    rcases Nat.eq_zero_or_pos (n &&& 2 ^ j) with z | z
    · exact z
    · exact absurd h (nI_ne0 z (Nat.lt_of_le_of_lt hle h2))
  · intro h
    rw [e.mpr h]; exact nI_0
/-- a remainder by a power of two of a number that isn't negative, as Java divides -/
theorem fa_rem {a k : Nat} (ha : a < 2 ^ 31) (hk : k < 31) : nI a - nI a / nI (2 ^ k) * nI (2 ^ k) = nI (a % 2 ^ k) := pk_rem ha (Nat.two_pow_pos k) (Nat.pow_lt_pow_right (by decide) hk)
/-! ===== Int32 by its bits: bt x i ===== -/
def bt (x : Int32) (i : Nat) : Bool := x.toBitVec.getLsbD i
theorem b_ext {x y : Int32} (h : ∀ i, i < 32 → bt x i = bt y i) : x = y := Int32.toBitVec_inj.mp (BitVec.eq_of_getLsbD_eq (fun i hi => h i hi))
theorem b_or (x y : Int32) (i : Nat) : bt (x ||| y) i = (bt x i || bt y i) := by unfold bt; rw [Int32.toBitVec_or, BitVec.getLsbD_or]
theorem b_and (x y : Int32) (i : Nat) : bt (x &&& y) i = (bt x i && bt y i) := by unfold bt; rw [Int32.toBitVec_and, BitVec.getLsbD_and]
theorem b_xor (x y : Int32) (i : Nat) : bt (x ^^^ y) i = (bt x i ^^ bt y i) := by unfold bt; rw [Int32.toBitVec_xor, BitVec.getLsbD_xor]
theorem b_big {x : Int32} {i : Nat} (h : 32 ≤ i) : bt x i = false := BitVec.getLsbD_of_ge _ _ h
theorem b_255 (i : Nat) : bt 255 i = decide (i < 8) := by
  rcases Nat.lt_or_ge i 32 with h | h
  · exact (by decide +kernel : ∀ i, i < 32 → bt 255 i = decide (i < 8)) i h
  · rw [b_big h, decide_eq_false (by omega)]
theorem b_65535 (i : Nat) : bt 65535 i = decide (i < 16) := by
  rcases Nat.lt_or_ge i 32 with h | h
  · exact (by decide +kernel : ∀ i, i < 32 → bt 65535 i = decide (i < 16)) i h
  · rw [b_big h, decide_eq_false (by omega)]
theorem b_m1 : ∀ i, i < 32 → bt (-1) i = true := by decide +kernel
theorem b_0 (i : Nat) : bt 0 i = false := BitVec.getLsbD_zero
theorem s_l : ∀ n, n < 32 → ((nI n &&& 31).toBitVec.smod 32).toNat = n := by decide +kernel
theorem s_u : ∀ n, n < 32 → (((nI n).toUInt32 &&& Int32.toUInt32 31).toBitVec % 32).toNat = n := by decide +kernel
theorem b_shl (n : Nat) (hn : n < 32) (x : Int32) {i : Nat} (hi : i < 32) : bt (x <<< (nI n &&& 31)) i = (decide (n ≤ i) && bt x (i - n)) := by
  unfold bt
  rw [Int32.toBitVec_shiftLeft]
  show (x.toBitVec <<< ((nI n &&& 31).toBitVec.smod 32).toNat).getLsbD i = _
  rw [s_l n hn, BitVec.getLsbD_shiftLeft]
  rcases Nat.lt_or_ge i n with h | h
  · simp [h, Nat.not_le.mpr h]
  · simp [hi, h, Nat.not_lt.mpr h]
theorem b_ushr (n : Nat) (hn : n < 32) (x : Int32) (i : Nat) : bt ((x.toUInt32 >>> ((nI n).toUInt32 &&& Int32.toUInt32 31)).toInt32) i = bt x (n + i) := by
  show (x.toUInt32 >>> ((nI n).toUInt32 &&& Int32.toUInt32 31)).toBitVec.getLsbD i = x.toUInt32.toBitVec.getLsbD (n + i)
  rw [UInt32.toBitVec_shiftRight]
  show (x.toUInt32.toBitVec >>> (((nI n).toUInt32 &&& Int32.toUInt32 31).toBitVec % 32).toNat).getLsbD i = _
  rw [s_u n hn, BitVec.getLsbD_ushiftRight]
theorem b_sshr (n : Nat) (hn : n < 32) (x : Int32) {i : Nat} (hi : i < 32) : bt (x >>> (nI n &&& 31)) i = if n + i < 32 then bt x (n + i) else bt x 31 := by
  unfold bt
  rw [Int32.toBitVec_shiftRight]
  show (x.toBitVec.sshiftRight ((nI n &&& 31).toBitVec.smod 32).toNat).getLsbD i = _
  rw [s_l n hn, BitVec.getLsbD_sshiftRight, BitVec.msb_eq_getLsbD_last]
  simp [hi]
theorem b_shl8 (x : Int32) {i : Nat} (hi : i < 32) : bt (x <<< ((8 : Int32) &&& 31)) i = (decide (8 ≤ i) && bt x (i - 8)) := b_shl 8 (by omega) x hi
theorem b_shl16 (x : Int32) {i : Nat} (hi : i < 32) : bt (x <<< ((16 : Int32) &&& 31)) i = (decide (16 ≤ i) && bt x (i - 16)) := b_shl 16 (by omega) x hi
theorem b_shl24 (x : Int32) {i : Nat} (hi : i < 32) : bt (x <<< ((24 : Int32) &&& 31)) i = (decide (24 ≤ i) && bt x (i - 24)) := b_shl 24 (by omega) x hi
theorem b_sshr8 (x : Int32) {i : Nat} (hi : i < 32) : bt (x >>> ((8 : Int32) &&& 31)) i = if 8 + i < 32 then bt x (8 + i) else bt x 31 := b_sshr 8 (by omega) x hi
/-! ===== a byte read unsigned ===== -/
theorem bp_b (x : Int32) : x.toInt8.toInt32 &&& 255 = x &&& 255 := by
  apply Int32.toBitVec_inj.mp
  rw [Int32.toBitVec_and, Int32.toBitVec_and, Int8.toBitVec_toInt32, Int32.toBitVec_toInt8]
  apply BitVec.eq_of_getLsbD_eq
  intro i hi
  rw [BitVec.getLsbD_and, BitVec.getLsbD_and]
  have hm : ∀ i < 32, 8 ≤ i → (255 : Int32).toBitVec.getLsbD i = false := by decide
  rcases Nat.lt_or_ge i 8 with z | z
  · rw [BitVec.getLsbD_signExtend, BitVec.getLsbD_signExtend, if_pos z, if_pos hi]
    simp only [z, hi, decide_true, Bool.true_and]
  · rw [hm i hi z]; simp
theorem l_0 : (0 : Int32) = nI 0 := rfl
theorem l_1 : (1 : Int32) = nI 1 := rfl
theorem l_2 : (2 : Int32) = nI 2 := rfl
theorem l_3 : (3 : Int32) = nI 3 := rfl
theorem l_4 : (4 : Int32) = nI 4 := rfl
theorem l_5 : (5 : Int32) = nI 5 := rfl
theorem l_6 : (6 : Int32) = nI 6 := rfl
theorem l_7 : (7 : Int32) = nI 7 := rfl
theorem l_8 : (8 : Int32) = nI 8 := rfl
theorem l_9 : (9 : Int32) = nI 9 := rfl
theorem l_10 : (10 : Int32) = nI 10 := rfl
theorem l_11 : (11 : Int32) = nI 11 := rfl
theorem l_12 : (12 : Int32) = nI 12 := rfl
theorem l_13 : (13 : Int32) = nI 13 := rfl
theorem l_14 : (14 : Int32) = nI 14 := rfl
theorem l_15 : (15 : Int32) = nI 15 := rfl
theorem l_16 : (16 : Int32) = nI 16 := rfl
theorem l_17 : (17 : Int32) = nI 17 := rfl
theorem l_20 : (20 : Int32) = nI 20 := rfl
theorem l_21 : (21 : Int32) = nI 21 := rfl
theorem l_22 : (22 : Int32) = nI 22 := rfl
theorem l_23 : (23 : Int32) = nI 23 := rfl
theorem l_24 : (24 : Int32) = nI 24 := rfl
theorem l_25 : (25 : Int32) = nI 25 := rfl
theorem l_26 : (26 : Int32) = nI 26 := rfl
theorem l_27 : (27 : Int32) = nI 27 := rfl
theorem l_28 : (28 : Int32) = nI 28 := rfl
theorem l_29 : (29 : Int32) = nI 29 := rfl
theorem l_30 : (30 : Int32) = nI 30 := rfl
theorem l_31 : (31 : Int32) = nI 31 := rfl
theorem l_32 : (32 : Int32) = nI 32 := rfl
theorem l_33 : (33 : Int32) = nI 33 := rfl
theorem l_34 : (34 : Int32) = nI 34 := rfl
theorem l_35 : (35 : Int32) = nI 35 := rfl
theorem l_36 : (36 : Int32) = nI 36 := rfl
theorem l_37 : (37 : Int32) = nI 37 := rfl
theorem l_38 : (38 : Int32) = nI 38 := rfl
theorem l_39 : (39 : Int32) = nI 39 := rfl
theorem l_40 : (40 : Int32) = nI 40 := rfl
theorem l_41 : (41 : Int32) = nI 41 := rfl
theorem l_42 : (42 : Int32) = nI 42 := rfl
theorem l_43 : (43 : Int32) = nI 43 := rfl
theorem l_44 : (44 : Int32) = nI 44 := rfl
theorem l_45 : (45 : Int32) = nI 45 := rfl
theorem l_46 : (46 : Int32) = nI 46 := rfl
theorem l_47 : (47 : Int32) = nI 47 := rfl
theorem l_48 : (48 : Int32) = nI 48 := rfl
theorem l_49 : (49 : Int32) = nI 49 := rfl
theorem l_50 : (50 : Int32) = nI 50 := rfl
theorem l_51 : (51 : Int32) = nI 51 := rfl
theorem l_52 : (52 : Int32) = nI 52 := rfl
theorem l_53 : (53 : Int32) = nI 53 := rfl
theorem l_57 : (57 : Int32) = nI 57 := rfl
theorem l_58 : (58 : Int32) = nI 58 := rfl
theorem l_59 : (59 : Int32) = nI 59 := rfl
theorem l_60 : (60 : Int32) = nI 60 := rfl
theorem l_61 : (61 : Int32) = nI 61 := rfl
theorem l_62 : (62 : Int32) = nI 62 := rfl
theorem l_63 : (63 : Int32) = nI 63 := rfl
theorem l_64 : (64 : Int32) = nI 64 := rfl
theorem l_65 : (65 : Int32) = nI 65 := rfl
theorem l_91 : (91 : Int32) = nI 91 := rfl
theorem l_93 : (93 : Int32) = nI 93 := rfl
theorem l_96 : (96 : Int32) = nI 96 := rfl
theorem l_97 : (97 : Int32) = nI 97 := rfl
theorem l_99 : (99 : Int32) = nI 99 := rfl
theorem l_100 : (100 : Int32) = nI 100 := rfl
theorem l_102 : (102 : Int32) = nI 102 := rfl
theorem l_105 : (105 : Int32) = nI 105 := rfl
theorem l_107 : (107 : Int32) = nI 107 := rfl
theorem l_108 : (108 : Int32) = nI 108 := rfl
theorem l_112 : (112 : Int32) = nI 112 := rfl
theorem l_115 : (115 : Int32) = nI 115 := rfl
theorem l_116 : (116 : Int32) = nI 116 := rfl
theorem l_120 : (120 : Int32) = nI 120 := rfl
theorem l_121 : (121 : Int32) = nI 121 := rfl
theorem l_122 : (122 : Int32) = nI 122 := rfl
theorem l_123 : (123 : Int32) = nI 123 := rfl
theorem l_124 : (124 : Int32) = nI 124 := rfl
theorem l_127 : (127 : Int32) = nI 127 := rfl
theorem l_128 : (128 : Int32) = nI 128 := rfl
theorem l_144 : (144 : Int32) = nI 144 := rfl
theorem l_177 : (177 : Int32) = nI 177 := rfl
theorem l_240 : (240 : Int32) = nI 240 := rfl
theorem l_255 : (255 : Int32) = nI 255 := rfl
theorem l_256 : (256 : Int32) = nI 256 := rfl
theorem l_304 : (304 : Int32) = nI 304 := rfl
theorem l_1000 : (1000 : Int32) = nI 1000 := rfl
theorem l_1728 : (1728 : Int32) = nI 1728 := rfl
theorem l_65536 : (65536 : Int32) = nI 65536 := rfl
theorem l_1000000 : (1000000 : Int32) = nI 1000000 := rfl
theorem l_1000000000 : (1000000000 : Int32) = nI 1000000000 := rfl

theorem m_eq {a : Nat} (h : a < 2 ^ 31) : (nI a = -nI 1) = False := by
  refine eq_false fun e => ?_
  have := (fa_eq _ _).mp e
  rw [nI_toInt h, show (-nI 1).toInt = -1 by decide] at this
  omega
theorem m_eq' {a : Nat} (h : a < 2 ^ 31) : (-nI 1 = nI a) = False := by
  refine eq_false fun e => ?_
  have := (fa_eq _ _).mp e
  rw [nI_toInt h, show (-nI 1).toInt = -1 by decide] at this
  omega
theorem m_le {a : Nat} (h : a < 2 ^ 31) : (nI a ≤ -nI 1) = False := by
  refine eq_false fun e => ?_
  have := (fa_le _ _).mp e
  rw [nI_toInt h, show (-nI 1).toInt = -1 by decide] at this
  omega
theorem m_lt {a : Nat} (h : a < 2 ^ 31) : (nI a < -nI 1) = False := by
  refine eq_false fun e => ?_
  have := (fa_lt _ _).mp e
  rw [nI_toInt h, show (-nI 1).toInt = -1 by decide] at this
  omega
theorem m_ge {a : Nat} (h : a < 2 ^ 31) : (-nI 1 ≤ nI a) = True := by
  refine eq_true ?_
  rw [fa_le, nI_toInt h, show (-nI 1).toInt = -1 by decide]
  omega
theorem m_gt {a : Nat} (h : a < 2 ^ 31) : (-nI 1 < nI a) = True := by
  refine eq_true ?_
  rw [fa_lt, nI_toInt h, show (-nI 1).toInt = -1 by decide]
  omega
theorem m_neg : (-nI 1 < nI 0) = True := by decide
theorem m_negc : (-nI 1).toNatClampNeg = 0 := by decide
/-- one bit -/
def tb (m a : Nat) : Bool := decide (m / 2 ^ a % 2 = 1)
theorem bit_shr {m a : Nat} (hm : m < 2 ^ 31) (ha : a < 32) : (nI m >>> (nI a &&& nI 31)) &&& nI 1 = nI (m / 2 ^ a % 2) := by
  have e : nI m >>> (nI a &&& nI 31) = nI (m / 2 ^ a) := pk_shrN hm _ a (s_l a ha)
  rw [e]
  have h2 : m / 2 ^ a ≤ m := Nat.div_le_self _ _
  exact pk_andN (n := m / 2 ^ a) (by omega) (m := nI 1) 1 (by decide)
theorem bit_1 {m a : Nat} (hm : m < 2 ^ 31) (ha : a < 32) : ((nI m >>> (nI a &&& nI 31)) &&& nI 1 = nI 1) = (tb m a = true) := by
  rw [bit_shr hm ha, tb, decide_eq_true_eq]
  have h2 : m / 2 ^ a % 2 < 2 := Nat.mod_lt _ (by omega)
  exact propext (nI_eq (by omega) (by omega))
theorem bit_0 {m a : Nat} (hm : m < 2 ^ 31) (ha : a < 32) : ((nI m >>> (nI a &&& nI 31)) &&& nI 1 = nI 0) = (tb m a = false) := by
  rw [bit_shr hm ha, tb, decide_eq_false_iff_not]
  have h2 : m / 2 ^ a % 2 < 2 := Nat.mod_lt _ (by omega)
  refine propext ((nI_eq (by omega) (by omega)).trans ?_)
  omega
/-! the memory -/
theorem gI {μ : MM} {a k b j : Nat} {v : Int32} : (mm_I μ a k v).1 b j = if b = a then (if j = k then v else μ.1 b j) else μ.1 b j := rfl
theorem gI2 {μ : MM} {a k : Nat} {v : Int32} : (mm_I μ a k v).2 = μ.2 := rfl
theorem gJ1 {μ : MM} {a k : Nat} {v : Int64} : (mm_J μ a k v).1 = μ.1 := rfl
theorem gJ {μ : MM} {a k b j : Nat} {v : Int64} : (mm_J μ a k v).2 b j = if b = a then (if j = k then v else μ.2 b j) else μ.2 b j := rfl
theorem gF {μ : MM} {a b j : Nat} {g : Nat → Int32} : (mm_F μ a g).1 b j = if b = a then g j else μ.1 b j := rfl
theorem gF2 {μ : MM} {a : Nat} {g : Nat → Int32} : (mm_F μ a g).2 = μ.2 := rfl
theorem inI {j n : Nat} (h : j < n) (hn : n < 2147483648) : inb (nI j) n = true := in_nI h hn
theorem zb0 : zb (nI 0) = true := by decide
theorem zb1 : zb (nI 1) = true := by decide
def bI (b : Bool) : Int32 := if b then nI 1 else nI 0
theorem bI_0 (b : Bool) : (bI b = nI 0) = (b = false) := by cases b <;> decide
theorem bI_1 (b : Bool) : (bI b = nI 1) = (b = true) := by cases b <;> decide
theorem bI_z (b : Bool) : zb (bI b) = true := by cases b <;> decide
theorem bI_t : bI true = nI 1 := rfl
theorem bI_f : bI false = nI 0 := rfl
/-! loops -/
def fo {α : Type} (f : Nat → α → α) : Nat → Nat → α → α
  | 0, _, a => a
  | m + 1, k, a => fo f m (k + 1) (f k a)
theorem fo_succ {α : Type} (f : Nat → α → α) : ∀ (m k : Nat) (a : α), fo f (m + 1) k a = f (k + m) (fo f m k a) := by
  intro m
  induction m with
  | zero => intro k a; rfl
  | succ m ih =>
    intro k a
    rw [fo, ih (k + 1) (f k a), fo, show k + 1 + m = k + (m + 1) by omega]
theorem lpf {α β : Type} (L : Nat → Nat → α → β) (n : Nat) (f : Nat → α → α) (E : α → β) (P : Nat → α → Prop) (he : ∀ fu a, P n a → L (fu + 1) n a = E a) (hs : ∀ fu k a, k < n → P k a → L (fu + 1) k a = L fu (k + 1) (f k a) ∧ P (k + 1) (f k a)) : ∀ m k fu a, k + m = n → m < fu → P k a → L fu k a = E (fo f m k a) ∧ P n (fo f m k a) := by
  intro m
  induction m with
  | zero =>
    intro k fu a hk hf hp
    obtain ⟨fu, rfl⟩ : ∃ q, fu = q + 1 := ⟨fu - 1, by omega⟩
    have : k = n := by omega
    subst this
    exact ⟨he fu a hp, hp⟩
  | succ m ih =>
    intro k fu a hk hf hp
    obtain ⟨fu, rfl⟩ : ∃ q, fu = q + 1 := ⟨fu - 1, by omega⟩
    obtain ⟨h1, h2⟩ := hs fu k a (by omega) hp
    rw [h1]
    exact ih (k + 1) fu (f k a) (by omega) (by omega) h2
def al (p : Nat → Bool) : Nat → Nat → Bool
  | 0, _ => true
  | m + 1, k => p k && al p m (k + 1)
theorem al_iff {p : Nat → Bool} : ∀ {m k : Nat}, al p m k = true ↔ ∀ j, k ≤ j → j < k + m → p j = true := by
  intro m
  induction m with
  | zero => intro k; exact ⟨fun _ j h1 h2 => absurd h2 (by omega), fun _ => rfl⟩
  | succ m ih =>
    intro k
    rw [al, Bool.and_eq_true, ih]
    constructor
    · rintro ⟨h1, h2⟩ j h3 h4
      by_cases e : j = k
      · subst e; exact h1
      · exact h2 j (by omega) (by omega)
    · intro h
      exact ⟨h k (by omega) (by omega), fun j h3 h4 => h j (by omega) (by omega)⟩
theorem al_congr {p q : Nat → Bool} {m k : Nat} (h : ∀ j, k ≤ j → j < k + m → p j = q j) : al p m k = al q m k := by
  induction m generalizing k with
  | zero => rfl
  | succ m ih => rw [al, al, h k (by omega) (by omega), ih (fun j h1 h2 => h j (by omega) (by omega))]
theorem lpa {β : Type} (L : Nat → Nat → β) (n : Nat) (p : Nat → Bool) (t f : β) (he : ∀ fu, L (fu + 1) n = t) (hs : ∀ fu k, k < n → L (fu + 1) k = if p k = true then L fu (k + 1) else f) : ∀ m k fu, k + m = n → m < fu → L fu k = if al p m k = true then t else f := by
  intro m
  induction m with
  | zero =>
    intro k fu hk hf
    obtain ⟨fu, rfl⟩ : ∃ q, fu = q + 1 := ⟨fu - 1, by omega⟩
    have : k = n := by omega
    subst this
    exact he fu
  | succ m ih =>
    intro k fu hk hf
    obtain ⟨fu, rfl⟩ : ∃ q, fu = q + 1 := ⟨fu - 1, by omega⟩
    rw [hs fu k (by omega), al]
    by_cases hp : p k = true
    · rw [if_pos hp, ih (k + 1) fu (by omega) (by omega), hp, Bool.true_and]
    · rw [if_neg hp, if_neg (by simp [hp])]
/-- the first place from k on that has p -/
def fi (p : Nat → Bool) : Nat → Nat → Option Nat
  | 0, _ => none
  | m + 1, k => if p k = true then some k else fi p m (k + 1)
theorem fi_congr {p q : Nat → Bool} {m k : Nat} (h : ∀ j, k ≤ j → j < k + m → p j = q j) : fi p m k = fi q m k := by
  induction m generalizing k with
  | zero => rfl
  | succ m ih => rw [fi, fi, h k (by omega) (by omega), ih (fun j h1 h2 => h j (by omega) (by omega))]
theorem fi_some {p : Nat → Bool} {m k j : Nat} (h : fi p m k = some j) : k ≤ j ∧ j < k + m ∧ p j = true := by
  induction m generalizing k with
  | zero => cases h
  | succ m ih =>
    rw [fi] at h
    by_cases hp : p k = true
    · rw [if_pos hp] at h; cases h; exact ⟨by omega, by omega, hp⟩
    · rw [if_neg hp] at h
      have := ih h
      exact ⟨by omega, by omega, this.2.2⟩
def oI (o : Option Nat) : Int32 := match o with
  | none => -nI 1
  | some j => nI j
theorem oI_m {o : Option Nat} (h : ∀ j, o = some j → j < 2 ^ 31) : (oI o = -nI 1) = (o = none) := by
  cases o with
  | none => simp [oI]
  | some j => rw [oI, m_eq (h j rfl)]; simp
theorem lpi {β : Type} (L : Nat → Nat → β) (n : Nat) (p : Nat → Bool) (t : β) (f : Nat → β) (he : ∀ fu, L (fu + 1) n = t) (hs : ∀ fu k, k < n → L (fu + 1) k = if p k = true then f k else L fu (k + 1)) : ∀ m k fu, k + m = n → m < fu → L fu k = match fi p m k with
    | none => t
    | some j => f j := by
  intro m
  induction m with
  | zero =>
    intro k fu hk hf
    obtain ⟨fu, rfl⟩ : ∃ q, fu = q + 1 := ⟨fu - 1, by omega⟩
    have : k = n := by omega
    subst this
    exact he fu
  | succ m ih =>
    intro k fu hk hf
    obtain ⟨fu, rfl⟩ : ∃ q, fu = q + 1 := ⟨fu - 1, by omega⟩
    rw [hs fu k (by omega), fi]
    by_cases hp : p k = true
    · rw [if_pos hp, if_pos hp]
    · rw [if_neg hp, if_neg hp, ih (k + 1) fu (by omega) (by omega)]
/-- two loops side by side -/
theorem lp_2 {α β γ δ : Type} (A : Nat → Nat → α → β) (B : Nat → Nat → γ → δ) (n : Nat) (R : Nat → α → γ → Prop) (Q : β → δ → Prop) (he : ∀ fa fb a c, R n a c → Q (A (fa + 1) n a) (B (fb + 1) n c)) (hs : ∀ fa fb k a c, k < n → R k a c → (∃ a' c', A (fa + 1) k a = A fa (k + 1) a' ∧ B (fb + 1) k c = B fb (k + 1) c' ∧ R (k + 1) a' c') ∨ Q (A (fa + 1) k a) (B (fb + 1) k c)) : ∀ m k fa fb a c, k + m = n → m < fa → m < fb → R k a c → Q (A fa k a) (B fb k c) := by
  intro m
  induction m with
  | zero =>
    intro k fa fb a c hk h1 h2 hr
    obtain ⟨fa, rfl⟩ : ∃ q, fa = q + 1 := ⟨fa - 1, by omega⟩
    obtain ⟨fb, rfl⟩ : ∃ q, fb = q + 1 := ⟨fb - 1, by omega⟩
    have : k = n := by omega
    subst this
    exact he fa fb a c hr
  | succ m ih =>
    intro k fa fb a c hk h1 h2 hr
    obtain ⟨fa, rfl⟩ : ∃ q, fa = q + 1 := ⟨fa - 1, by omega⟩
    obtain ⟨fb, rfl⟩ : ∃ q, fb = q + 1 := ⟨fb - 1, by omega⟩
    rcases hs fa fb k a c (by omega) hr with ⟨a', c', e1, e2, h3⟩ | h
    · rw [e1, e2]
      exact ih (k + 1) fa fb a' c' (by omega) (by omega) (by omega) h3
    · exact h
