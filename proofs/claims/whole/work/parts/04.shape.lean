/-! the world: kinds and sizes of its cells, by the order in which they are made; 0 .. 12 objects of vwCl, 20 int[], 21 byte[], 22 boolean[], 23 long[], 24 Shelf[], 25 int[][] -/
def sh_L : List (Nat × Nat) := [(11, 17), (8, 3), (20, 240), (9, 5), (1, 6), (20, 8), (20, 8), (20, 6), (7, 5), (10, 4), (20, 6), (20, 36), (20, 36), (20, 36), (20, 6), (10, 4), (20, 1), (20, 6), (20, 6), (20, 6), (20, 3), (4, 3), (20, 240), (1, 6), (20, 8), (20, 8), (20, 6), (7, 5), (10, 4), (20, 6), (20, 36), (20, 36), (20, 36), (20, 6), (5, 6), (20, 6), (25, 4), (20, 240), (20, 240), (20, 240), (20, 240), (20, 4), (20, 32), (10, 4), (20, 4), (20, 24), (20, 24), (20, 24), (0, 4), (20, 128), (20, 6), (3, 3), (24, 40), (7, 5), (10, 4), (20, 6), (20, 36), (20, 36), (20, 36), (20, 6), (7, 5), (10, 4), (20, 6), (20, 36), (20, 36), (20, 36), (20, 6), (7, 5), (10, 4), (20, 6), (20, 36), (20, 36), (20, 36), (20, 6), (7, 5), (10, 4), (20, 6), (20, 36), (20, 36), (20, 36), (20, 6), (7, 5), (10, 4), (20, 6), (20, 36), (20, 36), (20, 36), (20, 6), (7, 5), (10, 4), (20, 6), (20, 36), (20, 36), (20, 36), (20, 6), (7, 5), (10, 4), (20, 6), (20, 36), (20, 36), (20, 36), (20, 6), (7, 5), (10, 4), (20, 6), (20, 36), (20, 36), (20, 36), (20, 6), (7, 5), (10, 4), (20, 6), (20, 36), (20, 36), (20, 36), (20, 6), (7, 5), (10, 4), (20, 6), (20, 36), (20, 36), (20, 36), (20, 6), (7, 5), (10, 4), (20, 6), (20, 36), (20, 36), (20, 36), (20, 6), (7, 5), (10, 4), (20, 6), (20, 36), (20, 36), (20, 36), (20, 6), (7, 5), (10, 4), (20, 6), (20, 36), (20, 36), (20, 36), (20, 6), (7, 5), (10, 4), (20, 6), (20, 36), (20, 36), (20, 36), (20, 6), (7, 5), (10, 4), (20, 6), (20, 36), (20, 36), (20, 36), (20, 6), (7, 5), (10, 4), (20, 6), (20, 36), (20, 36), (20, 36), (20, 6), (7, 5), (10, 4), (20, 6), (20, 36), (20, 36), (20, 36), (20, 6), (7, 5), (10, 4), (20, 6), (20, 36), (20, 36), (20, 36), (20, 6), (7, 5), (10, 4), (20, 6), (20, 36), (20, 36), (20, 36), (20, 6), (7, 5), (10, 4), (20, 6), (20, 36), (20, 36), (20, 36), (20, 6), (7, 5), (10, 4), (20, 6), (20, 36), (20, 36), (20, 36), (20, 6), (7, 5), (10, 4), (20, 6), (20, 36), (20, 36), (20, 36), (20, 6), (7, 5), (10, 4), (20, 6), (20, 36), (20, 36), (20, 36), (20, 6), (7, 5), (10, 4), (20, 6), (20, 36), (20, 36), (20, 36), (20, 6), (7, 5), (10, 4), (20, 6), (20, 36), (20, 36), (20, 36), (20, 6), (7, 5), (10, 4), (20, 6), (20, 36), (20, 36), (20, 36), (20, 6), (7, 5), (10, 4), (20, 6), (20, 36), (20, 36), (20, 36), (20, 6), (7, 5), (10, 4), (20, 6), (20, 36), (20, 36), (20, 36), (20, 6), (7, 5), (10, 4), (20, 6), (20, 36), (20, 36), (20, 36), (20, 6), (7, 5), (10, 4), (20, 6), (20, 36), (20, 36), (20, 36), (20, 6), (7, 5), (10, 4), (20, 6), (20, 36), (20, 36), (20, 36), (20, 6), (7, 5), (10, 4), (20, 6), (20, 36), (20, 36), (20, 36), (20, 6), (7, 5), (10, 4), (20, 6), (20, 36), (20, 36), (20, 36), (20, 6), (7, 5), (10, 4), (20, 6), (20, 36), (20, 36), (20, 36), (20, 6), (7, 5), (10, 4), (20, 6), (20, 36), (20, 36), (20, 36), (20, 6), (7, 5), (10, 4), (20, 6), (20, 36), (20, 36), (20, 36), (20, 6), (7, 5), (10, 4), (20, 6), (20, 36), (20, 36), (20, 36), (20, 6), (7, 5), (10, 4), (20, 6), (20, 36), (20, 36), (20, 36), (20, 6), (7, 5), (10, 4), (20, 6), (20, 36), (20, 36), (20, 36), (20, 6), (7, 5), (10, 4), (20, 6), (20, 36), (20, 36), (20, 36), (20, 6), (6, 11), (20, 8), (20, 8), (20, 6), (20, 6), (20, 6), (20, 7), (20, 6), (2, 13), (20, 10), (20, 10), (22, 10), (20, 8), (23, 32), (7, 5), (10, 4), (20, 6), (20, 36), (20, 36), (20, 36), (20, 6), (20, 128), (12, 49), (21, 240), (21, 960), (20, 4), (20, 128), (20, 2), (20, 2), (20, 16), (20, 16), (20, 3), (20, 96), (20, 96), (20, 65), (20, 304), (20, 304), (20, 12160), (20, 10), (20, 10), (22, 10), (23, 32), (20, 304), (23, 1)]
abbrev sh_nx : Nat := 377
theorem sh_len : sh_L.length = sh_nx := by decide +kernel
/-- static arrays (ids from 1000 on), texts (objects from 2000 on, their bytes from 3000 on) -/
def ro_L : List (List Int32) := [[1, 20], [0, 0], [9, 99], [1], [0], [9], [5, 1, 8], [1, 0, 0], [9, 9, 8]]
def ro_N : List String := ["RULE_USUAL", "RULE_LEAST", "RULE_MOST", "THING_USUAL", "THING_LEAST", "THING_MOST", "CARD_USUAL", "CARD_LEAST", "CARD_MOST"]
def st_L : List (String × Nat × String) := [(RX4, 70, "iflpkd"), (RX9, 109, "lm"), (RX9, 121, "p"), (RX9, 141, "ift"), (RX11, 185, "no such thing, or nothing of that sort is told of it"), (RX12, 26, "y"), (RX12, 32, "iflpkd"), (RX12, 253, "lm"), (RX12, 259, "p"), (RX12, 234, "abcdef"), (RX12, 267, "ift"), (RX12, 236, "abcdef->")]
def st_B : List (List Int32) := [[105, 102, 108, 112, 107, 100], [108, 109], [112], [105, 102, 116], [110, 111, 32, 115, 117, 99, 104, 32, 116, 104, 105, 110, 103, 44, 32, 111, 114, 32, 110, 111, 116, 104, 105, 110, 103, 32, 111, 102, 32, 116, 104, 97, 116, 32, 115, 111, 114, 116, 32, 105, 115, 32, 116, 111, 108, 100, 32, 111, 102, 32, 105, 116], [121], [105, 102, 108, 112, 107, 100], [108, 109], [112], [97, 98, 99, 100, 101, 102], [105, 102, 116], [97, 98, 99, 100, 101, 102, 45, 62]]
abbrev ro_c : Nat := 9
abbrev st_c : Nat := 12
def sh_p (a : Nat) : Nat × Nat := if a < 1000 then sh_L.getD a (99, 0) else if a < 1000 + ro_c then (40, (ro_L.getD (a - 1000) []).length) else if a < 2000 then (99, 0) else if a < 2000 + st_c then (42, 0) else if a < 3000 then (99, 0) else if a < 3000 + st_c then (41, (st_B.getD (a - 3000) []).length) else (99, 0)
def sh_k (a : Nat) : Nat := (sh_p a).1
def sh_n (a : Nat) : Nat := (sh_p a).2
def ro_I (a j : Nat) : Int32 := (ro_L.getD (a - 1000) []).getD j 0
def st_I (a j : Nat) : Int32 := (st_B.getD (a - 3000) []).getD j 0
def cl_ty (ci : Nat) : Nat → FieldType := match ci with
  | 0 => tyX0
  | 1 => tyX1
  | 2 => tyX2
  | 3 => tyX3
  | 4 => tyX4
  | 5 => tyX5
  | 6 => tyX6
  | 7 => tyX7
  | 8 => tyX8
  | 9 => tyX9
  | 10 => tyX10
  | 11 => tyX11
  | _ => tyX12
/-- what a field or an element refers to, by the kind of its cell: it never changes -/
def rf_0 (a k : Nat) : Nat := match k with
  | 0 => 49
  | 1 => 23
  | 2 => 34
  | _ => 50
def rf_1 (a k : Nat) : Nat := match k with
  | 2 => a + 1
  | 3 => a + 2
  | 4 => a + 3
  | _ => a + 4
def rf_2 (a k : Nat) : Nat := match k with
  | 1 => 23
  | 2 => 342
  | 3 => 343
  | 4 => 344
  | _ => 345
def rf_3 (a k : Nat) : Nat := match k with
  | _ => 52
def rf_4 (a k : Nat) : Nat := match k with
  | 0 => 1
  | _ => 22
def rf_5 (a k : Nat) : Nat := match k with
  | 2 => 35
  | 3 => 36
  | 4 => 41
  | _ => 42
def rf_6 (a k : Nat) : Nat := match k with
  | 3 => 23
  | 4 => 334
  | 5 => 335
  | 6 => 336
  | 7 => 337
  | 8 => 338
  | 9 => 339
  | _ => 340
def rf_7 (a k : Nat) : Nat := match k with
  | 0 => a + 1
  | _ => a + 6
def rf_8 (a k : Nat) : Nat := match k with
  | _ => 2
def rf_9 (a k : Nat) : Nat := match k with
  | 0 => 1
  | 1 => 4
  | 2 => 15
  | _ => 20
def rf_10 (a k : Nat) : Nat := match k with
  | 0 => a + 1
  | 1 => a + 2
  | 2 => a + 3
  | _ => a + 4
def rf_11 (a k : Nat) : Nat := match k with
  | 0 => 1
  | 1 => 3
  | 2 => 21
  | 3 => 23
  | 4 => 34
  | 5 => 43
  | 7 => 48
  | 8 => 51
  | 9 => 333
  | 10 => 341
  | 11 => 346
  | 12 => 347
  | _ => 354
def rf_12 (a k : Nat) : Nat := match k with
  | 1 => 356
  | 2 => 357
  | 3 => 358
  | 4 => 359
  | 15 => 2005
  | 16 => 2006
  | 18 => 360
  | 19 => 361
  | 20 => 362
  | 21 => 363
  | 22 => 364
  | 23 => 365
  | 24 => 366
  | 25 => 367
  | 32 => 368
  | 33 => 369
  | 36 => 370
  | 42 => 371
  | 43 => 372
  | 44 => 373
  | 46 => 374
  | _ => 375
def rf_s (a k : Nat) : Nat := match sh_k a with
  | 0 => rf_0 a k
  | 1 => rf_1 a k
  | 2 => rf_2 a k
  | 3 => rf_3 a k
  | 4 => rf_4 a k
  | 5 => rf_5 a k
  | 6 => rf_6 a k
  | 7 => rf_7 a k
  | 8 => rf_8 a k
  | 9 => rf_9 a k
  | 10 => rf_10 a k
  | 11 => rf_11 a k
  | 12 => rf_12 a k
  | 24 => 53 + 7 * k
  | _ => 37 + k
theorem rf_0_0 {a : Nat} (h : sh_k a = 0) : rf_s a 0 = 49 := by rw [rf_s, h]; rfl
theorem rf_0_1 {a : Nat} (h : sh_k a = 0) : rf_s a 1 = 23 := by rw [rf_s, h]; rfl
theorem rf_0_2 {a : Nat} (h : sh_k a = 0) : rf_s a 2 = 34 := by rw [rf_s, h]; rfl
theorem rf_0_3 {a : Nat} (h : sh_k a = 0) : rf_s a 3 = 50 := by rw [rf_s, h]; rfl
theorem rf_1_2 {a : Nat} (h : sh_k a = 1) : rf_s a 2 = a + 1 := by rw [rf_s, h]; rfl
theorem rf_1_3 {a : Nat} (h : sh_k a = 1) : rf_s a 3 = a + 2 := by rw [rf_s, h]; rfl
theorem rf_1_4 {a : Nat} (h : sh_k a = 1) : rf_s a 4 = a + 3 := by rw [rf_s, h]; rfl
theorem rf_1_5 {a : Nat} (h : sh_k a = 1) : rf_s a 5 = a + 4 := by rw [rf_s, h]; rfl
theorem rf_2_1 {a : Nat} (h : sh_k a = 2) : rf_s a 1 = 23 := by rw [rf_s, h]; rfl
theorem rf_2_2 {a : Nat} (h : sh_k a = 2) : rf_s a 2 = 342 := by rw [rf_s, h]; rfl
theorem rf_2_3 {a : Nat} (h : sh_k a = 2) : rf_s a 3 = 343 := by rw [rf_s, h]; rfl
theorem rf_2_4 {a : Nat} (h : sh_k a = 2) : rf_s a 4 = 344 := by rw [rf_s, h]; rfl
theorem rf_2_5 {a : Nat} (h : sh_k a = 2) : rf_s a 5 = 345 := by rw [rf_s, h]; rfl
theorem rf_3_2 {a : Nat} (h : sh_k a = 3) : rf_s a 2 = 52 := by rw [rf_s, h]; rfl
theorem rf_4_0 {a : Nat} (h : sh_k a = 4) : rf_s a 0 = 1 := by rw [rf_s, h]; rfl
theorem rf_4_1 {a : Nat} (h : sh_k a = 4) : rf_s a 1 = 22 := by rw [rf_s, h]; rfl
theorem rf_5_2 {a : Nat} (h : sh_k a = 5) : rf_s a 2 = 35 := by rw [rf_s, h]; rfl
theorem rf_5_3 {a : Nat} (h : sh_k a = 5) : rf_s a 3 = 36 := by rw [rf_s, h]; rfl
theorem rf_5_4 {a : Nat} (h : sh_k a = 5) : rf_s a 4 = 41 := by rw [rf_s, h]; rfl
theorem rf_5_5 {a : Nat} (h : sh_k a = 5) : rf_s a 5 = 42 := by rw [rf_s, h]; rfl
theorem rf_6_3 {a : Nat} (h : sh_k a = 6) : rf_s a 3 = 23 := by rw [rf_s, h]; rfl
theorem rf_6_4 {a : Nat} (h : sh_k a = 6) : rf_s a 4 = 334 := by rw [rf_s, h]; rfl
theorem rf_6_5 {a : Nat} (h : sh_k a = 6) : rf_s a 5 = 335 := by rw [rf_s, h]; rfl
theorem rf_6_6 {a : Nat} (h : sh_k a = 6) : rf_s a 6 = 336 := by rw [rf_s, h]; rfl
theorem rf_6_7 {a : Nat} (h : sh_k a = 6) : rf_s a 7 = 337 := by rw [rf_s, h]; rfl
theorem rf_6_8 {a : Nat} (h : sh_k a = 6) : rf_s a 8 = 338 := by rw [rf_s, h]; rfl
theorem rf_6_9 {a : Nat} (h : sh_k a = 6) : rf_s a 9 = 339 := by rw [rf_s, h]; rfl
theorem rf_6_10 {a : Nat} (h : sh_k a = 6) : rf_s a 10 = 340 := by rw [rf_s, h]; rfl
theorem rf_7_0 {a : Nat} (h : sh_k a = 7) : rf_s a 0 = a + 1 := by rw [rf_s, h]; rfl
theorem rf_7_1 {a : Nat} (h : sh_k a = 7) : rf_s a 1 = a + 6 := by rw [rf_s, h]; rfl
theorem rf_8_0 {a : Nat} (h : sh_k a = 8) : rf_s a 0 = 2 := by rw [rf_s, h]; rfl
theorem rf_9_0 {a : Nat} (h : sh_k a = 9) : rf_s a 0 = 1 := by rw [rf_s, h]; rfl
theorem rf_9_1 {a : Nat} (h : sh_k a = 9) : rf_s a 1 = 4 := by rw [rf_s, h]; rfl
theorem rf_9_2 {a : Nat} (h : sh_k a = 9) : rf_s a 2 = 15 := by rw [rf_s, h]; rfl
theorem rf_9_3 {a : Nat} (h : sh_k a = 9) : rf_s a 3 = 20 := by rw [rf_s, h]; rfl
theorem rf_10_0 {a : Nat} (h : sh_k a = 10) : rf_s a 0 = a + 1 := by rw [rf_s, h]; rfl
theorem rf_10_1 {a : Nat} (h : sh_k a = 10) : rf_s a 1 = a + 2 := by rw [rf_s, h]; rfl
theorem rf_10_2 {a : Nat} (h : sh_k a = 10) : rf_s a 2 = a + 3 := by rw [rf_s, h]; rfl
theorem rf_10_3 {a : Nat} (h : sh_k a = 10) : rf_s a 3 = a + 4 := by rw [rf_s, h]; rfl
theorem rf_11_0 {a : Nat} (h : sh_k a = 11) : rf_s a 0 = 1 := by rw [rf_s, h]; rfl
theorem rf_11_1 {a : Nat} (h : sh_k a = 11) : rf_s a 1 = 3 := by rw [rf_s, h]; rfl
theorem rf_11_2 {a : Nat} (h : sh_k a = 11) : rf_s a 2 = 21 := by rw [rf_s, h]; rfl
theorem rf_11_3 {a : Nat} (h : sh_k a = 11) : rf_s a 3 = 23 := by rw [rf_s, h]; rfl
theorem rf_11_4 {a : Nat} (h : sh_k a = 11) : rf_s a 4 = 34 := by rw [rf_s, h]; rfl
theorem rf_11_5 {a : Nat} (h : sh_k a = 11) : rf_s a 5 = 43 := by rw [rf_s, h]; rfl
theorem rf_11_7 {a : Nat} (h : sh_k a = 11) : rf_s a 7 = 48 := by rw [rf_s, h]; rfl
theorem rf_11_8 {a : Nat} (h : sh_k a = 11) : rf_s a 8 = 51 := by rw [rf_s, h]; rfl
theorem rf_11_9 {a : Nat} (h : sh_k a = 11) : rf_s a 9 = 333 := by rw [rf_s, h]; rfl
theorem rf_11_10 {a : Nat} (h : sh_k a = 11) : rf_s a 10 = 341 := by rw [rf_s, h]; rfl
theorem rf_11_11 {a : Nat} (h : sh_k a = 11) : rf_s a 11 = 346 := by rw [rf_s, h]; rfl
theorem rf_11_12 {a : Nat} (h : sh_k a = 11) : rf_s a 12 = 347 := by rw [rf_s, h]; rfl
theorem rf_11_13 {a : Nat} (h : sh_k a = 11) : rf_s a 13 = 354 := by rw [rf_s, h]; rfl
theorem rf_12_1 {a : Nat} (h : sh_k a = 12) : rf_s a 1 = 356 := by rw [rf_s, h]; rfl
theorem rf_12_2 {a : Nat} (h : sh_k a = 12) : rf_s a 2 = 357 := by rw [rf_s, h]; rfl
theorem rf_12_3 {a : Nat} (h : sh_k a = 12) : rf_s a 3 = 358 := by rw [rf_s, h]; rfl
theorem rf_12_4 {a : Nat} (h : sh_k a = 12) : rf_s a 4 = 359 := by rw [rf_s, h]; rfl
theorem rf_12_15 {a : Nat} (h : sh_k a = 12) : rf_s a 15 = 2005 := by rw [rf_s, h]; rfl
theorem rf_12_16 {a : Nat} (h : sh_k a = 12) : rf_s a 16 = 2006 := by rw [rf_s, h]; rfl
theorem rf_12_18 {a : Nat} (h : sh_k a = 12) : rf_s a 18 = 360 := by rw [rf_s, h]; rfl
theorem rf_12_19 {a : Nat} (h : sh_k a = 12) : rf_s a 19 = 361 := by rw [rf_s, h]; rfl
theorem rf_12_20 {a : Nat} (h : sh_k a = 12) : rf_s a 20 = 362 := by rw [rf_s, h]; rfl
theorem rf_12_21 {a : Nat} (h : sh_k a = 12) : rf_s a 21 = 363 := by rw [rf_s, h]; rfl
theorem rf_12_22 {a : Nat} (h : sh_k a = 12) : rf_s a 22 = 364 := by rw [rf_s, h]; rfl
theorem rf_12_23 {a : Nat} (h : sh_k a = 12) : rf_s a 23 = 365 := by rw [rf_s, h]; rfl
theorem rf_12_24 {a : Nat} (h : sh_k a = 12) : rf_s a 24 = 366 := by rw [rf_s, h]; rfl
theorem rf_12_25 {a : Nat} (h : sh_k a = 12) : rf_s a 25 = 367 := by rw [rf_s, h]; rfl
theorem rf_12_32 {a : Nat} (h : sh_k a = 12) : rf_s a 32 = 368 := by rw [rf_s, h]; rfl
theorem rf_12_33 {a : Nat} (h : sh_k a = 12) : rf_s a 33 = 369 := by rw [rf_s, h]; rfl
theorem rf_12_36 {a : Nat} (h : sh_k a = 12) : rf_s a 36 = 370 := by rw [rf_s, h]; rfl
theorem rf_12_42 {a : Nat} (h : sh_k a = 12) : rf_s a 42 = 371 := by rw [rf_s, h]; rfl
theorem rf_12_43 {a : Nat} (h : sh_k a = 12) : rf_s a 43 = 372 := by rw [rf_s, h]; rfl
theorem rf_12_44 {a : Nat} (h : sh_k a = 12) : rf_s a 44 = 373 := by rw [rf_s, h]; rfl
theorem rf_12_46 {a : Nat} (h : sh_k a = 12) : rf_s a 46 = 374 := by rw [rf_s, h]; rfl
theorem rf_12_47 {a : Nat} (h : sh_k a = 12) : rf_s a 47 = 375 := by rw [rf_s, h]; rfl
theorem rf_24 {a k : Nat} (h : sh_k a = 24) : rf_s a k = 53 + 7 * k := by rw [rf_s, h]; rfl
theorem rf_25 {a k : Nat} (h : sh_k a = 25) : rf_s a k = 37 + k := by rw [rf_s, h]; rfl
abbrev i_room : Nat := 0
abbrev i_tape : Nat := 1
abbrev i_tape_bytes : Nat := 2
abbrev i_reader : Nat := 3
abbrev i_draft : Nat := 4
abbrev i_draft_price : Nat := 5
abbrev i_draft_marks : Nat := 6
abbrev i_draft_fades : Nat := 7
abbrev i_draft_shelf : Nat := 8
abbrev i_draft_shelf_words : Nat := 9
abbrev i_draft_shelf_words_size : Nat := 10
abbrev i_draft_shelf_words_sort : Nat := 11
abbrev i_draft_shelf_words_about : Nat := 12
abbrev i_draft_shelf_words_ink : Nat := 13
abbrev i_draft_shelf_under : Nat := 14
abbrev i_rdng : Nat := 15
abbrev i_rdng_size : Nat := 16
abbrev i_rdng_sort : Nat := 17
abbrev i_rdng_about : Nat := 18
abbrev i_rdng_ink : Nat := 19
abbrev i_items : Nat := 20
abbrev i_lawReader : Nat := 21
abbrev i_lawReader_code : Nat := 22
abbrev i_col : Nat := 23
abbrev i_col_price : Nat := 24
abbrev i_col_marks : Nat := 25
abbrev i_col_fades : Nat := 26
abbrev i_col_shelf : Nat := 27
abbrev i_col_shelf_words : Nat := 28
abbrev i_col_shelf_words_size : Nat := 29
abbrev i_col_shelf_words_sort : Nat := 30
abbrev i_col_shelf_words_about : Nat := 31
abbrev i_col_shelf_words_ink : Nat := 32
abbrev i_col_shelf_under : Nat := 33
abbrev i_laws : Nat := 34
abbrev i_laws_letters : Nat := 35
abbrev i_laws_code : Nat := 36
abbrev i_laws_code0 : Nat := 37
abbrev i_laws_code1 : Nat := 38
abbrev i_laws_code2 : Nat := 39
abbrev i_laws_code3 : Nat := 40
abbrev i_laws_size : Nat := 41
abbrev i_laws_stack : Nat := 42
abbrev i_readings : Nat := 43
abbrev i_readings_size : Nat := 44
abbrev i_readings_sort : Nat := 45
abbrev i_readings_about : Nat := 46
abbrev i_readings_ink : Nat := 47
abbrev i_aging : Nat := 48
abbrev i_aging_log : Nat := 49
abbrev i_aging_inkThen : Nat := 50
abbrev i_history : Nat := 51
abbrev i_history_kept : Nat := 52
abbrev i_kept0 : Nat := 53
abbrev i_kept0_words : Nat := 54
abbrev i_kept0_words_size : Nat := 55
abbrev i_kept0_words_sort : Nat := 56
abbrev i_kept0_words_about : Nat := 57
abbrev i_kept0_words_ink : Nat := 58
abbrev i_kept0_under : Nat := 59
abbrev i_matcher : Nat := 333
abbrev i_matcher_alike : Nat := 334
abbrev i_matcher_byPrice : Nat := 335
abbrev i_matcher_likes : Nat := 336
abbrev i_matcher_linked : Nat := 337
abbrev i_matcher_able : Nat := 338
abbrev i_matcher_hopes : Nat := 339
abbrev i_matcher_chosen : Nat := 340
abbrev i_guesses : Nat := 341
abbrev i_guesses_things : Nat := 342
abbrev i_guesses_cards : Nat := 343
abbrev i_guesses_fitted : Nat := 344
abbrev i_guesses_fitting : Nat := 345
abbrev i_parts : Nat := 346
abbrev i_imageShelf : Nat := 347
abbrev i_imageShelf_words : Nat := 348
abbrev i_imageShelf_words_size : Nat := 349
abbrev i_imageShelf_words_sort : Nat := 350
abbrev i_imageShelf_words_about : Nat := 351
abbrev i_imageShelf_words_ink : Nat := 352
abbrev i_imageShelf_under : Nat := 353
abbrev i_imageLog : Nat := 354
abbrev i_model : Nat := 355
abbrev i_m_tape : Nat := 356
abbrev i_m_texts : Nat := 357
abbrev i_m_textLong : Nat := 358
abbrev i_m_letters : Nat := 359
abbrev i_m_rule : Nat := 360
abbrev i_m_ruleRead : Nat := 361
abbrev i_m_thing : Nat := 362
abbrev i_m_thingRead : Nat := 363
abbrev i_m_item : Nat := 364
abbrev i_m_card : Nat := 365
abbrev i_m_cardRead : Nat := 366
abbrev i_m_reading : Nat := 367
abbrev i_m_now : Nat := 368
abbrev i_m_trial : Nat := 369
abbrev i_m_undoRow : Nat := 370
abbrev i_m_stoodThing : Nat := 371
abbrev i_m_stoodCard : Nat := 372
abbrev i_m_stoodFitted : Nat := 373
abbrev i_m_parts : Nat := 374
abbrev i_m_imageRow : Nat := 375
abbrev i_out : Nat := 376
