def f_Wo_leftIn_L19 (N : Nat) (w : Nat) : Nat → Int32 → Int32 → Int32 → MM → Option (Int32 × MM)
  | 0, _, _, _, _ => none
  | n + 1, x1, x2, x3, μ =>
    gd (inb x1 (sh_n (w + 1))) (if (μ.1 (w + 1) (Int32.toNatClampNeg x1)) ≤ x3 then (some (x2, μ))
    else (gd (inb ((x1 * 6) + x3) (sh_n (w + 4))) (f_Wo_leftIn_L19 N w n x1 (if (μ.1 (w + 4) (Int32.toNatClampNeg ((x1 * 6) + x3))) ≤ 0 then x2 else (x2 + 1)) (x3 + 1) μ)))
def f_Wo_leftIn (N : Nat) (w : Nat) (x1 : Int32) (μ : MM) : Option (Int32 × MM) :=
  if x1 < 0 then (some (0, μ))
    else (if x1 < (Int32.ofNat (sh_n (w + 1))) then (f_Wo_leftIn_L19 N w N x1 0 0 μ)
    else (some (0, μ)))
def f_Co_goneWords_L4 (N : Nat) (c : Nat) : Nat → Int32 → Int32 → MM → Option (Int32 × MM)
  | 0, _, _, _ => none
  | n + 1, x1, x2, μ =>
    if (μ.1 c 1) ≤ x2 then (some (x1, μ))
    else (gd (inb x2 (sh_n (c + 4 + 1 + 1))) (ob (f_Wo_leftIn N (c + 4 + 1) x2 μ) fun t33 μ1z => (f_Co_goneWords_L4 N c n (x1 + ((μ.1 (c + 4 + 1 + 1) (Int32.toNatClampNeg x2)) - t33)) (x2 + 1) μ1z)))
def f_Co_goneWords (N : Nat) (c : Nat) (μ : MM) : Option (Int32 × MM) :=
  f_Co_goneWords_L4 N c N 0 0 μ
def f_La_clauseEnd_L2 (N : Nat) : Nat → Int32 → MM → Option (Int32 × MM)
  | 0, _, _ => none
  | n + 1, x2, μ =>
    gd (inb (μ.1 34 1) 4) (if (μ.1 41 (Int32.toNatClampNeg (μ.1 34 1))) ≤ x2 then (some (x2, μ))
    else (gd (inb (μ.1 34 1) 4) (gd (inb x2 240) (if (μ.1 (37 + (Int32.toNatClampNeg (μ.1 34 1))) (Int32.toNatClampNeg x2)) = (-22) then (some (x2, μ))
    else (f_La_clauseEnd_L2 N n (x2 + 1) μ)))))
def f_La_clauseEnd (N : Nat) (x1 : Int32) (μ : MM) : Option (Int32 × MM) :=
  f_La_clauseEnd_L2 N N x1 μ
def f_La_within (N : Nat) (y1 : Int64) (μ : MM) : Option (Int32 × MM) :=
  some ((Int64.toInt32 (if (if y1 < (1000000 : Int64) then y1 else (1000000 : Int64)) < ((-1000000) : Int64) then ((-1000000) : Int64) else (if y1 < (1000000 : Int64) then y1 else (1000000 : Int64)))), μ)
def f_La_join (N : Nat) (x1 : Int32) (x2 : Int32) (x3 : Int32) (μ : MM) : Option (Int32 × MM) :=
  if x1 = (-18) then (some ((x2 &&& x3), μ))
    else (if x1 = (-17) then (some ((if x2 ≤ x3 then (0 : Int32) else 1), μ))
    else (if x1 = (-16) then (some ((if x3 ≤ x2 then (0 : Int32) else 1), μ))
    else (if x1 = (-15) then (some ((if x2 = x3 then (1 : Int32) else 0), μ))
    else (if x1 = (-14) then (if x3 = 0 then (some (0, μ))
    else (gd (nzi x3) (ob (f_La_within N (Int32.toInt64 (x2 / x3)) μ) fun t89 μ1z => (some (t89, μ1z)))))
    else (if x1 = (-13) then (ob (f_La_within N ((Int32.toInt64 x2) * (Int32.toInt64 x3)) μ) fun t72 μ2z => (some (t72, μ2z)))
    else (if x1 = (-12) then (ob (f_La_within N (Int32.toInt64 (x2 - x3)) μ) fun t62 μ3z => (some (t62, μ3z)))
    else (if x1 = (-11) then (ob (f_La_within N (Int32.toInt64 (x2 + x3)) μ) fun t53 μ4z => (some (t53, μ4z)))
    else (some ((x2 ||| x3), μ)))))))))
def f_La_worth_B135 (N : Nat) (k34 : Nat → Int32 → Int32 → MM → Option (Int32 × MM)) (r1 : Nat) (x2 : Int32) (x3 : Int32) (s1 : Int32) (s2 : Int32) (μ : MM) : Option (Int32 × MM) :=
  gd (inb s1 32) (wr (mm_I μ 42 (Int32.toNatClampNeg s1) s2) fun μ4z => (k34 r1 (x2 + 1) (x3 + 1) μ4z))
def f_La_worth_L34 (N : Nat) : Nat → Nat → Int32 → Int32 → MM → Option (Int32 × MM)
  | 0, _, _, _, _ => none
  | n + 1, r1, x2, x3, μ =>
    gd (inb (μ.1 34 1) 4) (if (μ.1 41 (Int32.toNatClampNeg (μ.1 34 1))) ≤ x3 then (some (0, μ))
    else (gd (inb x3 240) (if (μ.1 r1 (Int32.toNatClampNeg x3)) = (-22) then (some ((μ.1 42 0), μ))
    else (if (μ.1 r1 (Int32.toNatClampNeg x3)) = (-21) then (if (μ.1 42 0) = 0 then (ob (f_La_clauseEnd N x3 μ) fun t86 μ5z => (f_La_worth_L34 N n r1 0 (t86 + 1) μ5z))
    else (f_La_worth_L34 N n r1 0 (x3 + 1) μ))
    else (if (μ.1 r1 (Int32.toNatClampNeg x3)) < (-6) then (if (μ.1 r1 (Int32.toNatClampNeg x3)) = (-20) then (if 1 ≤ x2 then (gd (inb (x2 - 1) 32) (gd (inb (x2 - 1) 32) (wr (mm_I μ 42 (Int32.toNatClampNeg (x2 - 1)) (1 - (μ.1 42 (Int32.toNatClampNeg (x2 - 1))))) fun μ3z => (f_La_worth_L34 N n r1 x2 (x3 + 1) μ3z))))
    else (some (0, μ)))
    else (if 2 ≤ x2 then (gd (inb ((x2 + (-1)) - 1) 32) (gd (inb (x2 + (-1)) 32) (ob (f_La_join N (μ.1 r1 (Int32.toNatClampNeg x3)) (μ.1 42 (Int32.toNatClampNeg ((x2 + (-1)) - 1))) (μ.1 42 (Int32.toNatClampNeg (x2 + (-1)))) μ) fun t211 μ1z => (gd (inb ((x2 + (-1)) - 1) 32) (wr (mm_I μ1z 42 (Int32.toNatClampNeg ((x2 + (-1)) - 1)) t211) fun μ2z => (f_La_worth_L34 N n r1 (x2 + (-1)) (x3 + 1) μ2z))))))
    else (some (0, μ))))
    else (if x2 < 32 then (if (μ.1 r1 (Int32.toNatClampNeg x3)) < 0 then (gd (inb ((-1) - (μ.1 r1 (Int32.toNatClampNeg x3))) 6) (f_La_worth_B135 N (f_La_worth_L34 N n) r1 x2 x3 x2 (μ.1 35 (Int32.toNatClampNeg ((-1) - (μ.1 r1 (Int32.toNatClampNeg x3))))) μ))
    else (f_La_worth_B135 N (f_La_worth_L34 N n) r1 x2 x3 x2 (μ.1 r1 (Int32.toNatClampNeg x3)) μ))
    else (some (0, μ))))))))
def f_La_worth (N : Nat) (μ : MM) : Option (Int32 × MM) :=
  if (μ.1 34 1) < 0 then (some (0, μ))
    else (if (μ.1 34 1) < (μ.1 34 0) then (gd (inb (μ.1 34 1) 4) (f_La_worth_L34 N N (37 + (Int32.toNatClampNeg (μ.1 34 1))) 0 0 μ))
    else (some (0, μ)))
def f_Ag_inkAfter_B151 (N : Nat) (x3 : Int32) (x5 : Int32) (μ : MM) : Option (Int32 × MM) :=
  some ((if (0 : Int32) < (x3 - (if (0 : Int32) < (if x5 < (9 : Int32) then x5 else (9 : Int32)) then (if x5 < (9 : Int32) then x5 else (9 : Int32)) else (0 : Int32))) then (x3 - (if (0 : Int32) < (if x5 < (9 : Int32) then x5 else (9 : Int32)) then (if x5 < (9 : Int32) then x5 else (9 : Int32)) else (0 : Int32))) else (0 : Int32)), μ)
def f_Ag_inkAfter_B32 (N : Nat) (x1 : Int32) (x2 : Int32) (x3 : Int32) (x4 : Int32) (s0 : Int32) (μ : MM) : Option (Int32 × MM) :=
  if (μ.1 34 1) = (-1) then (f_Ag_inkAfter_B151 N x3 s0 μ)
    else (wr (mm_I μ 35 0 x3) fun μ1z => (gd (inb x1 6) (wr (mm_I μ1z 35 1 (μ1z.1 26 (Int32.toNatClampNeg x1))) fun μ2z => (wr (mm_I μ2z 35 2 (μ2z.1 27 2)) fun μ3z => (wr (mm_I μ3z 35 3 x2) fun μ4z => (gd (inb ((x1 * 6) + x2) 36) (wr (mm_I μ4z 35 4 (μ4z.1 30 (Int32.toNatClampNeg ((x1 * 6) + x2)))) fun μ5z => (wr (mm_I μ5z 35 5 x4) fun μ6z => (ob (f_La_worth N μ6z) fun t146 μ7z => (f_Ag_inkAfter_B151 N x3 t146 μ7z))))))))))
def f_Ag_inkAfter (N : Nat) (x1 : Int32) (x2 : Int32) (x3 : Int32) (x4 : Int32) (μ : MM) : Option (Int32 × MM) :=
  if 0 < x3 then (if (μ.1 27 2) ≤ 0 then (f_Ag_inkAfter_B32 N x1 x2 x3 x4 0 μ)
    else (gd (inb x1 6) (f_Ag_inkAfter_B32 N x1 x2 x3 x4 (μ.1 26 (Int32.toNatClampNeg x1)) μ)))
    else (some (0, μ))
def f_Ag_fadeCard_L13 (N : Nat) : Nat → Int32 → Int32 → MM → Option MM
  | 0, _, _, _ => none
  | n + 1, x1, x3, μ =>
    gd (inb x1 6) (if (μ.1 29 (Int32.toNatClampNeg x1)) ≤ x3 then (some μ)
    else (gd (inb ((x1 * 6) + x3) 36) (ob (f_Ag_inkAfter N x1 x3 (μ.1 32 (Int32.toNatClampNeg ((x1 * 6) + x3))) (μ.1 27 4) μ) fun t57 μ1z => (gd (inb ((x1 * 6) + x3) 36) (wr (mm_I μ1z 32 (Int32.toNatClampNeg ((x1 * 6) + x3)) t57) fun μ2z => (f_Ag_fadeCard_L13 N n x1 (x3 + 1) μ2z))))))
def f_Ag_fadeCard (N : Nat) (x1 : Int32) (μ : MM) : Option MM :=
  f_Ag_fadeCard_L13 N N x1 0 μ
def f_Co_isCard (N : Nat) (c : Nat) (x1 : Int32) (μ : MM) : Option (Int32 × MM) :=
  if x1 < 0 then (some (0, μ))
    else (if (μ.1 c 1) ≤ x1 then (some (0, μ))
    else (if 6 ≤ x1 then (some (0, μ))
    else (some (1, μ))))
def f_Co_isThing (N : Nat) (c : Nat) (x1 : Int32) (μ : MM) : Option (Int32 × MM) :=
  if x1 < 0 then (some (0, μ))
    else (if (μ.1 c 0) ≤ x1 then (some (0, μ))
    else (if 8 ≤ x1 then (some (0, μ))
    else (some (1, μ))))
def f_Co_marksUnder (N : Nat) (c : Nat) (x1 : Int32) (μ : MM) : Option (Int32 × MM) :=
  if x1 < 0 then (some (0, μ))
    else (if x1 < (μ.1 c 1) then (gd (inb x1 6) (if (μ.1 (c + 4 + 6) (Int32.toNatClampNeg x1)) < 0 then (some (0, μ))
    else (if (μ.1 (c + 4 + 6) (Int32.toNatClampNeg x1)) < (μ.1 c 0) then (gd (inb (μ.1 (c + 4 + 6) (Int32.toNatClampNeg x1)) 8) (some ((μ.1 (c + 2) (Int32.toNatClampNeg (μ.1 (c + 4 + 6) (Int32.toNatClampNeg x1)))), μ)))
    else (some (0, μ)))))
    else (some (0, μ)))
def f_Co_isTrue (N : Nat) (c : Nat) (x1 : Int32) (x2 : Int32) (x3 : Int32) (μ : MM) : Option (Int32 × MM) :=
  gd (inb x1 (sh_n (c + 4 + 1 + 3))) (gd (inb x1 (sh_n (c + 4 + 1 + 2))) (if (μ.1 (c + 4 + 1 + 2) (Int32.toNatClampNeg x1)) = 0 then (gd (zb (if ((x3 >>> ((μ.1 (c + 4 + 1 + 3) (Int32.toNatClampNeg x1)) &&& 31)) &&& 1) = 1 then (1 : Int32) else 0)) (some ((if ((x3 >>> ((μ.1 (c + 4 + 1 + 3) (Int32.toNatClampNeg x1)) &&& 31)) &&& 1) = 1 then (1 : Int32) else 0), μ)))
    else (if (μ.1 (c + 4 + 1 + 2) (Int32.toNatClampNeg x1)) = 1 then (gd (zb (if ((x3 >>> ((μ.1 (c + 4 + 1 + 3) (Int32.toNatClampNeg x1)) &&& 31)) &&& 1) = 0 then (1 : Int32) else 0)) (some ((if ((x3 >>> ((μ.1 (c + 4 + 1 + 3) (Int32.toNatClampNeg x1)) &&& 31)) &&& 1) = 0 then (1 : Int32) else 0), μ)))
    else (if (μ.1 (c + 4 + 1 + 3) (Int32.toNatClampNeg x1)) = x2 then (gd (zb (if x3 = 0 then (0 : Int32) else 1)) (some ((if x3 = 0 then (0 : Int32) else 1), μ)))
    else (ob (f_Co_marksUnder N c (μ.1 (c + 4 + 1 + 3) (Int32.toNatClampNeg x1)) μ) fun t104 μ1z => (gd (zb (if (t104 &&& x3) = 0 then (0 : Int32) else 1)) (some ((if (t104 &&& x3) = 0 then (0 : Int32) else 1), μ1z))))))))
def f_Co_isFit_L28 (N : Nat) (c : Nat) : Nat → Int32 → Int32 → Int32 → MM → Option (Int32 × MM)
  | 0, _, _, _, _ => none
  | n + 1, x1, x3, x4, μ =>
    gd (inb x1 (sh_n (c + 4 + 1 + 1))) (if (μ.1 (c + 4 + 1 + 1) (Int32.toNatClampNeg x1)) ≤ x4 then (some (1, μ))
    else (gd (inb ((x1 * 6) + x4) (sh_n (c + 4 + 1 + 4))) (if (μ.1 (c + 4 + 1 + 4) (Int32.toNatClampNeg ((x1 * 6) + x4))) ≤ 0 then (f_Co_isFit_L28 N c n x1 x3 (x4 + 1) μ)
    else (ob (f_Co_isTrue N c ((x1 * 6) + x4) x1 x3 μ) fun t75 μ3z => (if t75 = 0 then (some (0, μ3z))
    else (f_Co_isFit_L28 N c n x1 x3 (x4 + 1) μ3z))))))
def f_Co_isFit (N : Nat) (c : Nat) (x1 : Int32) (x2 : Int32) (μ : MM) : Option (Int32 × MM) :=
  ob (f_Co_isCard N c x1 μ) fun t2 μ1z => (if t2 = 0 then (some (0, μ1z))
    else (ob (f_Co_isThing N c x2 μ1z) fun t10 μ2z => (if t10 = 0 then (some (0, μ2z))
    else (gd (inb x2 8) (f_Co_isFit_L28 N c N x1 (μ2z.1 (c + 2) (Int32.toNatClampNeg x2)) 0 μ2z)))))
def f_Co_isRight (N : Nat) (c : Nat) (x1 : Int32) (μ : MM) : Option (Int32 × MM) :=
  ob (f_Co_isCard N c x1 μ) fun t2 μ1z => (if t2 = 0 then (some (0, μ1z))
    else (gd (inb x1 6) (ob (f_Co_isFit N c x1 (μ1z.1 (c + 4 + 6) (Int32.toNatClampNeg x1)) μ1z) fun t19 μ2z => (if t19 = 0 then (some (0, μ2z))
    else (some (1, μ2z))))))
def f_Co_cardOver_L2 (N : Nat) (c : Nat) : Nat → Int32 → Int32 → MM → Option (Int32 × MM)
  | 0, _, _, _ => none
  | n + 1, x1, x2, μ =>
    if (μ.1 c 1) ≤ x2 then (some ((-1), μ))
    else (gd (inb x2 6) (if (μ.1 (c + 4 + 6) (Int32.toNatClampNeg x2)) = x1 then (some (x2, μ))
    else (f_Co_cardOver_L2 N c n x1 (x2 + 1) μ)))
def f_Co_cardOver (N : Nat) (c : Nat) (x1 : Int32) (μ : MM) : Option (Int32 × MM) :=
  f_Co_cardOver_L2 N c N x1 0 μ
def f_Co_cheapestFor_B48 (N : Nat) (c : Nat) (k4 : Int32 → Int32 → Int32 → MM → Option (Int32 × MM)) (x1 : Int32) (x2 : Int32) (x3 : Int32) (μ : MM) : Option (Int32 × MM) :=
  ob (f_Co_cardOver N c x3 μ) fun t50 μ1z => (if t50 = (-1) then (ob (f_Co_isFit N c x1 x3 μ1z) fun t60 μ2z => (k4 x1 (if t60 = 0 then x2 else x3) (x3 + 1) μ2z))
    else (k4 x1 x2 (x3 + 1) μ1z))
def f_Co_cheapestFor_L4 (N : Nat) (c : Nat) : Nat → Int32 → Int32 → Int32 → MM → Option (Int32 × MM)
  | 0, _, _, _, _ => none
  | n + 1, x1, x2, x3, μ =>
    if (μ.1 c 0) ≤ x3 then (some (x2, μ))
    else (gd (inb x3 8) (if (μ.1 (c + 4) 3) < (μ.1 (c + 1) (Int32.toNatClampNeg x3)) then (f_Co_cheapestFor_L4 N c n x1 x2 (x3 + 1) μ)
    else (if x2 = (-1) then (f_Co_cheapestFor_B48 N c (f_Co_cheapestFor_L4 N c n) x1 x2 x3 μ)
    else (gd (inb x3 8) (gd (inb x2 8) (if (μ.1 (c + 1) (Int32.toNatClampNeg x2)) ≤ (μ.1 (c + 1) (Int32.toNatClampNeg x3)) then (f_Co_cheapestFor_L4 N c n x1 x2 (x3 + 1) μ)
    else (f_Co_cheapestFor_B48 N c (f_Co_cheapestFor_L4 N c n) x1 x2 x3 μ)))))))
def f_Co_cheapestFor (N : Nat) (c : Nat) (x1 : Int32) (μ : MM) : Option (Int32 × MM) :=
  f_Co_cheapestFor_L4 N c N x1 (-1) 0 μ
def f_Ag_changeThings_L4 (N : Nat) : Nat → Int32 → Int32 → MM → Option (Int32 × MM)
  | 0, _, _, _ => none
  | n + 1, x1, x2, μ =>
    if (μ.1 23 1) ≤ x2 then (some (x1, μ))
    else (ob (f_Co_isRight N 23 x2 μ) fun t20 μ1z => (if t20 = 0 then (ob (f_Co_cheapestFor N 23 x2 μ1z) fun t31 μ2z => (if t31 = (-1) then (f_Ag_changeThings_L4 N n x1 (x2 + 1) μ2z)
    else (gd (inb x2 6) (wr (mm_I μ2z 33 (Int32.toNatClampNeg x2) t31) fun μ3z => (gd (inb t31 8) (wr (mm_I μ3z 27 3 ((μ3z.1 27 3) - (μ3z.1 24 (Int32.toNatClampNeg t31)))) fun μ4z => (f_Ag_changeThings_L4 N n (x1 + 1) (x2 + 1) μ4z)))))))
    else (f_Ag_changeThings_L4 N n x1 (x2 + 1) μ1z)))
def f_Ag_changeThings (N : Nat) (μ : MM) : Option (Int32 × MM) :=
  f_Ag_changeThings_L4 N N 0 0 μ
def f_Co_wrongCards_L4 (N : Nat) (c : Nat) : Nat → Int32 → Int32 → MM → Option (Int32 × MM)
  | 0, _, _, _ => none
  | n + 1, x1, x2, μ =>
    if (μ.1 c 1) ≤ x2 then (some (x1, μ))
    else (ob (f_Co_isRight N c x2 μ) fun t14 μ1z => (f_Co_wrongCards_L4 N c n (if t14 = 0 then (x1 + 1) else x1) (x2 + 1) μ1z))
def f_Co_wrongCards (N : Nat) (c : Nat) (μ : MM) : Option (Int32 × MM) :=
  f_Co_wrongCards_L4 N c N 0 0 μ
def f_Ag_passDay_L18 (N : Nat) : Nat → Int32 → Int32 → MM → Option MM
  | 0, _, _, _ => none
  | n + 1, x2, x3, μ =>
    if (μ.1 23 1) ≤ x3 then (ob (f_Co_goneWords N 23 μ) fun t44 μ2z => (wr (mm_I μ2z 27 4 ((μ2z.1 27 4) + 1)) fun μ3z => (ob (f_Ag_changeThings N μ3z) fun t67 μ4z => (ob (f_Co_wrongCards N 23 μ4z) fun t89 μ5z => (gd (inb ((μ2z.1 27 4) &&& 127) 128) (wr (mm_I μ5z 49 (Int32.toNatClampNeg ((μ2z.1 27 4) &&& 127)) ((t67 + (16 * t89)) + (256 * (t44 - x2)))) fun μ6z => (some μ6z)))))))
    else (obv (f_Ag_fadeCard N x3 μ) fun μ7z => (f_Ag_passDay_L18 N n x2 (x3 + 1) μ7z))
def f_Ag_passDay (N : Nat) (μ : MM) : Option MM :=
  ob (f_Co_goneWords N 23 μ) fun t12 μ1z => (f_Ag_passDay_L18 N N t12 0 μ1z)
def f_Ag_logLength (N : Nat) (μ : MM) : Option (Int32 × MM) :=
  some ((if (μ.1 27 4) < (60 : Int32) then (μ.1 27 4) else (60 : Int32)), μ)
def f_Ag_logged (N : Nat) (x1 : Int32) (x2 : Int32) (μ : MM) : Option (Int32 × MM) :=
  if x1 < 0 then (some ((-1), μ))
    else (ob (f_Ag_logLength N μ) fun t6 μ1z => (if t6 ≤ x1 then (some ((-1), μ1z))
    else (if x2 < 0 then (some ((-1), μ1z))
    else (if x2 ≤ 2 then (gd (inb ((((μ1z.1 27 4) - 1) - x1) &&& 127) 128) (if x2 = 0 then (some (((μ1z.1 49 (Int32.toNatClampNeg ((((μ1z.1 27 4) - 1) - x1) &&& 127))) &&& 15), μ1z))
    else (some ((if x2 = 1 then (((μ1z.1 49 (Int32.toNatClampNeg ((((μ1z.1 27 4) - 1) - x1) &&& 127))) >>> ((4 : Int32) &&& 31)) &&& 15) else ((μ1z.1 49 (Int32.toNatClampNeg ((((μ1z.1 27 4) - 1) - x1) &&& 127))) >>> ((8 : Int32) &&& 31))), μ1z))))
    else (some ((-1), μ1z))))))
def f_Ag_daysTillBlank_L71 (N : Nat) (k58 : Int32 → Int32 → Int32 → MM → Option (Int32 × MM)) : Nat → Int32 → Int32 → Int32 → Int32 → Int32 → MM → Option (Int32 × MM)
  | 0, _, _, _, _, _, _ => none
  | n + 1, x1, x3, x4, x5, x6, μ =>
    if x3 ≤ x6 then (if x5 = 0 then (some (x4, μ))
    else (k58 x1 x3 (x4 + 1) μ))
    else (gd (inb x6 6) (gd (inb x6 6) (ob (f_Ag_inkAfter N x1 x6 (μ.1 50 (Int32.toNatClampNeg x6)) ((μ.1 27 4) + x4) μ) fun t113 μ1z => (gd (inb x6 6) (wr (mm_I μ1z 50 (Int32.toNatClampNeg x6) t113) fun μ2z => (f_Ag_daysTillBlank_L71 N k58 n x1 x3 x4 (x5 + (μ.1 50 (Int32.toNatClampNeg x6))) (x6 + 1) μ2z))))))
def f_Ag_daysTillBlank_L58 (N : Nat) : Nat → Int32 → Int32 → Int32 → MM → Option (Int32 × MM)
  | 0, _, _, _, _ => none
  | n + 1, x1, x3, x4, μ =>
    if 99 < x4 then (some ((-1), μ))
    else (f_Ag_daysTillBlank_L71 N (f_Ag_daysTillBlank_L58 N n) N x1 x3 x4 0 0 μ)
def f_Ag_daysTillBlank_L21 (N : Nat) : Nat → Int32 → Int32 → Int32 → MM → Option (Int32 × MM)
  | 0, _, _, _, _ => none
  | n + 1, x1, x3, x4, μ =>
    if x3 ≤ x4 then (f_Ag_daysTillBlank_L58 N N x1 x3 0 μ)
    else (gd (inb ((x1 * 6) + x4) 36) (gd (inb x4 6) (wr (mm_I μ 50 (Int32.toNatClampNeg x4) (μ.1 32 (Int32.toNatClampNeg ((x1 * 6) + x4)))) fun μ3z => (f_Ag_daysTillBlank_L21 N n x1 x3 (x4 + 1) μ3z))))
def f_Ag_daysTillBlank (N : Nat) (x1 : Int32) (μ : MM) : Option (Int32 × MM) :=
  gd (inb x1 6) (f_Ag_daysTillBlank_L21 N N x1 (μ.1 29 (Int32.toNatClampNeg x1)) 0 μ)
def f_Wo_takeAll (N : Nat) (w : Nat) (q1 : Nat) (μ : MM) : Option MM :=
  gd (cpb 0 0 (if (Int32.ofNat (sh_n (q1 + 1))) < (Int32.ofNat (sh_n (w + 1))) then (Int32.ofNat (sh_n (q1 + 1))) else (Int32.ofNat (sh_n (w + 1)))) (sh_n (q1 + 1)) (sh_n (w + 1))) (wr (mm_F μ (w + 1) (va_cpy (μ.1 (q1 + 1)) (μ.1 (w + 1)) (Int32.toNatClampNeg 0) (Int32.toNatClampNeg 0) (Int32.toNatClampNeg (if (Int32.ofNat (sh_n (q1 + 1))) < (Int32.ofNat (sh_n (w + 1))) then (Int32.ofNat (sh_n (q1 + 1))) else (Int32.ofNat (sh_n (w + 1))))))) fun μ1z => (gd (cpb 0 0 ((if (Int32.ofNat (sh_n (q1 + 1))) < (Int32.ofNat (sh_n (w + 1))) then (Int32.ofNat (sh_n (q1 + 1))) else (Int32.ofNat (sh_n (w + 1)))) * 6) (sh_n (q1 + 2)) (sh_n (w + 2))) (wr (mm_F μ1z (w + 2) (va_cpy (μ1z.1 (q1 + 2)) (μ1z.1 (w + 2)) (Int32.toNatClampNeg 0) (Int32.toNatClampNeg 0) (Int32.toNatClampNeg ((if (Int32.ofNat (sh_n (q1 + 1))) < (Int32.ofNat (sh_n (w + 1))) then (Int32.ofNat (sh_n (q1 + 1))) else (Int32.ofNat (sh_n (w + 1)))) * 6)))) fun μ2z => (gd (cpb 0 0 ((if (Int32.ofNat (sh_n (q1 + 1))) < (Int32.ofNat (sh_n (w + 1))) then (Int32.ofNat (sh_n (q1 + 1))) else (Int32.ofNat (sh_n (w + 1)))) * 6) (sh_n (q1 + 3)) (sh_n (w + 3))) (wr (mm_F μ2z (w + 3) (va_cpy (μ2z.1 (q1 + 3)) (μ2z.1 (w + 3)) (Int32.toNatClampNeg 0) (Int32.toNatClampNeg 0) (Int32.toNatClampNeg ((if (Int32.ofNat (sh_n (q1 + 1))) < (Int32.ofNat (sh_n (w + 1))) then (Int32.ofNat (sh_n (q1 + 1))) else (Int32.ofNat (sh_n (w + 1)))) * 6)))) fun μ3z => (gd (cpb 0 0 ((if (Int32.ofNat (sh_n (q1 + 1))) < (Int32.ofNat (sh_n (w + 1))) then (Int32.ofNat (sh_n (q1 + 1))) else (Int32.ofNat (sh_n (w + 1)))) * 6) (sh_n (q1 + 4)) (sh_n (w + 4))) (wr (mm_F μ3z (w + 4) (va_cpy (μ3z.1 (q1 + 4)) (μ3z.1 (w + 4)) (Int32.toNatClampNeg 0) (Int32.toNatClampNeg 0) (Int32.toNatClampNeg ((if (Int32.ofNat (sh_n (q1 + 1))) < (Int32.ofNat (sh_n (w + 1))) then (Int32.ofNat (sh_n (q1 + 1))) else (Int32.ofNat (sh_n (w + 1)))) * 6)))) fun μ4z => (some μ4z))))))))
def f_Sh_takeAll (N : Nat) (s : Nat) (q1 : Nat) (μ : MM) : Option MM :=
  obv (f_Wo_takeAll N (s + 1) (q1 + 1) μ) fun μ1z => (gd (cpb 0 0 6 6 6) (wr (mm_F μ1z (s + 6) (va_cpy (μ1z.1 (q1 + 6)) (μ1z.1 (s + 6)) (Int32.toNatClampNeg 0) (Int32.toNatClampNeg 0) (Int32.toNatClampNeg 6))) fun μ2z => (wr (mm_I μ2z s 2 (μ2z.1 q1 2)) fun μ3z => (wr (mm_I μ3z s 3 (μ3z.1 q1 3)) fun μ4z => (wr (mm_I μ4z s 4 (μ4z.1 q1 4)) fun μ5z => (some μ5z))))))
def f_Co_takeAll (N : Nat) (c : Nat) (q1 : Nat) (μ : MM) : Option MM :=
  wr (mm_I μ c 0 (μ.1 q1 0)) fun μ1z => (wr (mm_I μ1z c 1 (μ1z.1 q1 1)) fun μ2z => (gd (cpb 0 0 8 8 8) (wr (mm_F μ2z (c + 1) (va_cpy (μ2z.1 (q1 + 1)) (μ2z.1 (c + 1)) (Int32.toNatClampNeg 0) (Int32.toNatClampNeg 0) (Int32.toNatClampNeg 8))) fun μ3z => (gd (cpb 0 0 8 8 8) (wr (mm_F μ3z (c + 2) (va_cpy (μ3z.1 (q1 + 2)) (μ3z.1 (c + 2)) (Int32.toNatClampNeg 0) (Int32.toNatClampNeg 0) (Int32.toNatClampNeg 8))) fun μ4z => (gd (cpb 0 0 6 6 6) (wr (mm_F μ4z (c + 3) (va_cpy (μ4z.1 (q1 + 3)) (μ4z.1 (c + 3)) (Int32.toNatClampNeg 0) (Int32.toNatClampNeg 0) (Int32.toNatClampNeg 6))) fun μ5z => (obv (f_Sh_takeAll N (c + 4) (q1 + 4) μ5z) fun μ6z => (some μ6z)))))))))
def f_Co_isNone (N : Nat) (c : Nat) (μ : MM) : Option (Int32 × MM) :=
  gd (zb (if (μ.1 c 1) = 0 then (1 : Int32) else 0)) (some ((if (μ.1 c 1) = 0 then (1 : Int32) else 0), μ))
def f_Co_suitedThings_L4 (N : Nat) (c : Nat) : Nat → Int32 → Int32 → Int32 → MM → Option (Int32 × MM)
  | 0, _, _, _, _ => none
  | n + 1, x1, x2, x3, μ =>
    if (μ.1 c 0) ≤ x3 then (some (x2, μ))
    else (ob (f_Co_isFit N c x1 x3 μ) fun t15 μ1z => (f_Co_suitedThings_L4 N c n x1 (if t15 = 0 then x2 else (x2 ||| ((1 : Int32) <<< (x3 &&& 31)))) (x3 + 1) μ1z))
def f_Co_suitedThings (N : Nat) (c : Nat) (x1 : Int32) (μ : MM) : Option (Int32 × MM) :=
  f_Co_suitedThings_L4 N c N x1 0 0 μ
def f_Wo_named_L20 (N : Nat) (w : Nat) : Nat → Int32 → Int32 → Int32 → Int32 → MM → Option (Int32 × MM)
  | 0, _, _, _, _, _ => none
  | n + 1, x1, x2, x3, x4, μ =>
    gd (inb x1 (sh_n (w + 1))) (if (μ.1 (w + 1) (Int32.toNatClampNeg x1)) ≤ x4 then (some (x3, μ))
    else (gd (inb ((x1 * 6) + x4) (sh_n (w + 4))) (if (μ.1 (w + 4) (Int32.toNatClampNeg ((x1 * 6) + x4))) ≤ 0 then (f_Wo_named_L20 N w n x1 x2 x3 (x4 + 1) μ)
    else (gd (inb ((x1 * 6) + x4) (sh_n (w + 2))) (if (μ.1 (w + 2) (Int32.toNatClampNeg ((x1 * 6) + x4))) = x2 then (gd (inb ((x1 * 6) + x4) (sh_n (w + 3))) (f_Wo_named_L20 N w n x1 x2 (x3 ||| ((1 : Int32) <<< ((μ.1 (w + 3) (Int32.toNatClampNeg ((x1 * 6) + x4))) &&& 31))) (x4 + 1) μ))
    else (f_Wo_named_L20 N w n x1 x2 x3 (x4 + 1) μ))))))
def f_Wo_named (N : Nat) (w : Nat) (x1 : Int32) (x2 : Int32) (μ : MM) : Option (Int32 × MM) :=
  if x1 < 0 then (some (0, μ))
    else (if x1 < (Int32.ofNat (sh_n (w + 1))) then (f_Wo_named_L20 N w N x1 x2 0 0 μ)
    else (some (0, μ)))
def f_Co_reachedFrom_L26 (N : Nat) (c : Nat) (k15 : Int32 → Int32 → MM → Option (Int32 × MM)) : Nat → Int32 → Int32 → Int32 → MM → Option (Int32 × MM)
  | 0, _, _, _, _ => none
  | n + 1, x2, x3, x4, μ =>
    if (μ.1 c 1) ≤ x4 then (k15 x2 (x3 + 1) μ)
    else (if ((x2 >>> (x4 &&& 31)) &&& 1) = 1 then (ob (f_Wo_named N (c + 4 + 1) x4 2 μ) fun t56 μ2z => (f_Co_reachedFrom_L26 N c k15 n (x2 ||| t56) x3 (x4 + 1) μ2z))
    else (f_Co_reachedFrom_L26 N c k15 n x2 x3 (x4 + 1) μ))
def f_Co_reachedFrom_L15 (N : Nat) (c : Nat) : Nat → Int32 → Int32 → MM → Option (Int32 × MM)
  | 0, _, _, _ => none
  | n + 1, x2, x3, μ =>
    if (μ.1 c 1) ≤ x3 then (some (x2, μ))
    else (f_Co_reachedFrom_L26 N c (f_Co_reachedFrom_L15 N c n) N x2 x3 0 μ)
def f_Co_reachedFrom (N : Nat) (c : Nat) (x1 : Int32) (μ : MM) : Option (Int32 × MM) :=
  ob (f_Wo_named N (c + 4 + 1) x1 2 μ) fun t9 μ1z => (f_Co_reachedFrom_L15 N c N t9 0 μ1z)
def f_Co_isToldAlone_L2 (N : Nat) (c : Nat) : Nat → Int32 → Int32 → Int32 → MM → Option (Int32 × MM)
  | 0, _, _, _, _ => none
  | n + 1, x1, x2, x3, μ =>
    if (μ.1 c 0) ≤ x3 then (some (1, μ))
    else (if x3 = x1 then (f_Co_isToldAlone_L2 N c n x1 x2 (x3 + 1) μ)
    else (gd (inb x1 8) (gd (inb x3 8) (if (((μ.1 (c + 2) (Int32.toNatClampNeg x1)) ^^^ (μ.1 (c + 2) (Int32.toNatClampNeg x3))) &&& x2) = 0 then (some (0, μ))
    else (f_Co_isToldAlone_L2 N c n x1 x2 (x3 + 1) μ)))))
def f_Co_isToldAlone (N : Nat) (c : Nat) (x1 : Int32) (x2 : Int32) (μ : MM) : Option (Int32 × MM) :=
  f_Co_isToldAlone_L2 N c N x1 x2 0 μ
def f_Gu_forget (N : Nat) (μ : MM) : Option MM :=
  wr (mm_I μ 341 0 0) fun μ1z => (some μ1z)
def f_Gu_note (N : Nat) (x1 : Int32) (x2 : Int32) (x3 : Int32) (μ : MM) : Option (Int32 × MM) :=
  if (μ.1 341 0) < 10 then (gd (inb (μ.1 341 0) 10) (wr (mm_I μ 342 (Int32.toNatClampNeg (μ.1 341 0)) x1) fun μ1z => (gd (inb (μ1z.1 341 0) 10) (wr (mm_I μ1z 343 (Int32.toNatClampNeg (μ1z.1 341 0)) x2) fun μ2z => (gd (inb (μ2z.1 341 0) 10) (wr (mm_I μ2z 344 (Int32.toNatClampNeg (μ2z.1 341 0)) (vp_nar .boolean x3)) fun μ3z => (wr (mm_I μ3z 341 0 ((μ3z.1 341 0) + 1)) fun μ4z => (some ((μ4z.1 341 0), μ4z)))))))))
    else (some ((-1), μ))
def f_Gu_aim_L82 (N : Nat) : Nat → Int32 → MM → Option (Int32 × MM)
  | 0, _, _ => none
  | n + 1, x3, μ =>
    if (μ.1 341 7) ≤ x3 then (some (1, μ))
    else (wr (mm_I μ 341 8 ((μ.1 341 8) * 12)) fun μ10z => (f_Gu_aim_L82 N n (x3 + 1) μ10z))
def f_Gu_aim (N : Nat) (x1 : Int32) (μ : MM) : Option (Int32 × MM) :=
  ob (f_Co_isCard N 23 x1 μ) fun t5 μ1z => (if t5 = 0 then (some (0, μ1z))
    else (gd (inb x1 6) (ob (f_Wo_leftIn N 28 x1 μ1z) fun t33 μ2z => (wr (mm_I μ2z 341 7 ((μ1z.1 29 (Int32.toNatClampNeg x1)) - t33)) fun μ3z => (if (μ3z.1 341 7) ≤ 3 then (wr (mm_I μ3z 341 6 x1) fun μ4z => (ob (f_Wo_named N 28 x1 0 μ4z) fun t59 μ5z => (wr (mm_I μ5z 341 9 t59) fun μ6z => (ob (f_Wo_named N 28 x1 1 μ6z) fun t69 μ7z => (wr (mm_I μ7z 341 10 t69) fun μ8z => (wr (mm_I μ8z 341 8 1) fun μ9z => (f_Gu_aim_L82 N N 0 μ9z)))))))
    else (some (0, μ3z)))))))
def f_Gu_layOut_L20 (N : Nat) : Nat → Int32 → Int32 → MM → Option MM
  | 0, _, _, _ => none
  | n + 1, x2, x3, μ =>
    if (μ.1 341 7) ≤ x3 then (some μ)
    else (if 6 ≤ (x2 - x2 / 12 * 12) then (wr (mm_I μ 341 12 ((μ.1 341 12) ||| ((1 : Int32) <<< (((x2 - x2 / 12 * 12) - 6) &&& 31)))) fun μ3z => (f_Gu_layOut_L20 N n (x2 / 12) (x3 + 1) μ3z))
    else (wr (mm_I μ 341 11 ((μ.1 341 11) ||| ((1 : Int32) <<< ((x2 - x2 / 12 * 12) &&& 31)))) fun μ4z => (f_Gu_layOut_L20 N n (x2 / 12) (x3 + 1) μ4z)))
def f_Gu_layOut (N : Nat) (x1 : Int32) (μ : MM) : Option MM :=
  wr (mm_I μ 341 11 (μ.1 341 9)) fun μ1z => (wr (mm_I μ1z 341 12 (μ1z.1 341 10)) fun μ2z => (f_Gu_layOut_L20 N N x1 0 μ2z))
def f_Gu_wouldFit (N : Nat) (x1 : Int32) (μ : MM) : Option (Int32 × MM) :=
  ob (f_Co_isThing N 23 x1 μ) fun t5 μ1z => (if t5 = 0 then (some (0, μ1z))
    else (gd (inb x1 8) (if ((μ1z.1 25 (Int32.toNatClampNeg x1)) &&& (μ1z.1 341 11)) = (μ1z.1 341 11) then (if ((μ1z.1 25 (Int32.toNatClampNeg x1)) &&& (μ1z.1 341 12)) = 0 then (some (1, μ1z))
    else (some (0, μ1z)))
    else (some (0, μ1z)))))
def f_Gu_isRow_L7 (N : Nat) : Nat → Int32 → MM → Option (Int32 × MM)
  | 0, _, _ => none
  | n + 1, x2, μ =>
    if (μ.1 341 0) ≤ x2 then (some (1, μ))
    else (gd (inb x2 10) (if (μ.1 343 (Int32.toNatClampNeg x2)) = (μ.1 341 6) then (gd (inb x2 10) (ob (f_Gu_wouldFit N (μ.1 342 (Int32.toNatClampNeg x2)) μ) fun t35 μ2z => (gd (inb x2 10) (if t35 = (μ2z.1 344 (Int32.toNatClampNeg x2)) then (f_Gu_isRow_L7 N n (x2 + 1) μ2z)
    else (some (0, μ2z))))))
    else (f_Gu_isRow_L7 N n (x2 + 1) μ)))
def f_Gu_isRow (N : Nat) (x1 : Int32) (μ : MM) : Option (Int32 × MM) :=
  obv (f_Gu_layOut N x1 μ) fun μ1z => (f_Gu_isRow_L7 N N 0 μ1z)
def f_Gu_countRows_L4 (N : Nat) : Nat → Int32 → Int32 → MM → Option (Int32 × MM)
  | 0, _, _, _ => none
  | n + 1, x1, x2, μ =>
    if (μ.1 341 8) ≤ x2 then (some (x1, μ))
    else (ob (f_Gu_isRow N x2 μ) fun t14 μ1z => (f_Gu_countRows_L4 N n (if t14 = 0 then x1 else (x1 + 1)) (x2 + 1) μ1z))
def f_Gu_countRows (N : Nat) (μ : MM) : Option (Int32 × MM) :=
  f_Gu_countRows_L4 N N 0 0 μ
def f_Gu_findRow_L4 (N : Nat) : Nat → Int32 → Int32 → Int32 → MM → Option (Int32 × MM)
  | 0, _, _, _, _ => none
  | n + 1, x1, x2, x3, μ =>
    if (μ.1 341 8) ≤ x3 then (some ((-1), μ))
    else (ob (f_Gu_isRow N x3 μ) fun t14 μ1z => (if t14 = 0 then (f_Gu_findRow_L4 N n x1 x2 (x3 + 1) μ1z)
    else (if x2 = x1 then (some (x3, μ1z))
    else (f_Gu_findRow_L4 N n x1 (x2 + 1) (x3 + 1) μ1z))))
def f_Gu_findRow (N : Nat) (x1 : Int32) (μ : MM) : Option (Int32 × MM) :=
  f_Gu_findRow_L4 N N x1 0 0 μ
def f_Gu_evenThing_L98 (N : Nat) : Nat → Int32 → Int32 → Int32 → Int32 → MM → Option (Int32 × MM)
  | 0, _, _, _, _, _ => none
  | n + 1, x1, x2, x3, x4, μ =>
    if (μ.1 23 0) ≤ x4 then (some (x2, μ))
    else (if x1 ≤ 0 then (some (x2, μ))
    else (gd (inb x4 8) (if x2 = (-1) then (f_Gu_evenThing_L98 N n x1 x4 (if 0 ≤ ((2 * (μ.1 345 (Int32.toNatClampNeg x4))) - x1) then ((2 * (μ.1 345 (Int32.toNatClampNeg x4))) - x1) else 0 - ((2 * (μ.1 345 (Int32.toNatClampNeg x4))) - x1)) (x4 + 1) μ)
    else (if x3 ≤ (if 0 ≤ ((2 * (μ.1 345 (Int32.toNatClampNeg x4))) - x1) then ((2 * (μ.1 345 (Int32.toNatClampNeg x4))) - x1) else 0 - ((2 * (μ.1 345 (Int32.toNatClampNeg x4))) - x1)) then (f_Gu_evenThing_L98 N n x1 x2 x3 (x4 + 1) μ)
    else (f_Gu_evenThing_L98 N n x1 x4 (if 0 ≤ ((2 * (μ.1 345 (Int32.toNatClampNeg x4))) - x1) then ((2 * (μ.1 345 (Int32.toNatClampNeg x4))) - x1) else 0 - ((2 * (μ.1 345 (Int32.toNatClampNeg x4))) - x1)) (x4 + 1) μ)))))
def f_Gu_evenThing_B77 (N : Nat) (k25 : Int32 → Int32 → MM → Option (Int32 × MM)) (k46 : Int32 → Int32 → Int32 → MM → Option (Int32 × MM)) (x1 : Int32) (x2 : Int32) (x3 : Int32) (s1 : Int32) (s2 : Int32) (s3 : Int32) (μ : MM) : Option (Int32 × MM) :=
  gd (inb s1 8) (wr (mm_I μ 345 (Int32.toNatClampNeg s1) (s2 + s3)) fun μ3z => (k46 x1 x2 (x3 + 1) μ3z))
def f_Gu_evenThing_L46 (N : Nat) (k25 : Int32 → Int32 → MM → Option (Int32 × MM)) : Nat → Int32 → Int32 → Int32 → MM → Option (Int32 × MM)
  | 0, _, _, _, _ => none
  | n + 1, x1, x2, x3, μ =>
    if (μ.1 23 0) ≤ x3 then (k25 x1 (x2 + 1) μ)
    else (gd (inb x3 8) (ob (f_Gu_wouldFit N x3 μ) fun t66 μ2z => (f_Gu_evenThing_B77 N k25 (f_Gu_evenThing_L46 N k25 n) x1 x2 x3 x3 (μ.1 345 (Int32.toNatClampNeg x3)) (if t66 = 0 then (0 : Int32) else 1) μ2z)))
def f_Gu_evenThing_L25 (N : Nat) : Nat → Int32 → Int32 → MM → Option (Int32 × MM)
  | 0, _, _, _ => none
  | n + 1, x1, x2, μ =>
    if (μ.1 341 8) ≤ x2 then (f_Gu_evenThing_L98 N N x1 (-1) 0 0 μ)
    else (ob (f_Gu_isRow N x2 μ) fun t35 μ1z => (if t35 = 0 then (f_Gu_evenThing_L25 N n x1 (x2 + 1) μ1z)
    else (f_Gu_evenThing_L46 N (f_Gu_evenThing_L25 N n) N (x1 + 1) x2 0 μ1z)))
def f_Gu_evenThing_L2 (N : Nat) : Nat → Int32 → MM → Option (Int32 × MM)
  | 0, _, _ => none
  | n + 1, x1, μ =>
    if 8 ≤ x1 then (f_Gu_evenThing_L25 N N 0 0 μ)
    else (gd (inb x1 8) (wr (mm_I μ 345 (Int32.toNatClampNeg x1) 0) fun μ4z => (f_Gu_evenThing_L2 N n (x1 + 1) μ4z)))
def f_Gu_evenThing (N : Nat) (μ : MM) : Option (Int32 × MM) :=
  f_Gu_evenThing_L2 N N 0 μ
def f_Gu_thingsFitting_L9 (N : Nat) : Nat → Int32 → Int32 → MM → Option (Int32 × MM)
  | 0, _, _, _ => none
  | n + 1, x2, x3, μ =>
    if (μ.1 23 0) ≤ x3 then (some (x2, μ))
    else (ob (f_Gu_wouldFit N x3 μ) fun t23 μ2z => (f_Gu_thingsFitting_L9 N n (x2 + (if t23 = 0 then (0 : Int32) else 1)) (x3 + 1) μ2z))
def f_Gu_thingsFitting (N : Nat) (x1 : Int32) (μ : MM) : Option (Int32 × MM) :=
  obv (f_Gu_layOut N x1 μ) fun μ1z => (f_Gu_thingsFitting_L9 N N 0 0 μ1z)
def f_Gu_kindestRow_L6 (N : Nat) : Nat → Int32 → Int32 → Int32 → MM → Option (Int32 × MM)
  | 0, _, _, _, _ => none
  | n + 1, x1, x2, x3, μ =>
    if (μ.1 341 8) ≤ x3 then (some (x1, μ))
    else (ob (f_Gu_isRow N x3 μ) fun t16 μ1z => (if t16 = 0 then (f_Gu_kindestRow_L6 N n x1 x2 (x3 + 1) μ1z)
    else (ob (f_Gu_thingsFitting N x3 μ1z) fun t24 μ2z => (if x1 = (-1) then (f_Gu_kindestRow_L6 N n x3 t24 (x3 + 1) μ2z)
    else (if t24 ≤ x2 then (f_Gu_kindestRow_L6 N n x1 x2 (x3 + 1) μ2z)
    else (f_Gu_kindestRow_L6 N n x3 t24 (x3 + 1) μ2z))))))
def f_Gu_kindestRow (N : Nat) (μ : MM) : Option (Int32 × MM) :=
  f_Gu_kindestRow_L6 N N (-1) 0 0 μ
def f_Hi_forget (N : Nat) (μ : MM) : Option MM :=
  wr (mm_I μ 51 0 0) fun μ1z => (some μ1z)
def f_Hi_keep (N : Nat) (q1 : Nat) (μ : MM) : Option MM :=
  gd (inb (μ.1 51 1) 40) (obv (f_Sh_takeAll N (53 + 7 * (Int32.toNatClampNeg (μ.1 51 1))) q1 μ) fun μ1z => (wr (mm_I μ1z 51 1 (((μ1z.1 51 1) + 1) - ((μ1z.1 51 1) + 1) / 40 * 40)) fun μ2z => (wr (mm_I μ2z 51 0 (if ((μ2z.1 51 0) + 1) < (40 : Int32) then ((μ2z.1 51 0) + 1) else (40 : Int32))) fun μ3z => (some μ3z))))
def f_Hi_undoInto (N : Nat) (q1 : Nat) (μ : MM) : Option (Int32 × MM) :=
  if (μ.1 51 0) = 0 then (some ((-1), μ))
    else (wr (mm_I μ 51 1 ((((μ.1 51 1) + 40) - 1) - (((μ.1 51 1) + 40) - 1) / 40 * 40)) fun μ1z => (wr (mm_I μ1z 51 0 ((μ1z.1 51 0) - 1)) fun μ2z => (gd (inb (μ2z.1 51 1) 40) (obv (f_Sh_takeAll N q1 (53 + 7 * (Int32.toNatClampNeg (μ2z.1 51 1))) μ2z) fun μ3z => (some ((μ3z.1 51 0), μ3z))))))
def f_Ta_rewind (N : Nat) (μ : MM) : Option MM :=
  wr (mm_I μ 1 2 0) fun μ1z => (some μ1z)
def f_Ta_peek_B38 (N : Nat) (μ : MM) : Option (Int32 × MM) :=
  if (μ.1 1 1) ≤ (μ.1 1 2) then (some ((-1), μ))
    else (gd (inb (μ.1 1 2) 240) (some ((μ.1 2 (Int32.toNatClampNeg (μ.1 1 2))), μ)))
def f_Ta_peek_L0 (N : Nat) : Nat → MM → Option (Int32 × MM)
  | 0, _ => none
  | n + 1, μ =>
    if (μ.1 1 1) ≤ (μ.1 1 2) then (f_Ta_peek_B38 N  μ)
    else (gd (inb (μ.1 1 2) 240) (if (μ.1 2 (Int32.toNatClampNeg (μ.1 1 2))) = 32 then (wr (mm_I μ 1 2 ((μ.1 1 2) + 1)) fun μ1z => (f_Ta_peek_L0 N n  μ1z))
    else (f_Ta_peek_B38 N  μ)))
def f_Ta_peek (N : Nat) (μ : MM) : Option (Int32 × MM) :=
  f_Ta_peek_L0 N N  μ
def f_Ta_step (N : Nat) (μ : MM) : Option MM :=
  if (μ.1 1 1) ≤ (μ.1 1 2) then (some μ)
    else (wr (mm_I μ 1 2 ((μ.1 1 2) + 1)) fun μ1z => (some μ1z))
def f_Ta_accept (N : Nat) (x1 : Int32) (μ : MM) : Option (Int32 × MM) :=
  ob (f_Ta_peek N μ) fun t1 μ1z => (if t1 = x1 then (obv (f_Ta_step N μ1z) fun μ2z => (some (1, μ2z)))
    else (some (0, μ1z)))
def f_St_isLatin1_aae02 (N : Nat) (sx : Nat) (μ : MM) : Option (Int32 × MM) :=
  if (1 : Int32) = 0 then (some (0, μ))
    else (if (0 : Int32) = 0 then (some (1, μ))
    else (some (0, μ)))
def f_St_coder_7d493 (N : Nat) (sx : Nat) (μ : MM) : Option (Int32 × MM) :=
  gd (z8 (if (1 : Int32) = 0 then (1 : Int32) else 0)) (some ((if (1 : Int32) = 0 then (1 : Int32) else 0), μ))
def f_St_length_8abf5 (N : Nat) (sx : Nat) (μ : MM) : Option (Int32 × MM) :=
  ob (f_St_coder_7d493 N sx μ) fun t6 μ1z => (some (((Int32.ofNat (sh_n (sx + 1000))) >>> (t6 &&& 31)), μ1z))
def f_Sl_canEncode_9a6ad (N : Nat) (x0 : Int32) (μ : MM) : Option (Int32 × MM) :=
  if x0 < 0 then (some (0, μ))
    else (if 255 < x0 then (some (0, μ))
    else (some (1, μ)))
def f_Sl_indexOfChar_4cfef_L7 (N : Nat) (q0 : Nat) : Nat → Int32 → Int32 → Int32 → MM → Option (Int32 × MM)
  | 0, _, _, _, _ => none
  | n + 1, x3, x4, x5, μ =>
    if x3 ≤ x5 then (some ((-1), μ))
    else (gd (inb x5 (sh_n q0)) (if (st_I q0 (Int32.toNatClampNeg x5)) = x4 then (some (x5, μ))
    else (f_Sl_indexOfChar_4cfef_L7 N q0 n x3 x4 (x5 + 1) μ)))
def f_Sl_indexOfChar_4cfef (N : Nat) (q0 : Nat) (x1 : Int32) (x2 : Int32) (x3 : Int32) (μ : MM) : Option (Int32 × MM) :=
  f_Sl_indexOfChar_4cfef_L7 N q0 N x3 ((Int32.toInt8 x1).toInt32) x2 μ
def f_Sl_indexOf_4cfef (N : Nat) (q0 : Nat) (x1 : Int32) (x2 : Int32) (x3 : Int32) (μ : MM) : Option (Int32 × MM) :=
  ob (f_Sl_canEncode_9a6ad N x1 μ) fun t1 μ1z => (if t1 = 0 then (some ((-1), μ1z))
    else (if (if x2 < (0 : Int32) then (0 : Int32) else x2) < (if (Int32.ofNat (sh_n q0)) < x3 then (Int32.ofNat (sh_n q0)) else x3) then (ob (f_Sl_indexOfChar_4cfef N q0 x1 (if x2 < (0 : Int32) then (0 : Int32) else x2) (if (Int32.ofNat (sh_n q0)) < x3 then (Int32.ofNat (sh_n q0)) else x3) μ1z) fun t33 μ2z => (some (t33, μ2z)))
    else (some ((-1), μ1z))))
def f_St_indexOf_7cf53 (N : Nat) (sx : Nat) (x1 : Int32) (x2 : Int32) (μ : MM) : Option (Int32 × MM) :=
  ob (f_St_isLatin1_aae02 N sx μ) fun t1 μ1z => (if t1 = 0 then (ob (f_St_length_8abf5 N sx μ1z) fun t30 μ2z => (none))
    else (ob (f_St_length_8abf5 N sx μ1z) fun t14 μ3z => (ob (f_Sl_indexOf_4cfef N (sx + 1000) x1 x2 t14 μ3z) fun t17 μ4z => (some (t17, μ4z)))))
def f_St_indexOf_0f7a4 (N : Nat) (sx : Nat) (x1 : Int32) (μ : MM) : Option (Int32 × MM) :=
  ob (f_St_indexOf_7cf53 N sx x1 0 μ) fun t3 μ1z => (some (t3, μ1z))
def f_Lr_emit (N : Nat) (x1 : Int32) (μ : MM) : Option (Int32 × MM) :=
  if (μ.1 21 2) < 240 then (gd (inb (μ.1 21 2) 240) (wr (mm_I μ 22 (Int32.toNatClampNeg (μ.1 21 2)) x1) fun μ1z => (wr (mm_I μ1z 21 2 ((μ1z.1 21 2) + 1)) fun μ2z => (some (1, μ2z)))))
    else (some (0, μ))
def f_Ta_readNumber_B118 (N : Nat) (x4 : Int32) (x5 : Int32) (μ : MM) : Option (Int32 × MM) :=
  some ((if x5 ≤ 0 then ((-1) : Int32) else x4), μ)
def f_Ta_readNumber_B106 (N : Nat) (μ : MM) : Option (Int32 × MM) :=
  wr (mm_I μ 1 2 ((μ.1 1 2) - 1)) fun μ1z => (some ((-1), μ1z))
def f_Ta_readNumber_B89 (N : Nat) (x2 : Int32) (x3 : Int32) (x4 : Int32) (x5 : Int32) (μ : MM) : Option (Int32 × MM) :=
  if x5 ≤ 0 then (f_Ta_readNumber_B118 N x4 x5 μ)
    else (if x4 < x2 then (f_Ta_readNumber_B106 N  μ)
    else (if x4 ≤ x3 then (f_Ta_readNumber_B118 N x4 x5 μ)
    else (f_Ta_readNumber_B106 N  μ)))
def f_Ta_readNumber_L6 (N : Nat) : Nat → Int32 → Int32 → Int32 → Int32 → Int32 → MM → Option (Int32 × MM)
  | 0, _, _, _, _, _, _ => none
  | n + 1, x1, x2, x3, x4, x5, μ =>
    if (μ.1 1 1) ≤ (μ.1 1 2) then (f_Ta_readNumber_B89 N x2 x3 x4 x5 μ)
    else (gd (inb (μ.1 1 2) 240) (if (μ.1 2 (Int32.toNatClampNeg (μ.1 1 2))) < 48 then (f_Ta_readNumber_B89 N x2 x3 x4 x5 μ)
    else (gd (inb (μ.1 1 2) 240) (if 57 < (μ.1 2 (Int32.toNatClampNeg (μ.1 1 2))) then (f_Ta_readNumber_B89 N x2 x3 x4 x5 μ)
    else (if x5 = x1 then (some ((-1), μ))
    else (gd (inb (μ.1 1 2) 240) (wr (mm_I μ 1 2 ((μ.1 1 2) + 1)) fun μ2z => (f_Ta_readNumber_L6 N n x1 x2 x3 (((x4 * 10) + (μ.1 2 (Int32.toNatClampNeg (μ.1 1 2)))) - 48) (x5 + 1) μ2z))))))))
def f_Ta_readNumber (N : Nat) (x1 : Int32) (x2 : Int32) (x3 : Int32) (μ : MM) : Option (Int32 × MM) :=
  f_Ta_readNumber_L6 N N x1 x2 x3 0 0 μ
def f_Lr_joining (N : Nat) (x1 : Int32) (μ : MM) : Option (Int32 × MM) :=
  if x1 = 42 then (some ((-13), μ))
    else (if x1 = 43 then (some ((-11), μ))
    else (if x1 = 44 then (some (0, μ))
    else (if x1 = 45 then (some ((-12), μ))
    else (if x1 = 46 then (some (0, μ))
    else (if x1 = 47 then (some ((-14), μ))
    else (some (0, μ)))))))
def f_Lr_readSum_B127 (N : Nat) (rc_X4_readSum : Int32 → MM → Option (Int32 × MM)) (rc_X4_readAtom : Int32 → MM → Option (Int32 × MM)) (x2 : Int32) (μ : MM) : Option (Int32 × MM) :=
  if x2 = 0 then (some (1, μ))
    else (ob (f_Lr_emit N x2 μ) fun t133 μ2z => (if t133 = 0 then (some (0, μ2z))
    else (some (1, μ2z))))
def f_Lr_readSum_B113 (N : Nat) (rc_X4_readSum : Int32 → MM → Option (Int32 × MM)) (rc_X4_readAtom : Int32 → MM → Option (Int32 × MM)) (k14 : Int32 → Int32 → Int32 → MM → Option (Int32 × MM)) (x1 : Int32) (x2 : Int32) (x3 : Int32) (x4 : Int32) (x5 : Int32) (μ : MM) : Option (Int32 × MM) :=
  k14 x1 (if x5 = 0 then x2 else x4) (x3 + 1) μ
def f_Lr_readSum_B89 (N : Nat) (rc_X4_readSum : Int32 → MM → Option (Int32 × MM)) (rc_X4_readAtom : Int32 → MM → Option (Int32 × MM)) (k14 : Int32 → Int32 → Int32 → MM → Option (Int32 × MM)) (x1 : Int32) (x2 : Int32) (x3 : Int32) (x4 : Int32) (x5 : Int32) (μ : MM) : Option (Int32 × MM) :=
  ob (rc_X4_readAtom x1 μ) fun t91 μ6z => (if t91 = 0 then (some (0, μ6z))
    else (if x5 = 0 then (ob (f_Lr_emit N x4 μ6z) fun t105 μ7z => (if t105 = 0 then (some (0, μ7z))
    else (f_Lr_readSum_B113 N rc_X4_readSum rc_X4_readAtom k14 x1 x2 x3 x4 x5 μ7z)))
    else (f_Lr_readSum_B113 N rc_X4_readSum rc_X4_readAtom k14 x1 x2 x3 x4 x5 μ6z)))
def f_Lr_readSum_B61 (N : Nat) (rc_X4_readSum : Int32 → MM → Option (Int32 × MM)) (rc_X4_readAtom : Int32 → MM → Option (Int32 × MM)) (k14 : Int32 → Int32 → Int32 → MM → Option (Int32 × MM)) (x1 : Int32) (x2 : Int32) (x3 : Int32) (x4 : Int32) (s0 : Int32) (μ : MM) : Option (Int32 × MM) :=
  obv (f_Ta_step N μ) fun μ5z => (if s0 = 0 then (f_Lr_readSum_B89 N rc_X4_readSum rc_X4_readAtom k14 x1 x2 x3 x4 s0 μ5z)
    else (if x2 = 0 then (f_Lr_readSum_B89 N rc_X4_readSum rc_X4_readAtom k14 x1 x2 x3 x4 s0 μ5z)
    else (ob (f_Lr_emit N x2 μ5z) fun t81 μ8z => (if t81 = 0 then (some (0, μ8z))
    else (f_Lr_readSum_B89 N rc_X4_readSum rc_X4_readAtom k14 x1 x2 x3 x4 s0 μ8z)))))
def f_Lr_readSum_B56 (N : Nat) (rc_X4_readSum : Int32 → MM → Option (Int32 × MM)) (rc_X4_readAtom : Int32 → MM → Option (Int32 × MM)) (k14 : Int32 → Int32 → Int32 → MM → Option (Int32 × MM)) (x1 : Int32) (x2 : Int32) (x3 : Int32) (x4 : Int32) (μ : MM) : Option (Int32 × MM) :=
  f_Lr_readSum_B61 N rc_X4_readSum rc_X4_readAtom k14 x1 x2 x3 x4 1 μ
def f_Lr_readSum_L14 (N : Nat) (rc_X4_readSum : Int32 → MM → Option (Int32 × MM)) (rc_X4_readAtom : Int32 → MM → Option (Int32 × MM)) : Nat → Int32 → Int32 → Int32 → MM → Option (Int32 × MM)
  | 0, _, _, _, _ => none
  | n + 1, x1, x2, x3, μ =>
    if 240 < x3 then (f_Lr_readSum_B127 N rc_X4_readSum rc_X4_readAtom x2 μ)
    else (ob (f_Ta_peek N μ) fun t26 μ3z => (ob (f_Lr_joining N t26 μ3z) fun t29 μ4z => (if t29 = 0 then (f_Lr_readSum_B127 N rc_X4_readSum rc_X4_readAtom x2 μ4z)
    else (if t29 = (-11) then (f_Lr_readSum_B56 N rc_X4_readSum rc_X4_readAtom (f_Lr_readSum_L14 N rc_X4_readSum rc_X4_readAtom n) x1 x2 x3 t29 μ4z)
    else (if t29 = (-12) then (f_Lr_readSum_B56 N rc_X4_readSum rc_X4_readAtom (f_Lr_readSum_L14 N rc_X4_readSum rc_X4_readAtom n) x1 x2 x3 t29 μ4z)
    else (f_Lr_readSum_B61 N rc_X4_readSum rc_X4_readAtom (f_Lr_readSum_L14 N rc_X4_readSum rc_X4_readAtom n) x1 x2 x3 t29 0 μ4z))))))
def f_Lr_readSum_body (N : Nat) (rc_X4_readSum : Int32 → MM → Option (Int32 × MM)) (rc_X4_readAtom : Int32 → MM → Option (Int32 × MM)) (x1 : Int32) (μ : MM) : Option (Int32 × MM) :=
  ob (rc_X4_readAtom x1 μ) fun t2 μ1z => (if t2 = 0 then (some (0, μ1z))
    else (f_Lr_readSum_L14 N rc_X4_readSum rc_X4_readAtom N x1 0 0 μ1z))
def f_Lr_readAtom_B78 (N : Nat) (rc_X4_readSum : Int32 → MM → Option (Int32 × MM)) (rc_X4_readAtom : Int32 → MM → Option (Int32 × MM)) (s0 : Int32) (μ : MM) : Option (Int32 × MM) :=
  if s0 < 0 then (ob (f_Ta_readNumber N 4 0 9999 μ) fun t107 μ3z => (if t107 = (-1) then (some (0, μ3z))
    else (ob (f_Lr_emit N t107 μ3z) fun t121 μ4z => (if t121 = 0 then (some (0, μ4z))
    else (some (1, μ4z))))))
    else (obv (f_Ta_step N μ) fun μ5z => (ob (f_Lr_emit N ((-1) - s0) μ5z) fun t94 μ6z => (gd (zb t94) (some (t94, μ6z)))))
def f_Lr_readAtom_body (N : Nat) (rc_X4_readSum : Int32 → MM → Option (Int32 × MM)) (rc_X4_readAtom : Int32 → MM → Option (Int32 × MM)) (x1 : Int32) (μ : MM) : Option (Int32 × MM) :=
  ob (f_Ta_peek N μ) fun t4 μ1z => (if t4 = 91 then (if x1 < 6 then (obv (f_Ta_step N μ1z) fun μ7z => (ob (rc_X4_readSum (x1 + 1) μ7z) fun t33 μ8z => (if t33 = 0 then (some (0, μ8z))
    else (ob (f_Ta_peek N μ8z) fun t43 μ9z => (if t43 = 93 then (obv (f_Ta_step N μ9z) fun μ10z => (some (1, μ10z)))
    else (some (0, μ9z)))))))
    else (some (0, μ1z)))
    else (if t4 = (-1) then (f_Lr_readAtom_B78 N rc_X4_readSum rc_X4_readAtom (-1) μ1z)
    else (ob (f_St_indexOf_0f7a4 N 2000 ((Int32.toUInt32 t4 % 65536).toInt32) μ1z) fun t75 μ2z => (f_Lr_readAtom_B78 N rc_X4_readSum rc_X4_readAtom t75 μ2z))))
def f_cl_Lr_readSum (N : Nat) : Nat → Nat → Int32 → MM → Option (Int32 × MM)
  | 0, _, _, _ => none
  | t + 1, g, a0, μ =>
    if g = 0 then f_Lr_readSum_body N (fun x1 μ => f_cl_Lr_readSum N t 0 x1 μ) (fun x1 μ => f_cl_Lr_readSum N t 1 x1 μ) a0 μ
    else f_Lr_readAtom_body N (fun x1 μ => f_cl_Lr_readSum N t 0 x1 μ) (fun x1 μ => f_cl_Lr_readSum N t 1 x1 μ) a0 μ
def f_Lr_readSum (N : Nat) (x1 : Int32) (μ : MM) : Option (Int32 × MM) := f_cl_Lr_readSum N 40 0 x1 μ
def f_Lr_readAtom (N : Nat) (x1 : Int32) (μ : MM) : Option (Int32 × MM) := f_cl_Lr_readSum N 40 1 x1 μ
def f_Lr_isComparing (N : Nat) (x1 : Int32) (μ : MM) : Option (Int32 × MM) :=
  if x1 = 61 then (some (1, μ))
    else (if x1 = 60 then (some (1, μ))
    else (if x1 = 62 then (some (1, μ))
    else (some (0, μ))))
def f_Lr_readComparison_B49 (N : Nat) (x1 : Int32) (s0 : Int32) (μ : MM) : Option (Int32 × MM) :=
  ob (f_Lr_readSum N x1 μ) fun t52 μ4z => (if t52 = 0 then (some (0, μ4z))
    else (ob (f_Lr_emit N s0 μ4z) fun t60 μ5z => (if t60 = 0 then (some (0, μ5z))
    else (some (1, μ5z)))))
def f_Lr_readComparison (N : Nat) (x1 : Int32) (μ : MM) : Option (Int32 × MM) :=
  ob (f_Ta_peek N μ) fun t4 μ1z => (ob (f_Lr_isComparing N t4 μ1z) fun t10 μ2z => (if t10 = 0 then (some (0, μ2z))
    else (obv (f_Ta_step N μ2z) fun μ3z => (f_Lr_readComparison_B49 N x1 (if t4 = 61 then ((-15) : Int32) else (if t4 = 60 then ((-16) : Int32) else (-17))) μ3z))))
def f_Lr_readUnit_B42 (N : Nat) (rc_X4_readUnit : Int32 → MM → Option (Int32 × MM)) (rc_X4_readMoreUnits : Int32 → MM → Option (Int32 × MM)) (x1 : Int32) (x2 : Int32) (μ : MM) : Option (Int32 × MM) :=
  if x1 < 6 then (obv (f_Ta_step N μ) fun μ2z => (if x2 = 33 then (ob (rc_X4_readUnit (x1 + 1) μ2z) fun t67 μ6z => (if t67 = 0 then (some (0, μ6z))
    else (ob (f_Lr_emit N (-20) μ6z) fun t76 μ7z => (if t76 = 0 then (some (0, μ7z))
    else (some (1, μ7z))))))
    else (ob (rc_X4_readUnit (x1 + 1) μ2z) fun t92 μ3z => (if t92 = 0 then (some (0, μ3z))
    else (ob (rc_X4_readMoreUnits (x1 + 1) μ3z) fun t102 μ4z => (if t102 = 0 then (some (0, μ4z))
    else (ob (f_Ta_accept N 41 μ4z) fun t114 μ5z => (if t114 = 0 then (some (0, μ5z))
    else (some (1, μ5z))))))))))
    else (some (0, μ))
def f_Lr_readUnit_body (N : Nat) (rc_X4_readUnit : Int32 → MM → Option (Int32 × MM)) (rc_X4_readMoreUnits : Int32 → MM → Option (Int32 × MM)) (x1 : Int32) (μ : MM) : Option (Int32 × MM) :=
  ob (f_Ta_peek N μ) fun t4 μ1z => (if t4 = 33 then (f_Lr_readUnit_B42 N rc_X4_readUnit rc_X4_readMoreUnits x1 t4 μ1z)
    else (if t4 = 40 then (f_Lr_readUnit_B42 N rc_X4_readUnit rc_X4_readMoreUnits x1 t4 μ1z)
    else (ob (f_Lr_readSum N x1 μ1z) fun t22 μ8z => (if t22 = 0 then (some (0, μ8z))
    else (ob (f_Lr_readComparison N x1 μ8z) fun t30 μ9z => (if t30 = 0 then (some (0, μ9z))
    else (some (1, μ9z))))))))
def f_Lr_readMoreUnits_B100 (N : Nat) (rc_X4_readUnit : Int32 → MM → Option (Int32 × MM)) (rc_X4_readMoreUnits : Int32 → MM → Option (Int32 × MM)) (x2 : Int32) (μ : MM) : Option (Int32 × MM) :=
  if x2 = 0 then (some (1, μ))
    else (ob (f_Lr_emit N (-19) μ) fun t107 μ1z => (if t107 = 0 then (some (0, μ1z))
    else (some (1, μ1z))))
def f_Lr_readMoreUnits_B68 (N : Nat) (rc_X4_readUnit : Int32 → MM → Option (Int32 × MM)) (rc_X4_readMoreUnits : Int32 → MM → Option (Int32 × MM)) (k4 : Int32 → Int32 → Int32 → MM → Option (Int32 × MM)) (x1 : Int32) (x2 : Int32) (x3 : Int32) (x4 : Int32) (μ : MM) : Option (Int32 × MM) :=
  ob (rc_X4_readUnit x1 μ) fun t70 μ4z => (if t70 = 0 then (some (0, μ4z))
    else (if x4 = 38 then (ob (f_Lr_emit N (-18) μ4z) fun t86 μ5z => (if t86 = 0 then (some (0, μ5z))
    else (k4 x1 x2 (x3 + 1) μ5z)))
    else (k4 x1 x2 (x3 + 1) μ4z)))
def f_Lr_readMoreUnits_B66 (N : Nat) (rc_X4_readUnit : Int32 → MM → Option (Int32 × MM)) (rc_X4_readMoreUnits : Int32 → MM → Option (Int32 × MM)) (k4 : Int32 → Int32 → Int32 → MM → Option (Int32 × MM)) (x1 : Int32) (x3 : Int32) (x4 : Int32) (μ : MM) : Option (Int32 × MM) :=
  f_Lr_readMoreUnits_B68 N rc_X4_readUnit rc_X4_readMoreUnits k4 x1 1 x3 x4 μ
def f_Lr_readMoreUnits_B37 (N : Nat) (rc_X4_readUnit : Int32 → MM → Option (Int32 × MM)) (rc_X4_readMoreUnits : Int32 → MM → Option (Int32 × MM)) (k4 : Int32 → Int32 → Int32 → MM → Option (Int32 × MM)) (x1 : Int32) (x2 : Int32) (x3 : Int32) (x4 : Int32) (μ : MM) : Option (Int32 × MM) :=
  obv (f_Ta_step N μ) fun μ3z => (if x4 = 124 then (if x2 = 0 then (f_Lr_readMoreUnits_B66 N rc_X4_readUnit rc_X4_readMoreUnits k4 x1 x3 x4 μ3z)
    else (ob (f_Lr_emit N (-19) μ3z) fun t58 μ6z => (if t58 = 0 then (some (0, μ6z))
    else (f_Lr_readMoreUnits_B66 N rc_X4_readUnit rc_X4_readMoreUnits k4 x1 x3 x4 μ6z))))
    else (f_Lr_readMoreUnits_B68 N rc_X4_readUnit rc_X4_readMoreUnits k4 x1 x2 x3 x4 μ3z))
def f_Lr_readMoreUnits_L4 (N : Nat) (rc_X4_readUnit : Int32 → MM → Option (Int32 × MM)) (rc_X4_readMoreUnits : Int32 → MM → Option (Int32 × MM)) : Nat → Int32 → Int32 → Int32 → MM → Option (Int32 × MM)
  | 0, _, _, _, _ => none
  | n + 1, x1, x2, x3, μ =>
    if 240 < x3 then (f_Lr_readMoreUnits_B100 N rc_X4_readUnit rc_X4_readMoreUnits x2 μ)
    else (ob (f_Ta_peek N μ) fun t15 μ2z => (if t15 = 38 then (f_Lr_readMoreUnits_B37 N rc_X4_readUnit rc_X4_readMoreUnits (f_Lr_readMoreUnits_L4 N rc_X4_readUnit rc_X4_readMoreUnits n) x1 x2 x3 t15 μ2z)
    else (if t15 = 124 then (f_Lr_readMoreUnits_B37 N rc_X4_readUnit rc_X4_readMoreUnits (f_Lr_readMoreUnits_L4 N rc_X4_readUnit rc_X4_readMoreUnits n) x1 x2 x3 t15 μ2z)
    else (f_Lr_readMoreUnits_B100 N rc_X4_readUnit rc_X4_readMoreUnits x2 μ2z))))
def f_Lr_readMoreUnits_body (N : Nat) (rc_X4_readUnit : Int32 → MM → Option (Int32 × MM)) (rc_X4_readMoreUnits : Int32 → MM → Option (Int32 × MM)) (x1 : Int32) (μ : MM) : Option (Int32 × MM) :=
  f_Lr_readMoreUnits_L4 N rc_X4_readUnit rc_X4_readMoreUnits N x1 0 0 μ
def f_cl_Lr_readUnit (N : Nat) : Nat → Nat → Int32 → MM → Option (Int32 × MM)
  | 0, _, _, _ => none
  | t + 1, g, a0, μ =>
    if g = 0 then f_Lr_readUnit_body N (fun x1 μ => f_cl_Lr_readUnit N t 0 x1 μ) (fun x1 μ => f_cl_Lr_readUnit N t 1 x1 μ) a0 μ
    else f_Lr_readMoreUnits_body N (fun x1 μ => f_cl_Lr_readUnit N t 0 x1 μ) (fun x1 μ => f_cl_Lr_readUnit N t 1 x1 μ) a0 μ
def f_Lr_readUnit (N : Nat) (x1 : Int32) (μ : MM) : Option (Int32 × MM) := f_cl_Lr_readUnit N 40 0 x1 μ
def f_Lr_readMoreUnits (N : Nat) (x1 : Int32) (μ : MM) : Option (Int32 × MM) := f_cl_Lr_readUnit N 40 1 x1 μ
def f_Lr_readClause_B99 (N : Nat) (s0 : Int32) (μ : MM) : Option (Int32 × MM) :=
  if s0 = 0 then (some (0, μ))
    else (ob (f_Lr_readMoreUnits N 0 μ) fun t106 μ5z => (if t106 = 0 then (some (0, μ5z))
    else (ob (f_Ta_accept N 63 μ5z) fun t118 μ6z => (if t118 = 0 then (some (0, μ6z))
    else (ob (f_Lr_emit N (-21) μ6z) fun t127 μ7z => (if t127 = 0 then (some (0, μ7z))
    else (ob (f_Lr_readSum N 0 μ7z) fun t135 μ8z => (if t135 = 0 then (some (0, μ8z))
    else (some (1, μ8z))))))))))
def f_Lr_readClause_B82 (N : Nat) (x2 : Int32) (μ : MM) : Option (Int32 × MM) :=
  if x2 = 0 then (ob (f_Lr_readComparison N 0 μ) fun t96 μ4z => (f_Lr_readClause_B99 N t96 μ4z))
    else (ob (f_Lr_readUnit N 0 μ) fun t88 μ9z => (f_Lr_readClause_B99 N t88 μ9z))
def f_Lr_readClause_B51 (N : Nat) (s0 : Int32) (μ : MM) : Option (Int32 × MM) :=
  if s0 = 0 then (ob (f_Lr_readSum N 0 μ) fun t58 μ10z => (if t58 = 0 then (some (0, μ10z))
    else (ob (f_Ta_peek N μ10z) fun t71 μ11z => (ob (f_Lr_isComparing N t71 μ11z) fun t74 μ12z => (if t74 = 0 then (some (1, μ12z))
    else (f_Lr_readClause_B82 N s0 μ12z))))))
    else (f_Lr_readClause_B82 N s0 μ)
def f_Lr_readClause_B46 (N : Nat) (μ : MM) : Option (Int32 × MM) :=
  f_Lr_readClause_B51 N 1 μ
def f_Lr_readClause (N : Nat) (μ : MM) : Option (Int32 × MM) :=
  ob (f_Ta_accept N 121 μ) fun t6 μ1z => (if t6 = 0 then (some (0, μ1z))
    else (ob (f_Ta_accept N 58 μ1z) fun t18 μ2z => (if t18 = 0 then (some (0, μ2z))
    else (ob (f_Ta_peek N μ2z) fun t30 μ3z => (if t30 = 33 then (f_Lr_readClause_B46 N  μ3z)
    else (if t30 = 40 then (f_Lr_readClause_B46 N  μ3z)
    else (f_Lr_readClause_B51 N 0 μ3z)))))))
def f_Lr_readLaw_L14 (N : Nat) : Nat → Int32 → MM → Option (Int32 × MM)
  | 0, _, _ => none
  | n + 1, x1, μ =>
    if 240 < x1 then (some (0, μ))
    else (ob (f_Lr_readClause N μ) fun t22 μ3z => (if t22 = 0 then (some (0, μ3z))
    else (ob (f_Lr_emit N (-22) μ3z) fun t31 μ4z => (if t31 = 0 then (some (0, μ4z))
    else (ob (f_Ta_accept N 59 μ4z) fun t45 μ5z => (if t45 = 0 then (ob (f_Ta_peek N μ5z) fun t55 μ6z => (gd (zb (if t55 = (-1) then (1 : Int32) else 0)) (some ((if t55 = (-1) then (1 : Int32) else 0), μ6z))))
    else (f_Lr_readLaw_L14 N n (x1 + 1) μ5z)))))))
def f_Lr_readLaw (N : Nat) (μ : MM) : Option (Int32 × MM) :=
  obv (f_Ta_rewind N μ) fun μ1z => (wr (mm_I μ1z 21 2 0) fun μ2z => (f_Lr_readLaw_L14 N N 0 μ2z))
def f_La_keepNext (N : Nat) (q1 : Nat) (x2 : Int32) (μ : MM) : Option (Int32 × MM) :=
  if 4 ≤ (μ.1 34 0) then (some ((-1), μ))
    else (if x2 < 0 then (some ((-1), μ))
    else (if 240 < x2 then (some ((-1), μ))
    else (if x2 ≤ (Int32.ofNat (sh_n q1)) then (gd (inb (μ.1 34 0) 4) (gd (cpb 0 0 x2 (sh_n q1) 240) (wr (mm_F μ (37 + (Int32.toNatClampNeg (μ.1 34 0))) (va_cpy (μ.1 q1) (μ.1 (37 + (Int32.toNatClampNeg (μ.1 34 0)))) (Int32.toNatClampNeg 0) (Int32.toNatClampNeg 0) (Int32.toNatClampNeg x2))) fun μ1z => (gd (inb (μ1z.1 34 0) 4) (wr (mm_I μ1z 41 (Int32.toNatClampNeg (μ1z.1 34 0)) x2) fun μ2z => (wr (mm_I μ2z 34 0 ((μ2z.1 34 0) + 1)) fun μ3z => (some (((μ3z.1 34 0) - 1), μ3z))))))))
    else (some ((-1), μ)))))
def f_Ma_alikeThings_L4 (N : Nat) : Nat → Int32 → Int32 → Int32 → MM → Option (Int32 × MM)
  | 0, _, _, _, _ => none
  | n + 1, x1, x2, x3, μ =>
    if (μ.1 23 0) ≤ x3 then (some (x2, μ))
    else (if x3 = x1 then (f_Ma_alikeThings_L4 N n x1 x2 (x3 + 1) μ)
    else (gd (inb x1 8) (gd (inb x3 8) (f_Ma_alikeThings_L4 N n x1 (if ((μ.1 25 (Int32.toNatClampNeg x1)) &&& (μ.1 25 (Int32.toNatClampNeg x3))) = 0 then x2 else (x2 ||| ((1 : Int32) <<< (x3 &&& 31)))) (x3 + 1) μ))))
def f_Ma_alikeThings (N : Nat) (x1 : Int32) (μ : MM) : Option (Int32 × MM) :=
  f_Ma_alikeThings_L4 N N x1 0 0 μ
def f_Ma_sortByPrice_B67 (N : Nat) (k2 : Int32 → MM → Option MM) (x1 : Int32) (x2 : Int32) (μ : MM) : Option MM :=
  gd (inb x2 8) (wr (mm_I μ 335 (Int32.toNatClampNeg x2) x1) fun μ1z => (k2 (x1 + 1) μ1z))
def f_Ma_sortByPrice_L15 (N : Nat) (k2 : Int32 → MM → Option MM) : Nat → Int32 → Int32 → MM → Option MM
  | 0, _, _, _ => none
  | n + 1, x1, x2, μ =>
    if x2 ≤ 0 then (f_Ma_sortByPrice_B67 N k2 x1 x2 μ)
    else (gd (inb (x2 - 1) 8) (gd (inb (μ.1 335 (Int32.toNatClampNeg (x2 - 1))) 8) (gd (inb x1 8) (if (μ.1 24 (Int32.toNatClampNeg (μ.1 335 (Int32.toNatClampNeg (x2 - 1))))) ≤ (μ.1 24 (Int32.toNatClampNeg x1)) then (f_Ma_sortByPrice_B67 N k2 x1 x2 μ)
    else (gd (inb (x2 - 1) 8) (gd (inb x2 8) (wr (mm_I μ 335 (Int32.toNatClampNeg x2) (μ.1 335 (Int32.toNatClampNeg (x2 - 1)))) fun μ2z => (f_Ma_sortByPrice_L15 N k2 n x1 (x2 + (-1)) μ2z))))))))
def f_Ma_sortByPrice_L2 (N : Nat) : Nat → Int32 → MM → Option MM
  | 0, _, _ => none
  | n + 1, x1, μ =>
    if (μ.1 23 0) ≤ x1 then (some μ)
    else (f_Ma_sortByPrice_L15 N (f_Ma_sortByPrice_L2 N n) N x1 x1 μ)
def f_Ma_sortByPrice (N : Nat) (μ : MM) : Option MM :=
  f_Ma_sortByPrice_L2 N N 0 μ
def f_Ma_ableThings_B88 (N : Nat) (k39 : Int32 → Int32 → Int32 → Int32 → Int32 → MM → Option (Int32 × MM)) (x2 : Int32) (x3 : Int32) (x4 : Int32) (x5 : Int32) (x6 : Int32) (μ : MM) : Option (Int32 × MM) :=
  k39 x2 x3 x4 (x5 ||| ((1 : Int32) <<< (x6 &&& 31))) (x6 + 1) μ
def f_Ma_ableThings_L39 (N : Nat) : Nat → Int32 → Int32 → Int32 → Int32 → Int32 → MM → Option (Int32 × MM)
  | 0, _, _, _, _, _, _ => none
  | n + 1, x2, x3, x4, x5, x6, μ =>
    if (μ.1 23 0) ≤ x6 then (some (x5, μ))
    else (gd (inb x6 8) (if ((μ.1 25 (Int32.toNatClampNeg x6)) &&& x3) = x3 then (if ((μ.1 25 (Int32.toNatClampNeg x6)) &&& x4) = 0 then (if x2 = 0 then (f_Ma_ableThings_B88 N (f_Ma_ableThings_L39 N n) x2 x3 x4 x5 x6 μ)
    else (if (μ.1 25 (Int32.toNatClampNeg x6)) = 0 then (f_Ma_ableThings_L39 N n x2 x3 x4 x5 (x6 + 1) μ)
    else (f_Ma_ableThings_B88 N (f_Ma_ableThings_L39 N n) x2 x3 x4 x5 x6 μ)))
    else (f_Ma_ableThings_L39 N n x2 x3 x4 x5 (x6 + 1) μ))
    else (f_Ma_ableThings_L39 N n x2 x3 x4 x5 (x6 + 1) μ)))
def f_Ma_ableThings (N : Nat) (x1 : Int32) (x2 : Int32) (μ : MM) : Option (Int32 × MM) :=
  ob (f_Wo_named N 28 x1 0 μ) fun t12 μ1z => (ob (f_Wo_named N 28 x1 1 μ1z) fun t28 μ2z => (f_Ma_ableThings_L39 N N x2 t12 t28 0 0 μ2z))
def f_Ma_narrow_L29 (N : Nat) (k2 : Int32 → Int32 → MM → Option MM) : Nat → Int32 → Int32 → Int32 → MM → Option MM
  | 0, _, _, _, _ => none
  | n + 1, x1, x2, x3, μ =>
    if (μ.1 23 0) ≤ x3 then (k2 x1 (x2 + 1) μ)
    else (gd (inb x3 8) (gd (inb x2 6) (if ((μ.1 334 (Int32.toNatClampNeg x3)) &&& (μ.1 338 (Int32.toNatClampNeg x2))) = 0 then (gd (inb x1 6) (gd (inb x1 6) (wr (mm_I μ 338 (Int32.toNatClampNeg x1) ((μ.1 338 (Int32.toNatClampNeg x1)) &&& (((1 : Int32) <<< (x3 &&& 31)) ^^^ (-1)))) fun μ1z => (f_Ma_narrow_L29 N k2 n x1 x2 (x3 + 1) μ1z))))
    else (f_Ma_narrow_L29 N k2 n x1 x2 (x3 + 1) μ))))
def f_Ma_narrow_L2 (N : Nat) : Nat → Int32 → Int32 → MM → Option MM
  | 0, _, _, _ => none
  | n + 1, x1, x2, μ =>
    if (μ.1 23 1) ≤ x2 then (some μ)
    else (gd (inb x1 6) (if (((μ.1 336 (Int32.toNatClampNeg x1)) >>> (x2 &&& 31)) &&& 1) = 1 then (f_Ma_narrow_L29 N (f_Ma_narrow_L2 N n) N x1 x2 0 μ)
    else (f_Ma_narrow_L2 N n x1 (x2 + 1) μ)))
def f_Ma_narrow (N : Nat) (x1 : Int32) (μ : MM) : Option MM :=
  f_Ma_narrow_L2 N N x1 0 μ
def f_Ma_linkedAhead_B37 (N : Nat) (k4 : Int32 → Int32 → Int32 → MM → Option (Int32 × MM)) (x1 : Int32) (x2 : Int32) (x3 : Int32) (μ : MM) : Option (Int32 × MM) :=
  k4 x1 (x2 ||| ((1 : Int32) <<< (x3 &&& 31))) (x3 + 1) μ
def f_Ma_linkedAhead_L4 (N : Nat) : Nat → Int32 → Int32 → Int32 → MM → Option (Int32 × MM)
  | 0, _, _, _, _ => none
  | n + 1, x1, x2, x3, μ =>
    if x1 ≤ x3 then (some (x2, μ))
    else (gd (inb x1 6) (if (((μ.1 336 (Int32.toNatClampNeg x1)) >>> (x3 &&& 31)) &&& 1) = 1 then (f_Ma_linkedAhead_B37 N (f_Ma_linkedAhead_L4 N n) x1 x2 x3 μ)
    else (gd (inb x3 6) (if (((μ.1 336 (Int32.toNatClampNeg x3)) >>> (x1 &&& 31)) &&& 1) = 1 then (f_Ma_linkedAhead_B37 N (f_Ma_linkedAhead_L4 N n) x1 x2 x3 μ)
    else (f_Ma_linkedAhead_L4 N n x1 x2 (x3 + 1) μ)))))
def f_Ma_linkedAhead (N : Nat) (x1 : Int32) (μ : MM) : Option (Int32 × MM) :=
  f_Ma_linkedAhead_L4 N N x1 0 0 μ
def f_Ma_prepare_B254 (N : Nat) (k212 : Int32 → MM → Option MM) (x2 : Int32) (s1 : Int32) (s2 : Int32) (s3 : Int32) (μ : MM) : Option MM :=
  gd (inb s1 7) (wr (mm_I μ 339 (Int32.toNatClampNeg s1) (s2 + s3)) fun μ5z => (k212 (x2 + (-1)) μ5z))
def f_Ma_prepare_L212 (N : Nat) : Nat → Int32 → MM → Option MM
  | 0, _, _ => none
  | n + 1, x2, μ =>
    if x2 < 0 then (some μ)
    else (ob (f_Ma_linkedAhead N x2 μ) fun t223 μ3z => (gd (inb x2 6) (wr (mm_I μ3z 337 (Int32.toNatClampNeg x2) t223) fun μ4z => (gd (inb (x2 + 1) 7) (gd (inb x2 6) (f_Ma_prepare_B254 N (f_Ma_prepare_L212 N n) x2 x2 (μ4z.1 339 (Int32.toNatClampNeg (x2 + 1))) (if (μ4z.1 338 (Int32.toNatClampNeg x2)) = 0 then (0 : Int32) else 1) μ4z))))))
def f_Ma_prepare_L161 (N : Nat) (k148 : Int32 → MM → Option MM) : Nat → Int32 → Int32 → MM → Option MM
  | 0, _, _, _ => none
  | n + 1, x2, x3, μ =>
    if (μ.1 23 1) ≤ x3 then (k148 (x2 + 1) μ)
    else (obv (f_Ma_narrow N x3 μ) fun μ6z => (f_Ma_prepare_L161 N k148 n x2 (x3 + 1) μ6z))
def f_Ma_prepare_L148 (N : Nat) : Nat → Int32 → MM → Option MM
  | 0, _, _ => none
  | n + 1, x2, μ =>
    if (μ.1 23 1) ≤ x2 then (gd (inb (μ.1 23 1) 7) (wr (mm_I μ 339 (Int32.toNatClampNeg (μ.1 23 1)) 0) fun μ2z => (f_Ma_prepare_L212 N N ((μ2z.1 23 1) - 1) μ2z)))
    else (f_Ma_prepare_L161 N (f_Ma_prepare_L148 N n) N x2 0 μ)
def f_Ma_prepare_B139 (N : Nat) (k47 : Int32 → MM → Option MM) (x2 : Int32) (s1 : Int32) (s2 : Int32) (μ : MM) : Option MM :=
  gd (inb s1 6) (wr (mm_I μ 338 (Int32.toNatClampNeg s1) s2) fun μ10z => (k47 (x2 + 1) μ10z))
def f_Ma_prepare_B136 (N : Nat) (k47 : Int32 → MM → Option MM) (x2 : Int32) (s1 : Int32) (s3 : Int32) (s4 : Int32) (μ : MM) : Option MM :=
  ob (f_Ma_ableThings N s3 s4 μ) fun t136 μ9z => (f_Ma_prepare_B139 N k47 x2 s1 t136 μ9z)
def f_Ma_prepare_B105 (N : Nat) (k47 : Int32 → MM → Option MM) (x2 : Int32) (x3 : Int32) (x4 : Int32) (s1 : Int32) (s2 : Int32) (μ : MM) : Option MM :=
  gd (inb s1 6) (wr (mm_I μ 336 (Int32.toNatClampNeg s1) s2) fun μ8z => (if x4 = 0 then (f_Ma_prepare_B136 N k47 x2 x2 x2 (if ((x3 >>> (x2 &&& 31)) &&& 1) = 1 then (1 : Int32) else 0) μ8z)
    else (f_Ma_prepare_B139 N k47 x2 x2 0 μ8z)))
def f_Ma_prepare_B82 (N : Nat) (k47 : Int32 → MM → Option MM) (x2 : Int32) (x3 : Int32) (s0 : Int32) (μ : MM) : Option MM :=
  f_Ma_prepare_B105 N k47 x2 x3 s0 x2 (if s0 = 0 then (x3 &&& (((1 : Int32) <<< (x2 &&& 31)) ^^^ (-1))) else 0) μ
def f_Ma_prepare_L47 (N : Nat) : Nat → Int32 → MM → Option MM
  | 0, _, _ => none
  | n + 1, x2, μ =>
    if (μ.1 23 1) ≤ x2 then (f_Ma_prepare_L148 N N 0 μ)
    else (ob (f_Wo_named N 28 x2 2 μ) fun t61 μ7z => (f_Ma_prepare_B82 N (f_Ma_prepare_L47 N n) x2 t61 (if (t61 >>> ((μ7z.1 23 1) &&& 31)) = 0 then (0 : Int32) else 1) μ7z))
def f_Ma_prepare_L2 (N : Nat) : Nat → Int32 → MM → Option MM
  | 0, _, _ => none
  | n + 1, x1, μ =>
    if (μ.1 23 0) ≤ x1 then (obv (f_Ma_sortByPrice N μ) fun μ1z => (f_Ma_prepare_L47 N N 0 μ1z))
    else (ob (f_Ma_alikeThings N x1 μ) fun t20 μ11z => (gd (inb x1 8) (wr (mm_I μ11z 334 (Int32.toNatClampNeg x1) t20) fun μ12z => (f_Ma_prepare_L2 N n (x1 + 1) μ12z))))
def f_Ma_prepare (N : Nat) (μ : MM) : Option MM :=
  f_Ma_prepare_L2 N N 0 μ
def f_Ma_leastPrices_L8 (N : Nat) : Nat → Int32 → Int32 → Int32 → Int32 → Int32 → MM → Option (Int32 × MM)
  | 0, _, _, _, _, _, _ => none
  | n + 1, x1, x2, x3, x4, x5, μ =>
    if (μ.1 23 0) ≤ x5 then (some (x3, μ))
    else (if x2 ≤ x4 then (some (x3, μ))
    else (gd (inb x5 8) (if ((x1 >>> ((μ.1 335 (Int32.toNatClampNeg x5)) &&& 31)) &&& 1) = 0 then (gd (inb x5 8) (gd (inb (μ.1 335 (Int32.toNatClampNeg x5)) 8) (f_Ma_leastPrices_L8 N n x1 x2 (x3 + (μ.1 24 (Int32.toNatClampNeg (μ.1 335 (Int32.toNatClampNeg x5))))) (x4 + 1) (x5 + 1) μ)))
    else (f_Ma_leastPrices_L8 N n x1 x2 x3 x4 (x5 + 1) μ))))
def f_Ma_leastPrices (N : Nat) (x1 : Int32) (x2 : Int32) (μ : MM) : Option (Int32 × MM) :=
  f_Ma_leastPrices_L8 N N x1 x2 0 0 0 μ
def f_Ma_agrees_B89 (N : Nat) (k13 : Int32 → Int32 → Int32 → MM → Option (Int32 × MM)) (x1 : Int32) (x2 : Int32) (x3 : Int32) (x4 : Int32) (μ : MM) : Option (Int32 × MM) :=
  if x2 = (-1) then (some (0, μ))
    else (if x4 = (-1) then (some (0, μ))
    else (gd (inb x2 8) (if (((μ.1 334 (Int32.toNatClampNeg x2)) >>> (x4 &&& 31)) &&& 1) = 0 then (some (0, μ))
    else (k13 x1 x2 (x3 + 1) μ))))
def f_Ma_agrees_B77 (N : Nat) (k13 : Int32 → Int32 → Int32 → MM → Option (Int32 × MM)) (x1 : Int32) (x2 : Int32) (x3 : Int32) (x4 : Int32) (x5 : Int32) (s0 : Int32) (μ : MM) : Option (Int32 × MM) :=
  if x5 = 0 then (if s0 = 0 then (k13 x1 x2 (x3 + 1) μ)
    else (f_Ma_agrees_B89 N k13 x1 x2 x3 x4 μ))
    else (f_Ma_agrees_B89 N k13 x1 x2 x3 x4 μ)
def f_Ma_agrees_B76 (N : Nat) (k13 : Int32 → Int32 → Int32 → MM → Option (Int32 × MM)) (x1 : Int32) (x2 : Int32) (x3 : Int32) (x4 : Int32) (x5 : Int32) (μ : MM) : Option (Int32 × MM) :=
  f_Ma_agrees_B77 N k13 x1 x2 x3 x4 x5 0 μ
def f_Ma_agrees_B50 (N : Nat) (k13 : Int32 → Int32 → Int32 → MM → Option (Int32 × MM)) (x1 : Int32) (x2 : Int32) (x3 : Int32) (x4 : Int32) (s0 : Int32) (μ : MM) : Option (Int32 × MM) :=
  if x4 = (-1) then (f_Ma_agrees_B76 N k13 x1 x2 x3 x4 s0 μ)
    else (gd (inb x3 6) (if (((μ.1 336 (Int32.toNatClampNeg x3)) >>> (x1 &&& 31)) &&& 1) = 1 then (f_Ma_agrees_B77 N k13 x1 x2 x3 x4 s0 1 μ)
    else (f_Ma_agrees_B76 N k13 x1 x2 x3 x4 s0 μ)))
def f_Ma_agrees_B49 (N : Nat) (k13 : Int32 → Int32 → Int32 → MM → Option (Int32 × MM)) (x1 : Int32) (x2 : Int32) (x3 : Int32) (x4 : Int32) (μ : MM) : Option (Int32 × MM) :=
  f_Ma_agrees_B50 N k13 x1 x2 x3 x4 0 μ
def f_Ma_agrees_L13 (N : Nat) : Nat → Int32 → Int32 → Int32 → MM → Option (Int32 × MM)
  | 0, _, _, _, _ => none
  | n + 1, x1, x2, x3, μ =>
    if x1 ≤ x3 then (some (1, μ))
    else (gd (inb x3 6) (if x2 = (-1) then (f_Ma_agrees_B49 N (f_Ma_agrees_L13 N n) x1 x2 x3 (μ.1 340 (Int32.toNatClampNeg x3)) μ)
    else (gd (inb x1 6) (if (((μ.1 336 (Int32.toNatClampNeg x1)) >>> (x3 &&& 31)) &&& 1) = 1 then (f_Ma_agrees_B50 N (f_Ma_agrees_L13 N n) x1 x2 x3 (μ.1 340 (Int32.toNatClampNeg x3)) 1 μ)
    else (f_Ma_agrees_B49 N (f_Ma_agrees_L13 N n) x1 x2 x3 (μ.1 340 (Int32.toNatClampNeg x3)) μ)))))
def f_Ma_agrees (N : Nat) (x1 : Int32) (x2 : Int32) (μ : MM) : Option (Int32 × MM) :=
  gd (inb x1 6) (if (μ.1 337 (Int32.toNatClampNeg x1)) = 0 then (some (1, μ))
    else (f_Ma_agrees_L13 N N x1 x2 0 μ))
def f_Ma_search_L107 (N : Nat) (rc_X6_search : Int32 → Int32 → Int32 → Int32 → Int32 → MM → Option MM) : Nat → Int32 → Int32 → Int32 → Int32 → Int32 → Int32 → Int32 → MM → Option MM
  | 0, _, _, _, _, _, _, _, _ => none
  | n + 1, x1, x2, x3, x4, x5, x7, x8, μ =>
    if (μ.1 23 0) ≤ x8 then (ob (f_Ma_agrees N x1 (-1) μ) fun t194 μ1z => (if t194 = 0 then (some μ1z)
    else (gd (inb x1 6) (wr (mm_I μ1z 340 (Int32.toNatClampNeg x1) (-1)) fun μ2z => (obv (rc_X6_search (x1 + 1) x2 x3 x4 ((x5 * 10) + 9) μ2z) fun μ3z => (some μ3z))))))
    else (if ((x7 >>> (x8 &&& 31)) &&& 1) = 1 then (ob (f_Ma_agrees N x1 x8 μ) fun t134 μ4z => (if t134 = 0 then (f_Ma_search_L107 N rc_X6_search n x1 x2 x3 x4 x5 x7 (x8 + 1) μ4z)
    else (gd (inb x1 6) (wr (mm_I μ4z 340 (Int32.toNatClampNeg x1) x8) fun μ5z => (gd (inb x8 8) (obv (rc_X6_search (x1 + 1) (x2 ||| ((1 : Int32) <<< (x8 &&& 31))) (x3 + 1) (x4 + (μ5z.1 24 (Int32.toNatClampNeg x8))) ((x5 * 10) + x8) μ5z) fun μ6z => (f_Ma_search_L107 N rc_X6_search n x1 x2 x3 x4 x5 x7 (x8 + 1) μ6z)))))))
    else (f_Ma_search_L107 N rc_X6_search n x1 x2 x3 x4 x5 x7 (x8 + 1) μ))
def f_Ma_search_B63 (N : Nat) (rc_X6_search : Int32 → Int32 → Int32 → Int32 → Int32 → MM → Option MM) (x1 : Int32) (x2 : Int32) (x3 : Int32) (x4 : Int32) (x5 : Int32) (μ : MM) : Option MM :=
  if x1 < (μ.1 23 1) then (gd (inb x1 6) (f_Ma_search_L107 N rc_X6_search N x1 x2 x3 x4 x5 ((μ.1 338 (Int32.toNatClampNeg x1)) &&& (x2 ^^^ (-1))) 0 μ))
    else (wr (mm_I μ 333 0 x3) fun μ7z => (wr (mm_I μ7z 333 1 x4) fun μ8z => (wr (mm_I μ8z 333 2 x5) fun μ9z => (some μ9z))))
def f_Ma_search_B23 (N : Nat) (rc_X6_search : Int32 → Int32 → Int32 → Int32 → Int32 → MM → Option MM) (x1 : Int32) (x2 : Int32) (x3 : Int32) (x4 : Int32) (x5 : Int32) (s0 : Int32) (μ : MM) : Option MM :=
  if s0 < (μ.1 333 0) then (some μ)
    else (if s0 = (μ.1 333 0) then (ob (f_Ma_leastPrices N x2 (s0 - x3) μ) fun t51 μ10z => (if (x4 + t51) < (μ10z.1 333 1) then (f_Ma_search_B63 N rc_X6_search x1 x2 x3 x4 x5 μ10z)
    else (some μ10z)))
    else (f_Ma_search_B63 N rc_X6_search x1 x2 x3 x4 x5 μ))
def f_Ma_search_body (N : Nat) (rc_X6_search : Int32 → Int32 → Int32 → Int32 → Int32 → MM → Option MM) (x1 : Int32) (x2 : Int32) (x3 : Int32) (x4 : Int32) (x5 : Int32) (μ : MM) : Option MM :=
  if x1 ≤ (μ.1 23 1) then (gd (inb x1 7) (f_Ma_search_B23 N rc_X6_search x1 x2 x3 x4 x5 (x3 + (μ.1 339 (Int32.toNatClampNeg x1))) μ))
    else (f_Ma_search_B23 N rc_X6_search x1 x2 x3 x4 x5 (-1) μ)
def f_Ma_search_t (N : Nat) : Nat → Int32 → Int32 → Int32 → Int32 → Int32 → MM → Option MM
  | 0, _, _, _, _, _, _ => none
  | t + 1, x1, x2, x3, x4, x5, μ => f_Ma_search_body N (fun x1 x2 x3 x4 x5 μ => f_Ma_search_t N t x1 x2 x3 x4 x5 μ) x1 x2 x3 x4 x5 μ
def f_Ma_search (N : Nat) (x1 : Int32) (x2 : Int32) (x3 : Int32) (x4 : Int32) (x5 : Int32) (μ : MM) : Option MM := f_Ma_search_t N 12 x1 x2 x3 x4 x5 μ
def f_Ma_findBest (N : Nat) (μ : MM) : Option MM :=
  obv (f_Ma_prepare N μ) fun μ1z => (wr (mm_I μ1z 333 0 (-1)) fun μ2z => (wr (mm_I μ2z 333 1 0) fun μ3z => (wr (mm_I μ3z 333 2 0) fun μ4z => (obv (f_Ma_search N 0 0 0 0 0 μ4z) fun μ5z => (some μ5z)))))
def f_In_bitCount_0f7a4 (N : Nat) (x0 : Int32) (μ : MM) : Option (Int32 × MM) :=
  some (((((((((x0 - ((Int32.toUInt32 x0 >>> (Int32.toUInt32 1 &&& Int32.toUInt32 31)).toInt32 &&& 1431655765)) &&& 858993459) + ((Int32.toUInt32 (x0 - ((Int32.toUInt32 x0 >>> (Int32.toUInt32 1 &&& Int32.toUInt32 31)).toInt32 &&& 1431655765)) >>> (Int32.toUInt32 2 &&& Int32.toUInt32 31)).toInt32 &&& 858993459)) + (Int32.toUInt32 (((x0 - ((Int32.toUInt32 x0 >>> (Int32.toUInt32 1 &&& Int32.toUInt32 31)).toInt32 &&& 1431655765)) &&& 858993459) + ((Int32.toUInt32 (x0 - ((Int32.toUInt32 x0 >>> (Int32.toUInt32 1 &&& Int32.toUInt32 31)).toInt32 &&& 1431655765)) >>> (Int32.toUInt32 2 &&& Int32.toUInt32 31)).toInt32 &&& 858993459)) >>> (Int32.toUInt32 4 &&& Int32.toUInt32 31)).toInt32) &&& 252645135) + (Int32.toUInt32 (((((x0 - ((Int32.toUInt32 x0 >>> (Int32.toUInt32 1 &&& Int32.toUInt32 31)).toInt32 &&& 1431655765)) &&& 858993459) + ((Int32.toUInt32 (x0 - ((Int32.toUInt32 x0 >>> (Int32.toUInt32 1 &&& Int32.toUInt32 31)).toInt32 &&& 1431655765)) >>> (Int32.toUInt32 2 &&& Int32.toUInt32 31)).toInt32 &&& 858993459)) + (Int32.toUInt32 (((x0 - ((Int32.toUInt32 x0 >>> (Int32.toUInt32 1 &&& Int32.toUInt32 31)).toInt32 &&& 1431655765)) &&& 858993459) + ((Int32.toUInt32 (x0 - ((Int32.toUInt32 x0 >>> (Int32.toUInt32 1 &&& Int32.toUInt32 31)).toInt32 &&& 1431655765)) >>> (Int32.toUInt32 2 &&& Int32.toUInt32 31)).toInt32 &&& 858993459)) >>> (Int32.toUInt32 4 &&& Int32.toUInt32 31)).toInt32) &&& 252645135) >>> (Int32.toUInt32 8 &&& Int32.toUInt32 31)).toInt32) + (Int32.toUInt32 ((((((x0 - ((Int32.toUInt32 x0 >>> (Int32.toUInt32 1 &&& Int32.toUInt32 31)).toInt32 &&& 1431655765)) &&& 858993459) + ((Int32.toUInt32 (x0 - ((Int32.toUInt32 x0 >>> (Int32.toUInt32 1 &&& Int32.toUInt32 31)).toInt32 &&& 1431655765)) >>> (Int32.toUInt32 2 &&& Int32.toUInt32 31)).toInt32 &&& 858993459)) + (Int32.toUInt32 (((x0 - ((Int32.toUInt32 x0 >>> (Int32.toUInt32 1 &&& Int32.toUInt32 31)).toInt32 &&& 1431655765)) &&& 858993459) + ((Int32.toUInt32 (x0 - ((Int32.toUInt32 x0 >>> (Int32.toUInt32 1 &&& Int32.toUInt32 31)).toInt32 &&& 1431655765)) >>> (Int32.toUInt32 2 &&& Int32.toUInt32 31)).toInt32 &&& 858993459)) >>> (Int32.toUInt32 4 &&& Int32.toUInt32 31)).toInt32) &&& 252645135) + (Int32.toUInt32 (((((x0 - ((Int32.toUInt32 x0 >>> (Int32.toUInt32 1 &&& Int32.toUInt32 31)).toInt32 &&& 1431655765)) &&& 858993459) + ((Int32.toUInt32 (x0 - ((Int32.toUInt32 x0 >>> (Int32.toUInt32 1 &&& Int32.toUInt32 31)).toInt32 &&& 1431655765)) >>> (Int32.toUInt32 2 &&& Int32.toUInt32 31)).toInt32 &&& 858993459)) + (Int32.toUInt32 (((x0 - ((Int32.toUInt32 x0 >>> (Int32.toUInt32 1 &&& Int32.toUInt32 31)).toInt32 &&& 1431655765)) &&& 858993459) + ((Int32.toUInt32 (x0 - ((Int32.toUInt32 x0 >>> (Int32.toUInt32 1 &&& Int32.toUInt32 31)).toInt32 &&& 1431655765)) >>> (Int32.toUInt32 2 &&& Int32.toUInt32 31)).toInt32 &&& 858993459)) >>> (Int32.toUInt32 4 &&& Int32.toUInt32 31)).toInt32) &&& 252645135) >>> (Int32.toUInt32 8 &&& Int32.toUInt32 31)).toInt32) >>> (Int32.toUInt32 16 &&& Int32.toUInt32 31)).toInt32) &&& 63), μ)
def f_Ma_canAll_L70 (N : Nat) (rc_X6_canAll : Int32 → Int32 → Int32 → MM → Option (Int32 × MM)) : Nat → Int32 → Int32 → Int32 → Int32 → Int32 → MM → Option (Int32 × MM)
  | 0, _, _, _, _, _, _ => none
  | n + 1, x1, x2, x3, x4, x5, μ =>
    if (μ.1 23 0) ≤ x5 then (some (0, μ))
    else (if ((x4 >>> (x5 &&& 31)) &&& 1) = 1 then (ob (f_Ma_agrees N x1 x5 μ) fun t97 μ1z => (if t97 = 0 then (f_Ma_canAll_L70 N rc_X6_canAll n x1 x2 x3 x4 (x5 + 1) μ1z)
    else (gd (inb x1 6) (wr (mm_I μ1z 340 (Int32.toNatClampNeg x1) x5) fun μ2z => (ob (rc_X6_canAll (x1 + 1) x2 (x3 ||| ((1 : Int32) <<< (x5 &&& 31))) μ2z) fun t122 μ3z => (if t122 = 0 then (f_Ma_canAll_L70 N rc_X6_canAll n x1 x2 x3 x4 (x5 + 1) μ3z)
    else (some (1, μ3z))))))))
    else (f_Ma_canAll_L70 N rc_X6_canAll n x1 x2 x3 x4 (x5 + 1) μ))
def f_Ma_canAll_body (N : Nat) (rc_X6_canAll : Int32 → Int32 → Int32 → MM → Option (Int32 × MM)) (x1 : Int32) (x2 : Int32) (x3 : Int32) (μ : MM) : Option (Int32 × MM) :=
  if x1 < (μ.1 23 1) then (if ((x2 >>> (x1 &&& 31)) &&& 1) = 0 then (gd (inb x1 6) (wr (mm_I μ 340 (Int32.toNatClampNeg x1) (-1)) fun μ4z => (ob (f_Ma_agrees N x1 (-1) μ4z) fun t31 μ5z => (if t31 = 0 then (some (0, μ5z))
    else (ob (rc_X6_canAll (x1 + 1) x2 x3 μ5z) fun t43 μ6z => (if t43 = 0 then (some (0, μ6z))
    else (some (1, μ6z))))))))
    else (gd (inb x1 6) (f_Ma_canAll_L70 N rc_X6_canAll N x1 x2 x3 ((μ.1 338 (Int32.toNatClampNeg x1)) &&& (x3 ^^^ (-1))) 0 μ)))
    else (some (1, μ))
def f_Ma_canAll_t (N : Nat) : Nat → Int32 → Int32 → Int32 → MM → Option (Int32 × MM)
  | 0, _, _, _, _ => none
  | t + 1, x1, x2, x3, μ => f_Ma_canAll_body N (fun x1 x2 x3 μ => f_Ma_canAll_t N t x1 x2 x3 μ) x1 x2 x3 μ
def f_Ma_canAll (N : Nat) (x1 : Int32) (x2 : Int32) (x3 : Int32) (μ : MM) : Option (Int32 × MM) := f_Ma_canAll_t N 12 x1 x2 x3 μ
def f_Ma_leastClash_B37 (N : Nat) (k8 : Int32 → Int32 → MM → Option (Int32 × MM)) (x1 : Int32) (x2 : Int32) (μ : MM) : Option (Int32 × MM) :=
  ob (f_Ma_canAll N 0 x2 0 μ) fun t41 μ2z => (k8 (if t41 = 0 then x2 else x1) (x2 + 1) μ2z)
def f_Ma_leastClash_L8 (N : Nat) : Nat → Int32 → Int32 → MM → Option (Int32 × MM)
  | 0, _, _, _ => none
  | n + 1, x1, x2, μ =>
    if ((1 : Int32) <<< ((μ.1 23 1) &&& 31)) ≤ x2 then (some (x1, μ))
    else (if x1 = (-1) then (f_Ma_leastClash_B37 N (f_Ma_leastClash_L8 N n) x1 x2 μ)
    else (ob (f_In_bitCount_0f7a4 N x2 μ) fun t27 μ3z => (ob (f_In_bitCount_0f7a4 N x1 μ3z) fun t31 μ4z => (if t31 ≤ t27 then (f_Ma_leastClash_L8 N n x1 (x2 + 1) μ4z)
    else (f_Ma_leastClash_B37 N (f_Ma_leastClash_L8 N n) x1 x2 μ4z)))))
def f_Ma_leastClash (N : Nat) (μ : MM) : Option (Int32 × MM) :=
  obv (f_Ma_prepare N μ) fun μ1z => (f_Ma_leastClash_L8 N N (-1) 1 μ1z)
def f_Ta_solidBytes_L5 (N : Nat) : Nat → Int32 → Int32 → Int32 → MM → Option (Int32 × MM)
  | 0, _, _, _, _ => none
  | n + 1, x1, x2, x3, μ =>
    if x3 < 0 then (some (x2, μ))
    else (f_Ta_solidBytes_L5 N n x1 (if ((Int32.toUInt32 x1 >>> (Int32.toUInt32 x3 &&& Int32.toUInt32 31)).toInt32 &&& 255) = 0 then x2 else (x2 + 1)) (x3 + (-8)) μ)
def f_Ta_solidBytes (N : Nat) (x1 : Int32) (μ : MM) : Option (Int32 × MM) :=
  f_Ta_solidBytes_L5 N N x1 0 24 μ
def f_Ta_append_L3 (N : Nat) : Nat → Int32 → Int32 → MM → Option MM
  | 0, _, _, _ => none
  | n + 1, x1, x2, μ =>
    if x2 < 0 then (some μ)
    else (if ((Int32.toUInt32 x1 >>> (Int32.toUInt32 x2 &&& Int32.toUInt32 31)).toInt32 &&& 255) = 0 then (f_Ta_append_L3 N n x1 (x2 + (-8)) μ)
    else (if 240 ≤ (μ.1 1 1) then (f_Ta_append_L3 N n x1 (x2 + (-8)) μ)
    else (gd (inb (μ.1 1 1) 240) (wr (mm_I μ 2 (Int32.toNatClampNeg (μ.1 1 1)) ((Int32.toUInt32 x1 >>> (Int32.toUInt32 x2 &&& Int32.toUInt32 31)).toInt32 &&& 255)) fun μ1z => (wr (mm_I μ1z 1 1 ((μ1z.1 1 1) + 1)) fun μ2z => (f_Ta_append_L3 N n x1 (x2 + (-8)) μ2z))))))
def f_Ta_append (N : Nat) (x1 : Int32) (μ : MM) : Option MM :=
  f_Ta_append_L3 N N x1 24 μ
def f_Tr_readAbout_B25 (N : Nat) (x2 : Int32) (s0 : Int32) (μ : MM) : Option (Int32 × MM) :=
  ob (f_Ta_peek N μ) fun t30 μ1z => (if t30 < x2 then (some ((-1), μ1z))
    else (if t30 ≤ s0 then (obv (f_Ta_step N μ1z) fun μ2z => (some ((t30 - x2), μ2z)))
    else (some ((-1), μ1z))))
def f_Tr_readAbout_B12 (N : Nat) (x1 : Int32) (s0 : Int32) (μ : MM) : Option (Int32 × MM) :=
  f_Tr_readAbout_B25 N s0 (if x1 = 2 then (57 : Int32) else 102) μ
def f_Tr_readAbout (N : Nat) (x1 : Int32) (μ : MM) : Option (Int32 × MM) :=
  f_Tr_readAbout_B12 N x1 (if x1 = 2 then (48 : Int32) else 97) μ
def f_Wo_add (N : Nat) (w : Nat) (x1 : Int32) (x2 : Int32) (x3 : Int32) (x4 : Int32) (μ : MM) : Option (Int32 × MM) :=
  if x1 < 0 then (some (0, μ))
    else (if (Int32.ofNat (sh_n (w + 1))) ≤ x1 then (some (0, μ))
    else (gd (inb x1 (sh_n (w + 1))) (if (μ.1 (w + 1) (Int32.toNatClampNeg x1)) < 6 then (gd (inb x1 (sh_n (w + 1))) (gd (inb ((x1 * 6) + (μ.1 (w + 1) (Int32.toNatClampNeg x1))) (sh_n (w + 2))) (wr (mm_I μ (w + 2) (Int32.toNatClampNeg ((x1 * 6) + (μ.1 (w + 1) (Int32.toNatClampNeg x1)))) x2) fun μ1z => (gd (inb ((x1 * 6) + (μ.1 (w + 1) (Int32.toNatClampNeg x1))) (sh_n (w + 3))) (wr (mm_I μ1z (w + 3) (Int32.toNatClampNeg ((x1 * 6) + (μ.1 (w + 1) (Int32.toNatClampNeg x1)))) x3) fun μ2z => (gd (inb ((x1 * 6) + (μ.1 (w + 1) (Int32.toNatClampNeg x1))) (sh_n (w + 4))) (wr (mm_I μ2z (w + 4) (Int32.toNatClampNeg ((x1 * 6) + (μ.1 (w + 1) (Int32.toNatClampNeg x1)))) x4) fun μ3z => (gd (inb x1 (sh_n (w + 1))) (gd (inb x1 (sh_n (w + 1))) (wr (mm_I μ3z (w + 1) (Int32.toNatClampNeg x1) ((μ3z.1 (w + 1) (Int32.toNatClampNeg x1)) + 1)) fun μ4z => (some (1, μ4z))))))))))))
    else (some (0, μ)))))
def f_Tr_readWords_B95 (N : Nat) (q1 : Nat) (k3 : Int32 → Int32 → Int32 → MM → Option (Int32 × MM)) (x2 : Int32) (x3 : Int32) (x4 : Int32) (x6 : Int32) (μ : MM) : Option (Int32 × MM) :=
  ob (f_Tr_readAbout N x6 μ) fun t98 μ2z => (if t98 = (-1) then (some (0, μ2z))
    else (ob (f_Wo_add N q1 x2 x6 t98 x3 μ2z) fun t116 μ3z => (if t116 = 0 then (some (0, μ3z))
    else (k3 x2 x3 (x4 + 1) μ3z))))
def f_Tr_readWords_B74 (N : Nat) (q1 : Nat) (k3 : Int32 → Int32 → Int32 → MM → Option (Int32 × MM)) (x2 : Int32) (x3 : Int32) (x4 : Int32) (x6 : Int32) (μ : MM) : Option (Int32 × MM) :=
  if x4 = 6 then (some (0, μ))
    else (if x6 = 0 then (f_Tr_readWords_B95 N q1 k3 x2 x3 x4 x6 μ)
    else (obv (f_Ta_step N μ) fun μ4z => (f_Tr_readWords_B95 N q1 k3 x2 x3 x4 x6 μ4z)))
def f_Tr_readWords_B63 (N : Nat) (q1 : Nat) (x4 : Int32) (μ : MM) : Option (Int32 × MM) :=
  gd (zb (if x4 ≤ 0 then (0 : Int32) else 1)) (some ((if x4 ≤ 0 then (0 : Int32) else 1), μ))
def f_Tr_readWords_B42 (N : Nat) (q1 : Nat) (k3 : Int32 → Int32 → Int32 → MM → Option (Int32 × MM)) (x2 : Int32) (x3 : Int32) (x4 : Int32) (x5 : Int32) (s0 : Int32) (μ : MM) : Option (Int32 × MM) :=
  if s0 = 0 then (if x5 < 97 then (f_Tr_readWords_B63 N q1 x4 μ)
    else (if x5 ≤ 102 then (f_Tr_readWords_B74 N q1 k3 x2 x3 x4 s0 μ)
    else (f_Tr_readWords_B63 N q1 x4 μ)))
    else (f_Tr_readWords_B74 N q1 k3 x2 x3 x4 s0 μ)
def f_Tr_readWords_L3 (N : Nat) (q1 : Nat) : Nat → Int32 → Int32 → Int32 → MM → Option (Int32 × MM)
  | 0, _, _, _, _ => none
  | n + 1, x2, x3, x4, μ =>
    if 6 < x4 then (some (0, μ))
    else (ob (f_Ta_peek N μ) fun t14 μ1z => (f_Tr_readWords_B42 N q1 (f_Tr_readWords_L3 N q1 n) x2 x3 x4 t14 (if t14 = 62 then (2 : Int32) else (if t14 = 45 then (1 : Int32) else 0)) μ1z))
def f_Tr_readWords (N : Nat) (q1 : Nat) (x2 : Int32) (x3 : Int32) (μ : MM) : Option (Int32 × MM) :=
  f_Tr_readWords_L3 N q1 N x2 x3 0 μ
def f_Tr_readReading (N : Nat) (μ : MM) : Option (Int32 × MM) :=
  obv (f_Ta_rewind N μ) fun μ1z => (wr (mm_I μ1z 16 0 0) fun μ2z => (ob (f_Tr_readWords N 15 0 9 μ2z) fun t25 μ3z => (if t25 = 0 then (some (0, μ3z))
    else (ob (f_Ta_peek N μ3z) fun t35 μ4z => (if t35 = (-1) then (some (1, μ4z))
    else (some (0, μ4z)))))))
def f_Tr_readItems_B62 (N : Nat) (q1 : Nat) (q2 : Nat) (q3 : Nat) (q4 : Nat) (k26 : Int32 → Int32 → MM → Option (Int32 × MM)) (x5 : Int32) (x6 : Int32) (s0 : Int32) (μ : MM) : Option (Int32 × MM) :=
  if s0 < 0 then (some (1, μ))
    else (if (Int32.ofNat (sh_n q3)) ≤ s0 then (some (1, μ))
    else (if (Int32.ofNat (sh_n q4)) ≤ s0 then (some (1, μ))
    else (if s0 < 3 then (if ((x5 >>> (s0 &&& 31)) &&& 1) = 1 then (some (0, μ))
    else (obv (f_Ta_step N μ) fun μ4z => (ob (f_Ta_peek N μ4z) fun t129 μ5z => (gd (inb s0 (sh_n q3)) (gd (inb s0 (sh_n q4)) (ob (f_Ta_readNumber N 2 (ro_I q3 (Int32.toNatClampNeg s0)) (ro_I q4 (Int32.toNatClampNeg s0)) μ5z) fun t147 μ6z => (if t147 = (-1) then (some (0, μ6z))
    else (gd (inb s0 3) (wr (mm_I μ6z 20 (Int32.toNatClampNeg s0) t147) fun μ7z => (k26 (x5 ||| ((1 : Int32) <<< (s0 &&& 31))) (x6 + 1) μ7z))))))))))
    else (some (1, μ)))))
def f_Tr_readItems_L26 (N : Nat) (q1 : Nat) (q2 : Nat) (q3 : Nat) (q4 : Nat) : Nat → Int32 → Int32 → MM → Option (Int32 × MM)
  | 0, _, _, _ => none
  | n + 1, x5, x6, μ =>
    if 3 < x6 then (some (1, μ))
    else (ob (f_Ta_peek N μ) fun t40 μ2z => (if t40 = (-1) then (f_Tr_readItems_B62 N q1 q2 q3 q4 (f_Tr_readItems_L26 N q1 q2 q3 q4 n) x5 x6 (-1) μ2z)
    else (ob (f_St_indexOf_0f7a4 N q1 ((Int32.toUInt32 t40 % 65536).toInt32) μ2z) fun t59 μ3z => (f_Tr_readItems_B62 N q1 q2 q3 q4 (f_Tr_readItems_L26 N q1 q2 q3 q4 n) x5 x6 t59 μ3z))))
def f_Tr_readItems (N : Nat) (q1 : Nat) (q2 : Nat) (q3 : Nat) (q4 : Nat) (μ : MM) : Option (Int32 × MM) :=
  gd (cpb 0 0 (if (3 : Int32) < (Int32.ofNat (sh_n q2)) then (3 : Int32) else (Int32.ofNat (sh_n q2))) (sh_n q2) 3) (wr (mm_F μ 20 (va_cpy (ro_I q2) (μ.1 20) (Int32.toNatClampNeg 0) (Int32.toNatClampNeg 0) (Int32.toNatClampNeg (if (3 : Int32) < (Int32.ofNat (sh_n q2)) then (3 : Int32) else (Int32.ofNat (sh_n q2)))))) fun μ1z => (f_Tr_readItems_L26 N q1 q2 q3 q4 N 0 0 μ1z))
def f_Tr_readRules (N : Nat) (μ : MM) : Option (Int32 × MM) :=
  wr (mm_I μ 3 4 1) fun μ1z => (ob (f_Tr_readItems N 2001 1000 1001 1002 μ1z) fun t17 μ2z => (if t17 = 0 then (some (0, μ2z))
    else (wr (mm_I μ2z 8 2 (μ2z.1 20 0)) fun μ3z => (wr (mm_I μ3z 8 3 (μ3z.1 20 1)) fun μ4z => (some (1, μ4z))))))
def f_Tr_readMarks_L4 (N : Nat) : Nat → Int32 → Int32 → MM → Option (Int32 × MM)
  | 0, _, _, _ => none
  | n + 1, x1, x2, μ =>
    if 6 < x2 then (some ((-1), μ))
    else (ob (f_Ta_peek N μ) fun t14 μ1z => (if t14 < 97 then (some (x1, μ1z))
    else (if t14 ≤ 102 then (if (x1 &&& ((1 : Int32) <<< ((t14 - 97) &&& 31))) = 0 then (obv (f_Ta_step N μ1z) fun μ2z => (f_Tr_readMarks_L4 N n (x1 ||| ((1 : Int32) <<< ((t14 - 97) &&& 31))) (x2 + 1) μ2z))
    else (some ((-1), μ1z)))
    else (some (x1, μ1z)))))
def f_Tr_readMarks (N : Nat) (μ : MM) : Option (Int32 × MM) :=
  f_Tr_readMarks_L4 N N 0 0 μ
def f_Tr_readThing (N : Nat) (μ : MM) : Option (Int32 × MM) :=
  ob (f_Tr_readItems N 2002 1003 1004 1005 μ) fun t12 μ1z => (if t12 = 0 then (some (0, μ1z))
    else (ob (f_Ta_accept N 58 μ1z) fun t24 μ2z => (if t24 = 0 then (some (0, μ2z))
    else (ob (f_Tr_readMarks N μ2z) fun t33 μ3z => (if t33 = (-1) then (some (0, μ3z))
    else (gd (inb (μ3z.1 4 0) 8) (wr (mm_I μ3z 5 (Int32.toNatClampNeg (μ3z.1 4 0)) (μ3z.1 20 0)) fun μ4z => (gd (inb (μ4z.1 4 0) 8) (wr (mm_I μ4z 6 (Int32.toNatClampNeg (μ4z.1 4 0)) t33) fun μ5z => (wr (mm_I μ5z 4 0 ((μ5z.1 4 0) + 1)) fun μ6z => (some (1, μ6z))))))))))))
def f_Tr_readCard_B87 (N : Nat) (x1 : Int32) (s1 : Int32) (s2 : Int32) (μ : MM) : Option (Int32 × MM) :=
  gd (inb s1 6) (wr (mm_I μ 14 (Int32.toNatClampNeg s1) s2) fun μ4z => (gd (inb x1 6) (wr (mm_I μ4z 10 (Int32.toNatClampNeg x1) 0) fun μ5z => (wr (mm_I μ5z 4 1 ((μ5z.1 4 1) + 1)) fun μ6z => (ob (f_Tr_readWords N 9 x1 (μ6z.1 20 0) μ6z) fun t135 μ7z => (gd (zb t135) (some (t135, μ7z))))))))
def f_Tr_readCard (N : Nat) (μ : MM) : Option (Int32 × MM) :=
  ob (f_Tr_readItems N 2003 1006 1007 1008 μ) fun t12 μ1z => (if t12 = 0 then (some (0, μ1z))
    else (ob (f_Ta_accept N 58 μ1z) fun t24 μ2z => (if t24 = 0 then (some (0, μ2z))
    else (gd (inb (μ2z.1 4 1) 6) (wr (mm_I μ2z 7 (Int32.toNatClampNeg (μ2z.1 4 1)) (μ2z.1 20 1)) fun μ3z => (if (μ3z.1 20 2) = 8 then (f_Tr_readCard_B87 N (μ2z.1 4 1) (μ2z.1 4 1) (-1) μ3z)
    else (f_Tr_readCard_B87 N (μ2z.1 4 1) (μ2z.1 4 1) (μ3z.1 20 2) μ3z)))))))
def f_Tr_readClause_B63 (N : Nat) (x1 : Int32) (μ : MM) : Option (Int32 × MM) :=
  if x1 = 99 then (if 6 ≤ (μ.1 4 1) then (some (0, μ))
    else (obv (f_Ta_step N μ) fun μ2z => (ob (f_Tr_readCard N μ2z) fun t89 μ3z => (gd (zb t89) (some (t89, μ3z))))))
    else (some (0, μ))
def f_Tr_readClause_B33 (N : Nat) (x1 : Int32) (μ : MM) : Option (Int32 × MM) :=
  if x1 = 116 then (if 8 ≤ (μ.1 4 0) then (f_Tr_readClause_B63 N x1 μ)
    else (obv (f_Ta_step N μ) fun μ4z => (ob (f_Tr_readThing N μ4z) fun t59 μ5z => (gd (zb t59) (some (t59, μ5z))))))
    else (f_Tr_readClause_B63 N x1 μ)
def f_Tr_readClause (N : Nat) (μ : MM) : Option (Int32 × MM) :=
  ob (f_Ta_peek N μ) fun t4 μ1z => (if t4 = 115 then (if (μ1z.1 3 4) = 0 then (obv (f_Ta_step N μ1z) fun μ6z => (ob (f_Tr_readRules N μ6z) fun t29 μ7z => (gd (zb t29) (some (t29, μ7z)))))
    else (f_Tr_readClause_B33 N t4 μ1z))
    else (f_Tr_readClause_B33 N t4 μ1z))
def f_Tr_isWhole_L4 (N : Nat) : Nat → Int32 → Int32 → MM → Option (Int32 × MM)
  | 0, _, _, _ => none
  | n + 1, x1, x2, μ =>
    if (μ.1 4 1) ≤ x2 then (if (μ.1 4 0) ≤ 0 then (some (0, μ))
    else (if (μ.1 4 1) ≤ 0 then (some (0, μ))
    else (some (1, μ))))
    else (gd (inb x2 6) (if (μ.1 14 (Int32.toNatClampNeg x2)) = (-1) then (f_Tr_isWhole_L4 N n x1 (x2 + 1) μ)
    else (ob (f_Co_isThing N 4 (μ.1 14 (Int32.toNatClampNeg x2)) μ) fun t38 μ1z => (if t38 = 0 then (some (0, μ1z))
    else (if ((x1 >>> ((μ.1 14 (Int32.toNatClampNeg x2)) &&& 31)) &&& 1) = 1 then (some (0, μ1z))
    else (f_Tr_isWhole_L4 N n (x1 ||| ((1 : Int32) <<< ((μ.1 14 (Int32.toNatClampNeg x2)) &&& 31))) (x2 + 1) μ1z))))))
def f_Tr_isWhole (N : Nat) (μ : MM) : Option (Int32 × MM) :=
  f_Tr_isWhole_L4 N N 0 0 μ
def f_Tr_readCollection_L71 (N : Nat) : Nat → Int32 → MM → Option (Int32 × MM)
  | 0, _, _ => none
  | n + 1, x1, μ =>
    if 240 < x1 then (some (0, μ))
    else (ob (f_Tr_readClause N μ) fun t79 μ8z => (if t79 = 0 then (some (0, μ8z))
    else (ob (f_Ta_accept N 59 μ8z) fun t93 μ9z => (if t93 = 0 then (ob (f_Ta_peek N μ9z) fun t103 μ10z => (if t103 = (-1) then (ob (f_Tr_isWhole N μ10z) fun t111 μ11z => (if t111 = 0 then (some (0, μ11z))
    else (some (1, μ11z))))
    else (some (0, μ10z))))
    else (f_Tr_readCollection_L71 N n (x1 + 1) μ9z)))))
def f_Tr_readCollection (N : Nat) (μ : MM) : Option (Int32 × MM) :=
  obv (f_Ta_rewind N μ) fun μ1z => (wr (mm_I μ1z 3 4 0) fun μ2z => (wr (mm_I μ2z 4 0 0) fun μ3z => (wr (mm_I μ3z 4 1 0) fun μ4z => (wr (mm_I μ4z 8 2 (ro_I 1000 0)) fun μ5z => (wr (mm_I μ5z 8 3 (ro_I 1000 1)) fun μ6z => (wr (mm_I μ6z 8 4 0) fun μ7z => (f_Tr_readCollection_L71 N N 0 μ7z)))))))
def f_Wo_takeRow_L37 (N : Nat) (w : Nat) (q2 : Nat) : Nat → Int32 → Int32 → Int32 → MM → Option MM
  | 0, _, _, _, _ => none
  | n + 1, x1, x3, x4, μ =>
    gd (inb x3 (sh_n (q2 + 1))) (if (μ.1 (q2 + 1) (Int32.toNatClampNeg x3)) ≤ x4 then (some μ)
    else (gd (inb ((x3 * 6) + x4) (sh_n (q2 + 2))) (gd (inb ((x3 * 6) + x4) (sh_n (q2 + 3))) (ob (f_Wo_add N w x1 (μ.1 (q2 + 2) (Int32.toNatClampNeg ((x3 * 6) + x4))) (μ.1 (q2 + 3) (Int32.toNatClampNeg ((x3 * 6) + x4))) 9 μ) fun t75 μ2z => (f_Wo_takeRow_L37 N w q2 n x1 x3 (x4 + 1) μ2z)))))
def f_Wo_takeRow (N : Nat) (w : Nat) (q2 : Nat) (x1 : Int32) (x3 : Int32) (μ : MM) : Option MM :=
  if x1 < 0 then (some μ)
    else (if (Int32.ofNat (sh_n (w + 1))) ≤ x1 then (some μ)
    else (if x3 < 0 then (some μ)
    else (if x3 < (Int32.ofNat (sh_n (q2 + 1))) then (gd (inb x1 (sh_n (w + 1))) (wr (mm_I μ (w + 1) (Int32.toNatClampNeg x1) 0) fun μ1z => (f_Wo_takeRow_L37 N w q2 N x1 x3 0 μ1z)))
    else (some μ))))
def f_Wo_tell (N : Nat) (w : Nat) (x1 : Int32) (x2 : Int32) (x3 : Int32) (μ : MM) : Option (Int32 × MM) :=
  if x1 < 0 then (some ((-1), μ))
    else (if (Int32.ofNat (sh_n (w + 1))) ≤ x1 then (some ((-1), μ))
    else (if x2 < 0 then (some ((-1), μ))
    else (gd (inb x1 (sh_n (w + 1))) (if x2 < (μ.1 (w + 1) (Int32.toNatClampNeg x1)) then (if x3 = 0 then (gd (inb ((x1 * 6) + x2) (sh_n (w + 2))) (some ((μ.1 (w + 2) (Int32.toNatClampNeg ((x1 * 6) + x2))), μ)))
    else (if x3 = 1 then (gd (inb ((x1 * 6) + x2) (sh_n (w + 3))) (some ((μ.1 (w + 3) (Int32.toNatClampNeg ((x1 * 6) + x2))), μ)))
    else (if x3 = 2 then (gd (inb ((x1 * 6) + x2) (sh_n (w + 4))) (some ((μ.1 (w + 4) (Int32.toNatClampNeg ((x1 * 6) + x2))), μ)))
    else (some ((-1), μ)))))
    else (some ((-1), μ))))))
def f_Wo_freshen_L16 (N : Nat) (w : Nat) : Nat → Int32 → Int32 → MM → Option MM
  | 0, _, _, _ => none
  | n + 1, x1, x2, μ =>
    gd (inb x1 (sh_n (w + 1))) (if (μ.1 (w + 1) (Int32.toNatClampNeg x1)) ≤ x2 then (some μ)
    else (gd (inb ((x1 * 6) + x2) (sh_n (w + 4))) (if (μ.1 (w + 4) (Int32.toNatClampNeg ((x1 * 6) + x2))) ≤ 0 then (f_Wo_freshen_L16 N w n x1 (x2 + 1) μ)
    else (gd (inb ((x1 * 6) + x2) (sh_n (w + 4))) (wr (mm_I μ (w + 4) (Int32.toNatClampNeg ((x1 * 6) + x2)) 9) fun μ1z => (f_Wo_freshen_L16 N w n x1 (x2 + 1) μ1z))))))
def f_Wo_freshen (N : Nat) (w : Nat) (x1 : Int32) (μ : MM) : Option MM :=
  if x1 < 0 then (some μ)
    else (if x1 < (Int32.ofNat (sh_n (w + 1))) then (f_Wo_freshen_L16 N w N x1 0 μ)
    else (some μ))
def f_Wo_dim_L16 (N : Nat) (w : Nat) : Nat → Int32 → Int32 → MM → Option MM
  | 0, _, _, _ => none
  | n + 1, x1, x2, μ =>
    gd (inb x1 (sh_n (w + 1))) (if (μ.1 (w + 1) (Int32.toNatClampNeg x1)) ≤ x2 then (some μ)
    else (gd (inb ((x1 * 6) + x2) (sh_n (w + 4))) (if (μ.1 (w + 4) (Int32.toNatClampNeg ((x1 * 6) + x2))) ≤ 0 then (f_Wo_dim_L16 N w n x1 (x2 + 1) μ)
    else (gd (inb ((x1 * 6) + x2) (sh_n (w + 4))) (gd (inb ((x1 * 6) + x2) (sh_n (w + 4))) (wr (mm_I μ (w + 4) (Int32.toNatClampNeg ((x1 * 6) + x2)) ((μ.1 (w + 4) (Int32.toNatClampNeg ((x1 * 6) + x2))) - 1)) fun μ1z => (f_Wo_dim_L16 N w n x1 (x2 + 1) μ1z)))))))
def f_Wo_dim (N : Nat) (w : Nat) (x1 : Int32) (μ : MM) : Option MM :=
  if x1 < 0 then (some μ)
    else (if x1 < (Int32.ofNat (sh_n (w + 1))) then (f_Wo_dim_L16 N w N x1 0 μ)
    else (some μ))
def f_Wo_weakestInk_L19 (N : Nat) (w : Nat) : Nat → Int32 → Int32 → Int32 → MM → Option (Int32 × MM)
  | 0, _, _, _, _ => none
  | n + 1, x1, x2, x3, μ =>
    gd (inb x1 (sh_n (w + 1))) (if (μ.1 (w + 1) (Int32.toNatClampNeg x1)) ≤ x3 then (some (x2, μ))
    else (gd (inb ((x1 * 6) + x3) (sh_n (w + 4))) (if (μ.1 (w + 4) (Int32.toNatClampNeg ((x1 * 6) + x3))) ≤ 0 then (f_Wo_weakestInk_L19 N w n x1 x2 (x3 + 1) μ)
    else (if x2 = 0 then (f_Wo_weakestInk_L19 N w n x1 (μ.1 (w + 4) (Int32.toNatClampNeg ((x1 * 6) + x3))) (x3 + 1) μ)
    else (if x2 ≤ (μ.1 (w + 4) (Int32.toNatClampNeg ((x1 * 6) + x3))) then (f_Wo_weakestInk_L19 N w n x1 x2 (x3 + 1) μ)
    else (f_Wo_weakestInk_L19 N w n x1 (μ.1 (w + 4) (Int32.toNatClampNeg ((x1 * 6) + x3))) (x3 + 1) μ))))))
def f_Wo_weakestInk (N : Nat) (w : Nat) (x1 : Int32) (μ : MM) : Option (Int32 × MM) :=
  if x1 < 0 then (some (0, μ))
    else (if x1 < (Int32.ofNat (sh_n (w + 1))) then (f_Wo_weakestInk_L19 N w N x1 0 0 μ)
    else (some (0, μ)))
def f_Ro_feed (N : Nat) (x1 : Int32) (x2 : Int32) (x3 : Int32) (x4 : Int32) (x5 : Int32) (μ : MM) : Option (Int32 × MM) :=
  ob (f_Ta_solidBytes N x1 μ) fun t5 μ1z => (ob (f_Ta_solidBytes N x2 μ1z) fun t13 μ2z => (ob (f_Ta_solidBytes N x3 μ2z) fun t22 μ3z => (ob (f_Ta_solidBytes N x4 μ3z) fun t32 μ4z => (ob (f_Ta_solidBytes N x5 μ4z) fun t42 μ5z => (if ((μ5z.1 1 1) + ((((t5 + t13) + t22) + t32) + t42)) ≤ 240 then (obv (f_Ta_append N x1 μ5z) fun μ6z => (obv (f_Ta_append N x2 μ6z) fun μ7z => (obv (f_Ta_append N x3 μ7z) fun μ8z => (obv (f_Ta_append N x4 μ8z) fun μ9z => (obv (f_Ta_append N x5 μ9z) fun μ10z => (some ((μ10z.1 1 1), μ10z)))))))
    else (some ((-1), μ5z)))))))
def f_Ro_end (N : Nat) (x1 : Int32) (μ : MM) : Option (Int32 × MM) :=
  if x1 < 0 then (some (0, μ))
    else (if x1 ≤ (μ.1 1 1) then (wr (mm_I μ 1 1 x1) fun μ1z => (some (1, μ1z)))
    else (some (0, μ)))
def f_Ro_fault_B49 (N : Nat) (s0 : Int32) (μ : MM) : Option (Int32 × MM) :=
  some ((if s0 = 0 then (μ.1 1 2) else (-1)), μ)
def f_Ro_fault (N : Nat) (x1 : Int32) (μ : MM) : Option (Int32 × MM) :=
  if x1 < 0 then (some ((-2), μ))
    else (if x1 ≤ 2 then (if x1 = 1 then (ob (f_Lr_readLaw N μ) fun t21 μ3z => (f_Ro_fault_B49 N t21 μ3z))
    else (if x1 = 2 then (ob (f_Tr_readReading N μ) fun t36 μ2z => (f_Ro_fault_B49 N t36 μ2z))
    else (ob (f_Tr_readCollection N μ) fun t46 μ1z => (f_Ro_fault_B49 N t46 μ1z))))
    else (some ((-2), μ)))
def f_Ro_isFull (N : Nat) (x1 : Int32) (μ : MM) : Option (Int32 × MM) :=
  if x1 = 1 then (gd (zb (if (μ.1 34 0) < 4 then (0 : Int32) else 1)) (some ((if (μ.1 34 0) < 4 then (0 : Int32) else 1), μ)))
    else (if x1 = 2 then (if (μ.1 0 6) < 4 then (some (0, μ))
    else (some (1, μ)))
    else (some (0, μ)))
def f_Ro_text (N : Nat) (x1 : Int32) (μ : MM) : Option (Int32 × MM) :=
  ob (f_Ro_isFull N x1 μ) fun t2 μ1z => (if t2 = 0 then (ob (f_Ro_fault N x1 μ1z) fun t10 μ2z => (if t10 = (-1) then (wr (mm_I μ2z 1 1 0) fun μ3z => (if x1 = 1 then (ob (f_La_keepNext N 22 (μ3z.1 21 2) μ3z) fun t50 μ10z => (some (t50, μ10z)))
    else (if x1 = 2 then (obv (f_Wo_takeRow N 43 15 (μ3z.1 0 6) 0 μ3z) fun μ8z => (wr (mm_I μ8z 0 6 ((μ8z.1 0 6) + 1)) fun μ9z => (some (((μ9z.1 0 6) - 1), μ9z))))
    else (obv (f_Co_takeAll N 23 4 μ3z) fun μ4z => (obv (f_Hi_forget N μ4z) fun μ5z => (obv (f_Gu_forget N μ5z) fun μ6z => (wr (mm_I μ6z 0 14 0) fun μ7z => (some ((μ7z.1 23 1), μ7z)))))))))
    else (some ((-1), μ2z))))
    else (some ((-1), μ1z)))
def f_Ro_card (N : Nat) (x1 : Int32) (x2 : Int32) (μ : MM) : Option (Int32 × MM) :=
  ob (f_Co_isCard N 23 x1 μ) fun t5 μ1z => (if t5 = 0 then (some ((-1), μ1z))
    else (if x2 = 0 then (gd (inb x1 6) (some ((μ1z.1 26 (Int32.toNatClampNeg x1)), μ1z)))
    else (if x2 = 1 then (gd (inb x1 6) (some ((μ1z.1 33 (Int32.toNatClampNeg x1)), μ1z)))
    else (if x2 = 2 then (gd (inb x1 6) (some ((μ1z.1 29 (Int32.toNatClampNeg x1)), μ1z)))
    else (if x2 = 3 then (ob (f_Co_isRight N 23 x1 μ1z) fun t88 μ2z => (some ((if t88 = 0 then (0 : Int32) else 1), μ2z)))
    else (some ((-1), μ1z)))))))
def f_Ro_word (N : Nat) (x1 : Int32) (x2 : Int32) (x3 : Int32) (μ : MM) : Option (Int32 × MM) :=
  ob (f_Co_isCard N 23 x1 μ) fun t5 μ1z => (if t5 = 0 then (some ((-1), μ1z))
    else (ob (f_Wo_tell N 28 x1 x2 x3 μ1z) fun t26 μ2z => (some (t26, μ2z))))
def f_Ro_law (N : Nat) (x1 : Int32) (μ : MM) : Option (Int32 × MM) :=
  if x1 < (-1) then (some (0, μ))
    else (if x1 < (μ.1 34 0) then (wr (mm_I μ 34 1 x1) fun μ1z => (some (1, μ1z)))
    else (some (0, μ)))
def f_Ro_cleaner (N : Nat) (x1 : Int32) (μ : MM) : Option (Int32 × MM) :=
  if x1 < 0 then (some (0, μ))
    else (if 99 < x1 then (some (0, μ))
    else (if x1 = (μ.1 0 15) then (some (0, μ))
    else (wr (mm_I μ 0 15 x1) fun μ1z => (some (1, μ1z)))))
def f_Ro_fits (N : Nat) (x1 : Int32) (x2 : Int32) (μ : MM) : Option (Int32 × MM) :=
  ob (f_Co_isCard N 23 x1 μ) fun t5 μ1z => (if t5 = 0 then (some ((-1), μ1z))
    else (ob (f_Co_isThing N 23 x2 μ1z) fun t16 μ2z => (if t16 = 0 then (some ((-1), μ2z))
    else (ob (f_Co_isFit N 23 x1 x2 μ2z) fun t30 μ3z => (some ((if t30 = 0 then (0 : Int32) else 1), μ3z))))))
def f_Ro_reading (N : Nat) (x1 : Int32) (x2 : Int32) (x3 : Int32) (μ : MM) : Option (Int32 × MM) :=
  if x1 < 0 then (some ((-1), μ))
    else (if (μ.1 0 6) ≤ x1 then (some ((-1), μ))
    else (if x3 = 2 then (some ((-1), μ))
    else (ob (f_Wo_tell N 43 x1 x2 x3 μ) fun t26 μ1z => (some (t26, μ1z)))))
def f_Ro_count (N : Nat) (x1 : Int32) (μ : MM) : Option (Int32 × MM) :=
  if x1 = 0 then (some ((μ.1 23 1), μ))
    else (if x1 = 1 then (some ((μ.1 23 0), μ))
    else (if x1 = 2 then (some ((μ.1 34 0), μ))
    else (if x1 = 3 then (some ((μ.1 0 6), μ))
    else (if x1 = 4 then (some ((μ.1 1 1), μ))
    else (if x1 = 5 then (some ((μ.1 34 1), μ))
    else (if x1 = 6 then (some ((μ.1 27 4), μ))
    else (if x1 = 7 then (some ((μ.1 27 2), μ))
    else (if x1 = 8 then (some ((μ.1 27 3), μ))
    else (if x1 = 9 then (some ((μ.1 0 15), μ))
    else (if x1 = 10 then (some ((μ.1 341 0), μ))
    else (if x1 = 11 then (ob (f_Co_goneWords N 23 μ) fun t167 μ1z => (some (t167, μ1z)))
    else (if x1 = 12 then (ob (f_Ag_logLength N μ) fun t175 μ2z => (some (t175, μ2z)))
    else (if x1 = 13 then (some ((μ.1 51 0), μ))
    else (some ((-1000000), μ)))))))))))))))
def f_Ro_put (N : Nat) (x1 : Int32) (x2 : Int32) (μ : MM) : Option (Int32 × MM) :=
  ob (f_Co_isThing N 23 x1 μ) fun t5 μ1z => (if t5 = 0 then (some ((-1), μ1z))
    else (ob (f_Co_isCard N 23 x2 μ1z) fun t16 μ2z => (if t16 = 0 then (some ((-1), μ2z))
    else (ob (f_Co_cardOver N 23 x1 μ2z) fun t27 μ3z => (if t27 = (-1) then (gd (inb x2 6) (if (μ3z.1 33 (Int32.toNatClampNeg x2)) = (-1) then (obv (f_Hi_keep N 27 μ3z) fun μ4z => (gd (inb x2 6) (wr (mm_I μ4z 33 (Int32.toNatClampNeg x2) x1) fun μ5z => (some ((μ5z.1 51 0), μ5z)))))
    else (some ((-1), μ3z))))
    else (some ((-1), μ3z)))))))
def f_Ro_take (N : Nat) (x1 : Int32) (μ : MM) : Option (Int32 × MM) :=
  ob (f_Co_isCard N 23 x1 μ) fun t5 μ1z => (if t5 = 0 then (some ((-1), μ1z))
    else (gd (inb x1 6) (if (μ1z.1 33 (Int32.toNatClampNeg x1)) = (-1) then (some ((-1), μ1z))
    else (obv (f_Hi_keep N 27 μ1z) fun μ2z => (gd (inb x1 6) (gd (inb x1 6) (wr (mm_I μ2z 33 (Int32.toNatClampNeg x1) (-1)) fun μ3z => (some ((μ2z.1 33 (Int32.toNatClampNeg x1)), μ3z)))))))))
def f_Ro_hasWordLeft (N : Nat) (x1 : Int32) (μ : MM) : Option (Int32 × MM) :=
  ob (f_Co_isCard N 23 x1 μ) fun t5 μ1z => (if t5 = 0 then (some (0, μ1z))
    else (ob (f_Wo_leftIn N 28 x1 μ1z) fun t22 μ2z => (if t22 ≤ 0 then (some (0, μ2z))
    else (some (1, μ2z)))))
def f_Ro_copy (N : Nat) (x1 : Int32) (μ : MM) : Option (Int32 × MM) :=
  ob (f_Ro_hasWordLeft N x1 μ) fun t2 μ1z => (if t2 = 0 then (some ((-1), μ1z))
    else (if 1 ≤ (μ1z.1 27 3) then (obv (f_Hi_keep N 27 μ1z) fun μ2z => (wr (mm_I μ2z 27 3 ((μ2z.1 27 3) - 1)) fun μ3z => (obv (f_Wo_freshen N 28 x1 μ3z) fun μ4z => (some ((μ4z.1 27 3), μ4z)))))
    else (some ((-1), μ1z))))
def f_Ro_lamp (N : Nat) (x1 : Int32) (μ : MM) : Option (Int32 × MM) :=
  ob (f_Ro_hasWordLeft N x1 μ) fun t2 μ1z => (if t2 = 0 then (some ((-1), μ1z))
    else (obv (f_Hi_keep N 27 μ1z) fun μ2z => (obv (f_Wo_dim N 28 x1 μ2z) fun μ3z => (ob (f_Wo_leftIn N 28 x1 μ3z) fun t49 μ4z => (some (t49, μ4z))))))
def f_Ro_light (N : Nat) (x1 : Int32) (μ : MM) : Option (Int32 × MM) :=
  ob (f_Co_isNone N 23 μ) fun t4 μ1z => (if t4 = 0 then (if x1 < 0 then (some (0, μ1z))
    else (if 9 < x1 then (some (0, μ1z))
    else (if x1 = (μ1z.1 27 2) then (some (0, μ1z))
    else (obv (f_Hi_keep N 27 μ1z) fun μ2z => (wr (mm_I μ2z 27 2 x1) fun μ3z => (some (1, μ3z)))))))
    else (some (0, μ1z)))
def f_Ro_write (N : Nat) (x1 : Int32) (x2 : Int32) (μ : MM) : Option (Int32 × MM) :=
  ob (f_Co_isCard N 23 x1 μ) fun t5 μ1z => (if t5 = 0 then (some ((-1), μ1z))
    else (if x2 < 0 then (some ((-1), μ1z))
    else (if (μ1z.1 0 6) ≤ x2 then (some ((-1), μ1z))
    else (gd (inb x1 6) (if (μ1z.1 33 (Int32.toNatClampNeg x1)) = (-1) then (obv (f_Hi_keep N 27 μ1z) fun μ2z => (obv (f_Wo_takeRow N 28 43 x1 x2 μ2z) fun μ3z => (gd (inb x1 6) (some ((μ3z.1 29 (Int32.toNatClampNeg x1)), μ3z)))))
    else (some ((-1), μ1z)))))))
def f_Ro_days_L25 (N : Nat) : Nat → Int32 → Int32 → MM → Option (Int32 × MM)
  | 0, _, _, _ => none
  | n + 1, x1, x2, μ =>
    if x1 ≤ x2 then (some ((μ.1 27 4), μ))
    else (obv (f_Hi_keep N 27 μ) fun μ2z => (obv (f_Ag_passDay N μ2z) fun μ3z => (f_Ro_days_L25 N n x1 (x2 + 1) μ3z)))
def f_Ro_days (N : Nat) (x1 : Int32) (μ : MM) : Option (Int32 × MM) :=
  ob (f_Co_isNone N 23 μ) fun t4 μ1z => (if t4 = 0 then (if x1 < 1 then (some ((-1), μ1z))
    else (if x1 ≤ 60 then (f_Ro_days_L25 N N x1 0 μ1z)
    else (some ((-1), μ1z))))
    else (some ((-1), μ1z)))
def f_Ro_draw (N : Nat) (x1 : Int32) (μ : MM) : Option (Int32 × MM) :=
  wr (mm_J μ 0 16 (((μ.2 0 16) * 6364136223846793005) + 1442695040888963407)) fun μ1z => (if 1 ≤ x1 then (gd (nzl (Int32.toInt64 x1)) (some ((Int64.toInt32 ((Int64.toUInt64 (μ1z.2 0 16) >>> ((Int32.toInt64 33).toUInt64 &&& Int64.toUInt64 63)).toInt64 - (Int64.toUInt64 (μ1z.2 0 16) >>> ((Int32.toInt64 33).toUInt64 &&& Int64.toUInt64 63)).toInt64 / (Int32.toInt64 x1) * (Int32.toInt64 x1))), μ1z)))
    else (some (0, μ1z)))
def f_Ro_clean (N : Nat) (μ : MM) : Option MM :=
  ob (f_Ro_draw N 100 μ) fun t3 μ1z => (if t3 < (μ1z.1 0 15) then (ob (f_Ro_draw N (μ1z.1 23 1) μ1z) fun t22 μ2z => (ob (f_Ro_draw N (μ2z.1 23 1) μ2z) fun t34 μ3z => (if t22 = t34 then (some μ3z)
    else (ob (f_Co_isCard N 23 t22 μ3z) fun t48 μ4z => (if t48 = 0 then (some μ4z)
    else (ob (f_Co_isCard N 23 t34 μ4z) fun t59 μ5z => (if t59 = 0 then (some μ5z)
    else (gd (inb t22 6) (gd (inb t34 6) (gd (inb t22 6) (wr (mm_I μ5z 33 (Int32.toNatClampNeg t22) (μ5z.1 33 (Int32.toNatClampNeg t34))) fun μ6z => (gd (inb t34 6) (wr (mm_I μ6z 33 (Int32.toNatClampNeg t34) (μ5z.1 33 (Int32.toNatClampNeg t22))) fun μ7z => (some μ7z))))))))))))))
    else (some μ1z))
def f_Ro_decades_L31 (N : Nat) : Nat → Int32 → Int32 → MM → Option (Int32 × MM)
  | 0, _, _, _ => none
  | n + 1, x1, x4, μ =>
    if x1 ≤ x4 then (some ((μ.1 27 4), μ))
    else (obv (f_Hi_keep N 27 μ) fun μ3z => (obv (f_Ro_clean N μ3z) fun μ4z => (obv (f_Ag_passDay N μ4z) fun μ5z => (f_Ro_decades_L31 N n x1 (x4 + 1) μ5z))))
def f_Ro_decades (N : Nat) (x1 : Int32) (y2 : Int64) (μ : MM) : Option (Int32 × MM) :=
  ob (f_Co_isNone N 23 μ) fun t4 μ1z => (if t4 = 0 then (if x1 < 1 then (some ((-1), μ1z))
    else (if x1 ≤ 60 then (wr (mm_J μ1z 0 16 y2) fun μ2z => (f_Ro_decades_L31 N N x1 0 μ2z))
    else (some ((-1), μ1z))))
    else (some ((-1), μ1z)))
def f_Ro_undo (N : Nat) (μ : MM) : Option (Int32 × MM) :=
  ob (f_Hi_undoInto N 27 μ) fun t11 μ1z => (some (t11, μ1z))
def f_Ro_log (N : Nat) (x1 : Int32) (x2 : Int32) (μ : MM) : Option (Int32 × MM) :=
  ob (f_Ag_logged N x1 x2 μ) fun t6 μ1z => (some (t6, μ1z))
def f_Ro_image (N : Nat) (μ : MM) : Option (Int32 × MM) :=
  ob (f_Co_isNone N 23 μ) fun t4 μ1z => (if t4 = 0 then (obv (f_Sh_takeAll N 347 27 μ1z) fun μ2z => (gd (cpb 0 0 128 128 128) (wr (mm_F μ2z 354 (va_cpy (μ2z.1 49) (μ2z.1 354) (Int32.toNatClampNeg 0) (Int32.toNatClampNeg 0) (Int32.toNatClampNeg 128))) fun μ3z => (wr (mm_I μ3z 0 14 1) fun μ4z => (some ((μ4z.1 27 4), μ4z))))))
    else (some ((-1), μ1z)))
def f_Ro_back (N : Nat) (μ : MM) : Option (Int32 × MM) :=
  if (μ.1 0 14) = 0 then (some ((-1), μ))
    else (obv (f_Sh_takeAll N 27 347 μ) fun μ1z => (gd (cpb 0 0 128 128 128) (wr (mm_F μ1z 49 (va_cpy (μ1z.1 354) (μ1z.1 49) (Int32.toNatClampNeg 0) (Int32.toNatClampNeg 0) (Int32.toNatClampNeg 128))) fun μ2z => (obv (f_Hi_forget N μ2z) fun μ3z => (some ((μ3z.1 27 4), μ3z))))))
def f_Ro_right_L16 (N : Nat) : Nat → Int32 → Int32 → MM → Option (Int32 × MM)
  | 0, _, _, _ => none
  | n + 1, x1, x2, μ =>
    if (μ.1 23 1) ≤ x2 then (some (x1, μ))
    else (ob (f_Co_isRight N 23 x2 μ) fun t32 μ2z => (f_Ro_right_L16 N n (if t32 = 0 then x1 else (x1 ||| ((1 : Int32) <<< (x2 &&& 31)))) (x2 + 1) μ2z))
def f_Ro_right (N : Nat) (μ : MM) : Option (Int32 × MM) :=
  ob (f_Co_isNone N 23 μ) fun t4 μ1z => (if t4 = 0 then (f_Ro_right_L16 N N 0 0 μ1z)
    else (some ((-1), μ1z)))
def f_Ro_matched (N : Nat) (x1 : Int32) (μ : MM) : Option (Int32 × MM) :=
  ob (f_Co_isNone N 23 μ) fun t4 μ1z => (if t4 = 0 then (if x1 < 0 then (some ((-1), μ1z))
    else (if x1 ≤ 2 then (obv (f_Ma_findBest N μ1z) fun μ2z => (if x1 = 0 then (some ((μ2z.1 333 2), μ2z))
    else (some ((if x1 = 1 then (μ2z.1 333 0) else (μ2z.1 333 1)), μ2z))))
    else (some ((-1), μ1z))))
    else (some ((-1), μ1z)))
def f_Ro_clash (N : Nat) (μ : MM) : Option (Int32 × MM) :=
  ob (f_Co_isNone N 23 μ) fun t4 μ1z => (if t4 = 0 then (ob (f_Ma_leastClash N μ1z) fun t18 μ2z => (some (t18, μ2z)))
    else (some ((-1), μ1z)))
def f_Ro_blank (N : Nat) (x1 : Int32) (μ : MM) : Option (Int32 × MM) :=
  ob (f_Co_isCard N 23 x1 μ) fun t5 μ1z => (if t5 = 0 then (some ((-1), μ1z))
    else (ob (f_Ag_daysTillBlank N x1 μ1z) fun t16 μ2z => (some (t16, μ2z))))
def f_Ro_stood (N : Nat) (x1 : Int32) (x2 : Int32) (x3 : Int32) (μ : MM) : Option (Int32 × MM) :=
  ob (f_Co_isThing N 23 x1 μ) fun t5 μ1z => (if t5 = 0 then (some ((-1), μ1z))
    else (ob (f_Co_isCard N 23 x2 μ1z) fun t16 μ2z => (if t16 = 0 then (some ((-1), μ2z))
    else (ob (f_Gu_note N x1 x2 x3 μ2z) fun t31 μ3z => (some (t31, μ3z))))))
def f_Ro_once (N : Nat) (x1 : Int32) (x2 : Int32) (μ : MM) : Option (Int32 × MM) :=
  if x2 < (-1) then (some ((-1), μ))
    else (ob (f_Gu_aim N x1 μ) fun t10 μ1z => (if t10 = 0 then (some ((-1), μ1z))
    else (if x2 = (-1) then (ob (f_Gu_countRows N μ1z) fun t27 μ3z => (some (t27, μ3z)))
    else (ob (f_Gu_findRow N x2 μ1z) fun t38 μ2z => (some (t38, μ2z))))))
def f_Ro_probe (N : Nat) (x1 : Int32) (μ : MM) : Option (Int32 × MM) :=
  ob (f_Gu_aim N x1 μ) fun t5 μ1z => (if t5 = 0 then (some ((-1), μ1z))
    else (ob (f_Gu_evenThing N μ1z) fun t15 μ2z => (some (t15, μ2z))))
def f_Ro_saves (N : Nat) (x1 : Int32) (x2 : Int32) (μ : MM) : Option (Int32 × MM) :=
  if x2 < 0 then (some ((-1), μ))
    else (if 1 < x2 then (some ((-1), μ))
    else (ob (f_Gu_aim N x1 μ) fun t14 μ1z => (if t14 = 0 then (some ((-1), μ1z))
    else (ob (f_Gu_kindestRow N μ1z) fun t26 μ2z => (if x2 = 0 then (some (t26, μ2z))
    else (if t26 = (-1) then (some (t26, μ2z))
    else (ob (f_Gu_thingsFitting N t26 μ2z) fun t48 μ3z => (some (t48, μ3z)))))))))
def f_Ro_round_L16 (N : Nat) : Nat → Int32 → Int32 → MM → Option (Int32 × MM)
  | 0, _, _, _ => none
  | n + 1, x1, x2, μ =>
    if (μ.1 23 1) ≤ x2 then (some (x1, μ))
    else (ob (f_Co_reachedFrom N 23 x2 μ) fun t32 μ2z => (f_Ro_round_L16 N n (if ((t32 >>> (x2 &&& 31)) &&& 1) = 1 then (x1 ||| ((1 : Int32) <<< (x2 &&& 31))) else x1) (x2 + 1) μ2z))
def f_Ro_round (N : Nat) (μ : MM) : Option (Int32 × MM) :=
  ob (f_Co_isNone N 23 μ) fun t4 μ1z => (if t4 = 0 then (f_Ro_round_L16 N N 0 0 μ1z)
    else (some ((-1), μ1z)))
def f_Ro_nowhere_L16 (N : Nat) : Nat → Int32 → Int32 → MM → Option (Int32 × MM)
  | 0, _, _, _ => none
  | n + 1, x1, x2, μ =>
    if (μ.1 23 1) ≤ x2 then (some (x1, μ))
    else (ob (f_Wo_named N 28 x2 2 μ) fun t39 μ2z => (f_Ro_nowhere_L16 N n (if (t39 >>> ((μ2z.1 23 1) &&& 31)) = 0 then x1 else (x1 ||| ((1 : Int32) <<< (x2 &&& 31)))) (x2 + 1) μ2z))
def f_Ro_nowhere (N : Nat) (μ : MM) : Option (Int32 × MM) :=
  ob (f_Co_isNone N 23 μ) fun t4 μ1z => (if t4 = 0 then (f_Ro_nowhere_L16 N N 0 0 μ1z)
    else (some ((-1), μ1z)))
def f_Ro_forged_L27 (N : Nat) : Nat → Int32 → Int32 → MM → Option (Int32 × MM)
  | 0, _, _, _ => none
  | n + 1, x2, x3, μ =>
    if (μ.1 23 1) ≤ x3 then (some (x2, μ))
    else (ob (f_Wo_named N 28 x3 0 μ) fun t41 μ2z => (ob (f_Wo_named N 28 x3 1 μ2z) fun t47 μ3z => (f_Ro_forged_L27 N n (if (t41 &&& t47) = 0 then x2 else (x2 ||| ((1 : Int32) <<< (x3 &&& 31)))) (x3 + 1) μ3z)))
def f_Ro_forged (N : Nat) (μ : MM) : Option (Int32 × MM) :=
  ob (f_Co_isNone N 23 μ) fun t4 μ1z => (if t4 = 0 then (f_Ro_forged_L27 N N 0 0 μ1z)
    else (some ((-1), μ1z)))
def f_Ro_alone_B39 (N : Nat) (k17 : Int32 → Int32 → Int32 → MM → Option (Int32 × MM)) (x1 : Int32) (x2 : Int32) (x3 : Int32) (μ : MM) : Option (Int32 × MM) :=
  ob (f_Co_isToldAlone N 23 x1 x3 μ) fun t45 μ2z => (k17 x1 (if t45 = 0 then x2 else x3) (x3 + 1) μ2z)
def f_Ro_alone_L17 (N : Nat) : Nat → Int32 → Int32 → Int32 → MM → Option (Int32 × MM)
  | 0, _, _, _, _ => none
  | n + 1, x1, x2, x3, μ =>
    if 64 ≤ x3 then (some (x2, μ))
    else (if x2 = (-1) then (f_Ro_alone_B39 N (f_Ro_alone_L17 N n) x1 x2 x3 μ)
    else (ob (f_In_bitCount_0f7a4 N x3 μ) fun t29 μ3z => (ob (f_In_bitCount_0f7a4 N x2 μ3z) fun t33 μ4z => (if t33 ≤ t29 then (f_Ro_alone_L17 N n x1 x2 (x3 + 1) μ4z)
    else (f_Ro_alone_B39 N (f_Ro_alone_L17 N n) x1 x2 x3 μ4z)))))
def f_Ro_alone (N : Nat) (x1 : Int32) (μ : MM) : Option (Int32 × MM) :=
  ob (f_Co_isThing N 23 x1 μ) fun t5 μ1z => (if t5 = 0 then (some ((-1), μ1z))
    else (f_Ro_alone_L17 N N x1 (-1) 0 μ1z))
def f_Ro_suits (N : Nat) (x1 : Int32) (μ : MM) : Option (Int32 × MM) :=
  ob (f_Co_isCard N 23 x1 μ) fun t5 μ1z => (if t5 = 0 then (some ((-1), μ1z))
    else (ob (f_Co_suitedThings N 23 x1 μ1z) fun t16 μ2z => (some (t16, μ2z))))
def f_Ro_wanted_L29 (N : Nat) : Nat → Int32 → Int32 → Int32 → Int32 → MM → Option (Int32 × MM)
  | 0, _, _, _, _, _ => none
  | n + 1, x1, x2, x3, x4, μ =>
    if (μ.1 23 1) ≤ x4 then (some ((if x1 = 0 then x2 else x3), μ))
    else (ob (f_Co_suitedThings N 23 x4 μ) fun t47 μ2z => (ob (f_In_bitCount_0f7a4 N t47 μ2z) fun t50 μ3z => (f_Ro_wanted_L29 N n x1 (if x3 ≤ t50 then x2 else x4) (if x3 ≤ t50 then x3 else t50) (x4 + 1) μ3z)))
def f_Ro_wanted (N : Nat) (x1 : Int32) (μ : MM) : Option (Int32 × MM) :=
  ob (f_Co_isNone N 23 μ) fun t4 μ1z => (if t4 = 0 then (if x1 < 0 then (some ((-1), μ1z))
    else (if x1 ≤ 1 then (f_Ro_wanted_L29 N N x1 0 9 0 μ1z)
    else (some ((-1), μ1z))))
    else (some ((-1), μ1z)))
def f_Ro_perhaps_L27 (N : Nat) : Nat → Int32 → Int32 → MM → Option (Int32 × MM)
  | 0, _, _, _ => none
  | n + 1, x2, x3, μ =>
    if (μ.1 23 1) ≤ x3 then (some (x2, μ))
    else (ob (f_Wo_leftIn N 28 x3 μ) fun t40 μ2z => (gd (inb x3 6) (f_Ro_perhaps_L27 N n (if (μ2z.1 29 (Int32.toNatClampNeg x3)) < (t40 * 2) then x2 else (x2 ||| ((1 : Int32) <<< (x3 &&& 31)))) (x3 + 1) μ2z)))
def f_Ro_perhaps (N : Nat) (μ : MM) : Option (Int32 × MM) :=
  ob (f_Co_isNone N 23 μ) fun t4 μ1z => (if t4 = 0 then (f_Ro_perhaps_L27 N N 0 0 μ1z)
    else (some ((-1), μ1z)))
def f_Ro_shared (N : Nat) (x1 : Int32) (x2 : Int32) (μ : MM) : Option (Int32 × MM) :=
  ob (f_Co_isThing N 23 x1 μ) fun t5 μ1z => (if t5 = 0 then (some ((-1), μ1z))
    else (ob (f_Co_isThing N 23 x2 μ1z) fun t16 μ2z => (if t16 = 0 then (some ((-1), μ2z))
    else (gd (inb x1 8) (gd (inb x2 8) (some (((μ2z.1 25 (Int32.toNatClampNeg x1)) &&& (μ2z.1 25 (Int32.toNatClampNeg x2))), μ2z)))))))
def f_Ro_twins_L37 (N : Nat) (k21 : Int32 → Int32 → Int32 → MM → Option (Int32 × MM)) : Nat → Int32 → Int32 → Int32 → Int32 → MM → Option (Int32 × MM)
  | 0, _, _, _, _, _ => none
  | n + 1, x1, x2, x3, x4, μ =>
    if (μ.1 23 0) ≤ x4 then (k21 x1 x2 (x3 + 1) μ)
    else (gd (inb x3 8) (gd (inb x4 8) (if (μ.1 25 (Int32.toNatClampNeg x3)) = (μ.1 25 (Int32.toNatClampNeg x4)) then (if x2 = x1 then (some (((x3 * 10) + x4), μ))
    else (f_Ro_twins_L37 N k21 n x1 (x2 + 1) x3 (x4 + 1) μ))
    else (f_Ro_twins_L37 N k21 n x1 x2 x3 (x4 + 1) μ))))
def f_Ro_twins_L21 (N : Nat) : Nat → Int32 → Int32 → Int32 → MM → Option (Int32 × MM)
  | 0, _, _, _, _ => none
  | n + 1, x1, x2, x3, μ =>
    if (μ.1 23 0) ≤ x3 then (some ((if x1 = (-1) then x2 else (-1)), μ))
    else (f_Ro_twins_L37 N (f_Ro_twins_L21 N n) N x1 x2 x3 (x3 + 1) μ)
def f_Ro_twins (N : Nat) (x1 : Int32) (μ : MM) : Option (Int32 × MM) :=
  ob (f_Co_isNone N 23 μ) fun t4 μ1z => (if t4 = 0 then (if (-1) ≤ x1 then (f_Ro_twins_L21 N N x1 0 0 μ1z)
    else (some ((-1), μ1z)))
    else (some ((-1), μ1z)))
def f_Ro_spread_L65 (N : Nat) (k57 : Int32 → Int32 → Int32 → MM → Option (Int32 × MM)) : Nat → Int32 → Int32 → Int32 → Int32 → MM → Option (Int32 × MM)
  | 0, _, _, _, _, _ => none
  | n + 1, x1, x2, x3, x4, μ =>
    if x4 < 0 then (k57 x1 x2 (x3 + 1) μ)
    else (gd (inb x4 32) (gd (inb x4 32) (gd (inb x4 32) (wr (mm_J μ 346 (Int32.toNatClampNeg x4) ((μ.2 346 (Int32.toNatClampNeg x4)) - (((μ.2 346 (Int32.toNatClampNeg x4)) * (Int32.toInt64 x2)) / 100))) fun μ2z => (gd (inb (x4 + 1) 32) (gd (inb (x4 + 1) 32) (wr (mm_J μ2z 346 (Int32.toNatClampNeg (x4 + 1)) ((μ2z.2 346 (Int32.toNatClampNeg (x4 + 1))) + (((μ.2 346 (Int32.toNatClampNeg x4)) * (Int32.toInt64 x2)) / 100))) fun μ3z => (f_Ro_spread_L65 N k57 n x1 x2 x3 (x4 + (-1)) μ3z))))))))
def f_Ro_spread_L57 (N : Nat) : Nat → Int32 → Int32 → Int32 → MM → Option (Int32 × MM)
  | 0, _, _, _, _ => none
  | n + 1, x1, x2, x3, μ =>
    if x1 ≤ x3 then (some (1, μ))
    else (f_Ro_spread_L65 N (f_Ro_spread_L57 N n) N x1 x2 x3 x3 μ)
def f_Ro_spread_L24 (N : Nat) : Nat → Int32 → Int32 → Int32 → MM → Option (Int32 × MM)
  | 0, _, _, _, _ => none
  | n + 1, x1, x2, x3, μ =>
    if 32 ≤ x3 then (wr (mm_J μ 346 0 1000000000) fun μ1z => (f_Ro_spread_L57 N N x1 x2 0 μ1z))
    else (gd (inb x3 32) (wr (mm_J μ 346 (Int32.toNatClampNeg x3) 0) fun μ4z => (f_Ro_spread_L24 N n x1 x2 (x3 + 1) μ4z)))
def f_Ro_spread (N : Nat) (x1 : Int32) (x2 : Int32) (μ : MM) : Option (Int32 × MM) :=
  if x1 < 0 then (some (0, μ))
    else (if 30 < x1 then (some (0, μ))
    else (if x2 < 0 then (some (0, μ))
    else (if x2 ≤ 100 then (f_Ro_spread_L24 N N x1 x2 0 μ)
    else (some (0, μ)))))
def f_Ro_partsUnhurt_B40 (N : Nat) (k20 : Int32 → Int64 → Int32 → MM → Option (Int64 × MM)) (x2 : Int32) (y3 : Int64) (x5 : Int32) (μ : MM) : Option (Int64 × MM) :=
  gd (inb x5 32) (k20 x2 (y3 + (μ.2 346 (Int32.toNatClampNeg x5))) (x5 + 1) μ)
def f_Ro_partsUnhurt_L20 (N : Nat) : Nat → Int32 → Int64 → Int32 → MM → Option (Int64 × MM)
  | 0, _, _, _, _ => none
  | n + 1, x2, y3, x5, μ =>
    if 32 ≤ x5 then (some (y3, μ))
    else (if x2 = 0 then (f_Ro_partsUnhurt_B40 N (f_Ro_partsUnhurt_L20 N n) x2 y3 x5 μ)
    else (if x2 ≤ x5 then (some (y3, μ))
    else (f_Ro_partsUnhurt_B40 N (f_Ro_partsUnhurt_L20 N n) x2 y3 x5 μ)))
def f_Ro_partsUnhurt (N : Nat) (x1 : Int32) (μ : MM) : Option (Int64 × MM) :=
  ob (f_Wo_weakestInk N 28 x1 μ) fun t11 μ1z => (f_Ro_partsUnhurt_L20 N N t11 0 0 μ1z)
def f_Ro_odds (N : Nat) (x1 : Int32) (x2 : Int32) (x3 : Int32) (μ : MM) : Option (Int32 × MM) :=
  ob (f_Co_isCard N 23 x1 μ) fun t5 μ1z => (if t5 = 0 then (some ((-1), μ1z))
    else (ob (f_Ro_spread N x2 x3 μ1z) fun t14 μ2z => (if t14 = 0 then (some ((-1), μ2z))
    else (ob (f_Ro_partsUnhurt N x1 μ2z) fun t24 μ3z => (some ((Int64.toInt32 t24), μ3z))))))
def f_Ro_rescue_L29 (N : Nat) : Nat → Int32 → Int64 → Int32 → MM → Option (Int32 × MM)
  | 0, _, _, _, _ => none
  | n + 1, x3, y4, x6, μ =>
    if (μ.1 23 1) ≤ x6 then (some (x3, μ))
    else (ob (f_Ro_hasWordLeft N x6 μ) fun t44 μ3z => (if t44 = 0 then (f_Ro_rescue_L29 N n x3 y4 (x6 + 1) μ3z)
    else (ob (f_Ro_partsUnhurt N x6 μ3z) fun t53 μ4z => (if x3 = (-1) then (f_Ro_rescue_L29 N n x6 t53 (x6 + 1) μ4z)
    else (if 0 ≤ (lg_cmp t53 y4) then (f_Ro_rescue_L29 N n x3 y4 (x6 + 1) μ4z)
    else (f_Ro_rescue_L29 N n x6 t53 (x6 + 1) μ4z))))))
def f_Ro_rescue (N : Nat) (x1 : Int32) (x2 : Int32) (μ : MM) : Option (Int32 × MM) :=
  ob (f_Co_isNone N 23 μ) fun t4 μ1z => (if t4 = 0 then (ob (f_Ro_spread N x1 x2 μ1z) fun t13 μ2z => (if t13 = 0 then (some ((-1), μ2z))
    else (f_Ro_rescue_L29 N N (-1) 0 0 μ2z)))
    else (some ((-1), μ1z)))
def f_Mo_thrown (N : Nat) (μ : MM) : Option (Int32 × MM) :=
  some ((μ.1 355 0), μ)
def f_Mo_isIn (N : Nat) (y0 : Int64) (y2 : Int64) (y4 : Int64) (μ : MM) : Option (Int32 × MM) :=
  if (lg_cmp y0 y2) < 0 then (some (0, μ))
    else (if 0 < (lg_cmp y0 y4) then (some (0, μ))
    else (some (1, μ)))
def f_Mo_has (N : Nat) (x0 : Int32) (x1 : Int32) (μ : MM) : Option (Int32 × MM) :=
  gd (zb (if ((x0 >>> (x1 &&& 31)) &&& 1) = 1 then (1 : Int32) else 0)) (some ((if ((x0 >>> (x1 &&& 31)) &&& 1) = 1 then (1 : Int32) else 0), μ))
def f_Pr_checkIndex_8e157 (N : Nat) (x0 : Int32) (x1 : Int32) (μ : MM) : Option (Int32 × MM) :=
  if x0 < 0 then (none)
    else (if x0 < x1 then (some (x0, μ))
    else (none))
def f_St_checkIndex_df160 (N : Nat) (x0 : Int32) (x1 : Int32) (μ : MM) : Option MM :=
  ob (f_Pr_checkIndex_8e157 N x0 x1 μ) fun t5 μ1z => (some μ1z)
def f_Sl_charAt_3b067 (N : Nat) (q0 : Nat) (x1 : Int32) (μ : MM) : Option (Int32 × MM) :=
  obv (f_St_checkIndex_df160 N x1 (Int32.ofNat (sh_n q0)) μ) fun μ1z => (gd (inb x1 (sh_n q0)) (some ((Int32.toUInt32 ((st_I q0 (Int32.toNatClampNeg x1)) &&& 255) % 65536).toInt32, μ1z)))
def f_St_charAt_5068e (N : Nat) (sx : Nat) (x1 : Int32) (μ : MM) : Option (Int32 × MM) :=
  ob (f_St_isLatin1_aae02 N sx μ) fun t1 μ1z => (if t1 = 0 then (none)
    else (ob (f_Sl_charAt_3b067 N (sx + 1000) x1 μ1z) fun t12 μ2z => (gd (zc t12) (some (t12, μ2z)))))
def f_Mo_isAmong_L2 (N : Nat) (q0 : Nat) : Nat → Int32 → Int32 → MM → Option (Int32 × MM)
  | 0, _, _, _ => none
  | n + 1, x1, x2, μ =>
    ob (f_St_length_8abf5 N q0 μ) fun t4 μ1z => (if t4 ≤ x2 then (some (0, μ1z))
    else (ob (f_St_charAt_5068e N q0 x2 μ1z) fun t12 μ2z => (if t12 = x1 then (some (1, μ2z))
    else (f_Mo_isAmong_L2 N q0 n x1 (x2 + 1) μ2z))))
def f_Mo_isAmong (N : Nat) (q0 : Nat) (x1 : Int32) (μ : MM) : Option (Int32 × MM) :=
  f_Mo_isAmong_L2 N q0 N x1 0 μ
def f_Mo_bytesIn_L5 (N : Nat) : Nat → Int32 → Int32 → Int32 → MM → Option (Int32 × MM)
  | 0, _, _, _, _ => none
  | n + 1, x0, x1, x2, μ =>
    if x2 < 0 then (some (x1, μ))
    else (f_Mo_bytesIn_L5 N n x0 (x1 + (if ((x0 >>> (x2 &&& 31)) &&& 255) = 0 then (0 : Int32) else 1)) (x2 + (-8)) μ)
def f_Mo_bytesIn (N : Nat) (x0 : Int32) (μ : MM) : Option (Int32 × MM) :=
  f_Mo_bytesIn_L5 N N x0 0 24 μ
def f_Mo_put_L3 (N : Nat) : Nat → Int32 → Int32 → MM → Option MM
  | 0, _, _, _ => none
  | n + 1, x1, x2, μ =>
    if x2 < 0 then (some μ)
    else (if ((x1 >>> (x2 &&& 31)) &&& 255) = 0 then (f_Mo_put_L3 N n x1 (x2 + (-8)) μ)
    else (gd (inb (μ.1 355 6) 240) (wr (mm_I μ 356 (Int32.toNatClampNeg (μ.1 355 6)) (vp_nar .byte ((Int32.toInt8 (x1 >>> (x2 &&& 31))).toInt32))) fun μ1z => (wr (mm_I μ1z 355 6 ((μ1z.1 355 6) + 1)) fun μ2z => (f_Mo_put_L3 N n x1 (x2 + (-8)) μ2z)))))
def f_Mo_put (N : Nat) (x1 : Int32) (μ : MM) : Option MM :=
  f_Mo_put_L3 N N x1 24 μ
def f_Mo_feed (N : Nat) (x1 : Int32) (x2 : Int32) (x3 : Int32) (x4 : Int32) (x5 : Int32) (μ : MM) : Option (Int32 × MM) :=
  wr (mm_I μ 355 0 0) fun μ1z => (ob (f_Mo_bytesIn N x1 μ1z) fun t10 μ2z => (ob (f_Mo_bytesIn N x2 μ2z) fun t15 μ3z => (ob (f_Mo_bytesIn N x3 μ3z) fun t20 μ4z => (ob (f_Mo_bytesIn N x4 μ4z) fun t26 μ5z => (ob (f_Mo_bytesIn N x5 μ5z) fun t32 μ6z => (if ((((((μ1z.1 355 6) + t10) + t15) + t20) + t26) + t32) ≤ 240 then (obv (f_Mo_put N x1 μ6z) fun μ7z => (obv (f_Mo_put N x2 μ7z) fun μ8z => (obv (f_Mo_put N x3 μ8z) fun μ9z => (obv (f_Mo_put N x4 μ9z) fun μ10z => (obv (f_Mo_put N x5 μ10z) fun μ11z => (some ((μ11z.1 355 6), μ11z)))))))
    else (some ((-1), μ6z))))))))
def f_Mo_end (N : Nat) (x1 : Int32) (μ : MM) : Option (Int32 × MM) :=
  wr (mm_I μ 355 0 0) fun μ1z => (if x1 < 0 then (some (0, μ1z))
    else (if x1 ≤ (μ1z.1 355 6) then (wr (mm_I μ1z 355 6 x1) fun μ2z => (some (1, μ2z)))
    else (some (0, μ1z))))
def f_Mo_look_B43 (N : Nat) (μ : MM) : Option (Int32 × MM) :=
  if (μ.1 355 9) ≤ (μ.1 355 10) then (some ((-1), μ))
    else (gd (decide (sh_k ((μ.1 355 5).toNatClampNeg) = 21)) (gd (inb ((μ.1 355 8) + (μ.1 355 10)) (sh_n ((μ.1 355 5).toNatClampNeg))) (some (((μ.1 ((μ.1 355 5).toNatClampNeg) (Int32.toNatClampNeg ((μ.1 355 8) + (μ.1 355 10)))) &&& 255), μ))))
def f_Mo_look_L0 (N : Nat) : Nat → MM → Option (Int32 × MM)
  | 0, _ => none
  | n + 1, μ =>
    if (μ.1 355 9) ≤ (μ.1 355 10) then (f_Mo_look_B43 N  μ)
    else (gd (decide (sh_k ((μ.1 355 5).toNatClampNeg) = 21)) (gd (inb ((μ.1 355 8) + (μ.1 355 10)) (sh_n ((μ.1 355 5).toNatClampNeg))) (if (μ.1 ((μ.1 355 5).toNatClampNeg) (Int32.toNatClampNeg ((μ.1 355 8) + (μ.1 355 10)))) = 32 then (wr (mm_I μ 355 10 ((μ.1 355 10) + 1)) fun μ1z => (f_Mo_look_L0 N n  μ1z))
    else (f_Mo_look_B43 N  μ))))
def f_Mo_look (N : Nat) (μ : MM) : Option (Int32 × MM) :=
  f_Mo_look_L0 N N  μ
def f_Mo_fails (N : Nat) (μ : MM) : Option (Int32 × MM) :=
  if (μ.1 355 11) = (-1) then (wr (mm_I μ 355 11 (μ.1 355 10)) fun μ1z => (some (0, μ1z)))
    else (some (0, μ))
def f_Mo_goesIn (N : Nat) (μ : MM) : Option (Int32 × MM) :=
  if (μ.1 355 12) = 6 then (ob (f_Mo_fails N μ) fun t10 μ3z => (gd (zb t10) (some (t10, μ3z))))
    else (wr (mm_I μ 355 12 ((μ.1 355 12) + 1)) fun μ1z => (wr (mm_I μ1z 355 10 ((μ1z.1 355 10) + 1)) fun μ2z => (some (1, μ2z))))
def f_Mo_takes_B16 (N : Nat) (μ : MM) : Option (Int32 × MM) :=
  ob (f_Mo_fails N μ) fun t17 μ1z => (gd (zb t17) (some (t17, μ1z)))
def f_Mo_takes (N : Nat) (x1 : Int32) (μ : MM) : Option (Int32 × MM) :=
  if (μ.1 355 11) = (-1) then (ob (f_Mo_look N μ) fun t9 μ2z => (if t9 = x1 then (wr (mm_I μ2z 355 10 ((μ2z.1 355 10) + 1)) fun μ3z => (some (1, μ3z)))
    else (f_Mo_takes_B16 N  μ2z)))
    else (f_Mo_takes_B16 N  μ)
def f_Mo_isDigit (N : Nat) (μ : MM) : Option (Int32 × MM) :=
  if (μ.1 355 9) ≤ (μ.1 355 10) then (some (0, μ))
    else (gd (decide (sh_k ((μ.1 355 5).toNatClampNeg) = 21)) (gd (inb ((μ.1 355 8) + (μ.1 355 10)) (sh_n ((μ.1 355 5).toNatClampNeg))) (if (μ.1 ((μ.1 355 5).toNatClampNeg) (Int32.toNatClampNeg ((μ.1 355 8) + (μ.1 355 10)))) < 48 then (some (0, μ))
    else (gd (decide (sh_k ((μ.1 355 5).toNatClampNeg) = 21)) (gd (inb ((μ.1 355 8) + (μ.1 355 10)) (sh_n ((μ.1 355 5).toNatClampNeg))) (if 57 < (μ.1 ((μ.1 355 5).toNatClampNeg) (Int32.toNatClampNeg ((μ.1 355 8) + (μ.1 355 10)))) then (some (0, μ))
    else (some (1, μ))))))))
def f_Mo_within (N : Nat) (y0 : Int64) (μ : MM) : Option (Int32 × MM) :=
  some ((Int64.toInt32 (if (if y0 < (1000000 : Int64) then y0 else (1000000 : Int64)) < ((-1000000) : Int64) then ((-1000000) : Int64) else (if y0 < (1000000 : Int64) then y0 else (1000000 : Int64)))), μ)
def f_Mo_atom_L90 (N : Nat) (rc_X12_atom : MM → Option (Int32 × MM)) (rc_X12_term : MM → Option (Int32 × MM)) (rc_X12_sum : MM → Option (Int32 × MM)) : Nat → Int32 → Int32 → MM → Option (Int32 × MM)
  | 0, _, _, _ => none
  | n + 1, x2, x3, μ =>
    ob (f_Mo_isDigit N μ) fun t91 μ4z => (if t91 = 0 then (some (x2, μ4z))
    else (if (μ4z.1 355 11) = (-1) then (if x3 = 4 then (ob (f_Mo_fails N μ4z) fun t111 μ6z => (some (0, μ6z)))
    else (gd (decide (sh_k ((μ4z.1 355 5).toNatClampNeg) = 21)) (gd (inb ((μ4z.1 355 8) + (μ4z.1 355 10)) (sh_n ((μ4z.1 355 5).toNatClampNeg))) (wr (mm_I μ4z 355 10 ((μ4z.1 355 10) + 1)) fun μ5z => (f_Mo_atom_L90 N rc_X12_atom rc_X12_term rc_X12_sum n (((10 * x2) + (μ4z.1 ((μ4z.1 355 5).toNatClampNeg) (Int32.toNatClampNeg ((μ4z.1 355 8) + (μ4z.1 355 10))))) - 48) (x3 + 1) μ5z)))))
    else (some (x2, μ4z))))
def f_Mo_atom_body (N : Nat) (rc_X12_atom : MM → Option (Int32 × MM)) (rc_X12_term : MM → Option (Int32 × MM)) (rc_X12_sum : MM → Option (Int32 × MM)) (μ : MM) : Option (Int32 × MM) :=
  ob (f_Mo_look N μ) fun t1 μ1z => (ob (f_Mo_isAmong N 2006 t1 μ1z) fun t8 μ2z => (if t8 = 0 then (if t1 = 91 then (ob (f_Mo_goesIn N μ2z) fun t38 μ8z => (if t38 = 0 then (some (0, μ8z))
    else (ob (rc_X12_sum μ8z) fun t47 μ9z => (ob (f_Mo_takes N 93 μ9z) fun t54 μ10z => (if t54 = 0 then (some (0, μ10z))
    else (wr (mm_I μ10z 355 12 ((μ10z.1 355 12) - 1)) fun μ11z => (some (t47, μ11z))))))))
    else (ob (f_Mo_isDigit N μ2z) fun t75 μ3z => (if t75 = 0 then (ob (f_Mo_fails N μ3z) fun t82 μ7z => (f_Mo_atom_L90 N rc_X12_atom rc_X12_term rc_X12_sum N 0 0 μ7z))
    else (f_Mo_atom_L90 N rc_X12_atom rc_X12_term rc_X12_sum N 0 0 μ3z))))
    else (wr (mm_I μ2z 355 10 ((μ2z.1 355 10) + 1)) fun μ12z => (gd (inb t1 128) (some ((μ12z.1 359 (Int32.toNatClampNeg t1)), μ12z))))))
def f_Mo_term_B87 (N : Nat) (rc_X12_atom : MM → Option (Int32 × MM)) (rc_X12_term : MM → Option (Int32 × MM)) (rc_X12_sum : MM → Option (Int32 × MM)) (k5 : Int32 → MM → Option (Int32 × MM)) (s0 : Int64) (μ : MM) : Option (Int32 × MM) :=
  ob (f_Mo_within N s0 μ) fun t87 μ6z => (k5 t87 μ6z)
def f_Mo_term_B45 (N : Nat) (rc_X12_atom : MM → Option (Int32 × MM)) (rc_X12_term : MM → Option (Int32 × MM)) (rc_X12_sum : MM → Option (Int32 × MM)) (k5 : Int32 → MM → Option (Int32 × MM)) (x1 : Int32) (s0 : Int32) (μ : MM) : Option (Int32 × MM) :=
  wr (mm_I μ 355 10 ((μ.1 355 10) + 1)) fun μ4z => (ob (rc_X12_atom μ4z) fun t57 μ5z => (if s0 = 0 then (if (lg_cmp (Int32.toInt64 t57) 0) = 0 then (f_Mo_term_B87 N rc_X12_atom rc_X12_term rc_X12_sum k5 0 μ5z)
    else (gd (nzl (Int32.toInt64 t57)) (f_Mo_term_B87 N rc_X12_atom rc_X12_term rc_X12_sum k5 ((Int32.toInt64 x1) / (Int32.toInt64 t57)) μ5z)))
    else (f_Mo_term_B87 N rc_X12_atom rc_X12_term rc_X12_sum k5 ((Int32.toInt64 x1) * (Int32.toInt64 t57)) μ5z)))
def f_Mo_term_B31 (N : Nat) (rc_X12_atom : MM → Option (Int32 × MM)) (rc_X12_term : MM → Option (Int32 × MM)) (rc_X12_sum : MM → Option (Int32 × MM)) (k5 : Int32 → MM → Option (Int32 × MM)) (x1 : Int32) (μ : MM) : Option (Int32 × MM) :=
  ob (f_Mo_look N μ) fun t32 μ3z => (f_Mo_term_B45 N rc_X12_atom rc_X12_term rc_X12_sum k5 x1 (if t32 = 42 then (1 : Int32) else 0) μ3z)
def f_Mo_term_L5 (N : Nat) (rc_X12_atom : MM → Option (Int32 × MM)) (rc_X12_term : MM → Option (Int32 × MM)) (rc_X12_sum : MM → Option (Int32 × MM)) : Nat → Int32 → MM → Option (Int32 × MM)
  | 0, _, _ => none
  | n + 1, x1, μ =>
    if (μ.1 355 11) = (-1) then (ob (f_Mo_look N μ) fun t14 μ2z => (if t14 = 42 then (f_Mo_term_B31 N rc_X12_atom rc_X12_term rc_X12_sum (f_Mo_term_L5 N rc_X12_atom rc_X12_term rc_X12_sum n) x1 μ2z)
    else (ob (f_Mo_look N μ2z) fun t23 μ7z => (if t23 = 47 then (f_Mo_term_B31 N rc_X12_atom rc_X12_term rc_X12_sum (f_Mo_term_L5 N rc_X12_atom rc_X12_term rc_X12_sum n) x1 μ7z)
    else (some (x1, μ7z))))))
    else (some (x1, μ))
def f_Mo_term_body (N : Nat) (rc_X12_atom : MM → Option (Int32 × MM)) (rc_X12_term : MM → Option (Int32 × MM)) (rc_X12_sum : MM → Option (Int32 × MM)) (μ : MM) : Option (Int32 × MM) :=
  ob (rc_X12_atom μ) fun t1 μ1z => (f_Mo_term_L5 N rc_X12_atom rc_X12_term rc_X12_sum N t1 μ1z)
def f_Mo_sum_B77 (N : Nat) (rc_X12_atom : MM → Option (Int32 × MM)) (rc_X12_term : MM → Option (Int32 × MM)) (rc_X12_sum : MM → Option (Int32 × MM)) (k5 : Int32 → MM → Option (Int32 × MM)) (s0 : Int64) (μ : MM) : Option (Int32 × MM) :=
  ob (f_Mo_within N s0 μ) fun t77 μ6z => (k5 t77 μ6z)
def f_Mo_sum_B45 (N : Nat) (rc_X12_atom : MM → Option (Int32 × MM)) (rc_X12_term : MM → Option (Int32 × MM)) (rc_X12_sum : MM → Option (Int32 × MM)) (k5 : Int32 → MM → Option (Int32 × MM)) (x1 : Int32) (s0 : Int32) (μ : MM) : Option (Int32 × MM) :=
  wr (mm_I μ 355 10 ((μ.1 355 10) + 1)) fun μ4z => (ob (rc_X12_term μ4z) fun t57 μ5z => (f_Mo_sum_B77 N rc_X12_atom rc_X12_term rc_X12_sum k5 (if s0 = 0 then ((Int32.toInt64 x1) - (Int32.toInt64 t57)) else ((Int32.toInt64 x1) + (Int32.toInt64 t57))) μ5z))
def f_Mo_sum_B31 (N : Nat) (rc_X12_atom : MM → Option (Int32 × MM)) (rc_X12_term : MM → Option (Int32 × MM)) (rc_X12_sum : MM → Option (Int32 × MM)) (k5 : Int32 → MM → Option (Int32 × MM)) (x1 : Int32) (μ : MM) : Option (Int32 × MM) :=
  ob (f_Mo_look N μ) fun t32 μ3z => (f_Mo_sum_B45 N rc_X12_atom rc_X12_term rc_X12_sum k5 x1 (if t32 = 43 then (1 : Int32) else 0) μ3z)
def f_Mo_sum_L5 (N : Nat) (rc_X12_atom : MM → Option (Int32 × MM)) (rc_X12_term : MM → Option (Int32 × MM)) (rc_X12_sum : MM → Option (Int32 × MM)) : Nat → Int32 → MM → Option (Int32 × MM)
  | 0, _, _ => none
  | n + 1, x1, μ =>
    if (μ.1 355 11) = (-1) then (ob (f_Mo_look N μ) fun t14 μ2z => (if t14 = 43 then (f_Mo_sum_B31 N rc_X12_atom rc_X12_term rc_X12_sum (f_Mo_sum_L5 N rc_X12_atom rc_X12_term rc_X12_sum n) x1 μ2z)
    else (ob (f_Mo_look N μ2z) fun t23 μ7z => (if t23 = 45 then (f_Mo_sum_B31 N rc_X12_atom rc_X12_term rc_X12_sum (f_Mo_sum_L5 N rc_X12_atom rc_X12_term rc_X12_sum n) x1 μ7z)
    else (some (x1, μ7z))))))
    else (some (x1, μ))
def f_Mo_sum_body (N : Nat) (rc_X12_atom : MM → Option (Int32 × MM)) (rc_X12_term : MM → Option (Int32 × MM)) (rc_X12_sum : MM → Option (Int32 × MM)) (μ : MM) : Option (Int32 × MM) :=
  ob (rc_X12_term μ) fun t1 μ1z => (f_Mo_sum_L5 N rc_X12_atom rc_X12_term rc_X12_sum N t1 μ1z)
def f_cl_Mo_atom (N : Nat) : Nat → Nat → Unit → MM → Option (Int32 × MM)
  | 0, _, _, _ => none
  | t + 1, g, u, μ =>
    if g = 0 then f_Mo_atom_body N (fun μ => f_cl_Mo_atom N t 0 () μ) (fun μ => f_cl_Mo_atom N t 1 () μ) (fun μ => f_cl_Mo_atom N t 2 () μ)  μ
    else if g = 1 then f_Mo_term_body N (fun μ => f_cl_Mo_atom N t 0 () μ) (fun μ => f_cl_Mo_atom N t 1 () μ) (fun μ => f_cl_Mo_atom N t 2 () μ)  μ
    else f_Mo_sum_body N (fun μ => f_cl_Mo_atom N t 0 () μ) (fun μ => f_cl_Mo_atom N t 1 () μ) (fun μ => f_cl_Mo_atom N t 2 () μ)  μ
def f_Mo_atom (N : Nat) (μ : MM) : Option (Int32 × MM) := f_cl_Mo_atom N 40 0 () μ
def f_Mo_term (N : Nat) (μ : MM) : Option (Int32 × MM) := f_cl_Mo_atom N 40 1 () μ
def f_Mo_sum (N : Nat) (μ : MM) : Option (Int32 × MM) := f_cl_Mo_atom N 40 2 () μ
def f_Mo_isSign (N : Nat) (x0 : Int32) (μ : MM) : Option (Int32 × MM) :=
  if x0 = 61 then (some (1, μ))
    else (if x0 = 60 then (some (1, μ))
    else (if x0 = 62 then (some (1, μ))
    else (some (0, μ))))
def f_Mo_compares_B12 (N : Nat) (s0 : Int32) (μ : MM) : Option (Int32 × MM) :=
  if (μ.1 355 11) = (-1) then (ob (f_Mo_look N μ) fun t24 μ2z => (ob (f_Mo_isSign N t24 μ2z) fun t31 μ3z => (if t31 = 0 then (ob (f_Mo_fails N μ3z) fun t38 μ6z => (gd (zb t38) (some (t38, μ6z))))
    else (wr (mm_I μ3z 355 10 ((μ3z.1 355 10) + 1)) fun μ4z => (ob (f_Mo_sum N μ4z) fun t53 μ5z => (gd (zb (if t24 = 61 then (if s0 = t53 then (1 : Int32) else 0) else (if t24 = 60 then (if t53 ≤ s0 then (0 : Int32) else 1) else (if s0 ≤ t53 then (0 : Int32) else 1)))) (some ((if t24 = 61 then (if s0 = t53 then (1 : Int32) else 0) else (if t24 = 60 then (if t53 ≤ s0 then (0 : Int32) else 1) else (if s0 ≤ t53 then (0 : Int32) else 1))), μ5z))))))))
    else (some (0, μ))
def f_Mo_compares (N : Nat) (x1 : Int32) (x2 : Int32) (μ : MM) : Option (Int32 × MM) :=
  if x1 = 0 then (ob (f_Mo_sum N μ) fun t9 μ1z => (f_Mo_compares_B12 N t9 μ1z))
    else (f_Mo_compares_B12 N x2 μ)
def f_Mo_unit_body (N : Nat) (rc_X12_unit : MM → Option (Int32 × MM)) (rc_X12_part : Int32 → Int32 → MM → Option (Int32 × MM)) (rc_X12_condition : Int32 → Int32 → MM → Option (Int32 × MM)) (μ : MM) : Option (Int32 × MM) :=
  ob (f_Mo_look N μ) fun t1 μ1z => (if t1 = 33 then (ob (f_Mo_goesIn N μ1z) fun t12 μ7z => (if t12 = 0 then (some (0, μ7z))
    else (ob (rc_X12_unit μ7z) fun t21 μ8z => (wr (mm_I μ8z 355 12 ((μ8z.1 355 12) - 1)) fun μ9z => (gd (zb (if t21 = 0 then (1 : Int32) else 0)) (some ((if t21 = 0 then (1 : Int32) else 0), μ9z)))))))
    else (if t1 = 40 then (ob (f_Mo_goesIn N μ1z) fun t52 μ3z => (if t52 = 0 then (some (0, μ3z))
    else (ob (rc_X12_condition 0 0 μ3z) fun t63 μ4z => (ob (f_Mo_takes N 41 μ4z) fun t70 μ5z => (if t70 = 0 then (some (0, μ5z))
    else (wr (mm_I μ5z 355 12 ((μ5z.1 355 12) - 1)) fun μ6z => (gd (zb t63) (some (t63, μ6z)))))))))
    else (ob (f_Mo_compares N 0 0 μ1z) fun t93 μ2z => (gd (zb t93) (some (t93, μ2z))))))
def f_Mo_part_L18 (N : Nat) (rc_X12_unit : MM → Option (Int32 × MM)) (rc_X12_part : Int32 → Int32 → MM → Option (Int32 × MM)) (rc_X12_condition : Int32 → Int32 → MM → Option (Int32 × MM)) : Nat → Int32 → MM → Option (Int32 × MM)
  | 0, _, _ => none
  | n + 1, x3, μ =>
    if (μ.1 355 11) = (-1) then (ob (f_Mo_look N μ) fun t27 μ2z => (if t27 = 38 then (wr (mm_I μ2z 355 10 ((μ2z.1 355 10) + 1)) fun μ3z => (ob (rc_X12_unit μ3z) fun t46 μ4z => (if x3 = 0 then (f_Mo_part_L18 N rc_X12_unit rc_X12_part rc_X12_condition n 0 μ4z)
    else (if t46 = 0 then (f_Mo_part_L18 N rc_X12_unit rc_X12_part rc_X12_condition n 0 μ4z)
    else (f_Mo_part_L18 N rc_X12_unit rc_X12_part rc_X12_condition n 1 μ4z)))))
    else (gd (zb x3) (some (x3, μ2z)))))
    else (gd (zb x3) (some (x3, μ)))
def f_Mo_part_body (N : Nat) (rc_X12_unit : MM → Option (Int32 × MM)) (rc_X12_part : Int32 → Int32 → MM → Option (Int32 × MM)) (rc_X12_condition : Int32 → Int32 → MM → Option (Int32 × MM)) (x1 : Int32) (x2 : Int32) (μ : MM) : Option (Int32 × MM) :=
  if x1 = 0 then (ob (rc_X12_unit μ) fun t14 μ1z => (f_Mo_part_L18 N rc_X12_unit rc_X12_part rc_X12_condition N t14 μ1z))
    else (ob (f_Mo_compares N 1 x2 μ) fun t7 μ5z => (f_Mo_part_L18 N rc_X12_unit rc_X12_part rc_X12_condition N t7 μ5z))
def f_Mo_condition_L7 (N : Nat) (rc_X12_unit : MM → Option (Int32 × MM)) (rc_X12_part : Int32 → Int32 → MM → Option (Int32 × MM)) (rc_X12_condition : Int32 → Int32 → MM → Option (Int32 × MM)) : Nat → Int32 → MM → Option (Int32 × MM)
  | 0, _, _ => none
  | n + 1, x3, μ =>
    if (μ.1 355 11) = (-1) then (ob (f_Mo_look N μ) fun t16 μ2z => (if t16 = 124 then (wr (mm_I μ2z 355 10 ((μ2z.1 355 10) + 1)) fun μ3z => (ob (rc_X12_part 0 0 μ3z) fun t37 μ4z => (if x3 = 0 then (if t37 = 0 then (f_Mo_condition_L7 N rc_X12_unit rc_X12_part rc_X12_condition n 0 μ4z)
    else (f_Mo_condition_L7 N rc_X12_unit rc_X12_part rc_X12_condition n 1 μ4z))
    else (f_Mo_condition_L7 N rc_X12_unit rc_X12_part rc_X12_condition n 1 μ4z))))
    else (gd (zb x3) (some (x3, μ2z)))))
    else (gd (zb x3) (some (x3, μ)))
def f_Mo_condition_body (N : Nat) (rc_X12_unit : MM → Option (Int32 × MM)) (rc_X12_part : Int32 → Int32 → MM → Option (Int32 × MM)) (rc_X12_condition : Int32 → Int32 → MM → Option (Int32 × MM)) (x1 : Int32) (x2 : Int32) (μ : MM) : Option (Int32 × MM) :=
  ob (rc_X12_part x1 x2 μ) fun t3 μ1z => (f_Mo_condition_L7 N rc_X12_unit rc_X12_part rc_X12_condition N t3 μ1z)
def f_cl_Mo_unit (N : Nat) : Nat → Nat → Int32 → Int32 → MM → Option (Int32 × MM)
  | 0, _, _, _, _ => none
  | t + 1, g, a0, a1, μ =>
    if g = 0 then f_Mo_unit_body N (fun μ => f_cl_Mo_unit N t 0 0 0 μ) (fun x1 x2 μ => f_cl_Mo_unit N t 1 x1 x2 μ) (fun x1 x2 μ => f_cl_Mo_unit N t 2 x1 x2 μ)  μ
    else if g = 1 then f_Mo_part_body N (fun μ => f_cl_Mo_unit N t 0 0 0 μ) (fun x1 x2 μ => f_cl_Mo_unit N t 1 x1 x2 μ) (fun x1 x2 μ => f_cl_Mo_unit N t 2 x1 x2 μ) a0 a1 μ
    else f_Mo_condition_body N (fun μ => f_cl_Mo_unit N t 0 0 0 μ) (fun x1 x2 μ => f_cl_Mo_unit N t 1 x1 x2 μ) (fun x1 x2 μ => f_cl_Mo_unit N t 2 x1 x2 μ) a0 a1 μ
def f_Mo_unit (N : Nat) (μ : MM) : Option (Int32 × MM) := f_cl_Mo_unit N 40 0 0 0 μ
def f_Mo_part (N : Nat) (x1 : Int32) (x2 : Int32) (μ : MM) : Option (Int32 × MM) := f_cl_Mo_unit N 40 1 x1 x2 μ
def f_Mo_condition (N : Nat) (x1 : Int32) (x2 : Int32) (μ : MM) : Option (Int32 × MM) := f_cl_Mo_unit N 40 2 x1 x2 μ
def f_Mo_clause_B134 (N : Nat) (x1 : Int32) (x2 : Int32) (x3 : Int32) (μ : MM) : Option MM :=
  if (μ.1 355 11) = (-1) then (if (μ.1 355 17) = 0 then (if x1 = (μ.1 355 13) then (if x2 = 0 then (some μ)
    else (wr (mm_I μ 355 17 1) fun μ9z => (wr (mm_I μ9z 355 14 x3) fun μ10z => (some μ10z))))
    else (some μ))
    else (some μ))
    else (some μ)
def f_Mo_clause_B64 (N : Nat) (x1 : Int32) (μ : MM) : Option MM :=
  ob (f_Mo_condition N 0 0 μ) fun t67 μ6z => (ob (f_Mo_takes N 63 μ6z) fun t74 μ7z => (if t74 = 0 then (some μ7z)
    else (ob (f_Mo_sum N μ7z) fun t82 μ8z => (f_Mo_clause_B134 N x1 t67 t82 μ8z))))
def f_Mo_clause (N : Nat) (μ : MM) : Option MM :=
  ob (f_Mo_look N μ) fun t1 μ1z => (ob (f_Mo_isAmong N 2005 t1 μ1z) fun t8 μ2z => (if t8 = 0 then (ob (f_Mo_fails N μ2z) fun t15 μ17z => (some μ17z))
    else (wr (mm_I μ2z 355 10 ((μ2z.1 355 10) + 1)) fun μ3z => (ob (f_Mo_takes N 58 μ3z) fun t33 μ4z => (if t33 = 0 then (some μ4z)
    else (ob (f_Mo_look N μ4z) fun t45 μ5z => (if t45 = 33 then (f_Mo_clause_B64 N t1 μ5z)
    else (if t45 = 40 then (f_Mo_clause_B64 N t1 μ5z)
    else (ob (f_Mo_sum N μ5z) fun t90 μ11z => (if (μ11z.1 355 11) = (-1) then (ob (f_Mo_look N μ11z) fun t103 μ12z => (ob (f_Mo_isSign N t103 μ12z) fun t106 μ13z => (if t106 = 0 then (f_Mo_clause_B134 N t1 1 t90 μ13z)
    else (ob (f_Mo_condition N 1 t90 μ13z) fun t115 μ14z => (ob (f_Mo_takes N 63 μ14z) fun t122 μ15z => (if t122 = 0 then (some μ15z)
    else (ob (f_Mo_sum N μ15z) fun t130 μ16z => (f_Mo_clause_B134 N t1 t115 t130 μ16z))))))))
    else (f_Mo_clause_B134 N t1 1 t90 μ11z)))))))))))
def f_Mo_starts (N : Nat) (q1 : Nat) (x2 : Int32) (x3 : Int32) (μ : MM) : Option MM :=
  wr (mm_I μ 355 5 (Int32.ofNat q1)) fun μ1z => (wr (mm_I μ1z 355 8 x2) fun μ2z => (wr (mm_I μ2z 355 9 x3) fun μ3z => (wr (mm_I μ3z 355 10 0) fun μ4z => (wr (mm_I μ4z 355 11 (-1)) fun μ5z => (some μ5z)))))
def f_Mo_goThrough_B66 (N : Nat) (q1 : Nat) (μ : MM) : Option MM :=
  if (μ.1 355 11) = (-1) then (ob (f_Mo_look N μ) fun t75 μ7z => (if t75 = (-1) then (some μ7z)
    else (ob (f_Mo_fails N μ7z) fun t83 μ8z => (some μ8z))))
    else (some μ)
def f_Mo_goThrough_L32 (N : Nat) (q1 : Nat) : Nat → MM → Option MM
  | 0, _ => none
  | n + 1, μ =>
    if (μ.1 355 11) = (-1) then (ob (f_Mo_look N μ) fun t41 μ9z => (if t41 = 59 then (wr (mm_I μ9z 355 10 ((μ9z.1 355 10) + 1)) fun μ10z => (obv (f_Mo_clause N μ10z) fun μ11z => (f_Mo_goThrough_L32 N q1 n  μ11z)))
    else (f_Mo_goThrough_B66 N q1  μ9z)))
    else (f_Mo_goThrough_B66 N q1  μ)
def f_Mo_goThrough (N : Nat) (q1 : Nat) (x2 : Int32) (x3 : Int32) (μ : MM) : Option MM :=
  obv (f_Mo_starts N q1 x2 x3 μ) fun μ1z => (wr (mm_I μ1z 355 13 121) fun μ2z => (wr (mm_I μ2z 355 12 0) fun μ3z => (wr (mm_I μ3z 355 17 0) fun μ4z => (wr (mm_I μ4z 355 14 0) fun μ5z => (obv (f_Mo_clause N μ5z) fun μ6z => (f_Mo_goThrough_L32 N q1 N  μ6z))))))
def f_Mo_here (N : Nat) (μ : MM) : Option (Int32 × MM) :=
  if (μ.1 355 9) ≤ (μ.1 355 10) then (some ((-1), μ))
    else (gd (decide (sh_k ((μ.1 355 5).toNatClampNeg) = 21)) (gd (inb ((μ.1 355 8) + (μ.1 355 10)) (sh_n ((μ.1 355 5).toNatClampNeg))) (some (((μ.1 ((μ.1 355 5).toNatClampNeg) (Int32.toNatClampNeg ((μ.1 355 8) + (μ.1 355 10)))) &&& 255), μ))))
def f_Mo_spotOf_L2 (N : Nat) (q0 : Nat) : Nat → Int32 → Int32 → MM → Option (Int32 × MM)
  | 0, _, _, _ => none
  | n + 1, x1, x2, μ =>
    ob (f_St_length_8abf5 N q0 μ) fun t4 μ1z => (if t4 ≤ x2 then (some ((-1), μ1z))
    else (ob (f_St_charAt_5068e N q0 x2 μ1z) fun t12 μ2z => (if t12 = x1 then (some (x2, μ2z))
    else (f_Mo_spotOf_L2 N q0 n x1 (x2 + 1) μ2z))))
def f_Mo_spotOf (N : Nat) (q0 : Nat) (x1 : Int32) (μ : MM) : Option (Int32 × MM) :=
  f_Mo_spotOf_L2 N q0 N x1 0 μ
def f_Mo_number_B67 (N : Nat) (x1 : Int32) (x2 : Int32) (x4 : Int32) (μ : MM) : Option (Int32 × MM) :=
  ob (f_Mo_isDigit N μ) fun t68 μ5z => (if t68 = 0 then (ob (f_Mo_isIn N (Int32.toInt64 x4) (Int32.toInt64 x1) (Int32.toInt64 x2) μ5z) fun t88 μ6z => (if t88 = 0 then (wr (mm_I μ6z 355 10 ((μ6z.1 355 10) - 1)) fun μ7z => (ob (f_Mo_fails N μ7z) fun t105 μ8z => (some (x4, μ8z))))
    else (some (x4, μ6z))))
    else (ob (f_Mo_fails N μ5z) fun t75 μ9z => (some (0, μ9z))))
def f_Mo_number (N : Nat) (x1 : Int32) (x2 : Int32) (μ : MM) : Option (Int32 × MM) :=
  ob (f_Mo_look N μ) fun t1 μ1z => (ob (f_Mo_isDigit N μ1z) fun t6 μ2z => (if t6 = 0 then (ob (f_Mo_fails N μ2z) fun t13 μ12z => (some (0, μ12z)))
    else (wr (mm_I μ2z 355 10 ((μ2z.1 355 10) + 1)) fun μ3z => (ob (f_Mo_isDigit N μ3z) fun t36 μ4z => (if t36 = 0 then (f_Mo_number_B67 N x1 x2 (t1 - 48) μ4z)
    else (ob (f_Mo_here N μ4z) fun t48 μ10z => (wr (mm_I μ10z 355 10 ((μ10z.1 355 10) + 1)) fun μ11z => (f_Mo_number_B67 N x1 x2 (((10 * (t1 - 48)) + t48) - 48) μ11z))))))))
def f_Mo_mostOf_B16 (N : Nat) (x0 : Int32) (x1 : Int32) (μ : MM) : Option (Int32 × MM) :=
  if x0 = 99 then (if x1 = 2 then (some (8, μ))
    else (some (9, μ)))
    else (some (9, μ))
def f_Mo_mostOf (N : Nat) (x0 : Int32) (x1 : Int32) (μ : MM) : Option (Int32 × MM) :=
  if x0 = 115 then (if x1 = 1 then (some (99, μ))
    else (f_Mo_mostOf_B16 N x0 x1 μ))
    else (f_Mo_mostOf_B16 N x0 x1 μ)
def f_Mo_usual (N : Nat) (x0 : Int32) (x1 : Int32) (μ : MM) : Option (Int32 × MM) :=
  if x0 = 115 then (some ((if x1 = 0 then (1 : Int32) else 20), μ))
    else (if x0 = 116 then (some (1, μ))
    else (some ((if x1 = 0 then (5 : Int32) else (if x1 = 1 then (1 : Int32) else 8)), μ)))
def f_Mo_readItems_B116 (N : Nat) (q2 : Nat) (q4 : Nat) (k45 : Int32 → Int32 → Int32 → Int32 → MM → Option MM) (x1 : Int32) (x3 : Int32) (x5 : Int32) (x6 : Int32) (s1 : Int32) (s3 : Int32) (μ : MM) : Option MM :=
  ob (f_Mo_mostOf N x1 x6 μ) fun t119 μ6z => (ob (f_Mo_number N s3 t119 μ6z) fun t122 μ7z => (gd (inb s1 (sh_n q2)) (wr (mm_I μ7z q2 (Int32.toNatClampNeg s1) t122) fun μ8z => (if (μ8z.1 355 11) = (-1) then (ob (f_Mo_look N μ8z) fun t137 μ9z => (ob (f_Mo_spotOf N q4 t137 μ9z) fun t140 μ10z => (k45 x1 x3 x5 t140 μ10z)))
    else (k45 x1 x3 x5 x6 μ8z)))))
def f_Mo_readItems_B115 (N : Nat) (q2 : Nat) (q4 : Nat) (k45 : Int32 → Int32 → Int32 → Int32 → MM → Option MM) (x1 : Int32) (x3 : Int32) (x5 : Int32) (x6 : Int32) (s1 : Int32) (μ : MM) : Option MM :=
  f_Mo_readItems_B116 N q2 q4 k45 x1 x3 x5 x6 s1 0 μ
def f_Mo_readItems_L45 (N : Nat) (q2 : Nat) (q4 : Nat) : Nat → Int32 → Int32 → Int32 → Int32 → MM → Option MM
  | 0, _, _, _, _, _ => none
  | n + 1, x1, x3, x5, x6, μ =>
    if x6 = (-1) then (some μ)
    else (if (μ.1 355 11) = (-1) then (ob (f_Mo_has N x5 x6 μ) fun t63 μ4z => (if t63 = 0 then (wr (mm_I μ4z 355 10 ((μ4z.1 355 10) + 1)) fun μ5z => (if x1 = 99 then (if x6 = 0 then (f_Mo_readItems_B116 N q2 q4 (f_Mo_readItems_L45 N q2 q4 n) x1 x3 (x5 ||| ((1 : Int32) <<< (x6 &&& 31))) x6 (x3 + x6) 1 μ5z)
    else (f_Mo_readItems_B115 N q2 q4 (f_Mo_readItems_L45 N q2 q4 n) x1 x3 (x5 ||| ((1 : Int32) <<< (x6 &&& 31))) x6 (x3 + x6) μ5z))
    else (f_Mo_readItems_B115 N q2 q4 (f_Mo_readItems_L45 N q2 q4 n) x1 x3 (x5 ||| ((1 : Int32) <<< (x6 &&& 31))) x6 (x3 + x6) μ5z)))
    else (ob (f_Mo_fails N μ4z) fun t70 μ11z => (some μ11z))))
    else (some μ))
def f_Mo_readItems_L3 (N : Nat) (q2 : Nat) (q4 : Nat) : Nat → Int32 → Int32 → Int32 → MM → Option MM
  | 0, _, _, _, _ => none
  | n + 1, x1, x3, x5, μ =>
    ob (f_St_length_8abf5 N q4 μ) fun t7 μ1z => (if t7 ≤ x5 then (ob (f_Mo_look N μ1z) fun t37 μ2z => (ob (f_Mo_spotOf N q4 t37 μ2z) fun t40 μ3z => (f_Mo_readItems_L45 N q2 q4 N x1 x3 0 t40 μ3z)))
    else (ob (f_Mo_usual N x1 x5 μ1z) fun t21 μ12z => (gd (inb (x3 + x5) (sh_n q2)) (wr (mm_I μ12z q2 (Int32.toNatClampNeg (x3 + x5)) t21) fun μ13z => (f_Mo_readItems_L3 N q2 q4 n x1 x3 (x5 + 1) μ13z)))))
def f_Mo_readItems (N : Nat) (q2 : Nat) (q4 : Nat) (x1 : Int32) (x3 : Int32) (μ : MM) : Option MM :=
  f_Mo_readItems_L3 N q2 q4 N x1 x3 0 μ
def f_Mo_isBehindColon (N : Nat) (μ : MM) : Option (Int32 × MM) :=
  if (μ.1 355 11) = (-1) then (ob (f_Mo_look N μ) fun t11 μ1z => (if t11 = 58 then (wr (mm_I μ1z 355 10 ((μ1z.1 355 10) + 1)) fun μ2z => (some (1, μ2z)))
    else (ob (f_Mo_fails N μ1z) fun t20 μ3z => (some (0, μ3z)))))
    else (some (0, μ))
def f_Mo_readMarks_L12 (N : Nat) : Nat → Int32 → Int32 → MM → Option (Int32 × MM)
  | 0, _, _, _ => none
  | n + 1, x1, x2, μ =>
    if x2 = (-1) then (some (x1, μ))
    else (ob (f_Mo_has N x1 x2 μ) fun t19 μ3z => (if t19 = 0 then (wr (mm_I μ3z 355 10 ((μ3z.1 355 10) + 1)) fun μ4z => (ob (f_Mo_look N μ4z) fun t51 μ5z => (ob (f_Mo_spotOf N 2009 t51 μ5z) fun t54 μ6z => (f_Mo_readMarks_L12 N n (x1 ||| ((1 : Int32) <<< (x2 &&& 31))) t54 μ6z))))
    else (ob (f_Mo_fails N μ3z) fun t26 μ7z => (some (x1, μ7z)))))
def f_Mo_readMarks (N : Nat) (μ : MM) : Option (Int32 × MM) :=
  ob (f_Mo_look N μ) fun t5 μ1z => (ob (f_Mo_spotOf N 2009 t5 μ1z) fun t8 μ2z => (f_Mo_readMarks_L12 N N 0 t8 μ2z))
def f_Mo_begins (N : Nat) (x0 : Int32) (μ : MM) : Option (Int32 × MM) :=
  ob (f_Mo_spotOf N 2011 x0 μ) fun t3 μ1z => (gd (zb (if t3 = (-1) then (0 : Int32) else 1)) (some ((if t3 = (-1) then (0 : Int32) else 1), μ1z)))
def f_Mo_readWord_B78 (N : Nat) (q1 : Nat) (x2 : Int32) (x4 : Int32) (s0 : Int32) (μ : MM) : Option MM :=
  if s0 = (-1) then (ob (f_Mo_fails N μ) fun t87 μ7z => (some μ7z))
    else (wr (mm_I μ 355 10 ((μ.1 355 10) + 1)) fun μ4z => (gd (inb x2 (sh_n q1)) (wr (mm_I μ4z q1 (Int32.toNatClampNeg x2) x4) fun μ5z => (gd (inb (x2 + 1) (sh_n q1)) (wr (mm_I μ5z q1 (Int32.toNatClampNeg (x2 + 1)) s0) fun μ6z => (some μ6z))))))
def f_Mo_readWord_B43 (N : Nat) (q1 : Nat) (x2 : Int32) (x4 : Int32) (μ : MM) : Option MM :=
  ob (f_Mo_look N μ) fun t44 μ2z => (if x4 = 2 then (ob (f_Mo_isDigit N μ2z) fun t55 μ8z => (f_Mo_readWord_B78 N q1 x2 x4 (if t55 = 0 then ((-1) : Int32) else (t44 - 48)) μ8z))
    else (ob (f_Mo_spotOf N 2009 t44 μ2z) fun t75 μ3z => (f_Mo_readWord_B78 N q1 x2 x4 t75 μ3z)))
def f_Mo_readWord_B26 (N : Nat) (q1 : Nat) (x2 : Int32) (s0 : Int32) (μ : MM) : Option MM :=
  if s0 ≤ 0 then (f_Mo_readWord_B43 N q1 x2 s0 μ)
    else (wr (mm_I μ 355 10 ((μ.1 355 10) + 1)) fun μ9z => (f_Mo_readWord_B43 N q1 x2 s0 μ9z))
def f_Mo_readWord (N : Nat) (q1 : Nat) (x2 : Int32) (μ : MM) : Option MM :=
  ob (f_Mo_look N μ) fun t1 μ1z => (f_Mo_readWord_B26 N q1 x2 (if t1 = 45 then (1 : Int32) else (if t1 = 62 then (2 : Int32) else 0)) μ1z)
def f_Mo_readWords_B32 (N : Nat) (q1 : Nat) (μ : MM) : Option MM :=
  ob (f_Mo_fails N μ) fun t33 μ1z => (some μ1z)
def f_Mo_readWords_B16 (N : Nat) (q1 : Nat) (k2 : Int32 → Int32 → MM → Option MM) (x2 : Int32) (x3 : Int32) (μ : MM) : Option MM :=
  if x3 = 6 then (f_Mo_readWords_B32 N q1  μ)
    else (ob (f_Mo_look N μ) fun t23 μ2z => (ob (f_Mo_begins N t23 μ2z) fun t26 μ3z => (if t26 = 0 then (f_Mo_readWords_B32 N q1  μ3z)
    else (obv (f_Mo_readWord N q1 ((x2 + 1) + (2 * x3)) μ3z) fun μ4z => (if (μ4z.1 355 11) = (-1) then (k2 x2 (x3 + 1) μ4z)
    else (some μ4z))))))
def f_Mo_readWords_L2 (N : Nat) (q1 : Nat) : Nat → Int32 → Int32 → MM → Option MM
  | 0, _, _, _ => none
  | n + 1, x2, x3, μ =>
    if x3 = 0 then (f_Mo_readWords_B16 N q1 (f_Mo_readWords_L2 N q1 n) x2 x3 μ)
    else (ob (f_Mo_look N μ) fun t7 μ5z => (ob (f_Mo_begins N t7 μ5z) fun t10 μ6z => (if t10 = 0 then (gd (inb x2 (sh_n q1)) (wr (mm_I μ6z q1 (Int32.toNatClampNeg x2) x3) fun μ7z => (some μ7z)))
    else (f_Mo_readWords_B16 N q1 (f_Mo_readWords_L2 N q1 n) x2 x3 μ6z))))
def f_Mo_readWords (N : Nat) (q1 : Nat) (x2 : Int32) (μ : MM) : Option MM :=
  f_Mo_readWords_L2 N q1 N x2 0 μ
def f_Mo_readClause_B53 (N : Nat) (x1 : Int32) (s0 : Int32) (μ : MM) : Option MM :=
  if s0 = 0 then (ob (f_Mo_fails N μ) fun t59 μ14z => (some μ14z))
    else (wr (mm_I μ 355 10 ((μ.1 355 10) + 1)) fun μ2z => (if x1 = 115 then (wr (mm_I μ2z 355 31 1) fun μ12z => (obv (f_Mo_readItems N 361 2007 x1 0 μ12z) fun μ13z => (some μ13z)))
    else (if x1 = 116 then (wr (mm_I μ2z 355 28 ((μ2z.1 355 28) + 1)) fun μ7z => (obv (f_Mo_readItems N 363 2008 x1 (2 * ((μ7z.1 355 28) - 1)) μ7z) fun μ8z => (ob (f_Mo_isBehindColon N μ8z) fun t137 μ9z => (if t137 = 0 then (some μ9z)
    else (ob (f_Mo_readMarks N μ9z) fun t156 μ10z => (gd (inb ((2 * (μ9z.1 355 28)) - 1) 16) (wr (mm_I μ10z 363 (Int32.toNatClampNeg ((2 * (μ9z.1 355 28)) - 1)) t156) fun μ11z => (some μ11z))))))))
    else (wr (mm_I μ2z 355 29 ((μ2z.1 355 29) + 1)) fun μ3z => (obv (f_Mo_readItems N 366 2010 x1 (16 * ((μ3z.1 355 29) - 1)) μ3z) fun μ4z => (ob (f_Mo_isBehindColon N μ4z) fun t195 μ5z => (if t195 = 0 then (some μ5z)
    else (obv (f_Mo_readWords N 366 ((16 * ((μ5z.1 355 29) - 1)) + 3) μ5z) fun μ6z => (some μ6z)))))))))
def f_Mo_readClause_B52 (N : Nat) (x1 : Int32) (μ : MM) : Option MM :=
  f_Mo_readClause_B53 N x1 0 μ
def f_Mo_readClause_B48 (N : Nat) (x1 : Int32) (μ : MM) : Option MM :=
  f_Mo_readClause_B53 N x1 1 μ
def f_Mo_readClause_B33 (N : Nat) (x1 : Int32) (μ : MM) : Option MM :=
  if x1 = 99 then (if 6 ≤ (μ.1 355 29) then (f_Mo_readClause_B52 N x1 μ)
    else (f_Mo_readClause_B48 N x1 μ))
    else (f_Mo_readClause_B52 N x1 μ)
def f_Mo_readClause_B18 (N : Nat) (x1 : Int32) (μ : MM) : Option MM :=
  if x1 = 116 then (if (μ.1 355 28) < 8 then (f_Mo_readClause_B48 N x1 μ)
    else (f_Mo_readClause_B33 N x1 μ))
    else (f_Mo_readClause_B33 N x1 μ)
def f_Mo_readClause (N : Nat) (μ : MM) : Option MM :=
  ob (f_Mo_look N μ) fun t1 μ1z => (if t1 = 115 then (if (μ1z.1 355 31) = 0 then (f_Mo_readClause_B48 N t1 μ1z)
    else (f_Mo_readClause_B18 N t1 μ1z))
    else (f_Mo_readClause_B18 N t1 μ1z))
def f_Mo_isWhole_L4 (N : Nat) : Nat → Int32 → Int32 → MM → Option (Int32 × MM)
  | 0, _, _, _ => none
  | n + 1, x1, x2, μ =>
    if (μ.1 355 29) ≤ x2 then (if (μ.1 355 28) ≤ 0 then (some (0, μ))
    else (if (μ.1 355 29) ≤ 0 then (some (0, μ))
    else (some (1, μ))))
    else (gd (inb ((16 * x2) + 2) 96) (if (μ.1 366 (Int32.toNatClampNeg ((16 * x2) + 2))) = 8 then (f_Mo_isWhole_L4 N n x1 (x2 + 1) μ)
    else (if (μ.1 355 28) ≤ (μ.1 366 (Int32.toNatClampNeg ((16 * x2) + 2))) then (some (0, μ))
    else (ob (f_Mo_has N x1 (μ.1 366 (Int32.toNatClampNeg ((16 * x2) + 2))) μ) fun t43 μ1z => (if t43 = 0 then (f_Mo_isWhole_L4 N n (x1 ||| ((1 : Int32) <<< ((μ.1 366 (Int32.toNatClampNeg ((16 * x2) + 2))) &&& 31))) (x2 + 1) μ1z)
    else (some (0, μ1z)))))))
def f_Mo_isWhole (N : Nat) (μ : MM) : Option (Int32 × MM) :=
  f_Mo_isWhole_L4 N N 0 0 μ
def f_Mo_readCollection_B134 (N : Nat) (μ : MM) : Option MM :=
  ob (f_Mo_fails N μ) fun t135 μ6z => (some μ6z)
def f_Mo_readCollection_B111 (N : Nat) (μ : MM) : Option MM :=
  if (μ.1 355 11) = (-1) then (ob (f_Mo_look N μ) fun t120 μ5z => (if t120 = (-1) then (ob (f_Mo_isWhole N μ5z) fun t128 μ7z => (if t128 = 0 then (f_Mo_readCollection_B134 N  μ7z)
    else (some μ7z)))
    else (f_Mo_readCollection_B134 N  μ5z)))
    else (some μ)
def f_Mo_readCollection_B93 (N : Nat) (k55 : Int32 → MM → Option MM) (s0 : Int32) (μ : MM) : Option MM :=
  if s0 = 0 then (k55 s0 μ)
    else (wr (mm_I μ 355 10 ((μ.1 355 10) + 1)) fun μ9z => (k55 s0 μ9z))
def f_Mo_readCollection_B92 (N : Nat) (k55 : Int32 → MM → Option MM) (μ : MM) : Option MM :=
  f_Mo_readCollection_B93 N k55 0 μ
def f_Mo_readCollection_L55 (N : Nat) : Nat → Int32 → MM → Option MM
  | 0, _, _ => none
  | n + 1, x1, μ =>
    if x1 = 0 then (f_Mo_readCollection_B111 N  μ)
    else (if (μ.1 355 11) = (-1) then (obv (f_Mo_readClause N μ) fun μ8z => (if (μ8z.1 355 11) = (-1) then (ob (f_Mo_look N μ8z) fun t80 μ10z => (if t80 = 59 then (f_Mo_readCollection_B93 N (f_Mo_readCollection_L55 N n) 1 μ10z)
    else (f_Mo_readCollection_B92 N (f_Mo_readCollection_L55 N n)  μ10z)))
    else (f_Mo_readCollection_B92 N (f_Mo_readCollection_L55 N n)  μ8z)))
    else (f_Mo_readCollection_B111 N  μ))
def f_Mo_readCollection_L30 (N : Nat) : Nat → Int32 → MM → Option MM
  | 0, _, _ => none
  | n + 1, x1, μ =>
    if 2 ≤ x1 then (f_Mo_readCollection_L55 N N 1 μ)
    else (ob (f_Mo_usual N 115 x1 μ) fun t43 μ11z => (gd (inb x1 2) (wr (mm_I μ11z 361 (Int32.toNatClampNeg x1) t43) fun μ12z => (f_Mo_readCollection_L30 N n (x1 + 1) μ12z))))
def f_Mo_readCollection (N : Nat) (μ : MM) : Option MM :=
  obv (f_Mo_starts N 356 0 (μ.1 355 6) μ) fun μ1z => (wr (mm_I μ1z 355 28 0) fun μ2z => (wr (mm_I μ2z 355 29 0) fun μ3z => (wr (mm_I μ3z 355 31 0) fun μ4z => (f_Mo_readCollection_L30 N N 0 μ4z))))
def f_Mo_fault_B46 (N : Nat) (x1 : Int32) (μ : MM) : Option (Int32 × MM) :=
  if x1 = 2 then (obv (f_Mo_starts N 356 0 (μ.1 355 6) μ) fun μ3z => (obv (f_Mo_readWords N 367 52 μ3z) fun μ4z => (if (μ4z.1 355 11) = (-1) then (ob (f_Mo_look N μ4z) fun t83 μ5z => (if t83 = (-1) then (some ((μ5z.1 355 11), μ5z))
    else (ob (f_Mo_fails N μ5z) fun t91 μ6z => (some ((μ6z.1 355 11), μ6z)))))
    else (some ((μ4z.1 355 11), μ4z)))))
    else (some ((μ.1 355 11), μ))
def f_Mo_fault_B28 (N : Nat) (x1 : Int32) (μ : MM) : Option (Int32 × MM) :=
  if x1 = 1 then (obv (f_Mo_goThrough N 356 0 (μ.1 355 6) μ) fun μ7z => (f_Mo_fault_B46 N x1 μ7z))
    else (f_Mo_fault_B46 N x1 μ)
def f_Mo_fault (N : Nat) (x1 : Int32) (μ : MM) : Option (Int32 × MM) :=
  wr (mm_I μ 355 0 0) fun μ1z => (ob (f_Mo_isIn N (Int32.toInt64 x1) 0 2 μ1z) fun t11 μ2z => (if t11 = 0 then (some ((-2), μ2z))
    else (if x1 = 0 then (obv (f_Mo_readCollection N μ2z) fun μ8z => (f_Mo_fault_B28 N x1 μ8z))
    else (f_Mo_fault_B28 N x1 μ2z))))
def f_Mo_lays_L18 (N : Nat) (q0 : Nat) (q2 : Nat) : Nat → Int32 → Int32 → Int32 → Int32 → Int32 → MM → Option MM
  | 0, _, _, _, _, _, _ => none
  | n + 1, x1, x3, x4, x5, x6, μ =>
    if x5 ≤ x6 then (some μ)
    else (gd (inb ((x3 + 1) + (2 * x6)) (sh_n q2)) (gd (inb (((20 * x1) + 2) + (3 * x6)) (sh_n q0)) (wr (mm_I μ q0 (Int32.toNatClampNeg (((20 * x1) + 2) + (3 * x6))) (μ.1 q2 (Int32.toNatClampNeg ((x3 + 1) + (2 * x6))))) fun μ2z => (gd (inb ((x3 + 2) + (2 * x6)) (sh_n q2)) (gd (inb (((20 * x1) + 3) + (3 * x6)) (sh_n q0)) (wr (mm_I μ2z q0 (Int32.toNatClampNeg (((20 * x1) + 3) + (3 * x6))) (μ2z.1 q2 (Int32.toNatClampNeg ((x3 + 2) + (2 * x6))))) fun μ3z => (gd (inb (((20 * x1) + 4) + (3 * x6)) (sh_n q0)) (wr (mm_I μ3z q0 (Int32.toNatClampNeg (((20 * x1) + 4) + (3 * x6))) x4) fun μ4z => (f_Mo_lays_L18 N q0 q2 n x1 x3 x4 x5 (x6 + 1) μ4z)))))))))
def f_Mo_lays (N : Nat) (q0 : Nat) (q2 : Nat) (x1 : Int32) (x3 : Int32) (x4 : Int32) (μ : MM) : Option MM :=
  gd (inb x3 (sh_n q2)) (gd (inb ((20 * x1) + 1) (sh_n q0)) (wr (mm_I μ q0 (Int32.toNatClampNeg ((20 * x1) + 1)) (μ.1 q2 (Int32.toNatClampNeg x3))) fun μ1z => (f_Mo_lays_L18 N q0 q2 N x1 x3 x4 (μ.1 q2 (Int32.toNatClampNeg x3)) 0 μ1z)))
def f_Mo_text_B353 (N : Nat) (k306 : Int32 → MM → Option (Int32 × MM)) (x3 : Int32) (s1 : Int32) (s2 : Int32) (μ : MM) : Option (Int32 × MM) :=
  gd (inb s1 304) (wr (mm_I μ 368 (Int32.toNatClampNeg s1) s2) fun μ12z => (gd (inb (16 * x3) 96) (obv (f_Mo_lays N 368 365 x3 ((16 * x3) + 3) (μ12z.1 365 (Int32.toNatClampNeg (16 * x3))) μ12z) fun μ13z => (k306 (x3 + 1) μ13z))))
def f_Mo_text_L306 (N : Nat) : Nat → Int32 → MM → Option (Int32 × MM)
  | 0, _, _ => none
  | n + 1, x3, μ =>
    if (μ.1 355 27) ≤ x3 then (wr (mm_I μ 368 120 (μ.1 360 0)) fun μ7z => (wr (mm_I μ7z 368 121 (μ7z.1 360 1)) fun μ8z => (wr (mm_I μ8z 355 45 0) fun μ9z => (wr (mm_I μ9z 355 37 0) fun μ10z => (wr (mm_I μ10z 355 48 0) fun μ11z => (some ((μ11z.1 355 27), μ11z)))))))
    else (gd (inb ((16 * x3) + 2) 96) (if (μ.1 365 (Int32.toNatClampNeg ((16 * x3) + 2))) = 8 then (f_Mo_text_B353 N (f_Mo_text_L306 N n) x3 (20 * x3) (-1) μ)
    else (gd (inb ((16 * x3) + 2) 96) (f_Mo_text_B353 N (f_Mo_text_L306 N n) x3 (20 * x3) (μ.1 365 (Int32.toNatClampNeg ((16 * x3) + 2))) μ))))
def f_Mo_text_L284 (N : Nat) : Nat → Int32 → MM → Option (Int32 × MM)
  | 0, _, _ => none
  | n + 1, x3, μ =>
    if 304 ≤ x3 then (f_Mo_text_L306 N N 0 μ)
    else (gd (inb x3 304) (wr (mm_I μ 368 (Int32.toNatClampNeg x3) 0) fun μ14z => (f_Mo_text_L284 N n (x3 + 1) μ14z)))
def f_Mo_text_L258 (N : Nat) : Nat → Int32 → MM → Option (Int32 × MM)
  | 0, _, _ => none
  | n + 1, x3, μ =>
    if 96 ≤ x3 then (f_Mo_text_L284 N N 0 μ)
    else (gd (inb x3 96) (gd (inb x3 96) (wr (mm_I μ 365 (Int32.toNatClampNeg x3) (μ.1 366 (Int32.toNatClampNeg x3))) fun μ15z => (f_Mo_text_L258 N n (x3 + 1) μ15z))))
def f_Mo_text_L232 (N : Nat) : Nat → Int32 → MM → Option (Int32 × MM)
  | 0, _, _ => none
  | n + 1, x3, μ =>
    if 16 ≤ x3 then (f_Mo_text_L258 N N 0 μ)
    else (gd (inb x3 16) (gd (inb x3 16) (wr (mm_I μ 362 (Int32.toNatClampNeg x3) (μ.1 363 (Int32.toNatClampNeg x3))) fun μ16z => (f_Mo_text_L232 N n (x3 + 1) μ16z))))
def f_Mo_text_L207 (N : Nat) : Nat → Int32 → MM → Option (Int32 × MM)
  | 0, _, _ => none
  | n + 1, x3, μ =>
    if 2 ≤ x3 then (f_Mo_text_L232 N N 0 μ)
    else (gd (inb x3 2) (gd (inb x3 2) (wr (mm_I μ 360 (Int32.toNatClampNeg x3) (μ.1 361 (Int32.toNatClampNeg x3))) fun μ17z => (f_Mo_text_L207 N n (x3 + 1) μ17z))))
def f_Mo_text_L137 (N : Nat) : Nat → Int32 → MM → Option (Int32 × MM)
  | 0, _, _ => none
  | n + 1, x3, μ =>
    if 12 < x3 then (wr (mm_I μ 355 30 ((μ.1 355 30) + 1)) fun μ18z => (some (((μ18z.1 355 30) - 1), μ18z)))
    else (gd (inb (52 + x3) 65) (gd (inb ((13 * (μ.1 355 30)) + x3) 65) (wr (mm_I μ 367 (Int32.toNatClampNeg ((13 * (μ.1 355 30)) + x3)) (μ.1 367 (Int32.toNatClampNeg (52 + x3)))) fun μ19z => (f_Mo_text_L137 N n (x3 + 1) μ19z))))
def f_Mo_text_L71 (N : Nat) : Nat → Int32 → Int32 → MM → Option (Int32 × MM)
  | 0, _, _, _ => none
  | n + 1, x2, x3, μ =>
    if x2 ≤ x3 then (gd (inb (μ.1 355 7) 4) (wr (mm_I μ 358 (Int32.toNatClampNeg (μ.1 355 7)) x2) fun μ20z => (wr (mm_I μ20z 355 7 ((μ20z.1 355 7) + 1)) fun μ21z => (some (((μ21z.1 355 7) - 1), μ21z)))))
    else (gd (inb x3 240) (gd (inb ((240 * (μ.1 355 7)) + x3) 960) (wr (mm_I μ 357 (Int32.toNatClampNeg ((240 * (μ.1 355 7)) + x3)) (vp_nar .byte (μ.1 356 (Int32.toNatClampNeg x3)))) fun μ22z => (f_Mo_text_L71 N n x2 (x3 + 1) μ22z))))
def f_Mo_text_B43 (N : Nat) (x1 : Int32) (μ : MM) : Option (Int32 × MM) :=
  ob (f_Mo_fault N x1 μ) fun t45 μ3z => (if t45 = (-1) then (wr (mm_I μ3z 355 6 0) fun μ4z => (if x1 = 1 then (f_Mo_text_L71 N N (μ3z.1 355 6) 0 μ4z)
    else (if x1 = 2 then (f_Mo_text_L137 N N 0 μ4z)
    else (wr (mm_I μ4z 355 26 (μ4z.1 355 28)) fun μ5z => (wr (mm_I μ5z 355 27 (μ5z.1 355 29)) fun μ6z => (f_Mo_text_L207 N N 0 μ6z))))))
    else (some ((-1), μ3z)))
def f_Mo_text_B30 (N : Nat) (x1 : Int32) (μ : MM) : Option (Int32 × MM) :=
  if x1 = 2 then (if (μ.1 355 30) = 4 then (some ((-1), μ))
    else (f_Mo_text_B43 N x1 μ))
    else (f_Mo_text_B43 N x1 μ)
def f_Mo_text (N : Nat) (x1 : Int32) (μ : MM) : Option (Int32 × MM) :=
  wr (mm_I μ 355 0 0) fun μ1z => (ob (f_Mo_isIn N (Int32.toInt64 x1) 0 2 μ1z) fun t11 μ2z => (if t11 = 0 then (some ((-1), μ2z))
    else (if x1 = 1 then (if (μ2z.1 355 7) = 4 then (some ((-1), μ2z))
    else (f_Mo_text_B30 N x1 μ2z))
    else (f_Mo_text_B30 N x1 μ2z))))
def f_Mo_copies_L2 (N : Nat) (q0 : Nat) (q1 : Nat) : Nat → Int32 → MM → Option MM
  | 0, _, _ => none
  | n + 1, x2, μ =>
    if 304 ≤ x2 then (some μ)
    else (gd (inb x2 (sh_n q0)) (gd (inb x2 (sh_n q1)) (wr (mm_I μ q1 (Int32.toNatClampNeg x2) (μ.1 q0 (Int32.toNatClampNeg x2))) fun μ1z => (f_Mo_copies_L2 N q0 q1 n (x2 + 1) μ1z))))
def f_Mo_copies (N : Nat) (q0 : Nat) (q1 : Nat) (μ : MM) : Option MM :=
  f_Mo_copies_L2 N q0 q1 N 0 μ
def f_Mo_isThing (N : Nat) (x1 : Int32) (μ : MM) : Option (Int32 × MM) :=
  if x1 < 0 then (some (0, μ))
    else (if (μ.1 355 26) ≤ x1 then (some (0, μ))
    else (some (1, μ)))
def f_Mo_isCard (N : Nat) (x1 : Int32) (μ : MM) : Option (Int32 × MM) :=
  if x1 < 0 then (some (0, μ))
    else (if (μ.1 355 27) ≤ x1 then (some (0, μ))
    else (some (1, μ)))
def f_Mo_wordsOf (N : Nat) (q0 : Nat) (x1 : Int32) (μ : MM) : Option (Int32 × MM) :=
  gd (inb ((20 * x1) + 1) (sh_n q0)) (some ((μ.1 q0 (Int32.toNatClampNeg ((20 * x1) + 1))), μ))
def f_Mo_sortOf (N : Nat) (q0 : Nat) (x1 : Int32) (x2 : Int32) (μ : MM) : Option (Int32 × MM) :=
  gd (inb (((20 * x1) + 2) + (3 * x2)) (sh_n q0)) (some ((μ.1 q0 (Int32.toNatClampNeg (((20 * x1) + 2) + (3 * x2)))), μ))
def f_Mo_whatOf (N : Nat) (q0 : Nat) (x1 : Int32) (x2 : Int32) (μ : MM) : Option (Int32 × MM) :=
  gd (inb (((20 * x1) + 3) + (3 * x2)) (sh_n q0)) (some ((μ.1 q0 (Int32.toNatClampNeg (((20 * x1) + 3) + (3 * x2)))), μ))
def f_Mo_inkOf (N : Nat) (q0 : Nat) (x1 : Int32) (x2 : Int32) (μ : MM) : Option (Int32 × MM) :=
  gd (inb (((20 * x1) + 4) + (3 * x2)) (sh_n q0)) (some ((μ.1 q0 (Int32.toNatClampNeg (((20 * x1) + 4) + (3 * x2)))), μ))
def f_Mo_marks (N : Nat) (x1 : Int32) (μ : MM) : Option (Int32 × MM) :=
  gd (inb ((2 * x1) + 1) 16) (some ((μ.1 362 (Int32.toNatClampNeg ((2 * x1) + 1))), μ))
def f_Mo_isTrue_B43 (N : Nat) (q1 : Nat) (s0 : Int32) (s1 : Int32) (μ : MM) : Option (Int32 × MM) :=
  gd (zb (if s0 = s1 then (1 : Int32) else 0)) (some ((if s0 = s1 then (1 : Int32) else 0), μ))
def f_Mo_isTrue (N : Nat) (q1 : Nat) (x2 : Int32) (x3 : Int32) (x4 : Int32) (μ : MM) : Option (Int32 × MM) :=
  ob (f_Mo_whatOf N q1 x2 x3 μ) fun t3 μ1z => (ob (f_Mo_sortOf N q1 x2 x3 μ1z) fun t11 μ2z => (if 2 ≤ t11 then (if t3 = x2 then (ob (f_Mo_marks N x4 μ2z) fun t61 μ5z => (gd (zb (if t61 = 0 then (0 : Int32) else 1)) (some ((if t61 = 0 then (0 : Int32) else 1), μ5z))))
    else (if (μ2z.1 355 27) ≤ t3 then (some (0, μ2z))
    else (gd (inb (20 * t3) (sh_n q1)) (if (μ2z.1 q1 (Int32.toNatClampNeg (20 * t3))) = (-1) then (some (0, μ2z))
    else (ob (f_Mo_marks N x4 μ2z) fun t98 μ3z => (gd (inb (20 * t3) (sh_n q1)) (ob (f_Mo_marks N (μ3z.1 q1 (Int32.toNatClampNeg (20 * t3))) μ3z) fun t109 μ4z => (gd (zb (if (t98 &&& t109) = 0 then (0 : Int32) else 1)) (some ((if (t98 &&& t109) = 0 then (0 : Int32) else 1), μ4z))))))))))
    else (ob (f_Mo_marks N x4 μ2z) fun t21 μ6z => (ob (f_Mo_has N t21 t3 μ6z) fun t26 μ7z => (ob (f_Mo_sortOf N q1 x2 x3 μ7z) fun t32 μ8z => (f_Mo_isTrue_B43 N q1 t26 (if t32 = 0 then (1 : Int32) else 0) μ8z))))))
def f_Mo_fitsIn_L3 (N : Nat) (q1 : Nat) : Nat → Int32 → Int32 → Int32 → MM → Option (Int32 × MM)
  | 0, _, _, _, _ => none
  | n + 1, x2, x3, x4, μ =>
    ob (f_Mo_wordsOf N q1 x2 μ) fun t7 μ1z => (if t7 ≤ x4 then (some (1, μ1z))
    else (ob (f_Mo_inkOf N q1 x2 x4 μ1z) fun t17 μ2z => (if t17 ≤ 0 then (f_Mo_fitsIn_L3 N q1 n x2 x3 (x4 + 1) μ2z)
    else (ob (f_Mo_isTrue N q1 x2 x4 x3 μ2z) fun t29 μ3z => (if t29 = 0 then (some (0, μ3z))
    else (f_Mo_fitsIn_L3 N q1 n x2 x3 (x4 + 1) μ3z))))))
def f_Mo_fitsIn (N : Nat) (q1 : Nat) (x2 : Int32) (x3 : Int32) (μ : MM) : Option (Int32 × MM) :=
  f_Mo_fitsIn_L3 N q1 N x2 x3 0 μ
def f_Mo_isRight (N : Nat) (q1 : Nat) (x2 : Int32) (μ : MM) : Option (Int32 × MM) :=
  gd (inb (20 * x2) (sh_n q1)) (if (μ.1 q1 (Int32.toNatClampNeg (20 * x2))) = (-1) then (some (0, μ))
    else (gd (inb (20 * x2) (sh_n q1)) (ob (f_Mo_fitsIn N q1 x2 (μ.1 q1 (Int32.toNatClampNeg (20 * x2))) μ) fun t19 μ1z => (if t19 = 0 then (some (0, μ1z))
    else (some (1, μ1z))))))
def f_Mo_cardOver_L2 (N : Nat) (q1 : Nat) : Nat → Int32 → Int32 → MM → Option (Int32 × MM)
  | 0, _, _, _ => none
  | n + 1, x2, x3, μ =>
    if (μ.1 355 27) ≤ x3 then (some ((-1), μ))
    else (gd (inb (20 * x3) (sh_n q1)) (if (μ.1 q1 (Int32.toNatClampNeg (20 * x3))) = x2 then (some (x3, μ))
    else (f_Mo_cardOver_L2 N q1 n x2 (x3 + 1) μ)))
def f_Mo_cardOver (N : Nat) (q1 : Nat) (x2 : Int32) (μ : MM) : Option (Int32 × MM) :=
  f_Mo_cardOver_L2 N q1 N x2 0 μ
def f_Mo_fadeOf (N : Nat) (q1 : Nat) (x2 : Int32) (x3 : Int32) (μ : MM) : Option (Int32 × MM) :=
  gd (inb ((16 * x2) + 1) 96) (if (μ.1 355 34) = (-1) then (gd (inb 120 (sh_n q1)) (some ((if (μ.1 q1 120) = 0 then (0 : Int32) else (μ.1 365 (Int32.toNatClampNeg ((16 * x2) + 1)))), μ)))
    else (ob (f_Mo_inkOf N q1 x2 x3 μ) fun t44 μ1z => (wr (mm_I μ1z 359 105 t44) fun μ2z => (wr (mm_I μ2z 359 102 (μ.1 365 (Int32.toNatClampNeg ((16 * x2) + 1)))) fun μ3z => (gd (inb 120 (sh_n q1)) (wr (mm_I μ3z 359 108 (μ3z.1 q1 120)) fun μ4z => (wr (mm_I μ4z 359 112 x3) fun μ5z => (ob (f_Mo_sortOf N q1 x2 x3 μ5z) fun t85 μ6z => (wr (mm_I μ6z 359 107 t85) fun μ7z => (gd (inb 122 (sh_n q1)) (wr (mm_I μ7z 359 100 (μ7z.1 q1 122)) fun μ8z => (gd (inb (μ8z.1 355 34) 4) (obv (f_Mo_goThrough N 357 (240 * (μ8z.1 355 34)) (μ8z.1 358 (Int32.toNatClampNeg (μ8z.1 355 34))) μ8z) fun μ9z => (some ((if (0 : Int32) < (if (μ9z.1 355 14) < (9 : Int32) then (μ9z.1 355 14) else (9 : Int32)) then (if (μ9z.1 355 14) < (9 : Int32) then (μ9z.1 355 14) else (9 : Int32)) else (0 : Int32)), μ9z)))))))))))))))
def f_Mo_fades_L15 (N : Nat) (q1 : Nat) (k4 : Int32 → Int32 → MM → Option (Int32 × MM)) : Nat → Int32 → Int32 → Int32 → MM → Option (Int32 × MM)
  | 0, _, _, _, _ => none
  | n + 1, x2, x3, x4, μ =>
    ob (f_Mo_wordsOf N q1 x3 μ) fun t19 μ1z => (if t19 ≤ x4 then (k4 x2 (x3 + 1) μ1z)
    else (ob (f_Mo_inkOf N q1 x3 x4 μ1z) fun t29 μ2z => (if t29 = 0 then (f_Mo_fades_L15 N q1 k4 n x2 x3 (x4 + 1) μ2z)
    else (ob (f_Mo_fadeOf N q1 x3 x4 μ2z) fun t50 μ3z => (gd (inb (((20 * x3) + 4) + (3 * x4)) (sh_n q1)) (wr (mm_I μ3z q1 (Int32.toNatClampNeg (((20 * x3) + 4) + (3 * x4))) (if (0 : Int32) < (t29 - t50) then (t29 - t50) else (0 : Int32))) fun μ4z => (f_Mo_fades_L15 N q1 k4 n (x2 + (if (if (0 : Int32) < (t29 - t50) then (t29 - t50) else (0 : Int32)) = 0 then (1 : Int32) else 0)) x3 (x4 + 1) μ4z)))))))
def f_Mo_fades_L4 (N : Nat) (q1 : Nat) : Nat → Int32 → Int32 → MM → Option (Int32 × MM)
  | 0, _, _, _ => none
  | n + 1, x2, x3, μ =>
    if (μ.1 355 27) ≤ x3 then (some (x2, μ))
    else (f_Mo_fades_L15 N q1 (f_Mo_fades_L4 N q1 n) N x2 x3 0 μ)
def f_Mo_fades (N : Nat) (q1 : Nat) (μ : MM) : Option (Int32 × MM) :=
  f_Mo_fades_L4 N q1 N 0 0 μ
def f_Mo_isChanged_L5 (N : Nat) (q1 : Nat) : Nat → Int32 → Int32 → Int32 → MM → Option (Int32 × MM)
  | 0, _, _, _, _ => none
  | n + 1, x2, x3, x4, μ =>
    if (μ.1 355 26) ≤ x4 then (if x3 = (-1) then (some (0, μ))
    else (gd (inb (20 * x2) (sh_n q1)) (wr (mm_I μ q1 (Int32.toNatClampNeg (20 * x2)) x3) fun μ1z => (gd (inb 121 (sh_n q1)) (gd (inb (2 * x3) 16) (gd (inb 121 (sh_n q1)) (wr (mm_I μ1z q1 121 ((μ1z.1 q1 121) - (μ1z.1 362 (Int32.toNatClampNeg (2 * x3))))) fun μ2z => (some (1, μ2z)))))))))
    else (ob (f_Mo_cardOver N q1 x4 μ) fun t18 μ3z => (if t18 = (-1) then (gd (inb (2 * x4) 16) (gd (inb 121 (sh_n q1)) (if (μ3z.1 q1 121) < (μ3z.1 362 (Int32.toNatClampNeg (2 * x4))) then (f_Mo_isChanged_L5 N q1 n x2 x3 (x4 + 1) μ3z)
    else (ob (f_Mo_fitsIn N q1 x2 x4 μ3z) fun t46 μ4z => (if t46 = 0 then (f_Mo_isChanged_L5 N q1 n x2 x3 (x4 + 1) μ4z)
    else (if x3 = (-1) then (f_Mo_isChanged_L5 N q1 n x2 x4 (x4 + 1) μ4z)
    else (gd (inb (2 * x4) 16) (gd (inb (2 * x3) 16) (if (μ4z.1 362 (Int32.toNatClampNeg (2 * x3))) ≤ (μ4z.1 362 (Int32.toNatClampNeg (2 * x4))) then (f_Mo_isChanged_L5 N q1 n x2 x3 (x4 + 1) μ4z)
    else (f_Mo_isChanged_L5 N q1 n x2 x4 (x4 + 1) μ4z))))))))))
    else (f_Mo_isChanged_L5 N q1 n x2 x3 (x4 + 1) μ3z)))
def f_Mo_isChanged (N : Nat) (q1 : Nat) (x2 : Int32) (μ : MM) : Option (Int32 × MM) :=
  f_Mo_isChanged_L5 N q1 N x2 (-1) 0 μ
def f_Mo_goDay_B153 (N : Nat) (q1 : Nat) (x2 : Int32) (x3 : Int32) (x4 : Int32) (μ : MM) : Option MM :=
  gd (inb 123 (sh_n q1)) (gd (inb (124 + (3 * (μ.1 q1 123))) (sh_n q1)) (wr (mm_I μ q1 (Int32.toNatClampNeg (124 + (3 * (μ.1 q1 123)))) x3) fun μ3z => (gd (inb ((124 + (3 * (μ.1 q1 123))) + 1) (sh_n q1)) (wr (mm_I μ3z q1 (Int32.toNatClampNeg ((124 + (3 * (μ.1 q1 123))) + 1)) x4) fun μ4z => (gd (inb ((124 + (3 * (μ.1 q1 123))) + 2) (sh_n q1)) (wr (mm_I μ4z q1 (Int32.toNatClampNeg ((124 + (3 * (μ.1 q1 123))) + 2)) x2) fun μ5z => (gd (inb 123 (sh_n q1)) (gd (inb 123 (sh_n q1)) (wr (mm_I μ5z q1 123 ((μ5z.1 q1 123) + 1)) fun μ6z => (some μ6z))))))))))
def f_Mo_goDay_L115 (N : Nat) (q1 : Nat) : Nat → Int32 → Int32 → Int32 → Int32 → MM → Option MM
  | 0, _, _, _, _, _ => none
  | n + 1, x2, x3, x4, x5, μ =>
    if 177 < x5 then (gd (inb 123 (sh_n q1)) (gd (inb 123 (sh_n q1)) (wr (mm_I μ q1 123 ((μ.1 q1 123) - 1)) fun μ7z => (f_Mo_goDay_B153 N q1 x2 x3 x4 μ7z))))
    else (gd (inb ((123 + x5) + 3) (sh_n q1)) (gd (inb (123 + x5) (sh_n q1)) (wr (mm_I μ q1 (Int32.toNatClampNeg (123 + x5)) (μ.1 q1 (Int32.toNatClampNeg ((123 + x5) + 3)))) fun μ8z => (f_Mo_goDay_L115 N q1 n x2 x3 x4 (x5 + 1) μ8z))))
def f_Mo_goDay_L68 (N : Nat) (q1 : Nat) : Nat → Int32 → Int32 → Int32 → Int32 → MM → Option MM
  | 0, _, _, _, _, _ => none
  | n + 1, x2, x3, x4, x5, μ =>
    if (μ.1 355 27) ≤ x5 then (gd (inb 123 (sh_n q1)) (if (μ.1 q1 123) = 60 then (f_Mo_goDay_L115 N q1 N x2 x3 x4 1 μ)
    else (f_Mo_goDay_B153 N q1 x2 x3 x4 μ)))
    else (ob (f_Mo_isRight N q1 x5 μ) fun t83 μ9z => (f_Mo_goDay_L68 N q1 n x2 x3 (x4 + (if t83 = 0 then (1 : Int32) else 0)) (x5 + 1) μ9z))
def f_Mo_goDay_L22 (N : Nat) (q1 : Nat) : Nat → Int32 → Int32 → Int32 → Int32 → MM → Option MM
  | 0, _, _, _, _, _ => none
  | n + 1, x2, x3, x4, x5, μ =>
    if (μ.1 355 27) ≤ x5 then (f_Mo_goDay_L68 N q1 N x2 x3 x4 0 μ)
    else (ob (f_Mo_isRight N q1 x5 μ) fun t35 μ10z => (if t35 = 0 then (ob (f_Mo_isChanged N q1 x5 μ10z) fun t46 μ11z => (f_Mo_goDay_L22 N q1 n x2 (x3 + (if t46 = 0 then (0 : Int32) else 1)) x4 (x5 + 1) μ11z))
    else (f_Mo_goDay_L22 N q1 n x2 x3 x4 (x5 + 1) μ10z)))
def f_Mo_goDay (N : Nat) (q1 : Nat) (μ : MM) : Option MM :=
  ob (f_Mo_fades N q1 μ) fun t2 μ1z => (gd (inb 122 (sh_n q1)) (gd (inb 122 (sh_n q1)) (wr (mm_I μ1z q1 122 ((μ1z.1 q1 122) + 1)) fun μ2z => (f_Mo_goDay_L22 N q1 N t2 0 0 0 μ2z))))
def f_Mo_thing_B26 (N : Nat) (x1 : Int32) (x2 : Int32) (s1 : Int32) (μ : MM) : Option (Int32 × MM) :=
  wr (mm_I μ 355 0 s1) fun μ2z => (if (μ2z.1 355 0) ≤ 0 then (if x2 = 2 then (ob (f_Mo_cardOver N 368 x1 μ2z) fun t49 μ3z => (some (t49, μ3z)))
    else (gd (inb ((2 * x1) + x2) 16) (some ((μ2z.1 362 (Int32.toNatClampNeg ((2 * x1) + x2))), μ2z))))
    else (some (0, μ2z)))
def f_Mo_thing_B25 (N : Nat) (x1 : Int32) (x2 : Int32) (μ : MM) : Option (Int32 × MM) :=
  f_Mo_thing_B26 N x1 x2 1 μ
def f_Mo_thing (N : Nat) (x1 : Int32) (x2 : Int32) (μ : MM) : Option (Int32 × MM) :=
  ob (f_Mo_isThing N x1 μ) fun t3 μ1z => (if t3 = 0 then (f_Mo_thing_B25 N x1 x2 μ1z)
    else (ob (f_Mo_isIn N (Int32.toInt64 x2) 0 2 μ1z) fun t15 μ4z => (if t15 = 0 then (f_Mo_thing_B25 N x1 x2 μ4z)
    else (f_Mo_thing_B26 N x1 x2 0 μ4z))))
def f_Mo_card (N : Nat) (x1 : Int32) (x2 : Int32) (μ : MM) : Option (Int32 × MM) :=
  wr (mm_I μ 355 0 0) fun μ1z => (ob (f_Mo_isCard N x1 μ1z) fun t7 μ2z => (if t7 = 0 then (some ((-1), μ2z))
    else (ob (f_Mo_isIn N (Int32.toInt64 x2) 0 3 μ2z) fun t19 μ3z => (if t19 = 0 then (some ((-1), μ3z))
    else (if x2 = 0 then (gd (inb ((16 * x1) + 1) 96) (some ((μ3z.1 365 (Int32.toNatClampNeg ((16 * x1) + 1))), μ3z)))
    else (if x2 = 1 then (gd (inb (20 * x1) 304) (some ((μ3z.1 368 (Int32.toNatClampNeg (20 * x1))), μ3z)))
    else (if x2 = 2 then (ob (f_Mo_wordsOf N 368 x1 μ3z) fun t70 μ5z => (some (t70, μ5z)))
    else (ob (f_Mo_isRight N 368 x1 μ3z) fun t82 μ4z => (some ((if t82 = 0 then (0 : Int32) else 1), μ4z))))))))))
def f_Mo_word (N : Nat) (x1 : Int32) (x2 : Int32) (x3 : Int32) (μ : MM) : Option (Int32 × MM) :=
  wr (mm_I μ 355 0 0) fun μ1z => (ob (f_Mo_isCard N x1 μ1z) fun t7 μ2z => (if t7 = 0 then (some ((-1), μ2z))
    else (if x2 < 0 then (some ((-1), μ2z))
    else (ob (f_Mo_wordsOf N 368 x1 μ2z) fun t23 μ3z => (if t23 ≤ x2 then (some ((-1), μ3z))
    else (ob (f_Mo_isIn N (Int32.toInt64 x3) 0 2 μ3z) fun t35 μ4z => (if t35 = 0 then (some ((-1), μ4z))
    else (gd (inb ((((20 * x1) + 2) + (3 * x2)) + x3) 304) (some ((μ4z.1 368 (Int32.toNatClampNeg ((((20 * x1) + 2) + (3 * x2)) + x3))), μ4z))))))))))
def f_Mo_law_B28 (N : Nat) (x1 : Int32) (μ : MM) : Option (Int32 × MM) :=
  wr (mm_I μ 355 34 x1) fun μ2z => (some (1, μ2z))
def f_Mo_law (N : Nat) (x1 : Int32) (μ : MM) : Option (Int32 × MM) :=
  wr (mm_I μ 355 0 0) fun μ1z => (if x1 = (-1) then (f_Mo_law_B28 N x1 μ1z)
    else (ob (f_Mo_isIn N (Int32.toInt64 x1) 0 (Int32.toInt64 ((μ1z.1 355 7) - 1)) μ1z) fun t20 μ3z => (if t20 = 0 then (some (0, μ3z))
    else (f_Mo_law_B28 N x1 μ3z))))
def f_Mo_cleaner (N : Nat) (x1 : Int32) (μ : MM) : Option (Int32 × MM) :=
  wr (mm_I μ 355 0 0) fun μ1z => (ob (f_Mo_isIn N (Int32.toInt64 x1) 0 99 μ1z) fun t11 μ2z => (if t11 = 0 then (some (0, μ2z))
    else (if x1 = (μ2z.1 355 35) then (some (0, μ2z))
    else (wr (mm_I μ2z 355 35 x1) fun μ3z => (some (1, μ3z))))))
def f_Mo_fits (N : Nat) (x1 : Int32) (x2 : Int32) (μ : MM) : Option (Int32 × MM) :=
  wr (mm_I μ 355 0 0) fun μ1z => (ob (f_Mo_isCard N x1 μ1z) fun t7 μ2z => (if t7 = 0 then (some ((-1), μ2z))
    else (ob (f_Mo_isThing N x2 μ2z) fun t15 μ3z => (if t15 = 0 then (some ((-1), μ3z))
    else (ob (f_Mo_fitsIn N 368 x1 x2 μ3z) fun t28 μ4z => (some ((if t28 = 0 then (0 : Int32) else 1), μ4z)))))))
def f_Mo_remember_L52 (N : Nat) : Nat → Int32 → MM → Option MM
  | 0, _, _ => none
  | n + 1, x1, μ =>
    if 304 ≤ x1 then (wr (mm_I μ 355 37 ((μ.1 355 37) + 1)) fun μ1z => (some μ1z))
    else (gd (inb x1 304) (gd (inb ((304 * (μ.1 355 37)) + x1) 12160) (wr (mm_I μ 370 (Int32.toNatClampNeg ((304 * (μ.1 355 37)) + x1)) (μ.1 368 (Int32.toNatClampNeg x1))) fun μ2z => (f_Mo_remember_L52 N n (x1 + 1) μ2z))))
def f_Mo_remember_L11 (N : Nat) : Nat → Int32 → MM → Option MM
  | 0, _, _ => none
  | n + 1, x1, μ =>
    if 11856 ≤ x1 then (wr (mm_I μ 355 37 ((μ.1 355 37) - 1)) fun μ3z => (f_Mo_remember_L52 N N 0 μ3z))
    else (gd (inb (x1 + 304) 12160) (gd (inb x1 12160) (wr (mm_I μ 370 (Int32.toNatClampNeg x1) (μ.1 370 (Int32.toNatClampNeg (x1 + 304)))) fun μ4z => (f_Mo_remember_L11 N n (x1 + 1) μ4z))))
def f_Mo_remember (N : Nat) (μ : MM) : Option MM :=
  if (μ.1 355 37) = 40 then (f_Mo_remember_L11 N N 0 μ)
    else (f_Mo_remember_L52 N N 0 μ)
def f_Mo_put_ (N : Nat) (x1 : Int32) (x2 : Int32) (μ : MM) : Option (Int32 × MM) :=
  wr (mm_I μ 355 0 0) fun μ1z => (ob (f_Mo_isThing N x1 μ1z) fun t7 μ2z => (if t7 = 0 then (some ((-1), μ2z))
    else (ob (f_Mo_isCard N x2 μ2z) fun t15 μ3z => (if t15 = 0 then (some ((-1), μ3z))
    else (ob (f_Mo_cardOver N 368 x1 μ3z) fun t27 μ4z => (if t27 = (-1) then (gd (inb (20 * x2) 304) (if (μ4z.1 368 (Int32.toNatClampNeg (20 * x2))) = (-1) then (obv (f_Mo_remember N μ4z) fun μ5z => (gd (inb (20 * x2) 304) (wr (mm_I μ5z 368 (Int32.toNatClampNeg (20 * x2)) x1) fun μ6z => (some ((μ6z.1 355 37), μ6z)))))
    else (some ((-1), μ4z))))
    else (some ((-1), μ4z))))))))
def f_Mo_take (N : Nat) (x1 : Int32) (μ : MM) : Option (Int32 × MM) :=
  wr (mm_I μ 355 0 0) fun μ1z => (ob (f_Mo_isCard N x1 μ1z) fun t7 μ2z => (if t7 = 0 then (some ((-1), μ2z))
    else (gd (inb (20 * x1) 304) (if (μ2z.1 368 (Int32.toNatClampNeg (20 * x1))) = (-1) then (some ((-1), μ2z))
    else (obv (f_Mo_remember N μ2z) fun μ3z => (gd (inb (20 * x1) 304) (gd (inb (20 * x1) 304) (wr (mm_I μ3z 368 (Int32.toNatClampNeg (20 * x1)) (-1)) fun μ4z => (some ((μ3z.1 368 (Int32.toNatClampNeg (20 * x1))), μ4z))))))))))
def f_Mo_leftOf_L4 (N : Nat) (q0 : Nat) : Nat → Int32 → Int32 → Int32 → MM → Option (Int32 × MM)
  | 0, _, _, _, _ => none
  | n + 1, x1, x2, x3, μ =>
    ob (f_Mo_wordsOf N q0 x1 μ) fun t7 μ1z => (if t7 ≤ x3 then (some (x2, μ1z))
    else (ob (f_Mo_inkOf N q0 x1 x3 μ1z) fun t17 μ2z => (f_Mo_leftOf_L4 N q0 n x1 (x2 + (if t17 ≤ 0 then (0 : Int32) else 1)) (x3 + 1) μ2z)))
def f_Mo_leftOf (N : Nat) (q0 : Nat) (x1 : Int32) (μ : MM) : Option (Int32 × MM) :=
  f_Mo_leftOf_L4 N q0 N x1 0 0 μ
def f_Mo_copy_L53 (N : Nat) : Nat → Int32 → Int32 → MM → Option (Int32 × MM)
  | 0, _, _, _ => none
  | n + 1, x1, x2, μ =>
    ob (f_Mo_wordsOf N 368 x1 μ) fun t59 μ6z => (if t59 ≤ x2 then (some ((μ6z.1 368 121), μ6z))
    else (ob (f_Mo_inkOf N 368 x1 x2 μ6z) fun t71 μ7z => (if t71 ≤ 0 then (f_Mo_copy_L53 N n x1 (x2 + 1) μ7z)
    else (gd (inb (((20 * x1) + 4) + (3 * x2)) 304) (wr (mm_I μ7z 368 (Int32.toNatClampNeg (((20 * x1) + 4) + (3 * x2))) 9) fun μ8z => (f_Mo_copy_L53 N n x1 (x2 + 1) μ8z))))))
def f_Mo_copy (N : Nat) (x1 : Int32) (μ : MM) : Option (Int32 × MM) :=
  wr (mm_I μ 355 0 0) fun μ1z => (ob (f_Mo_isCard N x1 μ1z) fun t7 μ2z => (if t7 = 0 then (some ((-1), μ2z))
    else (if (μ2z.1 368 121) = 0 then (some ((-1), μ2z))
    else (ob (f_Mo_leftOf N 368 x1 μ2z) fun t28 μ3z => (if t28 = 0 then (some ((-1), μ3z))
    else (obv (f_Mo_remember N μ3z) fun μ4z => (wr (mm_I μ4z 368 121 ((μ4z.1 368 121) - 1)) fun μ5z => (f_Mo_copy_L53 N N x1 0 μ5z))))))))
def f_Mo_lamp_B77 (N : Nat) (k32 : Int32 → Int32 → MM → Option (Int32 × MM)) (x1 : Int32) (x2 : Int32) (s1 : Int32) (s2 : Int32) (s3 : Int32) (μ : MM) : Option (Int32 × MM) :=
  gd (inb s1 304) (wr (mm_I μ 368 (Int32.toNatClampNeg s1) (s2 - s3)) fun μ8z => (k32 x1 (x2 + 1) μ8z))
def f_Mo_lamp_L32 (N : Nat) : Nat → Int32 → Int32 → MM → Option (Int32 × MM)
  | 0, _, _, _ => none
  | n + 1, x1, x2, μ =>
    ob (f_Mo_wordsOf N 368 x1 μ) fun t38 μ5z => (if t38 ≤ x2 then (ob (f_Mo_leftOf N 368 x1 μ5z) fun t90 μ6z => (some (t90, μ6z)))
    else (gd (inb (((20 * x1) + 4) + (3 * x2)) 304) (ob (f_Mo_inkOf N 368 x1 x2 μ5z) fun t66 μ7z => (f_Mo_lamp_B77 N (f_Mo_lamp_L32 N n) x1 x2 (((20 * x1) + 4) + (3 * x2)) (μ5z.1 368 (Int32.toNatClampNeg (((20 * x1) + 4) + (3 * x2)))) (if t66 ≤ 0 then (0 : Int32) else 1) μ7z))))
def f_Mo_lamp (N : Nat) (x1 : Int32) (μ : MM) : Option (Int32 × MM) :=
  wr (mm_I μ 355 0 0) fun μ1z => (ob (f_Mo_isCard N x1 μ1z) fun t7 μ2z => (if t7 = 0 then (some ((-1), μ2z))
    else (ob (f_Mo_leftOf N 368 x1 μ2z) fun t18 μ3z => (if t18 = 0 then (some ((-1), μ3z))
    else (obv (f_Mo_remember N μ3z) fun μ4z => (f_Mo_lamp_L32 N N x1 0 μ4z))))))
def f_Mo_light (N : Nat) (x1 : Int32) (μ : MM) : Option (Int32 × MM) :=
  wr (mm_I μ 355 0 0) fun μ1z => (if (μ1z.1 355 27) = 0 then (some (0, μ1z))
    else (ob (f_Mo_isIn N (Int32.toInt64 x1) 0 9 μ1z) fun t18 μ2z => (if t18 = 0 then (some (0, μ2z))
    else (if x1 = (μ2z.1 368 120) then (some (0, μ2z))
    else (obv (f_Mo_remember N μ2z) fun μ3z => (wr (mm_I μ3z 368 120 x1) fun μ4z => (some (1, μ4z))))))))
def f_Mo_isReading (N : Nat) (x1 : Int32) (μ : MM) : Option (Int32 × MM) :=
  if x1 < 0 then (some (0, μ))
    else (if (μ.1 355 30) ≤ x1 then (some (0, μ))
    else (some (1, μ)))
def f_Mo_write (N : Nat) (x1 : Int32) (x2 : Int32) (μ : MM) : Option (Int32 × MM) :=
  wr (mm_I μ 355 0 0) fun μ1z => (ob (f_Mo_isCard N x1 μ1z) fun t7 μ2z => (if t7 = 0 then (some ((-1), μ2z))
    else (ob (f_Mo_isReading N x2 μ2z) fun t15 μ3z => (if t15 = 0 then (some ((-1), μ3z))
    else (gd (inb (20 * x1) 304) (if (μ3z.1 368 (Int32.toNatClampNeg (20 * x1))) = (-1) then (obv (f_Mo_remember N μ3z) fun μ4z => (obv (f_Mo_lays N 368 367 x1 (13 * x2) 9 μ4z) fun μ5z => (ob (f_Mo_wordsOf N 368 x1 μ5z) fun t63 μ6z => (some (t63, μ6z)))))
    else (some ((-1), μ3z))))))))
def f_Mo_days_L28 (N : Nat) : Nat → Int32 → Int32 → MM → Option (Int32 × MM)
  | 0, _, _, _ => none
  | n + 1, x1, x2, μ =>
    if x1 ≤ x2 then (some ((μ.1 368 122), μ))
    else (obv (f_Mo_remember N μ) fun μ3z => (obv (f_Mo_goDay N 368 μ3z) fun μ4z => (f_Mo_days_L28 N n x1 (x2 + 1) μ4z)))
def f_Mo_days (N : Nat) (x1 : Int32) (μ : MM) : Option (Int32 × MM) :=
  wr (mm_I μ 355 0 0) fun μ1z => (if (μ1z.1 355 27) = 0 then (some ((-1), μ1z))
    else (ob (f_Mo_isIn N (Int32.toInt64 x1) 1 60 μ1z) fun t18 μ2z => (if t18 = 0 then (some ((-1), μ2z))
    else (f_Mo_days_L28 N N x1 0 μ2z))))
def f_Mo_draw (N : Nat) (x1 : Int32) (μ : MM) : Option (Int32 × MM) :=
  wr (mm_J μ 355 38 (((μ.2 355 38) * 6364136223846793005) + 1442695040888963407)) fun μ1z => (gd (nzl (Int32.toInt64 x1)) (some ((Int64.toInt32 ((Int64.toUInt64 (μ1z.2 355 38) >>> ((Int32.toInt64 33).toUInt64 &&& Int64.toUInt64 63)).toInt64 - (Int64.toUInt64 (μ1z.2 355 38) >>> ((Int32.toInt64 33).toUInt64 &&& Int64.toUInt64 63)).toInt64 / (Int32.toInt64 x1) * (Int32.toInt64 x1))), μ1z)))
def f_Mo_decades_B121 (N : Nat) (k34 : Int32 → Int32 → MM → Option (Int32 × MM)) (x1 : Int32) (x4 : Int32) (μ : MM) : Option (Int32 × MM) :=
  obv (f_Mo_goDay N 368 μ) fun μ6z => (k34 x1 (x4 + 1) μ6z)
def f_Mo_decades_L34 (N : Nat) : Nat → Int32 → Int32 → MM → Option (Int32 × MM)
  | 0, _, _, _ => none
  | n + 1, x1, x4, μ =>
    if x1 ≤ x4 then (some ((μ.1 368 122), μ))
    else (obv (f_Mo_remember N μ) fun μ4z => (ob (f_Mo_draw N 100 μ4z) fun t47 μ5z => (if (μ5z.1 355 35) ≤ t47 then (f_Mo_decades_B121 N (f_Mo_decades_L34 N n) x1 x4 μ5z)
    else (ob (f_Mo_draw N (μ5z.1 355 27) μ5z) fun t62 μ7z => (ob (f_Mo_draw N (μ7z.1 355 27) μ7z) fun t72 μ8z => (gd (inb (20 * t62) 304) (gd (inb (20 * t72) 304) (gd (inb (20 * t62) 304) (wr (mm_I μ8z 368 (Int32.toNatClampNeg (20 * t62)) (μ8z.1 368 (Int32.toNatClampNeg (20 * t72)))) fun μ9z => (gd (inb (20 * t72) 304) (wr (mm_I μ9z 368 (Int32.toNatClampNeg (20 * t72)) (μ8z.1 368 (Int32.toNatClampNeg (20 * t62)))) fun μ10z => (f_Mo_decades_B121 N (f_Mo_decades_L34 N n) x1 x4 μ10z))))))))))))
def f_Mo_decades (N : Nat) (x1 : Int32) (y2 : Int64) (μ : MM) : Option (Int32 × MM) :=
  wr (mm_I μ 355 0 0) fun μ1z => (if (μ1z.1 355 27) = 0 then (some ((-1), μ1z))
    else (ob (f_Mo_isIn N (Int32.toInt64 x1) 1 60 μ1z) fun t18 μ2z => (if t18 = 0 then (some ((-1), μ2z))
    else (wr (mm_J μ2z 355 38 y2) fun μ3z => (f_Mo_decades_L34 N N x1 0 μ3z)))))
def f_Mo_undo_L26 (N : Nat) : Nat → Int32 → MM → Option (Int32 × MM)
  | 0, _, _ => none
  | n + 1, x1, μ =>
    if 304 ≤ x1 then (some ((μ.1 355 37), μ))
    else (gd (inb ((304 * (μ.1 355 37)) + x1) 12160) (gd (inb x1 304) (wr (mm_I μ 368 (Int32.toNatClampNeg x1) (μ.1 370 (Int32.toNatClampNeg ((304 * (μ.1 355 37)) + x1)))) fun μ3z => (f_Mo_undo_L26 N n (x1 + 1) μ3z))))
def f_Mo_undo (N : Nat) (μ : MM) : Option (Int32 × MM) :=
  wr (mm_I μ 355 0 0) fun μ1z => (if (μ1z.1 355 37) = 0 then (some ((-1), μ1z))
    else (wr (mm_I μ1z 355 37 ((μ1z.1 355 37) - 1)) fun μ2z => (f_Mo_undo_L26 N N 0 μ2z)))
def f_Mo_log (N : Nat) (x1 : Int32) (x2 : Int32) (μ : MM) : Option (Int32 × MM) :=
  wr (mm_I μ 355 0 0) fun μ1z => (ob (f_Mo_isIn N (Int32.toInt64 x1) 0 (Int32.toInt64 ((μ1z.1 368 123) - 1)) μ1z) fun t18 μ2z => (if t18 = 0 then (some ((-1), μ2z))
    else (ob (f_Mo_isIn N (Int32.toInt64 x2) 0 2 μ2z) fun t30 μ3z => (if t30 = 0 then (some ((-1), μ3z))
    else (gd (inb ((124 + (3 * (((μ3z.1 368 123) - 1) - x1))) + x2) 304) (some ((μ3z.1 368 (Int32.toNatClampNeg ((124 + (3 * (((μ3z.1 368 123) - 1) - x1))) + x2))), μ3z)))))))
def f_Mo_reading (N : Nat) (x1 : Int32) (x2 : Int32) (x3 : Int32) (μ : MM) : Option (Int32 × MM) :=
  wr (mm_I μ 355 0 0) fun μ1z => (ob (f_Mo_isReading N x1 μ1z) fun t7 μ2z => (if t7 = 0 then (some ((-1), μ2z))
    else (if x2 < 0 then (some ((-1), μ2z))
    else (gd (inb (13 * x1) 65) (if (μ2z.1 367 (Int32.toNatClampNeg (13 * x1))) ≤ x2 then (some ((-1), μ2z))
    else (ob (f_Mo_isIn N (Int32.toInt64 x3) 0 1 μ2z) fun t34 μ3z => (if t34 = 0 then (some ((-1), μ3z))
    else (gd (inb ((((13 * x1) + 1) + (2 * x2)) + x3) 65) (some ((μ3z.1 367 (Int32.toNatClampNeg ((((13 * x1) + 1) + (2 * x2)) + x3))), μ3z))))))))))
def f_Mo_right_L18 (N : Nat) : Nat → Int32 → Int32 → MM → Option (Int32 × MM)
  | 0, _, _, _ => none
  | n + 1, x1, x2, μ =>
    if (μ.1 355 27) ≤ x2 then (some (x1, μ))
    else (ob (f_Mo_isRight N 368 x2 μ) fun t33 μ2z => (f_Mo_right_L18 N n (x1 ||| (if t33 = 0 then (0 : Int32) else ((1 : Int32) <<< (x2 &&& 31)))) (x2 + 1) μ2z))
def f_Mo_right (N : Nat) (μ : MM) : Option (Int32 × MM) :=
  wr (mm_I μ 355 0 0) fun μ1z => (if (μ1z.1 355 27) = 0 then (some ((-1), μ1z))
    else (f_Mo_right_L18 N N 0 0 μ1z))
def f_Mo_goMatch_L119 (N : Nat) (rc_X12_goMatch : Int32 → Int32 → Int32 → Int32 → Int32 → MM → Option MM) : Nat → Int32 → Int32 → Int32 → Int32 → Int32 → Int32 → MM → Option MM
  | 0, _, _, _, _, _, _, _ => none
  | n + 1, x1, x2, x3, x4, x5, x6, μ =>
    if (μ.1 355 26) ≤ x6 then (gd (inb (20 * x1) 304) (wr (mm_I μ 369 (Int32.toNatClampNeg (20 * x1)) (-1)) fun μ1z => (obv (rc_X12_goMatch (x1 + 1) x2 x3 x4 ((10 * x5) + 9) μ1z) fun μ2z => (some μ2z))))
    else (ob (f_Mo_has N x2 x6 μ) fun t131 μ3z => (if t131 = 0 then (gd (inb (20 * x1) 304) (wr (mm_I μ3z 369 (Int32.toNatClampNeg (20 * x1)) x6) fun μ4z => (gd (inb (2 * x6) 16) (obv (rc_X12_goMatch (x1 + 1) (x2 ||| ((1 : Int32) <<< (x6 &&& 31))) (x3 + 1) (x4 + (μ4z.1 362 (Int32.toNatClampNeg (2 * x6)))) ((10 * x5) + x6) μ4z) fun μ5z => (f_Mo_goMatch_L119 N rc_X12_goMatch n x1 x2 x3 x4 x5 (x6 + 1) μ5z)))))
    else (f_Mo_goMatch_L119 N rc_X12_goMatch n x1 x2 x3 x4 x5 (x6 + 1) μ3z)))
def f_Mo_goMatch_L45 (N : Nat) (rc_X12_goMatch : Int32 → Int32 → Int32 → Int32 → Int32 → MM → Option MM) : Nat → Int32 → Int32 → Int32 → Int32 → MM → Option MM
  | 0, _, _, _, _, _ => none
  | n + 1, x3, x4, x5, x6, μ =>
    if (μ.1 355 27) ≤ x6 then (wr (mm_I μ 355 39 x5) fun μ6z => (wr (mm_I μ6z 355 40 x3) fun μ7z => (wr (mm_I μ7z 355 41 x4) fun μ8z => (some μ8z))))
    else (gd (inb (20 * x6) 304) (if (μ.1 369 (Int32.toNatClampNeg (20 * x6))) = (-1) then (f_Mo_goMatch_L45 N rc_X12_goMatch n x3 x4 x5 (x6 + 1) μ)
    else (gd (inb (20 * x6) 304) (ob (f_Mo_fitsIn N 369 x6 (μ.1 369 (Int32.toNatClampNeg (20 * x6))) μ) fun t85 μ9z => (if t85 = 0 then (some μ9z)
    else (f_Mo_goMatch_L45 N rc_X12_goMatch n x3 x4 x5 (x6 + 1) μ9z))))))
def f_Mo_goMatch_body (N : Nat) (rc_X12_goMatch : Int32 → Int32 → Int32 → Int32 → Int32 → MM → Option MM) (x1 : Int32) (x2 : Int32) (x3 : Int32) (x4 : Int32) (x5 : Int32) (μ : MM) : Option MM :=
  if (μ.1 355 40) ≤ ((x3 + (μ.1 355 27)) - x1) then (if x1 = (μ.1 355 27) then (if x3 = (μ.1 355 40) then (if x4 < (μ.1 355 41) then (f_Mo_goMatch_L45 N rc_X12_goMatch N x3 x4 x5 0 μ)
    else (some μ))
    else (f_Mo_goMatch_L45 N rc_X12_goMatch N x3 x4 x5 0 μ))
    else (f_Mo_goMatch_L119 N rc_X12_goMatch N x1 x2 x3 x4 x5 0 μ))
    else (some μ)
def f_Mo_goMatch_t (N : Nat) : Nat → Int32 → Int32 → Int32 → Int32 → Int32 → MM → Option MM
  | 0, _, _, _, _, _, _ => none
  | t + 1, x1, x2, x3, x4, x5, μ => f_Mo_goMatch_body N (fun x1 x2 x3 x4 x5 μ => f_Mo_goMatch_t N t x1 x2 x3 x4 x5 μ) x1 x2 x3 x4 x5 μ
def f_Mo_goMatch (N : Nat) (x1 : Int32) (x2 : Int32) (x3 : Int32) (x4 : Int32) (x5 : Int32) (μ : MM) : Option MM := f_Mo_goMatch_t N 12 x1 x2 x3 x4 x5 μ
def f_Mo_matched (N : Nat) (x1 : Int32) (μ : MM) : Option (Int32 × MM) :=
  wr (mm_I μ 355 0 0) fun μ1z => (if (μ1z.1 355 27) = 0 then (some ((-1), μ1z))
    else (ob (f_Mo_isIn N (Int32.toInt64 x1) 0 2 μ1z) fun t18 μ2z => (if t18 = 0 then (some ((-1), μ2z))
    else (obv (f_Mo_copies N 368 369 μ2z) fun μ3z => (wr (mm_I μ3z 355 40 0) fun μ4z => (wr (mm_I μ4z 355 41 1000000) fun μ5z => (obv (f_Mo_goMatch N 0 0 0 0 0 μ5z) fun μ6z => (some ((if x1 = 0 then (μ6z.1 355 39) else (if x1 = 1 then (μ6z.1 355 40) else (μ6z.1 355 41))), μ6z)))))))))
def f_Mo_canBeRight_L93 (N : Nat) (rc_X12_canBeRight : Int32 → Int32 → Int32 → MM → Option (Int32 × MM)) : Nat → Int32 → Int32 → Int32 → Int32 → MM → Option (Int32 × MM)
  | 0, _, _, _, _, _ => none
  | n + 1, x1, x2, x3, x4, μ =>
    if (μ.1 355 26) ≤ x4 then (some (0, μ))
    else (ob (f_Mo_has N x3 x4 μ) fun t105 μ3z => (if t105 = 0 then (gd (inb (20 * x2) 304) (wr (mm_I μ3z 369 (Int32.toNatClampNeg (20 * x2)) x4) fun μ4z => (ob (rc_X12_canBeRight x1 (x2 + 1) (x3 ||| ((1 : Int32) <<< (x4 &&& 31))) μ4z) fun t136 μ5z => (if t136 = 0 then (f_Mo_canBeRight_L93 N rc_X12_canBeRight n x1 x2 x3 (x4 + 1) μ5z)
    else (some (1, μ5z))))))
    else (f_Mo_canBeRight_L93 N rc_X12_canBeRight n x1 x2 x3 (x4 + 1) μ3z)))
def f_Mo_canBeRight_L11 (N : Nat) (rc_X12_canBeRight : Int32 → Int32 → Int32 → MM → Option (Int32 × MM)) : Nat → Int32 → Int32 → MM → Option (Int32 × MM)
  | 0, _, _, _ => none
  | n + 1, x1, x4, μ =>
    if (μ.1 355 27) ≤ x4 then (some (1, μ))
    else (ob (f_Mo_has N x1 x4 μ) fun t23 μ7z => (if t23 = 0 then (f_Mo_canBeRight_L11 N rc_X12_canBeRight n x1 (x4 + 1) μ7z)
    else (gd (inb (20 * x4) 304) (ob (f_Mo_fitsIn N 369 x4 (μ7z.1 369 (Int32.toNatClampNeg (20 * x4))) μ7z) fun t46 μ8z => (if t46 = 0 then (some (0, μ8z))
    else (f_Mo_canBeRight_L11 N rc_X12_canBeRight n x1 (x4 + 1) μ8z))))))
def f_Mo_canBeRight_body (N : Nat) (rc_X12_canBeRight : Int32 → Int32 → Int32 → MM → Option (Int32 × MM)) (x1 : Int32) (x2 : Int32) (x3 : Int32) (μ : MM) : Option (Int32 × MM) :=
  if x2 = (μ.1 355 27) then (f_Mo_canBeRight_L11 N rc_X12_canBeRight N x1 0 μ)
    else (gd (inb (20 * x2) 304) (wr (mm_I μ 369 (Int32.toNatClampNeg (20 * x2)) (-1)) fun μ1z => (ob (f_Mo_has N x1 x2 μ1z) fun t74 μ2z => (if t74 = 0 then (ob (rc_X12_canBeRight x1 (x2 + 1) x3 μ2z) fun t86 μ6z => (gd (zb t86) (some (t86, μ6z))))
    else (f_Mo_canBeRight_L93 N rc_X12_canBeRight N x1 x2 x3 0 μ2z)))))
def f_Mo_canBeRight_t (N : Nat) : Nat → Int32 → Int32 → Int32 → MM → Option (Int32 × MM)
  | 0, _, _, _, _ => none
  | t + 1, x1, x2, x3, μ => f_Mo_canBeRight_body N (fun x1 x2 x3 μ => f_Mo_canBeRight_t N t x1 x2 x3 μ) x1 x2 x3 μ
def f_Mo_canBeRight (N : Nat) (x1 : Int32) (x2 : Int32) (x3 : Int32) (μ : MM) : Option (Int32 × MM) := f_Mo_canBeRight_t N 12 x1 x2 x3 μ
def f_Mo_clash_B55 (N : Nat) (k29 : Int32 → Int32 → MM → Option (Int32 × MM)) (x1 : Int32) (x2 : Int32) (μ : MM) : Option (Int32 × MM) :=
  ob (f_Mo_canBeRight N x2 0 0 μ) fun t59 μ3z => (k29 (if t59 = 0 then x2 else x1) (x2 + 1) μ3z)
def f_Mo_clash_L29 (N : Nat) : Nat → Int32 → Int32 → MM → Option (Int32 × MM)
  | 0, _, _, _ => none
  | n + 1, x1, x2, μ =>
    if ((1 : Int32) <<< ((μ.1 355 27) &&& 31)) ≤ x2 then (some (x1, μ))
    else (if x1 = (-1) then (f_Mo_clash_B55 N (f_Mo_clash_L29 N n) x1 x2 μ)
    else (ob (f_In_bitCount_0f7a4 N x2 μ) fun t45 μ4z => (ob (f_In_bitCount_0f7a4 N x1 μ4z) fun t49 μ5z => (if t49 ≤ t45 then (f_Mo_clash_L29 N n x1 (x2 + 1) μ5z)
    else (f_Mo_clash_B55 N (f_Mo_clash_L29 N n) x1 x2 μ5z)))))
def f_Mo_clash (N : Nat) (μ : MM) : Option (Int32 × MM) :=
  wr (mm_I μ 355 0 0) fun μ1z => (if (μ1z.1 355 27) = 0 then (some ((-1), μ1z))
    else (obv (f_Mo_copies N 368 369 μ1z) fun μ2z => (f_Mo_clash_L29 N N (-1) 1 μ2z)))
def f_Mo_blank_L28 (N : Nat) : Nat → Int32 → Int32 → MM → Option (Int32 × MM)
  | 0, _, _, _ => none
  | n + 1, x1, x2, μ =>
    if 99 < x2 then (some ((-1), μ))
    else (ob (f_Mo_leftOf N 369 x1 μ) fun t39 μ4z => (if t39 = 0 then (some (x2, μ4z))
    else (ob (f_Mo_fades N 369 μ4z) fun t52 μ5z => (wr (mm_I μ5z 369 122 ((μ5z.1 369 122) + 1)) fun μ6z => (f_Mo_blank_L28 N n x1 (x2 + 1) μ6z)))))
def f_Mo_blank (N : Nat) (x1 : Int32) (μ : MM) : Option (Int32 × MM) :=
  wr (mm_I μ 355 0 0) fun μ1z => (ob (f_Mo_isCard N x1 μ1z) fun t7 μ2z => (if t7 = 0 then (some ((-1), μ2z))
    else (obv (f_Mo_copies N 368 369 μ2z) fun μ3z => (f_Mo_blank_L28 N N x1 0 μ3z))))
def f_Mo_stood (N : Nat) (x1 : Int32) (x2 : Int32) (x3 : Int32) (μ : MM) : Option (Int32 × MM) :=
  wr (mm_I μ 355 0 0) fun μ1z => (ob (f_Mo_isThing N x1 μ1z) fun t7 μ2z => (if t7 = 0 then (some ((-1), μ2z))
    else (ob (f_Mo_isCard N x2 μ2z) fun t15 μ3z => (if t15 = 0 then (some ((-1), μ3z))
    else (if (μ3z.1 355 45) = 10 then (some ((-1), μ3z))
    else (gd (inb (μ3z.1 355 45) 10) (wr (mm_I μ3z 371 (Int32.toNatClampNeg (μ3z.1 355 45)) x1) fun μ4z => (gd (inb (μ4z.1 355 45) 10) (wr (mm_I μ4z 372 (Int32.toNatClampNeg (μ4z.1 355 45)) x2) fun μ5z => (gd (inb (μ5z.1 355 45) 10) (wr (mm_I μ5z 373 (Int32.toNatClampNeg (μ5z.1 355 45)) (vp_nar .boolean x3)) fun μ6z => (wr (mm_I μ6z 355 45 ((μ6z.1 355 45) + 1)) fun μ7z => (some ((μ7z.1 355 45), μ7z))))))))))))))
def f_Mo_goneOf (N : Nat) (x1 : Int32) (μ : MM) : Option (Int32 × MM) :=
  ob (f_Mo_wordsOf N 368 x1 μ) fun t5 μ1z => (ob (f_Mo_leftOf N 368 x1 μ1z) fun t13 μ2z => (some ((t5 - t13), μ2z)))
def f_Mo_rowsOf (N : Nat) (x0 : Int32) (μ : MM) : Option (Int32 × MM) :=
  some ((if x0 = 0 then (1 : Int32) else (if x0 = 1 then (12 : Int32) else (if x0 = 2 then (144 : Int32) else 1728))), μ)
def f_Mo_fitsBy_B121 (N : Nat) (k72 : Int32 → Int32 → Int32 → Int32 → MM → Option (Int32 × MM)) (x1 : Int32) (x3 : Int32) (x4 : Int32) (x5 : Int32) (s0 : Int32) (s1 : Int32) (μ : MM) : Option (Int32 × MM) :=
  if s0 = s1 then (k72 x1 x3 x4 (x5 + 1) μ)
    else (some (0, μ))
def f_Mo_fitsBy_L72 (N : Nat) : Nat → Int32 → Int32 → Int32 → Int32 → MM → Option (Int32 × MM)
  | 0, _, _, _, _, _ => none
  | n + 1, x1, x3, x4, x5, μ =>
    ob (f_Mo_goneOf N x1 μ) fun t76 μ2z => (if t76 ≤ x5 then (some (1, μ2z))
    else (ob (f_Mo_marks N x3 μ2z) fun t98 μ3z => (ob (f_Mo_has N t98 ((x4 - x4 / 12 * 12) - (x4 - x4 / 12 * 12) / 6 * 6) μ3z) fun t106 μ4z => (f_Mo_fitsBy_B121 N (f_Mo_fitsBy_L72 N n) x1 x3 (x4 / 12) x5 t106 (if 6 ≤ (x4 - x4 / 12 * 12) then (0 : Int32) else 1) μ4z))))
def f_Mo_fitsBy_L3 (N : Nat) : Nat → Int32 → Int32 → Int32 → Int32 → MM → Option (Int32 × MM)
  | 0, _, _, _, _, _ => none
  | n + 1, x1, x2, x3, x4, μ =>
    ob (f_Mo_wordsOf N 368 x1 μ) fun t10 μ1z => (if t10 ≤ x4 then (f_Mo_fitsBy_L72 N N x1 x3 x2 0 μ1z)
    else (ob (f_Mo_inkOf N 368 x1 x4 μ1z) fun t23 μ5z => (if t23 ≤ 0 then (f_Mo_fitsBy_L3 N n x1 x2 x3 (x4 + 1) μ5z)
    else (ob (f_Mo_sortOf N 368 x1 x4 μ5z) fun t36 μ6z => (if 2 ≤ t36 then (f_Mo_fitsBy_L3 N n x1 x2 x3 (x4 + 1) μ6z)
    else (ob (f_Mo_isTrue N 368 x1 x4 x3 μ6z) fun t52 μ7z => (if t52 = 0 then (some (0, μ7z))
    else (f_Mo_fitsBy_L3 N n x1 x2 x3 (x4 + 1) μ7z))))))))
def f_Mo_fitsBy (N : Nat) (x1 : Int32) (x2 : Int32) (x3 : Int32) (μ : MM) : Option (Int32 × MM) :=
  f_Mo_fitsBy_L3 N N x1 x2 x3 0 μ
def f_Mo_isRow_L2 (N : Nat) : Nat → Int32 → Int32 → Int32 → MM → Option (Int32 × MM)
  | 0, _, _, _, _ => none
  | n + 1, x1, x2, x3, μ =>
    if (μ.1 355 45) ≤ x3 then (some (1, μ))
    else (gd (inb x3 10) (if (μ.1 372 (Int32.toNatClampNeg x3)) = x1 then (gd (inb x3 10) (ob (f_Mo_fitsBy N x1 x2 (μ.1 371 (Int32.toNatClampNeg x3)) μ) fun t29 μ1z => (gd (inb x3 10) (if t29 = (μ1z.1 373 (Int32.toNatClampNeg x3)) then (f_Mo_isRow_L2 N n x1 x2 (x3 + 1) μ1z)
    else (some (0, μ1z))))))
    else (f_Mo_isRow_L2 N n x1 x2 (x3 + 1) μ)))
def f_Mo_isRow (N : Nat) (x1 : Int32) (x2 : Int32) (μ : MM) : Option (Int32 × MM) :=
  f_Mo_isRow_L2 N N x1 x2 0 μ
def f_Mo_canAsk (N : Nat) (x1 : Int32) (μ : MM) : Option (Int32 × MM) :=
  ob (f_Mo_isCard N x1 μ) fun t2 μ1z => (if t2 = 0 then (some (0, μ1z))
    else (ob (f_Mo_goneOf N x1 μ1z) fun t10 μ2z => (if 3 < t10 then (some (0, μ2z))
    else (some (1, μ2z)))))
def f_Mo_once_L25 (N : Nat) : Nat → Int32 → Int32 → Int32 → Int32 → MM → Option (Int32 × MM)
  | 0, _, _, _, _, _ => none
  | n + 1, x1, x2, x3, x4, μ =>
    ob (f_Mo_goneOf N x1 μ) fun t29 μ3z => (ob (f_Mo_rowsOf N t29 μ3z) fun t32 μ4z => (if t32 ≤ x4 then (some ((if x2 = (-1) then x3 else (-1)), μ4z))
    else (ob (f_Mo_isRow N x1 x4 μ4z) fun t42 μ5z => (if t42 = 0 then (f_Mo_once_L25 N n x1 x2 x3 (x4 + 1) μ5z)
    else (if x3 = x2 then (some (x4, μ5z))
    else (f_Mo_once_L25 N n x1 x2 (x3 + 1) (x4 + 1) μ5z))))))
def f_Mo_once (N : Nat) (x1 : Int32) (x2 : Int32) (μ : MM) : Option (Int32 × MM) :=
  wr (mm_I μ 355 0 0) fun μ1z => (ob (f_Mo_canAsk N x1 μ1z) fun t7 μ2z => (if t7 = 0 then (some ((-1), μ2z))
    else (if (-1) ≤ x2 then (f_Mo_once_L25 N N x1 x2 0 0 μ2z)
    else (some ((-1), μ2z)))))
def f_Mo_probe_L46 (N : Nat) (k31 : Int32 → Int32 → Int32 → Int32 → MM → Option (Int32 × MM)) : Nat → Int32 → Int32 → Int32 → Int32 → Int32 → Int32 → MM → Option (Int32 × MM)
  | 0, _, _, _, _, _, _, _ => none
  | n + 1, x1, x2, x3, x4, x5, x6, μ =>
    ob (f_Mo_goneOf N x1 μ) fun t50 μ4z => (ob (f_Mo_rowsOf N t50 μ4z) fun t53 μ5z => (if t53 ≤ x6 then (if x2 = (-1) then (k31 x1 x4 (if 0 ≤ x5 then x5 else 0 - x5) (x4 + 1) μ5z)
    else (if (if 0 ≤ x5 then x5 else 0 - x5) < x3 then (k31 x1 x4 (if 0 ≤ x5 then x5 else 0 - x5) (x4 + 1) μ5z)
    else (k31 x1 x2 x3 (x4 + 1) μ5z)))
    else (ob (f_Mo_isRow N x1 x6 μ5z) fun t63 μ6z => (if t63 = 0 then (f_Mo_probe_L46 N k31 n x1 x2 x3 x4 x5 (x6 + 1) μ6z)
    else (ob (f_Mo_fitsBy N x1 x6 x4 μ6z) fun t77 μ7z => (f_Mo_probe_L46 N k31 n x1 x2 x3 x4 (x5 + (if t77 = 0 then ((-1) : Int32) else 1)) (x6 + 1) μ7z))))))
def f_Mo_probe_L31 (N : Nat) : Nat → Int32 → Int32 → Int32 → Int32 → MM → Option (Int32 × MM)
  | 0, _, _, _, _, _ => none
  | n + 1, x1, x2, x3, x4, μ =>
    if (μ.1 355 26) ≤ x4 then (some (x2, μ))
    else (f_Mo_probe_L46 N (f_Mo_probe_L31 N n) N x1 x2 x3 x4 0 0 μ)
def f_Mo_probe (N : Nat) (x1 : Int32) (μ : MM) : Option (Int32 × MM) :=
  wr (mm_I μ 355 0 0) fun μ1z => (ob (f_Mo_canAsk N x1 μ1z) fun t7 μ2z => (if t7 = 0 then (some ((-1), μ2z))
    else (ob (f_Mo_once N x1 (-1) μ2z) fun t16 μ3z => (if t16 = 0 then (some ((-1), μ3z))
    else (f_Mo_probe_L31 N N x1 (-1) 0 0 μ3z)))))
def f_Mo_saves_L65 (N : Nat) (k33 : Int32 → Int32 → Int32 → Int32 → Int32 → MM → Option (Int32 × MM)) : Nat → Int32 → Int32 → Int32 → Int32 → Int32 → Int32 → Int32 → MM → Option (Int32 × MM)
  | 0, _, _, _, _, _, _, _, _ => none
  | n + 1, x1, x2, x3, x4, x5, x6, x7, μ =>
    if (μ.1 355 26) ≤ x7 then (if x3 = (-1) then (k33 x1 x2 x5 x6 (x5 + 1) μ)
    else (if x4 < x6 then (k33 x1 x2 x5 x6 (x5 + 1) μ)
    else (k33 x1 x2 x3 x4 (x5 + 1) μ)))
    else (ob (f_Mo_fitsBy N x1 x5 x7 μ) fun t82 μ7z => (f_Mo_saves_L65 N k33 n x1 x2 x3 x4 x5 (x6 + (if t82 = 0 then (0 : Int32) else 1)) (x7 + 1) μ7z))
def f_Mo_saves_L33 (N : Nat) : Nat → Int32 → Int32 → Int32 → Int32 → Int32 → MM → Option (Int32 × MM)
  | 0, _, _, _, _, _, _ => none
  | n + 1, x1, x2, x3, x4, x5, μ =>
    ob (f_Mo_goneOf N x1 μ) fun t37 μ4z => (ob (f_Mo_rowsOf N t37 μ4z) fun t40 μ5z => (if t40 ≤ x5 then (if x3 = (-1) then (some (x3, μ5z))
    else (if x2 = 0 then (some (x3, μ5z))
    else (some (x4, μ5z))))
    else (ob (f_Mo_isRow N x1 x5 μ5z) fun t50 μ6z => (if t50 = 0 then (f_Mo_saves_L33 N n x1 x2 x3 x4 (x5 + 1) μ6z)
    else (f_Mo_saves_L65 N (f_Mo_saves_L33 N n) N x1 x2 x3 x4 x5 0 0 μ6z)))))
def f_Mo_saves (N : Nat) (x1 : Int32) (x2 : Int32) (μ : MM) : Option (Int32 × MM) :=
  wr (mm_I μ 355 0 0) fun μ1z => (ob (f_Mo_canAsk N x1 μ1z) fun t7 μ2z => (if t7 = 0 then (some ((-1), μ2z))
    else (ob (f_Mo_isIn N (Int32.toInt64 x2) 0 1 μ2z) fun t17 μ3z => (if t17 = 0 then (some ((-1), μ3z))
    else (f_Mo_saves_L33 N N x1 x2 (-1) 0 0 μ3z)))))
def f_Mo_leads_L4 (N : Nat) : Nat → Int32 → Int32 → Int32 → MM → Option (Int32 × MM)
  | 0, _, _, _, _ => none
  | n + 1, x1, x2, x3, μ =>
    ob (f_Mo_wordsOf N 368 x1 μ) fun t10 μ1z => (if t10 ≤ x3 then (some (x2, μ1z))
    else (ob (f_Mo_inkOf N 368 x1 x3 μ1z) fun t23 μ2z => (if t23 ≤ 0 then (f_Mo_leads_L4 N n x1 (x2 ||| 0) (x3 + 1) μ2z)
    else (ob (f_Mo_sortOf N 368 x1 x3 μ2z) fun t35 μ3z => (if t35 = 2 then (ob (f_Mo_whatOf N 368 x1 x3 μ3z) fun t49 μ4z => (f_Mo_leads_L4 N n x1 (x2 ||| ((1 : Int32) <<< (t49 &&& 31))) (x3 + 1) μ4z))
    else (f_Mo_leads_L4 N n x1 (x2 ||| 0) (x3 + 1) μ3z))))))
def f_Mo_leads (N : Nat) (x1 : Int32) (μ : MM) : Option (Int32 × MM) :=
  f_Mo_leads_L4 N N x1 0 0 μ
def f_Mo_round_L47 (N : Nat) (k18 : Int32 → Int32 → MM → Option (Int32 × MM)) (k35 : Int32 → Int32 → Int32 → Int32 → MM → Option (Int32 × MM)) : Nat → Int32 → Int32 → Int32 → Int32 → Int32 → MM → Option (Int32 × MM)
  | 0, _, _, _, _, _, _ => none
  | n + 1, x1, x2, x3, x4, x5, μ =>
    if (μ.1 355 27) ≤ x5 then (k35 x1 x2 x3 (x4 + 1) μ)
    else (ob (f_Mo_has N x3 x5 μ) fun t60 μ4z => (if t60 = 0 then (f_Mo_round_L47 N k18 k35 n x1 x2 (x3 ||| 0) x4 (x5 + 1) μ4z)
    else (ob (f_Mo_leads N x5 μ4z) fun t69 μ5z => (f_Mo_round_L47 N k18 k35 n x1 x2 (x3 ||| t69) x4 (x5 + 1) μ5z))))
def f_Mo_round_L35 (N : Nat) (k18 : Int32 → Int32 → MM → Option (Int32 × MM)) : Nat → Int32 → Int32 → Int32 → Int32 → MM → Option (Int32 × MM)
  | 0, _, _, _, _, _ => none
  | n + 1, x1, x2, x3, x4, μ =>
    if (μ.1 355 27) ≤ x4 then (ob (f_Mo_has N x3 x2 μ) fun t93 μ3z => (k18 (x1 ||| (if t93 = 0 then (0 : Int32) else ((1 : Int32) <<< (x2 &&& 31)))) (x2 + 1) μ3z))
    else (f_Mo_round_L47 N k18 (f_Mo_round_L35 N k18 n) N x1 x2 x3 x4 0 μ)
def f_Mo_round_L18 (N : Nat) : Nat → Int32 → Int32 → MM → Option (Int32 × MM)
  | 0, _, _, _ => none
  | n + 1, x1, x2, μ =>
    if (μ.1 355 27) ≤ x2 then (some (x1, μ))
    else (ob (f_Mo_leads N x2 μ) fun t28 μ2z => (f_Mo_round_L35 N (f_Mo_round_L18 N n) N x1 x2 t28 0 μ2z))
def f_Mo_round (N : Nat) (μ : MM) : Option (Int32 × MM) :=
  wr (mm_I μ 355 0 0) fun μ1z => (if (μ1z.1 355 27) = 0 then (some ((-1), μ1z))
    else (f_Mo_round_L18 N N 0 0 μ1z))
def f_Mo_nowhere_L18 (N : Nat) : Nat → Int32 → Int32 → MM → Option (Int32 × MM)
  | 0, _, _, _ => none
  | n + 1, x1, x2, μ =>
    if (μ.1 355 27) ≤ x2 then (some (x1, μ))
    else (ob (f_Mo_leads N x2 μ) fun t29 μ2z => (f_Mo_nowhere_L18 N n (x1 ||| (if (t29 >>> ((μ2z.1 355 27) &&& 31)) = 0 then (0 : Int32) else ((1 : Int32) <<< (x2 &&& 31)))) (x2 + 1) μ2z))
def f_Mo_nowhere (N : Nat) (μ : MM) : Option (Int32 × MM) :=
  wr (mm_I μ 355 0 0) fun μ1z => (if (μ1z.1 355 27) = 0 then (some ((-1), μ1z))
    else (f_Mo_nowhere_L18 N N 0 0 μ1z))
def f_Mo_forged_B93 (N : Nat) (k18 : Int32 → Int32 → MM → Option (Int32 × MM)) (k34 : Int32 → Int32 → Int32 → Int32 → Int32 → MM → Option (Int32 × MM)) (x1 : Int32) (x2 : Int32) (x4 : Int32) (x5 : Int32) (s0 : Int32) (s1 : Int32) (μ : MM) : Option (Int32 × MM) :=
  ob (f_Mo_sortOf N 368 x2 x5 μ) fun t104 μ5z => (if t104 = 1 then (ob (f_Mo_whatOf N 368 x2 x5 μ5z) fun t119 μ6z => (k34 x1 x2 (s0 ||| s1) (x4 ||| ((1 : Int32) <<< (t119 &&& 31))) (x5 + 1) μ6z))
    else (k34 x1 x2 (s0 ||| s1) (x4 ||| 0) (x5 + 1) μ5z))
def f_Mo_forged_L34 (N : Nat) (k18 : Int32 → Int32 → MM → Option (Int32 × MM)) : Nat → Int32 → Int32 → Int32 → Int32 → Int32 → MM → Option (Int32 × MM)
  | 0, _, _, _, _, _, _ => none
  | n + 1, x1, x2, x3, x4, x5, μ =>
    ob (f_Mo_wordsOf N 368 x2 μ) fun t41 μ2z => (if t41 ≤ x5 then (k18 (x1 ||| (if (x3 &&& x4) = 0 then (0 : Int32) else ((1 : Int32) <<< (x2 &&& 31)))) (x2 + 1) μ2z)
    else (ob (f_Mo_inkOf N 368 x2 x5 μ2z) fun t54 μ3z => (if t54 = 0 then (f_Mo_forged_L34 N k18 n x1 x2 x3 x4 (x5 + 1) μ3z)
    else (ob (f_Mo_sortOf N 368 x2 x5 μ3z) fun t71 μ4z => (if t71 = 0 then (ob (f_Mo_whatOf N 368 x2 x5 μ4z) fun t85 μ7z => (f_Mo_forged_B93 N k18 (f_Mo_forged_L34 N k18 n) x1 x2 x4 x5 x3 ((1 : Int32) <<< (t85 &&& 31)) μ7z))
    else (f_Mo_forged_B93 N k18 (f_Mo_forged_L34 N k18 n) x1 x2 x4 x5 x3 0 μ4z))))))
def f_Mo_forged_L18 (N : Nat) : Nat → Int32 → Int32 → MM → Option (Int32 × MM)
  | 0, _, _, _ => none
  | n + 1, x1, x2, μ =>
    if (μ.1 355 27) ≤ x2 then (some (x1, μ))
    else (f_Mo_forged_L34 N (f_Mo_forged_L18 N n) N x1 x2 0 0 0 μ)
def f_Mo_forged (N : Nat) (μ : MM) : Option (Int32 × MM) :=
  wr (mm_I μ 355 0 0) fun μ1z => (if (μ1z.1 355 27) = 0 then (some ((-1), μ1z))
    else (f_Mo_forged_L18 N N 0 0 μ1z))
def f_Mo_alone_L50 (N : Nat) (k19 : Int32 → Int32 → Int32 → MM → Option (Int32 × MM)) : Nat → Int32 → Int32 → Int32 → Int32 → Int32 → MM → Option (Int32 × MM)
  | 0, _, _, _, _, _, _ => none
  | n + 1, x1, x2, x3, x4, x5, μ =>
    if (μ.1 355 26) ≤ x5 then (k19 x1 (if x4 = 0 then x2 else x3) (x3 + 1) μ)
    else (if x4 = 0 then (f_Mo_alone_L50 N k19 n x1 x2 x3 0 (x5 + 1) μ)
    else (if x5 = x1 then (f_Mo_alone_L50 N k19 n x1 x2 x3 1 (x5 + 1) μ)
    else (ob (f_Mo_marks N x5 μ) fun t73 μ3z => (ob (f_Mo_marks N x1 μ3z) fun t78 μ4z => (if ((t73 ^^^ t78) &&& x3) = 0 then (f_Mo_alone_L50 N k19 n x1 x2 x3 0 (x5 + 1) μ4z)
    else (f_Mo_alone_L50 N k19 n x1 x2 x3 1 (x5 + 1) μ4z))))))
def f_Mo_alone_L19 (N : Nat) : Nat → Int32 → Int32 → Int32 → MM → Option (Int32 × MM)
  | 0, _, _, _, _ => none
  | n + 1, x1, x2, x3, μ =>
    if 64 ≤ x3 then (some (x2, μ))
    else (if x2 = (-1) then (f_Mo_alone_L50 N (f_Mo_alone_L19 N n) N x1 x2 x3 1 0 μ)
    else (ob (f_In_bitCount_0f7a4 N x3 μ) fun t31 μ5z => (ob (f_In_bitCount_0f7a4 N x2 μ5z) fun t35 μ6z => (if t31 < t35 then (f_Mo_alone_L50 N (f_Mo_alone_L19 N n) N x1 x2 x3 1 0 μ6z)
    else (f_Mo_alone_L19 N n x1 x2 (x3 + 1) μ6z)))))
def f_Mo_alone (N : Nat) (x1 : Int32) (μ : MM) : Option (Int32 × MM) :=
  wr (mm_I μ 355 0 0) fun μ1z => (ob (f_Mo_isThing N x1 μ1z) fun t7 μ2z => (if t7 = 0 then (some ((-1), μ2z))
    else (f_Mo_alone_L19 N N x1 (-1) 0 μ2z)))
def f_Mo_suitsOf_L4 (N : Nat) : Nat → Int32 → Int32 → Int32 → MM → Option (Int32 × MM)
  | 0, _, _, _, _ => none
  | n + 1, x1, x2, x3, μ =>
    if (μ.1 355 26) ≤ x3 then (some (x2, μ))
    else (ob (f_Mo_fitsIn N 368 x1 x3 μ) fun t20 μ1z => (f_Mo_suitsOf_L4 N n x1 (x2 ||| (if t20 = 0 then (0 : Int32) else ((1 : Int32) <<< (x3 &&& 31)))) (x3 + 1) μ1z))
def f_Mo_suitsOf (N : Nat) (x1 : Int32) (μ : MM) : Option (Int32 × MM) :=
  f_Mo_suitsOf_L4 N N x1 0 0 μ
def f_Mo_suits (N : Nat) (x1 : Int32) (μ : MM) : Option (Int32 × MM) :=
  wr (mm_I μ 355 0 0) fun μ1z => (ob (f_Mo_isCard N x1 μ1z) fun t7 μ2z => (if t7 = 0 then (some ((-1), μ2z))
    else (ob (f_Mo_suitsOf N x1 μ2z) fun t15 μ3z => (some (t15, μ3z)))))
def f_Mo_wanted_L28 (N : Nat) : Nat → Int32 → Int32 → Int32 → MM → Option (Int32 × MM)
  | 0, _, _, _, _ => none
  | n + 1, x1, x2, x3, μ =>
    if (μ.1 355 27) ≤ x3 then (if x1 = 0 then (some (x2, μ))
    else (ob (f_Mo_suitsOf N x2 μ) fun t73 μ3z => (ob (f_In_bitCount_0f7a4 N t73 μ3z) fun t76 μ4z => (some (t76, μ4z)))))
    else (ob (f_Mo_suitsOf N x3 μ) fun t38 μ5z => (ob (f_In_bitCount_0f7a4 N t38 μ5z) fun t41 μ6z => (ob (f_Mo_suitsOf N x2 μ6z) fun t46 μ7z => (ob (f_In_bitCount_0f7a4 N t46 μ7z) fun t49 μ8z => (f_Mo_wanted_L28 N n x1 (if t49 ≤ t41 then x2 else x3) (x3 + 1) μ8z)))))
def f_Mo_wanted (N : Nat) (x1 : Int32) (μ : MM) : Option (Int32 × MM) :=
  wr (mm_I μ 355 0 0) fun μ1z => (if (μ1z.1 355 27) = 0 then (some ((-1), μ1z))
    else (ob (f_Mo_isIn N (Int32.toInt64 x1) 0 1 μ1z) fun t16 μ2z => (if t16 = 0 then (some ((-1), μ2z))
    else (f_Mo_wanted_L28 N N x1 0 1 μ2z))))
def f_Mo_perhaps_L18 (N : Nat) : Nat → Int32 → Int32 → MM → Option (Int32 × MM)
  | 0, _, _, _ => none
  | n + 1, x1, x2, μ =>
    if (μ.1 355 27) ≤ x2 then (some (x1, μ))
    else (ob (f_Mo_goneOf N x2 μ) fun t30 μ2z => (ob (f_Mo_wordsOf N 368 x2 μ2z) fun t39 μ3z => (f_Mo_perhaps_L18 N n (x1 ||| (if (2 * t30) < t39 then (0 : Int32) else ((1 : Int32) <<< (x2 &&& 31)))) (x2 + 1) μ3z)))
def f_Mo_perhaps (N : Nat) (μ : MM) : Option (Int32 × MM) :=
  wr (mm_I μ 355 0 0) fun μ1z => (if (μ1z.1 355 27) = 0 then (some ((-1), μ1z))
    else (f_Mo_perhaps_L18 N N 0 0 μ1z))
def f_Mo_shared (N : Nat) (x1 : Int32) (x2 : Int32) (μ : MM) : Option (Int32 × MM) :=
  wr (mm_I μ 355 0 0) fun μ1z => (ob (f_Mo_isThing N x1 μ1z) fun t7 μ2z => (if t7 = 0 then (some ((-1), μ2z))
    else (ob (f_Mo_isThing N x2 μ2z) fun t15 μ3z => (if t15 = 0 then (some ((-1), μ3z))
    else (ob (f_Mo_marks N x1 μ3z) fun t23 μ4z => (ob (f_Mo_marks N x2 μ4z) fun t28 μ5z => (some ((t23 &&& t28), μ5z))))))))
def f_Mo_twins_L36 (N : Nat) (k23 : Int32 → Int32 → Int32 → MM → Option (Int32 × MM)) : Nat → Int32 → Int32 → Int32 → Int32 → MM → Option (Int32 × MM)
  | 0, _, _, _, _, _ => none
  | n + 1, x1, x2, x3, x4, μ =>
    if (μ.1 355 26) ≤ x4 then (k23 x1 x2 (x3 + 1) μ)
    else (ob (f_Mo_marks N x3 μ) fun t47 μ2z => (ob (f_Mo_marks N x4 μ2z) fun t53 μ3z => (if t47 = t53 then (if x2 = x1 then (some (((10 * x3) + x4), μ3z))
    else (f_Mo_twins_L36 N k23 n x1 (x2 + 1) x3 (x4 + 1) μ3z))
    else (f_Mo_twins_L36 N k23 n x1 x2 x3 (x4 + 1) μ3z))))
def f_Mo_twins_L23 (N : Nat) : Nat → Int32 → Int32 → Int32 → MM → Option (Int32 × MM)
  | 0, _, _, _, _ => none
  | n + 1, x1, x2, x3, μ =>
    if (μ.1 355 26) ≤ x3 then (some ((if x1 = (-1) then x2 else (-1)), μ))
    else (f_Mo_twins_L36 N (f_Mo_twins_L23 N n) N x1 x2 x3 (x3 + 1) μ)
def f_Mo_twins (N : Nat) (x1 : Int32) (μ : MM) : Option (Int32 × MM) :=
  wr (mm_I μ 355 0 0) fun μ1z => (if (μ1z.1 355 27) = 0 then (some ((-1), μ1z))
    else (if (-1) ≤ x1 then (f_Mo_twins_L23 N N x1 0 0 μ1z)
    else (some ((-1), μ1z))))
def f_Mo_oddsOf_L169 (N : Nat) : Nat → Int32 → Int64 → Int32 → MM → Option (Int32 × MM)
  | 0, _, _, _, _ => none
  | n + 1, x4, y5, x7, μ =>
    if 32 ≤ x7 then (some ((Int64.toInt32 y5), μ))
    else (if x4 ≤ x7 then (some ((Int64.toInt32 y5), μ))
    else (gd (inb x7 32) (f_Mo_oddsOf_L169 N n x4 (y5 + (μ.2 374 (Int32.toNatClampNeg x7))) (x7 + 1) μ)))
def f_Mo_oddsOf_L104 (N : Nat) (k94 : Int32 → Int32 → Int32 → Int32 → MM → Option (Int32 × MM)) : Nat → Int32 → Int32 → Int32 → Int32 → Int32 → MM → Option (Int32 × MM)
  | 0, _, _, _, _, _, _ => none
  | n + 1, x2, x3, x4, x5, x6, μ =>
    if x6 < 0 then (k94 x2 x3 x4 (x5 + 1) μ)
    else (gd (inb x6 32) (gd (inb (x6 + 1) 32) (gd (inb (x6 + 1) 32) (wr (mm_J μ 374 (Int32.toNatClampNeg (x6 + 1)) ((μ.2 374 (Int32.toNatClampNeg (x6 + 1))) + (((μ.2 374 (Int32.toNatClampNeg x6)) * (Int32.toInt64 x3)) / 100))) fun μ2z => (gd (inb x6 32) (gd (inb x6 32) (wr (mm_J μ2z 374 (Int32.toNatClampNeg x6) ((μ2z.2 374 (Int32.toNatClampNeg x6)) - (((μ.2 374 (Int32.toNatClampNeg x6)) * (Int32.toInt64 x3)) / 100))) fun μ3z => (f_Mo_oddsOf_L104 N k94 n x2 x3 x4 x5 (x6 + (-1)) μ3z))))))))
def f_Mo_oddsOf_L94 (N : Nat) : Nat → Int32 → Int32 → Int32 → Int32 → MM → Option (Int32 × MM)
  | 0, _, _, _, _, _ => none
  | n + 1, x2, x3, x4, x5, μ =>
    if x2 ≤ x5 then (f_Mo_oddsOf_L169 N N x4 0 0 μ)
    else (f_Mo_oddsOf_L104 N (f_Mo_oddsOf_L94 N n) N x2 x3 x4 x5 x5 μ)
def f_Mo_oddsOf_B84 (N : Nat) (k59 : Int32 → Int32 → Int32 → Int32 → MM → Option (Int32 × MM)) (x2 : Int32) (x3 : Int32) (x4 : Int32) (x5 : Int32) (s1 : Int32) (s2 : Int64) (μ : MM) : Option (Int32 × MM) :=
  gd (inb s1 32) (wr (mm_J μ 374 (Int32.toNatClampNeg s1) s2) fun μ4z => (k59 x2 x3 x4 (x5 + 1) μ4z))
def f_Mo_oddsOf_L59 (N : Nat) : Nat → Int32 → Int32 → Int32 → Int32 → MM → Option (Int32 × MM)
  | 0, _, _, _, _, _ => none
  | n + 1, x2, x3, x4, x5, μ =>
    if 32 ≤ x5 then (f_Mo_oddsOf_L94 N N x2 x3 x4 0 μ)
    else (f_Mo_oddsOf_B84 N (f_Mo_oddsOf_L59 N n) x2 x3 x4 x5 x5 (if x5 = 0 then (1000000000 : Int64) else 0) μ)
def f_Mo_oddsOf_L7 (N : Nat) : Nat → Int32 → Int32 → Int32 → Int32 → Int32 → MM → Option (Int32 × MM)
  | 0, _, _, _, _, _, _ => none
  | n + 1, x1, x2, x3, x4, x5, μ =>
    ob (f_Mo_wordsOf N 368 x1 μ) fun t14 μ1z => (if t14 ≤ x5 then (f_Mo_oddsOf_L59 N N x2 x3 x4 0 μ1z)
    else (ob (f_Mo_inkOf N 368 x1 x5 μ1z) fun t27 μ5z => (if t27 ≤ 0 then (f_Mo_oddsOf_L7 N n x1 x2 x3 x4 (x5 + 1) μ5z)
    else (ob (f_Mo_inkOf N 368 x1 x5 μ5z) fun t42 μ6z => (f_Mo_oddsOf_L7 N n x1 x2 x3 (if t42 < x4 then t42 else x4) (x5 + 1) μ6z)))))
def f_Mo_oddsOf (N : Nat) (x1 : Int32) (x2 : Int32) (x3 : Int32) (μ : MM) : Option (Int32 × MM) :=
  f_Mo_oddsOf_L7 N N x1 x2 x3 99 0 μ
def f_Mo_odds (N : Nat) (x1 : Int32) (x2 : Int32) (x3 : Int32) (μ : MM) : Option (Int32 × MM) :=
  wr (mm_I μ 355 0 0) fun μ1z => (ob (f_Mo_isCard N x1 μ1z) fun t7 μ2z => (if t7 = 0 then (some ((-1), μ2z))
    else (ob (f_Mo_isIn N (Int32.toInt64 x2) 0 30 μ2z) fun t19 μ3z => (if t19 = 0 then (some ((-1), μ3z))
    else (ob (f_Mo_isIn N (Int32.toInt64 x3) 0 100 μ3z) fun t31 μ4z => (if t31 = 0 then (some ((-1), μ4z))
    else (ob (f_Mo_oddsOf N x1 x2 x3 μ4z) fun t41 μ5z => (some (t41, μ5z)))))))))
def f_Mo_rescue_L43 (N : Nat) : Nat → Int32 → Int32 → Int32 → Int32 → MM → Option (Int32 × MM)
  | 0, _, _, _, _, _ => none
  | n + 1, x1, x2, x3, x4, μ =>
    if (μ.1 355 27) ≤ x4 then (some (x3, μ))
    else (ob (f_Mo_leftOf N 368 x4 μ) fun t58 μ4z => (if t58 ≤ 0 then (f_Mo_rescue_L43 N n x1 x2 x3 (x4 + 1) μ4z)
    else (if x3 = (-1) then (f_Mo_rescue_L43 N n x1 x2 x4 (x4 + 1) μ4z)
    else (ob (f_Mo_oddsOf N x4 x1 x2 μ4z) fun t74 μ5z => (ob (f_Mo_oddsOf N x3 x1 x2 μ5z) fun t81 μ6z => (if t81 ≤ t74 then (f_Mo_rescue_L43 N n x1 x2 x3 (x4 + 1) μ6z)
    else (f_Mo_rescue_L43 N n x1 x2 x4 (x4 + 1) μ6z)))))))
def f_Mo_rescue (N : Nat) (x1 : Int32) (x2 : Int32) (μ : MM) : Option (Int32 × MM) :=
  wr (mm_I μ 355 0 0) fun μ1z => (if (μ1z.1 355 27) = 0 then (some ((-1), μ1z))
    else (ob (f_Mo_isIn N (Int32.toInt64 x1) 0 30 μ1z) fun t18 μ2z => (if t18 = 0 then (some ((-1), μ2z))
    else (ob (f_Mo_isIn N (Int32.toInt64 x2) 0 100 μ2z) fun t30 μ3z => (if t30 = 0 then (some ((-1), μ3z))
    else (f_Mo_rescue_L43 N N x1 x2 (-1) 0 μ3z))))))
def f_Mo_image (N : Nat) (μ : MM) : Option (Int32 × MM) :=
  wr (mm_I μ 355 0 0) fun μ1z => (if (μ1z.1 355 27) = 0 then (some ((-1), μ1z))
    else (obv (f_Mo_copies N 368 375 μ1z) fun μ2z => (wr (mm_I μ2z 355 48 1) fun μ3z => (some ((μ3z.1 368 122), μ3z)))))
def f_Mo_back (N : Nat) (μ : MM) : Option (Int32 × MM) :=
  wr (mm_I μ 355 0 0) fun μ1z => (if (μ1z.1 355 48) = 0 then (some ((-1), μ1z))
    else (obv (f_Mo_copies N 375 368 μ1z) fun μ2z => (wr (mm_I μ2z 355 37 0) fun μ3z => (some ((μ3z.1 368 122), μ3z)))))
def f_Mo_count_L144 (N : Nat) : Nat → Int32 → Int32 → MM → Option (Int32 × MM)
  | 0, _, _, _ => none
  | n + 1, x2, x3, μ =>
    if (μ.1 355 27) ≤ x3 then (some (x2, μ))
    else (ob (f_Mo_goneOf N x3 μ) fun t155 μ2z => (f_Mo_count_L144 N n (x2 + t155) (x3 + 1) μ2z))
def f_Mo_count (N : Nat) (x1 : Int32) (μ : MM) : Option (Int32 × MM) :=
  wr (mm_I μ 355 0 0) fun μ1z => (if x1 = 0 then (some ((μ1z.1 355 27), μ1z))
    else (if x1 = 1 then (some ((μ1z.1 355 26), μ1z))
    else (if x1 = 2 then (some ((μ1z.1 355 7), μ1z))
    else (if x1 = 3 then (some ((μ1z.1 355 30), μ1z))
    else (if x1 = 4 then (some ((μ1z.1 355 6), μ1z))
    else (if x1 = 5 then (some ((μ1z.1 355 34), μ1z))
    else (if x1 = 6 then (some ((μ1z.1 368 122), μ1z))
    else (if x1 = 7 then (some ((μ1z.1 368 120), μ1z))
    else (if x1 = 8 then (some ((μ1z.1 368 121), μ1z))
    else (if x1 = 9 then (some ((μ1z.1 355 35), μ1z))
    else (if x1 = 10 then (some ((μ1z.1 355 45), μ1z))
    else (if x1 = 11 then (f_Mo_count_L144 N N 0 0 μ1z)
    else (if x1 = 12 then (some ((μ1z.1 368 123), μ1z))
    else (if x1 = 13 then (some ((μ1z.1 355 37), μ1z))
    else (some ((-1000000), μ1z))))))))))))))))
