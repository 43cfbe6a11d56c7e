-- X4_isIn
def f_X4_isIn (N : Nat) (S : ST) (x0 : Int32) (x1 : Int32) (x2 : Int32) : Option (Int32 × ST) :=
  if x0 < x1 then
    some (0, S)
  else
    if x2 < x0 then
      some (0, S)
    else
      some (1, S)
-- X2_addShop_0
def f_X2_addShop_0 (N : Nat) (S : ST) (x1 : Int32) (x2 : Int32) (x3 : Int32) (x4 : Int32) : Option ST :=
  if 6 ≤ (S 0 0) then
    some S
  else
    if (S 0 0) < 0 ∨ 6 ≤ (S 0 0).toNatClampNeg then none else
      nm (us S 1 ((S 0 0).toNatClampNeg) x1) fun S2 =>
        if (S2 0 0) < 0 ∨ 6 ≤ (S2 0 0).toNatClampNeg then none else
          nm (us S2 2 ((S2 0 0).toNatClampNeg) x2) fun S4 =>
            if (S4 0 0) < 0 ∨ 6 ≤ (S4 0 0).toNatClampNeg then none else
              nm (us S4 3 ((S4 0 0).toNatClampNeg) x3) fun S6 =>
                if (S6 0 0) < 0 ∨ 6 ≤ (S6 0 0).toNatClampNeg then none else
                  nm (us S6 4 ((S6 0 0).toNatClampNeg) x4) fun S8 =>
                    if (S8 0 0) < 0 ∨ 6 ≤ (S8 0 0).toNatClampNeg then none else
                      nm (us S8 5 ((S8 0 0).toNatClampNeg) 0) fun S10 =>
                        nm (us S10 0 0 ((S10 0 0) + 1)) fun S12 =>
                          some S12
-- X4_refuse
def f_X4_refuse (N : Nat) (S : ST) (x1 : Int32) (x2 : Int32) : Option (Int32 × ST) :=
  bd2 (f_X4_isIn N S ((-2) - x1) 0 2) fun r3 S2 =>
    if r3 = 0 then
      some (x2, S2)
    else
      if ((-2) - x1) < 0 ∨ 3 ≤ ((-2) - x1).toNatClampNeg then none else
        if ((-2) - x1) < 0 ∨ 3 ≤ ((-2) - x1).toNatClampNeg then none else
          nm (us S2 53 (((-2) - x1).toNatClampNeg) ((S2 53 ((-2) - x1).toNatClampNeg) + 1)) fun S6 =>
            some (x2, S6)
-- X4_shop
def b_X4_shop_41 (N : Nat) (S : ST) : Option (Int32 × ST) :=
  bd2 (f_X4_refuse N S (-2) (-2)) fun r25 S24 =>
    some (r25, S24)
def f_X4_shop (N : Nat) (S : ST) (x1 : Int32) (x2 : Int32) (x3 : Int32) (x4 : Int32) : Option (Int32 × ST) :=
  bd2 (f_X4_isIn N S x1 0 5) fun r3 S2 =>
    if r3 = 0 then
      b_X4_shop_41 N S2
    else
      bd2 (f_X4_isIn N S2 x2 0 20) fun r7 S6 =>
        if r7 = 0 then
          b_X4_shop_41 N S6
        else
          bd2 (f_X4_isIn N S6 x3 1 30) fun r11 S10 =>
            if r11 = 0 then
              b_X4_shop_41 N S10
            else
              bd2 (f_X4_isIn N S10 x4 0 240) fun r15 S14 =>
                if r15 = 0 then
                  b_X4_shop_41 N S14
                else
                  if (S14 0 0) < 6 then
                    bd1 (f_X2_addShop_0 N S14 x1 x2 x3 x4) fun S19 =>
                      some (((S19 0 0) - 1), S19)
                  else
                    bd2 (f_X4_refuse N S14 (-4) (-4)) fun r22 S21 =>
                      some (r22, S21)
-- X2_hasShop_0
def f_X2_hasShop_0 (N : Nat) (S : ST) (x1 : Int32) : Option (Int32 × ST) :=
  if x1 < 0 then
    some (0, S)
  else
    if (S 0 0) ≤ x1 then
      some (0, S)
    else
      some (1, S)
-- X2_areNear_0
def f_X2_areNear_0 (N : Nat) (S : ST) (x1 : Int32) (x2 : Int32) : Option (Int32 × ST) :=
  if x1 < 0 ∨ 6 ≤ x1.toNatClampNeg then none else
    if (((S 5 x1.toNatClampNeg) >>> (x2 &&& 31)) &&& 1) = 0 then
      some (0, S)
    else
      some (1, S)
-- X2_setNear_0
def b_X2_setNear_0_69 (N : Nat) (S : ST) (s1 : Int32) (s2 : Int32) : Option ST :=
  if s1 < 0 ∨ 6 ≤ s1.toNatClampNeg then none else
    nm (us S 5 s1.toNatClampNeg s2) fun S9 =>
      some S9
def b_X2_setNear_0_34 (N : Nat) (S : ST) (x1 : Int32) (x2 : Int32) (x3 : Int32) (s1 : Int32) (s2 : Int32) : Option ST :=
  if s1 < 0 ∨ 6 ≤ s1.toNatClampNeg then none else
    nm (us S 5 s1.toNatClampNeg s2) fun S4 =>
      if x3 = 0 then
        if x2 < 0 ∨ 6 ≤ x2.toNatClampNeg then none else
          b_X2_setNear_0_69 N S4 x2 ((S4 5 x2.toNatClampNeg) &&& ((1 <<< (x1 &&& 31)) ^^^ (-1)))
      else
        if x2 < 0 ∨ 6 ≤ x2.toNatClampNeg then none else
          b_X2_setNear_0_69 N S4 x2 ((S4 5 x2.toNatClampNeg) ||| (1 <<< (x1 &&& 31)))
def f_X2_setNear_0 (N : Nat) (S : ST) (x1 : Int32) (x2 : Int32) (x3 : Int32) : Option ST :=
  if x3 = 0 then
    if x1 < 0 ∨ 6 ≤ x1.toNatClampNeg then none else
      b_X2_setNear_0_34 N S x1 x2 x3 x1 ((S 5 x1.toNatClampNeg) &&& ((1 <<< (x2 &&& 31)) ^^^ (-1)))
  else
    if x1 < 0 ∨ 6 ≤ x1.toNatClampNeg then none else
      b_X2_setNear_0_34 N S x1 x2 x3 x1 ((S 5 x1.toNatClampNeg) ||| (1 <<< (x2 &&& 31)))
-- X4_next
def b_X4_next_27 (N : Nat) (S : ST) : Option (Int32 × ST) :=
  bd2 (f_X4_refuse N S (-2) (-2)) fun r21 S20 =>
    some (r21, S20)
def f_X4_next (N : Nat) (S : ST) (x1 : Int32) (x2 : Int32) (x3 : Int32) : Option (Int32 × ST) :=
  bd2 (f_X2_hasShop_0 N S x1) fun r3 S2 =>
    if r3 = 0 then
      b_X4_next_27 N S2
    else
      bd2 (f_X2_hasShop_0 N S2 x2) fun r7 S6 =>
        if r7 = 0 then
          b_X4_next_27 N S6
        else
          if x1 = x2 then
            b_X4_next_27 N S6
          else
            bd2 (f_X2_areNear_0 N S6 x1 x2) fun r12 S11 =>
              if r12 = x3 then
                bd2 (f_X4_refuse N S11 (-3) (-3)) fun r18 S17 =>
                  some (r18, S17)
              else
                bd1 (f_X2_setNear_0 N S11 x1 x2 x3) fun S15 =>
                  some (1, S15)
-- X2_isFree_0
def f_X2_isFree_0 (N : Nat) (S : ST) (x1 : Int32) : Option (Int32 × ST) :=
  if (((S 0 6) >>> (x1 &&& 31)) &&& 1) = 0 then
    some (0, S)
  else
    some (1, S)
-- X2_setFree_0
def b_X2_setFree_0_26 (N : Nat) (S : ST) (s1 : Int32) : Option ST :=
  nm (us S 0 6 s1) fun S2 =>
    some S2
def f_X2_setFree_0 (N : Nat) (S : ST) (x1 : Int32) (x2 : Int32) : Option ST :=
  if x2 = 0 then
    b_X2_setFree_0_26 N S ((S 0 6) &&& ((1 <<< (x1 &&& 31)) ^^^ (-1)))
  else
    b_X2_setFree_0_26 N S ((S 0 6) ||| (1 <<< (x1 &&& 31)))
-- X4_free
def f_X4_free (N : Nat) (S : ST) (x1 : Int32) (x2 : Int32) : Option (Int32 × ST) :=
  bd2 (f_X2_hasShop_0 N S x1) fun r3 S2 =>
    if r3 = 0 then
      bd2 (f_X4_refuse N S2 (-2) (-2)) fun r16 S15 =>
        some (r16, S15)
    else
      bd2 (f_X2_isFree_0 N S2 x1) fun r7 S6 =>
        if r7 = x2 then
          bd2 (f_X4_refuse N S6 (-3) (-3)) fun r13 S12 =>
            some (r13, S12)
        else
          bd1 (f_X2_setFree_0 N S6 x1 x2) fun S10 =>
            some (1, S10)
-- X4_put
def b_X4_put_66 (N : Nat) (S : ST) : Option (Int32 × ST) :=
  bd2 (f_X4_refuse N S (-2) (-2)) fun r15 S14 =>
    some (r15, S14)
def b_X4_put_33 (N : Nat) (S : ST) (x1 : Int32) (x2 : Int32) : Option (Int32 × ST) :=
  if x1 = 1 then
    bd2 (f_X4_isIn N S x2 1 6) fun r10 S9 =>
      if r10 = 0 then
        b_X4_put_66 N S9
      else
        nm (us S9 0 8 x2) fun S12 =>
          some ((S9 0 8), S12)
  else
    b_X4_put_66 N S
def f_X4_put (N : Nat) (S : ST) (x1 : Int32) (x2 : Int32) : Option (Int32 × ST) :=
  if x1 = 0 then
    bd2 (f_X4_isIn N S x2 0 999) fun r4 S3 =>
      if r4 = 0 then
        b_X4_put_33 N S3 x1 x2
      else
        nm (us S3 0 7 x2) fun S6 =>
          some ((S3 0 7), S6)
  else
    b_X4_put_33 N S x1 x2
-- X4_price
def b_X4_price_21 (N : Nat) (S : ST) : Option (Int32 × ST) :=
  bd2 (f_X4_refuse N S (-2) (-2)) fun r14 S13 =>
    some (r14, S13)
def f_X4_price (N : Nat) (S : ST) (x1 : Int32) (x2 : Int32) : Option (Int32 × ST) :=
  bd2 (f_X2_hasShop_0 N S x1) fun r3 S2 =>
    if r3 = 0 then
      b_X4_price_21 N S2
    else
      bd2 (f_X4_isIn N S2 x2 0 20) fun r7 S6 =>
        if r7 = 0 then
          b_X4_price_21 N S6
        else
          if x1 < 0 ∨ 6 ≤ x1.toNatClampNeg then none else
            if x1 < 0 ∨ 6 ≤ x1.toNatClampNeg then none else
              nm (us S6 2 x1.toNatClampNeg x2) fun S10 =>
                some ((S6 2 x1.toNatClampNeg), S10)
-- X4_type
def b_X4_type_48 (N : Nat) : Nat → ST → Int64 → Int32 → Option (Int32 × ST)
  | 0, _, _, _ => none
  | n + 1, S, x1, x4 =>
    if x4 < 0 then
      some ((S 0 11), S)
    else
      if (S 0 11) < 0 ∨ 200 ≤ (S 0 11).toNatClampNeg then none else
        nm (us S 7 ((S 0 11).toNatClampNeg) ((((((x1).toUInt64 >>> ((((8 * x4) : Int32)).toInt64.toUInt64 &&& Int64.toUInt64 63)).toInt64) : Int64).toInt32) &&& 255)) fun S13 =>
          nm (us S13 0 11 ((S13 0 11) + 1)) fun S15 =>
            b_X4_type_48 N n S15 x1 (x4 + (-1))
def f_X4_type (N : Nat) (S : ST) (x1 : Int64) (x3 : Int32) : Option (Int32 × ST) :=
  bd2 (f_X4_isIn N S x3 1 8) fun r3 S2 =>
    if r3 = 0 then
      bd2 (f_X4_refuse N S2 (-2) (-2)) fun r11 S10 =>
        some (r11, S10)
    else
      if ((S2 0 11) + x3) ≤ 200 then
        b_X4_type_48 N N S2 x1 (x3 - 1)
      else
        bd2 (f_X4_refuse N S2 (-4) (-4)) fun r8 S7 =>
          some (r8, S7)
-- X4_clear
def f_X4_clear (N : Nat) (S : ST) : Option (Int32 × ST) :=
  nm (us S 0 11 0) fun S1 =>
    some ((S 0 11), S1)
-- X3_waysOn
def f_X3_waysOn (N : Nat) (S : ST) (x1 : Int32) : Option (Int32 × ST) :=
  if 0 < x1 then
    if (x1 - 1) < 0 ∨ 6 ≤ (x1 - 1).toNatClampNeg then none else
      if (S 41 (x1 - 1).toNatClampNeg) < 0 ∨ 6 ≤ (S 41 (x1 - 1).toNatClampNeg).toNatClampNeg then none else
        some ((S 5 (S 41 (x1 - 1).toNatClampNeg).toNatClampNeg), S)
  else
    some ((S 0 6), S)
-- J6_bitCount_0f7a4
def f_J6_bitCount_0f7a4 (N : Nat) (S : ST) (x0 : Int32) : Option (Int32 × ST) :=
  some (((((((((x0 - ((((x0).toUInt32 >>> (((1 : Int32)).toUInt32 &&& Int32.toUInt32 31)).toInt32) &&& 1431655765)) &&& 858993459) + (((((x0 - ((((x0).toUInt32 >>> (((1 : Int32)).toUInt32 &&& Int32.toUInt32 31)).toInt32) &&& 1431655765))).toUInt32 >>> (((2 : Int32)).toUInt32 &&& Int32.toUInt32 31)).toInt32) &&& 858993459)) + ((((((x0 - ((((x0).toUInt32 >>> (((1 : Int32)).toUInt32 &&& Int32.toUInt32 31)).toInt32) &&& 1431655765)) &&& 858993459) + (((((x0 - ((((x0).toUInt32 >>> (((1 : Int32)).toUInt32 &&& Int32.toUInt32 31)).toInt32) &&& 1431655765))).toUInt32 >>> (((2 : Int32)).toUInt32 &&& Int32.toUInt32 31)).toInt32) &&& 858993459))).toUInt32 >>> (((4 : Int32)).toUInt32 &&& Int32.toUInt32 31)).toInt32)) &&& 252645135) + ((((((((x0 - ((((x0).toUInt32 >>> (((1 : Int32)).toUInt32 &&& Int32.toUInt32 31)).toInt32) &&& 1431655765)) &&& 858993459) + (((((x0 - ((((x0).toUInt32 >>> (((1 : Int32)).toUInt32 &&& Int32.toUInt32 31)).toInt32) &&& 1431655765))).toUInt32 >>> (((2 : Int32)).toUInt32 &&& Int32.toUInt32 31)).toInt32) &&& 858993459)) + ((((((x0 - ((((x0).toUInt32 >>> (((1 : Int32)).toUInt32 &&& Int32.toUInt32 31)).toInt32) &&& 1431655765)) &&& 858993459) + (((((x0 - ((((x0).toUInt32 >>> (((1 : Int32)).toUInt32 &&& Int32.toUInt32 31)).toInt32) &&& 1431655765))).toUInt32 >>> (((2 : Int32)).toUInt32 &&& Int32.toUInt32 31)).toInt32) &&& 858993459))).toUInt32 >>> (((4 : Int32)).toUInt32 &&& Int32.toUInt32 31)).toInt32)) &&& 252645135)).toUInt32 >>> (((8 : Int32)).toUInt32 &&& Int32.toUInt32 31)).toInt32)) + (((((((((x0 - ((((x0).toUInt32 >>> (((1 : Int32)).toUInt32 &&& Int32.toUInt32 31)).toInt32) &&& 1431655765)) &&& 858993459) + (((((x0 - ((((x0).toUInt32 >>> (((1 : Int32)).toUInt32 &&& Int32.toUInt32 31)).toInt32) &&& 1431655765))).toUInt32 >>> (((2 : Int32)).toUInt32 &&& Int32.toUInt32 31)).toInt32) &&& 858993459)) + ((((((x0 - ((((x0).toUInt32 >>> (((1 : Int32)).toUInt32 &&& Int32.toUInt32 31)).toInt32) &&& 1431655765)) &&& 858993459) + (((((x0 - ((((x0).toUInt32 >>> (((1 : Int32)).toUInt32 &&& Int32.toUInt32 31)).toInt32) &&& 1431655765))).toUInt32 >>> (((2 : Int32)).toUInt32 &&& Int32.toUInt32 31)).toInt32) &&& 858993459))).toUInt32 >>> (((4 : Int32)).toUInt32 &&& Int32.toUInt32 31)).toInt32)) &&& 252645135) + ((((((((x0 - ((((x0).toUInt32 >>> (((1 : Int32)).toUInt32 &&& Int32.toUInt32 31)).toInt32) &&& 1431655765)) &&& 858993459) + (((((x0 - ((((x0).toUInt32 >>> (((1 : Int32)).toUInt32 &&& Int32.toUInt32 31)).toInt32) &&& 1431655765))).toUInt32 >>> (((2 : Int32)).toUInt32 &&& Int32.toUInt32 31)).toInt32) &&& 858993459)) + ((((((x0 - ((((x0).toUInt32 >>> (((1 : Int32)).toUInt32 &&& Int32.toUInt32 31)).toInt32) &&& 1431655765)) &&& 858993459) + (((((x0 - ((((x0).toUInt32 >>> (((1 : Int32)).toUInt32 &&& Int32.toUInt32 31)).toInt32) &&& 1431655765))).toUInt32 >>> (((2 : Int32)).toUInt32 &&& Int32.toUInt32 31)).toInt32) &&& 858993459))).toUInt32 >>> (((4 : Int32)).toUInt32 &&& Int32.toUInt32 31)).toInt32)) &&& 252645135)).toUInt32 >>> (((8 : Int32)).toUInt32 &&& Int32.toUInt32 31)).toInt32))).toUInt32 >>> (((16 : Int32)).toUInt32 &&& Int32.toUInt32 31)).toInt32)) &&& 63), S)
-- X2_sellsTo_0
def f_X2_sellsTo_0 (N : Nat) (S : ST) (x1 : Int32) (x2 : Int32) : Option (Int32 × ST) :=
  if x1 < 0 ∨ 6 ≤ x1.toNatClampNeg then none else
    if (S 1 x1.toNatClampNeg) = 5 then
      if x2 < 2 then
        some (0, S)
      else
        some (1, S)
    else
      some (1, S)
-- X2_minutesTaken_0
def f_X2_minutesTaken_0 (N : Nat) (S : ST) (x1 : Int32) : Option (Int32 × ST) :=
  if x1 < 0 ∨ 6 ≤ x1.toNatClampNeg then none else
    if (S 1 x1.toNatClampNeg) = 3 then
      if x1 < 0 ∨ 6 ≤ x1.toNatClampNeg then none else
        some ((2 * (S 3 x1.toNatClampNeg)), S)
    else
      if x1 < 0 ∨ 6 ≤ x1.toNatClampNeg then none else
        some ((S 3 x1.toNatClampNeg), S)
-- X2_goodTaken_0
def b_X2_goodTaken_0_38 (N : Nat) (S : ST) (x2 : Int32) (s0 : Int32) : Option (Int32 × ST) :=
  if (x2 &&& (1 <<< (s0 &&& 31))) = 0 then
    some ((-1), S)
  else
    some (s0, S)
def b_X2_goodTaken_0_22 (N : Nat) (S : ST) (x1 : Int32) (x2 : Int32) : Option (Int32 × ST) :=
  if x1 ≤ 0 then
    b_X2_goodTaken_0_38 N S x2 ((S 0 0) - 1)
  else
    b_X2_goodTaken_0_38 N S x2 (x1 - 1)
def f_X2_goodTaken_0 (N : Nat) (S : ST) (x1 : Int32) (x2 : Int32) : Option (Int32 × ST) :=
  if x1 < 0 ∨ 6 ≤ x1.toNatClampNeg then none else
    if (S 1 x1.toNatClampNeg) = 2 then
      b_X2_goodTaken_0_22 N S x1 x2
    else
      if x1 < 0 ∨ 6 ≤ x1.toNatClampNeg then none else
        if (S 1 x1.toNatClampNeg) = 4 then
          b_X2_goodTaken_0_22 N S x1 x2
        else
          some ((-1), S)
-- X2_asked_0
def b_X2_asked_0_78 (N : Nat) (S : ST) (x4 : Int32) : Option (Int32 × ST) :=
  if 0 ≤ x4 then
    some (x4, S)
  else
    some (0, S)
def b_X2_asked_0_60 (N : Nat) (S : ST) (x3 : Int32) (x4 : Int32) : Option (Int32 × ST) :=
  if x3 = (-1) then
    b_X2_asked_0_78 N S x4
  else
    if x3 < 0 ∨ 6 ≤ x3.toNatClampNeg then none else
      b_X2_asked_0_78 N S (x4 - ((S 2 x3.toNatClampNeg) / 2))
def b_X2_asked_0_54 (N : Nat) (S : ST) (x2 : Int32) (x3 : Int32) (x4 : Int32) : Option (Int32 × ST) :=
  b_X2_asked_0_60 N S x3 (x4 + x2)
def b_X2_asked_0_16 (N : Nat) (S : ST) (x1 : Int32) (x2 : Int32) (x3 : Int32) : Option (Int32 × ST) :=
  if x1 < 0 ∨ 6 ≤ x1.toNatClampNeg then none else
    if x1 < 0 ∨ 6 ≤ x1.toNatClampNeg then none else
      if (S 1 x1.toNatClampNeg) = 1 then
        b_X2_asked_0_54 N S x2 x3 (S 2 x1.toNatClampNeg)
      else
        if x1 < 0 ∨ 6 ≤ x1.toNatClampNeg then none else
          if (S 1 x1.toNatClampNeg) = 3 then
            b_X2_asked_0_54 N S x2 x3 (S 2 x1.toNatClampNeg)
          else
            if x1 < 0 ∨ 6 ≤ x1.toNatClampNeg then none else
              if (S 1 x1.toNatClampNeg) = 5 then
                b_X2_asked_0_54 N S x2 x3 (S 2 x1.toNatClampNeg)
              else
                b_X2_asked_0_60 N S x3 (S 2 x1.toNatClampNeg)
def f_X2_asked_0 (N : Nat) (S : ST) (x1 : Int32) (x2 : Int32) (x3 : Int32) : Option (Int32 × ST) :=
  if x1 < 0 ∨ 6 ≤ x1.toNatClampNeg then none else
    if (S 1 x1.toNatClampNeg) = 4 then
      if x2 = 0 then
        some (0, S)
      else
        b_X2_asked_0_16 N S x1 x2 x3
    else
      b_X2_asked_0_16 N S x1 x2 x3
-- X3_step
def b_X3_step_125 (N : Nat) (S : ST) (x1 : Int32) (x2 : Int32) (x4 : Int32) (x5 : Int32) (x6 : Int32) (s0 : Int32) : Option (Int32 × ST) :=
  bd2 (f_J6_bitCount_0f7a4 N S s0) fun r28 S27 =>
    if r28 < (S27 0 8) then
      if x1 < 0 ∨ 7 ≤ x1.toNatClampNeg then none else
        bd2 (f_X2_asked_0 N S27 x2 x4 x6) fun r33 S32 =>
          if ((S27 45 x1.toNatClampNeg) + r33) ≤ (S32 0 7) then
            if x1 < 0 ∨ 6 ≤ x1.toNatClampNeg then none else
              nm (us S32 41 x1.toNatClampNeg x2) fun S35 =>
                if x1 < 0 ∨ 7 ≤ x1.toNatClampNeg then none else
                  if (x1 + 1) < 0 ∨ 7 ≤ (x1 + 1).toNatClampNeg then none else
                    nm (us S35 42 ((x1 + 1).toNatClampNeg) ((S35 42 x1.toNatClampNeg) ||| (1 <<< (x2 &&& 31)))) fun S38 =>
                      if (x1 + 1) < 0 ∨ 7 ≤ (x1 + 1).toNatClampNeg then none else
                        nm (us S38 43 ((x1 + 1).toNatClampNeg) (s0 ||| (1 <<< (x2 &&& 31)))) fun S40 =>
                          if (x1 + 1) < 0 ∨ 7 ≤ (x1 + 1).toNatClampNeg then none else
                            nm (us S40 44 ((x1 + 1).toNatClampNeg) x5) fun S42 =>
                              if (x1 + 1) < 0 ∨ 7 ≤ (x1 + 1).toNatClampNeg then none else
                                nm (us S42 45 ((x1 + 1).toNatClampNeg) ((S27 45 x1.toNatClampNeg) + r33)) fun S44 =>
                                  some (0, S44)
          else
            some (6, S32)
    else
      some (5, S27)
def f_X3_step (N : Nat) (S : ST) (x1 : Int32) (x2 : Int32) : Option (Int32 × ST) :=
  bd2 (f_X3_waysOn N S x1) fun r3 S2 =>
    if ((r3 >>> (x2 &&& 31)) &&& 1) = 0 then
      some (1, S2)
    else
      if 6 ≤ x1 then
        some (2, S2)
      else
        if x1 < 0 ∨ 7 ≤ x1.toNatClampNeg then none else
          if (((S2 42 x1.toNatClampNeg) >>> (x2 &&& 31)) &&& 1) = 0 then
            if x1 < 0 ∨ 7 ≤ x1.toNatClampNeg then none else
              bd2 (f_J6_bitCount_0f7a4 N S2 (S2 43 x1.toNatClampNeg)) fun r11 S10 =>
                bd2 (f_X2_sellsTo_0 N S10 x2 r11) fun r14 S13 =>
                  if r14 = 0 then
                    some (3, S13)
                  else
                    if x1 < 0 ∨ 7 ≤ x1.toNatClampNeg then none else
                      bd2 (f_X2_minutesTaken_0 N S13 x2) fun r19 S18 =>
                        if x2 < 0 ∨ 6 ≤ x2.toNatClampNeg then none else
                          if ((S13 44 x1.toNatClampNeg) + r19) ≤ (S18 4 x2.toNatClampNeg) then
                            bd2 (f_X2_goodTaken_0 N S18 x2 (S2 43 x1.toNatClampNeg)) fun r24 S23 =>
                              if r24 = (-1) then
                                b_X3_step_125 N S23 x1 x2 r11 ((S13 44 x1.toNatClampNeg) + r19) r24 (S2 43 x1.toNatClampNeg)
                              else
                                b_X3_step_125 N S23 x1 x2 r11 ((S13 44 x1.toNatClampNeg) + r19) r24 ((S2 43 x1.toNatClampNeg) &&& ((1 <<< (r24 &&& 31)) ^^^ (-1)))
                          else
                            some (4, S18)
          else
            some (2, S2)
-- X3_goErrand
def b_X3_goErrand_7 (N : Nat) : Nat → ST → Int32 → Option (Int32 × ST)
  | 0, _, _ => none
  | n + 1, S, x1 =>
    if (S 0 9) ≤ x1 then
      some (0, S)
    else
      if x1 < 0 ∨ 12 ≤ x1.toNatClampNeg then none else
        bd2 (f_X3_step N S (S 40 6) (S 6 x1.toNatClampNeg)) fun r6 S5 =>
          if r6 = 0 then
            nm (us S5 40 6 ((S5 40 6) + 1)) fun S8 =>
              b_X3_goErrand_7 N n S8 (x1 + 1)
          else
            some (r6, S5)
def f_X3_goErrand (N : Nat) (S : ST) : Option (Int32 × ST) :=
  nm (us S 40 6 0) fun S1 =>
    b_X3_goErrand_7 N N S1 0
-- X4_errand
def f_X4_errand (N : Nat) (S : ST) (x1 : Int32) : Option (Int32 × ST) :=
  bd2 (f_X4_isIn N S x1 0 3) fun r3 S2 =>
    if r3 = 0 then
      bd2 (f_X4_refuse N S2 (-2) (-2)) fun r17 S16 =>
        some (r17, S16)
    else
      bd2 (f_X3_goErrand N S2) fun r7 S6 =>
        if x1 = 0 then
          if r7 = 0 then
            some ((-1), S6)
          else
            some (((10 * (S6 40 6)) + r7), S6)
        else
          if x1 = 1 then
            if (S6 40 6) < 0 ∨ 7 ≤ (S6 40 6).toNatClampNeg then none else
              some ((S6 45 (S6 40 6).toNatClampNeg), S6)
          else
            if x1 = 2 then
              if (S6 40 6) < 0 ∨ 7 ≤ (S6 40 6).toNatClampNeg then none else
                some ((S6 44 (S6 40 6).toNatClampNeg), S6)
            else
              if (S6 40 6) < 0 ∨ 7 ≤ (S6 40 6).toNatClampNeg then none else
                some ((S6 43 (S6 40 6).toNatClampNeg), S6)
-- X4_areGoods
def f_X4_areGoods (N : Nat) (S : ST) (x1 : Int32) : Option (Int32 × ST) :=
  bd2 (f_X4_isIn N S x1 0 ((1 <<< ((S 0 0) &&& 31)) - 1)) fun r3 S2 =>
    if r3 = 0 ∨ r3 = 1 then some (r3, S2) else none
-- X1_expect
def f_X1_expect (N : Nat) (S : ST) (x1 : Int32) (x2 : Int32) : Option ST :=
  nm (us S 46 2 x1) fun S1 =>
    nm (us S1 46 5 0) fun S2 =>
      nm (us S2 46 6 x2) fun S3 =>
        nm (us S3 46 7 7) fun S4 =>
          some S4
-- X1_score
def f_X1_score (N : Nat) (S : ST) (x1 : Int32) : Option (Int32 × ST) :=
  if (S 46 4) = 0 then
    if x1 < 0 ∨ 7 ≤ x1.toNatClampNeg then none else
      some ((S 45 x1.toNatClampNeg), S)
  else
    if x1 < 0 ∨ 7 ≤ x1.toNatClampNeg then none else
      some ((S 44 x1.toNatClampNeg), S)
-- X1_isBetter
def f_X1_isBetter (N : Nat) (S : ST) (x1 : Int32) : Option (Int32 × ST) :=
  bd2 (f_X1_score N S x1) fun r3 S2 =>
    if r3 < (S2 46 6) then
      some (1, S2)
    else
      if r3 = (S2 46 6) then
        if (S2 46 7) ≤ x1 then
          some (0, S2)
        else
          some (1, S2)
      else
        some (0, S2)
-- X1_keep
def b_X1_keep_47 (N : Nat) : Nat → ST → Int32 → Int32 → Option ST
  | 0, _, _, _ => none
  | n + 1, S, x1, x2 =>
    if x1 ≤ x2 then
      some S
    else
      if x2 < 0 ∨ 6 ≤ x2.toNatClampNeg then none else
        if x2 < 0 ∨ 6 ≤ x2.toNatClampNeg then none else
          nm (us S 47 x2.toNatClampNeg (S 41 x2.toNatClampNeg)) fun S13 =>
            if (x2 + 1) < 0 ∨ 7 ≤ (x2 + 1).toNatClampNeg then none else
              if x2 < 0 ∨ 7 ≤ x2.toNatClampNeg then none else
                if x2 < 0 ∨ 6 ≤ x2.toNatClampNeg then none else
                  nm (us S13 48 x2.toNatClampNeg ((S13 45 (x2 + 1).toNatClampNeg) - (S13 45 x2.toNatClampNeg))) fun S17 =>
                    b_X1_keep_47 N n S17 x1 (x2 + 1)
def f_X1_keep (N : Nat) (S : ST) (x1 : Int32) : Option ST :=
  nm (us S 46 5 1) fun S1 =>
    bd2 (f_X1_score N S1 x1) fun r4 S3 =>
      nm (us S3 46 6 r4) fun S5 =>
        nm (us S5 46 7 x1) fun S6 =>
          if x1 < 0 ∨ 7 ≤ x1.toNatClampNeg then none else
            nm (us S6 46 8 (S6 45 x1.toNatClampNeg)) fun S8 =>
              if x1 < 0 ∨ 7 ≤ x1.toNatClampNeg then none else
                nm (us S8 46 9 (S8 44 x1.toNatClampNeg)) fun S10 =>
                  b_X1_keep_47 N N S10 x1 0
-- X1_goOn
def b_X1_goOn_110 (N : Nat) (rc : ST → Int32 → Option ST) (k72 : ST → Int32 → Int32 → Int32 → Option ST) (S : ST) (x1 : Int32) (x2 : Int32) (x3 : Int32) : Option ST :=
  k72 S x1 x2 (x3 + 1)
def b_X1_goOn_72 (N : Nat) (rc : ST → Int32 → Option ST) : Nat → ST → Int32 → Int32 → Int32 → Option ST
  | 0, _, _, _, _ => none
  | n + 1, S, x1, x2, x3 =>
    if (S 0 0) ≤ x3 then
      some S
    else
      if ((x2 >>> (x3 &&& 31)) &&& 1) = 0 then
        b_X1_goOn_110 N rc (fun S x1 x2 x3 => b_X1_goOn_72 N rc n S x1 x2 x3) S x1 x2 x3
      else
        bd2 (f_X3_step N S x1 x3) fun r18 S17 =>
          if r18 = 0 then
            bd1 (rc S17 (x1 + 1)) fun S21 =>
              b_X1_goOn_110 N rc (fun S x1 x2 x3 => b_X1_goOn_72 N rc n S x1 x2 x3) S21 x1 x2 x3
          else
            b_X1_goOn_110 N rc (fun S x1 x2 x3 => b_X1_goOn_72 N rc n S x1 x2 x3) S17 x1 x2 x3
def f_X1_goOn (N : Nat) : Nat → ST → Int32 → Option ST
  | 0, _, _ => none
  | d + 1, S, x1 =>
    if 6 < x1 then
      some S
    else
      bd2 (f_X1_isBetter N S x1) fun r4 S3 =>
        if r4 = 0 then
          some S3
        else
          if x1 < 0 ∨ 7 ≤ x1.toNatClampNeg then none else
            if ((S3 43 x1.toNatClampNeg) &&& (S3 46 2)) = (S3 46 2) then
              bd1 (f_X1_keep N S3 x1) fun S13 =>
                some S13
            else
              bd2 (f_X3_waysOn N S3 x1) fun r10 S9 =>
                if x1 < 0 ∨ 7 ≤ x1.toNatClampNeg then none else
                  b_X1_goOn_72 N (fun S x1 => f_X1_goOn N d S x1) N S9 x1 ((r10 &&& ((S9 42 x1.toNatClampNeg) ^^^ (-1))) &&& ((S9 46 3) ^^^ (-1))) 0
-- X1_findCheapest
def f_X1_findCheapest (N : Nat) (S : ST) (x1 : Int32) (x2 : Int32) (x3 : Int32) : Option (Int32 × ST) :=
  nm (us S 46 4 0) fun S1 =>
    nm (us S1 46 3 x3) fun S2 =>
      bd1 (f_X1_expect N S2 x1 x2) fun S4 =>
        bd1 (f_X1_goOn N 8 S4 0) fun S6 =>
          if (S6 46 5) = 0 ∨ (S6 46 5) = 1 then some ((S6 46 5), S6) else none
-- X4_cheapest
def b_X4_cheapest_17 (N : Nat) (S : ST) : Option (Int32 × ST) :=
  bd2 (f_X4_refuse N S (-2) (-2)) fun r17 S16 =>
    some (r17, S16)
def f_X4_cheapest (N : Nat) (S : ST) (x1 : Int32) (x2 : Int32) : Option (Int32 × ST) :=
  bd2 (f_X4_areGoods N S x1) fun r3 S2 =>
    if r3 = 0 then
      b_X4_cheapest_17 N S2
    else
      bd2 (f_X4_isIn N S2 x2 0 2) fun r7 S6 =>
        if r7 = 0 then
          b_X4_cheapest_17 N S6
        else
          bd2 (f_X1_findCheapest N S6 x1 (S6 0 7) 0) fun r11 S10 =>
            if r11 = 0 then
              some ((-1), S10)
            else
              if x2 = 0 then
                some ((S10 46 8), S10)
              else
                if x2 = 1 then
                  some ((S10 46 7), S10)
                else
                  some ((S10 46 9), S10)
-- X4_row
def b_X4_row_12 (N : Nat) (S : ST) : Option (Int32 × ST) :=
  bd2 (f_X4_refuse N S (-2) (-10)) fun r14 S13 =>
    some (r14, S13)
def f_X4_row (N : Nat) (S : ST) (x1 : Int32) (x2 : Int32) : Option (Int32 × ST) :=
  bd2 (f_X4_areGoods N S x1) fun r3 S2 =>
    if r3 = 0 then
      b_X4_row_12 N S2
    else
      if 0 ≤ x2 then
        bd2 (f_X1_findCheapest N S2 x1 (S2 0 7) 0) fun r8 S7 =>
          if r8 = 0 then
            some ((-5), S7)
          else
            if x2 < (S7 46 7) then
              if x2 < 0 ∨ 6 ≤ x2.toNatClampNeg then none else
                some ((S7 47 x2.toNatClampNeg), S7)
            else
              some ((-5), S7)
      else
        b_X4_row_12 N S2
-- X1_findSoonest
def f_X1_findSoonest (N : Nat) (S : ST) (x1 : Int32) : Option (Int32 × ST) :=
  nm (us S 46 4 1) fun S1 =>
    nm (us S1 46 3 0) fun S2 =>
      bd1 (f_X1_expect N S2 x1 240) fun S4 =>
        bd1 (f_X1_goOn N 8 S4 0) fun S6 =>
          if (S6 46 5) = 0 ∨ (S6 46 5) = 1 then some ((S6 46 5), S6) else none
-- X4_soonest
def f_X4_soonest (N : Nat) (S : ST) (x1 : Int32) : Option (Int32 × ST) :=
  bd2 (f_X4_areGoods N S x1) fun r3 S2 =>
    if r3 = 0 then
      bd2 (f_X4_refuse N S2 (-2) (-2)) fun r11 S10 =>
        some (r11, S10)
    else
      bd2 (f_X1_findSoonest N S2 x1) fun r7 S6 =>
        if r7 = 0 then
          some ((-1), S6)
        else
          some ((S6 46 9), S6)
-- X4_worth
def b_X4_worth_30 (N : Nat) (S : ST) : Option (Int32 × ST) :=
  bd2 (f_X4_refuse N S (-2) (-1000)) fun r33 S32 =>
    some (r33, S32)
def f_X4_worth (N : Nat) (S : ST) (x1 : Int32) (x2 : Int32) : Option (Int32 × ST) :=
  bd2 (f_X4_areGoods N S x1) fun r3 S2 =>
    if r3 = 0 then
      b_X4_worth_30 N S2
    else
      bd2 (f_X2_hasShop_0 N S2 x2) fun r7 S6 =>
        if r7 = 0 then
          b_X4_worth_30 N S6
        else
          bd2 (f_X2_isFree_0 N S6 x2) fun r11 S10 =>
            if r11 = 0 then
              bd2 (f_X1_findCheapest N S10 x1 (S10 0 7) 0) fun r15 S14 =>
                if r15 = 0 then
                  bd2 (f_X4_refuse N S14 (-3) (-2000)) fun r30 S29 =>
                    some (r30, S29)
                else
                  bd1 (f_X2_setFree_0 N S14 x2 1) fun S18 =>
                    bd2 (f_X1_findCheapest N S18 x1 (S18 0 7) 0) fun r21 S20 =>
                      bd1 (f_X2_setFree_0 N S20 x2 0) fun S23 =>
                        if r21 = 0 then
                          bd2 (f_X4_refuse N S23 (-3) (-2000)) fun r27 S26 =>
                            some (r27, S26)
                        else
                          some (((S14 46 8) - (S23 46 8)), S23)
            else
              b_X4_worth_30 N S10
-- X1_goodsToHave
def b_X1_goodsToHave_39 (N : Nat) (k4 : ST → Int32 → Int32 → Int32 → Option (Int32 × ST)) (S : ST) (x1 : Int32) (x2 : Int32) (x3 : Int32) : Option (Int32 × ST) :=
  k4 S x1 x2 (x3 + 1)
def b_X1_goodsToHave_4 (N : Nat) : Nat → ST → Int32 → Int32 → Int32 → Option (Int32 × ST)
  | 0, _, _, _, _ => none
  | n + 1, S, x1, x2, x3 =>
    if (S 0 0) ≤ x3 then
      some (x2, S)
    else
      bd2 (f_X1_findCheapest N S (1 <<< (x3 &&& 31)) (S 0 7) x1) fun r4 S3 =>
        if r4 = 0 then
          b_X1_goodsToHave_39 N (fun S x1 x2 x3 => b_X1_goodsToHave_4 N n S x1 x2 x3) S3 x1 x2 x3
        else
          b_X1_goodsToHave_39 N (fun S x1 x2 x3 => b_X1_goodsToHave_4 N n S x1 x2 x3) S3 x1 (x2 ||| (1 <<< (x3 &&& 31))) x3
def f_X1_goodsToHave (N : Nat) (S : ST) (x1 : Int32) : Option (Int32 × ST) :=
  b_X1_goodsToHave_4 N N S x1 0 0
-- X4_shutOut
def f_X4_shutOut (N : Nat) (S : ST) (x1 : Int32) : Option (Int32 × ST) :=
  bd2 (f_X2_hasShop_0 N S x1) fun r3 S2 =>
    if r3 = 0 then
      bd2 (f_X4_refuse N S2 (-2) (-2)) fun r13 S12 =>
        some (r13, S12)
    else
      bd2 (f_X1_goodsToHave N S2 0) fun r7 S6 =>
        bd2 (f_X1_goodsToHave N S6 (1 <<< (x1 &&& 31))) fun r10 S9 =>
          some ((r7 &&& (r10 ^^^ (-1))), S9)
-- X1_canHaveAll
def b_X1_canHaveAll_53 (N : Nat) (k2 : ST → Int32 → Int32 → Int32 → Option (Int32 × ST)) (S : ST) (x1 : Int32) (x2 : Int32) (x3 : Int32) : Option (Int32 × ST) :=
  k2 S x1 x2 (x3 + 1)
def b_X1_canHaveAll_26 (N : Nat) (k2 : ST → Int32 → Int32 → Int32 → Option (Int32 × ST)) (S : ST) (x1 : Int32) (x2 : Int32) (x3 : Int32) (s0 : Int32) : Option (Int32 × ST) :=
  if s0 = 0 then
    b_X1_canHaveAll_53 N k2 S x1 x2 x3
  else
    bd2 (f_X1_findCheapest N S (1 <<< (x3 &&& 31)) (S 0 7) x2) fun r6 S5 =>
      if r6 = 0 then
        some (0, S5)
      else
        b_X1_canHaveAll_53 N k2 S5 x1 x2 x3
def b_X1_canHaveAll_2 (N : Nat) : Nat → ST → Int32 → Int32 → Int32 → Option (Int32 × ST)
  | 0, _, _, _, _ => none
  | n + 1, S, x1, x2, x3 =>
    if (S 0 0) ≤ x3 then
      some (1, S)
    else
      if ((x1 >>> (x3 &&& 31)) &&& 1) = 0 then
        b_X1_canHaveAll_26 N (fun S x1 x2 x3 => b_X1_canHaveAll_2 N n S x1 x2 x3) S x1 x2 x3 0
      else
        b_X1_canHaveAll_26 N (fun S x1 x2 x3 => b_X1_canHaveAll_2 N n S x1 x2 x3) S x1 x2 x3 1
def f_X1_canHaveAll (N : Nat) (S : ST) (x1 : Int32) (x2 : Int32) : Option (Int32 × ST) :=
  b_X1_canHaveAll_2 N N S x1 x2 0
-- X4_areMended
def b_X4_areMended_145 (N : Nat) (rc : ST → Int32 → Int32 → Int32 → Int32 → Option (Int32 × ST)) (k23 : ST → Int32 → Int32 → Int32 → Int32 → Int32 → Option (Int32 × ST)) (S : ST) (x1 : Int32) (x2 : Int32) (x3 : Int32) (x5 : Int32) (x6 : Int32) : Option (Int32 × ST) :=
  k23 S x1 x2 x3 x5 (x6 + 1)
def b_X4_areMended_99 (N : Nat) (rc : ST → Int32 → Int32 → Int32 → Int32 → Option (Int32 × ST)) (k23 : ST → Int32 → Int32 → Int32 → Int32 → Int32 → Option (Int32 × ST)) (S : ST) (x1 : Int32) (x2 : Int32) (x3 : Int32) (x5 : Int32) (x6 : Int32) (x7 : Int32) (x8 : Int32) (s0 : Int32) : Option (Int32 × ST) :=
  if s0 = 0 then
    b_X4_areMended_145 N rc k23 S x1 x2 x3 x5 x6
  else
    bd1 (f_X2_setNear_0 N S x7 x8 1) fun S20 =>
      bd2 (rc S20 x1 x2 (x3 - 1) (x6 + 1)) fun r23 S22 =>
        bd1 (f_X2_setNear_0 N S22 x7 x8 0) fun S25 =>
          b_X4_areMended_145 N rc k23 S25 x1 x2 x3 r23 x6
def b_X4_areMended_98 (N : Nat) (rc : ST → Int32 → Int32 → Int32 → Int32 → Option (Int32 × ST)) (k23 : ST → Int32 → Int32 → Int32 → Int32 → Int32 → Option (Int32 × ST)) (S : ST) (x1 : Int32) (x2 : Int32) (x3 : Int32) (x5 : Int32) (x6 : Int32) (x7 : Int32) (x8 : Int32) : Option (Int32 × ST) :=
  b_X4_areMended_99 N rc k23 S x1 x2 x3 x5 x6 x7 x8 0
def b_X4_areMended_23 (N : Nat) (rc : ST → Int32 → Int32 → Int32 → Int32 → Option (Int32 × ST)) : Nat → ST → Int32 → Int32 → Int32 → Int32 → Int32 → Option (Int32 × ST)
  | 0, _, _, _, _, _, _ => none
  | n + 1, S, x1, x2, x3, x5, x6 =>
    if 36 ≤ x6 then
      if x5 = 0 ∨ x5 = 1 then some (x5, S) else none
    else
      if x5 = 0 then
        if (x6 - x6 / 6 * 6) ≤ (x6 / 6) then
          b_X4_areMended_98 N rc (fun S x1 x2 x3 x5 x6 => b_X4_areMended_23 N rc n S x1 x2 x3 x5 x6) S x1 x2 x3 x5 x6 (x6 / 6) (x6 - x6 / 6 * 6)
        else
          if (S 0 0) ≤ (x6 - x6 / 6 * 6) then
            b_X4_areMended_98 N rc (fun S x1 x2 x3 x5 x6 => b_X4_areMended_23 N rc n S x1 x2 x3 x5 x6) S x1 x2 x3 x5 x6 (x6 / 6) (x6 - x6 / 6 * 6)
          else
            if (x6 / 6) = x2 then
              b_X4_areMended_98 N rc (fun S x1 x2 x3 x5 x6 => b_X4_areMended_23 N rc n S x1 x2 x3 x5 x6) S x1 x2 x3 x5 x6 (x6 / 6) (x6 - x6 / 6 * 6)
            else
              if (x6 - x6 / 6 * 6) = x2 then
                b_X4_areMended_98 N rc (fun S x1 x2 x3 x5 x6 => b_X4_areMended_23 N rc n S x1 x2 x3 x5 x6) S x1 x2 x3 x5 x6 (x6 / 6) (x6 - x6 / 6 * 6)
              else
                bd2 (f_X2_areNear_0 N S (x6 / 6) (x6 - x6 / 6 * 6)) fun r16 S15 =>
                  if r16 = 0 then
                    b_X4_areMended_99 N rc (fun S x1 x2 x3 x5 x6 => b_X4_areMended_23 N rc n S x1 x2 x3 x5 x6) S15 x1 x2 x3 x5 x6 (x6 / 6) (x6 - x6 / 6 * 6) 1
                  else
                    b_X4_areMended_98 N rc (fun S x1 x2 x3 x5 x6 => b_X4_areMended_23 N rc n S x1 x2 x3 x5 x6) S15 x1 x2 x3 x5 x6 (x6 / 6) (x6 - x6 / 6 * 6)
      else
        if x5 = 0 ∨ x5 = 1 then some (x5, S) else none
def f_X4_areMended (N : Nat) : Nat → ST → Int32 → Int32 → Int32 → Int32 → Option (Int32 × ST)
  | 0, _, _, _, _, _ => none
  | d + 1, S, x1, x2, x3, x4 =>
    if 0 < x3 then
      b_X4_areMended_23 N (fun S x1 x2 x3 x4 => f_X4_areMended N d S x1 x2 x3 x4) N S x1 x2 x3 0 x4
    else
      bd2 (f_X1_canHaveAll N S x1 (1 <<< (x2 &&& 31))) fun r4 S3 =>
        if r4 = 0 ∨ r4 = 1 then some (r4, S3) else none
-- X4_mends
def b_X4_mends_37 (N : Nat) : Nat → ST → Int32 → Int32 → Int32 → Option (Int32 × ST)
  | 0, _, _, _, _ => none
  | n + 1, S, x1, x2, x3 =>
    if 2 < x3 then
      some ((-1), S)
    else
      bd2 (f_X4_areMended N 4 S x2 x1 x3 0) fun r14 S13 =>
        if r14 = 0 then
          b_X4_mends_37 N n S13 x1 x2 (x3 + 1)
        else
          some (x3, S13)
def f_X4_mends (N : Nat) (S : ST) (x1 : Int32) : Option (Int32 × ST) :=
  bd2 (f_X2_hasShop_0 N S x1) fun r3 S2 =>
    if r3 = 0 then
      bd2 (f_X4_refuse N S2 (-2) (-2)) fun r10 S9 =>
        some (r10, S9)
    else
      bd2 (f_X1_goodsToHave N S2 0) fun r7 S6 =>
        b_X4_mends_37 N N S6 x1 (r7 &&& ((1 <<< (x1 &&& 31)) ^^^ (-1))) 0
-- X4_buyer
def b_X4_buyer_21 (N : Nat) (S : ST) : Option (Int32 × ST) :=
  bd2 (f_X4_refuse N S (-2) (-2)) fun r20 S19 =>
    some (r20, S19)
def f_X4_buyer (N : Nat) (S : ST) (x1 : Int32) (x2 : Int32) : Option (Int32 × ST) :=
  bd2 (f_X2_hasShop_0 N S x1) fun r3 S2 =>
    if r3 = 0 then
      b_X4_buyer_21 N S2
    else
      bd2 (f_X4_isIn N S2 x2 0 99) fun r7 S6 =>
        if r7 = 0 then
          b_X4_buyer_21 N S6
        else
          if (S6 0 13) < 6 then
            if (S6 0 13) < 0 ∨ 6 ≤ (S6 0 13).toNatClampNeg then none else
              nm (us S6 8 ((S6 0 13).toNatClampNeg) x1) fun S10 =>
                if (S10 0 13) < 0 ∨ 6 ≤ (S10 0 13).toNatClampNeg then none else
                  nm (us S10 9 ((S10 0 13).toNatClampNeg) x2) fun S12 =>
                    nm (us S12 0 13 ((S12 0 13) + 1)) fun S14 =>
                      some (((S14 0 13) - 1), S14)
          else
            bd2 (f_X4_refuse N S6 (-4) (-4)) fun r17 S16 =>
              some (r17, S16)
-- X4_leave
def f_X4_leave (N : Nat) (S : ST) : Option (Int32 × ST) :=
  nm (us S 0 13 0) fun S1 =>
    some ((S 0 13), S1)
-- X1_paidTo
def b_X1_paidTo_2 (N : Nat) : Nat → ST → Int32 → Int32 → Option (Int32 × ST)
  | 0, _, _, _ => none
  | n + 1, S, x1, x2 =>
    if (S 46 7) ≤ x2 then
      some (0, S)
    else
      if 6 ≤ x2 then
        some (0, S)
      else
        if x2 < 0 ∨ 6 ≤ x2.toNatClampNeg then none else
          if (S 47 x2.toNatClampNeg) = x1 then
            if x2 < 0 ∨ 6 ≤ x2.toNatClampNeg then none else
              some ((S 48 x2.toNatClampNeg), S)
          else
            b_X1_paidTo_2 N n S x1 (x2 + 1)
def f_X1_paidTo (N : Nat) (S : ST) (x1 : Int32) : Option (Int32 × ST) :=
  b_X1_paidTo_2 N N S x1 0
-- X4_takenBy
def b_X4_takenBy_71 (N : Nat) (k4 : ST → Int32 → Int32 → Int32 → Option (Int32 × ST)) (S : ST) (x1 : Int32) (x2 : Int32) (x3 : Int32) : Option (Int32 × ST) :=
  k4 S x1 x2 (x3 + 1)
def b_X4_takenBy_4 (N : Nat) : Nat → ST → Int32 → Int32 → Int32 → Option (Int32 × ST)
  | 0, _, _, _, _ => none
  | n + 1, S, x1, x2, x3 =>
    if (S 0 13) ≤ x3 then
      some (x2, S)
    else
      if x3 < 0 ∨ 6 ≤ x3.toNatClampNeg then none else
        if x3 < 0 ∨ 6 ≤ x3.toNatClampNeg then none else
          bd2 (f_X1_findCheapest N S (1 <<< ((S 8 x3.toNatClampNeg) &&& 31)) (if (S 0 7) < (S 9 x3.toNatClampNeg) then (S 0 7) else (S 9 x3.toNatClampNeg)) 0) fun r6 S5 =>
            if r6 = 0 then
              b_X4_takenBy_71 N (fun S x1 x2 x3 => b_X4_takenBy_4 N n S x1 x2 x3) S5 x1 x2 x3
            else
              bd2 (f_X1_paidTo N S5 x1) fun r10 S9 =>
                b_X4_takenBy_71 N (fun S x1 x2 x3 => b_X4_takenBy_4 N n S x1 x2 x3) S9 x1 (x2 + r10) x3
def f_X4_takenBy (N : Nat) (S : ST) (x1 : Int32) : Option (Int32 × ST) :=
  b_X4_takenBy_4 N N S x1 0 0
-- X4_takes
def f_X4_takes (N : Nat) (S : ST) (x1 : Int32) : Option (Int32 × ST) :=
  bd2 (f_X2_hasShop_0 N S x1) fun r3 S2 =>
    if r3 = 0 then
      bd2 (f_X4_refuse N S2 (-2) (-2)) fun r10 S9 =>
        some (r10, S9)
    else
      bd2 (f_X4_takenBy N S2 x1) fun r7 S6 =>
        some (r7, S6)
-- X4_bestPrice
def b_X4_bestPrice_64 (N : Nat) (k15 : ST → Int32 → Int32 → Int32 → Int32 → Option (Int32 × ST)) (S : ST) (x1 : Int32) (x2 : Int32) (x3 : Int32) (x4 : Int32) : Option (Int32 × ST) :=
  k15 S x1 x2 x3 (x4 + 1)
def b_X4_bestPrice_15 (N : Nat) : Nat → ST → Int32 → Int32 → Int32 → Int32 → Option (Int32 × ST)
  | 0, _, _, _, _, _ => none
  | n + 1, S, x1, x2, x3, x4 =>
    if 20 < x4 then
      if x1 < 0 ∨ 6 ≤ x1.toNatClampNeg then none else
        nm (us S 2 x1.toNatClampNeg x2) fun S3 =>
          some (x3, S3)
    else
      if x1 < 0 ∨ 6 ≤ x1.toNatClampNeg then none else
        nm (us S 2 x1.toNatClampNeg x4) fun S5 =>
          bd2 (f_X4_takenBy N S5 x1) fun r9 S8 =>
            if x4 < 0 ∨ 21 ≤ x4.toNatClampNeg then none else
              nm (us S8 54 x4.toNatClampNeg r9) fun S10 =>
                if x4 < 0 ∨ 21 ≤ x4.toNatClampNeg then none else
                  if x3 < 0 ∨ 21 ≤ x3.toNatClampNeg then none else
                    if (S10 54 x4.toNatClampNeg) ≤ (S10 54 x3.toNatClampNeg) then
                      b_X4_bestPrice_64 N (fun S x1 x2 x3 x4 => b_X4_bestPrice_15 N n S x1 x2 x3 x4) S10 x1 x2 x3 x4
                    else
                      b_X4_bestPrice_64 N (fun S x1 x2 x3 x4 => b_X4_bestPrice_15 N n S x1 x2 x3 x4) S10 x1 x2 x4 x4
def f_X4_bestPrice (N : Nat) (S : ST) (x1 : Int32) : Option (Int32 × ST) :=
  if x1 < 0 ∨ 6 ≤ x1.toNatClampNeg then none else
    b_X4_bestPrice_15 N N S x1 (S 2 x1.toNatClampNeg) 0 0
-- X4_asks
def f_X4_asks (N : Nat) (S : ST) (x1 : Int32) : Option (Int32 × ST) :=
  bd2 (f_X2_hasShop_0 N S x1) fun r3 S2 =>
    if r3 = 0 then
      bd2 (f_X4_refuse N S2 (-2) (-2)) fun r10 S9 =>
        some (r10, S9)
    else
      bd2 (f_X4_bestPrice N S2 x1) fun r7 S6 =>
        some (r7, S6)
-- X4_roundChanges
def b_X4_roundChanges_56 (N : Nat) (k4 : ST → Int32 → Int32 → Option (Int32 × ST)) (S : ST) (x1 : Int32) (x2 : Int32) : Option (Int32 × ST) :=
  k4 S x1 (x2 + 1)
def b_X4_roundChanges_4 (N : Nat) : Nat → ST → Int32 → Int32 → Option (Int32 × ST)
  | 0, _, _, _ => none
  | n + 1, S, x1, x2 =>
    if (S 0 0) ≤ x2 then
      if x1 = 0 ∨ x1 = 1 then some (x1, S) else none
    else
      bd2 (f_X4_bestPrice N S x2) fun r5 S4 =>
        if r5 < 0 ∨ 21 ≤ r5.toNatClampNeg then none else
          if x2 < 0 ∨ 6 ≤ x2.toNatClampNeg then none else
            if (S4 2 x2.toNatClampNeg) < 0 ∨ 21 ≤ (S4 2 x2.toNatClampNeg).toNatClampNeg then none else
              if (S4 54 r5.toNatClampNeg) ≤ (S4 54 (S4 2 x2.toNatClampNeg).toNatClampNeg) then
                b_X4_roundChanges_56 N (fun S x1 x2 => b_X4_roundChanges_4 N n S x1 x2) S4 x1 x2
              else
                if x2 < 0 ∨ 6 ≤ x2.toNatClampNeg then none else
                  nm (us S4 2 x2.toNatClampNeg r5) fun S10 =>
                    b_X4_roundChanges_56 N (fun S x1 x2 => b_X4_roundChanges_4 N n S x1 x2) S10 1 x2
def f_X4_roundChanges (N : Nat) (S : ST) : Option (Int32 × ST) :=
  b_X4_roundChanges_4 N N S 0 0
-- X4_changes
def b_X4_changes_86 (N : Nat) (S : ST) (x1 : Int32) (x2 : Int32) (x3 : Int32) (s0 : Int32) : Option (Int32 × ST) :=
  nm (cpS S 55 2 0 0 6) fun S17 =>
    if x3 = 0 then
      if x1 = (-1) then
        some (x2, S17)
      else
        some (s0, S17)
    else
      some ((-1), S17)
def b_X4_changes_68 (N : Nat) (S : ST) (x1 : Int32) (x2 : Int32) (x3 : Int32) : Option (Int32 × ST) :=
  if x1 = (-1) then
    b_X4_changes_86 N S x1 x2 x3 (-1)
  else
    if x1 < 0 ∨ 6 ≤ x1.toNatClampNeg then none else
      b_X4_changes_86 N S x1 x2 x3 (S 2 x1.toNatClampNeg)
def b_X4_changes_47 (N : Nat) : Nat → ST → Int32 → Int32 → Int32 → Option (Int32 × ST)
  | 0, _, _, _, _ => none
  | n + 1, S, x1, x2, x3 =>
    if x3 = 0 then
      b_X4_changes_68 N S x1 x2 x3
    else
      if 8 ≤ x2 then
        b_X4_changes_68 N S x1 x2 x3
      else
        bd2 (f_X4_roundChanges N S) fun r14 S13 =>
          b_X4_changes_47 N n S13 x1 (x2 + 1) r14
def b_X4_changes_25 (N : Nat) (S : ST) (x1 : Int32) : Option (Int32 × ST) :=
  nm (cpS S 2 55 0 0 6) fun S9 =>
    b_X4_changes_47 N N S9 x1 0 1
def f_X4_changes (N : Nat) (S : ST) (x1 : Int32) : Option (Int32 × ST) :=
  if x1 = (-1) then
    b_X4_changes_25 N S x1
  else
    bd2 (f_X2_hasShop_0 N S x1) fun r4 S3 =>
      if r4 = 0 then
        bd2 (f_X4_refuse N S3 (-2) (-2)) fun r8 S7 =>
          some (r8, S7)
      else
        b_X4_changes_25 N S3 x1
-- X4_isErrandFor
def b_X4_isErrandFor_40 (N : Nat) : Nat → ST → Int32 → Option (Int32 × ST)
  | 0, _, _ => none
  | n + 1, S, x2 =>
    if (S 46 7) ≤ x2 then
      some (1, S)
    else
      if x2 < 0 ∨ 6 ≤ x2.toNatClampNeg then none else
        if x2 < 0 ∨ 12 ≤ x2.toNatClampNeg then none else
          if (S 47 x2.toNatClampNeg) = (S 6 x2.toNatClampNeg) then
            b_X4_isErrandFor_40 N n S (x2 + 1)
          else
            some (0, S)
def f_X4_isErrandFor (N : Nat) (S : ST) (x1 : Int32) : Option (Int32 × ST) :=
  bd2 (f_X1_findCheapest N S x1 (S 0 7) 0) fun r3 S2 =>
    if r3 = 0 then
      some (0, S2)
    else
      if (S2 46 7) = (S2 0 9) then
        b_X4_isErrandFor_40 N N S2 0
      else
        some (0, S2)
-- X4_wanted
def b_X4_wanted_98 (N : Nat) (S : ST) (x1 : Int32) (x4 : Int32) : Option (Int32 × ST) :=
  if x1 = (-1) then
    some (x4, S)
  else
    some ((-5), S)
def b_X4_wanted_92 (N : Nat) (k52 : ST → Int32 → Int32 → Int32 → Int32 → Int32 → Option (Int32 × ST)) (S : ST) (x1 : Int32) (x2 : Int32) (x3 : Int32) (x4 : Int32) (x5 : Int32) : Option (Int32 × ST) :=
  k52 S x1 x2 x3 x4 (x5 + 1)
def b_X4_wanted_52 (N : Nat) : Nat → ST → Int32 → Int32 → Int32 → Int32 → Int32 → Option (Int32 × ST)
  | 0, _, _, _, _, _, _ => none
  | n + 1, S, x1, x2, x3, x4, x5 =>
    if x3 < x5 then
      b_X4_wanted_98 N S x1 x4
    else
      if x2 = 0 then
        b_X4_wanted_98 N S x1 x4
      else
        if (x5 &&& (x3 ^^^ (-1))) = 0 then
          bd2 (f_X4_isErrandFor N S x5) fun r15 S14 =>
            if r15 = 0 then
              b_X4_wanted_92 N (fun S x1 x2 x3 x4 x5 => b_X4_wanted_52 N n S x1 x2 x3 x4 x5) S14 x1 x2 x3 x4 x5
            else
              if x4 = x1 then
                some (x5, S14)
              else
                b_X4_wanted_92 N (fun S x1 x2 x3 x4 x5 => b_X4_wanted_52 N n S x1 x2 x3 x4 x5) S14 x1 x2 x3 (x4 + 1) x5
        else
          b_X4_wanted_92 N (fun S x1 x2 x3 x4 x5 => b_X4_wanted_52 N n S x1 x2 x3 x4 x5) S x1 x2 x3 x4 x5
def b_X4_wanted_29 (N : Nat) (S : ST) (x1 : Int32) (s0 : Int32) : Option (Int32 × ST) :=
  if (S 40 6) < 0 ∨ 7 ≤ (S 40 6).toNatClampNeg then none else
    b_X4_wanted_52 N N S x1 s0 (S 43 (S 40 6).toNatClampNeg) 0 0
def f_X4_wanted (N : Nat) (S : ST) (x1 : Int32) : Option (Int32 × ST) :=
  if (-1) ≤ x1 then
    bd2 (f_X3_goErrand N S) fun r4 S3 =>
      if r4 = 0 then
        b_X4_wanted_29 N S3 x1 1
      else
        b_X4_wanted_29 N S3 x1 0
  else
    bd2 (f_X4_refuse N S (-2) (-10)) fun r8 S7 =>
      some (r8, S7)
-- X2_takeShopsOf_20_0
def f_X2_takeShopsOf_20_0 (N : Nat) (S : ST) : Option ST :=
  nm (us S 20 0 (S 0 0)) fun S1 =>
    nm (cpS S1 1 21 0 0 6) fun S2 =>
      nm (cpS S2 2 22 0 0 6) fun S3 =>
        nm (cpS S3 3 23 0 0 6) fun S4 =>
          nm (cpS S4 4 24 0 0 6) fun S5 =>
            nm (cpS S5 5 25 0 0 6) fun S6 =>
              nm (us S6 20 6 (S6 0 6)) fun S7 =>
                nm (us S7 20 9 (S7 0 9)) fun S8 =>
                  nm (cpS S8 6 26 0 0 12) fun S9 =>
                    some S9
-- X2_takeAllOf_20_0
def f_X2_takeAllOf_20_0 (N : Nat) (S : ST) : Option ST :=
  bd1 (f_X2_takeShopsOf_20_0 N S) fun S2 =>
    nm (us S2 20 7 (S2 0 7)) fun S3 =>
      nm (us S3 20 8 (S3 0 8)) fun S4 =>
        nm (us S4 20 11 (S4 0 11)) fun S5 =>
          nm (cpS S5 7 27 0 0 200) fun S6 =>
            nm (us S6 20 13 (S6 0 13)) fun S7 =>
              nm (cpS S7 8 28 0 0 6) fun S8 =>
                nm (cpS S8 9 29 0 0 6) fun S9 =>
                  some S9
-- X2_takeShopsOf_30_0
def f_X2_takeShopsOf_30_0 (N : Nat) (S : ST) : Option ST :=
  nm (us S 30 0 (S 0 0)) fun S1 =>
    nm (cpS S1 1 31 0 0 6) fun S2 =>
      nm (cpS S2 2 32 0 0 6) fun S3 =>
        nm (cpS S3 3 33 0 0 6) fun S4 =>
          nm (cpS S4 4 34 0 0 6) fun S5 =>
            nm (cpS S5 5 35 0 0 6) fun S6 =>
              nm (us S6 30 6 (S6 0 6)) fun S7 =>
                nm (us S7 30 9 (S7 0 9)) fun S8 =>
                  nm (cpS S8 6 36 0 0 12) fun S9 =>
                    some S9
-- X2_takeAllOf_30_0
def f_X2_takeAllOf_30_0 (N : Nat) (S : ST) : Option ST :=
  bd1 (f_X2_takeShopsOf_30_0 N S) fun S2 =>
    nm (us S2 30 7 (S2 0 7)) fun S3 =>
      nm (us S3 30 8 (S3 0 8)) fun S4 =>
        nm (us S4 30 11 (S4 0 11)) fun S5 =>
          nm (cpS S5 7 37 0 0 200) fun S6 =>
            nm (us S6 30 13 (S6 0 13)) fun S7 =>
              nm (cpS S7 8 38 0 0 6) fun S8 =>
                nm (cpS S8 9 39 0 0 6) fun S9 =>
                  some S9
-- X4_image
def f_X4_image (N : Nat) (S : ST) (x1 : Int32) : Option (Int32 × ST) :=
  bd2 (f_X4_isIn N S x1 0 1) fun r3 S2 =>
    if r3 = 0 then
      bd2 (f_X4_refuse N S2 (-2) (-2)) fun r17 S16 =>
        some (r17, S16)
    else
      if x1 < 0 ∨ 2 ≤ x1.toNatClampNeg then none else
        if x1.toNatClampNeg = 0 then
          bd1 (f_X2_takeAllOf_20_0 N S2) fun S8 =>
            if x1 < 0 ∨ 2 ≤ x1.toNatClampNeg then none else
              nm (us S8 52 x1.toNatClampNeg 1) fun S9 =>
                some (1, S9)
        else
          bd1 (f_X2_takeAllOf_30_0 N S2) fun S12 =>
            if x1 < 0 ∨ 2 ≤ x1.toNatClampNeg then none else
              nm (us S12 52 x1.toNatClampNeg 1) fun S13 =>
                some (1, S13)
-- X2_takeShopsOf_0_20
def f_X2_takeShopsOf_0_20 (N : Nat) (S : ST) : Option ST :=
  nm (us S 0 0 (S 20 0)) fun S1 =>
    nm (cpS S1 21 1 0 0 6) fun S2 =>
      nm (cpS S2 22 2 0 0 6) fun S3 =>
        nm (cpS S3 23 3 0 0 6) fun S4 =>
          nm (cpS S4 24 4 0 0 6) fun S5 =>
            nm (cpS S5 25 5 0 0 6) fun S6 =>
              nm (us S6 0 6 (S6 20 6)) fun S7 =>
                nm (us S7 0 9 (S7 20 9)) fun S8 =>
                  nm (cpS S8 26 6 0 0 12) fun S9 =>
                    some S9
-- X2_takeAllOf_0_20
def f_X2_takeAllOf_0_20 (N : Nat) (S : ST) : Option ST :=
  bd1 (f_X2_takeShopsOf_0_20 N S) fun S2 =>
    nm (us S2 0 7 (S2 20 7)) fun S3 =>
      nm (us S3 0 8 (S3 20 8)) fun S4 =>
        nm (us S4 0 11 (S4 20 11)) fun S5 =>
          nm (cpS S5 27 7 0 0 200) fun S6 =>
            nm (us S6 0 13 (S6 20 13)) fun S7 =>
              nm (cpS S7 28 8 0 0 6) fun S8 =>
                nm (cpS S8 29 9 0 0 6) fun S9 =>
                  some S9
-- X2_takeShopsOf_0_30
def f_X2_takeShopsOf_0_30 (N : Nat) (S : ST) : Option ST :=
  nm (us S 0 0 (S 30 0)) fun S1 =>
    nm (cpS S1 31 1 0 0 6) fun S2 =>
      nm (cpS S2 32 2 0 0 6) fun S3 =>
        nm (cpS S3 33 3 0 0 6) fun S4 =>
          nm (cpS S4 34 4 0 0 6) fun S5 =>
            nm (cpS S5 35 5 0 0 6) fun S6 =>
              nm (us S6 0 6 (S6 30 6)) fun S7 =>
                nm (us S7 0 9 (S7 30 9)) fun S8 =>
                  nm (cpS S8 36 6 0 0 12) fun S9 =>
                    some S9
-- X2_takeAllOf_0_30
def f_X2_takeAllOf_0_30 (N : Nat) (S : ST) : Option ST :=
  bd1 (f_X2_takeShopsOf_0_30 N S) fun S2 =>
    nm (us S2 0 7 (S2 30 7)) fun S3 =>
      nm (us S3 0 8 (S3 30 8)) fun S4 =>
        nm (us S4 0 11 (S4 30 11)) fun S5 =>
          nm (cpS S5 37 7 0 0 200) fun S6 =>
            nm (us S6 0 13 (S6 30 13)) fun S7 =>
              nm (cpS S7 38 8 0 0 6) fun S8 =>
                nm (cpS S8 39 9 0 0 6) fun S9 =>
                  some S9
-- X4_from
def f_X4_from (N : Nat) (S : ST) (x1 : Int32) : Option (Int32 × ST) :=
  bd2 (f_X4_isIn N S x1 0 1) fun r3 S2 =>
    if r3 = 0 then
      bd2 (f_X4_refuse N S2 (-2) (-2)) fun r18 S17 =>
        some (r18, S17)
    else
      if x1 < 0 ∨ 2 ≤ x1.toNatClampNeg then none else
        if (S2 52 x1.toNatClampNeg) = 0 then
          bd2 (f_X4_refuse N S2 (-3) (-3)) fun r15 S14 =>
            some (r15, S14)
        else
          if x1 < 0 ∨ 2 ≤ x1.toNatClampNeg then none else
            if x1.toNatClampNeg = 0 then
              bd1 (f_X2_takeAllOf_0_20 N S2) fun S10 =>
                some (1, S10)
            else
              bd1 (f_X2_takeAllOf_0_30 N S2) fun S12 =>
                some (1, S12)
-- X4_status
def f_X4_status (N : Nat) (S : ST) (x1 : Int32) : Option (Int32 × ST) :=
  bd2 (f_X4_isIn N S x1 0 2) fun r3 S2 =>
    if r3 = 0 then
      bd2 (f_X4_refuse N S2 (-2) (-1)) fun r7 S6 =>
        some (r7, S6)
    else
      if x1 < 0 ∨ 3 ≤ x1.toNatClampNeg then none else
        some ((S2 53 x1.toNatClampNeg), S2)
-- X2_howMany_0
def f_X2_howMany_0 (N : Nat) (S : ST) (x1 : Int32) : Option (Int32 × ST) :=
  if x1 = 0 then
    some ((S 0 0), S)
  else
    if x1 = 1 then
      some ((S 0 9), S)
    else
      if x1 = 2 then
        some ((S 0 11), S)
      else
        some ((S 0 13), S)
-- X4_count
def f_X4_count (N : Nat) (S : ST) (x1 : Int32) : Option (Int32 × ST) :=
  bd2 (f_X4_isIn N S x1 0 3) fun r3 S2 =>
    if r3 = 0 then
      bd2 (f_X4_refuse N S2 (-2) (-2)) fun r7 S6 =>
        some (r7, S6)
    else
      bd2 (f_X2_howMany_0 N S2 x1) fun r10 S9 =>
        some (r10, S9)
-- X4_digest
def b_X4_digest_256 (N : Nat) : Nat → ST → Int64 → Int32 → Option (Int64 × ST)
  | 0, _, _, _ => none
  | n + 1, S, x1, x3 =>
    if (S 0 13) ≤ x3 then
      some (x1, S)
    else
      if x3 < 0 ∨ 6 ≤ x3.toNatClampNeg then none else
        if x3 < 0 ∨ 6 ≤ x3.toNatClampNeg then none else
          b_X4_digest_256 N n S ((31 * ((31 * x1) + (((S 8 x3.toNatClampNeg) : Int32).toInt64))) + (((S 9 x3.toNatClampNeg) : Int32).toInt64)) (x3 + 1)
def b_X4_digest_220 (N : Nat) : Nat → ST → Int64 → Int32 → Option (Int64 × ST)
  | 0, _, _, _ => none
  | n + 1, S, x1, x3 =>
    if (S 0 11) ≤ x3 then
      b_X4_digest_256 N N S x1 0
    else
      if x3 < 0 ∨ 200 ≤ x3.toNatClampNeg then none else
        b_X4_digest_220 N n S ((31 * x1) + (((S 7 x3.toNatClampNeg) : Int32).toInt64)) (x3 + 1)
def b_X4_digest_184 (N : Nat) : Nat → ST → Int64 → Int32 → Option (Int64 × ST)
  | 0, _, _, _ => none
  | n + 1, S, x1, x3 =>
    if (S 0 9) ≤ x3 then
      b_X4_digest_220 N N S x1 0
    else
      if x3 < 0 ∨ 12 ≤ x3.toNatClampNeg then none else
        b_X4_digest_184 N n S ((31 * x1) + (((S 6 x3.toNatClampNeg) : Int32).toInt64)) (x3 + 1)
def b_X4_digest_35 (N : Nat) : Nat → ST → Int64 → Int32 → Option (Int64 × ST)
  | 0, _, _, _ => none
  | n + 1, S, x1, x3 =>
    if (S 0 0) ≤ x3 then
      b_X4_digest_184 N N S ((31 * ((31 * ((31 * x1) + (((S 0 6) : Int32).toInt64))) + (((S 0 7) : Int32).toInt64))) + (((S 0 8) : Int32).toInt64)) 0
    else
      if x3 < 0 ∨ 6 ≤ x3.toNatClampNeg then none else
        if x3 < 0 ∨ 6 ≤ x3.toNatClampNeg then none else
          if x3 < 0 ∨ 6 ≤ x3.toNatClampNeg then none else
            if x3 < 0 ∨ 6 ≤ x3.toNatClampNeg then none else
              if x3 < 0 ∨ 6 ≤ x3.toNatClampNeg then none else
                b_X4_digest_35 N n S ((31 * ((31 * ((31 * ((31 * ((31 * x1) + (((S 1 x3.toNatClampNeg) : Int32).toInt64))) + (((S 2 x3.toNatClampNeg) : Int32).toInt64))) + (((S 3 x3.toNatClampNeg) : Int32).toInt64))) + (((S 4 x3.toNatClampNeg) : Int32).toInt64))) + (((S 5 x3.toNatClampNeg) : Int32).toInt64)) (x3 + 1)
def b_X4_digest_6 (N : Nat) : Nat → ST → Int64 → Int32 → Option (Int64 × ST)
  | 0, _, _, _ => none
  | n + 1, S, x1, x3 =>
    if 3 < x3 then
      b_X4_digest_35 N N S x1 0
    else
      bd2 (f_X2_howMany_0 N S x3) fun r4 S3 =>
        b_X4_digest_6 N n S3 ((31 * x1) + ((r4 : Int32).toInt64)) (x3 + 1)
def f_X4_digest (N : Nat) (S : ST) : Option (Int64 × ST) :=
  b_X4_digest_6 N N S 647 0
-- X2_forgetShops_10
def f_X2_forgetShops_10 (N : Nat) (S : ST) : Option ST :=
  nm (us S 10 0 0) fun S1 =>
    nm (us S1 10 6 0) fun S2 =>
      nm (us S2 10 9 0) fun S3 =>
        some S3
-- X0_isLetter
def f_X0_isLetter (N : Nat) (S : ST) (x0 : Int32) : Option (Int32 × ST) :=
  if x0 < 97 then
    some (0, S)
  else
    if 122 < x0 then
      some (0, S)
    else
      some (1, S)
-- X0_isFigure
def f_X0_isFigure (N : Nat) (S : ST) (x0 : Int32) : Option (Int32 × ST) :=
  if x0 < 48 then
    some (0, S)
  else
    if 57 < x0 then
      some (0, S)
    else
      some (1, S)
-- X0_goToToken
def b_X0_goToToken_249 (N : Nat) (S : ST) (s1 : Int32) : Option ST :=
  nm (us S 49 6 s1) fun S40 =>
    nm (us S40 49 5 ((S40 49 5) + 1)) fun S41 =>
      some S41
def b_X0_goToToken_213 (N : Nat) (k149 : ST → Option ST) (S : ST) (s1 : Int32) : Option ST :=
  nm (us S 49 8 s1) fun S38 =>
    nm (us S38 49 5 ((S38 49 5) + 1)) fun S39 =>
      k149 S39
def b_X0_goToToken_149 (N : Nat) : Nat → ST → Option ST
  | 0, _ => none
  | n + 1, S =>
    if (S 49 4) ≤ (S 49 5) then
      some S
    else
      if (S 49 5) < 0 ∨ 200 ≤ (S 49 5).toNatClampNeg then none else
        bd2 (f_X0_isFigure N S (S 7 (S 49 5).toNatClampNeg)) fun r34 S33 =>
          if r34 = 0 then
            some S33
          else
            if 3 ≤ ((S33 49 5) - (S33 49 7)) then
              b_X0_goToToken_213 N (fun S => b_X0_goToToken_149 N n S) S33 (-1)
            else
              if (S33 49 5) < 0 ∨ 200 ≤ (S33 49 5).toNatClampNeg then none else
                b_X0_goToToken_213 N (fun S => b_X0_goToToken_149 N n S) S33 (((10 * (S33 49 8)) + (S33 7 (S33 49 5).toNatClampNeg)) - 48)
def b_X0_goToToken_85 (N : Nat) : Nat → ST → Option ST
  | 0, _ => none
  | n + 1, S =>
    if (S 49 4) ≤ (S 49 5) then
      some S
    else
      if (S 49 5) < 0 ∨ 200 ≤ (S 49 5).toNatClampNeg then none else
        bd2 (f_X0_isLetter N S (S 7 (S 49 5).toNatClampNeg)) fun r27 S26 =>
          if r27 = 0 then
            some S26
          else
            nm (us S26 49 5 ((S26 49 5) + 1)) fun S29 =>
              b_X0_goToToken_85 N n S29
def b_X0_goToToken_38 (N : Nat) (S : ST) : Option ST :=
  nm (us S 49 7 (S 49 5)) fun S5 =>
    if (S5 49 5) < (S5 49 4) then
      if (S5 49 5) < 0 ∨ 200 ≤ (S5 49 5).toNatClampNeg then none else
        bd2 (f_X0_isLetter N S5 (S5 7 (S5 49 5).toNatClampNeg)) fun r10 S9 =>
          if r10 = 0 then
            if (S9 49 5) < 0 ∨ 200 ≤ (S9 49 5).toNatClampNeg then none else
              bd2 (f_X0_isFigure N S9 (S9 7 (S9 49 5).toNatClampNeg)) fun r15 S14 =>
                if r15 = 0 then
                  if (S14 49 5) < 0 ∨ 200 ≤ (S14 49 5).toNatClampNeg then none else
                    if (S14 7 (S14 49 5).toNatClampNeg) = 59 then
                      b_X0_goToToken_249 N S14 3
                    else
                      b_X0_goToToken_249 N S14 4
                else
                  nm (us S14 49 6 2) fun S19 =>
                    nm (us S19 49 8 0) fun S20 =>
                      b_X0_goToToken_149 N N S20
          else
            nm (us S9 49 6 1) fun S21 =>
              b_X0_goToToken_85 N N S21
    else
      nm (us S5 49 6 0) fun S22 =>
        some S22
def b_X0_goToToken_0 (N : Nat) : Nat → ST → Option ST
  | 0, _ => none
  | n + 1, S =>
    if (S 49 4) ≤ (S 49 5) then
      b_X0_goToToken_38 N S
    else
      if (S 49 5) < 0 ∨ 200 ≤ (S 49 5).toNatClampNeg then none else
        if (S 7 (S 49 5).toNatClampNeg) = 32 then
          nm (us S 49 5 ((S 49 5) + 1)) fun S4 =>
            b_X0_goToToken_0 N n S4
        else
          b_X0_goToToken_38 N S
def f_X0_goToToken (N : Nat) (S : ST) : Option ST :=
  b_X0_goToToken_0 N N S
-- X0_isWord
def b_X0_isWord_28 (N : Nat) (i : Nat) : Nat → ST → Int32 → Option (Int32 × ST)
  | 0, _, _ => none
  | n + 1, S, x2 =>
    if (nI (lenW.getD i 0)) ≤ x2 then
      some (1, S)
    else
      if ((S 49 7) + x2) < 0 ∨ 200 ≤ ((S 49 7) + x2).toNatClampNeg then none else
        if x2 < 0 ∨ lenW.getD i 0 ≤ x2.toNatClampNeg then none else
          if (S 7 ((S 49 7) + x2).toNatClampNeg) = ((bytW.getD i []).getD x2.toNatClampNeg 0) then
            b_X0_isWord_28 N i n S (x2 + 1)
          else
            some (0, S)
def f_X0_isWord (N : Nat) (i : Nat) (S : ST) : Option (Int32 × ST) :=
  if (S 49 6) = 1 then
    if ((S 49 5) - (S 49 7)) = (nI (lenW.getD i 0)) then
      b_X0_isWord_28 N i N S 0
    else
      some (0, S)
  else
    some (0, S)
-- X0_fail
def f_X0_fail (N : Nat) (S : ST) : Option ST :=
  if (S 49 1) = (-1) then
    nm (us S 49 1 (S 49 7)) fun S2 =>
      some S2
  else
    some S
-- X0_takeNumber
def b_X0_takeNumber_28 (N : Nat) (S : ST) : Option (Int32 × ST) :=
  bd1 (f_X0_fail N S) fun S10 =>
    some (0, S10)
def f_X0_takeNumber (N : Nat) (S : ST) (x1 : Int32) (x2 : Int32) : Option (Int32 × ST) :=
  if (S 49 1) = (-1) then
    if (S 49 6) = 2 then
      bd2 (f_X4_isIn N S (S 49 8) x1 x2) fun r5 S4 =>
        if r5 = 0 then
          b_X0_takeNumber_28 N S4
        else
          bd1 (f_X0_goToToken N S4) fun S8 =>
            some ((S4 49 8), S8)
    else
      b_X0_takeNumber_28 N S
  else
    b_X0_takeNumber_28 N S
-- X0_takeStop
def b_X0_takeStop_16 (N : Nat) (S : ST) : Option (Int32 × ST) :=
  bd1 (f_X0_fail N S) fun S6 =>
    some (0, S6)
def f_X0_takeStop (N : Nat) (S : ST) : Option (Int32 × ST) :=
  if (S 49 1) = (-1) then
    if (S 49 6) = 3 then
      bd1 (f_X0_goToToken N S) fun S4 =>
        some (1, S4)
    else
      b_X0_takeStop_16 N S
  else
    b_X0_takeStop_16 N S
-- X2_addShop_10
def f_X2_addShop_10 (N : Nat) (S : ST) (x1 : Int32) (x2 : Int32) (x3 : Int32) (x4 : Int32) : Option ST :=
  if 6 ≤ (S 10 0) then
    some S
  else
    if (S 10 0) < 0 ∨ 6 ≤ (S 10 0).toNatClampNeg then none else
      nm (us S 11 ((S 10 0).toNatClampNeg) x1) fun S2 =>
        if (S2 10 0) < 0 ∨ 6 ≤ (S2 10 0).toNatClampNeg then none else
          nm (us S2 12 ((S2 10 0).toNatClampNeg) x2) fun S4 =>
            if (S4 10 0) < 0 ∨ 6 ≤ (S4 10 0).toNatClampNeg then none else
              nm (us S4 13 ((S4 10 0).toNatClampNeg) x3) fun S6 =>
                if (S6 10 0) < 0 ∨ 6 ≤ (S6 10 0).toNatClampNeg then none else
                  nm (us S6 14 ((S6 10 0).toNatClampNeg) x4) fun S8 =>
                    if (S8 10 0) < 0 ∨ 6 ≤ (S8 10 0).toNatClampNeg then none else
                      nm (us S8 15 ((S8 10 0).toNatClampNeg) 0) fun S10 =>
                        nm (us S10 10 0 ((S10 10 0) + 1)) fun S12 =>
                          some S12
-- X0_readShop
def f_X0_readShop (N : Nat) (S : ST) : Option ST :=
  bd1 (f_X0_goToToken N S) fun S2 =>
    bd2 (f_X0_takeNumber N S2 0 5) fun r5 S4 =>
      bd2 (f_X0_takeNumber N S4 0 20) fun r8 S7 =>
        bd2 (f_X0_takeNumber N S7 1 30) fun r11 S10 =>
          bd2 (f_X0_takeNumber N S10 0 240) fun r14 S13 =>
            bd2 (f_X0_takeStop N S13) fun r17 S16 =>
              if r17 = 0 then
                some S16
              else
                bd1 (f_X2_addShop_10 N S16 r5 r8 r11 r14) fun S20 =>
                  some S20
-- X2_addBought_10
def f_X2_addBought_10 (N : Nat) (S : ST) (x1 : Int32) : Option ST :=
  if 12 ≤ (S 10 9) then
    some S
  else
    if (S 10 9) < 0 ∨ 12 ≤ (S 10 9).toNatClampNeg then none else
      nm (us S 16 ((S 10 9).toNatClampNeg) x1) fun S2 =>
        nm (us S2 10 9 ((S2 10 9) + 1)) fun S4 =>
          some S4
-- X0_readBuy
def f_X0_readBuy (N : Nat) (S : ST) : Option ST :=
  bd1 (f_X0_goToToken N S) fun S2 =>
    bd2 (f_X0_takeNumber N S2 0 ((S2 10 0) - 1)) fun r5 S4 =>
      bd2 (f_X0_takeStop N S4) fun r8 S7 =>
        if r8 = 0 then
          some S7
        else
          bd1 (f_X2_addBought_10 N S7 r5) fun S11 =>
            some S11
-- X2_setFree_10
def b_X2_setFree_10_26 (N : Nat) (S : ST) (s1 : Int32) : Option ST :=
  nm (us S 10 6 s1) fun S2 =>
    some S2
def f_X2_setFree_10 (N : Nat) (S : ST) (x1 : Int32) (x2 : Int32) : Option ST :=
  if x2 = 0 then
    b_X2_setFree_10_26 N S ((S 10 6) &&& ((1 <<< (x1 &&& 31)) ^^^ (-1)))
  else
    b_X2_setFree_10_26 N S ((S 10 6) ||| (1 <<< (x1 &&& 31)))
-- X0_readFree
def f_X0_readFree (N : Nat) (S : ST) : Option ST :=
  bd1 (f_X0_goToToken N S) fun S2 =>
    bd2 (f_X0_takeNumber N S2 0 ((S2 10 0) - 1)) fun r5 S4 =>
      bd2 (f_X0_takeStop N S4) fun r8 S7 =>
        if r8 = 0 then
          some S7
        else
          bd1 (f_X2_setFree_10 N S7 r5 1) fun S11 =>
            some S11
-- X2_areNear_10
def f_X2_areNear_10 (N : Nat) (S : ST) (x1 : Int32) (x2 : Int32) : Option (Int32 × ST) :=
  if x1 < 0 ∨ 6 ≤ x1.toNatClampNeg then none else
    if (((S 15 x1.toNatClampNeg) >>> (x2 &&& 31)) &&& 1) = 0 then
      some (0, S)
    else
      some (1, S)
-- X2_setNear_10
def b_X2_setNear_10_69 (N : Nat) (S : ST) (s1 : Int32) (s2 : Int32) : Option ST :=
  if s1 < 0 ∨ 6 ≤ s1.toNatClampNeg then none else
    nm (us S 15 s1.toNatClampNeg s2) fun S9 =>
      some S9
def b_X2_setNear_10_34 (N : Nat) (S : ST) (x1 : Int32) (x2 : Int32) (x3 : Int32) (s1 : Int32) (s2 : Int32) : Option ST :=
  if s1 < 0 ∨ 6 ≤ s1.toNatClampNeg then none else
    nm (us S 15 s1.toNatClampNeg s2) fun S4 =>
      if x3 = 0 then
        if x2 < 0 ∨ 6 ≤ x2.toNatClampNeg then none else
          b_X2_setNear_10_69 N S4 x2 ((S4 15 x2.toNatClampNeg) &&& ((1 <<< (x1 &&& 31)) ^^^ (-1)))
      else
        if x2 < 0 ∨ 6 ≤ x2.toNatClampNeg then none else
          b_X2_setNear_10_69 N S4 x2 ((S4 15 x2.toNatClampNeg) ||| (1 <<< (x1 &&& 31)))
def f_X2_setNear_10 (N : Nat) (S : ST) (x1 : Int32) (x2 : Int32) (x3 : Int32) : Option ST :=
  if x3 = 0 then
    if x1 < 0 ∨ 6 ≤ x1.toNatClampNeg then none else
      b_X2_setNear_10_34 N S x1 x2 x3 x1 ((S 15 x1.toNatClampNeg) &&& ((1 <<< (x2 &&& 31)) ^^^ (-1)))
  else
    if x1 < 0 ∨ 6 ≤ x1.toNatClampNeg then none else
      b_X2_setNear_10_34 N S x1 x2 x3 x1 ((S 15 x1.toNatClampNeg) ||| (1 <<< (x2 &&& 31)))
-- X0_readNext
def b_X0_readNext_69 (N : Nat) (S : ST) (x1 : Int32) (x3 : Int32) : Option ST :=
  bd2 (f_X0_takeStop N S) fun r18 S17 =>
    if r18 = 0 then
      some S17
    else
      bd1 (f_X2_setNear_10 N S17 x1 x3 1) fun S21 =>
        some S21
def b_X0_readNext_64 (N : Nat) (S : ST) (x1 : Int32) (x2 : Int32) (x3 : Int32) : Option ST :=
  nm (us S 49 1 x2) fun S15 =>
    b_X0_readNext_69 N S15 x1 x3
def f_X0_readNext (N : Nat) (S : ST) : Option ST :=
  bd1 (f_X0_goToToken N S) fun S2 =>
    bd2 (f_X0_takeNumber N S2 0 ((S2 10 0) - 1)) fun r5 S4 =>
      bd2 (f_X0_takeNumber N S4 0 ((S4 10 0) - 1)) fun r8 S7 =>
        if (S7 49 1) = (-1) then
          if r5 = r8 then
            b_X0_readNext_64 N S7 r5 (S4 49 7) r8
          else
            bd2 (f_X2_areNear_10 N S7 r5 r8) fun r13 S12 =>
              if r13 = 0 then
                b_X0_readNext_69 N S12 r5 r8
              else
                b_X0_readNext_64 N S12 r5 (S4 49 7) r8
        else
          b_X0_readNext_69 N S7 r5 r8
-- X0_readItem
def b_X0_readItem_88 (N : Nat) (S : ST) : Option ST :=
  bd1 (f_X0_fail N S) fun S28 =>
    some S28
def b_X0_readItem_28 (N : Nat) (S : ST) : Option ST :=
  bd2 (f_X0_isWord N 1 S) fun r10 S9 =>
    if r10 = 0 then
      bd2 (f_X0_isWord N 2 S9) fun r14 S13 =>
        if r14 = 0 then
          bd2 (f_X0_isWord N 3 S13) fun r18 S17 =>
            if r18 = 0 then
              b_X0_readItem_88 N S17
            else
              if 12 ≤ (S17 10 9) then
                b_X0_readItem_88 N S17
              else
                bd1 (f_X0_readBuy N S17) fun S22 =>
                  some S22
        else
          bd1 (f_X0_readFree N S13) fun S24 =>
            some S24
    else
      bd1 (f_X0_readNext N S9) fun S26 =>
        some S26
def f_X0_readItem (N : Nat) (S : ST) : Option ST :=
  bd2 (f_X0_isWord N 0 S) fun r3 S2 =>
    if r3 = 0 then
      b_X0_readItem_28 N S2
    else
      if 6 ≤ (S2 10 0) then
        b_X0_readItem_28 N S2
      else
        bd1 (f_X0_readShop N S2) fun S7 =>
          some S7
-- X0_readRoad
def b_X0_readRoad_40 (N : Nat) : Nat → ST → Int32 → Option (Int32 × ST)
  | 0, _, _ => none
  | n + 1, S, x1 =>
    if (S 49 6) = 0 then
      some (x1, S)
    else
      if (S 49 1) = (-1) then
        if 200 ≤ x1 then
          some (x1, S)
        else
          bd1 (f_X0_readItem N S) fun S12 =>
            b_X0_readRoad_40 N n S12 (x1 + 1)
      else
        some (x1, S)
def f_X0_readRoad (N : Nat) (S : ST) : Option (Int32 × ST) :=
  nm (us S 49 4 (if 200 < (S 0 11) then 200 else (S 0 11))) fun S1 =>
    nm (us S1 49 5 0) fun S2 =>
      nm (us S2 49 1 (-1)) fun S3 =>
        bd1 (f_X2_forgetShops_10 N S3) fun S5 =>
          bd1 (f_X0_goToToken N S5) fun S7 =>
            b_X0_readRoad_40 N N S7 0
-- X2_takeShopsOf_0_10
def f_X2_takeShopsOf_0_10 (N : Nat) (S : ST) : Option ST :=
  nm (us S 0 0 (S 10 0)) fun S1 =>
    nm (cpS S1 11 1 0 0 6) fun S2 =>
      nm (cpS S2 12 2 0 0 6) fun S3 =>
        nm (cpS S3 13 3 0 0 6) fun S4 =>
          nm (cpS S4 14 4 0 0 6) fun S5 =>
            nm (cpS S5 15 5 0 0 6) fun S6 =>
              nm (us S6 0 6 (S6 10 6)) fun S7 =>
                nm (us S7 0 9 (S7 10 9)) fun S8 =>
                  nm (cpS S8 16 6 0 0 12) fun S9 =>
                    some S9
-- X4_read
def f_X4_read (N : Nat) (S : ST) : Option (Int32 × ST) :=
  bd2 (f_X0_readRoad N S) fun r3 S2 =>
    if (S2 49 1) = (-1) then
      bd1 (f_X2_takeShopsOf_0_10 N S2) fun S6 =>
        some (r3, S6)
    else
      some (((-10) - (S2 49 1)), S2)
