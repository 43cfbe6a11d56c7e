-- X5_in
def f_X5_in (N : Nat) (S : ST) (x0 : Int64) (x2 : Int64) (x4 : Int64) : Option (Int32 × ST) :=
  if (lg_cmp x0 x2) < 0 then
    some (0, S)
  else
    if 0 < (lg_cmp x0 x4) then
      some (0, S)
    else
      some (1, S)
-- X5_isTold
def f_X5_isTold (N : Nat) (S : ST) (x0 : Int32) (x1 : Int32) (x2 : Int32) (x3 : Int32) : Option (Int32 × ST) :=
  bd2 (f_X5_in N S ((x0 : Int32).toInt64) 0 5) fun r3 S2 =>
    if r3 = 0 then
      some (0, S2)
    else
      bd2 (f_X5_in N S2 ((x1 : Int32).toInt64) 0 20) fun r7 S6 =>
        if r7 = 0 then
          some (0, S6)
        else
          bd2 (f_X5_in N S6 ((x2 : Int32).toInt64) 1 30) fun r11 S10 =>
            if r11 = 0 then
              some (0, S10)
            else
              bd2 (f_X5_in N S10 ((x3 : Int32).toInt64) 0 240) fun r15 S14 =>
                if r15 = 0 then
                  some (0, S14)
                else
                  some (1, S14)
-- X5_shops
def f_X5_shops (N : Nat) (S : ST) : Option (Int32 × ST) :=
  some ((S 1 259), S)
-- X5_full
def f_X5_full (N : Nat) (S : ST) : Option (Int32 × ST) :=
  nm (us S 4 2 ((S 4 2) + 1)) fun S1 =>
    some ((-4), S1)
-- X5_bad
def f_X5_bad (N : Nat) (S : ST) (x1 : Int32) : Option (Int32 × ST) :=
  nm (us S 4 0 ((S 4 0) + 1)) fun S1 =>
    some (x1, S1)
-- X5_shop
def f_X5_shop (N : Nat) (S : ST) (x1 : Int32) (x2 : Int32) (x3 : Int32) (x4 : Int32) : Option (Int32 × ST) :=
  bd2 (f_X5_isTold N S x1 x2 x3 x4) fun r3 S2 =>
    if r3 = 0 then
      bd2 (f_X5_bad N S2 (-2)) fun r25 S24 =>
        some (r25, S24)
    else
      bd2 (f_X5_shops N S2) fun r7 S6 =>
        if r7 = 6 then
          bd2 (f_X5_full N S6) fun r22 S21 =>
            some (r22, S21)
        else
          if (0 + (4 * r7)) < 0 ∨ 261 ≤ (0 + (4 * r7)).toNatClampNeg then none else
            nm (us S6 1 ((0 + (4 * r7)).toNatClampNeg) x1) fun S9 =>
              if ((0 + (4 * r7)) + 1) < 0 ∨ 261 ≤ ((0 + (4 * r7)) + 1).toNatClampNeg then none else
                nm (us S9 1 (((0 + (4 * r7)) + 1).toNatClampNeg) x2) fun S11 =>
                  if ((0 + (4 * r7)) + 2) < 0 ∨ 261 ≤ ((0 + (4 * r7)) + 2).toNatClampNeg then none else
                    nm (us S11 1 (((0 + (4 * r7)) + 2).toNatClampNeg) x3) fun S13 =>
                      if ((0 + (4 * r7)) + 3) < 0 ∨ 261 ≤ ((0 + (4 * r7)) + 3).toNatClampNeg then none else
                        nm (us S13 1 (((0 + (4 * r7)) + 3).toNatClampNeg) x4) fun S15 =>
                          if (24 + r7) < 0 ∨ 261 ≤ (24 + r7).toNatClampNeg then none else
                            nm (us S15 1 ((24 + r7).toNatClampNeg) 0) fun S17 =>
                              nm (us S17 1 259 ((S17 1 259) + 1)) fun S19 =>
                                some (r7, S19)
-- X5_isShop
def f_X5_isShop (N : Nat) (S : ST) (x1 : Int32) : Option (Int32 × ST) :=
  bd2 (f_X5_shops N S) fun r3 S2 =>
    bd2 (f_X5_in N S2 ((x1 : Int32).toInt64) 0 (((r3 - 1) : Int32).toInt64)) fun r6 S5 =>
      if r6 = 0 ∨ r6 = 1 then some (r6, S5) else none
-- X5_areNear
def f_X5_areNear (N : Nat) (S : ST) (x1 : Int32) (x2 : Int32) : Option (Int32 × ST) :=
  if (24 + x1) < 0 ∨ 261 ≤ (24 + x1).toNatClampNeg then none else
    if (((S 1 (24 + x1).toNatClampNeg) >>> (x2 &&& 31)) &&& 1) = 1 then
      some (1, S)
    else
      some (0, S)
-- X5_turnNear
def f_X5_turnNear (N : Nat) (S : ST) (x1 : Int32) (x2 : Int32) : Option ST :=
  if (24 + x1) < 0 ∨ 261 ≤ (24 + x1).toNatClampNeg then none else
    if (24 + x1) < 0 ∨ 261 ≤ (24 + x1).toNatClampNeg then none else
      nm (us S 1 ((24 + x1).toNatClampNeg) ((S 1 (24 + x1).toNatClampNeg) ^^^ (1 <<< (x2 &&& 31)))) fun S2 =>
        if (24 + x2) < 0 ∨ 261 ≤ (24 + x2).toNatClampNeg then none else
          if (24 + x2) < 0 ∨ 261 ≤ (24 + x2).toNatClampNeg then none else
            nm (us S2 1 ((24 + x2).toNatClampNeg) ((S2 1 (24 + x2).toNatClampNeg) ^^^ (1 <<< (x1 &&& 31)))) fun S5 =>
              some S5
-- X5_no
def f_X5_no (N : Nat) (S : ST) (x1 : Int32) : Option (Int32 × ST) :=
  nm (us S 4 1 ((S 4 1) + 1)) fun S1 =>
    some (x1, S1)
-- X5_next
def b_X5_next_21 (N : Nat) (S : ST) : Option (Int32 × ST) :=
  bd2 (f_X5_bad N S (-2)) fun r21 S20 =>
    some (r21, S20)
def f_X5_next (N : Nat) (S : ST) (x1 : Int32) (x2 : Int32) (x3 : Int32) : Option (Int32 × ST) :=
  bd2 (f_X5_isShop N S x1) fun r3 S2 =>
    if r3 = 0 then
      b_X5_next_21 N S2
    else
      bd2 (f_X5_isShop N S2 x2) fun r7 S6 =>
        if r7 = 0 then
          b_X5_next_21 N S6
        else
          if x1 = x2 then
            b_X5_next_21 N S6
          else
            bd2 (f_X5_areNear N S6 x1 x2) fun r12 S11 =>
              if r12 = x3 then
                bd2 (f_X5_no N S11 (-3)) fun r18 S17 =>
                  some (r18, S17)
              else
                bd1 (f_X5_turnNear N S11 x1 x2) fun S15 =>
                  some (1, S15)
-- X5_isFree
def f_X5_isFree (N : Nat) (S : ST) (x1 : Int32) : Option (Int32 × ST) :=
  if (((S 1 30) >>> (x1 &&& 31)) &&& 1) = 1 then
    some (1, S)
  else
    some (0, S)
-- X5_free
def f_X5_free (N : Nat) (S : ST) (x1 : Int32) (x2 : Int32) : Option (Int32 × ST) :=
  bd2 (f_X5_isShop N S x1) fun r3 S2 =>
    if r3 = 0 then
      bd2 (f_X5_bad N S2 (-2)) fun r15 S14 =>
        some (r15, S14)
    else
      bd2 (f_X5_isFree N S2 x1) fun r7 S6 =>
        if r7 = x2 then
          bd2 (f_X5_no N S6 (-3)) fun r12 S11 =>
            some (r12, S11)
        else
          nm (us S6 1 30 ((S6 1 30) ^^^ (1 <<< (x1 &&& 31)))) fun S9 =>
            some (1, S9)
-- X5_put
def b_X5_put_33 (N : Nat) (S : ST) : Option (Int32 × ST) :=
  bd2 (f_X5_bad N S (-2)) fun r15 S14 =>
    some (r15, S14)
def b_X5_put_27 (N : Nat) (S : ST) (x1 : Int32) (x2 : Int32) (s0 : Int64) (s1 : Int64) (s2 : Int64) : Option (Int32 × ST) :=
  bd2 (f_X5_in N S s0 s1 s2) fun r8 S7 =>
    if r8 = 0 then
      b_X5_put_33 N S7
    else
      if (31 + x1) < 0 ∨ 261 ≤ (31 + x1).toNatClampNeg then none else
        if (31 + x1) < 0 ∨ 261 ≤ (31 + x1).toNatClampNeg then none else
          nm (us S7 1 ((31 + x1).toNatClampNeg) x2) fun S11 =>
            some ((S7 1 (31 + x1).toNatClampNeg), S11)
def f_X5_put (N : Nat) (S : ST) (x1 : Int32) (x2 : Int32) : Option (Int32 × ST) :=
  bd2 (f_X5_in N S ((x1 : Int32).toInt64) 0 1) fun r3 S2 =>
    if r3 = 0 then
      b_X5_put_33 N S2
    else
      if x1 = 0 then
        b_X5_put_27 N S2 x1 x2 ((x2 : Int32).toInt64) ((x1 : Int32).toInt64) 999
      else
        b_X5_put_27 N S2 x1 x2 ((x2 : Int32).toInt64) ((x1 : Int32).toInt64) 6
-- X5_of
def f_X5_of (N : Nat) (S : ST) (x1 : Int32) (x2 : Int32) : Option (Int32 × ST) :=
  if ((0 + (4 * x1)) + x2) < 0 ∨ 261 ≤ ((0 + (4 * x1)) + x2).toNatClampNeg then none else
    some ((S 1 ((0 + (4 * x1)) + x2).toNatClampNeg), S)
-- X5_price
def b_X5_price_20 (N : Nat) (S : ST) : Option (Int32 × ST) :=
  bd2 (f_X5_bad N S (-2)) fun r16 S15 =>
    some (r16, S15)
def f_X5_price (N : Nat) (S : ST) (x1 : Int32) (x2 : Int32) : Option (Int32 × ST) :=
  bd2 (f_X5_isShop N S x1) fun r3 S2 =>
    if r3 = 0 then
      b_X5_price_20 N S2
    else
      bd2 (f_X5_in N S2 ((x2 : Int32).toInt64) 0 20) fun r7 S6 =>
        if r7 = 0 then
          b_X5_price_20 N S6
        else
          bd2 (f_X5_of N S6 x1 1) fun r11 S10 =>
            if ((0 + (4 * x1)) + 1) < 0 ∨ 261 ≤ ((0 + (4 * x1)) + 1).toNatClampNeg then none else
              nm (us S10 1 (((0 + (4 * x1)) + 1).toNatClampNeg) x2) fun S12 =>
                some (r11, S12)
-- X5_textLong
def f_X5_textLong (N : Nat) (S : ST) : Option (Int32 × ST) :=
  some ((S 1 46), S)
-- X5_type
def b_X5_type_41 (N : Nat) : Nat → ST → Int64 → Int32 → Option (Int32 × ST)
  | 0, _, _, _ => none
  | n + 1, S, x1, x4 =>
    if x4 < 0 then
      bd2 (f_X5_textLong N S) fun r18 S17 =>
        some (r18, S17)
    else
      bd2 (f_X5_textLong N S) fun r21 S20 =>
        if (47 + r21) < 0 ∨ 261 ≤ (47 + r21).toNatClampNeg then none else
          nm (us S20 1 ((47 + r21).toNatClampNeg) ((((((x1).toUInt64 >>> ((((8 * x4) : Int32)).toInt64.toUInt64 &&& Int64.toUInt64 63)).toInt64) &&& 255) : Int64).toInt32)) fun S22 =>
            nm (us S22 1 46 ((S22 1 46) + 1)) fun S24 =>
              b_X5_type_41 N n S24 x1 (x4 + (-1))
def f_X5_type (N : Nat) (S : ST) (x1 : Int64) (x3 : Int32) : Option (Int32 × ST) :=
  bd2 (f_X5_in N S ((x3 : Int32).toInt64) 1 8) fun r3 S2 =>
    if r3 = 0 then
      bd2 (f_X5_bad N S2 (-2)) fun r14 S13 =>
        some (r14, S13)
    else
      bd2 (f_X5_textLong N S2) fun r7 S6 =>
        if (r7 + x3) ≤ 200 then
          b_X5_type_41 N N S6 x1 (x3 - 1)
        else
          bd2 (f_X5_full N S6) fun r11 S10 =>
            some (r11, S10)
-- X5_clear
def f_X5_clear (N : Nat) (S : ST) : Option (Int32 × ST) :=
  bd2 (f_X5_textLong N S) fun r3 S2 =>
    nm (us S2 1 46 0) fun S4 =>
      some (r3, S4)
-- X5_byteAt
def f_X5_byteAt (N : Nat) (S : ST) (x1 : Int32) : Option (Int32 × ST) :=
  if (47 + x1) < 0 ∨ 261 ≤ (47 + x1).toNatClampNeg then none else
    some ((S 1 (47 + x1).toNatClampNeg), S)
-- X5_isSmall
def f_X5_isSmall (N : Nat) (S : ST) (x0 : Int32) : Option (Int32 × ST) :=
  bd2 (f_X5_in N S ((x0 : Int32).toInt64) 97 122) fun r3 S2 =>
    if r3 = 0 ∨ r3 = 1 then some (r3, S2) else none
-- X5_isFigure
def f_X5_isFigure (N : Nat) (S : ST) (x0 : Int32) : Option (Int32 × ST) :=
  bd2 (f_X5_in N S ((x0 : Int32).toInt64) 48 57) fun r3 S2 =>
    if r3 = 0 ∨ r3 = 1 then some (r3, S2) else none
-- X5_look
def b_X5_look_295 (N : Nat) (S : ST) (s1 : Int32) : Option ST :=
  nm (us S 0 11 s1) fun S59 =>
    some S59
def b_X5_look_291 (N : Nat) (S : ST) : Option ST :=
  b_X5_look_295 N S (S 0 11)
def b_X5_look_270 (N : Nat) (S : ST) : Option ST :=
  if (S 0 11) = 2 then
    if (S 0 10) ≤ 3 then
      b_X5_look_291 N S
    else
      b_X5_look_295 N S 4
  else
    b_X5_look_291 N S
def b_X5_look_215 (N : Nat) : Nat → ST → Int32 → Option ST
  | 0, _, _ => none
  | n + 1, S, x4 =>
    if (S 0 10) ≤ x4 then
      b_X5_look_270 N S
    else
      if 3 ≤ x4 then
        b_X5_look_270 N S
      else
        if (S 0 11) = 2 then
          bd2 (f_X5_byteAt N S ((S 0 9) + x4)) fun r55 S54 =>
            nm (us S54 0 12 (((10 * (S 0 12)) + r55) - 48)) fun S56 =>
              b_X5_look_215 N n S56 (x4 + 1)
        else
          b_X5_look_270 N S
def b_X5_look_212 (N : Nat) (S : ST) : Option ST :=
  b_X5_look_215 N N S 0
def b_X5_look_205 (N : Nat) (k134 : ST → Int32 → Option ST) (S : ST) (x3 : Int32) (s1 : Int32) (s2 : Int32) : Option ST :=
  nm (us S 0 10 (s1 + s2)) fun S49 =>
    k134 S49 x3
def b_X5_look_190 (N : Nat) (k134 : ST → Int32 → Option ST) (S : ST) (s0 : Int32) : Option ST :=
  if s0 = 0 then
    b_X5_look_205 N k134 S s0 (S 0 10) 0
  else
    b_X5_look_205 N k134 S s0 (S 0 10) 1
def b_X5_look_134 (N : Nat) : Nat → ST → Int32 → Option ST
  | 0, _, _ => none
  | n + 1, S, x3 =>
    if x3 = 0 then
      b_X5_look_212 N S
    else
      bd2 (f_X5_textLong N S) fun r36 S35 =>
        if r36 ≤ ((S 0 9) + (S 0 10)) then
          b_X5_look_212 N S35
        else
          bd2 (f_X5_byteAt N S35 ((S35 0 9) + (S35 0 10))) fun r40 S39 =>
            if (S39 0 11) = 1 then
              bd2 (f_X5_isSmall N S39 r40) fun r47 S46 =>
                b_X5_look_190 N (fun S x3 => b_X5_look_134 N n S x3) S46 r47
            else
              bd2 (f_X5_isFigure N S39 r40) fun r44 S43 =>
                b_X5_look_190 N (fun S x3 => b_X5_look_134 N n S x3) S43 r44
def b_X5_look_133 (N : Nat) (S : ST) (s0 : Int32) : Option ST :=
  b_X5_look_134 N N S s0
def b_X5_look_112 (N : Nat) (S : ST) (s1 : Int32) : Option ST :=
  nm (us S 0 11 s1) fun S30 =>
    nm (us S30 0 10 1) fun S31 =>
      if 3 ≤ (S31 0 11) then
        b_X5_look_133 N S31 0
      else
        b_X5_look_133 N S31 1
def b_X5_look_42 (N : Nat) (S : ST) : Option ST :=
  nm (us S 0 10 0) fun S11 =>
    nm (us S11 0 11 0) fun S12 =>
      nm (us S12 0 12 0) fun S13 =>
        bd2 (f_X5_textLong N S13) fun r16 S15 =>
          if (S13 0 9) = r16 then
            some S15
          else
            bd2 (f_X5_byteAt N S15 (S15 0 9)) fun r20 S19 =>
              bd2 (f_X5_isSmall N S19 r20) fun r23 S22 =>
                if r23 = 0 then
                  bd2 (f_X5_isFigure N S22 r20) fun r27 S26 =>
                    if r27 = 0 then
                      if r20 = 59 then
                        b_X5_look_112 N S26 3
                      else
                        b_X5_look_112 N S26 4
                    else
                      b_X5_look_112 N S26 2
                else
                  b_X5_look_112 N S22 1
def b_X5_look_5 (N : Nat) : Nat → ST → Option ST
  | 0, _ => none
  | n + 1, S =>
    bd2 (f_X5_textLong N S) fun r4 S3 =>
      if r4 ≤ (S 0 9) then
        b_X5_look_42 N S3
      else
        bd2 (f_X5_byteAt N S3 (S3 0 9)) fun r8 S7 =>
          if r8 = 32 then
            nm (us S7 0 9 ((S7 0 9) + 1)) fun S10 =>
              b_X5_look_5 N n S10
          else
            b_X5_look_42 N S7
def f_X5_look (N : Nat) (S : ST) (x1 : Int32) : Option ST :=
  nm (us S 0 9 x1) fun S1 =>
    b_X5_look_5 N N S1
-- X5_isWord
def b_X5_isWord_101 (N : Nat) (k39 : ST → Int32 → Int32 → Int32 → Int32 → Int32 → Int32 → Int32 → Option (Int32 × ST)) (S : ST) (x1 : Int32) (x2 : Int32) (x3 : Int32) (x4 : Int32) (x5 : Int32) (x7 : Int32) (s0 : Int32) : Option (Int32 × ST) :=
  k39 S x1 x2 x3 x4 x5 s0 (x7 + 1)
def b_X5_isWord_93 (N : Nat) (k39 : ST → Int32 → Int32 → Int32 → Int32 → Int32 → Int32 → Int32 → Option (Int32 × ST)) (S : ST) (x1 : Int32) (x2 : Int32) (x3 : Int32) (x4 : Int32) (x5 : Int32) (x7 : Int32) (s0 : Int32) (s1 : Int32) : Option (Int32 × ST) :=
  if s0 = s1 then
    b_X5_isWord_101 N k39 S x1 x2 x3 x4 x5 x7 1
  else
    b_X5_isWord_101 N k39 S x1 x2 x3 x4 x5 x7 0
def b_X5_isWord_39 (N : Nat) : Nat → ST → Int32 → Int32 → Int32 → Int32 → Int32 → Int32 → Int32 → Option (Int32 × ST)
  | 0, _, _, _, _, _, _, _, _ => none
  | n + 1, S, x1, x2, x3, x4, x5, x6, x7 =>
    if x5 ≤ x7 then
      if x6 = 0 ∨ x6 = 1 then some (x6, S) else none
    else
      if x6 = 0 then
        if x6 = 0 ∨ x6 = 1 then some (x6, S) else none
      else
        bd2 (f_X5_byteAt N S ((S 0 9) + x7)) fun r10 S9 =>
          if x7 = 0 then
            b_X5_isWord_93 N (fun S x1 x2 x3 x4 x5 x6 x7 => b_X5_isWord_39 N n S x1 x2 x3 x4 x5 x6 x7) S9 x1 x2 x3 x4 x5 x7 r10 x1
          else
            if x7 = 1 then
              b_X5_isWord_93 N (fun S x1 x2 x3 x4 x5 x6 x7 => b_X5_isWord_39 N n S x1 x2 x3 x4 x5 x6 x7) S9 x1 x2 x3 x4 x5 x7 r10 x2
            else
              if x7 = 2 then
                b_X5_isWord_93 N (fun S x1 x2 x3 x4 x5 x6 x7 => b_X5_isWord_39 N n S x1 x2 x3 x4 x5 x6 x7) S9 x1 x2 x3 x4 x5 x7 r10 x3
              else
                b_X5_isWord_93 N (fun S x1 x2 x3 x4 x5 x6 x7 => b_X5_isWord_39 N n S x1 x2 x3 x4 x5 x6 x7) S9 x1 x2 x3 x4 x5 x7 r10 x4
def b_X5_isWord_34 (N : Nat) (S : ST) (x1 : Int32) (x2 : Int32) (x3 : Int32) (x4 : Int32) (x5 : Int32) (s0 : Int32) : Option (Int32 × ST) :=
  b_X5_isWord_39 N N S x1 x2 x3 x4 x5 s0 0
def b_X5_isWord_33 (N : Nat) (S : ST) (x1 : Int32) (x2 : Int32) (x3 : Int32) (x4 : Int32) (x5 : Int32) : Option (Int32 × ST) :=
  b_X5_isWord_34 N S x1 x2 x3 x4 x5 0
def b_X5_isWord_10 (N : Nat) (S : ST) (x1 : Int32) (x2 : Int32) (x3 : Int32) (x4 : Int32) (s0 : Int32) : Option (Int32 × ST) :=
  if (S 0 11) = 1 then
    if (S 0 10) = s0 then
      b_X5_isWord_34 N S x1 x2 x3 x4 s0 1
    else
      b_X5_isWord_33 N S x1 x2 x3 x4 s0
  else
    b_X5_isWord_33 N S x1 x2 x3 x4 s0
def f_X5_isWord (N : Nat) (S : ST) (x1 : Int32) (x2 : Int32) (x3 : Int32) (x4 : Int32) : Option (Int32 × ST) :=
  if x4 = 0 then
    b_X5_isWord_10 N S x1 x2 x3 x4 3
  else
    b_X5_isWord_10 N S x1 x2 x3 x4 4
-- X5_goOn
def f_X5_goOn (N : Nat) (S : ST) : Option ST :=
  bd1 (f_X5_look N S ((S 0 9) + (S 0 10))) fun S2 =>
    some S2
-- X5_takesNumber
def f_X5_takesNumber (N : Nat) (S : ST) (x1 : Int32) (x2 : Int32) : Option (Int32 × ST) :=
  if (S 0 11) = 2 then
    bd2 (f_X5_in N S (((S 0 12) : Int32).toInt64) ((x1 : Int32).toInt64) ((x2 : Int32).toInt64)) fun r4 S3 =>
      if r4 = 0 then
        some (0, S3)
      else
        nm (us S3 0 15 (S3 0 12)) fun S6 =>
          bd1 (f_X5_goOn N S6) fun S8 =>
            some (1, S8)
  else
    some (0, S)
-- X5_readNext
def b_X5_readNext_80 (N : Nat) (S : ST) (x1 : Int32) : Option (Int32 × ST) :=
  bd2 (f_X5_takesNumber N S 0 ((S 0 14) - 1)) fun r17 S16 =>
    if r17 = 0 then
      some (0, S16)
    else
      if (24 + x1) < 0 ∨ 46 ≤ (24 + x1).toNatClampNeg then none else
        if (24 + x1) < 0 ∨ 46 ≤ (24 + x1).toNatClampNeg then none else
          nm (us S16 5 ((24 + x1).toNatClampNeg) ((S16 5 (24 + x1).toNatClampNeg) ||| (1 <<< ((S16 0 15) &&& 31)))) fun S20 =>
            if (24 + (S20 0 15)) < 0 ∨ 46 ≤ (24 + (S20 0 15)).toNatClampNeg then none else
              if (24 + (S20 0 15)) < 0 ∨ 46 ≤ (24 + (S20 0 15)).toNatClampNeg then none else
                nm (us S20 5 ((24 + (S20 0 15)).toNatClampNeg) ((S20 5 (24 + (S20 0 15)).toNatClampNeg) ||| (1 <<< (x1 &&& 31)))) fun S23 =>
                  some (1, S23)
def f_X5_readNext (N : Nat) (S : ST) : Option (Int32 × ST) :=
  bd1 (f_X5_goOn N S) fun S2 =>
    bd2 (f_X5_takesNumber N S2 0 ((S2 0 14) - 1)) fun r5 S4 =>
      if r5 = 0 then
        some (0, S4)
      else
        if (S4 0 11) = 2 then
          bd2 (f_X5_in N S4 (((S4 0 12) : Int32).toInt64) 0 ((((S4 0 14) - 1) : Int32).toInt64)) fun r10 S9 =>
            if r10 = 0 then
              b_X5_readNext_80 N S9 (S4 0 15)
            else
              if (S9 0 12) = (S4 0 15) then
                some (0, S9)
              else
                if (24 + (S4 0 15)) < 0 ∨ 46 ≤ (24 + (S4 0 15)).toNatClampNeg then none else
                  if (((S9 5 (24 + (S4 0 15)).toNatClampNeg) >>> ((S9 0 12) &&& 31)) &&& 1) = 1 then
                    some (0, S9)
                  else
                    b_X5_readNext_80 N S9 (S4 0 15)
        else
          b_X5_readNext_80 N S4 (S4 0 15)
-- X5_readShop
def b_X5_readShop_99 (N : Nat) (S : ST) (x1 : Int32) : Option (Int32 × ST) :=
  if (24 + (S 0 14)) < 0 ∨ 46 ≤ (24 + (S 0 14)).toNatClampNeg then none else
    nm (us S 5 ((24 + (S 0 14)).toNatClampNeg) 0) fun S15 =>
      nm (us S15 0 14 ((S15 0 14) + 1)) fun S17 =>
        if x1 = 0 ∨ x1 = 1 then some (x1, S17) else none
def b_X5_readShop_70 (N : Nat) (k19 : ST → Int32 → Int32 → Option (Int32 × ST)) (S : ST) (x2 : Int32) (s1 : Int32) (s2 : Int32) : Option (Int32 × ST) :=
  bd2 (f_X5_takesNumber N S s1 s2) fun r12 S11 =>
    if ((0 + (4 * (S11 0 14))) + x2) < 0 ∨ 46 ≤ ((0 + (4 * (S11 0 14))) + x2).toNatClampNeg then none else
      nm (us S11 5 (((0 + (4 * (S11 0 14))) + x2).toNatClampNeg) (S11 0 15)) fun S13 =>
        k19 S13 r12 (x2 + 1)
def b_X5_readShop_39 (N : Nat) (k19 : ST → Int32 → Int32 → Option (Int32 × ST)) (S : ST) (x2 : Int32) (s1 : Int32) : Option (Int32 × ST) :=
  if x2 = 0 then
    b_X5_readShop_70 N k19 S x2 s1 5
  else
    if x2 = 1 then
      b_X5_readShop_70 N k19 S x2 s1 20
    else
      if x2 = 2 then
        b_X5_readShop_70 N k19 S x2 s1 30
      else
        b_X5_readShop_70 N k19 S x2 s1 240
def b_X5_readShop_19 (N : Nat) : Nat → ST → Int32 → Int32 → Option (Int32 × ST)
  | 0, _, _, _ => none
  | n + 1, S, x1, x2 =>
    if 4 ≤ x2 then
      b_X5_readShop_99 N S x1
    else
      if x1 = 0 then
        b_X5_readShop_99 N S x1
      else
        if x2 = 2 then
          b_X5_readShop_39 N (fun S x1 x2 => b_X5_readShop_19 N n S x1 x2) S x2 1
        else
          b_X5_readShop_39 N (fun S x1 x2 => b_X5_readShop_19 N n S x1 x2) S x2 0
def f_X5_readShop (N : Nat) (S : ST) : Option (Int32 × ST) :=
  if (S 0 14) = 6 then
    some (0, S)
  else
    bd1 (f_X5_goOn N S) fun S3 =>
      b_X5_readShop_19 N N S3 1 0
-- X5_readOne
def b_X5_readOne_18 (N : Nat) (S : ST) (x1 : Int32) : Option (Int32 × ST) :=
  bd1 (f_X5_goOn N S) fun S4 =>
    bd2 (f_X5_takesNumber N S4 0 ((S4 0 14) - 1)) fun r7 S6 =>
      if r7 = 0 then
        some (0, S6)
      else
        if x1 = 0 then
          if (34 + (S6 5 33)) < 0 ∨ 46 ≤ (34 + (S6 5 33)).toNatClampNeg then none else
            nm (us S6 5 ((34 + (S6 5 33)).toNatClampNeg) (S6 0 15)) fun S10 =>
              nm (us S10 5 33 ((S10 5 33) + 1)) fun S12 =>
                some (1, S12)
        else
          nm (us S6 5 30 ((S6 5 30) ||| (1 <<< ((S6 0 15) &&& 31)))) fun S13 =>
            some (1, S13)
def f_X5_readOne (N : Nat) (S : ST) (x1 : Int32) : Option (Int32 × ST) :=
  if x1 = 0 then
    if (S 5 33) = 12 then
      some (0, S)
    else
      b_X5_readOne_18 N S x1
  else
    b_X5_readOne_18 N S x1
-- X5_readItem
def b_X5_readItem_71 (N : Nat) (S : ST) (x1 : Int32) : Option (Int32 × ST) :=
  bd2 (f_X5_readOne N S x1) fun r27 S26 =>
    if r27 = 0 then
      some (0, S26)
    else
      some (1, S26)
def f_X5_readItem (N : Nat) (S : ST) : Option (Int32 × ST) :=
  bd2 (f_X5_isWord N S 115 104 111 112) fun r3 S2 =>
    if r3 = 0 then
      bd2 (f_X5_isWord N S2 110 101 120 116) fun r7 S6 =>
        if r7 = 0 then
          bd2 (f_X5_isWord N S6 102 114 101 101) fun r11 S10 =>
            if r11 = 0 then
              bd2 (f_X5_isWord N S10 98 117 121 0) fun r15 S14 =>
                if r15 = 0 then
                  some (0, S14)
                else
                  b_X5_readItem_71 N S14 r11
            else
              b_X5_readItem_71 N S10 r11
        else
          bd2 (f_X5_readNext N S6) fun r19 S18 =>
            if r19 = 0 ∨ r19 = 1 then some (r19, S18) else none
    else
      bd2 (f_X5_readShop N S2) fun r23 S22 =>
        if r23 = 0 ∨ r23 = 1 then some (r23, S22) else none
-- X5_read
def b_X5_read_108 (N : Nat) (k70 : ST → Int32 → Int32 → Option (Int32 × ST)) (S : ST) (x1 : Int32) (x2 : Int32) (s1 : Int32) (s2 : Int32) : Option (Int32 × ST) :=
  if s1 < 0 ∨ 261 ≤ s1.toNatClampNeg then none else
    nm (us S 1 s1.toNatClampNeg s2) fun S20 =>
      k70 S20 x1 (x2 + 1)
def b_X5_read_93 (N : Nat) (k70 : ST → Int32 → Int32 → Option (Int32 × ST)) (S : ST) (x1 : Int32) (x2 : Int32) (s1 : Int32) : Option (Int32 × ST) :=
  if x2 < 0 ∨ 261 ≤ x2.toNatClampNeg then none else
    b_X5_read_108 N k70 S x1 x2 s1 (S 1 x2.toNatClampNeg)
def b_X5_read_70 (N : Nat) : Nat → ST → Int32 → Int32 → Option (Int32 × ST)
  | 0, _, _, _ => none
  | n + 1, S, x1, x2 =>
    if 46 ≤ x2 then
      nm (us S 1 259 (S 0 14)) fun S15 =>
        some (x1, S15)
    else
      if x2 = 31 then
        b_X5_read_93 N (fun S x1 x2 => b_X5_read_70 N n S x1 x2) S x1 x2 x2
      else
        if x2 = 32 then
          b_X5_read_93 N (fun S x1 x2 => b_X5_read_70 N n S x1 x2) S x1 x2 x2
        else
          if x2 < 0 ∨ 46 ≤ x2.toNatClampNeg then none else
            b_X5_read_108 N (fun S x1 x2 => b_X5_read_70 N n S x1 x2) S x1 x2 x2 (S 5 x2.toNatClampNeg)
def b_X5_read_50 (N : Nat) (S : ST) : Option (Int32 × ST) :=
  some (((-10) - (S 0 9)), S)
def b_X5_read_28 (N : Nat) : Nat → ST → Int32 → Option (Int32 × ST)
  | 0, _, _ => none
  | n + 1, S, x1 =>
    if (S 0 11) = 0 then
      b_X5_read_70 N N S x1 0
    else
      bd2 (f_X5_readItem N S) fun r9 S8 =>
        if r9 = 0 then
          b_X5_read_50 N S8
        else
          if (S8 0 11) = 3 then
            bd1 (f_X5_goOn N S8) fun S13 =>
              b_X5_read_28 N n S13 (x1 + 1)
          else
            b_X5_read_50 N S8
def f_X5_read (N : Nat) (S : ST) : Option (Int32 × ST) :=
  nm (us S 0 14 0) fun S1 =>
    nm (us S1 5 30 0) fun S2 =>
      nm (us S2 5 33 0) fun S3 =>
        bd1 (f_X5_look N S3 0) fun S5 =>
          b_X5_read_28 N N S5 0
-- X5_begin
def f_X5_begin (N : Nat) (S : ST) : Option ST :=
  nm (us S 0 4 (-1)) fun S1 =>
    nm (us S1 0 5 0) fun S2 =>
      nm (us S2 0 6 0) fun S3 =>
        nm (us S3 0 7 0) fun S4 =>
          nm (us S4 0 8 0) fun S5 =>
            some S5
-- X5_manyIn
def b_X5_manyIn_4 (N : Nat) : Nat → ST → Int32 → Int32 → Int32 → Option (Int32 × ST)
  | 0, _, _, _, _ => none
  | n + 1, S, x0, x1, x2 =>
    if 6 ≤ x2 then
      some (x1, S)
    else
      b_X5_manyIn_4 N n S x0 (x1 + ((x0 >>> (x2 &&& 31)) &&& 1)) (x2 + 1)
def f_X5_manyIn (N : Nat) (S : ST) (x0 : Int32) : Option (Int32 × ST) :=
  b_X5_manyIn_4 N N S x0 0 0
-- X5_minutesOf
def f_X5_minutesOf (N : Nat) (S : ST) (x1 : Int32) : Option (Int32 × ST) :=
  bd2 (f_X5_of N S x1 0) fun r3 S2 =>
    if r3 = 3 then
      bd2 (f_X5_of N S2 x1 2) fun r10 S9 =>
        some ((2 * r10), S9)
    else
      bd2 (f_X5_of N S2 x1 2) fun r7 S6 =>
        some (r7, S6)
-- X5_goodBack
def f_X5_goodBack (N : Nat) (S : ST) (x1 : Int32) : Option (Int32 × ST) :=
  if x1 = 0 then
    bd2 (f_X5_shops N S) fun r4 S3 =>
      some ((r4 - 1), S3)
  else
    some ((x1 - 1), S)
-- X5_takesBack
def b_X5_takesBack_17 (N : Nat) (S : ST) (x1 : Int32) (x2 : Int32) : Option (Int32 × ST) :=
  bd2 (f_X5_goodBack N S x1) fun r8 S7 =>
    if ((x2 >>> (r8 &&& 31)) &&& 1) = 1 then
      some (1, S7)
    else
      some (0, S7)
def f_X5_takesBack (N : Nat) (S : ST) (x1 : Int32) (x2 : Int32) : Option (Int32 × ST) :=
  bd2 (f_X5_of N S x1 0) fun r3 S2 =>
    if r3 = 2 then
      b_X5_takesBack_17 N S2 x1 x2
    else
      if r3 = 4 then
        b_X5_takesBack_17 N S2 x1 x2
      else
        some (0, S2)
-- X5_heldBehind
def b_X5_heldBehind_24 (N : Nat) (S : ST) (x1 : Int32) (s0 : Int32) : Option (Int32 × ST) :=
  some ((s0 ||| (1 <<< (x1 &&& 31))), S)
def f_X5_heldBehind (N : Nat) (S : ST) (x1 : Int32) (x2 : Int32) : Option (Int32 × ST) :=
  bd2 (f_X5_takesBack N S x1 x2) fun r3 S2 =>
    if r3 = 0 then
      b_X5_heldBehind_24 N S2 x1 x2
    else
      bd2 (f_X5_goodBack N S2 x1) fun r7 S6 =>
        b_X5_heldBehind_24 N S6 x1 (x2 &&& ((1 <<< (r7 &&& 31)) ^^^ (-1)))
-- X5_priceOf
def b_X5_priceOf_74 (N : Nat) (S : ST) (x4 : Int32) (s0 : Int32) : Option (Int32 × ST) :=
  if x4 ≤ s0 then
    some (0, S)
  else
    some ((x4 - s0), S)
def b_X5_priceOf_41 (N : Nat) (S : ST) (x2 : Int32) (x4 : Int32) : Option (Int32 × ST) :=
  bd2 (f_X5_manyIn N S x2) fun r24 S23 =>
    some ((x4 + r24), S23)
def b_X5_priceOf_26 (N : Nat) (S : ST) (x1 : Int32) (x2 : Int32) (x3 : Int32) (x4 : Int32) : Option (Int32 × ST) :=
  if x3 = 1 then
    b_X5_priceOf_41 N S x2 x4
  else
    if x3 = 3 then
      b_X5_priceOf_41 N S x2 x4
    else
      if x3 = 5 then
        b_X5_priceOf_41 N S x2 x4
      else
        bd2 (f_X5_takesBack N S x1 x2) fun r14 S13 =>
          if r14 = 0 then
            b_X5_priceOf_74 N S13 x4 0
          else
            bd2 (f_X5_goodBack N S13 x1) fun r18 S17 =>
              bd2 (f_X5_of N S17 r18 1) fun r21 S20 =>
                b_X5_priceOf_74 N S20 x4 (r21 / 2)
def f_X5_priceOf (N : Nat) (S : ST) (x1 : Int32) (x2 : Int32) : Option (Int32 × ST) :=
  bd2 (f_X5_of N S x1 0) fun r3 S2 =>
    bd2 (f_X5_of N S2 x1 1) fun r6 S5 =>
      if r3 = 4 then
        if x2 = 0 then
          some (0, S5)
        else
          b_X5_priceOf_26 N S5 x1 x2 r3 r6
      else
        b_X5_priceOf_26 N S5 x1 x2 r3 r6
-- X5_whyNot
def b_X5_whyNot_85 (N : Nat) (S : ST) (x1 : Int32) : Option (Int32 × ST) :=
  bd2 (f_X5_minutesOf N S x1) fun r23 S22 =>
    bd2 (f_X5_of N S22 x1 3) fun r26 S25 =>
      if ((S 0 7) + r23) ≤ r26 then
        bd2 (f_X5_heldBehind N S25 x1 (S25 0 5)) fun r30 S29 =>
          bd2 (f_X5_manyIn N S29 r30) fun r33 S32 =>
            if r33 ≤ (S32 1 32) then
              bd2 (f_X5_priceOf N S32 x1 (S32 0 5)) fun r37 S36 =>
                if ((S32 0 6) + r37) ≤ (S36 1 31) then
                  some (0, S36)
                else
                  some (6, S36)
            else
              some (5, S32)
      else
        some (4, S25)
def b_X5_whyNot_41 (N : Nat) (S : ST) (x1 : Int32) (s0 : Int32) : Option (Int32 × ST) :=
  if s0 = 0 then
    some (1, S)
  else
    if (((S 0 8) >>> (x1 &&& 31)) &&& 1) = 1 then
      some (2, S)
    else
      bd2 (f_X5_of N S x1 0) fun r15 S14 =>
        if r15 = 5 then
          bd2 (f_X5_manyIn N S14 (S14 0 5)) fun r19 S18 =>
            if 2 ≤ r19 then
              b_X5_whyNot_85 N S18 x1
            else
              some (3, S18)
        else
          b_X5_whyNot_85 N S14 x1
def b_X5_whyNot_40 (N : Nat) (S : ST) (x1 : Int32) : Option (Int32 × ST) :=
  b_X5_whyNot_41 N S x1 0
def b_X5_whyNot_36 (N : Nat) (S : ST) (x1 : Int32) : Option (Int32 × ST) :=
  b_X5_whyNot_41 N S x1 1
def f_X5_whyNot (N : Nat) (S : ST) (x1 : Int32) (x2 : Int32) : Option (Int32 × ST) :=
  if x1 = x2 then
    b_X5_whyNot_40 N S x1
  else
    if (S 0 4) = (-1) then
      bd2 (f_X5_isFree N S x1) fun r9 S8 =>
        if r9 = 0 then
          b_X5_whyNot_40 N S8 x1
        else
          b_X5_whyNot_36 N S8 x1
    else
      bd2 (f_X5_areNear N S (S 0 4) x1) fun r5 S4 =>
        if r5 = 0 then
          b_X5_whyNot_40 N S4 x1
        else
          b_X5_whyNot_36 N S4 x1
-- X5_buy
def f_X5_buy (N : Nat) (S : ST) (x1 : Int32) : Option ST :=
  bd2 (f_X5_priceOf N S x1 (S 0 5)) fun r3 S2 =>
    nm (us S2 0 6 ((S 0 6) + r3)) fun S4 =>
      bd2 (f_X5_heldBehind N S4 x1 (S4 0 5)) fun r7 S6 =>
        nm (us S6 0 5 r7) fun S8 =>
          bd2 (f_X5_minutesOf N S8 x1) fun r11 S10 =>
            nm (us S10 0 7 ((S8 0 7) + r11)) fun S12 =>
              nm (us S12 0 8 ((S12 0 8) ||| (1 <<< (x1 &&& 31)))) fun S13 =>
                nm (us S13 0 4 x1) fun S14 =>
                  some S14
-- X5_errand
def b_X5_errand_97 (N : Nat) (S : ST) (x1 : Int32) (x2 : Int32) : Option (Int32 × ST) :=
  if x1 = 0 then
    some (x2, S)
  else
    if x1 = 1 then
      some ((S 0 6), S)
    else
      if x1 = 2 then
        some ((S 0 7), S)
      else
        some ((S 0 5), S)
def b_X5_errand_91 (N : Nat) (k27 : ST → Int32 → Int32 → Int32 → Option (Int32 × ST)) (S : ST) (x1 : Int32) (x2 : Int32) (x3 : Int32) : Option (Int32 × ST) :=
  k27 S x1 x2 (x3 + 1)
def b_X5_errand_79 (N : Nat) (k27 : ST → Int32 → Int32 → Int32 → Option (Int32 × ST)) (S : ST) (x1 : Int32) (x3 : Int32) (x4 : Int32) (x5 : Int32) (s0 : Int32) : Option (Int32 × ST) :=
  if x5 = 0 then
    bd1 (f_X5_buy N S x4) fun S19 =>
      b_X5_errand_91 N k27 S19 x1 s0 x3
  else
    b_X5_errand_91 N k27 S x1 s0 x3
def b_X5_errand_27 (N : Nat) : Nat → ST → Int32 → Int32 → Int32 → Option (Int32 × ST)
  | 0, _, _, _, _ => none
  | n + 1, S, x1, x2, x3 =>
    if (S 1 33) ≤ x3 then
      b_X5_errand_97 N S x1 x2
    else
      if x2 = (-1) then
        if (34 + x3) < 0 ∨ 261 ≤ (34 + x3).toNatClampNeg then none else
          bd2 (f_X5_whyNot N S (S 1 (34 + x3).toNatClampNeg) (-1)) fun r15 S14 =>
            if r15 ≤ 0 then
              b_X5_errand_79 N (fun S x1 x2 x3 => b_X5_errand_27 N n S x1 x2 x3) S14 x1 x3 (S 1 (34 + x3).toNatClampNeg) r15 (-1)
            else
              b_X5_errand_79 N (fun S x1 x2 x3 => b_X5_errand_27 N n S x1 x2 x3) S14 x1 x3 (S 1 (34 + x3).toNatClampNeg) r15 ((10 * x3) + r15)
      else
        b_X5_errand_97 N S x1 x2
def f_X5_errand (N : Nat) (S : ST) (x1 : Int32) : Option (Int32 × ST) :=
  bd2 (f_X5_in N S ((x1 : Int32).toInt64) 0 3) fun r3 S2 =>
    if r3 = 0 then
      bd2 (f_X5_bad N S2 (-2)) fun r9 S8 =>
        some (r9, S8)
    else
      bd1 (f_X5_begin N S2) fun S6 =>
        b_X5_errand_27 N N S6 x1 (-1) 0
-- X5_isWants
def f_X5_isWants (N : Nat) (S : ST) (x1 : Int32) : Option (Int32 × ST) :=
  bd2 (f_X5_shops N S) fun r3 S2 =>
    bd2 (f_X5_in N S2 ((x1 : Int32).toInt64) 0 ((((1 <<< (r3 &&& 31)) - 1) : Int32).toInt64)) fun r6 S5 =>
      if r6 = 0 ∨ r6 = 1 then some (r6, S5) else none
-- X5_keepState
def f_X5_keepState (N : Nat) (S : ST) (x1 : Int32) : Option ST :=
  if x1 < 0 ∨ 7 ≤ x1.toNatClampNeg then none else
    nm (us S 12 x1.toNatClampNeg (S 0 5)) fun S1 =>
      if x1 < 0 ∨ 7 ≤ x1.toNatClampNeg then none else
        nm (us S1 13 x1.toNatClampNeg (S1 0 6)) fun S3 =>
          if x1 < 0 ∨ 7 ≤ x1.toNatClampNeg then none else
            nm (us S3 14 x1.toNatClampNeg (S3 0 7)) fun S5 =>
              if x1 < 0 ∨ 7 ≤ x1.toNatClampNeg then none else
                nm (us S5 15 x1.toNatClampNeg (S5 0 8)) fun S7 =>
                  some S7
-- X5_backTo
def b_X5_backTo_57 (N : Nat) (S : ST) (s1 : Int32) : Option ST :=
  nm (us S 0 4 s1) fun S11 =>
    some S11
def f_X5_backTo (N : Nat) (S : ST) (x1 : Int32) : Option ST :=
  if x1 < 0 ∨ 7 ≤ x1.toNatClampNeg then none else
    nm (us S 0 5 (S 12 x1.toNatClampNeg)) fun S2 =>
      if x1 < 0 ∨ 7 ≤ x1.toNatClampNeg then none else
        nm (us S2 0 6 (S2 13 x1.toNatClampNeg)) fun S4 =>
          if x1 < 0 ∨ 7 ≤ x1.toNatClampNeg then none else
            nm (us S4 0 7 (S4 14 x1.toNatClampNeg)) fun S6 =>
              if x1 < 0 ∨ 7 ≤ x1.toNatClampNeg then none else
                nm (us S6 0 8 (S6 15 x1.toNatClampNeg)) fun S8 =>
                  if x1 = 0 then
                    b_X5_backTo_57 N S8 (-1)
                  else
                    if (x1 - 1) < 0 ∨ 7 ≤ (x1 - 1).toNatClampNeg then none else
                      b_X5_backTo_57 N S8 (S8 11 (x1 - 1).toNatClampNeg)
-- X5_note
def b_X5_note_161 (N : Nat) (k30 : ST → Int32 → Int32 → Int32 → Option ST) (S : ST) (x1 : Int32) (x2 : Int32) (x3 : Int32) : Option ST :=
  k30 S x1 x2 (x3 + 1)
def b_X5_note_160 (N : Nat) (k30 : ST → Int32 → Int32 → Int32 → Option ST) (S : ST) (x1 : Int32) (x2 : Int32) (x3 : Int32) (s1 : Int32) (s2 : Int32) : Option ST :=
  if s1 < 0 ∨ 64 ≤ s1.toNatClampNeg then none else
    nm (us S 10 s1.toNatClampNeg s2) fun S23 =>
      b_X5_note_161 N k30 S23 x1 x2 x3
def b_X5_note_129 (N : Nat) (k30 : ST → Int32 → Int32 → Int32 → Option ST) (S : ST) (x1 : Int32) (x2 : Int32) (x3 : Int32) : Option ST :=
  if x3 < 0 ∨ 64 ≤ x3.toNatClampNeg then none else
    if (S 10 x3.toNatClampNeg) ≤ (S 0 7) then
      if x3 < 0 ∨ 64 ≤ x3.toNatClampNeg then none else
        b_X5_note_160 N k30 S x1 x2 x3 x3 (S 10 x3.toNatClampNeg)
    else
      b_X5_note_160 N k30 S x1 x2 x3 x3 (S 0 7)
def b_X5_note_88 (N : Nat) (k30 : ST → Int32 → Int32 → Int32 → Option ST) (S : ST) (x1 : Int32) (x2 : Int32) (x3 : Int32) (s0 : Int32) : Option ST :=
  if s0 = 0 then
    b_X5_note_129 N k30 S x1 x2 x3
  else
    if x3 < 0 ∨ 64 ≤ x3.toNatClampNeg then none else
      nm (us S 6 x3.toNatClampNeg (S 0 6)) fun S12 =>
        if x3 < 0 ∨ 64 ≤ x3.toNatClampNeg then none else
          nm (us S12 7 x3.toNatClampNeg x1) fun S14 =>
            if x3 < 0 ∨ 64 ≤ x3.toNatClampNeg then none else
              nm (us S14 8 x3.toNatClampNeg (S14 0 7)) fun S16 =>
                if x3 < 0 ∨ 64 ≤ x3.toNatClampNeg then none else
                  nm (us S16 9 x3.toNatClampNeg x2) fun S18 =>
                    b_X5_note_129 N k30 S18 x1 x2 x3
def b_X5_note_87 (N : Nat) (k30 : ST → Int32 → Int32 → Int32 → Option ST) (S : ST) (x1 : Int32) (x2 : Int32) (x3 : Int32) : Option ST :=
  b_X5_note_88 N k30 S x1 x2 x3 0
def b_X5_note_83 (N : Nat) (k30 : ST → Int32 → Int32 → Int32 → Option ST) (S : ST) (x1 : Int32) (x2 : Int32) (x3 : Int32) : Option ST :=
  b_X5_note_88 N k30 S x1 x2 x3 1
def b_X5_note_30 (N : Nat) : Nat → ST → Int32 → Int32 → Int32 → Option ST
  | 0, _, _, _, _ => none
  | n + 1, S, x1, x2, x3 =>
    if 64 ≤ x3 then
      some S
    else
      if (x3 &&& ((S 0 5) ^^^ (-1))) = 0 then
        if x3 < 0 ∨ 64 ≤ x3.toNatClampNeg then none else
          if (S 0 6) < (S 6 x3.toNatClampNeg) then
            b_X5_note_83 N (fun S x1 x2 x3 => b_X5_note_30 N n S x1 x2 x3) S x1 x2 x3
          else
            if x3 < 0 ∨ 64 ≤ x3.toNatClampNeg then none else
              if (S 0 6) = (S 6 x3.toNatClampNeg) then
                if x3 < 0 ∨ 64 ≤ x3.toNatClampNeg then none else
                  if (S 7 x3.toNatClampNeg) ≤ x1 then
                    b_X5_note_87 N (fun S x1 x2 x3 => b_X5_note_30 N n S x1 x2 x3) S x1 x2 x3
                  else
                    b_X5_note_83 N (fun S x1 x2 x3 => b_X5_note_30 N n S x1 x2 x3) S x1 x2 x3
              else
                b_X5_note_87 N (fun S x1 x2 x3 => b_X5_note_30 N n S x1 x2 x3) S x1 x2 x3
      else
        b_X5_note_161 N (fun S x1 x2 x3 => b_X5_note_30 N n S x1 x2 x3) S x1 x2 x3
def b_X5_note_6 (N : Nat) : Nat → ST → Int32 → Int32 → Int32 → Option ST
  | 0, _, _, _, _ => none
  | n + 1, S, x1, x2, x3 =>
    if x3 < 0 then
      b_X5_note_30 N N S x1 x2 1
    else
      if x3 < 0 ∨ 7 ≤ x3.toNatClampNeg then none else
        b_X5_note_6 N n S x1 ((8 * x2) + (S 11 x3.toNatClampNeg)) (x3 + (-1))
def f_X5_note (N : Nat) (S : ST) (x1 : Int32) : Option ST :=
  b_X5_note_6 N N S x1 0 (x1 - 1)
-- X5_goAll
def b_X5_goAll_154 (N : Nat) (k78 : ST → Int32 → Int32 → Option ST) (S : ST) (x1 : Int32) (x2 : Int32) : Option ST :=
  k78 S x1 x2
def b_X5_goAll_78 (N : Nat) : Nat → ST → Int32 → Int32 → Option ST
  | 0, _, _, _ => none
  | n + 1, S, x1, x2 =>
    if x2 < 0 then
      some S
    else
      if x2 < 0 ∨ 7 ≤ x2.toNatClampNeg then none else
        if x2 < 0 ∨ 7 ≤ x2.toNatClampNeg then none else
          nm (us S 11 x2.toNatClampNeg ((S 11 x2.toNatClampNeg) + 1)) fun S20 =>
            if x2 < 0 ∨ 7 ≤ x2.toNatClampNeg then none else
              bd1 (f_X5_backTo N S20 x2) fun S24 =>
                bd2 (f_X5_shops N S24) fun r27 S26 =>
                  if (S20 11 x2.toNatClampNeg) < r27 then
                    bd2 (f_X5_whyNot N S26 (S20 11 x2.toNatClampNeg) x1) fun r31 S30 =>
                      if r31 = 0 then
                        bd1 (f_X5_buy N S30 (S20 11 x2.toNatClampNeg)) fun S34 =>
                          bd1 (f_X5_note N S34 (x2 + 1)) fun S36 =>
                            bd1 (f_X5_keepState N S36 (x2 + 1)) fun S38 =>
                              if (x2 + 1) < 0 ∨ 7 ≤ (x2 + 1).toNatClampNeg then none else
                                nm (us S38 11 ((x2 + 1).toNatClampNeg) (-1)) fun S39 =>
                                  b_X5_goAll_154 N (fun S x1 x2 => b_X5_goAll_78 N n S x1 x2) S39 x1 (x2 + 1)
                      else
                        b_X5_goAll_154 N (fun S x1 x2 => b_X5_goAll_78 N n S x1 x2) S30 x1 x2
                  else
                    b_X5_goAll_154 N (fun S x1 x2 => b_X5_goAll_78 N n S x1 x2) S26 x1 (x2 + (-1))
def b_X5_goAll_18 (N : Nat) (k2 : ST → Int32 → Int32 → Option ST) (S : ST) (x1 : Int32) (x2 : Int32) (s0 : Int32) : Option ST :=
  if x2 < 0 ∨ 64 ≤ x2.toNatClampNeg then none else
    nm (us S 6 x2.toNatClampNeg s0) fun S8 =>
      if x2 < 0 ∨ 64 ≤ x2.toNatClampNeg then none else
        nm (us S8 7 x2.toNatClampNeg s0) fun S10 =>
          if x2 < 0 ∨ 64 ≤ x2.toNatClampNeg then none else
            nm (us S10 8 x2.toNatClampNeg s0) fun S12 =>
              if x2 < 0 ∨ 64 ≤ x2.toNatClampNeg then none else
                nm (us S12 9 x2.toNatClampNeg 0) fun S14 =>
                  if x2 < 0 ∨ 64 ≤ x2.toNatClampNeg then none else
                    nm (us S14 10 x2.toNatClampNeg s0) fun S16 =>
                      k2 S16 x1 (x2 + 1)
def b_X5_goAll_2 (N : Nat) : Nat → ST → Int32 → Int32 → Option ST
  | 0, _, _, _ => none
  | n + 1, S, x1, x2 =>
    if 64 ≤ x2 then
      bd1 (f_X5_begin N S) fun S3 =>
        bd1 (f_X5_keepState N S3 0) fun S5 =>
          nm (us S5 11 0 (-1)) fun S6 =>
            b_X5_goAll_78 N N S6 x1 0
    else
      if x2 = 0 then
        b_X5_goAll_18 N (fun S x1 x2 => b_X5_goAll_2 N n S x1 x2) S x1 x2 0
      else
        b_X5_goAll_18 N (fun S x1 x2 => b_X5_goAll_2 N n S x1 x2) S x1 x2 1000000
def f_X5_goAll (N : Nat) (S : ST) (x1 : Int32) : Option ST :=
  b_X5_goAll_2 N N S x1 0
-- X5_cheapest
def b_X5_cheapest_20 (N : Nat) (S : ST) : Option (Int32 × ST) :=
  bd2 (f_X5_bad N S (-2)) fun r20 S19 =>
    some (r20, S19)
def f_X5_cheapest (N : Nat) (S : ST) (x1 : Int32) (x2 : Int32) : Option (Int32 × ST) :=
  bd2 (f_X5_isWants N S x1) fun r3 S2 =>
    if r3 = 0 then
      b_X5_cheapest_20 N S2
    else
      bd2 (f_X5_in N S2 ((x2 : Int32).toInt64) 0 2) fun r7 S6 =>
        if r7 = 0 then
          b_X5_cheapest_20 N S6
        else
          bd1 (f_X5_goAll N S6 (-1)) fun S10 =>
            if x1 < 0 ∨ 64 ≤ x1.toNatClampNeg then none else
              if (S10 6 x1.toNatClampNeg) = 1000000 then
                some ((-1), S10)
              else
                if x2 = 0 then
                  if x1 < 0 ∨ 64 ≤ x1.toNatClampNeg then none else
                    some ((S10 6 x1.toNatClampNeg), S10)
                else
                  if x2 = 1 then
                    if x1 < 0 ∨ 64 ≤ x1.toNatClampNeg then none else
                      some ((S10 7 x1.toNatClampNeg), S10)
                  else
                    if x1 < 0 ∨ 64 ≤ x1.toNatClampNeg then none else
                      some ((S10 8 x1.toNatClampNeg), S10)
-- X5_shopIn
def f_X5_shopIn (N : Nat) (S : ST) (x0 : Int32) (x1 : Int32) : Option (Int32 × ST) :=
  some (((x0 >>> ((3 * x1) &&& 31)) &&& 7), S)
-- X5_row
def b_X5_row_12 (N : Nat) (S : ST) : Option (Int32 × ST) :=
  bd2 (f_X5_bad N S (-10)) fun r18 S17 =>
    some (r18, S17)
def f_X5_row (N : Nat) (S : ST) (x1 : Int32) (x2 : Int32) : Option (Int32 × ST) :=
  bd2 (f_X5_isWants N S x1) fun r3 S2 =>
    if r3 = 0 then
      b_X5_row_12 N S2
    else
      if 0 ≤ x2 then
        bd1 (f_X5_goAll N S2 (-1)) fun S7 =>
          if x1 < 0 ∨ 64 ≤ x1.toNatClampNeg then none else
            if (S7 6 x1.toNatClampNeg) = 1000000 then
              some ((-5), S7)
            else
              if x1 < 0 ∨ 64 ≤ x1.toNatClampNeg then none else
                if x2 < (S7 7 x1.toNatClampNeg) then
                  if x1 < 0 ∨ 64 ≤ x1.toNatClampNeg then none else
                    bd2 (f_X5_shopIn N S7 (S7 9 x1.toNatClampNeg) x2) fun r15 S14 =>
                      some (r15, S14)
                else
                  some ((-5), S7)
      else
        b_X5_row_12 N S2
-- X5_soonest
def f_X5_soonest (N : Nat) (S : ST) (x1 : Int32) : Option (Int32 × ST) :=
  bd2 (f_X5_isWants N S x1) fun r3 S2 =>
    if r3 = 0 then
      bd2 (f_X5_bad N S2 (-2)) fun r12 S11 =>
        some (r12, S11)
    else
      bd1 (f_X5_goAll N S2 (-1)) fun S6 =>
        if x1 < 0 ∨ 64 ≤ x1.toNatClampNeg then none else
          if (S6 10 x1.toNatClampNeg) = 1000000 then
            some ((-1), S6)
          else
            if x1 < 0 ∨ 64 ≤ x1.toNatClampNeg then none else
              some ((S6 10 x1.toNatClampNeg), S6)
-- X5_worth
def b_X5_worth_92 (N : Nat) (S : ST) : Option (Int32 × ST) :=
  bd2 (f_X5_no N S (-2000)) fun r29 S28 =>
    some (r29, S28)
def b_X5_worth_24 (N : Nat) (S : ST) : Option (Int32 × ST) :=
  bd2 (f_X5_bad N S (-1000)) fun r26 S25 =>
    some (r26, S25)
def f_X5_worth (N : Nat) (S : ST) (x1 : Int32) (x2 : Int32) : Option (Int32 × ST) :=
  bd2 (f_X5_isWants N S x1) fun r3 S2 =>
    if r3 = 0 then
      b_X5_worth_24 N S2
    else
      bd2 (f_X5_isShop N S2 x2) fun r7 S6 =>
        if r7 = 0 then
          b_X5_worth_24 N S6
        else
          bd2 (f_X5_isFree N S6 x2) fun r11 S10 =>
            if r11 = 0 then
              bd1 (f_X5_goAll N S10 (-1)) fun S14 =>
                if x1 < 0 ∨ 64 ≤ x1.toNatClampNeg then none else
                  nm (us S14 1 30 ((S14 1 30) ^^^ (1 <<< (x2 &&& 31)))) fun S16 =>
                    bd1 (f_X5_goAll N S16 (-1)) fun S18 =>
                      nm (us S18 1 30 ((S18 1 30) ^^^ (1 <<< (x2 &&& 31)))) fun S19 =>
                        if (S14 6 x1.toNatClampNeg) = 1000000 then
                          b_X5_worth_92 N S19
                        else
                          if x1 < 0 ∨ 64 ≤ x1.toNatClampNeg then none else
                            if (S19 6 x1.toNatClampNeg) = 1000000 then
                              b_X5_worth_92 N S19
                            else
                              if x1 < 0 ∨ 64 ≤ x1.toNatClampNeg then none else
                                some (((S14 6 x1.toNatClampNeg) - (S19 6 x1.toNatClampNeg)), S19)
            else
              b_X5_worth_24 N S10
-- X5_hadWith
def b_X5_hadWith_38 (N : Nat) (k9 : ST → Int32 → Int32 → Option (Int32 × ST)) (S : ST) (x3 : Int32) (s0 : Int32) (s1 : Int32) : Option (Int32 × ST) :=
  k9 S (s0 ||| s1) (x3 + 1)
def b_X5_hadWith_9 (N : Nat) : Nat → ST → Int32 → Int32 → Option (Int32 × ST)
  | 0, _, _, _ => none
  | n + 1, S, x2, x3 =>
    bd2 (f_X5_shops N S) fun r5 S4 =>
      if r5 ≤ x3 then
        some (x2, S4)
      else
        if (1 <<< (x3 &&& 31)) < 0 ∨ 64 ≤ (1 <<< (x3 &&& 31)).toNatClampNeg then none else
          if (S4 6 (1 <<< (x3 &&& 31)).toNatClampNeg) = 1000000 then
            b_X5_hadWith_38 N (fun S x2 x3 => b_X5_hadWith_9 N n S x2 x3) S4 x3 x2 0
          else
            b_X5_hadWith_38 N (fun S x2 x3 => b_X5_hadWith_9 N n S x2 x3) S4 x3 x2 (1 <<< (x3 &&& 31))
def f_X5_hadWith (N : Nat) (S : ST) (x1 : Int32) : Option (Int32 × ST) :=
  bd1 (f_X5_goAll N S x1) fun S2 =>
    b_X5_hadWith_9 N N S2 0 0
-- X5_shutOut
def f_X5_shutOut (N : Nat) (S : ST) (x1 : Int32) : Option (Int32 × ST) :=
  bd2 (f_X5_isShop N S x1) fun r3 S2 =>
    if r3 = 0 then
      bd2 (f_X5_bad N S2 (-2)) fun r13 S12 =>
        some (r13, S12)
    else
      bd2 (f_X5_hadWith N S2 (-1)) fun r7 S6 =>
        bd2 (f_X5_hadWith N S6 x1) fun r10 S9 =>
          some ((r7 &&& (r10 ^^^ (-1))), S9)
-- X5_isNewPair
def f_X5_isNewPair (N : Nat) (S : ST) (x1 : Int32) : Option (Int32 × ST) :=
  bd2 (f_X5_shops N S) fun r3 S2 =>
    if r3 = 0 then none else bd2 (f_X5_shops N S2) fun r7 S6 =>
      if r7 = 0 then none else if (x1 - x1 / r7 * r7) ≤ (x1 / r3) then
        some (0, S6)
      else
        bd2 (f_X5_areNear N S6 (x1 / r3) (x1 - x1 / r7 * r7)) fun r12 S11 =>
          if r12 = 0 then
            some (1, S11)
          else
            some (0, S11)
-- X5_mends
def b_X5_mends_227 (N : Nat) (k57 : ST → Int32 → Int32 → Int32 → Int32 → Int32 → Option (Int32 × ST)) (S : ST) (x1 : Int32) (x2 : Int32) (x3 : Int32) (x4 : Int32) (x5 : Int32) : Option (Int32 × ST) :=
  k57 S x1 x2 x3 x4 (x5 + 1)
def b_X5_mends_202 (N : Nat) (k57 : ST → Int32 → Int32 → Int32 → Int32 → Int32 → Option (Int32 × ST)) (S : ST) (x1 : Int32) (x2 : Int32) (x3 : Int32) (x4 : Int32) (x5 : Int32) (x6 : Int32) : Option (Int32 × ST) :=
  bd2 (f_X5_shops N S) fun r73 S72 =>
    if r73 = 0 then none else bd2 (f_X5_shops N S72) fun r77 S76 =>
      if r77 = 0 then none else bd1 (f_X5_turnNear N S76 (x5 / r73) (x5 - x5 / r77 * r77)) fun S80 =>
        if x6 = 0 then
          b_X5_mends_227 N k57 S80 x1 x2 x3 x4 x5
        else
          some (1, S80)
def b_X5_mends_196 (N : Nat) (k57 : ST → Int32 → Int32 → Int32 → Int32 → Int32 → Option (Int32 × ST)) (k115 : ST → Int32 → Int32 → Int32 → Int32 → Int32 → Int32 → Int32 → Option (Int32 × ST)) (S : ST) (x1 : Int32) (x2 : Int32) (x3 : Int32) (x4 : Int32) (x5 : Int32) (x6 : Int32) (x7 : Int32) : Option (Int32 × ST) :=
  k115 S x1 x2 x3 x4 x5 x6 (x7 + 1)
def b_X5_mends_176 (N : Nat) (k57 : ST → Int32 → Int32 → Int32 → Int32 → Int32 → Option (Int32 × ST)) (k115 : ST → Int32 → Int32 → Int32 → Int32 → Int32 → Int32 → Int32 → Option (Int32 × ST)) (S : ST) (x1 : Int32) (x2 : Int32) (x3 : Int32) (x5 : Int32) (x6 : Int32) (x7 : Int32) (s0 : Int32) : Option (Int32 × ST) :=
  bd2 (f_X5_shops N S) fun r63 S62 =>
    if r63 = 0 then none else bd2 (f_X5_shops N S62) fun r67 S66 =>
      if r67 = 0 then none else bd1 (f_X5_turnNear N S66 (x7 / r63) (x7 - x7 / r67 * r67)) fun S70 =>
        b_X5_mends_196 N k57 k115 S70 x1 x2 x3 s0 x5 x6 x7
def b_X5_mends_115 (N : Nat) (k57 : ST → Int32 → Int32 → Int32 → Int32 → Int32 → Option (Int32 × ST)) : Nat → ST → Int32 → Int32 → Int32 → Int32 → Int32 → Int32 → Int32 → Option (Int32 × ST)
  | 0, _, _, _, _, _, _, _, _ => none
  | n + 1, S, x1, x2, x3, x4, x5, x6, x7 =>
    if x3 ≤ x7 then
      b_X5_mends_202 N k57 S x1 x2 x3 x4 x5 x6
    else
      if x6 = 0 then
        if x4 = (-1) then
          bd2 (f_X5_isNewPair N S x7) fun r45 S44 =>
            if r45 = 0 then
              b_X5_mends_196 N k57 (fun S x1 x2 x3 x4 x5 x6 x7 => b_X5_mends_115 N k57 n S x1 x2 x3 x4 x5 x6 x7) S44 x1 x2 x3 x4 x5 x6 x7
            else
              bd2 (f_X5_shops N S44) fun r49 S48 =>
                if r49 = 0 then none else bd2 (f_X5_shops N S48) fun r53 S52 =>
                  if r53 = 0 then none else bd1 (f_X5_turnNear N S52 (x7 / r49) (x7 - x7 / r53 * r53)) fun S56 =>
                    bd2 (f_X5_hadWith N S56 x1) fun r59 S58 =>
                      if (x2 &&& (r59 ^^^ (-1))) = 0 then
                        b_X5_mends_176 N k57 (fun S x1 x2 x3 x4 x5 x6 x7 => b_X5_mends_115 N k57 n S x1 x2 x3 x4 x5 x6 x7) S58 x1 x2 x3 x5 x6 x7 2
                      else
                        b_X5_mends_176 N k57 (fun S x1 x2 x3 x4 x5 x6 x7 => b_X5_mends_115 N k57 n S x1 x2 x3 x4 x5 x6 x7) S58 x1 x2 x3 x5 x6 x7 (-1)
        else
          b_X5_mends_202 N k57 S x1 x2 x3 x4 x5 x6
      else
        b_X5_mends_202 N k57 S x1 x2 x3 x4 x5 x6
def b_X5_mends_107 (N : Nat) (k57 : ST → Int32 → Int32 → Int32 → Int32 → Int32 → Option (Int32 × ST)) (S : ST) (x1 : Int32) (x2 : Int32) (x3 : Int32) (x4 : Int32) (x5 : Int32) (s0 : Int32) : Option (Int32 × ST) :=
  b_X5_mends_115 N k57 N S x1 x2 x3 x4 x5 s0 (x5 + 1)
def b_X5_mends_57 (N : Nat) : Nat → ST → Int32 → Int32 → Int32 → Int32 → Int32 → Option (Int32 × ST)
  | 0, _, _, _, _, _, _ => none
  | n + 1, S, x1, x2, x3, x4, x5 =>
    if x3 ≤ x5 then
      some (x4, S)
    else
      bd2 (f_X5_isNewPair N S x5) fun r24 S23 =>
        if r24 = 0 then
          b_X5_mends_227 N (fun S x1 x2 x3 x4 x5 => b_X5_mends_57 N n S x1 x2 x3 x4 x5) S23 x1 x2 x3 x4 x5
        else
          bd2 (f_X5_shops N S23) fun r28 S27 =>
            if r28 = 0 then none else bd2 (f_X5_shops N S27) fun r32 S31 =>
              if r32 = 0 then none else bd1 (f_X5_turnNear N S31 (x5 / r28) (x5 - x5 / r32 * r32)) fun S35 =>
                bd2 (f_X5_hadWith N S35 x1) fun r38 S37 =>
                  if (x2 &&& (r38 ^^^ (-1))) = 0 then
                    b_X5_mends_107 N (fun S x1 x2 x3 x4 x5 => b_X5_mends_57 N n S x1 x2 x3 x4 x5) S37 x1 x2 x3 x4 x5 1
                  else
                    b_X5_mends_107 N (fun S x1 x2 x3 x4 x5 => b_X5_mends_57 N n S x1 x2 x3 x4 x5) S37 x1 x2 x3 x4 x5 0
def f_X5_mends (N : Nat) (S : ST) (x1 : Int32) : Option (Int32 × ST) :=
  bd2 (f_X5_isShop N S x1) fun r3 S2 =>
    if r3 = 0 then
      bd2 (f_X5_bad N S2 (-2)) fun r20 S19 =>
        some (r20, S19)
    else
      bd2 (f_X5_hadWith N S2 (-1)) fun r7 S6 =>
        bd2 (f_X5_shops N S6) fun r10 S9 =>
          bd2 (f_X5_shops N S9) fun r13 S12 =>
            bd2 (f_X5_hadWith N S12 x1) fun r16 S15 =>
              if ((r7 &&& ((1 <<< (x1 &&& 31)) ^^^ (-1))) &&& (r16 ^^^ (-1))) = 0 then
                some (0, S15)
              else
                b_X5_mends_57 N N S15 x1 (r7 &&& ((1 <<< (x1 &&& 31)) ^^^ (-1))) (r10 * r13) (-1) 0
-- X5_buyer
def b_X5_buyer_20 (N : Nat) (S : ST) : Option (Int32 × ST) :=
  bd2 (f_X5_bad N S (-2)) fun r20 S19 =>
    some (r20, S19)
def f_X5_buyer (N : Nat) (S : ST) (x1 : Int32) (x2 : Int32) : Option (Int32 × ST) :=
  bd2 (f_X5_isShop N S x1) fun r3 S2 =>
    if r3 = 0 then
      b_X5_buyer_20 N S2
    else
      bd2 (f_X5_in N S2 ((x2 : Int32).toInt64) 0 99) fun r7 S6 =>
        if r7 = 0 then
          b_X5_buyer_20 N S6
        else
          if (S6 1 260) = 6 then
            bd2 (f_X5_full N S6) fun r17 S16 =>
              some (r17, S16)
          else
            if (247 + (2 * (S6 1 260))) < 0 ∨ 261 ≤ (247 + (2 * (S6 1 260))).toNatClampNeg then none else
              nm (us S6 1 ((247 + (2 * (S6 1 260))).toNatClampNeg) x1) fun S10 =>
                if ((247 + (2 * (S6 1 260))) + 1) < 0 ∨ 261 ≤ ((247 + (2 * (S6 1 260))) + 1).toNatClampNeg then none else
                  nm (us S10 1 (((247 + (2 * (S6 1 260))) + 1).toNatClampNeg) x2) fun S12 =>
                    nm (us S12 1 260 ((S12 1 260) + 1)) fun S14 =>
                      some ((S6 1 260), S14)
-- X5_leave
def f_X5_leave (N : Nat) (S : ST) : Option (Int32 × ST) :=
  nm (us S 1 260 0) fun S1 =>
    some ((S 1 260), S1)
-- X5_paidAt
def b_X5_paidAt_57 (N : Nat) (k9 : ST → Int32 → Int32 → Int32 → Int32 → Option (Int32 × ST)) (S : ST) (x1 : Int32) (x2 : Int32) (x4 : Int32) (x5 : Int32) (s0 : Int32) : Option (Int32 × ST) :=
  bd1 (f_X5_buy N S x5) fun S14 =>
    k9 S14 x1 x2 s0 (x4 + 1)
def b_X5_paidAt_9 (N : Nat) : Nat → ST → Int32 → Int32 → Int32 → Int32 → Option (Int32 × ST)
  | 0, _, _, _, _, _ => none
  | n + 1, S, x1, x2, x3, x4 =>
    if (1 <<< (x2 &&& 31)) < 0 ∨ 64 ≤ (1 <<< (x2 &&& 31)).toNatClampNeg then none else
      if (S 7 (1 <<< (x2 &&& 31)).toNatClampNeg) ≤ x4 then
        some (x3, S)
      else
        if (1 <<< (x2 &&& 31)) < 0 ∨ 64 ≤ (1 <<< (x2 &&& 31)).toNatClampNeg then none else
          bd2 (f_X5_shopIn N S (S 9 (1 <<< (x2 &&& 31)).toNatClampNeg) x4) fun r8 S7 =>
            if r8 = x1 then
              bd2 (f_X5_priceOf N S7 r8 (S7 0 5)) fun r12 S11 =>
                b_X5_paidAt_57 N (fun S x1 x2 x3 x4 => b_X5_paidAt_9 N n S x1 x2 x3 x4) S11 x1 x2 x4 r8 r12
            else
              b_X5_paidAt_57 N (fun S x1 x2 x3 x4 => b_X5_paidAt_9 N n S x1 x2 x3 x4) S7 x1 x2 x4 r8 x3
def f_X5_paidAt (N : Nat) (S : ST) (x1 : Int32) (x2 : Int32) : Option (Int32 × ST) :=
  bd1 (f_X5_begin N S) fun S2 =>
    b_X5_paidAt_9 N N S2 x1 x2 0 0
-- X5_takesOf
def b_X5_takesOf_94 (N : Nat) (k9 : ST → Int32 → Int32 → Int32 → Option (Int32 × ST)) (S : ST) (x1 : Int32) (x3 : Int32) (s0 : Int32) (s1 : Int32) : Option (Int32 × ST) :=
  k9 S x1 (s0 + s1) (x3 + 1)
def b_X5_takesOf_75 (N : Nat) (k9 : ST → Int32 → Int32 → Int32 → Option (Int32 × ST)) (S : ST) (x1 : Int32) (x2 : Int32) (x3 : Int32) (x4 : Int32) (s0 : Int32) : Option (Int32 × ST) :=
  if s0 = 0 then
    b_X5_takesOf_94 N k9 S x1 x3 x2 0
  else
    bd2 (f_X5_paidAt N S x1 x4) fun r15 S14 =>
      b_X5_takesOf_94 N k9 S14 x1 x3 x2 r15
def b_X5_takesOf_74 (N : Nat) (k9 : ST → Int32 → Int32 → Int32 → Option (Int32 × ST)) (S : ST) (x1 : Int32) (x2 : Int32) (x3 : Int32) (x4 : Int32) : Option (Int32 × ST) :=
  b_X5_takesOf_75 N k9 S x1 x2 x3 x4 0
def b_X5_takesOf_9 (N : Nat) : Nat → ST → Int32 → Int32 → Int32 → Option (Int32 × ST)
  | 0, _, _, _, _ => none
  | n + 1, S, x1, x2, x3 =>
    if (S 1 260) ≤ x3 then
      some (x2, S)
    else
      if (247 + (2 * x3)) < 0 ∨ 261 ≤ (247 + (2 * x3)).toNatClampNeg then none else
        bd2 (f_X5_isShop N S (S 1 (247 + (2 * x3)).toNatClampNeg)) fun r7 S6 =>
          if r7 = 0 then
            b_X5_takesOf_74 N (fun S x1 x2 x3 => b_X5_takesOf_9 N n S x1 x2 x3) S6 x1 x2 x3 (S 1 (247 + (2 * x3)).toNatClampNeg)
          else
            if (1 <<< ((S 1 (247 + (2 * x3)).toNatClampNeg) &&& 31)) < 0 ∨ 64 ≤ (1 <<< ((S 1 (247 + (2 * x3)).toNatClampNeg) &&& 31)).toNatClampNeg then none else
              if ((247 + (2 * x3)) + 1) < 0 ∨ 261 ≤ ((247 + (2 * x3)) + 1).toNatClampNeg then none else
                if (S6 1 ((247 + (2 * x3)) + 1).toNatClampNeg) < (S6 6 (1 <<< ((S 1 (247 + (2 * x3)).toNatClampNeg) &&& 31)).toNatClampNeg) then
                  b_X5_takesOf_74 N (fun S x1 x2 x3 => b_X5_takesOf_9 N n S x1 x2 x3) S6 x1 x2 x3 (S 1 (247 + (2 * x3)).toNatClampNeg)
                else
                  b_X5_takesOf_75 N (fun S x1 x2 x3 => b_X5_takesOf_9 N n S x1 x2 x3) S6 x1 x2 x3 (S 1 (247 + (2 * x3)).toNatClampNeg) 1
def f_X5_takesOf (N : Nat) (S : ST) (x1 : Int32) : Option (Int32 × ST) :=
  bd1 (f_X5_goAll N S (-1)) fun S2 =>
    b_X5_takesOf_9 N N S2 x1 0 0
-- X5_takes
def f_X5_takes (N : Nat) (S : ST) (x1 : Int32) : Option (Int32 × ST) :=
  bd2 (f_X5_isShop N S x1) fun r3 S2 =>
    if r3 = 0 then
      bd2 (f_X5_bad N S2 (-2)) fun r7 S6 =>
        some (r7, S6)
    else
      bd2 (f_X5_takesOf N S2 x1) fun r10 S9 =>
        some (r10, S9)
-- X5_asksOf
def b_X5_asksOf_80 (N : Nat) (k17 : ST → Int32 → Int32 → Int32 → Int32 → Option (Int32 × ST)) (S : ST) (x1 : Int32) (x2 : Int32) (x3 : Int32) (x4 : Int32) (s1 : Int32) : Option (Int32 × ST) :=
  nm (us S 0 26 s1) fun S15 =>
    k17 S15 x1 x2 x3 (x4 + 1)
def b_X5_asksOf_60 (N : Nat) (k17 : ST → Int32 → Int32 → Int32 → Int32 → Option (Int32 × ST)) (S : ST) (x1 : Int32) (x2 : Int32) (x4 : Int32) (x5 : Int32) (s0 : Int32) : Option (Int32 × ST) :=
  if x5 ≤ (S 0 26) then
    b_X5_asksOf_80 N k17 S x1 x2 s0 x4 (S 0 26)
  else
    b_X5_asksOf_80 N k17 S x1 x2 s0 x4 x5
def b_X5_asksOf_17 (N : Nat) : Nat → ST → Int32 → Int32 → Int32 → Int32 → Option (Int32 × ST)
  | 0, _, _, _, _, _ => none
  | n + 1, S, x1, x2, x3, x4 =>
    if 20 < x4 then
      if ((0 + (4 * x1)) + 1) < 0 ∨ 261 ≤ ((0 + (4 * x1)) + 1).toNatClampNeg then none else
        nm (us S 1 (((0 + (4 * x1)) + 1).toNatClampNeg) x2) fun S6 =>
          some (x3, S6)
    else
      if ((0 + (4 * x1)) + 1) < 0 ∨ 261 ≤ ((0 + (4 * x1)) + 1).toNatClampNeg then none else
        nm (us S 1 (((0 + (4 * x1)) + 1).toNatClampNeg) x4) fun S8 =>
          bd2 (f_X5_takesOf N S8 x1) fun r12 S11 =>
            if r12 ≤ (S11 0 26) then
              b_X5_asksOf_60 N (fun S x1 x2 x3 x4 => b_X5_asksOf_17 N n S x1 x2 x3 x4) S11 x1 x2 x4 r12 x3
            else
              b_X5_asksOf_60 N (fun S x1 x2 x3 x4 => b_X5_asksOf_17 N n S x1 x2 x3 x4) S11 x1 x2 x4 r12 x4
def f_X5_asksOf (N : Nat) (S : ST) (x1 : Int32) : Option (Int32 × ST) :=
  bd2 (f_X5_of N S x1 1) fun r3 S2 =>
    nm (us S2 0 26 (-1)) fun S4 =>
      b_X5_asksOf_17 N N S4 x1 r3 0 0
-- X5_asks
def f_X5_asks (N : Nat) (S : ST) (x1 : Int32) : Option (Int32 × ST) :=
  bd2 (f_X5_isShop N S x1) fun r3 S2 =>
    if r3 = 0 then
      bd2 (f_X5_bad N S2 (-2)) fun r7 S6 =>
        some (r7, S6)
    else
      bd2 (f_X5_asksOf N S2 x1) fun r10 S9 =>
        some (r10, S9)
-- X5_changeAll
def b_X5_changeAll_82 (N : Nat) (k4 : ST → Int32 → Int32 → Option (Int32 × ST)) (S : ST) (x2 : Int32) (s0 : Int32) : Option (Int32 × ST) :=
  k4 S s0 (x2 + 1)
def b_X5_changeAll_77 (N : Nat) (k4 : ST → Int32 → Int32 → Option (Int32 × ST)) (S : ST) (x2 : Int32) : Option (Int32 × ST) :=
  b_X5_changeAll_82 N k4 S x2 1
def b_X5_changeAll_67 (N : Nat) (k4 : ST → Int32 → Int32 → Option (Int32 × ST)) (S : ST) (x1 : Int32) (x2 : Int32) (x5 : Int32) (s1 : Int32) (s2 : Int32) : Option (Int32 × ST) :=
  if s1 < 0 ∨ 261 ≤ s1.toNatClampNeg then none else
    nm (us S 1 s1.toNatClampNeg s2) fun S17 =>
      if x1 = 0 then
        if x5 = 0 then
          b_X5_changeAll_82 N k4 S17 x2 0
        else
          b_X5_changeAll_77 N k4 S17 x2
      else
        b_X5_changeAll_77 N k4 S17 x2
def b_X5_changeAll_38 (N : Nat) (k4 : ST → Int32 → Int32 → Option (Int32 × ST)) (S : ST) (x1 : Int32) (x2 : Int32) (x4 : Int32) (s0 : Int32) : Option (Int32 × ST) :=
  if s0 = 0 then
    bd2 (f_X5_of N S x2 1) fun r16 S15 =>
      b_X5_changeAll_67 N k4 S15 x1 x2 s0 ((0 + (4 * x2)) + 1) r16
  else
    b_X5_changeAll_67 N k4 S x1 x2 s0 ((0 + (4 * x2)) + 1) x4
def b_X5_changeAll_4 (N : Nat) : Nat → ST → Int32 → Int32 → Option (Int32 × ST)
  | 0, _, _, _ => none
  | n + 1, S, x1, x2 =>
    bd2 (f_X5_shops N S) fun r3 S2 =>
      if r3 ≤ x2 then
        if x1 = 0 ∨ x1 = 1 then some (x1, S2) else none
      else
        bd2 (f_X5_takesOf N S2 x2) fun r8 S7 =>
          bd2 (f_X5_asksOf N S7 x2) fun r11 S10 =>
            if (S10 0 26) ≤ r8 then
              b_X5_changeAll_38 N (fun S x1 x2 => b_X5_changeAll_4 N n S x1 x2) S10 x1 x2 r11 0
            else
              b_X5_changeAll_38 N (fun S x1 x2 => b_X5_changeAll_4 N n S x1 x2) S10 x1 x2 r11 1
def f_X5_changeAll (N : Nat) (S : ST) : Option (Int32 × ST) :=
  b_X5_changeAll_4 N N S 0 0
-- X5_changes
def b_X5_changes_93 (N : Nat) : Nat → ST → Int32 → Int32 → Int32 → Option (Int32 × ST)
  | 0, _, _, _, _ => none
  | n + 1, S, x3, x4, x5 =>
    bd2 (f_X5_shops N S) fun r29 S28 =>
      if r29 ≤ x5 then
        if x3 = 0 then
          some (x4, S28)
        else
          some ((-1), S28)
      else
        if x5 < 0 ∨ 6 ≤ x5.toNatClampNeg then none else
          if ((0 + (4 * x5)) + 1) < 0 ∨ 261 ≤ ((0 + (4 * x5)) + 1).toNatClampNeg then none else
            nm (us S28 1 (((0 + (4 * x5)) + 1).toNatClampNeg) (S28 16 x5.toNatClampNeg)) fun S33 =>
              b_X5_changes_93 N n S33 x3 x4 (x5 + 1)
def b_X5_changes_88 (N : Nat) (S : ST) (x3 : Int32) (s0 : Int32) : Option (Int32 × ST) :=
  b_X5_changes_93 N N S x3 s0 0
def b_X5_changes_73 (N : Nat) (S : ST) (x1 : Int32) (x2 : Int32) (x3 : Int32) : Option (Int32 × ST) :=
  if x1 = (-1) then
    b_X5_changes_88 N S x3 x2
  else
    bd2 (f_X5_of N S x1 1) fun r26 S25 =>
      b_X5_changes_88 N S25 x3 r26
def b_X5_changes_52 (N : Nat) : Nat → ST → Int32 → Int32 → Int32 → Option (Int32 × ST)
  | 0, _, _, _, _ => none
  | n + 1, S, x1, x2, x3 =>
    if x3 = 0 then
      b_X5_changes_73 N S x1 x2 x3
    else
      if 8 ≤ x2 then
        b_X5_changes_73 N S x1 x2 x3
      else
        bd2 (f_X5_changeAll N S) fun r22 S21 =>
          b_X5_changes_52 N n S21 x1 (x2 + 1) r22
def b_X5_changes_22 (N : Nat) : Nat → ST → Int32 → Int32 → Option (Int32 × ST)
  | 0, _, _, _ => none
  | n + 1, S, x1, x2 =>
    bd2 (f_X5_shops N S) fun r11 S10 =>
      if r11 ≤ x2 then
        b_X5_changes_52 N N S10 x1 0 1
      else
        bd2 (f_X5_of N S10 x2 1) fun r15 S14 =>
          if x2 < 0 ∨ 6 ≤ x2.toNatClampNeg then none else
            nm (us S14 16 x2.toNatClampNeg r15) fun S16 =>
              b_X5_changes_22 N n S16 x1 (x2 + 1)
def b_X5_changes_20 (N : Nat) (S : ST) (x1 : Int32) : Option (Int32 × ST) :=
  b_X5_changes_22 N N S x1 0
def f_X5_changes (N : Nat) (S : ST) (x1 : Int32) : Option (Int32 × ST) :=
  if x1 = (-1) then
    b_X5_changes_20 N S x1
  else
    bd2 (f_X5_isShop N S x1) fun r4 S3 =>
      if r4 = 0 then
        bd2 (f_X5_bad N S3 (-2)) fun r8 S7 =>
          some (r8, S7)
      else
        b_X5_changes_20 N S3 x1
-- X5_wanted
def b_X5_wanted_133 (N : Nat) (k71 : ST → Int32 → Int32 → Int32 → Int32 → Option (Int32 × ST)) (S : ST) (x1 : Int32) (x2 : Int32) (x3 : Int32) (x4 : Int32) : Option (Int32 × ST) :=
  k71 S x1 x2 x3 (x4 + 1)
def b_X5_wanted_71 (N : Nat) : Nat → ST → Int32 → Int32 → Int32 → Int32 → Option (Int32 × ST)
  | 0, _, _, _, _, _ => none
  | n + 1, S, x1, x2, x3, x4 =>
    bd2 (f_X5_shops N S) fun r12 S11 =>
      if (1 <<< (r12 &&& 31)) ≤ x4 then
        if x1 = (-1) then
          some (x3, S11)
        else
          some ((-5), S11)
      else
        if x4 < 0 ∨ 64 ≤ x4.toNatClampNeg then none else
          if 1000000 ≤ (S11 6 x4.toNatClampNeg) then
            b_X5_wanted_133 N (fun S x1 x2 x3 x4 => b_X5_wanted_71 N n S x1 x2 x3 x4) S11 x1 x2 x3 x4
          else
            if x4 < 0 ∨ 64 ≤ x4.toNatClampNeg then none else
              if (S11 7 x4.toNatClampNeg) = (S11 1 33) then
                if x4 < 0 ∨ 64 ≤ x4.toNatClampNeg then none else
                  if (S11 9 x4.toNatClampNeg) = x2 then
                    if x3 = x1 then
                      some (x4, S11)
                    else
                      b_X5_wanted_133 N (fun S x1 x2 x3 x4 => b_X5_wanted_71 N n S x1 x2 x3 x4) S11 x1 x2 (x3 + 1) x4
                  else
                    b_X5_wanted_133 N (fun S x1 x2 x3 x4 => b_X5_wanted_71 N n S x1 x2 x3 x4) S11 x1 x2 x3 x4
              else
                b_X5_wanted_133 N (fun S x1 x2 x3 x4 => b_X5_wanted_71 N n S x1 x2 x3 x4) S11 x1 x2 x3 x4
def b_X5_wanted_66 (N : Nat) (S : ST) (x1 : Int32) (x2 : Int32) : Option (Int32 × ST) :=
  b_X5_wanted_71 N N S x1 x2 0 0
def b_X5_wanted_29 (N : Nat) : Nat → ST → Int32 → Int32 → Int32 → Option (Int32 × ST)
  | 0, _, _, _, _ => none
  | n + 1, S, x1, x2, x3 =>
    if x3 < 0 then
      b_X5_wanted_66 N S x1 x2
    else
      if 7 ≤ (S 1 33) then
        b_X5_wanted_66 N S x1 x2
      else
        if (34 + x3) < 0 ∨ 261 ≤ (34 + x3).toNatClampNeg then none else
          b_X5_wanted_29 N n S x1 ((8 * x2) + (S 1 (34 + x3).toNatClampNeg)) (x3 + (-1))
def f_X5_wanted (N : Nat) (S : ST) (x1 : Int32) : Option (Int32 × ST) :=
  if (-1) ≤ x1 then
    bd1 (f_X5_goAll N S (-1)) fun S3 =>
      b_X5_wanted_29 N N S3 x1 0 ((S3 1 33) - 1)
  else
    bd2 (f_X5_bad N S (-10)) fun r6 S5 =>
      some (r6, S5)
-- X5_image
def b_X5_image_19 (N : Nat) : Nat → ST → Int32 → Int32 → Option (Int32 × ST)
  | 0, _, _, _ => none
  | n + 1, S, x1, x2 =>
    if 261 ≤ x2 then
      if x1 < 0 ∨ 2 ≤ x1.toNatClampNeg then none else
        nm (us S 3 x1.toNatClampNeg 1) fun S9 =>
          some (1, S9)
    else
      if x2 < 0 ∨ 261 ≤ x2.toNatClampNeg then none else
        if ((261 * x1) + x2) < 0 ∨ 522 ≤ ((261 * x1) + x2).toNatClampNeg then none else
          nm (us S 2 (((261 * x1) + x2).toNatClampNeg) (S 1 x2.toNatClampNeg)) fun S12 =>
            b_X5_image_19 N n S12 x1 (x2 + 1)
def f_X5_image (N : Nat) (S : ST) (x1 : Int32) : Option (Int32 × ST) :=
  bd2 (f_X5_in N S ((x1 : Int32).toInt64) 0 1) fun r3 S2 =>
    if r3 = 0 then
      bd2 (f_X5_bad N S2 (-2)) fun r7 S6 =>
        some (r7, S6)
    else
      b_X5_image_19 N N S2 x1 0
-- X5_from
def b_X5_from_35 (N : Nat) : Nat → ST → Int32 → Int32 → Option (Int32 × ST)
  | 0, _, _, _ => none
  | n + 1, S, x1, x2 =>
    if 261 ≤ x2 then
      some (1, S)
    else
      if ((261 * x1) + x2) < 0 ∨ 522 ≤ ((261 * x1) + x2).toNatClampNeg then none else
        if x2 < 0 ∨ 261 ≤ x2.toNatClampNeg then none else
          nm (us S 1 x2.toNatClampNeg (S 2 ((261 * x1) + x2).toNatClampNeg)) fun S15 =>
            b_X5_from_35 N n S15 x1 (x2 + 1)
def f_X5_from (N : Nat) (S : ST) (x1 : Int32) : Option (Int32 × ST) :=
  bd2 (f_X5_in N S ((x1 : Int32).toInt64) 0 1) fun r3 S2 =>
    if r3 = 0 then
      bd2 (f_X5_bad N S2 (-2)) fun r12 S11 =>
        some (r12, S11)
    else
      if x1 < 0 ∨ 2 ≤ x1.toNatClampNeg then none else
        if (S2 3 x1.toNatClampNeg) = 0 then
          bd2 (f_X5_no N S2 (-3)) fun r9 S8 =>
            some (r9, S8)
        else
          b_X5_from_35 N N S2 x1 0
-- X5_status
def f_X5_status (N : Nat) (S : ST) (x1 : Int32) : Option (Int32 × ST) :=
  bd2 (f_X5_in N S ((x1 : Int32).toInt64) 0 2) fun r3 S2 =>
    if r3 = 0 then
      bd2 (f_X5_bad N S2 (-1)) fun r7 S6 =>
        some (r7, S6)
    else
      if x1 < 0 ∨ 3 ≤ x1.toNatClampNeg then none else
        some ((S2 4 x1.toNatClampNeg), S2)
-- X5_counted
def f_X5_counted (N : Nat) (S : ST) (x1 : Int32) : Option (Int32 × ST) :=
  if x1 = 0 then
    bd2 (f_X5_shops N S) fun r9 S8 =>
      some (r9, S8)
  else
    if x1 = 1 then
      some ((S 1 33), S)
    else
      if x1 = 2 then
        bd2 (f_X5_textLong N S) fun r6 S5 =>
          some (r6, S5)
      else
        some ((S 1 260), S)
-- X5_count
def f_X5_count (N : Nat) (S : ST) (x1 : Int32) : Option (Int32 × ST) :=
  bd2 (f_X5_in N S ((x1 : Int32).toInt64) 0 3) fun r3 S2 =>
    if r3 = 0 then
      bd2 (f_X5_bad N S2 (-2)) fun r7 S6 =>
        some (r7, S6)
    else
      bd2 (f_X5_counted N S2 x1) fun r10 S9 =>
        some (r10, S9)
-- X5_sums
def b_X5_sums_6 (N : Nat) : Nat → ST → Int32 → Int32 → Int64 → Int32 → Option (Int64 × ST)
  | 0, _, _, _, _, _ => none
  | n + 1, S, x3, x4, x5, x7 =>
    if x4 ≤ x7 then
      some (x5, S)
    else
      if (x3 + x7) < 0 ∨ 261 ≤ (x3 + x7).toNatClampNeg then none else
        b_X5_sums_6 N n S x3 x4 ((31 * x5) + (((S 1 (x3 + x7).toNatClampNeg) : Int32).toInt64)) (x7 + 1)
def f_X5_sums (N : Nat) (S : ST) (x1 : Int64) (x3 : Int32) (x4 : Int32) : Option (Int64 × ST) :=
  b_X5_sums_6 N N S x3 x4 x1 0
-- X5_digest
def b_X5_digest_32 (N : Nat) : Nat → ST → Int64 → Int32 → Option (Int64 × ST)
  | 0, _, _, _ => none
  | n + 1, S, x1, x3 =>
    bd2 (f_X5_shops N S) fun r7 S6 =>
      if r7 ≤ x3 then
        bd2 (f_X5_sums N S6 x1 30 3) fun r11 S10 =>
          bd2 (f_X5_sums N S10 r11 34 (S10 1 33)) fun r14 S13 =>
            bd2 (f_X5_textLong N S13) fun r17 S16 =>
              bd2 (f_X5_sums N S16 r14 47 r17) fun r20 S19 =>
                bd2 (f_X5_sums N S19 r20 247 (2 * (S19 1 260))) fun r23 S22 =>
                  some (r23, S22)
      else
        bd2 (f_X5_sums N S6 x1 (0 + (4 * x3)) 4) fun r26 S25 =>
          if (24 + x3) < 0 ∨ 261 ≤ (24 + x3).toNatClampNeg then none else
            b_X5_digest_32 N n S25 ((31 * r26) + (((S25 1 (24 + x3).toNatClampNeg) : Int32).toInt64)) (x3 + 1)
def b_X5_digest_6 (N : Nat) : Nat → ST → Int64 → Int32 → Option (Int64 × ST)
  | 0, _, _, _ => none
  | n + 1, S, x1, x3 =>
    if 4 ≤ x3 then
      b_X5_digest_32 N N S x1 0
    else
      bd2 (f_X5_counted N S x3) fun r4 S3 =>
        b_X5_digest_6 N n S3 ((31 * x1) + ((r4 : Int32).toInt64)) (x3 + 1)
def f_X5_digest (N : Nat) (S : ST) : Option (Int64 × ST) :=
  b_X5_digest_6 N N S 647 0
