def f12_in (mb : Nat) (x0 : Int64) (x2 : Int64) (x4 : Int64) (I : IT) (J : JT) : Option (Int32 × IT × JT) :=
  if (lg_cmp x0 x2) < 0 then
    some ((0 : Int32), I, J)
  else
    if 0 < (lg_cmp x0 x4) then
      some ((0 : Int32), I, J)
    else
      some ((1 : Int32), I, J)
def f12_isOf (mb : Nat) (x0 : Int32) (x1 : Int32) (I : IT) (J : JT) : Option (Int32 × IT × JT) :=
  if ((x0 >>> (x1 &&& 31)) &&& (1 : Int32)) = (1 : Int32) then
    some ((1 : Int32), I, J)
  else
    some ((0 : Int32), I, J)
def f12_four_L3 (N : Nat) (mb : Nat) (x1 : Int32) : Nat → Int32 → IT → JT → Option ((Unit) × IT × JT)
  | 0, _, _, _ => none
  | n + 1, x2, I, J =>
    if x2 < 0 then
      some ((), I, J)
    else
      yb_ck (inb (I mb 1) 400) fun _ =>
      yb_let (up2 I (mb + 1) (I mb 1).toNatClampNeg (vp_nar .byte ((x1 >>> (x2 &&& 31)).toInt8.toInt32))) fun I_3 =>
      yb_let (up2 I_3 mb 1 ((I_3 mb 1) + (1 : Int32))) fun I_4 =>
      yb_let (x2 + (-8 : Int32)) fun x2_5 =>
      f12_four_L3 N mb x1 n x2_5 I_4 J
def f12_four (N : Nat) (mb : Nat) (x1 : Int32) (I : IT) (J : JT) : Option (Unit × IT × JT) :=
  yb_b3 (f12_four_L3 N mb x1 N (24 : Int32) I J) fun q_6 I_7 J_8 =>
  some ((), I_7, J_8)
def f12_feed (N : Nat) (mb : Nat) (x1 : Int32) (x2 : Int32) (x3 : Int32) (x4 : Int32) (x5 : Int32) (I : IT) (J : JT) : Option (Int32 × IT × JT) :=
  if ((I mb 1) + (20 : Int32)) ≤ (400 : Int32) then
    yb_b3 (f12_four N mb x1 I J) fun r_2 I_3 J_4 =>
    yb_b3 (f12_four N mb x2 I_3 J_4) fun r_6 I_7 J_8 =>
    yb_b3 (f12_four N mb x3 I_7 J_8) fun r_10 I_11 J_12 =>
    yb_b3 (f12_four N mb x4 I_11 J_12) fun r_14 I_15 J_16 =>
    yb_b3 (f12_four N mb x5 I_15 J_16) fun r_18 I_19 J_20 =>
    some ((I_19 mb 1), I_19, J_20)
  else
    some ((-1 : Int32), I, J)
def f12_end (mb : Nat) (x1 : Int32) (I : IT) (J : JT) : Option (Int32 × IT × JT) :=
  if x1 < 0 then
    some ((-1 : Int32), I, J)
  else
    if x1 ≤ (I mb 1) then
      yb_let (up2 I mb 1 x1) fun I_3 =>
      some (x1, I_3, J)
    else
      some ((-1 : Int32), I, J)
def f12_fails (mb : Nat) (x1 : Int32) (x2 : Int32) (I : IT) (J : JT) : Option (Int32 × IT × JT) :=
  if (I mb 9) = 0 then
    yb_let (up2 I mb 9 (((1 : Int32) + ((8 : Int32) * x2)) + x1)) fun I_2 =>
    some ((0 : Int32), I_2, J)
  else
    some ((0 : Int32), I, J)
def f12_see_L0 (N : Nat) (mb : Nat) : Nat → IT → JT → Option ((Unit) × IT × JT)
  | 0, _, _ => none
  | n + 1, I, J =>
    if (I mb 1) ≤ (I mb 8) then
      some ((), I, J)
    else
      yb_ck (inb (I mb 8) 400) fun _ =>
      if (I (mb + 1) (I mb 8).toNatClampNeg) = (32 : Int32) then
        yb_let (up2 I mb 8 ((I mb 8) + (1 : Int32))) fun I_4 =>
        f12_see_L0 N mb n  I_4 J
      else
        some ((), I, J)
def f12_see (N : Nat) (mb : Nat) (I : IT) (J : JT) : Option (Int32 × IT × JT) :=
  yb_b3 (f12_see_L0 N mb N  I J) fun q_5 I_6 J_7 =>
  if (I_6 mb 1) ≤ (I_6 mb 8) then
    some ((-1 : Int32), I_6, J_7)
  else
    yb_ck (inb (I_6 mb 8) 400) fun _ =>
    some (((I_6 (mb + 1) (I_6 mb 8).toNatClampNeg) &&& (255 : Int32)), I_6, J_7)
def f12_isDigit (mb : Nat) (x1 : Int32) (I : IT) (J : JT) : Option (Int32 × IT × JT) :=
  if (I mb 1) ≤ x1 then
    some ((0 : Int32), I, J)
  else
    yb_ck (inb x1 400) fun _ =>
    if (I (mb + 1) x1.toNatClampNeg) < (48 : Int32) then
      some ((0 : Int32), I, J)
    else
      if (57 : Int32) < (I (mb + 1) x1.toNatClampNeg) then
        some ((0 : Int32), I, J)
      else
        some ((1 : Int32), I, J)
def f12_isLetter (mb : Nat) (x1 : Int32) (I : IT) (J : JT) : Option (Int32 × IT × JT) :=
  if (I mb 1) ≤ x1 then
    some ((0 : Int32), I, J)
  else
    yb_ck (inb x1 400) fun _ =>
    if (I (mb + 1) x1.toNatClampNeg) < (97 : Int32) then
      some ((0 : Int32), I, J)
    else
      if (122 : Int32) < (I (mb + 1) x1.toNatClampNeg) then
        some ((0 : Int32), I, J)
      else
        some ((1 : Int32), I, J)
def f12_isWord_L10 (N : Nat) (mb : Nat) (x1 : Int64) : Nat → Int64 → Int32 → IT → JT → Option ((Int64 × Int32) × IT × JT)
  | 0, _, _, _, _ => none
  | n + 1, x3, x5, I, J =>
    yb_b3 (f12_isLetter mb ((I mb 8) + x5) I J) fun r_5 I_6 J_7 =>
    if r_5 = 0 then
      some ((x3, x5), I_6, J_7)
    else
      if (8 : Int32) ≤ x5 then
        yb_let (x5 + (1 : Int32)) fun x5_11 =>
        f12_isWord_L10 N mb x1 n x3 x5_11 I_6 J_7
      else
        yb_ck (inb ((I_6 mb 8) + x5) 400) fun _ =>
        yb_let ((x3 <<< ((8 : Int32).toInt64 &&& 63)) ||| ((I_6 (mb + 1) ((I_6 mb 8) + x5).toNatClampNeg).toInt64)) fun x3_13 =>
        yb_let (x5 + (1 : Int32)) fun x5_14 =>
        f12_isWord_L10 N mb x1 n x3_13 x5_14 I_6 J_7
def f12_isWord (N : Nat) (mb : Nat) (x1 : Int64) (I : IT) (J : JT) : Option (Int32 × IT × JT) :=
  yb_b3 (f12_see N mb  I J) fun r_1 I_2 J_3 =>
  yb_b3 (f12_isWord_L10 N mb x1 N (0 : Int64) (0 : Int32) I_2 J_3) fun q_15 I_16 J_17 =>
  if q_15.2 ≤ 0 then
    some ((0 : Int32), I_16, J_17)
  else
    if (9 : Int32) ≤ q_15.2 then
      some ((0 : Int32), I_16, J_17)
    else
      if (lg_cmp q_15.1 x1) = 0 then
        some ((1 : Int32), I_16, J_17)
      else
        some ((0 : Int32), I_16, J_17)
def f12_passWord_L0 (N : Nat) (mb : Nat) : Nat → IT → JT → Option ((Unit) × IT × JT)
  | 0, _, _ => none
  | n + 1, I, J =>
    yb_b3 (f12_isLetter mb (I mb 8) I J) fun r_1 I_2 J_3 =>
    if r_1 = 0 then
      some ((), I_2, J_3)
    else
      yb_let (up2 I_2 mb 8 ((I_2 mb 8) + (1 : Int32))) fun I_6 =>
      f12_passWord_L0 N mb n  I_6 J_3
def f12_passWord (N : Nat) (mb : Nat) (I : IT) (J : JT) : Option (Unit × IT × JT) :=
  yb_b3 (f12_passWord_L0 N mb N  I J) fun q_7 I_8 J_9 =>
  some ((), I_8, J_9)
def f12_takesWord (N : Nat) (mb : Nat) (x1 : Int64) (I : IT) (J : JT) : Option (Int32 × IT × JT) :=
  yb_b3 (f12_isWord N mb x1 I J) fun r_1 I_2 J_3 =>
  if r_1 = 0 then
    some ((0 : Int32), I_2, J_3)
  else
    yb_b3 (f12_passWord N mb  I_2 J_3) fun r_6 I_7 J_8 =>
    some ((1 : Int32), I_7, J_8)
def f12_numberHere_L34 (N : Nat) (mb : Nat) (x1 : Int32) (x2 : Int32) (x3 : Int32) : Nat → Int32 → IT → JT → Option ((Int32) × IT × JT)
  | 0, _, _, _ => none
  | n + 1, x4, I, J =>
    yb_b3 (f12_isDigit mb (I mb 8) I J) fun r_11 I_12 J_13 =>
    if r_11 = 0 then
      some (x4, I_12, J_13)
    else
      if (5 : Int32) ≤ ((I_12 mb 8) - x3) then
        yb_let (up2 I_12 mb 8 ((I_12 mb 8) + (1 : Int32))) fun I_17 =>
        f12_numberHere_L34 N mb x1 x2 x3 n x4 I_17 J_13
      else
        yb_ck (inb (I_12 mb 8) 400) fun _ =>
        yb_let ((((10 : Int32) * x4) + (I_12 (mb + 1) (I_12 mb 8).toNatClampNeg)) - (48 : Int32)) fun x4_19 =>
        yb_let (up2 I_12 mb 8 ((I_12 mb 8) + (1 : Int32))) fun I_20 =>
        f12_numberHere_L34 N mb x1 x2 x3 n x4_19 I_20 J_13
def f12_numberHere (N : Nat) (mb : Nat) (x1 : Int32) (x2 : Int32) (I : IT) (J : JT) : Option (Int32 × IT × JT) :=
  yb_b3 (f12_see N mb  I J) fun r_1 I_2 J_3 =>
  yb_b3 (f12_isDigit mb (I_2 mb 8) I_2 J_3) fun r_5 I_6 J_7 =>
  if r_5 = 0 then
    yb_b3 (f12_fails mb (0 : Int32) (I_6 mb 8) I_6 J_7) fun r_42 I_43 J_44 =>
    yb_ck (bz r_42) fun _ =>
    some (r_42, I_43, J_44)
  else
    yb_let (I_6 mb 8) fun x3_10 =>
    yb_b3 (f12_numberHere_L34 N mb x1 x2 x3_10 N (0 : Int32) I_6 J_7) fun q_21 I_22 J_23 =>
    yb_let (up2 I_22 mb 10 q_21) fun I_25 =>
    if (5 : Int32) < ((I_25 mb 8) - x3_10) then
      yb_b3 (f12_fails mb (1 : Int32) x3_10 I_25 J_23) fun r_27 I_28 J_29 =>
      if r_27 = 0 then
        some ((0 : Int32), I_28, J_29)
      else
        some ((1 : Int32), I_28, J_29)
    else
      yb_b3 (f12_in mb (q_21.toInt64) (x1.toInt64) (x2.toInt64) I_25 J_23) fun r_32 I_33 J_34 =>
      if r_32 = 0 then
        yb_b3 (f12_fails mb (1 : Int32) x3_10 I_33 J_34) fun r_37 I_38 J_39 =>
        if r_37 = 0 then
          some ((0 : Int32), I_38, J_39)
        else
          some ((1 : Int32), I_38, J_39)
      else
        some ((1 : Int32), I_33, J_34)
def f12_wordHere (N : Nat) (mb : Nat) (I : IT) (J : JT) : Option (Int32 × IT × JT) :=
  yb_b3 (f12_isWord N mb (457236047717 : Int64) I J) fun r_1 I_2 J_3 =>
  if r_1 = 0 then
    yb_b3 (f12_isWord N mb (7825780 : Int64) I_2 J_3) fun r_6 I_7 J_8 =>
    if r_6 = 0 then
      yb_b3 (f12_isWord N mb (6383461 : Int64) I_7 J_8) fun r_11 I_12 J_13 =>
      if r_11 = 0 then
        yb_b3 (f12_isWord N mb (126956639450227 : Int64) I_12 J_13) fun r_16 I_17 J_18 =>
        if r_16 = 0 then
          yb_b3 (f12_isWord N mb (27412351564342628 : Int64) I_17 J_18) fun r_21 I_22 J_23 =>
          if r_21 = 0 then
            yb_b3 (f12_isWord N mb (29117685525214329 : Int64) I_22 J_23) fun r_26 I_27 J_28 =>
            if r_26 = 0 then
              yb_b3 (f12_isWord N mb (119182899770472 : Int64) I_27 J_28) fun r_31 I_32 J_33 =>
              if r_31 = 0 then
                yb_b3 (f12_isWord N mb (478559888754 : Int64) I_32 J_33) fun r_36 I_37 J_38 =>
                if r_36 = 0 then
                  yb_b3 (f12_isWord N mb (6578553 : Int64) I_37 J_38) fun r_41 I_42 J_43 =>
                  if r_41 = 0 then
                    yb_b3 (f12_isWord N mb (491596309860 : Int64) I_42 J_43) fun r_46 I_47 J_48 =>
                    if r_46 = 0 then
                      yb_b3 (f12_isWord N mb (107135549923692 : Int64) I_47 J_48) fun r_51 I_52 J_53 =>
                      if r_51 = 0 then
                        yb_b3 (f12_isWord N mb (7091324932564738425 : Int64) I_52 J_53) fun r_56 I_57 J_58 =>
                        if r_56 = 0 then
                          some ((-1 : Int32), I_57, J_58)
                        else
                          some ((11 : Int32), I_57, J_58)
                      else
                        some ((10 : Int32), I_52, J_53)
                    else
                      some ((9 : Int32), I_47, J_48)
                  else
                    some ((8 : Int32), I_42, J_43)
                else
                  some ((7 : Int32), I_37, J_38)
              else
                some ((6 : Int32), I_32, J_33)
            else
              some ((5 : Int32), I_27, J_28)
          else
            some ((4 : Int32), I_22, J_23)
        else
          some ((3 : Int32), I_17, J_18)
      else
        some ((2 : Int32), I_12, J_13)
    else
      some ((1 : Int32), I_7, J_8)
  else
    some ((0 : Int32), I_2, J_3)
def f12_puts (mb : Nat) (x1 : Int32) (x2 : Int32) (I : IT) (J : JT) : Option (Unit × IT × JT) :=
  yb_ck (inb (I mb 11) 7) fun _ =>
  yb_ck (inb (((400 : Int32) * (I mb 11)) + (I (mb + 3) (I mb 11).toNatClampNeg)) 2400) fun _ =>
  yb_let (up2 I (mb + 2) (((400 : Int32) * (I mb 11)) + (I (mb + 3) (I mb 11).toNatClampNeg)).toNatClampNeg (x1 + ((16 : Int32) * x2))) fun I_3 =>
  yb_ck (inb (I_3 mb 11) 7) fun _ =>
  yb_let (up2 I_3 (mb + 3) (I_3 mb 11).toNatClampNeg ((I_3 (mb + 3) (I_3 mb 11).toNatClampNeg) + (1 : Int32))) fun I_5 =>
  some ((), I_5, J)
def f12_makes (mb : Nat) (x1 : Int32) (I : IT) (J : JT) : Option (Int32 × IT × JT) :=
  if (I mb 12) = (60 : Int32) then
    yb_b3 (f12_fails mb (3 : Int32) x1 I J) fun r_3 I_4 J_5 =>
    yb_ck (bz r_3) fun _ =>
    some (r_3, I_4, J_5)
  else
    yb_let (up2 I mb 12 ((I mb 12) + (1 : Int32))) fun I_2 =>
    some ((1 : Int32), I_2, J)
def f12_opens (mb : Nat) (x1 : Int32) (I : IT) (J : JT) : Option (Int32 × IT × JT) :=
  if (I mb 13) = (10 : Int32) then
    yb_b3 (f12_fails mb (2 : Int32) (I mb 8) I J) fun r_6 I_7 J_8 =>
    yb_ck (bz r_6) fun _ =>
    some (r_6, I_7, J_8)
  else
    yb_let (up2 I mb 13 ((I mb 13) + (1 : Int32))) fun I_2 =>
    yb_ck (inb (I_2 mb 16) 400) fun _ =>
    yb_let (up2 I_2 (mb + 7) (I_2 mb 16).toNatClampNeg x1) fun I_4 =>
    yb_let (up2 I_4 mb 16 ((I_4 mb 16) + (1 : Int32))) fun I_5 =>
    some ((1 : Int32), I_5, J)
def f12_strength (mb : Nat) (x0 : Int32) (I : IT) (J : JT) : Option (Int32 × IT × JT) :=
  if x0 = (13 : Int32) then
    some ((1 : Int32), I, J)
  else
    if x0 = (12 : Int32) then
      some ((2 : Int32), I, J)
    else
      if x0 = (11 : Int32) then
        some ((3 : Int32), I, J)
      else
        some ((0 : Int32), I, J)
def f12_settles_L0 (N : Nat) (mb : Nat) (x1 : Int32) : Nat → IT → JT → Option ((Unit) × IT × JT)
  | 0, _, _ => none
  | n + 1, I, J =>
    if (I mb 16) ≤ 0 then
      some ((), I, J)
    else
      yb_ck (inb ((I mb 16) - (1 : Int32)) 400) fun _ =>
      yb_b3 (f12_strength mb (I (mb + 7) ((I mb 16) - (1 : Int32)).toNatClampNeg) I J) fun r_3 I_4 J_5 =>
      if r_3 < x1 then
        some ((), I_4, J_5)
      else
        yb_let (up2 I_4 mb 16 ((I_4 mb 16) - (1 : Int32))) fun I_8 =>
        yb_ck (inb (I_8 mb 16) 400) fun _ =>
        yb_b3 (f12_puts mb (I_8 (mb + 7) (I_8 mb 16).toNatClampNeg) (0 : Int32) I_8 J_5) fun r_10 I_11 J_12 =>
        yb_ck (inb (I_11 mb 16) 400) fun _ =>
        if (I_11 (mb + 7) (I_11 mb 16).toNatClampNeg) = (11 : Int32) then
          yb_let (up2 I_11 mb 13 ((I_11 mb 13) - (1 : Int32))) fun I_16 =>
          f12_settles_L0 N mb x1 n  I_16 J_12
        else
          f12_settles_L0 N mb x1 n  I_11 J_12
def f12_settles (N : Nat) (mb : Nat) (x1 : Int32) (I : IT) (J : JT) : Option (Unit × IT × JT) :=
  yb_b3 (f12_settles_L0 N mb x1 N  I J) fun q_17 I_18 J_19 =>
  some ((), I_18, J_19)
def f12_value (N : Nat) (mb : Nat) (I : IT) (J : JT) : Option (Int32 × IT × JT) :=
  yb_b3 (f12_see N mb  I J) fun r_1 I_2 J_3 =>
  yb_let (I_2 mb 8) fun x1_5 =>
  yb_b3 (f12_isDigit mb (I_2 mb 8) I_2 J_3) fun r_6 I_7 J_8 =>
  if r_6 = 0 then
    yb_b3 (f12_wordHere N mb  I_7 J_8) fun r_11 I_12 J_13 =>
    if 0 ≤ r_11 then
      yb_b3 (f12_makes mb x1_5 I_12 J_13) fun r_16 I_17 J_18 =>
      if r_16 = 0 then
        some ((0 : Int32), I_17, J_18)
      else
        yb_b3 (f12_passWord N mb  I_17 J_18) fun r_21 I_22 J_23 =>
        yb_b3 (f12_puts mb (1 : Int32) r_11 I_22 J_23) fun r_25 I_26 J_27 =>
        some ((1 : Int32), I_26, J_27)
    else
      yb_b3 (f12_fails mb (0 : Int32) x1_5 I_12 J_13) fun r_29 I_30 J_31 =>
      yb_ck (bz r_29) fun _ =>
      some (r_29, I_30, J_31)
  else
    yb_b3 (f12_numberHere N mb (0 : Int32) (99999 : Int32) I_7 J_8) fun r_34 I_35 J_36 =>
    if r_34 = 0 then
      some ((0 : Int32), I_35, J_36)
    else
      yb_b3 (f12_makes mb x1_5 I_35 J_36) fun r_39 I_40 J_41 =>
      if r_39 = 0 then
        some ((0 : Int32), I_40, J_41)
      else
        yb_b3 (f12_puts mb (0 : Int32) (I_40 mb 10) I_40 J_41) fun r_44 I_45 J_46 =>
        some ((1 : Int32), I_45, J_46)
def f12_term_L9 (N : Nat) (mb : Nat) : Nat → IT → JT → Option ((Int32 ⊕ (Unit)) × IT × JT)
  | 0, _, _ => none
  | n + 1, I, J =>
    yb_b3 (f12_see N mb  I J) fun r_6 I_7 J_8 =>
    if r_6 = (42 : Int32) then
      yb_ck (inb (I_7 mb 8) 400) fun _ =>
      if (I_7 (mb + 1) (I_7 mb 8).toNatClampNeg) = (42 : Int32) then
        yb_let (up2 I_7 mb 8 ((I_7 mb 8) + (1 : Int32))) fun I_34 =>
        yb_b3 (f12_value N mb  I_34 J_8) fun r_35 I_36 J_37 =>
        if r_35 = 0 then
          some (Sum.inl (0 : Int32), I_36, J_37)
        else
          yb_b3 (f12_puts mb (4 : Int32) (0 : Int32) I_36 J_37) fun r_40 I_41 J_42 =>
          f12_term_L9 N mb n  I_41 J_42
      else
        if (I_7 (mb + 1) (I_7 mb 8).toNatClampNeg) = (47 : Int32) then
          yb_let (up2 I_7 mb 8 ((I_7 mb 8) + (1 : Int32))) fun I_24 =>
          yb_b3 (f12_value N mb  I_24 J_8) fun r_25 I_26 J_27 =>
          if r_25 = 0 then
            some (Sum.inl (0 : Int32), I_26, J_27)
          else
            yb_b3 (f12_puts mb (5 : Int32) (0 : Int32) I_26 J_27) fun r_30 I_31 J_32 =>
            f12_term_L9 N mb n  I_31 J_32
        else
          yb_let (up2 I_7 mb 8 ((I_7 mb 8) + (1 : Int32))) fun I_14 =>
          yb_b3 (f12_value N mb  I_14 J_8) fun r_15 I_16 J_17 =>
          if r_15 = 0 then
            some (Sum.inl (0 : Int32), I_16, J_17)
          else
            yb_b3 (f12_puts mb (14 : Int32) (0 : Int32) I_16 J_17) fun r_20 I_21 J_22 =>
            f12_term_L9 N mb n  I_21 J_22
    else
      yb_b3 (f12_see N mb  I_7 J_8) fun r_44 I_45 J_46 =>
      if r_44 = (47 : Int32) then
        yb_ck (inb (I_45 mb 8) 400) fun _ =>
        if (I_45 (mb + 1) (I_45 mb 8).toNatClampNeg) = (42 : Int32) then
          yb_let (up2 I_45 mb 8 ((I_45 mb 8) + (1 : Int32))) fun I_72 =>
          yb_b3 (f12_value N mb  I_72 J_46) fun r_73 I_74 J_75 =>
          if r_73 = 0 then
            some (Sum.inl (0 : Int32), I_74, J_75)
          else
            yb_b3 (f12_puts mb (4 : Int32) (0 : Int32) I_74 J_75) fun r_78 I_79 J_80 =>
            f12_term_L9 N mb n  I_79 J_80
        else
          if (I_45 (mb + 1) (I_45 mb 8).toNatClampNeg) = (47 : Int32) then
            yb_let (up2 I_45 mb 8 ((I_45 mb 8) + (1 : Int32))) fun I_62 =>
            yb_b3 (f12_value N mb  I_62 J_46) fun r_63 I_64 J_65 =>
            if r_63 = 0 then
              some (Sum.inl (0 : Int32), I_64, J_65)
            else
              yb_b3 (f12_puts mb (5 : Int32) (0 : Int32) I_64 J_65) fun r_68 I_69 J_70 =>
              f12_term_L9 N mb n  I_69 J_70
          else
            yb_let (up2 I_45 mb 8 ((I_45 mb 8) + (1 : Int32))) fun I_52 =>
            yb_b3 (f12_value N mb  I_52 J_46) fun r_53 I_54 J_55 =>
            if r_53 = 0 then
              some (Sum.inl (0 : Int32), I_54, J_55)
            else
              yb_b3 (f12_puts mb (14 : Int32) (0 : Int32) I_54 J_55) fun r_58 I_59 J_60 =>
              f12_term_L9 N mb n  I_59 J_60
      else
        yb_b3 (f12_see N mb  I_45 J_46) fun r_82 I_83 J_84 =>
        if r_82 = (37 : Int32) then
          yb_ck (inb (I_83 mb 8) 400) fun _ =>
          if (I_83 (mb + 1) (I_83 mb 8).toNatClampNeg) = (42 : Int32) then
            yb_let (up2 I_83 mb 8 ((I_83 mb 8) + (1 : Int32))) fun I_110 =>
            yb_b3 (f12_value N mb  I_110 J_84) fun r_111 I_112 J_113 =>
            if r_111 = 0 then
              some (Sum.inl (0 : Int32), I_112, J_113)
            else
              yb_b3 (f12_puts mb (4 : Int32) (0 : Int32) I_112 J_113) fun r_116 I_117 J_118 =>
              f12_term_L9 N mb n  I_117 J_118
          else
            if (I_83 (mb + 1) (I_83 mb 8).toNatClampNeg) = (47 : Int32) then
              yb_let (up2 I_83 mb 8 ((I_83 mb 8) + (1 : Int32))) fun I_100 =>
              yb_b3 (f12_value N mb  I_100 J_84) fun r_101 I_102 J_103 =>
              if r_101 = 0 then
                some (Sum.inl (0 : Int32), I_102, J_103)
              else
                yb_b3 (f12_puts mb (5 : Int32) (0 : Int32) I_102 J_103) fun r_106 I_107 J_108 =>
                f12_term_L9 N mb n  I_107 J_108
            else
              yb_let (up2 I_83 mb 8 ((I_83 mb 8) + (1 : Int32))) fun I_90 =>
              yb_b3 (f12_value N mb  I_90 J_84) fun r_91 I_92 J_93 =>
              if r_91 = 0 then
                some (Sum.inl (0 : Int32), I_92, J_93)
              else
                yb_b3 (f12_puts mb (14 : Int32) (0 : Int32) I_92 J_93) fun r_96 I_97 J_98 =>
                f12_term_L9 N mb n  I_97 J_98
        else
          some (Sum.inr (), I_83, J_84)
def f12_term (N : Nat) (mb : Nat) (I : IT) (J : JT) : Option (Int32 × IT × JT) :=
  yb_b3 (f12_value N mb  I J) fun r_1 I_2 J_3 =>
  if r_1 = 0 then
    some ((0 : Int32), I_2, J_3)
  else
    yb_b3 (f12_term_L9 N mb N  I_2 J_3) fun q_120 I_121 J_122 =>
    yb_sm q_120 (fun v_124 => some (v_124, I_121, J_122)) fun x_125 =>
    some ((1 : Int32), I_121, J_122)
def f12_sum_L9 (N : Nat) (mb : Nat) : Nat → IT → JT → Option ((Int32 ⊕ (Unit)) × IT × JT)
  | 0, _, _ => none
  | n + 1, I, J =>
    yb_b3 (f12_see N mb  I J) fun r_6 I_7 J_8 =>
    if r_6 = (43 : Int32) then
      yb_ck (inb (I_7 mb 8) 400) fun _ =>
      if (I_7 (mb + 1) (I_7 mb 8).toNatClampNeg) = (43 : Int32) then
        yb_let (up2 I_7 mb 8 ((I_7 mb 8) + (1 : Int32))) fun I_23 =>
        yb_b3 (f12_term N mb  I_23 J_8) fun r_24 I_25 J_26 =>
        if r_24 = 0 then
          some (Sum.inl (0 : Int32), I_25, J_26)
        else
          yb_b3 (f12_puts mb (2 : Int32) (0 : Int32) I_25 J_26) fun r_29 I_30 J_31 =>
          f12_sum_L9 N mb n  I_30 J_31
      else
        yb_let (up2 I_7 mb 8 ((I_7 mb 8) + (1 : Int32))) fun I_13 =>
        yb_b3 (f12_term N mb  I_13 J_8) fun r_14 I_15 J_16 =>
        if r_14 = 0 then
          some (Sum.inl (0 : Int32), I_15, J_16)
        else
          yb_b3 (f12_puts mb (3 : Int32) (0 : Int32) I_15 J_16) fun r_19 I_20 J_21 =>
          f12_sum_L9 N mb n  I_20 J_21
    else
      yb_b3 (f12_see N mb  I_7 J_8) fun r_33 I_34 J_35 =>
      if r_33 = (45 : Int32) then
        yb_ck (inb (I_34 mb 8) 400) fun _ =>
        if (I_34 (mb + 1) (I_34 mb 8).toNatClampNeg) = (43 : Int32) then
          yb_let (up2 I_34 mb 8 ((I_34 mb 8) + (1 : Int32))) fun I_50 =>
          yb_b3 (f12_term N mb  I_50 J_35) fun r_51 I_52 J_53 =>
          if r_51 = 0 then
            some (Sum.inl (0 : Int32), I_52, J_53)
          else
            yb_b3 (f12_puts mb (2 : Int32) (0 : Int32) I_52 J_53) fun r_56 I_57 J_58 =>
            f12_sum_L9 N mb n  I_57 J_58
        else
          yb_let (up2 I_34 mb 8 ((I_34 mb 8) + (1 : Int32))) fun I_40 =>
          yb_b3 (f12_term N mb  I_40 J_35) fun r_41 I_42 J_43 =>
          if r_41 = 0 then
            some (Sum.inl (0 : Int32), I_42, J_43)
          else
            yb_b3 (f12_puts mb (3 : Int32) (0 : Int32) I_42 J_43) fun r_46 I_47 J_48 =>
            f12_sum_L9 N mb n  I_47 J_48
      else
        some (Sum.inr (), I_34, J_35)
def f12_sum (N : Nat) (mb : Nat) (I : IT) (J : JT) : Option (Int32 × IT × JT) :=
  yb_b3 (f12_term N mb  I J) fun r_1 I_2 J_3 =>
  if r_1 = 0 then
    some ((0 : Int32), I_2, J_3)
  else
    yb_b3 (f12_sum_L9 N mb N  I_2 J_3) fun q_60 I_61 J_62 =>
    yb_sm q_60 (fun v_64 => some (v_64, I_61, J_62)) fun x_65 =>
    some ((1 : Int32), I_61, J_62)
def f12_compare (N : Nat) (mb : Nat) (I : IT) (J : JT) : Option (Int32 × IT × JT) :=
  yb_b3 (f12_sum N mb  I J) fun r_1 I_2 J_3 =>
  if r_1 = 0 then
    some ((0 : Int32), I_2, J_3)
  else
    yb_b3 (f12_see N mb  I_2 J_3) fun r_6 I_7 J_8 =>
    yb_let (I_7 mb 8) fun x2_10 =>
    if r_6 = (60 : Int32) then
      yb_let (up2 I_7 mb 8 ((I_7 mb 8) + (1 : Int32))) fun I_12 =>
      if r_6 = (61 : Int32) then
        yb_b3 (f12_makes mb x2_10 I_12 J_8) fun r_15 I_16 J_17 =>
        if r_15 = 0 then
          some ((0 : Int32), I_16, J_17)
        else
          if r_6 = (60 : Int32) then
            yb_b3 (f12_sum N mb  I_16 J_17) fun r_42 I_43 J_44 =>
            if r_42 = 0 then
              some ((0 : Int32), I_43, J_44)
            else
              yb_b3 (f12_puts mb ((6 : Int32) + (0 : Int32)) (0 : Int32) I_43 J_44) fun r_47 I_48 J_49 =>
              some ((1 : Int32), I_48, J_49)
          else
            if r_6 = (61 : Int32) then
              yb_b3 (f12_sum N mb  I_16 J_17) fun r_32 I_33 J_34 =>
              if r_32 = 0 then
                some ((0 : Int32), I_33, J_34)
              else
                yb_b3 (f12_puts mb ((6 : Int32) + (2 : Int32)) (0 : Int32) I_33 J_34) fun r_37 I_38 J_39 =>
                some ((1 : Int32), I_38, J_39)
            else
              yb_b3 (f12_sum N mb  I_16 J_17) fun r_23 I_24 J_25 =>
              if r_23 = 0 then
                some ((0 : Int32), I_24, J_25)
              else
                yb_b3 (f12_puts mb ((6 : Int32) + (4 : Int32)) (0 : Int32) I_24 J_25) fun r_28 I_29 J_30 =>
                some ((1 : Int32), I_29, J_30)
      else
        if (I_12 mb 1) ≤ (I_12 mb 8) then
          yb_b3 (f12_makes mb x2_10 I_12 J_8) fun r_53 I_54 J_55 =>
          if r_53 = 0 then
            some ((0 : Int32), I_54, J_55)
          else
            if r_6 = (60 : Int32) then
              yb_b3 (f12_sum N mb  I_54 J_55) fun r_80 I_81 J_82 =>
              if r_80 = 0 then
                some ((0 : Int32), I_81, J_82)
              else
                yb_b3 (f12_puts mb ((6 : Int32) + (0 : Int32)) (0 : Int32) I_81 J_82) fun r_85 I_86 J_87 =>
                some ((1 : Int32), I_86, J_87)
            else
              if r_6 = (61 : Int32) then
                yb_b3 (f12_sum N mb  I_54 J_55) fun r_70 I_71 J_72 =>
                if r_70 = 0 then
                  some ((0 : Int32), I_71, J_72)
                else
                  yb_b3 (f12_puts mb ((6 : Int32) + (2 : Int32)) (0 : Int32) I_71 J_72) fun r_75 I_76 J_77 =>
                  some ((1 : Int32), I_76, J_77)
              else
                yb_b3 (f12_sum N mb  I_54 J_55) fun r_61 I_62 J_63 =>
                if r_61 = 0 then
                  some ((0 : Int32), I_62, J_63)
                else
                  yb_b3 (f12_puts mb ((6 : Int32) + (4 : Int32)) (0 : Int32) I_62 J_63) fun r_66 I_67 J_68 =>
                  some ((1 : Int32), I_67, J_68)
        else
          yb_ck (inb (I_12 mb 8) 400) fun _ =>
          if (I_12 (mb + 1) (I_12 mb 8).toNatClampNeg) = (61 : Int32) then
            yb_let (up2 I_12 mb 8 ((I_12 mb 8) + (1 : Int32))) fun I_129 =>
            yb_b3 (f12_makes mb x2_10 I_129 J_8) fun r_130 I_131 J_132 =>
            if r_130 = 0 then
              some ((0 : Int32), I_131, J_132)
            else
              if r_6 = (60 : Int32) then
                yb_b3 (f12_sum N mb  I_131 J_132) fun r_157 I_158 J_159 =>
                if r_157 = 0 then
                  some ((0 : Int32), I_158, J_159)
                else
                  yb_b3 (f12_puts mb ((6 : Int32) + (1 : Int32)) (0 : Int32) I_158 J_159) fun r_162 I_163 J_164 =>
                  some ((1 : Int32), I_163, J_164)
              else
                if r_6 = (61 : Int32) then
                  yb_b3 (f12_sum N mb  I_131 J_132) fun r_147 I_148 J_149 =>
                  if r_147 = 0 then
                    some ((0 : Int32), I_148, J_149)
                  else
                    yb_b3 (f12_puts mb ((6 : Int32) + (2 : Int32)) (0 : Int32) I_148 J_149) fun r_152 I_153 J_154 =>
                    some ((1 : Int32), I_153, J_154)
                else
                  yb_b3 (f12_sum N mb  I_131 J_132) fun r_138 I_139 J_140 =>
                  if r_138 = 0 then
                    some ((0 : Int32), I_139, J_140)
                  else
                    yb_b3 (f12_puts mb ((6 : Int32) + (3 : Int32)) (0 : Int32) I_139 J_140) fun r_143 I_144 J_145 =>
                    some ((1 : Int32), I_144, J_145)
          else
            yb_b3 (f12_makes mb x2_10 I_12 J_8) fun r_92 I_93 J_94 =>
            if r_92 = 0 then
              some ((0 : Int32), I_93, J_94)
            else
              if r_6 = (60 : Int32) then
                yb_b3 (f12_sum N mb  I_93 J_94) fun r_119 I_120 J_121 =>
                if r_119 = 0 then
                  some ((0 : Int32), I_120, J_121)
                else
                  yb_b3 (f12_puts mb ((6 : Int32) + (0 : Int32)) (0 : Int32) I_120 J_121) fun r_124 I_125 J_126 =>
                  some ((1 : Int32), I_125, J_126)
              else
                if r_6 = (61 : Int32) then
                  yb_b3 (f12_sum N mb  I_93 J_94) fun r_109 I_110 J_111 =>
                  if r_109 = 0 then
                    some ((0 : Int32), I_110, J_111)
                  else
                    yb_b3 (f12_puts mb ((6 : Int32) + (2 : Int32)) (0 : Int32) I_110 J_111) fun r_114 I_115 J_116 =>
                    some ((1 : Int32), I_115, J_116)
                else
                  yb_b3 (f12_sum N mb  I_93 J_94) fun r_100 I_101 J_102 =>
                  if r_100 = 0 then
                    some ((0 : Int32), I_101, J_102)
                  else
                    yb_b3 (f12_puts mb ((6 : Int32) + (4 : Int32)) (0 : Int32) I_101 J_102) fun r_105 I_106 J_107 =>
                    some ((1 : Int32), I_106, J_107)
    else
      if r_6 = (61 : Int32) then
        yb_let (up2 I_7 mb 8 ((I_7 mb 8) + (1 : Int32))) fun I_167 =>
        if r_6 = (61 : Int32) then
          yb_b3 (f12_makes mb x2_10 I_167 J_8) fun r_170 I_171 J_172 =>
          if r_170 = 0 then
            some ((0 : Int32), I_171, J_172)
          else
            if r_6 = (60 : Int32) then
              yb_b3 (f12_sum N mb  I_171 J_172) fun r_197 I_198 J_199 =>
              if r_197 = 0 then
                some ((0 : Int32), I_198, J_199)
              else
                yb_b3 (f12_puts mb ((6 : Int32) + (0 : Int32)) (0 : Int32) I_198 J_199) fun r_202 I_203 J_204 =>
                some ((1 : Int32), I_203, J_204)
            else
              if r_6 = (61 : Int32) then
                yb_b3 (f12_sum N mb  I_171 J_172) fun r_187 I_188 J_189 =>
                if r_187 = 0 then
                  some ((0 : Int32), I_188, J_189)
                else
                  yb_b3 (f12_puts mb ((6 : Int32) + (2 : Int32)) (0 : Int32) I_188 J_189) fun r_192 I_193 J_194 =>
                  some ((1 : Int32), I_193, J_194)
              else
                yb_b3 (f12_sum N mb  I_171 J_172) fun r_178 I_179 J_180 =>
                if r_178 = 0 then
                  some ((0 : Int32), I_179, J_180)
                else
                  yb_b3 (f12_puts mb ((6 : Int32) + (4 : Int32)) (0 : Int32) I_179 J_180) fun r_183 I_184 J_185 =>
                  some ((1 : Int32), I_184, J_185)
        else
          if (I_167 mb 1) ≤ (I_167 mb 8) then
            yb_b3 (f12_makes mb x2_10 I_167 J_8) fun r_208 I_209 J_210 =>
            if r_208 = 0 then
              some ((0 : Int32), I_209, J_210)
            else
              if r_6 = (60 : Int32) then
                yb_b3 (f12_sum N mb  I_209 J_210) fun r_235 I_236 J_237 =>
                if r_235 = 0 then
                  some ((0 : Int32), I_236, J_237)
                else
                  yb_b3 (f12_puts mb ((6 : Int32) + (0 : Int32)) (0 : Int32) I_236 J_237) fun r_240 I_241 J_242 =>
                  some ((1 : Int32), I_241, J_242)
              else
                if r_6 = (61 : Int32) then
                  yb_b3 (f12_sum N mb  I_209 J_210) fun r_225 I_226 J_227 =>
                  if r_225 = 0 then
                    some ((0 : Int32), I_226, J_227)
                  else
                    yb_b3 (f12_puts mb ((6 : Int32) + (2 : Int32)) (0 : Int32) I_226 J_227) fun r_230 I_231 J_232 =>
                    some ((1 : Int32), I_231, J_232)
                else
                  yb_b3 (f12_sum N mb  I_209 J_210) fun r_216 I_217 J_218 =>
                  if r_216 = 0 then
                    some ((0 : Int32), I_217, J_218)
                  else
                    yb_b3 (f12_puts mb ((6 : Int32) + (4 : Int32)) (0 : Int32) I_217 J_218) fun r_221 I_222 J_223 =>
                    some ((1 : Int32), I_222, J_223)
          else
            yb_ck (inb (I_167 mb 8) 400) fun _ =>
            if (I_167 (mb + 1) (I_167 mb 8).toNatClampNeg) = (61 : Int32) then
              yb_let (up2 I_167 mb 8 ((I_167 mb 8) + (1 : Int32))) fun I_284 =>
              yb_b3 (f12_makes mb x2_10 I_284 J_8) fun r_285 I_286 J_287 =>
              if r_285 = 0 then
                some ((0 : Int32), I_286, J_287)
              else
                if r_6 = (60 : Int32) then
                  yb_b3 (f12_sum N mb  I_286 J_287) fun r_312 I_313 J_314 =>
                  if r_312 = 0 then
                    some ((0 : Int32), I_313, J_314)
                  else
                    yb_b3 (f12_puts mb ((6 : Int32) + (1 : Int32)) (0 : Int32) I_313 J_314) fun r_317 I_318 J_319 =>
                    some ((1 : Int32), I_318, J_319)
                else
                  if r_6 = (61 : Int32) then
                    yb_b3 (f12_sum N mb  I_286 J_287) fun r_302 I_303 J_304 =>
                    if r_302 = 0 then
                      some ((0 : Int32), I_303, J_304)
                    else
                      yb_b3 (f12_puts mb ((6 : Int32) + (2 : Int32)) (0 : Int32) I_303 J_304) fun r_307 I_308 J_309 =>
                      some ((1 : Int32), I_308, J_309)
                  else
                    yb_b3 (f12_sum N mb  I_286 J_287) fun r_293 I_294 J_295 =>
                    if r_293 = 0 then
                      some ((0 : Int32), I_294, J_295)
                    else
                      yb_b3 (f12_puts mb ((6 : Int32) + (3 : Int32)) (0 : Int32) I_294 J_295) fun r_298 I_299 J_300 =>
                      some ((1 : Int32), I_299, J_300)
            else
              yb_b3 (f12_makes mb x2_10 I_167 J_8) fun r_247 I_248 J_249 =>
              if r_247 = 0 then
                some ((0 : Int32), I_248, J_249)
              else
                if r_6 = (60 : Int32) then
                  yb_b3 (f12_sum N mb  I_248 J_249) fun r_274 I_275 J_276 =>
                  if r_274 = 0 then
                    some ((0 : Int32), I_275, J_276)
                  else
                    yb_b3 (f12_puts mb ((6 : Int32) + (0 : Int32)) (0 : Int32) I_275 J_276) fun r_279 I_280 J_281 =>
                    some ((1 : Int32), I_280, J_281)
                else
                  if r_6 = (61 : Int32) then
                    yb_b3 (f12_sum N mb  I_248 J_249) fun r_264 I_265 J_266 =>
                    if r_264 = 0 then
                      some ((0 : Int32), I_265, J_266)
                    else
                      yb_b3 (f12_puts mb ((6 : Int32) + (2 : Int32)) (0 : Int32) I_265 J_266) fun r_269 I_270 J_271 =>
                      some ((1 : Int32), I_270, J_271)
                  else
                    yb_b3 (f12_sum N mb  I_248 J_249) fun r_255 I_256 J_257 =>
                    if r_255 = 0 then
                      some ((0 : Int32), I_256, J_257)
                    else
                      yb_b3 (f12_puts mb ((6 : Int32) + (4 : Int32)) (0 : Int32) I_256 J_257) fun r_260 I_261 J_262 =>
                      some ((1 : Int32), I_261, J_262)
      else
        if r_6 = (62 : Int32) then
          yb_let (up2 I_7 mb 8 ((I_7 mb 8) + (1 : Int32))) fun I_322 =>
          if r_6 = (61 : Int32) then
            yb_b3 (f12_makes mb x2_10 I_322 J_8) fun r_325 I_326 J_327 =>
            if r_325 = 0 then
              some ((0 : Int32), I_326, J_327)
            else
              if r_6 = (60 : Int32) then
                yb_b3 (f12_sum N mb  I_326 J_327) fun r_352 I_353 J_354 =>
                if r_352 = 0 then
                  some ((0 : Int32), I_353, J_354)
                else
                  yb_b3 (f12_puts mb ((6 : Int32) + (0 : Int32)) (0 : Int32) I_353 J_354) fun r_357 I_358 J_359 =>
                  some ((1 : Int32), I_358, J_359)
              else
                if r_6 = (61 : Int32) then
                  yb_b3 (f12_sum N mb  I_326 J_327) fun r_342 I_343 J_344 =>
                  if r_342 = 0 then
                    some ((0 : Int32), I_343, J_344)
                  else
                    yb_b3 (f12_puts mb ((6 : Int32) + (2 : Int32)) (0 : Int32) I_343 J_344) fun r_347 I_348 J_349 =>
                    some ((1 : Int32), I_348, J_349)
                else
                  yb_b3 (f12_sum N mb  I_326 J_327) fun r_333 I_334 J_335 =>
                  if r_333 = 0 then
                    some ((0 : Int32), I_334, J_335)
                  else
                    yb_b3 (f12_puts mb ((6 : Int32) + (4 : Int32)) (0 : Int32) I_334 J_335) fun r_338 I_339 J_340 =>
                    some ((1 : Int32), I_339, J_340)
          else
            if (I_322 mb 1) ≤ (I_322 mb 8) then
              yb_b3 (f12_makes mb x2_10 I_322 J_8) fun r_363 I_364 J_365 =>
              if r_363 = 0 then
                some ((0 : Int32), I_364, J_365)
              else
                if r_6 = (60 : Int32) then
                  yb_b3 (f12_sum N mb  I_364 J_365) fun r_390 I_391 J_392 =>
                  if r_390 = 0 then
                    some ((0 : Int32), I_391, J_392)
                  else
                    yb_b3 (f12_puts mb ((6 : Int32) + (0 : Int32)) (0 : Int32) I_391 J_392) fun r_395 I_396 J_397 =>
                    some ((1 : Int32), I_396, J_397)
                else
                  if r_6 = (61 : Int32) then
                    yb_b3 (f12_sum N mb  I_364 J_365) fun r_380 I_381 J_382 =>
                    if r_380 = 0 then
                      some ((0 : Int32), I_381, J_382)
                    else
                      yb_b3 (f12_puts mb ((6 : Int32) + (2 : Int32)) (0 : Int32) I_381 J_382) fun r_385 I_386 J_387 =>
                      some ((1 : Int32), I_386, J_387)
                  else
                    yb_b3 (f12_sum N mb  I_364 J_365) fun r_371 I_372 J_373 =>
                    if r_371 = 0 then
                      some ((0 : Int32), I_372, J_373)
                    else
                      yb_b3 (f12_puts mb ((6 : Int32) + (4 : Int32)) (0 : Int32) I_372 J_373) fun r_376 I_377 J_378 =>
                      some ((1 : Int32), I_377, J_378)
            else
              yb_ck (inb (I_322 mb 8) 400) fun _ =>
              if (I_322 (mb + 1) (I_322 mb 8).toNatClampNeg) = (61 : Int32) then
                yb_let (up2 I_322 mb 8 ((I_322 mb 8) + (1 : Int32))) fun I_439 =>
                yb_b3 (f12_makes mb x2_10 I_439 J_8) fun r_440 I_441 J_442 =>
                if r_440 = 0 then
                  some ((0 : Int32), I_441, J_442)
                else
                  if r_6 = (60 : Int32) then
                    yb_b3 (f12_sum N mb  I_441 J_442) fun r_467 I_468 J_469 =>
                    if r_467 = 0 then
                      some ((0 : Int32), I_468, J_469)
                    else
                      yb_b3 (f12_puts mb ((6 : Int32) + (1 : Int32)) (0 : Int32) I_468 J_469) fun r_472 I_473 J_474 =>
                      some ((1 : Int32), I_473, J_474)
                  else
                    if r_6 = (61 : Int32) then
                      yb_b3 (f12_sum N mb  I_441 J_442) fun r_457 I_458 J_459 =>
                      if r_457 = 0 then
                        some ((0 : Int32), I_458, J_459)
                      else
                        yb_b3 (f12_puts mb ((6 : Int32) + (2 : Int32)) (0 : Int32) I_458 J_459) fun r_462 I_463 J_464 =>
                        some ((1 : Int32), I_463, J_464)
                    else
                      yb_b3 (f12_sum N mb  I_441 J_442) fun r_448 I_449 J_450 =>
                      if r_448 = 0 then
                        some ((0 : Int32), I_449, J_450)
                      else
                        yb_b3 (f12_puts mb ((6 : Int32) + (3 : Int32)) (0 : Int32) I_449 J_450) fun r_453 I_454 J_455 =>
                        some ((1 : Int32), I_454, J_455)
              else
                yb_b3 (f12_makes mb x2_10 I_322 J_8) fun r_402 I_403 J_404 =>
                if r_402 = 0 then
                  some ((0 : Int32), I_403, J_404)
                else
                  if r_6 = (60 : Int32) then
                    yb_b3 (f12_sum N mb  I_403 J_404) fun r_429 I_430 J_431 =>
                    if r_429 = 0 then
                      some ((0 : Int32), I_430, J_431)
                    else
                      yb_b3 (f12_puts mb ((6 : Int32) + (0 : Int32)) (0 : Int32) I_430 J_431) fun r_434 I_435 J_436 =>
                      some ((1 : Int32), I_435, J_436)
                  else
                    if r_6 = (61 : Int32) then
                      yb_b3 (f12_sum N mb  I_403 J_404) fun r_419 I_420 J_421 =>
                      if r_419 = 0 then
                        some ((0 : Int32), I_420, J_421)
                      else
                        yb_b3 (f12_puts mb ((6 : Int32) + (2 : Int32)) (0 : Int32) I_420 J_421) fun r_424 I_425 J_426 =>
                        some ((1 : Int32), I_425, J_426)
                    else
                      yb_b3 (f12_sum N mb  I_403 J_404) fun r_410 I_411 J_412 =>
                      if r_410 = 0 then
                        some ((0 : Int32), I_411, J_412)
                      else
                        yb_b3 (f12_puts mb ((6 : Int32) + (4 : Int32)) (0 : Int32) I_411 J_412) fun r_415 I_416 J_417 =>
                        some ((1 : Int32), I_416, J_417)
        else
          yb_b3 (f12_fails mb (0 : Int32) x2_10 I_7 J_8) fun r_476 I_477 J_478 =>
          yb_ck (bz r_476) fun _ =>
          some (r_476, I_477, J_478)
def f12_fact_L2 (N : Nat) (mb : Nat) : Nat → Int32 → IT → JT → Option ((Int32 ⊕ (Unit)) × IT × JT)
  | 0, _, _, _ => none
  | n + 1, x1, I, J =>
    if x1 = 0 then
      some (Sum.inr (), I, J)
    else
      yb_b3 (f12_see N mb  I J) fun r_2 I_3 J_4 =>
      yb_b3 (f12_isWord N mb (7237492 : Int64) I_3 J_4) fun r_6 I_7 J_8 =>
      if r_6 = 0 then
        if r_2 = (91 : Int32) then
          yb_b3 (f12_opens mb (91 : Int32) I_7 J_8) fun r_12 I_13 J_14 =>
          if r_12 = 0 then
            some (Sum.inl (0 : Int32), I_13, J_14)
          else
            yb_let (up2 I_13 mb 8 ((I_13 mb 8) + (1 : Int32))) fun I_17 =>
            f12_fact_L2 N mb n (1 : Int32) I_17 J_14
        else
          f12_fact_L2 N mb n (0 : Int32) I_7 J_8
      else
        yb_b3 (f12_opens mb (11 : Int32) I_7 J_8) fun r_18 I_19 J_20 =>
        if r_18 = 0 then
          some (Sum.inl (0 : Int32), I_19, J_20)
        else
          yb_b3 (f12_passWord N mb  I_19 J_20) fun r_23 I_24 J_25 =>
          f12_fact_L2 N mb n (1 : Int32) I_24 J_25
def f12_fact (N : Nat) (mb : Nat) (I : IT) (J : JT) : Option (Int32 × IT × JT) :=
  yb_b3 (f12_fact_L2 N mb N (1 : Int32) I J) fun q_27 I_28 J_29 =>
  yb_sm q_27 (fun v_31 => some (v_31, I_28, J_29)) fun x_32 =>
  yb_b3 (f12_compare N mb  I_28 J_29) fun r_33 I_34 J_35 =>
  yb_ck (bz r_33) fun _ =>
  some (r_33, I_34, J_35)
def f12_isInside_L2 (N : Nat) (mb : Nat) : Nat → Int32 → IT → JT → Option ((Int32 ⊕ (Unit)) × IT × JT)
  | 0, _, _, _ => none
  | n + 1, x1, I, J =>
    if (I mb 16) ≤ x1 then
      some (Sum.inr (), I, J)
    else
      yb_ck (inb x1 400) fun _ =>
      if (I (mb + 7) x1.toNatClampNeg) = (91 : Int32) then
        some (Sum.inl (1 : Int32), I, J)
      else
        yb_let (x1 + (1 : Int32)) fun x1_4 =>
        f12_isInside_L2 N mb n x1_4 I J
def f12_isInside (N : Nat) (mb : Nat) (I : IT) (J : JT) : Option (Int32 × IT × JT) :=
  yb_b3 (f12_isInside_L2 N mb N (0 : Int32) I J) fun q_5 I_6 J_7 =>
  yb_sm q_5 (fun v_9 => some (v_9, I_6, J_7)) fun x_10 =>
  some ((0 : Int32), I_6, J_7)
def f12_closes_L5 (N : Nat) (mb : Nat) : Nat → IT → JT → Option ((Unit) × IT × JT)
  | 0, _, _ => none
  | n + 1, I, J =>
    yb_b3 (f12_see N mb  I J) fun r_5 I_6 J_7 =>
    if r_5 = (93 : Int32) then
      yb_b3 (f12_isInside N mb  I_6 J_7) fun r_10 I_11 J_12 =>
      if r_10 = 0 then
        some ((), I_11, J_12)
      else
        yb_b3 (f12_settles N mb (1 : Int32) I_11 J_12) fun r_15 I_16 J_17 =>
        yb_let (up2 I_16 mb 16 ((I_16 mb 16) - (1 : Int32))) fun I_19 =>
        yb_let (up2 I_19 mb 13 ((I_19 mb 13) - (1 : Int32))) fun I_20 =>
        yb_let (up2 I_20 mb 8 ((I_20 mb 8) + (1 : Int32))) fun I_21 =>
        yb_b3 (f12_settles N mb (3 : Int32) I_21 J_17) fun r_22 I_23 J_24 =>
        f12_closes_L5 N mb n  I_23 J_24
    else
      some ((), I_6, J_7)
def f12_closes (N : Nat) (mb : Nat) (I : IT) (J : JT) : Option (Unit × IT × JT) :=
  yb_b3 (f12_settles N mb (3 : Int32) I J) fun r_1 I_2 J_3 =>
  yb_b3 (f12_closes_L5 N mb N  I_2 J_3) fun q_26 I_27 J_28 =>
  some ((), I_27, J_28)
def f12_tested_L12 (N : Nat) (mb : Nat) : Nat → Int32 → IT → JT → Option ((Int32 ⊕ (Unit)) × IT × JT)
  | 0, _, _, _ => none
  | n + 1, x1, I, J =>
    if x1 = 0 then
      some (Sum.inr (), I, J)
    else
      yb_b3 (f12_fact N mb  I J) fun r_4 I_5 J_6 =>
      if r_4 = 0 then
        some (Sum.inl (0 : Int32), I_5, J_6)
      else
        yb_b3 (f12_closes N mb  I_5 J_6) fun r_9 I_10 J_11 =>
        yb_b3 (f12_isWord N mb (6385252 : Int64) I_10 J_11) fun r_13 I_14 J_15 =>
        if r_13 = 0 then
          yb_b3 (f12_isWord N mb (28530 : Int64) I_14 J_15) fun r_54 I_55 J_56 =>
          if r_54 = 0 then
            f12_tested_L12 N mb n (0 : Int32) I_55 J_56
          else
            yb_b3 (f12_isWord N mb (6385252 : Int64) I_55 J_56) fun r_61 I_62 J_63 =>
            if r_61 = 0 then
              yb_b3 (f12_passWord N mb  I_62 J_63) fun r_66 I_67 J_68 =>
              yb_b3 (f12_strength mb (13 : Int32) I_67 J_68) fun r_70 I_71 J_72 =>
              yb_b3 (f12_settles N mb r_70 I_71 J_72) fun r_74 I_75 J_76 =>
              yb_ck (inb (I_75 mb 16) 400) fun _ =>
              yb_let (up2 I_75 (mb + 7) (I_75 mb 16).toNatClampNeg (13 : Int32)) fun I_79 =>
              yb_let (up2 I_79 mb 16 ((I_79 mb 16) + (1 : Int32))) fun I_80 =>
              f12_tested_L12 N mb n (1 : Int32) I_80 J_76
            else
              yb_b3 (f12_passWord N mb  I_62 J_63) fun r_81 I_82 J_83 =>
              yb_b3 (f12_strength mb (12 : Int32) I_82 J_83) fun r_85 I_86 J_87 =>
              yb_b3 (f12_settles N mb r_85 I_86 J_87) fun r_89 I_90 J_91 =>
              yb_ck (inb (I_90 mb 16) 400) fun _ =>
              yb_let (up2 I_90 (mb + 7) (I_90 mb 16).toNatClampNeg (12 : Int32)) fun I_94 =>
              yb_let (up2 I_94 mb 16 ((I_94 mb 16) + (1 : Int32))) fun I_95 =>
              f12_tested_L12 N mb n (1 : Int32) I_95 J_91
        else
          yb_b3 (f12_isWord N mb (6385252 : Int64) I_14 J_15) fun r_19 I_20 J_21 =>
          if r_19 = 0 then
            yb_b3 (f12_passWord N mb  I_20 J_21) fun r_24 I_25 J_26 =>
            yb_b3 (f12_strength mb (13 : Int32) I_25 J_26) fun r_28 I_29 J_30 =>
            yb_b3 (f12_settles N mb r_28 I_29 J_30) fun r_32 I_33 J_34 =>
            yb_ck (inb (I_33 mb 16) 400) fun _ =>
            yb_let (up2 I_33 (mb + 7) (I_33 mb 16).toNatClampNeg (13 : Int32)) fun I_37 =>
            yb_let (up2 I_37 mb 16 ((I_37 mb 16) + (1 : Int32))) fun I_38 =>
            f12_tested_L12 N mb n (1 : Int32) I_38 J_34
          else
            yb_b3 (f12_passWord N mb  I_20 J_21) fun r_39 I_40 J_41 =>
            yb_b3 (f12_strength mb (12 : Int32) I_40 J_41) fun r_43 I_44 J_45 =>
            yb_b3 (f12_settles N mb r_43 I_44 J_45) fun r_47 I_48 J_49 =>
            yb_ck (inb (I_48 mb 16) 400) fun _ =>
            yb_let (up2 I_48 (mb + 7) (I_48 mb 16).toNatClampNeg (12 : Int32)) fun I_52 =>
            yb_let (up2 I_52 mb 16 ((I_52 mb 16) + (1 : Int32))) fun I_53 =>
            f12_tested_L12 N mb n (1 : Int32) I_53 J_49
def f12_tested (N : Nat) (mb : Nat) (I : IT) (J : JT) : Option (Int32 × IT × JT) :=
  yb_let (up2 I mb 16 (0 : Int32)) fun I_1 =>
  yb_let (up2 I_1 mb 13 (0 : Int32)) fun I_2 =>
  yb_b3 (f12_tested_L12 N mb N (1 : Int32) I_2 J) fun q_96 I_97 J_98 =>
  yb_sm q_96 (fun v_100 => some (v_100, I_97, J_98)) fun x_101 =>
  yb_b3 (f12_isInside N mb  I_97 J_98) fun r_102 I_103 J_104 =>
  if r_102 = 0 then
    yb_b3 (f12_settles N mb (1 : Int32) I_103 J_104) fun r_107 I_108 J_109 =>
    some ((1 : Int32), I_108, J_109)
  else
    yb_b3 (f12_see N mb  I_103 J_104) fun r_111 I_112 J_113 =>
    yb_b3 (f12_fails mb (0 : Int32) (I_112 mb 8) I_112 J_113) fun r_115 I_116 J_117 =>
    yb_ck (bz r_115) fun _ =>
    some (r_115, I_116, J_117)
def f12_isRightHere (N : Nat) (mb : Nat) (I : IT) (J : JT) : Option (Int32 × IT × JT) :=
  yb_b3 (f12_passWord N mb  I J) fun r_1 I_2 J_3 =>
  yb_ck (inb (I_2 mb 11) 6) fun _ =>
  yb_let (((48 : Int32) * (I_2 mb 11)) + ((4 : Int32) * (I_2 (mb + 5) (I_2 mb 11).toNatClampNeg))) fun x1_6 =>
  yb_ck (inb (I_2 mb 11) 7) fun _ =>
  yb_ck (inb x1_6 288) fun _ =>
  yb_let (up2 I_2 (mb + 4) x1_6.toNatClampNeg (I_2 (mb + 3) (I_2 mb 11).toNatClampNeg)) fun I_9 =>
  yb_b3 (f12_sum N mb  I_9 J_3) fun r_10 I_11 J_12 =>
  if r_10 = 0 then
    some ((0 : Int32), I_11, J_12)
  else
    yb_ck (inb (I_11 mb 11) 7) fun _ =>
    yb_ck (inb (x1_6 + (1 : Int32)) 288) fun _ =>
    yb_let (up2 I_11 (mb + 4) (x1_6 + (1 : Int32)).toNatClampNeg (I_11 (mb + 3) (I_11 mb 11).toNatClampNeg)) fun I_17 =>
    yb_ck (inb (x1_6 + (2 : Int32)) 288) fun _ =>
    yb_let (up2 I_17 (mb + 4) (x1_6 + (2 : Int32)).toNatClampNeg (-1 : Int32)) fun I_19 =>
    yb_b3 (f12_takesWord N mb (26982 : Int64) I_19 J_12) fun r_20 I_21 J_22 =>
    if r_20 = 0 then
      yb_ck (inb (I_21 mb 11) 7) fun _ =>
      yb_ck (inb (x1_6 + (3 : Int32)) 288) fun _ =>
      yb_let (up2 I_21 (mb + 4) (x1_6 + (3 : Int32)).toNatClampNeg (I_21 (mb + 3) (I_21 mb 11).toNatClampNeg)) fun I_27 =>
      yb_ck (inb (I_27 mb 11) 6) fun _ =>
      yb_let (up2 I_27 (mb + 5) (I_27 mb 11).toNatClampNeg ((I_27 (mb + 5) (I_27 mb 11).toNatClampNeg) + (1 : Int32))) fun I_29 =>
      some ((1 : Int32), I_29, J_22)
    else
      yb_ck (inb (I_21 mb 11) 7) fun _ =>
      yb_let (up2 I_21 (mb + 4) (x1_6 + (2 : Int32)).toNatClampNeg (I_21 (mb + 3) (I_21 mb 11).toNatClampNeg)) fun I_31 =>
      yb_b3 (f12_tested N mb  I_31 J_22) fun r_32 I_33 J_34 =>
      if r_32 = 0 then
        some ((0 : Int32), I_33, J_34)
      else
        yb_ck (inb (I_33 mb 11) 7) fun _ =>
        yb_ck (inb (x1_6 + (3 : Int32)) 288) fun _ =>
        yb_let (up2 I_33 (mb + 4) (x1_6 + (3 : Int32)).toNatClampNeg (I_33 (mb + 3) (I_33 mb 11).toNatClampNeg)) fun I_39 =>
        yb_ck (inb (I_39 mb 11) 6) fun _ =>
        yb_let (up2 I_39 (mb + 5) (I_39 mb 11).toNatClampNeg ((I_39 (mb + 5) (I_39 mb 11).toNatClampNeg) + (1 : Int32))) fun I_41 =>
        some ((1 : Int32), I_41, J_34)
def f12_cellHere (N : Nat) (mb : Nat) (x1 : Int32) (x2 : Int32) (x3 : Int32) (I : IT) (J : JT) : Option (Int32 × IT × JT) :=
  yb_b3 (f12_numberHere N mb x2 x3 I J) fun r_1 I_2 J_3 =>
  if r_1 = 0 then
    some ((0 : Int32), I_2, J_3)
  else
    yb_ck (inb x1 111) fun _ =>
    yb_let (up2 I_2 (mb + 6) x1.toNatClampNeg (I_2 mb 10)) fun I_7 =>
    some ((1 : Int32), I_7, J_3)
def f12_isTownHere (N : Nat) (mb : Nat) (x1 : Int32) (I : IT) (J : JT) : Option (Int32 × IT × JT) :=
  if (I (mb + 6) 0) ≤ 0 then
    yb_b3 (f12_passWord N mb  I J) fun r_2 I_3 J_4 =>
    yb_b3 (f12_numberHere N mb (1 : Int32) (99 : Int32) I_3 J_4) fun r_6 I_7 J_8 =>
    if r_6 = 0 then
      some ((0 : Int32), I_7, J_8)
    else
      yb_let (I_7 mb 10) fun x2_11 =>
      yb_b3 (f12_cellHere N mb (1 : Int32) (5 : Int32) (99 : Int32) I_7 J_8) fun r_12 I_13 J_14 =>
      if r_12 = 0 then
        some ((0 : Int32), I_13, J_14)
      else
        yb_let (up2 I_13 (mb + 6) 0 x2_11) fun I_17 =>
        some ((1 : Int32), I_17, J_14)
  else
    yb_b3 (f12_fails mb (4 : Int32) x1 I J) fun r_18 I_19 J_20 =>
    yb_ck (bz r_18) fun _ =>
    some (r_18, I_19, J_20)
def f12_isBenchHere (N : Nat) (mb : Nat) (x1 : Int32) (I : IT) (J : JT) : Option (Int32 × IT × JT) :=
  if (I (mb + 6) 5) < 0 then
    yb_b3 (f12_passWord N mb  I J) fun r_2 I_3 J_4 =>
    yb_b3 (f12_cellHere N mb (5 : Int32) (0 : Int32) (9999 : Int32) I_3 J_4) fun r_6 I_7 J_8 =>
    if r_6 = 0 then
      some ((0 : Int32), I_7, J_8)
    else
      yb_b3 (f12_cellHere N mb (6 : Int32) (I_7 (mb + 6) 5) (9999 : Int32) I_7 J_8) fun r_11 I_12 J_13 =>
      if r_11 = 0 then
        some ((0 : Int32), I_12, J_13)
      else
        some ((1 : Int32), I_12, J_13)
  else
    yb_b3 (f12_fails mb (4 : Int32) x1 I J) fun r_16 I_17 J_18 =>
    yb_ck (bz r_16) fun _ =>
    some (r_16, I_17, J_18)
def f12_isPersonHere (N : Nat) (mb : Nat) (x1 : Int32) (I : IT) (J : JT) : Option (Int32 × IT × JT) :=
  if (I (mb + 6) 2) = (7 : Int32) then
    yb_b3 (f12_fails mb (4 : Int32) x1 I J) fun r_27 I_28 J_29 =>
    yb_ck (bz r_27) fun _ =>
    some (r_27, I_28, J_29)
  else
    yb_b3 (f12_passWord N mb  I J) fun r_2 I_3 J_4 =>
    yb_let ((10 : Int32) + ((5 : Int32) * (I_3 (mb + 6) 2))) fun x2_6 =>
    yb_b3 (f12_cellHere N mb x2_6 (0 : Int32) (9999 : Int32) I_3 J_4) fun r_7 I_8 J_9 =>
    if r_7 = 0 then
      some ((0 : Int32), I_8, J_9)
    else
      yb_b3 (f12_cellHere N mb (x2_6 + (1 : Int32)) (0 : Int32) (9 : Int32) I_8 J_9) fun r_12 I_13 J_14 =>
      if r_12 = 0 then
        some ((0 : Int32), I_13, J_14)
      else
        yb_b3 (f12_cellHere N mb (x2_6 + (2 : Int32)) (0 : Int32) (9 : Int32) I_13 J_14) fun r_17 I_18 J_19 =>
        if r_17 = 0 then
          some ((0 : Int32), I_18, J_19)
        else
          yb_ck (inb (x2_6 + (3 : Int32)) 111) fun _ =>
          yb_let (up2 I_18 (mb + 6) (x2_6 + (3 : Int32)).toNatClampNeg (0 : Int32)) fun I_23 =>
          yb_ck (inb (x2_6 + (4 : Int32)) 111) fun _ =>
          yb_let (up2 I_23 (mb + 6) (x2_6 + (4 : Int32)).toNatClampNeg (0 : Int32)) fun I_25 =>
          yb_let (up2 I_25 (mb + 6) 2 ((I_25 (mb + 6) 2) + (1 : Int32))) fun I_26 =>
          some ((1 : Int32), I_26, J_19)
def f12_areTwinsHere (N : Nat) (mb : Nat) (x1 : Int32) (I : IT) (J : JT) : Option (Int32 × IT × JT) :=
  if (I (mb + 6) 7) = (4 : Int32) then
    yb_b3 (f12_fails mb (4 : Int32) x1 I J) fun r_33 I_34 J_35 =>
    yb_ck (bz r_33) fun _ =>
    some (r_33, I_34, J_35)
  else
    yb_b3 (f12_passWord N mb  I J) fun r_2 I_3 J_4 =>
    yb_b3 (f12_numberHere N mb (0 : Int32) ((I_3 (mb + 6) 2) - (1 : Int32)) I_3 J_4) fun r_6 I_7 J_8 =>
    if r_6 = 0 then
      some ((0 : Int32), I_7, J_8)
    else
      yb_let (I_7 mb 10) fun x2_11 =>
      yb_b3 (f12_see N mb  I_7 J_8) fun r_12 I_13 J_14 =>
      yb_let (I_13 mb 8) fun x3_16 =>
      yb_b3 (f12_numberHere N mb (0 : Int32) ((I_13 (mb + 6) 2) - (1 : Int32)) I_13 J_14) fun r_17 I_18 J_19 =>
      if r_17 = 0 then
        some ((0 : Int32), I_18, J_19)
      else
        if (I_18 mb 10) = x2_11 then
          yb_b3 (f12_fails mb (1 : Int32) x3_16 I_18 J_19) fun r_28 I_29 J_30 =>
          yb_ck (bz r_28) fun _ =>
          some (r_28, I_29, J_30)
        else
          yb_ck (inb (((10 : Int32) + ((5 : Int32) * x2_11)) + (3 : Int32)) 111) fun _ =>
          yb_let (up2 I_18 (mb + 6) (((10 : Int32) + ((5 : Int32) * x2_11)) + (3 : Int32)).toNatClampNeg ((I_18 (mb + 6) (((10 : Int32) + ((5 : Int32) * x2_11)) + (3 : Int32)).toNatClampNeg) ||| ((1 : Int32) <<< ((I_18 mb 10) &&& 31)))) fun I_24 =>
          yb_ck (inb (((10 : Int32) + ((5 : Int32) * (I_24 mb 10))) + (3 : Int32)) 111) fun _ =>
          yb_let (up2 I_24 (mb + 6) (((10 : Int32) + ((5 : Int32) * (I_24 mb 10))) + (3 : Int32)).toNatClampNeg ((I_24 (mb + 6) (((10 : Int32) + ((5 : Int32) * (I_24 mb 10))) + (3 : Int32)).toNatClampNeg) ||| ((1 : Int32) <<< (x2_11 &&& 31)))) fun I_26 =>
          yb_let (up2 I_26 (mb + 6) 7 ((I_26 (mb + 6) 7) + (1 : Int32))) fun I_27 =>
          some ((1 : Int32), I_27, J_19)
def f12_isCaseHere_L95 (N : Nat) (mb : Nat) (x2 : Int32) : Nat → Int32 → IT → JT → Option ((Unit) × IT × JT)
  | 0, _, _, _ => none
  | n + 1, x3, I, J =>
    if (11 : Int32) ≤ x3 then
      some ((), I, J)
    else
      if x3 = (5 : Int32) then
        yb_ck (inb (x2 + x3) 111) fun _ =>
        yb_let (up2 I (mb + 6) (x2 + x3).toNatClampNeg (0 : Int32)) fun I_30 =>
        yb_let (x3 + (1 : Int32)) fun x3_31 =>
        f12_isCaseHere_L95 N mb x2 n x3_31 I_30 J
      else
        if x3 = (9 : Int32) then
          yb_ck (inb (x2 + x3) 111) fun _ =>
          yb_let (up2 I (mb + 6) (x2 + x3).toNatClampNeg (0 : Int32)) fun I_34 =>
          yb_let (x3 + (1 : Int32)) fun x3_35 =>
          f12_isCaseHere_L95 N mb x2 n x3_35 I_34 J
        else
          if x3 = (10 : Int32) then
            yb_ck (inb (x2 + x3) 111) fun _ =>
            yb_let (up2 I (mb + 6) (x2 + x3).toNatClampNeg (0 : Int32)) fun I_41 =>
            yb_let (x3 + (1 : Int32)) fun x3_42 =>
            f12_isCaseHere_L95 N mb x2 n x3_42 I_41 J
          else
            yb_ck (inb (x2 + x3) 111) fun _ =>
            yb_let (up2 I (mb + 6) (x2 + x3).toNatClampNeg (-1 : Int32)) fun I_38 =>
            yb_let (x3 + (1 : Int32)) fun x3_39 =>
            f12_isCaseHere_L95 N mb x2 n x3_39 I_38 J
def f12_isCaseHere (N : Nat) (mb : Nat) (x1 : Int32) (I : IT) (J : JT) : Option (Int32 × IT × JT) :=
  if (I (mb + 6) 3) = (6 : Int32) then
    yb_b3 (f12_fails mb (4 : Int32) x1 I J) fun r_48 I_49 J_50 =>
    yb_ck (bz r_48) fun _ =>
    some (r_48, I_49, J_50)
  else
    yb_b3 (f12_passWord N mb  I J) fun r_2 I_3 J_4 =>
    yb_let ((45 : Int32) + ((11 : Int32) * (I_3 (mb + 6) 3))) fun x2_6 =>
    yb_b3 (f12_cellHere N mb x2_6 (0 : Int32) ((I_3 (mb + 6) 2) - (1 : Int32)) I_3 J_4) fun r_7 I_8 J_9 =>
    if r_7 = 0 then
      some ((0 : Int32), I_8, J_9)
    else
      yb_b3 (f12_cellHere N mb (x2_6 + (1 : Int32)) (1 : Int32) (9 : Int32) I_8 J_9) fun r_12 I_13 J_14 =>
      if r_12 = 0 then
        some ((0 : Int32), I_13, J_14)
      else
        yb_b3 (f12_cellHere N mb (x2_6 + (2 : Int32)) (1 : Int32) (9 : Int32) I_13 J_14) fun r_17 I_18 J_19 =>
        if r_17 = 0 then
          some ((0 : Int32), I_18, J_19)
        else
          yb_b3 (f12_cellHere N mb (x2_6 + (3 : Int32)) (0 : Int32) (99 : Int32) I_18 J_19) fun r_22 I_23 J_24 =>
          if r_22 = 0 then
            some ((0 : Int32), I_23, J_24)
          else
            yb_b3 (f12_isCaseHere_L95 N mb x2_6 N (4 : Int32) I_23 J_24) fun q_43 I_44 J_45 =>
            yb_let (up2 I_44 (mb + 6) 3 ((I_44 (mb + 6) 3) + (1 : Int32))) fun I_47 =>
            some ((1 : Int32), I_47, J_45)
def f12_townLineHere (N : Nat) (mb : Nat) (x1 : Int32) (I : IT) (J : JT) : Option (Int32 × IT × JT) :=
  yb_b3 (f12_isWord N mb (1953462126 : Int64) I J) fun r_1 I_2 J_3 =>
  if r_1 = 0 then
    if (I_2 (mb + 6) 0) = 0 then
      yb_b3 (f12_fails mb (4 : Int32) x1 I_2 J_3) fun r_42 I_43 J_44 =>
      yb_ck (bz r_42) fun _ =>
      some (r_42, I_43, J_44)
    else
      yb_b3 (f12_isWord N mb (422608528232 : Int64) I_2 J_3) fun r_7 I_8 J_9 =>
      if r_7 = 0 then
        yb_b3 (f12_isWord N mb (123581014175598 : Int64) I_8 J_9) fun r_12 I_13 J_14 =>
        if r_12 = 0 then
          yb_b3 (f12_isWord N mb (500219604595 : Int64) I_13 J_14) fun r_17 I_18 J_19 =>
          if r_17 = 0 then
            yb_b3 (f12_isCaseHere N mb x1 I_18 J_19) fun r_22 I_23 J_24 =>
            yb_ck (bz r_22) fun _ =>
            some (r_22, I_23, J_24)
          else
            yb_b3 (f12_areTwinsHere N mb x1 I_18 J_19) fun r_27 I_28 J_29 =>
            yb_ck (bz r_27) fun _ =>
            some (r_27, I_28, J_29)
        else
          yb_b3 (f12_isPersonHere N mb x1 I_13 J_14) fun r_32 I_33 J_34 =>
          yb_ck (bz r_32) fun _ =>
          some (r_32, I_33, J_34)
      else
        yb_b3 (f12_isBenchHere N mb x1 I_8 J_9) fun r_37 I_38 J_39 =>
        yb_ck (bz r_37) fun _ =>
        some (r_37, I_38, J_39)
  else
    yb_b3 (f12_isTownHere N mb x1 I_2 J_3) fun r_47 I_48 J_49 =>
    yb_ck (bz r_47) fun _ =>
    some (r_47, I_48, J_49)
def f12_isTownWord (N : Nat) (mb : Nat) (I : IT) (J : JT) : Option (Int32 × IT × JT) :=
  yb_b3 (f12_isWord N mb (1953462126 : Int64) I J) fun r_1 I_2 J_3 =>
  if r_1 = 0 then
    yb_b3 (f12_isWord N mb (422608528232 : Int64) I_2 J_3) fun r_6 I_7 J_8 =>
    if r_6 = 0 then
      yb_b3 (f12_isWord N mb (123581014175598 : Int64) I_7 J_8) fun r_11 I_12 J_13 =>
      if r_11 = 0 then
        yb_b3 (f12_isWord N mb (500219604595 : Int64) I_12 J_13) fun r_16 I_17 J_18 =>
        if r_16 = 0 then
          yb_b3 (f12_isWord N mb (1667330917 : Int64) I_17 J_18) fun r_21 I_22 J_23 =>
          if r_21 = 0 then
            some ((0 : Int32), I_22, J_23)
          else
            some ((1 : Int32), I_22, J_23)
        else
          some ((1 : Int32), I_17, J_18)
      else
        some ((1 : Int32), I_12, J_13)
    else
      some ((1 : Int32), I_7, J_8)
  else
    some ((1 : Int32), I_2, J_3)
def f12_clauseHere (N : Nat) (mb : Nat) (I : IT) (J : JT) : Option (Int32 × IT × JT) :=
  yb_b3 (f12_see N mb  I J) fun r_1 I_2 J_3 =>
  yb_let (I_2 mb 8) fun x1_5 =>
  if (I_2 mb 11) = (6 : Int32) then
    yb_b3 (f12_isTownWord N mb  I_2 J_3) fun r_33 I_34 J_35 =>
    if r_33 = 0 then
      yb_b3 (f12_fails mb (0 : Int32) x1_5 I_34 J_35) fun r_52 I_53 J_54 =>
      yb_ck (bz r_52) fun _ =>
      some (r_52, I_53, J_54)
    else
      if (I_34 mb 14) = (40 : Int32) then
        yb_b3 (f12_fails mb (4 : Int32) x1_5 I_34 J_35) fun r_47 I_48 J_49 =>
        yb_ck (bz r_47) fun _ =>
        some (r_47, I_48, J_49)
      else
        yb_let (up2 I_34 mb 14 ((I_34 mb 14) + (1 : Int32))) fun I_40 =>
        yb_b3 (f12_townLineHere N mb x1_5 I_40 J_35) fun r_42 I_43 J_44 =>
        yb_ck (bz r_42) fun _ =>
        some (r_42, I_43, J_44)
  else
    yb_b3 (f12_isWord N mb (491394656372 : Int64) I_2 J_3) fun r_8 I_9 J_10 =>
    if r_8 = 0 then
      yb_b3 (f12_fails mb (0 : Int32) x1_5 I_9 J_10) fun r_27 I_28 J_29 =>
      yb_ck (bz r_27) fun _ =>
      some (r_27, I_28, J_29)
    else
      if (I_9 mb 14) = (12 : Int32) then
        yb_b3 (f12_fails mb (4 : Int32) x1_5 I_9 J_10) fun r_22 I_23 J_24 =>
        yb_ck (bz r_22) fun _ =>
        some (r_22, I_23, J_24)
      else
        yb_let (up2 I_9 mb 14 ((I_9 mb 14) + (1 : Int32))) fun I_15 =>
        yb_b3 (f12_isRightHere N mb  I_15 J_10) fun r_17 I_18 J_19 =>
        yb_ck (bz r_17) fun _ =>
        some (r_17, I_18, J_19)
def f12_readsAll_L35 (N : Nat) (mb : Nat) : Nat → Int32 → IT → JT → Option ((Int32) × IT × JT)
  | 0, _, _, _ => none
  | n + 1, x1, I, J =>
    if x1 = 0 then
      some (x1, I, J)
    else
      yb_b3 (f12_see N mb  I J) fun r_12 I_13 J_14 =>
      if r_12 = (59 : Int32) then
        yb_let (up2 I_13 mb 8 ((I_13 mb 8) + (1 : Int32))) fun I_17 =>
        yb_b3 (f12_clauseHere N mb  I_17 J_14) fun r_18 I_19 J_20 =>
        f12_readsAll_L35 N mb n r_18 I_19 J_20
      else
        some (x1, I_13, J_14)
def f12_readsAll (N : Nat) (mb : Nat) (I : IT) (J : JT) : Option (Int32 × IT × JT) :=
  yb_ck (inb (I mb 11) 7) fun _ =>
  yb_let (up2 I (mb + 3) (I mb 11).toNatClampNeg (0 : Int32)) fun I_2 =>
  yb_let (up2 I_2 mb 14 (0 : Int32)) fun I_3 =>
  yb_let (up2 I_3 mb 8 (0 : Int32)) fun I_4 =>
  yb_let (up2 I_4 mb 9 (0 : Int32)) fun I_5 =>
  yb_let (up2 I_5 mb 12 (0 : Int32)) fun I_6 =>
  yb_b3 (f12_clauseHere N mb  I_6 J) fun r_7 I_8 J_9 =>
  yb_b3 (f12_readsAll_L35 N mb N r_7 I_8 J_9) fun q_22 I_23 J_24 =>
  if q_22 = 0 then
    yb_let (up2 I_23 mb 1 (0 : Int32)) fun I_27 =>
    if (I_27 mb 9) = 0 then
      some ((1 : Int32), I_27, J_24)
    else
      some ((0 : Int32), I_27, J_24)
  else
    yb_b3 (f12_see N mb  I_23 J_24) fun r_29 I_30 J_31 =>
    if r_29 = (-1 : Int32) then
      yb_let (up2 I_30 mb 1 (0 : Int32)) fun I_34 =>
      if (I_34 mb 9) = 0 then
        some ((1 : Int32), I_34, J_31)
      else
        some ((0 : Int32), I_34, J_31)
    else
      yb_b3 (f12_fails mb (0 : Int32) (I_30 mb 8) I_30 J_31) fun r_36 I_37 J_38 =>
      yb_let (up2 I_37 mb 1 (0 : Int32)) fun I_40 =>
      if (I_40 mb 9) = 0 then
        some ((1 : Int32), I_40, J_38)
      else
        some ((0 : Int32), I_40, J_38)
def f12_rule (N : Nat) (mb : Nat) (I : IT) (J : JT) : Option (Int32 × IT × JT) :=
  if (I mb 2) = (6 : Int32) then
    some ((-1 : Int32), I, J)
  else
    yb_let (up2 I mb 11 (I mb 2)) fun I_2 =>
    yb_ck (inb (I_2 mb 11) 6) fun _ =>
    yb_let (up2 I_2 (mb + 5) (I_2 mb 11).toNatClampNeg (0 : Int32)) fun I_4 =>
    yb_b3 (f12_readsAll N mb  I_4 J) fun r_5 I_6 J_7 =>
    if r_5 = 0 then
      some (((-2 : Int32) - (I_6 mb 9)), I_6, J_7)
    else
      yb_let (up2 I_6 mb 2 ((I_6 mb 2) + (1 : Int32))) fun I_10 =>
      some (((I_10 mb 2) - (1 : Int32)), I_10, J_7)
def f12_town_L8 (N : Nat) (mb : Nat) : Nat → Int32 → IT → JT → Option ((Unit) × IT × JT)
  | 0, _, _, _ => none
  | n + 1, x1, I, J =>
    if (10 : Int32) ≤ x1 then
      some ((), I, J)
    else
      if x1 = (5 : Int32) then
        yb_ck (inb x1 111) fun _ =>
        yb_let (up2 I (mb + 6) x1.toNatClampNeg (-1 : Int32)) fun I_5 =>
        yb_let (x1 + (1 : Int32)) fun x1_6 =>
        f12_town_L8 N mb n x1_6 I_5 J
      else
        if x1 = (6 : Int32) then
          yb_ck (inb x1 111) fun _ =>
          yb_let (up2 I (mb + 6) x1.toNatClampNeg (-1 : Int32)) fun I_12 =>
          yb_let (x1 + (1 : Int32)) fun x1_13 =>
          f12_town_L8 N mb n x1_13 I_12 J
        else
          yb_ck (inb x1 111) fun _ =>
          yb_let (up2 I (mb + 6) x1.toNatClampNeg (0 : Int32)) fun I_9 =>
          yb_let (x1 + (1 : Int32)) fun x1_10 =>
          f12_town_L8 N mb n x1_10 I_9 J
def f12_town_L59 (N : Nat) (mb : Nat) : Nat → Int32 → IT → JT → Option ((Unit) × IT × JT)
  | 0, _, _, _ => none
  | n + 1, x1, I, J =>
    if (142 : Int32) ≤ x1 then
      some ((), I, J)
    else
      if (111 : Int32) ≤ x1 then
        yb_ck (inb x1 142) fun _ =>
        yb_let (up2 I (mb + 10) x1.toNatClampNeg (0 : Int32)) fun I_26 =>
        yb_let (x1 + (1 : Int32)) fun x1_27 =>
        f12_town_L59 N mb n x1_27 I_26 J
      else
        yb_ck (inb x1 111) fun _ =>
        yb_ck (inb x1 142) fun _ =>
        yb_let (up2 I (mb + 10) x1.toNatClampNeg (I (mb + 6) x1.toNatClampNeg)) fun I_30 =>
        yb_let (x1 + (1 : Int32)) fun x1_31 =>
        f12_town_L59 N mb n x1_31 I_30 J
def f12_town (N : Nat) (mb : Nat) (I : IT) (J : JT) : Option (Int32 × IT × JT) :=
  yb_let (up2 I mb 11 (6 : Int32)) fun I_1 =>
  yb_b3 (f12_town_L8 N mb N (0 : Int32) I_1 J) fun q_14 I_15 J_16 =>
  yb_b3 (f12_readsAll N mb  I_15 J_16) fun r_18 I_19 J_20 =>
  if r_18 = 0 then
    some (((-2 : Int32) - (I_19 mb 9)), I_19, J_20)
  else
    yb_b3 (f12_town_L59 N mb N (0 : Int32) I_19 J_20) fun q_32 I_33 J_34 =>
    if 0 ≤ (I_33 (mb + 10) 5) then
      yb_let (up2 I_33 mb 24 (0 : Int32)) fun I_37 =>
      some ((I_37 (mb + 10) 2), I_37, J_34)
    else
      yb_let (up2 I_33 (mb + 10) 5 (0 : Int32)) fun I_38 =>
      yb_let (up2 I_38 (mb + 10) 6 (9999 : Int32)) fun I_39 =>
      yb_let (up2 I_39 mb 24 (0 : Int32)) fun I_40 =>
      some ((I_40 (mb + 10) 2), I_40, J_34)
def f12_isRule (mb : Nat) (x1 : Int32) (I : IT) (J : JT) : Option (Int32 × IT × JT) :=
  if x1 < 0 then
    some ((0 : Int32), I, J)
  else
    if (I mb 2) ≤ x1 then
      some ((0 : Int32), I, J)
    else
      some ((1 : Int32), I, J)
def f12_push (mb : Nat) (x1 : Int64) (I : IT) (J : JT) : Option (Unit × IT × JT) :=
  yb_ck (inb (I mb 18) 64) fun _ =>
  yb_let (up2J J (mb + 8) (I mb 18).toNatClampNeg x1) fun J_2 =>
  yb_let (up2 I mb 18 ((I mb 18) + (1 : Int32))) fun I_3 =>
  some ((), I_3, J_2)
def f12_pop (mb : Nat) (I : IT) (J : JT) : Option (Int64 × IT × JT) :=
  yb_let (up2 I mb 18 ((I mb 18) - (1 : Int32))) fun I_1 =>
  yb_ck (inb (I_1 mb 18) 64) fun _ =>
  some ((J (mb + 8) (I_1 mb 18).toNatClampNeg), I_1, J)
def f12_one (mb : Nat) (x0 : Int32) (x1 : Int64) (x3 : Int64) (I : IT) (J : JT) : Option (Int64 × IT × JT) :=
  if x0 = (2 : Int32) then
    some ((x1 + x3), I, J)
  else
  if x0 = (3 : Int32) then
    some ((x1 - x3), I, J)
  else
  if x0 = (4 : Int32) then
    some ((x1 * x3), I, J)
  else
  if x0 = (5 : Int32) then
    if (lg_cmp x3 (0 : Int64)) = 0 then
      some ((0 : Int64), I, J)
    else
      if x3 = 0 then none else
      some ((x1 / x3), I, J)
  else
  if x0 = (6 : Int32) then
    if 0 ≤ (lg_cmp x1 x3) then
      some ((0 : Int64), I, J)
    else
      some ((1 : Int64), I, J)
  else
  if x0 = (7 : Int32) then
    if 0 < (lg_cmp x1 x3) then
      some ((0 : Int64), I, J)
    else
      some ((1 : Int64), I, J)
  else
  if x0 = (8 : Int32) then
    if (lg_cmp x1 x3) = 0 then
      some ((1 : Int64), I, J)
    else
      some ((0 : Int64), I, J)
  else
  if x0 = (9 : Int32) then
    if (lg_cmp x1 x3) < 0 then
      some ((0 : Int64), I, J)
    else
      some ((1 : Int64), I, J)
  else
  if x0 = (10 : Int32) then
    if (lg_cmp x1 x3) ≤ 0 then
      some ((0 : Int64), I, J)
    else
      some ((1 : Int64), I, J)
  else
  if x0 = (11 : Int32) then
    some ((x1 ||| x3), I, J)
  else
  if x0 = (12 : Int32) then
    some ((x1 &&& x3), I, J)
  else
  if x0 = (13 : Int32) then
    some ((x1 ||| x3), I, J)
  else
  if x0 = (14 : Int32) then
    if (lg_cmp x3 (0 : Int64)) = 0 then
      some ((0 : Int64), I, J)
    else
      if x3 = 0 then none else
      some ((x1 - x1 / x3 * x3), I, J)
  else
    some ((x1 ||| x3), I, J)
def f12_reckons_L8 (N : Nat) (mb : Nat) (x1 : Int32) (x3 : Int32) : Nat → Int32 → IT → JT → Option ((Unit) × IT × JT)
  | 0, _, _, _ => none
  | n + 1, x4, I, J =>
    if x3 ≤ x4 then
      some ((), I, J)
    else
      yb_ck (inb (((400 : Int32) * x1) + x4) 2400) fun _ =>
      yb_let ((I (mb + 2) (((400 : Int32) * x1) + x4).toNatClampNeg) &&& (15 : Int32)) fun x5_4 =>
      yb_let ((I (mb + 2) (((400 : Int32) * x1) + x4).toNatClampNeg) >>> ((4 : Int32) &&& 31)) fun x6_5 =>
      if x5_4 = 0 then
        yb_b3 (f12_push mb (x6_5.toInt64) I J) fun r_41 I_42 J_43 =>
        yb_let (x4 + (1 : Int32)) fun x4_45 =>
        f12_reckons_L8 N mb x1 x3 n x4_45 I_42 J_43
      else
        if x5_4 = (1 : Int32) then
          yb_ck (inb x6_5 12) fun _ =>
          yb_b3 (f12_push mb (J (mb + 9) x6_5.toNatClampNeg) I J) fun r_36 I_37 J_38 =>
          yb_let (x4 + (1 : Int32)) fun x4_40 =>
          f12_reckons_L8 N mb x1 x3 n x4_40 I_37 J_38
        else
          if x5_4 = (11 : Int32) then
            yb_b3 (f12_pop mb  I J) fun r_26 I_27 J_28 =>
            yb_b3 (f12_push mb ((1 : Int64) - r_26) I_27 J_28) fun r_30 I_31 J_32 =>
            yb_let (x4 + (1 : Int32)) fun x4_34 =>
            f12_reckons_L8 N mb x1 x3 n x4_34 I_31 J_32
          else
            yb_b3 (f12_pop mb  I J) fun r_9 I_10 J_11 =>
            yb_b3 (f12_pop mb  I_10 J_11) fun r_13 I_14 J_15 =>
            yb_b3 (f12_one mb x5_4 r_13 r_9 I_14 J_15) fun r_17 I_18 J_19 =>
            yb_b3 (f12_push mb r_17 I_18 J_19) fun r_21 I_22 J_23 =>
            yb_let (x4 + (1 : Int32)) fun x4_25 =>
            f12_reckons_L8 N mb x1 x3 n x4_25 I_22 J_23
def f12_reckons (N : Nat) (mb : Nat) (x1 : Int32) (x2 : Int32) (x3 : Int32) (I : IT) (J : JT) : Option (Int64 × IT × JT) :=
  yb_let (up2 I mb 18 (0 : Int32)) fun I_1 =>
  yb_b3 (f12_reckons_L8 N mb x1 x3 N x2 I_1 J) fun q_46 I_47 J_48 =>
  yb_b3 (f12_pop mb  I_47 J_48) fun r_50 I_51 J_52 =>
  some (r_50, I_51, J_52)
def f12_isTown (mb : Nat) (I : IT) (J : JT) : Option (Int32 × IT × JT) :=
  if (I (mb + 10) 0) ≤ 0 then
    some ((0 : Int32), I, J)
  else
    some ((1 : Int32), I, J)
def f12_isPerson (mb : Nat) (x1 : Int32) (I : IT) (J : JT) : Option (Int32 × IT × JT) :=
  if x1 < 0 then
    some ((0 : Int32), I, J)
  else
    if (I (mb + 10) 2) ≤ x1 then
      some ((0 : Int32), I, J)
    else
      some ((1 : Int32), I, J)
def f12_isCase (mb : Nat) (x1 : Int32) (I : IT) (J : JT) : Option (Int32 × IT × JT) :=
  if x1 < 0 then
    some ((0 : Int32), I, J)
  else
    if (I (mb + 10) 3) ≤ x1 then
      some ((0 : Int32), I, J)
    else
      some ((1 : Int32), I, J)
def f12_personOf (mb : Nat) (x1 : Int32) (x2 : Int32) (I : IT) (J : JT) : Option (Int32 × IT × JT) :=
  yb_ck (inb (((10 : Int32) + ((5 : Int32) * x1)) + x2) 142) fun _ =>
  some ((I (mb + 10) (((10 : Int32) + ((5 : Int32) * x1)) + x2).toNatClampNeg), I, J)
def f12_caseOf (mb : Nat) (x1 : Int32) (x2 : Int32) (I : IT) (J : JT) : Option (Int32 × IT × JT) :=
  yb_ck (inb (((45 : Int32) + ((11 : Int32) * x1)) + x2) 142) fun _ =>
  some ((I (mb + 10) (((45 : Int32) + ((11 : Int32) * x1)) + x2).toNatClampNeg), I, J)
def f12_ageOn (mb : Nat) (x1 : Int32) (x2 : Int32) (I : IT) (J : JT) : Option (Int32 × IT × JT) :=
  yb_b3 (f12_personOf mb x1 (0 : Int32) I J) fun r_1 I_2 J_3 =>
  some ((r_1 + x2), I_2, J_3)
def f12_sitsOn (mb : Nat) (x1 : Int32) (x2 : Int32) (I : IT) (J : JT) : Option (Int32 × IT × JT) :=
  yb_b3 (f12_ageOn mb x1 x2 I J) fun r_1 I_2 J_3 =>
  yb_b3 (f12_in mb (r_1.toInt64) ((I_2 (mb + 10) 5).toInt64) ((I_2 (mb + 10) 6).toInt64) I_2 J_3) fun r_5 I_6 J_7 =>
  yb_ck (bz r_5) fun _ =>
  some (r_5, I_6, J_7)
def f12_birthdayIn (mb : Nat) (x1 : Int32) (x2 : Int32) (I : IT) (J : JT) : Option (Int32 × IT × JT) :=
  yb_b3 (f12_ageOn mb x1 x2 I J) fun r_1 I_2 J_3 =>
  if (I_2 (mb + 10) 1) = 0 then none else
  some (((I (mb + 10) 1) - (r_1 - r_1 / (I_2 (mb + 10) 1) * (I_2 (mb + 10) 1))), I_2, J_3)
def f12_isYounger (mb : Nat) (x1 : Int32) (x2 : Int32) (I : IT) (J : JT) : Option (Int32 × IT × JT) :=
  yb_b3 (f12_personOf mb x2 (0 : Int32) I J) fun r_1 I_2 J_3 =>
  yb_b3 (f12_personOf mb x1 (0 : Int32) I_2 J_3) fun r_5 I_6 J_7 =>
  if (r_1 - r_5) < (I_6 (mb + 10) 0) then
    some ((0 : Int32), I_6, J_7)
  else
    some ((1 : Int32), I_6, J_7)
def f12_canSit_L28 (N : Nat) (mb : Nat) (x1 : Int32) (x3 : Int32) (x4 : Int32) : Nat → Int32 → IT → JT → Option ((Int32 ⊕ (Unit)) × IT × JT)
  | 0, _, _, _ => none
  | n + 1, x5, I, J =>
    if (x4 + x3) ≤ x5 then
      some (Sum.inr (), I, J)
    else
      yb_b3 (f12_sitsOn mb x1 x5 I J) fun r_16 I_17 J_18 =>
      if r_16 = 0 then
        some (Sum.inl (0 : Int32), I_17, J_18)
      else
        yb_b3 (f12_birthdayIn mb x1 x5 I_17 J_18) fun r_21 I_22 J_23 =>
        if r_21 = (I_22 (mb + 10) 1) then
          some (Sum.inl (0 : Int32), I_22, J_23)
        else
          yb_let (x5 + (1 : Int32)) fun x5_26 =>
          f12_canSit_L28 N mb x1 x3 x4 n x5_26 I_22 J_23
def f12_canSit (N : Nat) (mb : Nat) (x1 : Int32) (x2 : Int32) (x3 : Int32) (x4 : Int32) (I : IT) (J : JT) : Option (Int32 × IT × JT) :=
  yb_b3 (f12_isYounger mb x1 x2 I J) fun r_1 I_2 J_3 =>
  if r_1 = 0 then
    some ((0 : Int32), I_2, J_3)
  else
    yb_b3 (f12_personOf mb x2 (3 : Int32) I_2 J_3) fun r_6 I_7 J_8 =>
    yb_b3 (f12_isOf mb r_6 x1 I_7 J_8) fun r_10 I_11 J_12 =>
    if r_10 = 0 then
      yb_b3 (f12_canSit_L28 N mb x1 x3 x4 N x4 I_11 J_12) fun q_27 I_28 J_29 =>
      yb_sm q_27 (fun v_31 => some (v_31, I_28, J_29)) fun x_32 =>
      some ((1 : Int32), I_28, J_29)
    else
      some ((0 : Int32), I_11, J_12)
def f12_canHear (N : Nat) (mb : Nat) (x1 : Int32) (x2 : Int32) (x3 : Int32) (I : IT) (J : JT) : Option (Int32 × IT × JT) :=
  yb_b3 (f12_caseOf mb x1 (3 : Int32) I J) fun r_1 I_2 J_3 =>
  if x3 < r_1 then
    some ((0 : Int32), I_2, J_3)
  else
    yb_b3 (f12_caseOf mb x1 (0 : Int32) I_2 J_3) fun r_6 I_7 J_8 =>
    yb_b3 (f12_caseOf mb x1 (2 : Int32) I_7 J_8) fun r_10 I_11 J_12 =>
    yb_b3 (f12_canSit N mb x2 r_6 r_10 x3 I_11 J_12) fun r_14 I_15 J_16 =>
    if r_14 = 0 then
      some ((0 : Int32), I_15, J_16)
    else
      some ((1 : Int32), I_15, J_16)
def f12_hearsNow_L2 (N : Nat) (mb : Nat) (x1 : Int32) : Nat → Int32 → IT → JT → Option ((Int32 ⊕ (Unit)) × IT × JT)
  | 0, _, _, _ => none
  | n + 1, x2, I, J =>
    if (I (mb + 10) 3) ≤ x2 then
      some (Sum.inr (), I, J)
    else
      yb_b3 (f12_caseOf mb x2 (4 : Int32) I J) fun r_2 I_3 J_4 =>
      if r_2 = x1 then
        some (Sum.inl x2, I_3, J_4)
      else
        yb_let (x2 + (1 : Int32)) fun x2_7 =>
        f12_hearsNow_L2 N mb x1 n x2_7 I_3 J_4
def f12_hearsNow (N : Nat) (mb : Nat) (x1 : Int32) (I : IT) (J : JT) : Option (Int32 × IT × JT) :=
  yb_b3 (f12_hearsNow_L2 N mb x1 N (0 : Int32) I J) fun q_8 I_9 J_10 =>
  yb_sm q_8 (fun v_12 => some (v_12, I_9, J_10)) fun x_13 =>
  some ((-1 : Int32), I_9, J_10)
def f12_force (mb : Nat) (x1 : Int32) (I : IT) (J : JT) : Option (Int32 × IT × JT) :=
  if x1 = (-1 : Int32) then
    yb_let (I mb 21) fun x2_2 =>
    yb_let (up2 I mb 21 x1) fun I_3 =>
    some (x2_2, I_3, J)
  else
    yb_b3 (f12_isRule mb x1 I J) fun r_4 I_5 J_6 =>
    if r_4 = 0 then
      some ((-2 : Int32), I_5, J_6)
    else
      yb_let (I_5 mb 21) fun x2_9 =>
      yb_let (up2 I_5 mb 21 x1) fun I_10 =>
      some (x2_9, I_10, J_6)
def f12_person (N : Nat) (mb : Nat) (x1 : Int32) (x2 : Int32) (I : IT) (J : JT) : Option (Int32 × IT × JT) :=
  yb_b3 (f12_isPerson mb x1 I J) fun r_1 I_2 J_3 =>
  if r_1 = 0 then
    some ((-1 : Int32), I_2, J_3)
  else
    yb_let (I_2 (mb + 10) 4) fun x3_6 =>
    if x2 = (0 : Int32) then
      yb_b3 (f12_ageOn mb x1 x3_6 I_2 J_3) fun r_8 I_9 J_10 =>
      some (r_8, I_9, J_10)
    else
    if x2 = (1 : Int32) then
      yb_b3 (f12_personOf mb x1 x2 I_2 J_3) fun r_13 I_14 J_15 =>
      some (r_13, I_14, J_15)
    else
    if x2 = (2 : Int32) then
      yb_b3 (f12_personOf mb x1 x2 I_2 J_3) fun r_18 I_19 J_20 =>
      some (r_18, I_19, J_20)
    else
    if x2 = (3 : Int32) then
      yb_b3 (f12_personOf mb x1 x2 I_2 J_3) fun r_23 I_24 J_25 =>
      some (r_23, I_24, J_25)
    else
    if x2 = (4 : Int32) then
      yb_b3 (f12_birthdayIn mb x1 x3_6 I_2 J_3) fun r_28 I_29 J_30 =>
      some (r_28, I_29, J_30)
    else
    if x2 = (5 : Int32) then
      yb_b3 (f12_hearsNow N mb x1 I_2 J_3) fun r_33 I_34 J_35 =>
      some (r_33, I_34, J_35)
    else
    if x2 = (6 : Int32) then
      yb_b3 (f12_personOf mb x1 (4 : Int32) I_2 J_3) fun r_38 I_39 J_40 =>
      some (r_38, I_39, J_40)
    else
    if x2 = (7 : Int32) then
      yb_b3 (f12_sitsOn mb x1 x3_6 I_2 J_3) fun r_43 I_44 J_45 =>
      if r_43 = 0 then
        some ((0 : Int32), I_44, J_45)
      else
        some ((1 : Int32), I_44, J_45)
    else
      some ((-1 : Int32), I_2, J_3)
def f12_trial (mb : Nat) (x1 : Int32) (x2 : Int32) (I : IT) (J : JT) : Option (Int32 × IT × JT) :=
  yb_b3 (f12_isCase mb x1 I J) fun r_1 I_2 J_3 =>
  if r_1 = 0 then
    some ((-2 : Int32), I_2, J_3)
  else
    yb_b3 (f12_in mb (x2.toInt64) (0 : Int64) (9 : Int64) I_2 J_3) fun r_6 I_7 J_8 =>
    if r_6 = 0 then
      some ((-2 : Int32), I_7, J_8)
    else
      yb_b3 (f12_caseOf mb x1 x2 I_7 J_8) fun r_11 I_12 J_13 =>
      some (r_11, I_12, J_13)
def f12_can (N : Nat) (mb : Nat) (x1 : Int32) (x2 : Int32) (x3 : Int32) (I : IT) (J : JT) : Option (Int32 × IT × JT) :=
  yb_b3 (f12_isCase mb x1 I J) fun r_1 I_2 J_3 =>
  if r_1 = 0 then
    some ((-1 : Int32), I_2, J_3)
  else
    yb_b3 (f12_isPerson mb x2 I_2 J_3) fun r_6 I_7 J_8 =>
    if r_6 = 0 then
      some ((-1 : Int32), I_7, J_8)
    else
      yb_b3 (f12_in mb (x3.toInt64) (0 : Int64) (999 : Int64) I_7 J_8) fun r_11 I_12 J_13 =>
      if r_11 = 0 then
        some ((-1 : Int32), I_12, J_13)
      else
        yb_b3 (f12_canHear N mb x1 x2 x3 I_12 J_13) fun r_16 I_17 J_18 =>
        if r_16 = 0 then
          some ((0 : Int32), I_17, J_18)
        else
          some ((1 : Int32), I_17, J_18)
def f12_summedBy_L2 (N : Nat) (mb : Nat) (x1 : Int32) : Nat → Int32 → IT → JT → Option ((Int64 ⊕ (Unit)) × IT × JT)
  | 0, _, _, _ => none
  | n + 1, x2, I, J =>
    yb_ck (inb x1 6) fun _ =>
    if (I (mb + 5) x1.toNatClampNeg) ≤ x2 then
      some (Sum.inr (), I, J)
    else
      yb_let (((48 : Int32) * x1) + ((4 : Int32) * x2)) fun x3_3 =>
      yb_ck (inb (x3_3 + (2 : Int32)) 288) fun _ =>
      if (I (mb + 4) (x3_3 + (2 : Int32)).toNatClampNeg) < 0 then
        yb_ck (inb x3_3 288) fun _ =>
        yb_ck (inb (x3_3 + (1 : Int32)) 288) fun _ =>
        yb_b3 (f12_reckons N mb x1 (I (mb + 4) x3_3.toNatClampNeg) (I (mb + 4) (x3_3 + (1 : Int32)).toNatClampNeg) I J) fun r_8 I_9 J_10 =>
        some (Sum.inl r_8, I_9, J_10)
      else
        yb_ck (inb (x3_3 + (3 : Int32)) 288) fun _ =>
        yb_b3 (f12_reckons N mb x1 (I (mb + 4) (x3_3 + (2 : Int32)).toNatClampNeg) (I (mb + 4) (x3_3 + (3 : Int32)).toNatClampNeg) I J) fun r_13 I_14 J_15 =>
        if (lg_cmp r_13 (1 : Int64)) = 0 then
          yb_ck (inb x3_3 288) fun _ =>
          yb_ck (inb (x3_3 + (1 : Int32)) 288) fun _ =>
          yb_b3 (f12_reckons N mb x1 (I_14 (mb + 4) x3_3.toNatClampNeg) (I_14 (mb + 4) (x3_3 + (1 : Int32)).toNatClampNeg) I_14 J_15) fun r_21 I_22 J_23 =>
          some (Sum.inl r_21, I_22, J_23)
        else
          yb_let (x2 + (1 : Int32)) fun x2_18 =>
          f12_summedBy_L2 N mb x1 n x2_18 I_14 J_15
def f12_summedBy (N : Nat) (mb : Nat) (x1 : Int32) (I : IT) (J : JT) : Option (Int64 × IT × JT) :=
  yb_b3 (f12_summedBy_L2 N mb x1 N (0 : Int32) I J) fun q_25 I_26 J_27 =>
  yb_sm q_25 (fun v_29 => some (v_29, I_26, J_27)) fun x_30 =>
  some ((0 : Int64), I_26, J_27)
def f12_rightIn (N : Nat) (mb : Nat) (x1 : Int32) (x2 : Int32) (x3 : Int32) (x4 : Int32) (x5 : Int32) (x6 : Int32) (x7 : Int32) (I : IT) (J : JT) : Option (Int32 × IT × JT) :=
  yb_b3 (f12_personOf mb x1 (1 : Int32) I J) fun r_1 I_2 J_3 =>
  yb_b3 (f12_personOf mb x1 (2 : Int32) I_2 J_3) fun r_5 I_6 J_7 =>
  yb_let ((((50 : Int64) + (((5 : Int32) * r_1).toInt64)) - (((4 : Int32) * x3).toInt64)) - (((3 : Int32) * r_5).toInt64)) fun x8_9 =>
  if (I_6 mb 21) < 0 then
    if 0 ≤ (lg_cmp x8_9 (0 : Int64)) then
      if (lg_cmp x8_9 (100 : Int64)) ≤ 0 then
        some ((x8_9.toInt32), I_6, J_7)
      else
        some ((100 : Int32), I_6, J_7)
    else
      some ((0 : Int32), I_6, J_7)
  else
    yb_let (up2J J_7 (mb + 9) 0 (x1.toInt64)) fun J_13 =>
    yb_b3 (f12_personOf mb x1 (1 : Int32) I_6 J_13) fun r_14 I_15 J_16 =>
    yb_let (up2J J_16 (mb + 9) 1 (r_14.toInt64)) fun J_18 =>
    yb_b3 (f12_ageOn mb x1 x5 I_15 J_18) fun r_19 I_20 J_21 =>
    yb_let (up2J J_21 (mb + 9) 2 (r_19.toInt64)) fun J_23 =>
    yb_b3 (f12_personOf mb x1 (2 : Int32) I_20 J_23) fun r_24 I_25 J_26 =>
    yb_let (up2J J_26 (mb + 9) 3 (r_24.toInt64)) fun J_28 =>
    yb_let (up2J J_28 (mb + 9) 4 (x2.toInt64)) fun J_29 =>
    yb_let (up2J J_29 (mb + 9) 5 (x3.toInt64)) fun J_30 =>
    yb_let (up2J J_30 (mb + 9) 6 (x4.toInt64)) fun J_31 =>
    yb_b3 (f12_personOf mb x2 (0 : Int32) I_25 J_31) fun r_32 I_33 J_34 =>
    yb_b3 (f12_personOf mb x1 (0 : Int32) I_33 J_34) fun r_36 I_37 J_38 =>
    yb_let (up2J J_38 (mb + 9) 7 ((r_32 - r_36).toInt64)) fun J_40 =>
    yb_let (up2J J_40 (mb + 9) 8 (x5.toInt64)) fun J_41 =>
    yb_let (up2J J_41 (mb + 9) 9 (x6.toInt64)) fun J_42 =>
    yb_let (up2J J_42 (mb + 9) 10 (x7.toInt64)) fun J_43 =>
    yb_b3 (f12_birthdayIn mb x1 x5 I_37 J_43) fun r_44 I_45 J_46 =>
    yb_let (up2J J_46 (mb + 9) 11 (r_44.toInt64)) fun J_48 =>
    yb_b3 (f12_summedBy N mb (I_45 mb 21) I_45 J_48) fun r_49 I_50 J_51 =>
    if 0 ≤ (lg_cmp r_49 (0 : Int64)) then
      if (lg_cmp r_49 (100 : Int64)) ≤ 0 then
        some ((r_49.toInt32), I_50, J_51)
      else
        some ((100 : Int32), I_50, J_51)
    else
      some ((0 : Int32), I_50, J_51)
def f12_rightOf (N : Nat) (mb : Nat) (x1 : Int32) (x2 : Int32) (x3 : Int32) (I : IT) (J : JT) : Option (Int32 × IT × JT) :=
  yb_b3 (f12_caseOf mb x1 (0 : Int32) I J) fun r_1 I_2 J_3 =>
  yb_b3 (f12_caseOf mb x1 (1 : Int32) I_2 J_3) fun r_5 I_6 J_7 =>
  yb_b3 (f12_caseOf mb x1 (2 : Int32) I_6 J_7) fun r_9 I_10 J_11 =>
  yb_b3 (f12_personOf mb x2 (4 : Int32) I_10 J_11) fun r_13 I_14 J_15 =>
  yb_b3 (f12_caseOf mb x1 (9 : Int32) I_14 J_15) fun r_17 I_18 J_19 =>
  yb_b3 (f12_rightIn N mb x2 r_1 r_5 r_9 x3 r_13 r_17 I_18 J_19) fun r_21 I_22 J_23 =>
  some (r_21, I_22, J_23)
def f12_right (N : Nat) (mb : Nat) (x1 : Int32) (x2 : Int32) (I : IT) (J : JT) : Option (Int32 × IT × JT) :=
  yb_b3 (f12_isCase mb x1 I J) fun r_1 I_2 J_3 =>
  if r_1 = 0 then
    some ((-1 : Int32), I_2, J_3)
  else
    yb_b3 (f12_isPerson mb x2 I_2 J_3) fun r_6 I_7 J_8 =>
    if r_6 = 0 then
      some ((-1 : Int32), I_7, J_8)
    else
      yb_b3 (f12_rightOf N mb x1 x2 (I_7 (mb + 10) 4) I_7 J_8) fun r_11 I_12 J_13 =>
      some (r_11, I_12, J_13)
def f12_keepsAct_L52 (N : Nat) (mb : Nat) : Nat → Int32 → IT → JT → Option ((Unit) × IT × JT)
  | 0, _, _, _ => none
  | n + 1, x1, I, J =>
    if (111 : Int32) ≤ x1 then
      some ((), I, J)
    else
      yb_ck (inb x1 142) fun _ =>
      yb_ck (inb (((111 : Int32) * (I mb 24)) + x1) 2220) fun _ =>
      yb_let (up2 I (mb + 11) (((111 : Int32) * (I mb 24)) + x1).toNatClampNeg (I (mb + 10) x1.toNatClampNeg)) fun I_5 =>
      yb_let (x1 + (1 : Int32)) fun x1_6 =>
      f12_keepsAct_L52 N mb n x1_6 I_5 J
def f12_keepsAct_L12 (N : Nat) (mb : Nat) : Nat → Int32 → IT → JT → Option ((Unit) × IT × JT)
  | 0, _, _, _ => none
  | n + 1, x1, I, J =>
    if (2220 : Int32) ≤ x1 then
      some ((), I, J)
    else
      yb_ck (inb x1 2220) fun _ =>
      yb_ck (inb (x1 - (111 : Int32)) 2220) fun _ =>
      yb_let (up2 I (mb + 11) (x1 - (111 : Int32)).toNatClampNeg (I (mb + 11) x1.toNatClampNeg)) fun I_15 =>
      yb_let (x1 + (1 : Int32)) fun x1_16 =>
      f12_keepsAct_L12 N mb n x1_16 I_15 J
def f12_keepsAct (N : Nat) (mb : Nat) (I : IT) (J : JT) : Option (Unit × IT × JT) :=
  if (I mb 24) = (20 : Int32) then
    yb_b3 (f12_keepsAct_L12 N mb N (111 : Int32) I J) fun q_17 I_18 J_19 =>
    yb_let (up2 I_18 mb 24 ((I_18 mb 24) - (1 : Int32))) fun I_21 =>
    yb_b3 (f12_keepsAct_L52 N mb N (0 : Int32) I_21 J_19) fun q_22 I_23 J_24 =>
    yb_let (up2 I_23 mb 24 ((I_23 mb 24) + (1 : Int32))) fun I_26 =>
    some ((), I_26, J_24)
  else
    yb_b3 (f12_keepsAct_L52 N mb N (0 : Int32) I J) fun q_7 I_8 J_9 =>
    yb_let (up2 I_8 mb 24 ((I_8 mb 24) + (1 : Int32))) fun I_11 =>
    some ((), I_11, J_9)
def f12_undo_L21 (N : Nat) (mb : Nat) : Nat → Int32 → IT → JT → Option ((Unit) × IT × JT)
  | 0, _, _, _ => none
  | n + 1, x1, I, J =>
    if (111 : Int32) ≤ x1 then
      some ((), I, J)
    else
      yb_ck (inb (((111 : Int32) * (I mb 24)) + x1) 2220) fun _ =>
      yb_ck (inb x1 142) fun _ =>
      yb_let (up2 I (mb + 10) x1.toNatClampNeg (I (mb + 11) (((111 : Int32) * (I mb 24)) + x1).toNatClampNeg)) fun I_6 =>
      yb_let (x1 + (1 : Int32)) fun x1_7 =>
      f12_undo_L21 N mb n x1_7 I_6 J
def f12_undo (N : Nat) (mb : Nat) (I : IT) (J : JT) : Option (Int32 × IT × JT) :=
  if (I mb 24) = 0 then
    some ((-1 : Int32), I, J)
  else
    yb_let (up2 I mb 24 ((I mb 24) - (1 : Int32))) fun I_2 =>
    yb_b3 (f12_undo_L21 N mb N (0 : Int32) I_2 J) fun q_8 I_9 J_10 =>
    some ((I_9 mb 24), I_9, J_10)
def f12_isRuled (mb : Nat) (x1 : Int32) (I : IT) (J : JT) : Option (Unit × IT × JT) :=
  yb_let ((45 : Int32) + ((11 : Int32) * x1)) fun x2_1 =>
  yb_ck (inb (x2_1 + (4 : Int32)) 142) fun _ =>
  yb_let (I (mb + 10) (x2_1 + (4 : Int32)).toNatClampNeg) fun x3_3 =>
  yb_let (up2 I (mb + 10) (x2_1 + (4 : Int32)).toNatClampNeg (-1 : Int32)) fun I_4 =>
  yb_ck (inb (x2_1 + (6 : Int32)) 142) fun _ =>
  yb_let (up2 I_4 (mb + 10) (x2_1 + (6 : Int32)).toNatClampNeg x3_3) fun I_6 =>
  yb_ck (inb (x2_1 + (10 : Int32)) 142) fun _ =>
  yb_ck (inb (x2_1 + (7 : Int32)) 142) fun _ =>
  yb_let (up2 I_6 (mb + 10) (x2_1 + (7 : Int32)).toNatClampNeg (I_6 (mb + 10) (x2_1 + (10 : Int32)).toNatClampNeg)) fun I_9 =>
  yb_b3 (f12_ageOn mb x3_3 (I_9 (mb + 10) 4) I_9 J) fun r_10 I_11 J_12 =>
  yb_ck (inb (x2_1 + (8 : Int32)) 142) fun _ =>
  yb_let (up2 I_11 (mb + 10) (x2_1 + (8 : Int32)).toNatClampNeg r_10) fun I_15 =>
  yb_ck (inb (x2_1 + (9 : Int32)) 142) fun _ =>
  yb_let (up2 I_15 (mb + 10) (x2_1 + (9 : Int32)).toNatClampNeg ((I_15 (mb + 10) (x2_1 + (9 : Int32)).toNatClampNeg) + (1 : Int32))) fun I_17 =>
  yb_ck (inb (((10 : Int32) + ((5 : Int32) * x3_3)) + (4 : Int32)) 142) fun _ =>
  yb_let (up2 I_17 (mb + 10) (((10 : Int32) + ((5 : Int32) * x3_3)) + (4 : Int32)).toNatClampNeg ((I_17 (mb + 10) (((10 : Int32) + ((5 : Int32) * x3_3)) + (4 : Int32)).toNatClampNeg) + (1 : Int32))) fun I_19 =>
  some ((), I_19, J_12)
def f12_passes_L4 (N : Nat) (mb : Nat) : Nat → Int32 → Int32 → IT → JT → Option ((Int32) × IT × JT)
  | 0, _, _, _, _ => none
  | n + 1, x1, x2, I, J =>
    if (I (mb + 10) 3) ≤ x2 then
      some (x1, I, J)
    else
      yb_b3 (f12_caseOf mb x2 (4 : Int32) I J) fun r_2 I_3 J_4 =>
      if 0 ≤ r_2 then
        yb_ck (inb (((45 : Int32) + ((11 : Int32) * x2)) + (5 : Int32)) 142) fun _ =>
        yb_let (up2 I_3 (mb + 10) (((45 : Int32) + ((11 : Int32) * x2)) + (5 : Int32)).toNatClampNeg ((I_3 (mb + 10) (((45 : Int32) + ((11 : Int32) * x2)) + (5 : Int32)).toNatClampNeg) - (1 : Int32))) fun I_8 =>
        yb_b3 (f12_caseOf mb x2 (5 : Int32) I_8 J_4) fun r_9 I_10 J_11 =>
        if r_9 ≤ 0 then
          yb_b3 (f12_isRuled mb x2 I_10 J_11) fun r_14 I_15 J_16 =>
          yb_let (x1 ||| ((1 : Int32) <<< (x2 &&& 31))) fun x1_18 =>
          yb_let (x2 + (1 : Int32)) fun x2_19 =>
          f12_passes_L4 N mb n x1_18 x2_19 I_15 J_16
        else
          yb_let (x2 + (1 : Int32)) fun x2_20 =>
          f12_passes_L4 N mb n x1 x2_20 I_10 J_11
      else
        yb_let (x2 + (1 : Int32)) fun x2_21 =>
        f12_passes_L4 N mb n x1 x2_21 I_3 J_4
def f12_passes (N : Nat) (mb : Nat) (I : IT) (J : JT) : Option (Int32 × IT × JT) :=
  yb_b3 (f12_passes_L4 N mb N (0 : Int32) (0 : Int32) I J) fun q_22 I_23 J_24 =>
  yb_let (up2 I_23 (mb + 10) 4 ((I_23 (mb + 10) 4) + (1 : Int32))) fun I_26 =>
  some (q_22, I_26, J_24)
def f12_bits_L4 (N : Nat) (mb : Nat) : Nat → Int32 → Int32 → IT → JT → Option ((Int32) × IT × JT)
  | 0, _, _, _, _ => none
  | n + 1, x1, x2, I, J =>
    if x2 = 0 then
      some (x1, I, J)
    else
      yb_let (x1 + (1 : Int32)) fun x1_2 =>
      yb_let (x2 &&& (x2 - (1 : Int32))) fun x2_3 =>
      f12_bits_L4 N mb n x1_2 x2_3 I J
def f12_bits (N : Nat) (mb : Nat) (x0 : Int32) (I : IT) (J : JT) : Option (Int32 × IT × JT) :=
  yb_b3 (f12_bits_L4 N mb N (0 : Int32) x0 I J) fun q_4 I_5 J_6 =>
  some (q_4, I_5, J_6)
def f12_day (N : Nat) (mb : Nat) (I : IT) (J : JT) : Option (Int32 × IT × JT) :=
  yb_b3 (f12_isTown mb  I J) fun r_1 I_2 J_3 =>
  if r_1 = 0 then
    some ((-1 : Int32), I_2, J_3)
  else
    if (I_2 (mb + 10) 4) = (999 : Int32) then
      some ((-1 : Int32), I_2, J_3)
    else
      yb_b3 (f12_keepsAct N mb  I_2 J_3) fun r_7 I_8 J_9 =>
      yb_b3 (f12_passes N mb  I_8 J_9) fun r_11 I_12 J_13 =>
      yb_b3 (f12_bits N mb r_11 I_12 J_13) fun r_15 I_16 J_17 =>
      some (r_15, I_16, J_17)
def f12_mayHear (N : Nat) (mb : Nat) (x1 : Int32) (x2 : Int32) (I : IT) (J : JT) : Option (Int32 × IT × JT) :=
  yb_b3 (f12_caseOf mb x1 (4 : Int32) I J) fun r_1 I_2 J_3 =>
  if 0 ≤ r_1 then
    some ((0 : Int32), I_2, J_3)
  else
    yb_b3 (f12_hearsNow N mb x2 I_2 J_3) fun r_6 I_7 J_8 =>
    if 0 ≤ r_6 then
      some ((0 : Int32), I_7, J_8)
    else
      yb_b3 (f12_canHear N mb x1 x2 (I_7 (mb + 10) 4) I_7 J_8) fun r_11 I_12 J_13 =>
      if r_11 = 0 then
        some ((0 : Int32), I_12, J_13)
      else
        yb_b3 (f12_caseOf mb x1 (9 : Int32) I_12 J_13) fun r_16 I_17 J_18 =>
        if r_16 = 0 then
          some ((1 : Int32), I_17, J_18)
        else
          yb_b3 (f12_caseOf mb x1 (6 : Int32) I_17 J_18) fun r_21 I_22 J_23 =>
          yb_b3 (f12_isYounger mb x2 r_21 I_22 J_23) fun r_25 I_26 J_27 =>
          if r_25 = 0 then
            some ((0 : Int32), I_26, J_27)
          else
            some ((1 : Int32), I_26, J_27)
def f12_begins (N : Nat) (mb : Nat) (x1 : Int32) (x2 : Int32) (I : IT) (J : JT) : Option (Int32 × IT × JT) :=
  yb_let ((45 : Int32) + ((11 : Int32) * x1)) fun x3_1 =>
  yb_b3 (f12_rightOf N mb x1 x2 (I (mb + 10) 4) I J) fun r_2 I_3 J_4 =>
  yb_ck (inb (x3_1 + (4 : Int32)) 142) fun _ =>
  yb_let (up2 I_3 (mb + 10) (x3_1 + (4 : Int32)).toNatClampNeg x2) fun I_7 =>
  yb_ck (inb (x3_1 + (2 : Int32)) 142) fun _ =>
  yb_ck (inb (x3_1 + (5 : Int32)) 142) fun _ =>
  yb_let (up2 I_7 (mb + 10) (x3_1 + (5 : Int32)).toNatClampNeg (I_7 (mb + 10) (x3_1 + (2 : Int32)).toNatClampNeg)) fun I_10 =>
  yb_ck (inb (x3_1 + (10 : Int32)) 142) fun _ =>
  yb_let (up2 I_10 (mb + 10) (x3_1 + (10 : Int32)).toNatClampNeg r_2) fun I_12 =>
  some (r_2, I_12, J_4)
def f12_hear (N : Nat) (mb : Nat) (x1 : Int32) (x2 : Int32) (I : IT) (J : JT) : Option (Int32 × IT × JT) :=
  yb_b3 (f12_isCase mb x1 I J) fun r_1 I_2 J_3 =>
  if r_1 = 0 then
    some ((-1 : Int32), I_2, J_3)
  else
    yb_b3 (f12_isPerson mb x2 I_2 J_3) fun r_6 I_7 J_8 =>
    if r_6 = 0 then
      some ((-1 : Int32), I_7, J_8)
    else
      yb_b3 (f12_mayHear N mb x1 x2 I_7 J_8) fun r_11 I_12 J_13 =>
      if r_11 = 0 then
        some ((-1 : Int32), I_12, J_13)
      else
        yb_b3 (f12_keepsAct N mb  I_12 J_13) fun r_16 I_17 J_18 =>
        yb_b3 (f12_begins N mb x1 x2 I_17 J_18) fun r_20 I_21 J_22 =>
        some (r_20, I_21, J_22)
def f12_teach (N : Nat) (mb : Nat) (x1 : Int32) (I : IT) (J : JT) : Option (Int32 × IT × JT) :=
  yb_b3 (f12_isPerson mb x1 I J) fun r_1 I_2 J_3 =>
  if r_1 = 0 then
    some ((-1 : Int32), I_2, J_3)
  else
    yb_b3 (f12_personOf mb x1 (1 : Int32) I_2 J_3) fun r_6 I_7 J_8 =>
    if r_6 = (9 : Int32) then
      some ((-1 : Int32), I_7, J_8)
    else
      yb_b3 (f12_keepsAct N mb  I_7 J_8) fun r_11 I_12 J_13 =>
      yb_ck (inb (((10 : Int32) + ((5 : Int32) * x1)) + (1 : Int32)) 142) fun _ =>
      yb_let (up2 I_12 (mb + 10) (((10 : Int32) + ((5 : Int32) * x1)) + (1 : Int32)).toNatClampNeg ((I_12 (mb + 10) (((10 : Int32) + ((5 : Int32) * x1)) + (1 : Int32)).toNatClampNeg) + (1 : Int32))) fun I_16 =>
      yb_b3 (f12_personOf mb x1 (1 : Int32) I_16 J_13) fun r_17 I_18 J_19 =>
      some (r_17, I_18, J_19)
def f12_soonest_L25 (N : Nat) (mb : Nat) (x1 : Int32) (x2 : Int32) : Nat → Int32 → IT → JT → Option ((Int32 ⊕ (Unit)) × IT × JT)
  | 0, _, _, _ => none
  | n + 1, x3, I, J =>
    if ((I (mb + 10) 4) + (100 : Int32)) ≤ x3 then
      some (Sum.inr (), I, J)
    else
      yb_b3 (f12_canHear N mb x1 x2 x3 I J) fun r_13 I_14 J_15 =>
      if r_13 = 0 then
        yb_let (x3 + (1 : Int32)) fun x3_18 =>
        f12_soonest_L25 N mb x1 x2 n x3_18 I_14 J_15
      else
        some (Sum.inl x3, I_14, J_15)
def f12_soonest (N : Nat) (mb : Nat) (x1 : Int32) (x2 : Int32) (I : IT) (J : JT) : Option (Int32 × IT × JT) :=
  yb_b3 (f12_isCase mb x1 I J) fun r_1 I_2 J_3 =>
  if r_1 = 0 then
    some ((-1 : Int32), I_2, J_3)
  else
    yb_b3 (f12_isPerson mb x2 I_2 J_3) fun r_6 I_7 J_8 =>
    if r_6 = 0 then
      some ((-1 : Int32), I_7, J_8)
    else
      yb_let (I_7 (mb + 10) 4) fun x3_11 =>
      yb_b3 (f12_soonest_L25 N mb x1 x2 N x3_11 I_7 J_8) fun q_19 I_20 J_21 =>
      yb_sm q_19 (fun v_23 => some (v_23, I_20, J_21)) fun x_24 =>
      some ((-2 : Int32), I_20, J_21)
def f12_spot (mb : Nat) (x0 : Int32) (x1 : Int32) (x2 : Int32) (I : IT) (J : JT) : Option (Int32 × IT × JT) :=
  some (((((x0 * (7 : Int32)) + x1) * (100 : Int32)) + x2), I, J)
def f12_fillsOpen_L7 (N : Nat) (mb : Nat) : Nat → Int32 → IT → JT → Option ((Unit) × IT × JT)
  | 0, _, _, _ => none
  | n + 1, x1, I, J =>
    if (I (mb + 10) 3) ≤ x1 then
      some ((), I, J)
    else
      yb_b3 (f12_caseOf mb x1 (4 : Int32) I J) fun r_3 I_4 J_5 =>
      if 0 ≤ r_3 then
        yb_let (x1 + (1 : Int32)) fun x1_8 =>
        f12_fillsOpen_L7 N mb n x1_8 I_4 J_5
      else
        yb_b3 (f12_caseOf mb x1 (9 : Int32) I_4 J_5) fun r_9 I_10 J_11 =>
        if r_9 ≤ 0 then
          yb_ck (inb (I_10 mb 25) 6) fun _ =>
          yb_let (up2 I_10 (mb + 12) (I_10 mb 25).toNatClampNeg x1) fun I_15 =>
          yb_let (up2 I_15 mb 25 ((I_15 mb 25) + (1 : Int32))) fun I_16 =>
          yb_let (x1 + (1 : Int32)) fun x1_17 =>
          f12_fillsOpen_L7 N mb n x1_17 I_16 J_11
        else
          yb_let (x1 + (1 : Int32)) fun x1_18 =>
          f12_fillsOpen_L7 N mb n x1_18 I_10 J_11
def f12_fillsOpen (N : Nat) (mb : Nat) (I : IT) (J : JT) : Option (Unit × IT × JT) :=
  yb_let (up2 I mb 25 (0 : Int32)) fun I_1 =>
  yb_b3 (f12_fillsOpen_L7 N mb N (0 : Int32) I_1 J) fun q_19 I_20 J_21 =>
  some ((), I_20, J_21)
def f12_fillsSpots_L24 (N : Nat) (mb : Nat) (x1 : Int32) (x2 : Int32) : Nat → Int32 → IT → JT → Option ((Unit) × IT × JT)
  | 0, _, _, _ => none
  | n + 1, x3, I, J =>
    if (100 : Int32) ≤ x3 then
      some ((), I, J)
    else
      yb_ck (inb x1 6) fun _ =>
      yb_b3 (f12_canHear N mb (I (mb + 12) x1.toNatClampNeg) x2 ((I (mb + 10) 4) + x3) I J) fun r_5 I_6 J_7 =>
      yb_b3 (f12_spot mb x1 x2 x3 I_6 J_7) fun r_9 I_10 J_11 =>
      yb_ck (inb r_9 2800) fun _ =>
      yb_let (up2 I_10 (mb + 13) r_9.toNatClampNeg (vp_nar .boolean r_5)) fun I_14 =>
      yb_b3 (f12_spot mb x1 x2 x3 I_14 J_11) fun r_15 I_16 J_17 =>
      if r_5 = 0 then
        yb_ck (inb r_15 2800) fun _ =>
        yb_let (up2 I_16 (mb + 14) r_15.toNatClampNeg (0 : Int32)) fun I_21 =>
        yb_let (x3 + (1 : Int32)) fun x3_22 =>
        f12_fillsSpots_L24 N mb x1 x2 n x3_22 I_21 J_17
      else
        yb_b3 (f12_rightOf N mb (I_16 (mb + 12) x1.toNatClampNeg) x2 ((I_16 (mb + 10) 4) + x3) I_16 J_17) fun r_23 I_24 J_25 =>
        yb_ck (inb r_15 2800) fun _ =>
        yb_let (up2 I_24 (mb + 14) r_15.toNatClampNeg r_23) fun I_28 =>
        yb_let (x3 + (1 : Int32)) fun x3_29 =>
        f12_fillsSpots_L24 N mb x1 x2 n x3_29 I_28 J_25
def f12_fillsSpots_L12 (N : Nat) (mb : Nat) (x1 : Int32) : Nat → Int32 → IT → JT → Option ((Unit) × IT × JT)
  | 0, _, _, _ => none
  | n + 1, x2, I, J =>
    if (I (mb + 10) 2) ≤ x2 then
      some ((), I, J)
    else
      yb_b3 (f12_fillsSpots_L24 N mb x1 x2 N (0 : Int32) I J) fun q_30 I_31 J_32 =>
      yb_let (x2 + (1 : Int32)) fun x2_34 =>
      f12_fillsSpots_L12 N mb x1 n x2_34 I_31 J_32
def f12_fillsSpots_L2 (N : Nat) (mb : Nat) : Nat → Int32 → IT → JT → Option ((Unit) × IT × JT)
  | 0, _, _, _ => none
  | n + 1, x1, I, J =>
    if (I mb 25) ≤ x1 then
      some ((), I, J)
    else
      yb_b3 (f12_fillsSpots_L12 N mb x1 N (0 : Int32) I J) fun q_35 I_36 J_37 =>
      yb_let (x1 + (1 : Int32)) fun x1_39 =>
      f12_fillsSpots_L2 N mb n x1_39 I_36 J_37
def f12_fillsSpots (N : Nat) (mb : Nat) (I : IT) (J : JT) : Option (Unit × IT × JT) :=
  yb_b3 (f12_fillsSpots_L2 N mb N (0 : Int32) I J) fun q_40 I_41 J_42 =>
  some ((), I_41, J_42)
def f12_lengthOf (mb : Nat) (x1 : Int32) (I : IT) (J : JT) : Option (Int32 × IT × JT) :=
  yb_ck (inb x1 6) fun _ =>
  yb_b3 (f12_caseOf mb (I (mb + 12) x1.toNatClampNeg) (2 : Int32) I J) fun r_2 I_3 J_4 =>
  some (r_2, I_3, J_4)
def f12_isBusy_L28 (N : Nat) (mb : Nat) (x1 : Int32) (x2 : Int32) (x3 : Int32) (x4 : Int32) : Nat → Int32 → IT → JT → Option ((Int32 ⊕ (Unit)) × IT × JT)
  | 0, _, _, _ => none
  | n + 1, x6, I, J =>
    if x1 ≤ x6 then
      some (Sum.inr (), I, J)
    else
      yb_ck (inb x6 4) fun _ =>
      if (I (mb + 16) x6.toNatClampNeg) = x2 then
        yb_b3 (f12_lengthOf mb (I (mb + 15) x6.toNatClampNeg) I J) fun r_10 I_11 J_12 =>
        if ((I (mb + 17) x6.toNatClampNeg) + r_10) ≤ x3 then
          yb_let (x6 + (1 : Int32)) fun x6_15 =>
          f12_isBusy_L28 N mb x1 x2 x3 x4 n x6_15 I_11 J_12
        else
          if (x3 + x4) ≤ (I_11 (mb + 17) x6.toNatClampNeg) then
            yb_let (x6 + (1 : Int32)) fun x6_17 =>
            f12_isBusy_L28 N mb x1 x2 x3 x4 n x6_17 I_11 J_12
          else
            some (Sum.inl (1 : Int32), I_11, J_12)
      else
        yb_let (x6 + (1 : Int32)) fun x6_9 =>
        f12_isBusy_L28 N mb x1 x2 x3 x4 n x6_9 I J
def f12_isBusy (N : Nat) (mb : Nat) (x1 : Int32) (x2 : Int32) (x3 : Int32) (x4 : Int32) (I : IT) (J : JT) : Option (Int32 × IT × JT) :=
  yb_b3 (f12_hearsNow N mb x2 I J) fun r_1 I_2 J_3 =>
  if r_1 < 0 then
    yb_b3 (f12_isBusy_L28 N mb x1 x2 x3 x4 N (0 : Int32) I_2 J_3) fun q_18 I_19 J_20 =>
    yb_sm q_18 (fun v_22 => some (v_22, I_19, J_20)) fun x_23 =>
    some ((0 : Int32), I_19, J_20)
  else
    yb_b3 (f12_caseOf mb r_1 (5 : Int32) I_2 J_3) fun r_24 I_25 J_26 =>
    if r_24 ≤ x3 then
      yb_b3 (f12_isBusy_L28 N mb x1 x2 x3 x4 N (0 : Int32) I_25 J_26) fun q_29 I_30 J_31 =>
      yb_sm q_29 (fun v_33 => some (v_33, I_30, J_31)) fun x_34 =>
      some ((0 : Int32), I_30, J_31)
    else
      some ((1 : Int32), I_25, J_26)
def f12_firstDay_L3 (N : Nat) (mb : Nat) (x1 : Int32) (x2 : Int32) (x3 : Int32) : Nat → Int32 → IT → JT → Option ((Int32 ⊕ (Unit)) × IT × JT)
  | 0, _, _, _ => none
  | n + 1, x4, I, J =>
    if (100 : Int32) ≤ x4 then
      some (Sum.inr (), I, J)
    else
      yb_b3 (f12_spot mb x2 x3 x4 I J) fun r_2 I_3 J_4 =>
      yb_ck (inb r_2 2800) fun _ =>
      if (I_3 (mb + 13) r_2.toNatClampNeg) = 0 then
        yb_let (x4 + (1 : Int32)) fun x4_8 =>
        f12_firstDay_L3 N mb x1 x2 x3 n x4_8 I_3 J_4
      else
        yb_b3 (f12_lengthOf mb x2 I_3 J_4) fun r_9 I_10 J_11 =>
        yb_b3 (f12_isBusy N mb x1 x3 x4 r_9 I_10 J_11) fun r_13 I_14 J_15 =>
        if r_13 = 0 then
          some (Sum.inl x4, I_14, J_15)
        else
          yb_let (x4 + (1 : Int32)) fun x4_18 =>
          f12_firstDay_L3 N mb x1 x2 x3 n x4_18 I_14 J_15
def f12_firstDay (N : Nat) (mb : Nat) (x1 : Int32) (x2 : Int32) (x3 : Int32) (I : IT) (J : JT) : Option (Int32 × IT × JT) :=
  yb_b3 (f12_firstDay_L3 N mb x1 x2 x3 N (0 : Int32) I J) fun q_19 I_20 J_21 =>
  yb_sm q_19 (fun v_23 => some (v_23, I_20, J_21)) fun x_24 =>
  some ((-1 : Int32), I_20, J_21)
def f12_isAhead_L2 (N : Nat) (mb : Nat) : Nat → Int32 → IT → JT → Option ((Int32 ⊕ (Unit)) × IT × JT)
  | 0, _, _, _ => none
  | n + 1, x1, I, J =>
    if (I mb 25) ≤ x1 then
      some (Sum.inr (), I, J)
    else
      yb_ck (inb x1 4) fun _ =>
      if (I (mb + 15) x1.toNatClampNeg) = (I (mb + 18) x1.toNatClampNeg) then
        yb_let (x1 + (1 : Int32)) fun x1_4 =>
        f12_isAhead_L2 N mb n x1_4 I J
      else
        if (I (mb + 18) x1.toNatClampNeg) ≤ (I (mb + 15) x1.toNatClampNeg) then
          some (Sum.inl (0 : Int32), I, J)
        else
          some (Sum.inl (1 : Int32), I, J)
def f12_isAhead_L54 (N : Nat) (mb : Nat) : Nat → Int32 → IT → JT → Option ((Int32 ⊕ (Unit)) × IT × JT)
  | 0, _, _, _ => none
  | n + 1, x1, I, J =>
    if (I mb 25) ≤ x1 then
      some (Sum.inr (), I, J)
    else
      yb_ck (inb x1 4) fun _ =>
      if (I (mb + 16) x1.toNatClampNeg) = (I (mb + 19) x1.toNatClampNeg) then
        yb_let (x1 + (1 : Int32)) fun x1_15 =>
        f12_isAhead_L54 N mb n x1_15 I J
      else
        if (I (mb + 19) x1.toNatClampNeg) ≤ (I (mb + 16) x1.toNatClampNeg) then
          some (Sum.inl (0 : Int32), I, J)
        else
          some (Sum.inl (1 : Int32), I, J)
def f12_isAhead (N : Nat) (mb : Nat) (I : IT) (J : JT) : Option (Int32 × IT × JT) :=
  yb_b3 (f12_isAhead_L2 N mb N (0 : Int32) I J) fun q_6 I_7 J_8 =>
  yb_sm q_6 (fun v_10 => some (v_10, I_7, J_8)) fun x_11 =>
  yb_b3 (f12_isAhead_L54 N mb N (0 : Int32) I_7 J_8) fun q_17 I_18 J_19 =>
  yb_sm q_17 (fun v_21 => some (v_21, I_18, J_19)) fun x_22 =>
  some ((0 : Int32), I_18, J_19)
def f12_countsRow_L6 (N : Nat) (mb : Nat) : Nat → Int32 → Int32 → Int32 → IT → JT → Option ((Int32 × Int32) × IT × JT)
  | 0, _, _, _, _, _ => none
  | n + 1, x1, x2, x3, I, J =>
    if (I mb 25) ≤ x3 then
      some ((x1, x2), I, J)
    else
      yb_ck (inb x3 4) fun _ =>
      yb_b3 (f12_lengthOf mb (I (mb + 15) x3.toNatClampNeg) I J) fun r_3 I_4 J_5 =>
      yb_let (((I (mb + 17) x3.toNatClampNeg) + r_3) - (1 : Int32)) fun x4_7 =>
      yb_b3 (f12_spot mb (I_4 (mb + 15) x3.toNatClampNeg) (I_4 (mb + 16) x3.toNatClampNeg) (I_4 (mb + 17) x3.toNatClampNeg) I_4 J_5) fun r_8 I_9 J_10 =>
      yb_ck (inb r_8 2800) fun _ =>
      yb_let (x1 + (I_9 (mb + 14) r_8.toNatClampNeg)) fun x1_13 =>
      if x4_7 ≤ x2 then
        yb_let (x3 + (1 : Int32)) fun x3_15 =>
        f12_countsRow_L6 N mb n x1_13 x2 x3_15 I_9 J_10
      else
        yb_let (x3 + (1 : Int32)) fun x3_16 =>
        f12_countsRow_L6 N mb n x1_13 x4_7 x3_16 I_9 J_10
def f12_countsRow_L144 (N : Nat) (mb : Nat) : Nat → Int32 → IT → JT → Option ((Unit) × IT × JT)
  | 0, _, _, _ => none
  | n + 1, x3, I, J =>
    if (I mb 25) ≤ x3 then
      some ((), I, J)
    else
      yb_ck (inb x3 4) fun _ =>
      yb_let (up2 I (mb + 18) x3.toNatClampNeg (I (mb + 15) x3.toNatClampNeg)) fun I_28 =>
      yb_let (up2 I_28 (mb + 19) x3.toNatClampNeg (I_28 (mb + 16) x3.toNatClampNeg)) fun I_29 =>
      yb_let (up2 I_29 (mb + 20) x3.toNatClampNeg (I_29 (mb + 17) x3.toNatClampNeg)) fun I_30 =>
      yb_let (x3 + (1 : Int32)) fun x3_31 =>
      f12_countsRow_L144 N mb n x3_31 I_30 J
def f12_countsRow (N : Nat) (mb : Nat) (I : IT) (J : JT) : Option (Unit × IT × JT) :=
  yb_b3 (f12_countsRow_L6 N mb N (0 : Int32) (-1 : Int32) (0 : Int32) I J) fun q_17 I_18 J_19 =>
  if q_17.1 < (I_18 mb 35) then
    some ((), I_18, J_19)
  else
    if q_17.1 = (I_18 mb 35) then
      if q_17.2 ≤ (I_18 mb 36) then
        if q_17.1 = (I_18 mb 35) then
          if q_17.2 = (I_18 mb 36) then
            yb_b3 (f12_isAhead N mb  I_18 J_19) fun r_69 I_70 J_71 =>
            if r_69 = 0 then
              some ((), I_70, J_71)
            else
              yb_let (up2 I_70 mb 35 q_17.1) fun I_74 =>
              yb_let (up2 I_74 mb 36 q_17.2) fun I_75 =>
              yb_b3 (f12_countsRow_L144 N mb N (0 : Int32) I_75 J_71) fun q_76 I_77 J_78 =>
              some ((), I_77, J_78)
          else
            yb_let (up2 I_18 mb 35 q_17.1) fun I_63 =>
            yb_let (up2 I_63 mb 36 q_17.2) fun I_64 =>
            yb_b3 (f12_countsRow_L144 N mb N (0 : Int32) I_64 J_19) fun q_65 I_66 J_67 =>
            some ((), I_66, J_67)
        else
          yb_let (up2 I_18 mb 35 q_17.1) fun I_56 =>
          yb_let (up2 I_56 mb 36 q_17.2) fun I_57 =>
          yb_b3 (f12_countsRow_L144 N mb N (0 : Int32) I_57 J_19) fun q_58 I_59 J_60 =>
          some ((), I_59, J_60)
      else
        some ((), I_18, J_19)
    else
      if q_17.1 = (I_18 mb 35) then
        if q_17.2 = (I_18 mb 36) then
          yb_b3 (f12_isAhead N mb  I_18 J_19) fun r_43 I_44 J_45 =>
          if r_43 = 0 then
            some ((), I_44, J_45)
          else
            yb_let (up2 I_44 mb 35 q_17.1) fun I_48 =>
            yb_let (up2 I_48 mb 36 q_17.2) fun I_49 =>
            yb_b3 (f12_countsRow_L144 N mb N (0 : Int32) I_49 J_45) fun q_50 I_51 J_52 =>
            some ((), I_51, J_52)
        else
          yb_let (up2 I_18 mb 35 q_17.1) fun I_37 =>
          yb_let (up2 I_37 mb 36 q_17.2) fun I_38 =>
          yb_b3 (f12_countsRow_L144 N mb N (0 : Int32) I_38 J_19) fun q_39 I_40 J_41 =>
          some ((), I_40, J_41)
      else
        yb_let (up2 I_18 mb 35 q_17.1) fun I_24 =>
        yb_let (up2 I_24 mb 36 q_17.2) fun I_25 =>
        yb_b3 (f12_countsRow_L144 N mb N (0 : Int32) I_25 J_19) fun q_32 I_33 J_34 =>
        some ((), I_33, J_34)
def f12_goesOnAt_L70 (N : Nat) (mb : Nat) (x1 : Int32) : Nat → Int32 → Int32 → IT → JT → Option ((Int32) × IT × JT)
  | 0, _, _, _, _ => none
  | n + 1, x2, x3, I, J =>
    if x1 ≤ x3 then
      some (x2, I, J)
    else
      if x2 = 0 then
        yb_ck (inb x3 4) fun _ =>
        yb_ck (inb x1 4) fun _ =>
        if (I (mb + 15) x3.toNatClampNeg) = (I (mb + 15) x1.toNatClampNeg) then
          yb_let (x3 + (1 : Int32)) fun x3_13 =>
          f12_goesOnAt_L70 N mb x1 n (1 : Int32) x3_13 I J
        else
          yb_let (x3 + (1 : Int32)) fun x3_12 =>
          f12_goesOnAt_L70 N mb x1 n (0 : Int32) x3_12 I J
      else
        yb_let (x3 + (1 : Int32)) fun x3_8 =>
        f12_goesOnAt_L70 N mb x1 n (1 : Int32) x3_8 I J
def f12_goesOnAt_L0 (N : Nat) (mb : Nat) (x1 : Int32) : Nat → IT → JT → Option ((Int32 ⊕ (Unit)) × IT × JT)
  | 0, _, _ => none
  | n + 1, I, J =>
    yb_ck (inb x1 4) fun _ =>
    yb_let (up2 I (mb + 16) x1.toNatClampNeg ((I (mb + 16) x1.toNatClampNeg) + (1 : Int32))) fun I_2 =>
    if (I_2 (mb + 16) x1.toNatClampNeg) = (I_2 (mb + 10) 2) then
      yb_let (up2 I_2 (mb + 16) x1.toNatClampNeg (0 : Int32)) fun I_25 =>
      yb_let (up2 I_25 (mb + 15) x1.toNatClampNeg ((I_25 (mb + 15) x1.toNatClampNeg) + (1 : Int32))) fun I_26 =>
      if (I_26 (mb + 15) x1.toNatClampNeg) = (I_26 mb 25) then
        some (Sum.inl (0 : Int32), I_26, J)
      else
        if (I_26 (mb + 10) 2) = 0 then
          some (Sum.inl (0 : Int32), I_26, J)
        else
          yb_b3 (f12_goesOnAt_L70 N mb x1 N (0 : Int32) (0 : Int32) I_26 J) fun q_29 I_30 J_31 =>
          if q_29 = 0 then
            yb_b3 (f12_firstDay N mb x1 (I_30 (mb + 15) x1.toNatClampNeg) (I_30 (mb + 16) x1.toNatClampNeg) I_30 J_31) fun r_34 I_35 J_36 =>
            yb_let (up2 I_35 (mb + 17) x1.toNatClampNeg r_34) fun I_38 =>
            if (I_38 (mb + 17) x1.toNatClampNeg) < 0 then
              f12_goesOnAt_L0 N mb x1 n  I_38 J_36
            else
              some (Sum.inl (1 : Int32), I_38, J_36)
          else
            f12_goesOnAt_L0 N mb x1 n  I_30 J_31
    else
      if (I_2 (mb + 15) x1.toNatClampNeg) = (I_2 mb 25) then
        some (Sum.inl (0 : Int32), I_2, J)
      else
        if (I_2 (mb + 10) 2) = 0 then
          some (Sum.inl (0 : Int32), I_2, J)
        else
          yb_b3 (f12_goesOnAt_L70 N mb x1 N (0 : Int32) (0 : Int32) I_2 J) fun q_14 I_15 J_16 =>
          if q_14 = 0 then
            yb_b3 (f12_firstDay N mb x1 (I_15 (mb + 15) x1.toNatClampNeg) (I_15 (mb + 16) x1.toNatClampNeg) I_15 J_16) fun r_19 I_20 J_21 =>
            yb_let (up2 I_20 (mb + 17) x1.toNatClampNeg r_19) fun I_23 =>
            if (I_23 (mb + 17) x1.toNatClampNeg) < 0 then
              f12_goesOnAt_L0 N mb x1 n  I_23 J_21
            else
              some (Sum.inl (1 : Int32), I_23, J_21)
          else
            f12_goesOnAt_L0 N mb x1 n  I_15 J_16
def f12_goesOnAt (N : Nat) (mb : Nat) (x1 : Int32) (I : IT) (J : JT) : Option (Int32 × IT × JT) :=
  yb_b3 (f12_goesOnAt_L0 N mb x1 N  I J) fun q_40 I_41 J_42 =>
  yb_sm q_40 (fun v_44 => some (v_44, I_41, J_42)) fun x_45 =>
  none
def f12_beginsPlace (mb : Nat) (x1 : Int32) (I : IT) (J : JT) : Option (Unit × IT × JT) :=
  yb_ck (inb x1 4) fun _ =>
  yb_let (up2 I (mb + 15) x1.toNatClampNeg (0 : Int32)) fun I_2 =>
  yb_let (up2 I_2 (mb + 16) x1.toNatClampNeg (-1 : Int32)) fun I_3 =>
  some ((), I_3, J)
def f12_findsBenches_L12 (N : Nat) (mb : Nat) : Nat → Int32 → IT → JT → Option ((Unit) × IT × JT)
  | 0, _, _, _ => none
  | n + 1, x1, I, J =>
    if (I mb 25) ≤ x1 then
      some ((), I, J)
    else
      yb_ck (inb x1 4) fun _ =>
      yb_let (up2 I (mb + 18) x1.toNatClampNeg (I mb 25)) fun I_5 =>
      yb_let (x1 + (1 : Int32)) fun x1_6 =>
      f12_findsBenches_L12 N mb n x1_6 I_5 J
def f12_findsBenches_L43 (N : Nat) (mb : Nat) : Nat → Int32 → IT → JT → Option ((Unit) × IT × JT)
  | 0, _, _, _ => none
  | n + 1, x1, I, J =>
    if x1 < 0 then
      some ((), I, J)
    else
      yb_b3 (f12_goesOnAt N mb x1 I J) fun r_16 I_17 J_18 =>
      if r_16 = 0 then
        yb_let (x1 + (-1 : Int32)) fun x1_31 =>
        f12_findsBenches_L43 N mb n x1_31 I_17 J_18
      else
        if x1 = ((I_17 mb 25) - (1 : Int32)) then
          yb_b3 (f12_countsRow N mb  I_17 J_18) fun r_27 I_28 J_29 =>
          f12_findsBenches_L43 N mb n x1 I_28 J_29
        else
          yb_let (x1 + (1 : Int32)) fun x1_22 =>
          yb_b3 (f12_beginsPlace mb x1_22 I_17 J_18) fun r_23 I_24 J_25 =>
          f12_findsBenches_L43 N mb n x1_22 I_24 J_25
def f12_findsBenches (N : Nat) (mb : Nat) (I : IT) (J : JT) : Option (Unit × IT × JT) :=
  yb_let (up2 I mb 35 (-1 : Int32)) fun I_1 =>
  yb_let (up2 I_1 mb 36 (-1 : Int32)) fun I_2 =>
  yb_b3 (f12_findsBenches_L12 N mb N (0 : Int32) I_2 J) fun q_7 I_8 J_9 =>
  yb_b3 (f12_beginsPlace mb (0 : Int32) I_8 J_9) fun r_11 I_12 J_13 =>
  yb_b3 (f12_findsBenches_L43 N mb N (0 : Int32) I_12 J_13) fun q_32 I_33 J_34 =>
  some ((), I_33, J_34)
def f12_benchesNow (N : Nat) (mb : Nat) (I : IT) (J : JT) : Option (Int32 × IT × JT) :=
  yb_b3 (f12_fillsOpen N mb  I J) fun r_1 I_2 J_3 =>
  if (I_2 mb 25) ≤ (4 : Int32) then
    yb_let (up2 I_2 mb 35 (0 : Int32)) fun I_6 =>
    yb_let (up2 I_6 mb 36 (-1 : Int32)) fun I_7 =>
    if (I_7 mb 25) = 0 then
      some ((0 : Int32), I_7, J_3)
    else
      yb_b3 (f12_fillsSpots N mb  I_7 J_3) fun r_9 I_10 J_11 =>
      yb_b3 (f12_findsBenches N mb  I_10 J_11) fun r_13 I_14 J_15 =>
      if 0 ≤ (I_14 mb 35) then
        some ((0 : Int32), I_14, J_15)
      else
        some ((-2 : Int32), I_14, J_15)
  else
    some ((-3 : Int32), I_2, J_3)
def f12_benches (N : Nat) (mb : Nat) (x1 : Int32) (I : IT) (J : JT) : Option (Int32 × IT × JT) :=
  yb_b3 (f12_isTown mb  I J) fun r_1 I_2 J_3 =>
  if r_1 = 0 then
    some ((-1 : Int32), I_2, J_3)
  else
    yb_b3 (f12_in mb (x1.toInt64) (0 : Int64) (13 : Int64) I_2 J_3) fun r_6 I_7 J_8 =>
    if r_6 = 0 then
      some ((-1 : Int32), I_7, J_8)
    else
      yb_b3 (f12_benchesNow N mb  I_7 J_8) fun r_11 I_12 J_13 =>
      if r_11 = 0 then
        if x1 = 0 then
          some ((I_12 mb 35), I_12, J_13)
        else
          if x1 = (1 : Int32) then
            if 0 ≤ (I_12 mb 36) then
              some (((I_12 (mb + 10) 4) + (I_12 mb 36)), I_12, J_13)
            else
              some ((-1 : Int32), I_12, J_13)
          else
            yb_let ((x1 - (2 : Int32)) - (x1 - (2 : Int32)) / (4 : Int32) * (4 : Int32)) fun x3_18 =>
            if x3_18 < (I_12 mb 25) then
              if (6 : Int32) ≤ x1 then
                if (10 : Int32) ≤ x1 then
                  yb_ck (inb x3_18 4) fun _ =>
                  some (((I_12 (mb + 10) 4) + (I_12 (mb + 20) x3_18.toNatClampNeg)), I_12, J_13)
                else
                  yb_ck (inb x3_18 4) fun _ =>
                  some ((I_12 (mb + 19) x3_18.toNatClampNeg), I_12, J_13)
              else
                yb_ck (inb x3_18 4) fun _ =>
                yb_ck (inb (I_12 (mb + 18) x3_18.toNatClampNeg) 6) fun _ =>
                some ((I_12 (mb + 12) (I_12 (mb + 18) x3_18.toNatClampNeg).toNatClampNeg), I_12, J_13)
            else
              some ((-2 : Int32), I_12, J_13)
      else
        some (r_11, I_12, J_13)
def f12_lesson_L28 (N : Nat) (mb : Nat) (x1 : Int32) : Nat → Int32 → Int32 → Int32 → IT → JT → Option ((Int32 × Int32) × IT × JT)
  | 0, _, _, _, _, _ => none
  | n + 1, x2, x3, x4, I, J =>
    if (I (mb + 10) 2) ≤ x4 then
      some ((x2, x3), I, J)
    else
      yb_let (((10 : Int32) + ((5 : Int32) * x4)) + (1 : Int32)) fun x5_12 =>
      yb_ck (inb x5_12 142) fun _ =>
      if (I (mb + 10) x5_12.toNatClampNeg) = (9 : Int32) then
        yb_let (x4 + (1 : Int32)) fun x4_30 =>
        f12_lesson_L28 N mb x1 n x2 x3 x4_30 I J
      else
        yb_let (up2 I (mb + 10) x5_12.toNatClampNeg ((I (mb + 10) x5_12.toNatClampNeg) + (1 : Int32))) fun I_15 =>
        yb_b3 (f12_benchesNow N mb  I_15 J) fun r_16 I_17 J_18 =>
        yb_let (up2 I_17 (mb + 10) x5_12.toNatClampNeg ((I_17 (mb + 10) x5_12.toNatClampNeg) - (1 : Int32))) fun I_20 =>
        if r_16 = 0 then
          if x2 < 0 then
            yb_let (I_20 mb 35) fun x3_24 =>
            yb_let (x4 + (1 : Int32)) fun x4_25 =>
            f12_lesson_L28 N mb x1 n x4 x3_24 x4_25 I_20 J_18
          else
            if x3 < (I_20 mb 35) then
              yb_let (I_20 mb 35) fun x3_27 =>
              yb_let (x4 + (1 : Int32)) fun x4_28 =>
              f12_lesson_L28 N mb x1 n x4 x3_27 x4_28 I_20 J_18
            else
              yb_let (x4 + (1 : Int32)) fun x4_29 =>
              f12_lesson_L28 N mb x1 n x2 x3 x4_29 I_20 J_18
        else
          yb_let (x4 + (1 : Int32)) fun x4_22 =>
          f12_lesson_L28 N mb x1 n x2 x3 x4_22 I_20 J_18
def f12_lesson (N : Nat) (mb : Nat) (x1 : Int32) (I : IT) (J : JT) : Option (Int32 × IT × JT) :=
  yb_b3 (f12_isTown mb  I J) fun r_1 I_2 J_3 =>
  if r_1 = 0 then
    some ((-1 : Int32), I_2, J_3)
  else
    yb_b3 (f12_in mb (x1.toInt64) (0 : Int64) (1 : Int64) I_2 J_3) fun r_6 I_7 J_8 =>
    if r_6 = 0 then
      some ((-1 : Int32), I_7, J_8)
    else
      yb_b3 (f12_lesson_L28 N mb x1 N (-2 : Int32) (-2 : Int32) (0 : Int32) I_7 J_8) fun q_31 I_32 J_33 =>
      yb_b3 (f12_fillsOpen N mb  I_32 J_33) fun r_35 I_36 J_37 =>
      if (I_36 mb 25) ≤ (4 : Int32) then
        if x1 = 0 then
          some (q_31.1, I_36, J_37)
        else
          some (q_31.2, I_36, J_37)
      else
        some ((-3 : Int32), I_36, J_37)
def f12_isNext (N : Nat) (mb : Nat) (x1 : Int32) (x2 : Int32) (x3 : Int32) (I : IT) (J : JT) : Option (Int32 × IT × JT) :=
  yb_b3 (f12_canHear N mb x1 x2 (I (mb + 10) 4) I J) fun r_1 I_2 J_3 =>
  if r_1 = 0 then
    some ((0 : Int32), I_2, J_3)
  else
    if x3 < 0 then
      some ((1 : Int32), I_2, J_3)
    else
      yb_b3 (f12_isYounger mb x2 x3 I_2 J_3) fun r_7 I_8 J_9 =>
      if r_7 = 0 then
        some ((0 : Int32), I_8, J_9)
      else
        some ((1 : Int32), I_8, J_9)
def f12_fillsChains_L2 (N : Nat) (mb : Nat) (x1 : Int32) : Nat → Int32 → IT → JT → Option ((Unit) × IT × JT)
  | 0, _, _, _ => none
  | n + 1, x2, I, J =>
    if (I (mb + 10) 2) ≤ x2 then
      some ((), I, J)
    else
      yb_b3 (f12_canHear N mb x1 x2 (I (mb + 10) 4) I J) fun r_2 I_3 J_4 =>
      if r_2 = 0 then
        yb_ck (inb x2 7) fun _ =>
        yb_let (up2 I_3 (mb + 21) x2.toNatClampNeg (0 : Int32)) fun I_8 =>
        yb_let (x2 + (1 : Int32)) fun x2_9 =>
        f12_fillsChains_L2 N mb x1 n x2_9 I_8 J_4
      else
        yb_ck (inb x2 7) fun _ =>
        yb_let (up2 I_3 (mb + 21) x2.toNatClampNeg (1 : Int32)) fun I_11 =>
        yb_let (x2 + (1 : Int32)) fun x2_12 =>
        f12_fillsChains_L2 N mb x1 n x2_12 I_11 J_4
def f12_fillsChains_L71 (N : Nat) (mb : Nat) (x2 : Int32) (x3 : Int32) : Nat → Int32 → IT → JT → Option ((Unit) × IT × JT)
  | 0, _, _, _ => none
  | n + 1, x4, I, J =>
    if (I (mb + 10) 2) ≤ x4 then
      some ((), I, J)
    else
      yb_ck (inb x3 7) fun _ =>
      if (I (mb + 21) x3.toNatClampNeg) = 0 then
        yb_let (x4 + (1 : Int32)) fun x4_22 =>
        f12_fillsChains_L71 N mb x2 x3 n x4_22 I J
      else
        yb_ck (inb x4 7) fun _ =>
        if (I (mb + 21) x4.toNatClampNeg) = 0 then
          yb_let (x4 + (1 : Int32)) fun x4_25 =>
          f12_fillsChains_L71 N mb x2 x3 n x4_25 I J
        else
          yb_b3 (f12_isYounger mb x4 x3 I J) fun r_26 I_27 J_28 =>
          if r_26 = 0 then
            yb_let (x4 + (1 : Int32)) fun x4_35 =>
            f12_fillsChains_L71 N mb x2 x3 n x4_35 I_27 J_28
          else
            if ((I_27 (mb + 21) x4.toNatClampNeg) + (1 : Int32)) ≤ (I_27 (mb + 21) x3.toNatClampNeg) then
              yb_let (x4 + (1 : Int32)) fun x4_32 =>
              f12_fillsChains_L71 N mb x2 x3 n x4_32 I_27 J_28
            else
              yb_let (up2 I_27 (mb + 21) x3.toNatClampNeg ((I_27 (mb + 21) x4.toNatClampNeg) + (1 : Int32))) fun I_33 =>
              yb_let (x4 + (1 : Int32)) fun x4_34 =>
              f12_fillsChains_L71 N mb x2 x3 n x4_34 I_33 J_28
def f12_fillsChains_L58 (N : Nat) (mb : Nat) (x2 : Int32) : Nat → Int32 → IT → JT → Option ((Unit) × IT × JT)
  | 0, _, _, _ => none
  | n + 1, x3, I, J =>
    if (I (mb + 10) 2) ≤ x3 then
      some ((), I, J)
    else
      yb_b3 (f12_fillsChains_L71 N mb x2 x3 N (0 : Int32) I J) fun q_36 I_37 J_38 =>
      yb_let (x3 + (1 : Int32)) fun x3_40 =>
      f12_fillsChains_L58 N mb x2 n x3_40 I_37 J_38
def f12_fillsChains_L46 (N : Nat) (mb : Nat) : Nat → Int32 → IT → JT → Option ((Unit) × IT × JT)
  | 0, _, _, _ => none
  | n + 1, x2, I, J =>
    if (I (mb + 10) 2) ≤ x2 then
      some ((), I, J)
    else
      yb_b3 (f12_fillsChains_L58 N mb x2 N (0 : Int32) I J) fun q_41 I_42 J_43 =>
      yb_let (x2 + (1 : Int32)) fun x2_45 =>
      f12_fillsChains_L46 N mb n x2_45 I_42 J_43
def f12_fillsChains (N : Nat) (mb : Nat) (x1 : Int32) (I : IT) (J : JT) : Option (Unit × IT × JT) :=
  yb_b3 (f12_fillsChains_L2 N mb x1 N (0 : Int32) I J) fun q_13 I_14 J_15 =>
  yb_b3 (f12_fillsChains_L46 N mb N (0 : Int32) I_14 J_15) fun q_46 I_47 J_48 =>
  some ((), I_47, J_48)
def f12_down_L41 (N : Nat) (mb : Nat) (x1 : Int32) (x2 : Int32) (x3 : Int32) : Nat → Int32 → Int32 → IT → JT → Option ((Int32) × IT × JT)
  | 0, _, _, _, _ => none
  | n + 1, x4, x5, I, J =>
    if (I (mb + 10) 2) ≤ x5 then
      some (x4, I, J)
    else
      yb_b3 (f12_isNext N mb x1 x5 x3 I J) fun r_20 I_21 J_22 =>
      if r_20 = 0 then
        yb_let (x5 + (1 : Int32)) fun x5_25 =>
        f12_down_L41 N mb x1 x2 x3 n x4 x5_25 I_21 J_22
      else
        yb_ck (inb x5 7) fun _ =>
        if (I_21 (mb + 21) x5.toNatClampNeg) ≤ x4 then
          yb_let (x5 + (1 : Int32)) fun x5_28 =>
          f12_down_L41 N mb x1 x2 x3 n x4 x5_28 I_21 J_22
        else
          yb_let (I_21 (mb + 21) x5.toNatClampNeg) fun x4_29 =>
          yb_let (x5 + (1 : Int32)) fun x5_30 =>
          f12_down_L41 N mb x1 x2 x3 n x4_29 x5_30 I_21 J_22
def f12_down_L118 (N : Nat) (mb : Nat) (x1 : Int32) (x2 : Int32) (x3 : Int32) (x4 : Int32) (x5 : Int32) : Nat → Int32 → IT → JT → Option ((Int32) × IT × JT)
  | 0, _, _, _ => none
  | n + 1, x6, I, J =>
    yb_b3 (f12_isNext N mb x1 x6 x3 I J) fun r_38 I_39 J_40 =>
    if r_38 = 0 then
      yb_let (x6 + (1 : Int32)) fun x6_43 =>
      f12_down_L118 N mb x1 x2 x3 x4 x5 n x6_43 I_39 J_40
    else
      yb_ck (inb x6 7) fun _ =>
      if (I_39 (mb + 21) x6.toNatClampNeg) = (x4 - x5) then
        some (x6, I_39, J_40)
      else
        yb_let (x6 + (1 : Int32)) fun x6_46 =>
        f12_down_L118 N mb x1 x2 x3 x4 x5 n x6_46 I_39 J_40
def f12_down_L109 (N : Nat) (mb : Nat) (x1 : Int32) (x2 : Int32) (x4 : Int32) : Nat → Int32 → Int32 → IT → JT → Option ((Int32) × IT × JT)
  | 0, _, _, _, _ => none
  | n + 1, x3, x5, I, J =>
    if x2 ≤ x5 then
      some (x3, I, J)
    else
      yb_b3 (f12_down_L118 N mb x1 x2 x3 x4 x5 N (0 : Int32) I J) fun q_47 I_48 J_49 =>
      yb_let (x5 + (1 : Int32)) fun x5_51 =>
      f12_down_L109 N mb x1 x2 x4 n q_47 x5_51 I_48 J_49
def f12_down (N : Nat) (mb : Nat) (x1 : Int32) (x2 : Int32) (I : IT) (J : JT) : Option (Int32 × IT × JT) :=
  yb_b3 (f12_isCase mb x1 I J) fun r_1 I_2 J_3 =>
  if r_1 = 0 then
    some ((-1 : Int32), I_2, J_3)
  else
    yb_b3 (f12_in mb (x2.toInt64) (0 : Int64) (7 : Int64) I_2 J_3) fun r_6 I_7 J_8 =>
    if r_6 = 0 then
      some ((-1 : Int32), I_7, J_8)
    else
      yb_b3 (f12_fillsChains N mb x1 I_7 J_8) fun r_11 I_12 J_13 =>
      yb_b3 (f12_caseOf mb x1 (6 : Int32) I_12 J_13) fun r_15 I_16 J_17 =>
      yb_b3 (f12_down_L41 N mb x1 x2 r_15 N (0 : Int32) (0 : Int32) I_16 J_17) fun q_31 I_32 J_33 =>
      if x2 = 0 then
        some (q_31, I_32, J_33)
      else
        if x2 ≤ q_31 then
          yb_b3 (f12_down_L109 N mb x1 x2 q_31 N r_15 (0 : Int32) I_32 J_33) fun q_52 I_53 J_54 =>
          some (q_52, I_53, J_54)
        else
          some ((-2 : Int32), I_32, J_33)
def f12_mostRight_L6 (N : Nat) (mb : Nat) (x1 : Int32) (x2 : Int32) (x3 : Int32) (x4 : Int32) : Nat → Int32 → Int32 → IT → JT → Option ((Int32) × IT × JT)
  | 0, _, _, _, _ => none
  | n + 1, x5, x6, I, J =>
    if (I (mb + 10) 2) ≤ x6 then
      some (x5, I, J)
    else
      yb_b3 (f12_canSit N mb x6 x1 x3 x4 I J) fun r_2 I_3 J_4 =>
      if r_2 = 0 then
        yb_let (x6 + (1 : Int32)) fun x6_18 =>
        f12_mostRight_L6 N mb x1 x2 x3 x4 n x5 x6_18 I_3 J_4
      else
        yb_b3 (f12_personOf mb x6 (4 : Int32) I_3 J_4) fun r_7 I_8 J_9 =>
        yb_b3 (f12_rightIn N mb x6 x1 x2 x3 x4 r_7 (0 : Int32) I_8 J_9) fun r_11 I_12 J_13 =>
        if r_11 ≤ x5 then
          yb_let (x6 + (1 : Int32)) fun x6_16 =>
          f12_mostRight_L6 N mb x1 x2 x3 x4 n x5 x6_16 I_12 J_13
        else
          yb_let (x6 + (1 : Int32)) fun x6_17 =>
          f12_mostRight_L6 N mb x1 x2 x3 x4 n r_11 x6_17 I_12 J_13
def f12_mostRight (N : Nat) (mb : Nat) (x1 : Int32) (x2 : Int32) (x3 : Int32) (x4 : Int32) (I : IT) (J : JT) : Option (Int32 × IT × JT) :=
  yb_b3 (f12_mostRight_L6 N mb x1 x2 x3 x4 N (0 : Int32) (0 : Int32) I J) fun q_19 I_20 J_21 =>
  some (q_19, I_20, J_21)
def f12_commit_L72 (N : Nat) (mb : Nat) (x1 : Int32) (x2 : Int32) (x3 : Int32) (x4 : Int32) (x5 : Int32) : Nat → Int32 → Int32 → Int32 → IT → JT → Option ((Int32 × Int32) × IT × JT)
  | 0, _, _, _, _, _ => none
  | n + 1, x6, x7, x8, I, J =>
    if ((I (mb + 10) 4) + x4) ≤ x8 then
      some ((x6, x7), I, J)
    else
      yb_b3 (f12_mostRight N mb x1 x2 x3 x8 I J) fun r_28 I_29 J_30 =>
      if x6 < 0 then
        yb_let (x8 + (1 : Int32)) fun x8_33 =>
        f12_commit_L72 N mb x1 x2 x3 x4 x5 n x8 r_28 x8_33 I_29 J_30
      else
        if r_28 < x7 then
          yb_let (x8 + (1 : Int32)) fun x8_35 =>
          f12_commit_L72 N mb x1 x2 x3 x4 x5 n x8 r_28 x8_35 I_29 J_30
        else
          yb_let (x8 + (1 : Int32)) fun x8_36 =>
          f12_commit_L72 N mb x1 x2 x3 x4 x5 n x6 x7 x8_36 I_29 J_30
def f12_commit (N : Nat) (mb : Nat) (x1 : Int32) (x2 : Int32) (x3 : Int32) (x4 : Int32) (x5 : Int32) (I : IT) (J : JT) : Option (Int32 × IT × JT) :=
  yb_b3 (f12_isPerson mb x1 I J) fun r_1 I_2 J_3 =>
  if r_1 = 0 then
    some ((-1 : Int32), I_2, J_3)
  else
    yb_b3 (f12_in mb (x2.toInt64) (1 : Int64) (9 : Int64) I_2 J_3) fun r_6 I_7 J_8 =>
    if r_6 = 0 then
      some ((-1 : Int32), I_7, J_8)
    else
      yb_b3 (f12_in mb (x3.toInt64) (1 : Int64) (9 : Int64) I_7 J_8) fun r_11 I_12 J_13 =>
      if r_11 = 0 then
        some ((-1 : Int32), I_12, J_13)
      else
        yb_b3 (f12_in mb (x4.toInt64) (1 : Int64) (60 : Int64) I_12 J_13) fun r_16 I_17 J_18 =>
        if r_16 = 0 then
          some ((-1 : Int32), I_17, J_18)
        else
          yb_b3 (f12_in mb (x5.toInt64) (0 : Int64) (1 : Int64) I_17 J_18) fun r_21 I_22 J_23 =>
          if r_21 = 0 then
            some ((-1 : Int32), I_22, J_23)
          else
            yb_let (I_22 (mb + 10) 4) fun x8_26 =>
            yb_b3 (f12_commit_L72 N mb x1 x2 x3 x4 x5 N (-1 : Int32) (0 : Int32) x8_26 I_22 J_23) fun q_37 I_38 J_39 =>
            if x5 = 0 then
              some (q_37.1, I_38, J_39)
            else
              some (q_37.2, I_38, J_39)
def f12_isTried_L22 (N : Nat) (mb : Nat) (x1 : Int32) (x2 : Int32) (x3 : Int32) : Nat → Int32 → IT → JT → Option ((Int32 ⊕ (Unit)) × IT × JT)
  | 0, _, _, _ => none
  | n + 1, x4, I, J =>
    if (I (mb + 10) 2) ≤ x4 then
      some (Sum.inr (), I, J)
    else
      yb_b3 (f12_canSit N mb x4 x1 (1 : Int32) x3 I J) fun r_4 I_5 J_6 =>
      if r_4 = 0 then
        yb_let (x4 + (1 : Int32)) fun x4_9 =>
        f12_isTried_L22 N mb x1 x2 x3 n x4_9 I_5 J_6
      else
        some (Sum.inl (1 : Int32), I_5, J_6)
def f12_isTried_L7 (N : Nat) (mb : Nat) (x1 : Int32) (x2 : Int32) : Nat → Int32 → IT → JT → Option ((Int32 ⊕ (Unit)) × IT × JT)
  | 0, _, _, _ => none
  | n + 1, x3, I, J =>
    if ((I (mb + 10) 4) + x2) ≤ x3 then
      some (Sum.inr (), I, J)
    else
      yb_b3 (f12_isTried_L22 N mb x1 x2 x3 N (0 : Int32) I J) fun q_10 I_11 J_12 =>
      yb_sm q_10 (fun v_14 => some (Sum.inl v_14, I_11, J_12)) fun x_15 =>
      yb_let (x3 + (1 : Int32)) fun x3_16 =>
      f12_isTried_L7 N mb x1 x2 n x3_16 I_11 J_12
def f12_isTried (N : Nat) (mb : Nat) (x1 : Int32) (x2 : Int32) (I : IT) (J : JT) : Option (Int32 × IT × JT) :=
  yb_let (I (mb + 10) 4) fun x3_1 =>
  yb_b3 (f12_isTried_L7 N mb x1 x2 N x3_1 I J) fun q_17 I_18 J_19 =>
  yb_sm q_17 (fun v_21 => some (v_21, I_18, J_19)) fun x_22 =>
  some ((0 : Int32), I_18, J_19)
def f12_above_L25 (N : Nat) (mb : Nat) (x1 : Int32) : Nat → Int32 → Int32 → IT → JT → Option ((Int32) × IT × JT)
  | 0, _, _, _, _ => none
  | n + 1, x2, x3, I, J =>
    if (I (mb + 10) 2) ≤ x3 then
      some (x2, I, J)
    else
      yb_b3 (f12_isTried N mb x3 x1 I J) fun r_12 I_13 J_14 =>
      if r_12 = 0 then
        yb_let (x2 ||| ((1 : Int32) <<< (x3 &&& 31))) fun x2_17 =>
        yb_let (x3 + (1 : Int32)) fun x3_18 =>
        f12_above_L25 N mb x1 n x2_17 x3_18 I_13 J_14
      else
        yb_let (x2 ||| (0 : Int32)) fun x2_19 =>
        yb_let (x3 + (1 : Int32)) fun x3_20 =>
        f12_above_L25 N mb x1 n x2_19 x3_20 I_13 J_14
def f12_above (N : Nat) (mb : Nat) (x1 : Int32) (I : IT) (J : JT) : Option (Int32 × IT × JT) :=
  yb_b3 (f12_isTown mb  I J) fun r_1 I_2 J_3 =>
  if r_1 = 0 then
    some ((-1 : Int32), I_2, J_3)
  else
    yb_b3 (f12_in mb (x1.toInt64) (1 : Int64) (60 : Int64) I_2 J_3) fun r_6 I_7 J_8 =>
    if r_6 = 0 then
      some ((-1 : Int32), I_7, J_8)
    else
      yb_b3 (f12_above_L25 N mb x1 N (0 : Int32) (0 : Int32) I_7 J_8) fun q_21 I_22 J_23 =>
      some (q_21, I_22, J_23)
def f12_clement_L32 (N : Nat) (mb : Nat) (x1 : Int32) (x2 : Int32) : Nat → Int32 → Int32 → Int32 → IT → JT → Option ((Int32 × Int32) × IT × JT)
  | 0, _, _, _, _, _ => none
  | n + 1, x3, x4, x5, I, J =>
    if (I (mb + 10) 2) ≤ x5 then
      some ((x3, x4), I, J)
    else
      yb_b3 (f12_canHear N mb x1 x5 (I (mb + 10) 4) I J) fun r_12 I_13 J_14 =>
      if r_12 = 0 then
        yb_let (x5 + (1 : Int32)) fun x5_54 =>
        f12_clement_L32 N mb x1 x2 n x3 x4 x5_54 I_13 J_14
      else
        yb_b3 (f12_rightOf N mb x1 x5 (I_13 (mb + 10) 4) I_13 J_14) fun r_17 I_18 J_19 =>
        if x3 < 0 then
          if x4 < 0 then
            yb_let (x5 + (1 : Int32)) fun x5_23 =>
            f12_clement_L32 N mb x1 x2 n x5 x5 x5_23 I_18 J_19
          else
            yb_b3 (f12_rightOf N mb x1 x4 (I_18 (mb + 10) 4) I_18 J_19) fun r_24 I_25 J_26 =>
            if r_17 ≤ r_24 then
              yb_let (x5 + (1 : Int32)) fun x5_29 =>
              f12_clement_L32 N mb x1 x2 n x5 x4 x5_29 I_25 J_26
            else
              yb_let (x5 + (1 : Int32)) fun x5_30 =>
              f12_clement_L32 N mb x1 x2 n x5 x5 x5_30 I_25 J_26
        else
          yb_b3 (f12_rightOf N mb x1 x3 (I_18 (mb + 10) 4) I_18 J_19) fun r_31 I_32 J_33 =>
          if r_31 ≤ r_17 then
            if x4 < 0 then
              yb_let (x5 + (1 : Int32)) fun x5_37 =>
              f12_clement_L32 N mb x1 x2 n x3 x5 x5_37 I_32 J_33
            else
              yb_b3 (f12_rightOf N mb x1 x4 (I_32 (mb + 10) 4) I_32 J_33) fun r_38 I_39 J_40 =>
              if r_17 ≤ r_38 then
                yb_let (x5 + (1 : Int32)) fun x5_43 =>
                f12_clement_L32 N mb x1 x2 n x3 x4 x5_43 I_39 J_40
              else
                yb_let (x5 + (1 : Int32)) fun x5_44 =>
                f12_clement_L32 N mb x1 x2 n x3 x5 x5_44 I_39 J_40
          else
            if x4 < 0 then
              yb_let (x5 + (1 : Int32)) fun x5_46 =>
              f12_clement_L32 N mb x1 x2 n x5 x5 x5_46 I_32 J_33
            else
              yb_b3 (f12_rightOf N mb x1 x4 (I_32 (mb + 10) 4) I_32 J_33) fun r_47 I_48 J_49 =>
              if r_17 ≤ r_47 then
                yb_let (x5 + (1 : Int32)) fun x5_52 =>
                f12_clement_L32 N mb x1 x2 n x5 x4 x5_52 I_48 J_49
              else
                yb_let (x5 + (1 : Int32)) fun x5_53 =>
                f12_clement_L32 N mb x1 x2 n x5 x5 x5_53 I_48 J_49
def f12_clement (N : Nat) (mb : Nat) (x1 : Int32) (x2 : Int32) (I : IT) (J : JT) : Option (Int32 × IT × JT) :=
  yb_b3 (f12_isCase mb x1 I J) fun r_1 I_2 J_3 =>
  if r_1 = 0 then
    some ((-1 : Int32), I_2, J_3)
  else
    yb_b3 (f12_in mb (x2.toInt64) (0 : Int64) (3 : Int64) I_2 J_3) fun r_6 I_7 J_8 =>
    if r_6 = 0 then
      some ((-1 : Int32), I_7, J_8)
    else
      yb_b3 (f12_clement_L32 N mb x1 x2 N (-2 : Int32) (-2 : Int32) (0 : Int32) I_7 J_8) fun q_55 I_56 J_57 =>
      if q_55.1 < 0 then
        some (q_55.1, I_56, J_57)
      else
        if x2 = 0 then
          some (q_55.1, I_56, J_57)
        else
          if x2 = (1 : Int32) then
            yb_b3 (f12_rightOf N mb x1 q_55.1 (I_56 (mb + 10) 4) I_56 J_57) fun r_67 I_68 J_69 =>
            some (r_67, I_68, J_69)
          else
            if x2 = (2 : Int32) then
              some (q_55.2, I_56, J_57)
            else
              yb_b3 (f12_rightOf N mb x1 q_55.2 (I_56 (mb + 10) 4) I_56 J_57) fun r_63 I_64 J_65 =>
              some (r_63, I_64, J_65)
def f12_fact_ (mb : Nat) (x1 : Int32) (x2 : Int32) (x3 : Int32) (I : IT) (J : JT) : Option (Int32 × IT × JT) :=
  if x1 = (-1 : Int32) then
    yb_let (up2 I (mb + 10) 141 (0 : Int32)) fun I_26 =>
    some ((0 : Int32), I_26, J)
  else
    yb_b3 (f12_isCase mb x1 I J) fun r_2 I_3 J_4 =>
    if r_2 = 0 then
      some ((-2 : Int32), I_3, J_4)
    else
      yb_b3 (f12_in mb (x2.toInt64) (0 : Int64) (7 : Int64) I_3 J_4) fun r_7 I_8 J_9 =>
      if r_7 = 0 then
        some ((-2 : Int32), I_8, J_9)
      else
        yb_b3 (f12_in mb (x3.toInt64) (0 : Int64) (9999 : Int64) I_8 J_9) fun r_12 I_13 J_14 =>
        if r_12 = 0 then
          some ((-2 : Int32), I_13, J_14)
        else
          if (I_13 (mb + 10) 141) = (10 : Int32) then
            some ((-2 : Int32), I_13, J_14)
          else
            yb_let ((111 : Int32) + ((3 : Int32) * (I_13 (mb + 10) 141))) fun x4_18 =>
            yb_ck (inb x4_18 142) fun _ =>
            yb_let (up2 I_13 (mb + 10) x4_18.toNatClampNeg x1) fun I_20 =>
            yb_ck (inb (x4_18 + (1 : Int32)) 142) fun _ =>
            yb_let (up2 I_20 (mb + 10) (x4_18 + (1 : Int32)).toNatClampNeg x2) fun I_22 =>
            yb_ck (inb (x4_18 + (2 : Int32)) 142) fun _ =>
            yb_let (up2 I_22 (mb + 10) (x4_18 + (2 : Int32)).toNatClampNeg x3) fun I_24 =>
            yb_let (up2 I_24 (mb + 10) 141 ((I_24 (mb + 10) 141) + (1 : Int32))) fun I_25 =>
            some ((I_25 (mb + 10) 141), I_25, J_14)
def f12_rightThen (N : Nat) (mb : Nat) (x1 : Int32) (x2 : Int32) (x3 : Int32) (I : IT) (J : JT) : Option (Int32 × IT × JT) :=
  yb_b3 (f12_caseOf mb x1 (0 : Int32) I J) fun r_1 I_2 J_3 =>
  yb_b3 (f12_caseOf mb x1 (1 : Int32) I_2 J_3) fun r_5 I_6 J_7 =>
  yb_b3 (f12_caseOf mb x1 (2 : Int32) I_6 J_7) fun r_9 I_10 J_11 =>
  yb_b3 (f12_rightIn N mb x2 r_1 r_5 r_9 x3 (0 : Int32) (0 : Int32) I_10 J_11) fun r_13 I_14 J_15 =>
  some (r_13, I_14, J_15)
def f12_factValue (N : Nat) (mb : Nat) (x1 : Int32) (x2 : Int32) (x3 : Int32) (x4 : Int32) (I : IT) (J : JT) : Option (Int32 × IT × JT) :=
  if (2 : Int32) ≤ x1 then
    if (4 : Int32) ≤ x1 then
      if (6 : Int32) ≤ x1 then
        yb_b3 (f12_rightThen N mb x2 x3 x4 I J) fun r_4 I_5 J_6 =>
        some (r_4, I_5, J_6)
      else
        some (x4, I, J)
    else
      yb_b3 (f12_personOf mb x3 (1 : Int32) I J) fun r_8 I_9 J_10 =>
      some (r_8, I_9, J_10)
  else
    yb_b3 (f12_ageOn mb x3 x4 I J) fun r_12 I_13 J_14 =>
    some (r_12, I_13, J_14)
def f12_areFactsSo_L3 (N : Nat) (mb : Nat) (x1 : Int32) (x2 : Int32) (x3 : Int32) : Nat → Int32 → IT → JT → Option ((Int32 ⊕ (Unit)) × IT × JT)
  | 0, _, _, _ => none
  | n + 1, x4, I, J =>
    if (I (mb + 10) 141) ≤ x4 then
      some (Sum.inr (), I, J)
    else
      yb_let ((111 : Int32) + ((3 : Int32) * x4)) fun x5_2 =>
      yb_ck (inb x5_2 142) fun _ =>
      if (I (mb + 10) x5_2.toNatClampNeg) = x1 then
        yb_ck (inb (x5_2 + (1 : Int32)) 142) fun _ =>
        yb_b3 (f12_factValue N mb (I (mb + 10) (x5_2 + (1 : Int32)).toNatClampNeg) x1 x2 x3 I J) fun r_6 I_7 J_8 =>
        if ((I_7 (mb + 10) (x5_2 + (1 : Int32)).toNatClampNeg) - (I_7 (mb + 10) (x5_2 + (1 : Int32)).toNatClampNeg) / (2 : Int32) * (2 : Int32)) = 0 then
          yb_ck (inb (x5_2 + (2 : Int32)) 142) fun _ =>
          if (I_7 (mb + 10) (x5_2 + (2 : Int32)).toNatClampNeg) ≤ r_6 then
            yb_let (x4 + (1 : Int32)) fun x4_16 =>
            f12_areFactsSo_L3 N mb x1 x2 x3 n x4_16 I_7 J_8
          else
            some (Sum.inl (0 : Int32), I_7, J_8)
        else
          yb_ck (inb (x5_2 + (2 : Int32)) 142) fun _ =>
          if r_6 ≤ (I_7 (mb + 10) (x5_2 + (2 : Int32)).toNatClampNeg) then
            yb_let (x4 + (1 : Int32)) fun x4_13 =>
            f12_areFactsSo_L3 N mb x1 x2 x3 n x4_13 I_7 J_8
          else
            some (Sum.inl (0 : Int32), I_7, J_8)
      else
        yb_let (x4 + (1 : Int32)) fun x4_17 =>
        f12_areFactsSo_L3 N mb x1 x2 x3 n x4_17 I J
def f12_areFactsSo (N : Nat) (mb : Nat) (x1 : Int32) (x2 : Int32) (x3 : Int32) (I : IT) (J : JT) : Option (Int32 × IT × JT) :=
  yb_b3 (f12_areFactsSo_L3 N mb x1 x2 x3 N (0 : Int32) I J) fun q_18 I_19 J_20 =>
  yb_sm q_18 (fun v_22 => some (v_22, I_19, J_20)) fun x_23 =>
  some ((1 : Int32), I_19, J_20)
def f12_gathersWho_L19 (N : Nat) (mb : Nat) (x1 : Int32) (x2 : Int32) : Nat → Int32 → IT → JT → Option ((Unit) × IT × JT)
  | 0, _, _, _ => none
  | n + 1, x3, I, J =>
    if (60 : Int32) < x3 then
      some ((), I, J)
    else
      yb_b3 (f12_canHear N mb x1 x2 x3 I J) fun r_4 I_5 J_6 =>
      if r_4 = 0 then
        yb_let (x3 + (1 : Int32)) fun x3_9 =>
        f12_gathersWho_L19 N mb x1 x2 n x3_9 I_5 J_6
      else
        yb_b3 (f12_areFactsSo N mb x1 x2 x3 I_5 J_6) fun r_10 I_11 J_12 =>
        if r_10 = 0 then
          yb_let (x3 + (1 : Int32)) fun x3_21 =>
          f12_gathersWho_L19 N mb x1 x2 n x3_21 I_11 J_12
        else
          yb_ck (inb (I_11 mb 38) 427) fun _ =>
          yb_let (up2 I_11 (mb + 22) (I_11 mb 38).toNatClampNeg x2) fun I_16 =>
          yb_ck (inb (I_16 mb 38) 427) fun _ =>
          yb_let (up2 I_16 (mb + 23) (I_16 mb 38).toNatClampNeg x3) fun I_18 =>
          yb_let (up2 I_18 mb 38 ((I_18 mb 38) + (1 : Int32))) fun I_19 =>
          yb_let (x3 + (1 : Int32)) fun x3_20 =>
          f12_gathersWho_L19 N mb x1 x2 n x3_20 I_19 J_12
def f12_gathersWho_L7 (N : Nat) (mb : Nat) (x1 : Int32) : Nat → Int32 → IT → JT → Option ((Unit) × IT × JT)
  | 0, _, _, _ => none
  | n + 1, x2, I, J =>
    if (I (mb + 10) 2) ≤ x2 then
      some ((), I, J)
    else
      yb_b3 (f12_gathersWho_L19 N mb x1 x2 N (0 : Int32) I J) fun q_22 I_23 J_24 =>
      yb_let (x2 + (1 : Int32)) fun x2_26 =>
      f12_gathersWho_L7 N mb x1 n x2_26 I_23 J_24
def f12_gathersWho (N : Nat) (mb : Nat) (x1 : Int32) (I : IT) (J : JT) : Option (Unit × IT × JT) :=
  yb_let (up2 I mb 38 (0 : Int32)) fun I_1 =>
  yb_b3 (f12_gathersWho_L7 N mb x1 N (0 : Int32) I_1 J) fun q_27 I_28 J_29 =>
  some ((), I_28, J_29)
def f12_who_L32 (N : Nat) (mb : Nat) (x2 : Int32) : Nat → Int32 → Int32 → IT → JT → Option ((Int32) × IT × JT)
  | 0, _, _, _, _ => none
  | n + 1, x3, x4, I, J =>
    if (I mb 38) ≤ x4 then
      some (x3, I, J)
    else
      yb_ck (inb x4 427) fun _ =>
      yb_let (x3 ||| ((1 : Int32) <<< ((I (mb + 22) x4.toNatClampNeg) &&& 31))) fun x3_17 =>
      yb_let (x4 + (1 : Int32)) fun x4_18 =>
      f12_who_L32 N mb x2 n x3_17 x4_18 I J
def f12_who (N : Nat) (mb : Nat) (x1 : Int32) (x2 : Int32) (I : IT) (J : JT) : Option (Int32 × IT × JT) :=
  yb_b3 (f12_isCase mb x1 I J) fun r_1 I_2 J_3 =>
  if r_1 = 0 then
    some ((-1 : Int32), I_2, J_3)
  else
    yb_b3 (f12_in mb (x2.toInt64) (0 : Int64) (3 : Int64) I_2 J_3) fun r_6 I_7 J_8 =>
    if r_6 = 0 then
      some ((-1 : Int32), I_7, J_8)
    else
      yb_b3 (f12_gathersWho N mb x1 I_7 J_8) fun r_11 I_12 J_13 =>
      yb_b3 (f12_who_L32 N mb x2 N (0 : Int32) (0 : Int32) I_12 J_13) fun q_19 I_20 J_21 =>
      if x2 = 0 then
        some ((I_20 mb 38), I_20, J_21)
      else
        if x2 = (3 : Int32) then
          some (q_19, I_20, J_21)
        else
          if (I_20 mb 38) = 0 then
            some ((-2 : Int32), I_20, J_21)
          else
            if x2 = (1 : Int32) then
              some ((I_20 (mb + 22) 0), I_20, J_21)
            else
              some ((I_20 (mb + 23) 0), I_20, J_21)
def f12_alikeBy_L2 (N : Nat) (mb : Nat) (x1 : Int32) (x2 : Int32) : Nat → Int32 → IT → JT → Option ((Unit) × IT × JT)
  | 0, _, _, _ => none
  | n + 1, x3, I, J =>
    if (I mb 38) ≤ x3 then
      some ((), I, J)
    else
      if x2 = 0 then
        yb_ck (inb x3 427) fun _ =>
        yb_let (up2 I (mb + 24) x3.toNatClampNeg (I (mb + 22) x3.toNatClampNeg)) fun I_15 =>
        yb_let (x3 + (1 : Int32)) fun x3_16 =>
        f12_alikeBy_L2 N mb x1 x2 n x3_16 I_15 J
      else
        if x2 = (1 : Int32) then
          yb_ck (inb x3 427) fun _ =>
          yb_let (up2 I (mb + 24) x3.toNatClampNeg (I (mb + 23) x3.toNatClampNeg)) fun I_12 =>
          yb_let (x3 + (1 : Int32)) fun x3_13 =>
          f12_alikeBy_L2 N mb x1 x2 n x3_13 I_12 J
        else
          yb_ck (inb x3 427) fun _ =>
          yb_b3 (f12_rightThen N mb x1 (I (mb + 22) x3.toNatClampNeg) (I (mb + 23) x3.toNatClampNeg) I J) fun r_5 I_6 J_7 =>
          yb_let (up2 I_6 (mb + 24) x3.toNatClampNeg r_5) fun I_9 =>
          yb_let (x3 + (1 : Int32)) fun x3_10 =>
          f12_alikeBy_L2 N mb x1 x2 n x3_10 I_9 J_7
def f12_alikeBy_L86 (N : Nat) (mb : Nat) (x3 : Int32) (x4 : Int32) : Nat → Int32 → Int32 → IT → JT → Option ((Int32) × IT × JT)
  | 0, _, _, _, _ => none
  | n + 1, x5, x6, I, J =>
    if (I mb 38) ≤ x6 then
      some (x5, I, J)
    else
      yb_ck (inb x6 427) fun _ =>
      yb_ck (inb x4 427) fun _ =>
      if (I (mb + 24) x6.toNatClampNeg) = (I (mb + 24) x4.toNatClampNeg) then
        yb_let (x5 + (1 : Int32)) fun x5_28 =>
        yb_let (x6 + (1 : Int32)) fun x6_29 =>
        f12_alikeBy_L86 N mb x3 x4 n x5_28 x6_29 I J
      else
        yb_let (x5 + (0 : Int32)) fun x5_26 =>
        yb_let (x6 + (1 : Int32)) fun x6_27 =>
        f12_alikeBy_L86 N mb x3 x4 n x5_26 x6_27 I J
def f12_alikeBy_L71 (N : Nat) (mb : Nat) : Nat → Int32 → Int32 → IT → JT → Option ((Int32) × IT × JT)
  | 0, _, _, _, _ => none
  | n + 1, x3, x4, I, J =>
    if (I mb 38) ≤ x4 then
      some (x3, I, J)
    else
      yb_b3 (f12_alikeBy_L86 N mb x3 x4 N (0 : Int32) (0 : Int32) I J) fun q_30 I_31 J_32 =>
      if q_30 ≤ x3 then
        yb_let (x4 + (1 : Int32)) fun x4_35 =>
        f12_alikeBy_L71 N mb n x3 x4_35 I_31 J_32
      else
        yb_let (x4 + (1 : Int32)) fun x4_36 =>
        f12_alikeBy_L71 N mb n q_30 x4_36 I_31 J_32
def f12_alikeBy (N : Nat) (mb : Nat) (x1 : Int32) (x2 : Int32) (I : IT) (J : JT) : Option (Int32 × IT × JT) :=
  yb_b3 (f12_alikeBy_L2 N mb x1 x2 N (0 : Int32) I J) fun q_17 I_18 J_19 =>
  yb_b3 (f12_alikeBy_L71 N mb N (0 : Int32) (0 : Int32) I_18 J_19) fun q_37 I_38 J_39 =>
  some (q_37, I_38, J_39)
def f12_look_L40 (N : Nat) (mb : Nat) (x1 : Int32) (x2 : Int32) : Nat → Int32 → Int32 → IT → JT → Option ((Int32) × IT × JT)
  | 0, _, _, _, _ => none
  | n + 1, x3, x4, I, J =>
    if (3 : Int32) ≤ x4 then
      some (x3, I, J)
    else
      yb_b3 (f12_alikeBy N mb x1 x4 I J) fun r_17 I_18 J_19 =>
      yb_b3 (f12_alikeBy N mb x1 x3 I_18 J_19) fun r_21 I_22 J_23 =>
      if r_21 ≤ r_17 then
        yb_let (x4 + (1 : Int32)) fun x4_26 =>
        f12_look_L40 N mb x1 x2 n x3 x4_26 I_22 J_23
      else
        yb_let (x4 + (1 : Int32)) fun x4_27 =>
        f12_look_L40 N mb x1 x2 n x4 x4_27 I_22 J_23
def f12_look (N : Nat) (mb : Nat) (x1 : Int32) (x2 : Int32) (I : IT) (J : JT) : Option (Int32 × IT × JT) :=
  yb_b3 (f12_isCase mb x1 I J) fun r_1 I_2 J_3 =>
  if r_1 = 0 then
    some ((-1 : Int32), I_2, J_3)
  else
    yb_b3 (f12_in mb (x2.toInt64) (0 : Int64) (1 : Int64) I_2 J_3) fun r_6 I_7 J_8 =>
    if r_6 = 0 then
      some ((-1 : Int32), I_7, J_8)
    else
      yb_b3 (f12_gathersWho N mb x1 I_7 J_8) fun r_11 I_12 J_13 =>
      if (I_12 mb 38) = 0 then
        some ((-2 : Int32), I_12, J_13)
      else
        yb_b3 (f12_look_L40 N mb x1 x2 N (0 : Int32) (1 : Int32) I_12 J_13) fun q_28 I_29 J_30 =>
        if x2 = 0 then
          some (q_28, I_29, J_30)
        else
          yb_b3 (f12_alikeBy N mb x1 q_28 I_29 J_30) fun r_33 I_34 J_35 =>
          some (r_33, I_34, J_35)
def f12_seed (mb : Nat) (x1 : Int32) (I : IT) (J : JT) : Option (Int32 × IT × JT) :=
  if 0 ≤ x1 then
    yb_let (I mb 22) fun x2_2 =>
    yb_let (up2 I mb 22 x1) fun I_3 =>
    some (x2_2, I_3, J)
  else
    some ((-1 : Int32), I, J)
def f12_draw (mb : Nat) (x1 : Int32) (I : IT) (J : JT) : Option (Int32 × IT × JT) :=
  yb_let (up2J J mb 43 ((((J mb 43) * (1103515245 : Int64)) + (12345 : Int64)) - (((J mb 43) * (1103515245 : Int64)) + (12345 : Int64)) / (2147483648 : Int64) * (2147483648 : Int64))) fun J_1 =>
  if (x1.toInt64) = 0 then none else
  some (((((J_1 mb 43) / (65536 : Int64)) - ((J_1 mb 43) / (65536 : Int64)) / (x1.toInt64) * (x1.toInt64)).toInt32), I, J_1)
def f12_hearsDrawn_L13 (N : Nat) (mb : Nat) (x1 : Int32) : Nat → Int32 → IT → JT → Option ((Unit ⊕ (Unit)) × IT × JT)
  | 0, _, _, _ => none
  | n + 1, x2, I, J =>
    if (I (mb + 10) 3) ≤ x2 then
      some (Sum.inr (), I, J)
    else
      yb_b3 (f12_mayHear N mb x2 x1 I J) fun r_6 I_7 J_8 =>
      if r_6 = 0 then
        yb_let (x2 + (1 : Int32)) fun x2_15 =>
        f12_hearsDrawn_L13 N mb x1 n x2_15 I_7 J_8
      else
        yb_b3 (f12_begins N mb x2 x1 I_7 J_8) fun r_11 I_12 J_13 =>
        some (Sum.inl (), I_12, J_13)
def f12_hearsDrawn (N : Nat) (mb : Nat) (I : IT) (J : JT) : Option (Unit × IT × JT) :=
  yb_b3 (f12_draw mb (I (mb + 10) 2) I J) fun r_1 I_2 J_3 =>
  yb_b3 (f12_hearsDrawn_L13 N mb r_1 N (0 : Int32) I_2 J_3) fun q_16 I_17 J_18 =>
  yb_sm q_16 (fun v_20 => some (v_20, I_17, J_18)) fun x_21 =>
  some ((), I_17, J_18)
def f12_years_L61 (N : Nat) (mb : Nat) (x1 : Int32) (x2 : Int32) (x3 : Int32) (x4 : Int32) (x5 : Int32) : Nat → Int32 → IT → JT → Option ((Unit) × IT × JT)
  | 0, _, _, _ => none
  | n + 1, x6, I, J =>
    if (111 : Int32) ≤ x6 then
      some ((), I, J)
    else
      yb_ck (inb x6 142) fun _ =>
      yb_ck (inb x6 111) fun _ =>
      yb_let (up2 I (mb + 25) x6.toNatClampNeg (I (mb + 10) x6.toNatClampNeg)) fun I_25 =>
      yb_let (x6 + (1 : Int32)) fun x6_26 =>
      f12_years_L61 N mb x1 x2 x3 x4 x5 n x6_26 I_25 J
def f12_years_L138 (N : Nat) (mb : Nat) (x1 : Int32) (x2 : Int32) (x3 : Int32) (x5 : Int32) (x6 : Int32) (x7 : Int32) (x8 : Int32) : Nat → Int32 → Int32 → IT → JT → Option ((Int32) × IT × JT)
  | 0, _, _, _, _ => none
  | n + 1, x4, x9, I, J =>
    if (I (mb + 10) 3) ≤ x9 then
      some (x4, I, J)
    else
      yb_b3 (f12_isOf mb x8 x9 I J) fun r_48 I_49 J_50 =>
      if r_48 = 0 then
        yb_let (x9 + (1 : Int32)) fun x9_53 =>
        f12_years_L138 N mb x1 x2 x3 x5 x6 x7 x8 n x4 x9_53 I_49 J_50
      else
        yb_b3 (f12_draw mb (100 : Int32) I_49 J_50) fun r_54 I_55 J_56 =>
        yb_b3 (f12_caseOf mb x9 (7 : Int32) I_55 J_56) fun r_58 I_59 J_60 =>
        if r_58 ≤ r_54 then
          yb_let (x4 + (0 : Int32)) fun x4_63 =>
          yb_let (x9 + (1 : Int32)) fun x9_64 =>
          f12_years_L138 N mb x1 x2 x3 x5 x6 x7 x8 n x4_63 x9_64 I_59 J_60
        else
          yb_let (x4 + (1 : Int32)) fun x4_65 =>
          yb_let (x9 + (1 : Int32)) fun x9_66 =>
          f12_years_L138 N mb x1 x2 x3 x5 x6 x7 x8 n x4_65 x9_66 I_59 J_60
def f12_years_L109 (N : Nat) (mb : Nat) (x1 : Int32) (x2 : Int32) (x3 : Int32) (x6 : Int32) : Nat → Int32 → Int32 → Int32 → IT → JT → Option ((Int32 × Int32) × IT × JT)
  | 0, _, _, _, _, _ => none
  | n + 1, x4, x5, x7, I, J =>
    if x2 ≤ x7 then
      some ((x4, x5), I, J)
    else
      yb_b3 (f12_hearsDrawn N mb  I J) fun r_34 I_35 J_36 =>
      yb_b3 (f12_passes N mb  I_35 J_36) fun r_38 I_39 J_40 =>
      yb_b3 (f12_bits N mb r_38 I_39 J_40) fun r_42 I_43 J_44 =>
      yb_let (x5 + r_42) fun x5_46 =>
      yb_b3 (f12_years_L138 N mb x1 x2 x3 x5_46 x6 x7 r_38 N x4 (0 : Int32) I_43 J_44) fun q_67 I_68 J_69 =>
      yb_let (x7 + (1 : Int32)) fun x7_71 =>
      f12_years_L109 N mb x1 x2 x3 x6 n q_67 x5_46 x7_71 I_68 J_69
def f12_years_L201 (N : Nat) (mb : Nat) (x1 : Int32) (x2 : Int32) (x3 : Int32) (x4 : Int32) (x5 : Int32) (x6 : Int32) : Nat → Int32 → IT → JT → Option ((Unit) × IT × JT)
  | 0, _, _, _ => none
  | n + 1, x7, I, J =>
    if (111 : Int32) ≤ x7 then
      some ((), I, J)
    else
      yb_ck (inb x7 111) fun _ =>
      yb_ck (inb x7 142) fun _ =>
      yb_let (up2 I (mb + 10) x7.toNatClampNeg (I (mb + 25) x7.toNatClampNeg)) fun I_79 =>
      yb_let (x7 + (1 : Int32)) fun x7_80 =>
      f12_years_L201 N mb x1 x2 x3 x4 x5 x6 n x7_80 I_79 J
def f12_years_L91 (N : Nat) (mb : Nat) (x1 : Int32) (x2 : Int32) (x3 : Int32) : Nat → Int32 → Int32 → Int32 → IT → JT → Option ((Int32 × Int32) × IT × JT)
  | 0, _, _, _, _, _ => none
  | n + 1, x4, x5, x6, I, J =>
    if x1 ≤ x6 then
      some ((x4, x5), I, J)
    else
      if (I (mb + 10) 2) ≤ 0 then
        some ((x4, x5), I, J)
      else
        yb_b3 (f12_years_L109 N mb x1 x2 x3 x6 N x4 x5 (0 : Int32) I J) fun q_72 I_73 J_74 =>
        yb_b3 (f12_years_L201 N mb x1 x2 x3 q_72.1 q_72.2 x6 N (0 : Int32) I_73 J_74) fun q_81 I_82 J_83 =>
        yb_let (x6 + (1 : Int32)) fun x6_85 =>
        f12_years_L91 N mb x1 x2 x3 n q_72.1 q_72.2 x6_85 I_82 J_83
def f12_years (N : Nat) (mb : Nat) (x1 : Int32) (x2 : Int32) (x3 : Int32) (I : IT) (J : JT) : Option (Int32 × IT × JT) :=
  yb_b3 (f12_isTown mb  I J) fun r_1 I_2 J_3 =>
  if r_1 = 0 then
    some ((-1 : Int32), I_2, J_3)
  else
    yb_b3 (f12_in mb (x1.toInt64) (1 : Int64) (10 : Int64) I_2 J_3) fun r_6 I_7 J_8 =>
    if r_6 = 0 then
      some ((-1 : Int32), I_7, J_8)
    else
      yb_b3 (f12_in mb (x2.toInt64) (1 : Int64) (99 : Int64) I_7 J_8) fun r_11 I_12 J_13 =>
      if r_11 = 0 then
        some ((-1 : Int32), I_12, J_13)
      else
        yb_b3 (f12_in mb (x3.toInt64) (0 : Int64) (1 : Int64) I_12 J_13) fun r_16 I_17 J_18 =>
        if r_16 = 0 then
          some ((-1 : Int32), I_17, J_18)
        else
          yb_let (up2J J_18 mb 43 ((I_17 mb 22).toInt64)) fun J_21 =>
          yb_b3 (f12_years_L61 N mb x1 x2 x3 (0 : Int32) (0 : Int32) N (0 : Int32) I_17 J_21) fun q_27 I_28 J_29 =>
          yb_b3 (f12_years_L91 N mb x1 x2 x3 N (0 : Int32) (0 : Int32) (0 : Int32) I_28 J_29) fun q_86 I_87 J_88 =>
          if x3 = 0 then
            some (q_86.1, I_87, J_88)
          else
            some (q_86.2, I_87, J_88)
def f12_count_L102 (N : Nat) (mb : Nat) (x1 : Int32) : Nat → Int32 → Int32 → IT → JT → Option ((Int32) × IT × JT)
  | 0, _, _, _, _ => none
  | n + 1, x2, x3, I, J =>
    if (I (mb + 10) 3) ≤ x3 then
      some (x2, I, J)
    else
      if x1 = (7 : Int32) then
        yb_b3 (f12_caseOf mb x3 (4 : Int32) I J) fun r_24 I_25 J_26 =>
        if r_24 < 0 then
          yb_let (x2 ||| (0 : Int32)) fun x2_29 =>
          yb_let (x3 + (1 : Int32)) fun x3_30 =>
          f12_count_L102 N mb x1 n x2_29 x3_30 I_25 J_26
        else
          yb_let (x2 ||| ((1 : Int32) <<< (x3 &&& 31))) fun x2_31 =>
          yb_let (x3 + (1 : Int32)) fun x3_32 =>
          f12_count_L102 N mb x1 n x2_31 x3_32 I_25 J_26
      else
        yb_b3 (f12_caseOf mb x3 (9 : Int32) I J) fun r_15 I_16 J_17 =>
        if r_15 ≤ 0 then
          yb_let (x2 ||| (0 : Int32)) fun x2_20 =>
          yb_let (x3 + (1 : Int32)) fun x3_21 =>
          f12_count_L102 N mb x1 n x2_20 x3_21 I_16 J_17
        else
          yb_let (x2 ||| ((1 : Int32) <<< (x3 &&& 31))) fun x2_22 =>
          yb_let (x3 + (1 : Int32)) fun x3_23 =>
          f12_count_L102 N mb x1 n x2_22 x3_23 I_16 J_17
def f12_count (N : Nat) (mb : Nat) (x1 : Int32) (I : IT) (J : JT) : Option (Int32 × IT × JT) :=
  if x1 = (0 : Int32) then
    yb_ck (inb x1 142) fun _ =>
    some ((I (mb + 10) x1.toNatClampNeg), I, J)
  else
  if x1 = (1 : Int32) then
    yb_ck (inb x1 142) fun _ =>
    some ((I (mb + 10) x1.toNatClampNeg), I, J)
  else
  if x1 = (2 : Int32) then
    yb_ck (inb x1 142) fun _ =>
    some ((I (mb + 10) x1.toNatClampNeg), I, J)
  else
  if x1 = (3 : Int32) then
    yb_ck (inb x1 142) fun _ =>
    some ((I (mb + 10) x1.toNatClampNeg), I, J)
  else
  if x1 = (4 : Int32) then
    some ((I mb 2), I, J)
  else
  if x1 = (5 : Int32) then
    some ((I mb 21), I, J)
  else
  if x1 = (6 : Int32) then
    some ((I (mb + 10) 4), I, J)
  else
  if x1 = (7 : Int32) then
    yb_b3 (f12_count_L102 N mb x1 N (0 : Int32) (0 : Int32) I J) fun q_33 I_34 J_35 =>
    some (q_33, I_34, J_35)
  else
  if x1 = (8 : Int32) then
    yb_b3 (f12_count_L102 N mb x1 N (0 : Int32) (0 : Int32) I J) fun q_38 I_39 J_40 =>
    some (q_38, I_39, J_40)
  else
  if x1 = (9 : Int32) then
    yb_b3 (f12_isTown mb  I J) fun r_43 I_44 J_45 =>
    if r_43 = 0 then
      some ((-1 : Int32), I_44, J_45)
    else
      yb_ck (inb (x1 - (4 : Int32)) 142) fun _ =>
      some ((I_44 (mb + 10) (x1 - (4 : Int32)).toNatClampNeg), I_44, J_45)
  else
  if x1 = (10 : Int32) then
    yb_b3 (f12_isTown mb  I J) fun r_50 I_51 J_52 =>
    if r_50 = 0 then
      some ((-1 : Int32), I_51, J_52)
    else
      yb_ck (inb (x1 - (4 : Int32)) 142) fun _ =>
      some ((I_51 (mb + 10) (x1 - (4 : Int32)).toNatClampNeg), I_51, J_52)
  else
  if x1 = (11 : Int32) then
    some ((I (mb + 10) 141), I, J)
  else
  if x1 = (12 : Int32) then
    some ((I mb 24), I, J)
  else
  if x1 = (13 : Int32) then
    some ((I mb 22), I, J)
  else
  if x1 = (14 : Int32) then
    some ((I mb 1), I, J)
  else
    some ((-1 : Int32), I, J)
def f12_image_L43 (N : Nat) (mb : Nat) (x1 : Int32) : Nat → Int32 → IT → JT → Option ((Unit) × IT × JT)
  | 0, _, _, _ => none
  | n + 1, x2, I, J =>
    if (142 : Int32) ≤ x2 then
      some ((), I, J)
    else
      yb_ck (inb x2 142) fun _ =>
      yb_ck (inb (((142 : Int32) * x1) + x2) 568) fun _ =>
      yb_let (up2 I (mb + 26) (((142 : Int32) * x1) + x2).toNatClampNeg (I (mb + 10) x2.toNatClampNeg)) fun I_13 =>
      yb_let (x2 + (1 : Int32)) fun x2_14 =>
      f12_image_L43 N mb x1 n x2_14 I_13 J
def f12_image (N : Nat) (mb : Nat) (x1 : Int32) (I : IT) (J : JT) : Option (Int32 × IT × JT) :=
  yb_b3 (f12_in mb (x1.toInt64) (0 : Int64) (3 : Int64) I J) fun r_1 I_2 J_3 =>
  if r_1 = 0 then
    some ((-1 : Int32), I_2, J_3)
  else
    yb_ck (inb x1 4) fun _ =>
    yb_let (up2 I_2 (mb + 29) x1.toNatClampNeg (vp_nar .boolean (1 : Int32))) fun I_7 =>
    yb_let (up2 I_7 (mb + 27) x1.toNatClampNeg (I_7 mb 21)) fun I_8 =>
    yb_let (up2 I_8 (mb + 28) x1.toNatClampNeg (I_8 mb 22)) fun I_9 =>
    yb_b3 (f12_image_L43 N mb x1 N (0 : Int32) I_9 J_3) fun q_15 I_16 J_17 =>
    some ((I_16 (mb + 10) 4), I_16, J_17)
def f12_back_L50 (N : Nat) (mb : Nat) (x1 : Int32) : Nat → Int32 → IT → JT → Option ((Unit) × IT × JT)
  | 0, _, _, _ => none
  | n + 1, x2, I, J =>
    if (142 : Int32) ≤ x2 then
      some ((), I, J)
    else
      yb_ck (inb (((142 : Int32) * x1) + x2) 568) fun _ =>
      yb_ck (inb x2 142) fun _ =>
      yb_let (up2 I (mb + 10) x2.toNatClampNeg (I (mb + 26) (((142 : Int32) * x1) + x2).toNatClampNeg)) fun I_14 =>
      yb_let (x2 + (1 : Int32)) fun x2_15 =>
      f12_back_L50 N mb x1 n x2_15 I_14 J
def f12_back (N : Nat) (mb : Nat) (x1 : Int32) (I : IT) (J : JT) : Option (Int32 × IT × JT) :=
  yb_b3 (f12_in mb (x1.toInt64) (0 : Int64) (3 : Int64) I J) fun r_1 I_2 J_3 =>
  if r_1 = 0 then
    some ((-1 : Int32), I_2, J_3)
  else
    yb_ck (inb x1 4) fun _ =>
    if (I_2 (mb + 29) x1.toNatClampNeg) = 0 then
      some ((-1 : Int32), I_2, J_3)
    else
      yb_let (up2 I_2 mb 21 (I_2 (mb + 27) x1.toNatClampNeg)) fun I_8 =>
      yb_let (up2 I_8 mb 22 (I_8 (mb + 28) x1.toNatClampNeg)) fun I_9 =>
      yb_let (up2 I_9 mb 24 (0 : Int32)) fun I_10 =>
      yb_b3 (f12_back_L50 N mb x1 N (0 : Int32) I_10 J_3) fun q_16 I_17 J_18 =>
      some ((I_17 (mb + 10) 4), I_17, J_18)
