def fJ_bitCount_0f7a4  (x0 : Int32) (I : IT) (J : JT) : Option (Int32 × IT × JT) :=
  yb_let (x0 - ((((x0).toUInt32 >>> (((1 : Int32)).toUInt32 &&& Int32.toUInt32 31)).toInt32) &&& (1431655765 : Int32))) fun x0_1 =>
  yb_let ((x0_1 &&& (858993459 : Int32)) + ((((x0_1).toUInt32 >>> (((2 : Int32)).toUInt32 &&& Int32.toUInt32 31)).toInt32) &&& (858993459 : Int32))) fun x0_2 =>
  yb_let ((x0_2 + (((x0_2).toUInt32 >>> (((4 : Int32)).toUInt32 &&& Int32.toUInt32 31)).toInt32)) &&& (252645135 : Int32)) fun x0_3 =>
  yb_let (x0_3 + (((x0_3).toUInt32 >>> (((8 : Int32)).toUInt32 &&& Int32.toUInt32 31)).toInt32)) fun x0_4 =>
  yb_let (x0_4 + (((x0_4).toUInt32 >>> (((16 : Int32)).toUInt32 &&& Int32.toUInt32 31)).toInt32)) fun x0_5 =>
  some ((x0_5 &&& (63 : Int32)), I, J)
def fJ_fill_53178_L5 (N : Nat) (t0 n0 : Nat) (x1 : Int32) (x3 : Int32) : Nat → Int32 → IT → JT → Option ((Unit) × IT × JT)
  | 0, _, _, _ => none
  | n + 1, x2, I, J =>
    if x3 ≤ x2 then
      some ((), I, J)
    else
      yb_ck (inb x2 n0) fun _ =>
      yb_let (up2 I t0 x2.toNatClampNeg x1) fun I_4 =>
      yb_let (x2 + (1 : Int32)) fun x2_5 =>
      fJ_fill_53178_L5 N t0 n0 x1 x3 n x2_5 I_4 J
def fJ_fill_53178 (N : Nat) (t0 n0 : Nat) (x1 : Int32) (I : IT) (J : JT) : Option (Unit × IT × JT) :=
  yb_let (nI n0) fun x3_1 =>
  yb_b3 (fJ_fill_53178_L5 N t0 n0 x1 x3_1 N (0 : Int32) I J) fun q_6 I_7 J_8 =>
  some ((), I_7, J_8)
def f0_start (N : Nat) (b : Nat) (S : ST) (Rf : RT) (t0 : Nat) (t1 : Nat) (I : IT) (J : JT) : Option (Unit × IT × JT) :=
  yb_let (up2 I t0 9 (0 : Int32)) fun I_1 =>
  yb_let (cpy2 I_1 (t1 + 2) (t0 + 1) 7) fun I_2 =>
  yb_b3 (fJ_fill_53178 N (t0 + 2) 7 (0 : Int32) I_2 J) fun r_6 I_3 J_4 =>
  yb_b3 (fJ_fill_53178 N (t0 + 3) 6 (-1 : Int32) I_3 J_4) fun r_10 I_7 J_8 =>
  yb_b3 (fJ_fill_53178 N (t0 + 4) 6 (0 : Int32) I_7 J_8) fun r_14 I_11 J_12 =>
  yb_b3 (fJ_fill_53178 N (t0 + 5) 6 (-1 : Int32) I_11 J_12) fun r_18 I_15 J_16 =>
  yb_b3 (fJ_fill_53178 N (t0 + 6) 6 (-1 : Int32) I_15 J_16) fun r_22 I_19 J_20 =>
  yb_b3 (fJ_fill_53178 N (t0 + 7) 6 (-1 : Int32) I_19 J_20) fun r_26 I_23 J_24 =>
  yb_b3 (fJ_fill_53178 N (t0 + 8) 6 (-1 : Int32) I_23 J_24) fun r_30 I_27 J_28 =>
  yb_b3 (fJ_fill_53178 N (t0 + 9) 6 (0 : Int32) I_27 J_28) fun r_34 I_31 J_32 =>
  some ((), I_31, J_32)
def f0_copy (b : Nat) (S : ST) (Rf : RT) (t0 : Nat) (t1 : Nat) (I : IT) (J : JT) : Option (Unit × IT × JT) :=
  yb_let (up2 I t0 9 (I t1 9)) fun I_1 =>
  yb_let (cpy2 I_1 (t1 + 1) (t0 + 1) 7) fun I_2 =>
  yb_let (cpy2 I_2 (t1 + 2) (t0 + 2) 7) fun I_3 =>
  yb_let (cpy2 I_3 (t1 + 3) (t0 + 3) 6) fun I_4 =>
  yb_let (cpy2 I_4 (t1 + 4) (t0 + 4) 6) fun I_5 =>
  yb_let (cpy2 I_5 (t1 + 5) (t0 + 5) 6) fun I_6 =>
  yb_let (cpy2 I_6 (t1 + 6) (t0 + 6) 6) fun I_7 =>
  yb_let (cpy2 I_7 (t1 + 7) (t0 + 7) 6) fun I_8 =>
  yb_let (cpy2 I_8 (t1 + 8) (t0 + 8) 6) fun I_9 =>
  yb_let (cpy2 I_9 (t1 + 9) (t0 + 9) 6) fun I_10 =>
  some ((), I_10, J)
def f0_heardBy_L2 (N : Nat) (b : Nat) (S : ST) (Rf : RT) (t0 : Nat) (x1 : Int32) : Nat → Int32 → IT → JT → Option ((Int32 ⊕ (Unit)) × IT × JT)
  | 0, _, _, _ => none
  | n + 1, x2, I, J =>
    if (6 : Int32) ≤ x2 then
      some (Sum.inr (), I, J)
    else
      yb_ck (inb x2 6) fun _ =>
      if (I (t0 + 3) x2.toNatClampNeg) = x1 then
        some (Sum.inl x2, I, J)
      else
        yb_let (x2 + (1 : Int32)) fun x2_4 =>
        f0_heardBy_L2 N b S Rf t0 x1 n x2_4 I J
def f0_heardBy (N : Nat) (b : Nat) (S : ST) (Rf : RT) (t0 : Nat) (x1 : Int32) (I : IT) (J : JT) : Option (Int32 × IT × JT) :=
  yb_b3 (f0_heardBy_L2 N b S Rf t0 x1 N (0 : Int32) I J) fun q_5 I_6 J_7 =>
  yb_sm q_5 (fun v_9 => some (v_9, I_6, J_7)) fun x_10 =>
  some ((-1 : Int32), I_6, J_7)
def f0_settleCase (b : Nat) (S : ST) (Rf : RT) (t0 : Nat) (t2 : Nat) (x1 : Int32) (I : IT) (J : JT) : Option (Unit × IT × JT) :=
  yb_ck (inb x1 6) fun _ =>
  yb_let (I (t0 + 3) x1.toNatClampNeg) fun x3_2 =>
  yb_let (up2 I (t0 + 6) x1.toNatClampNeg x3_2) fun I_3 =>
  yb_let (up2 I_3 (t0 + 7) x1.toNatClampNeg (I_3 (t0 + 5) x1.toNatClampNeg)) fun I_4 =>
  yb_ck (inb x3_2 7) fun _ =>
  yb_let (up2 I_4 (t0 + 8) x1.toNatClampNeg ((I_4 (t2 + 1) x3_2.toNatClampNeg) + (I_4 t0 9))) fun I_6 =>
  yb_let (up2 I_6 (t0 + 9) x1.toNatClampNeg ((I_6 (t0 + 9) x1.toNatClampNeg) + (1 : Int32))) fun I_7 =>
  yb_let (up2 I_7 (t0 + 2) x3_2.toNatClampNeg ((I_7 (t0 + 2) x3_2.toNatClampNeg) + (1 : Int32))) fun I_8 =>
  yb_let (up2 I_8 (t0 + 3) x1.toNatClampNeg (-1 : Int32)) fun I_9 =>
  yb_let (up2 I_9 (t0 + 4) x1.toNatClampNeg (0 : Int32)) fun I_10 =>
  some ((), I_10, J)
def f0_pass_L4 (N : Nat) (b : Nat) (S : ST) (Rf : RT) (t0 : Nat) (t1 : Nat) : Nat → Int32 → Int32 → IT → JT → Option ((Int32) × IT × JT)
  | 0, _, _, _, _ => none
  | n + 1, x2, x3, I, J =>
    if (I t1 14) ≤ x3 then
      some (x2, I, J)
    else
      yb_ck (inb x3 6) fun _ =>
      if (I (t0 + 3) x3.toNatClampNeg) < 0 then
        yb_let (x3 + (1 : Int32)) fun x3_4 =>
        f0_pass_L4 N b S Rf t0 t1 n x2 x3_4 I J
      else
        yb_let (up2 I (t0 + 4) x3.toNatClampNeg ((I (t0 + 4) x3.toNatClampNeg) - (1 : Int32))) fun I_5 =>
        if 0 < (I_5 (t0 + 4) x3.toNatClampNeg) then
          yb_let (x3 + (1 : Int32)) fun x3_7 =>
          f0_pass_L4 N b S Rf t0 t1 n x2 x3_7 I_5 J
        else
          yb_b3 (f0_settleCase b S Rf t0 t1 x3 I_5 J) fun r_8 I_9 J_10 =>
          yb_let (x2 ||| ((1 : Int32) <<< (x3 &&& 31))) fun x2_12 =>
          yb_let (x3 + (1 : Int32)) fun x3_13 =>
          f0_pass_L4 N b S Rf t0 t1 n x2_12 x3_13 I_9 J_10
def f0_pass (N : Nat) (b : Nat) (S : ST) (Rf : RT) (t0 : Nat) (t1 : Nat) (I : IT) (J : JT) : Option (Int32 × IT × JT) :=
  yb_b3 (f0_pass_L4 N b S Rf t0 t1 N (0 : Int32) (0 : Int32) I J) fun q_14 I_15 J_16 =>
  yb_let (up2 I_15 t0 9 ((I_15 t0 9) + (1 : Int32))) fun I_18 =>
  some (q_14, I_18, J_16)
def f0_heardBits_L4 (N : Nat) (b : Nat) (S : ST) (Rf : RT) (t0 : Nat) (x1 : Int32) : Nat → Int32 → Int32 → IT → JT → Option ((Int32) × IT × JT)
  | 0, _, _, _, _ => none
  | n + 1, x2, x3, I, J =>
    if x1 ≤ x3 then
      some (x2, I, J)
    else
      yb_ck (inb x3 6) fun _ =>
      if (I (t0 + 3) x3.toNatClampNeg) < 0 then
        yb_let (x3 + (1 : Int32)) fun x3_4 =>
        f0_heardBits_L4 N b S Rf t0 x1 n x2 x3_4 I J
      else
        yb_let (x2 ||| ((1 : Int32) <<< (x3 &&& 31))) fun x2_5 =>
        yb_let (x3 + (1 : Int32)) fun x3_6 =>
        f0_heardBits_L4 N b S Rf t0 x1 n x2_5 x3_6 I J
def f0_heardBits (N : Nat) (b : Nat) (S : ST) (Rf : RT) (t0 : Nat) (x1 : Int32) (I : IT) (J : JT) : Option (Int32 × IT × JT) :=
  yb_b3 (f0_heardBits_L4 N b S Rf t0 x1 N (0 : Int32) (0 : Int32) I J) fun q_7 I_8 J_9 =>
  some (q_7, I_8, J_9)
def f0_ruledBits_L4 (N : Nat) (b : Nat) (S : ST) (Rf : RT) (t0 : Nat) (x1 : Int32) : Nat → Int32 → Int32 → IT → JT → Option ((Int32) × IT × JT)
  | 0, _, _, _, _ => none
  | n + 1, x2, x3, I, J =>
    if x1 ≤ x3 then
      some (x2, I, J)
    else
      yb_ck (inb x3 6) fun _ =>
      if (I (t0 + 9) x3.toNatClampNeg) ≤ 0 then
        yb_let (x3 + (1 : Int32)) fun x3_4 =>
        f0_ruledBits_L4 N b S Rf t0 x1 n x2 x3_4 I J
      else
        yb_let (x2 ||| ((1 : Int32) <<< (x3 &&& 31))) fun x2_5 =>
        yb_let (x3 + (1 : Int32)) fun x3_6 =>
        f0_ruledBits_L4 N b S Rf t0 x1 n x2_5 x3_6 I J
def f0_ruledBits (N : Nat) (b : Nat) (S : ST) (Rf : RT) (t0 : Nat) (x1 : Int32) (I : IT) (J : JT) : Option (Int32 × IT × JT) :=
  yb_b3 (f0_ruledBits_L4 N b S Rf t0 x1 N (0 : Int32) (0 : Int32) I J) fun q_7 I_8 J_9 =>
  some (q_7, I_8, J_9)
def f9_isYounger (b : Nat) (S : ST) (Rf : RT) (t0 : Nat) (x1 : Int32) (x2 : Int32) (I : IT) (J : JT) : Option (Int32 × IT × JT) :=
  yb_ck (inb x2 7) fun _ =>
  yb_ck (inb x1 7) fun _ =>
  if ((I (t0 + 1) x2.toNatClampNeg) - (I (t0 + 1) x1.toNatClampNeg)) < (I t0 9) then
    some ((0 : Int32), I, J)
  else
    some ((1 : Int32), I, J)
def f9_areTwins (b : Nat) (S : ST) (Rf : RT) (t0 : Nat) (x1 : Int32) (x2 : Int32) (I : IT) (J : JT) : Option (Int32 × IT × JT) :=
  yb_ck (inb x1 7) fun _ =>
  if (((I (t0 + 4) x1.toNatClampNeg) >>> (x2 &&& 31)) &&& (1 : Int32)) = 0 then
    some ((0 : Int32), I, J)
  else
    some ((1 : Int32), I, J)
def f9_tillBirthday (b : Nat) (S : ST) (Rf : RT) (t0 : Nat) (x1 : Int32) (I : IT) (J : JT) : Option (Int32 × IT × JT) :=
  if (I t0 10) ≤ 0 then
    some ((0 : Int32), I, J)
  else
    if (I t0 10) = 0 then none else
    some (((I t0 10) - (x1 - x1 / (I t0 10) * (I t0 10))), I, J)
def f9_sits (b : Nat) (S : ST) (Rf : RT) (t0 : Nat) (x1 : Int32) (I : IT) (J : JT) : Option (Int32 × IT × JT) :=
  if x1 < (I t0 11) then
    some ((0 : Int32), I, J)
  else
    if (I t0 12) < x1 then
      some ((0 : Int32), I, J)
    else
      some ((1 : Int32), I, J)
def f1_canSit (b : Nat) (S : ST) (Rf : RT) (x1 : Int32) (x2 : Int32) (x3 : Int32) (x4 : Int32) (I : IT) (J : JT) : Option (Int32 × IT × JT) :=
  yb_b3 (f9_isYounger b S Rf (b + 5) x1 x2 I J) fun r_1 I_2 J_3 =>
  if r_1 = 0 then
    some ((0 : Int32), I_2, J_3)
  else
    yb_b3 (f9_areTwins b S Rf (b + 5) x1 x2 I_2 J_3) fun r_6 I_7 J_8 =>
    if r_6 = 0 then
      yb_ck (inb x1 7) fun _ =>
      yb_let ((I_7 (b + 6) x1.toNatClampNeg) + x4) fun x6_12 =>
      yb_b3 (f9_tillBirthday b S Rf (b + 5) x6_12 I_7 J_8) fun r_13 I_14 J_15 =>
      yb_b3 (f9_sits b S Rf (b + 5) x6_12 I_14 J_15) fun r_17 I_18 J_19 =>
      if r_17 = 0 then
        some ((0 : Int32), I_18, J_19)
      else
        yb_b3 (f9_sits b S Rf (b + 5) ((x6_12 + x3) - (1 : Int32)) I_18 J_19) fun r_22 I_23 J_24 =>
        if r_22 = 0 then
          some ((0 : Int32), I_23, J_24)
        else
          if (I_23 (b + 5) 10) ≤ r_13 then
            some ((0 : Int32), I_23, J_24)
          else
            if r_13 < x3 then
              some ((0 : Int32), I_23, J_24)
            else
              some ((1 : Int32), I_23, J_24)
    else
      some ((0 : Int32), I_7, J_8)
def f1_canHear (b : Nat) (S : ST) (Rf : RT) (x1 : Int32) (x2 : Int32) (x3 : Int32) (I : IT) (J : JT) : Option (Int32 × IT × JT) :=
  yb_ck (inb x1 6) fun _ =>
  if x3 < (I (b + 13) x1.toNatClampNeg) then
    some ((0 : Int32), I, J)
  else
    yb_b3 (f1_canSit b S Rf x2 (I (b + 10) x1.toNatClampNeg) (I (b + 12) x1.toNatClampNeg) x3 I J) fun r_3 I_4 J_5 =>
    if r_3 = 0 then
      some ((0 : Int32), I_4, J_5)
    else
      some ((1 : Int32), I_4, J_5)
def f1_mayHear (N : Nat) (b : Nat) (S : ST) (Rf : RT) (x1 : Int32) (x2 : Int32) (I : IT) (J : JT) : Option (Int32 × IT × JT) :=
  yb_ck (inb x1 6) fun _ =>
  if 0 ≤ (I (b + 17) x1.toNatClampNeg) then
    some ((0 : Int32), I, J)
  else
    yb_b3 (f0_heardBy N b S Rf (b + 14) x2 I J) fun r_3 I_4 J_5 =>
    if 0 ≤ r_3 then
      some ((0 : Int32), I_4, J_5)
    else
      yb_b3 (f1_canHear b S Rf x1 x2 (I_4 (b + 14) 9) I_4 J_5) fun r_8 I_9 J_10 =>
      if r_8 = 0 then
        some ((0 : Int32), I_9, J_10)
      else
        yb_let (I_9 (b + 20) x1.toNatClampNeg) fun x4_13 =>
        if x4_13 < 0 then
          some ((1 : Int32), I_9, J_10)
        else
          yb_b3 (f9_isYounger b S Rf (b + 5) x2 x4_13 I_9 J_10) fun r_15 I_16 J_17 =>
          if r_15 = 0 then
            some ((0 : Int32), I_16, J_17)
          else
            some ((1 : Int32), I_16, J_17)
def f1_charge (b : Nat) (S : ST) (Rf : RT) (x1 : Int32) (x2 : Int32) (x3 : Int32) (x4 : Int32) (I : IT) (J : JT) : Option (Unit × IT × JT) :=
  yb_let (up2J J (b + 31) 4 (x1.toInt64)) fun J_1 =>
  yb_let (up2J J_1 (b + 31) 5 (x2.toInt64)) fun J_2 =>
  yb_let (up2J J_2 (b + 31) 6 (x3.toInt64)) fun J_3 =>
  yb_let (up2J J_3 (b + 31) 10 (x4.toInt64)) fun J_4 =>
  some ((), I, J_4)
def f1_chargeOf (b : Nat) (S : ST) (Rf : RT) (x1 : Int32) (x2 : Int32) (I : IT) (J : JT) : Option (Unit × IT × JT) :=
  yb_ck (inb x1 6) fun _ =>
  yb_b3 (f1_charge b S Rf (I (b + 10) x1.toNatClampNeg) (I (b + 11) x1.toNatClampNeg) (I (b + 12) x1.toNatClampNeg) x2 I J) fun r_2 I_3 J_4 =>
  some ((), I_3, J_4)
def f9_hasPerson (b : Nat) (S : ST) (Rf : RT) (t0 : Nat) (x1 : Int32) (I : IT) (J : JT) : Option (Int32 × IT × JT) :=
  if x1 < 0 then
    some ((0 : Int32), I, J)
  else
    if (I t0 13) ≤ x1 then
      some ((0 : Int32), I, J)
    else
      some ((1 : Int32), I, J)
def f1_nameJudge (b : Nat) (S : ST) (Rf : RT) (x1 : Int32) (x2 : Int32) (x3 : Int32) (I : IT) (J : JT) : Option (Unit × IT × JT) :=
  yb_ck (inb x1 7) fun _ =>
  yb_let ((I (b + 6) x1.toNatClampNeg) + x2) fun x5_2 =>
  yb_let ((J (b + 31) 4).toInt32) fun x6_3 =>
  yb_let (up2J J (b + 31) 0 (x1.toInt64)) fun J_4 =>
  yb_let (up2J J_4 (b + 31) 1 ((I (b + 15) x1.toNatClampNeg).toInt64)) fun J_5 =>
  yb_let (up2J J_5 (b + 31) 2 (x5_2.toInt64)) fun J_6 =>
  yb_let (up2J J_6 (b + 31) 3 ((I (b + 8) x1.toNatClampNeg).toInt64)) fun J_7 =>
  yb_b3 (f9_hasPerson b S Rf (b + 5) x6_3 I J_7) fun r_8 I_9 J_10 =>
  if r_8 = 0 then
    yb_let (up2J J_10 (b + 31) 7 (0 : Int64)) fun J_13 =>
    yb_let (up2J J_13 (b + 31) 8 (x2.toInt64)) fun J_14 =>
    yb_let (up2J J_14 (b + 31) 9 (x3.toInt64)) fun J_15 =>
    yb_b3 (f9_tillBirthday b S Rf (b + 5) x5_2 I_9 J_15) fun r_16 I_17 J_18 =>
    yb_let (up2J J_18 (b + 31) 11 (r_16.toInt64)) fun J_20 =>
    some ((), I_17, J_20)
  else
    yb_ck (inb x6_3 7) fun _ =>
    yb_let (up2J J_10 (b + 31) 7 (((I_9 (b + 6) x6_3.toNatClampNeg) - (I_9 (b + 6) x1.toNatClampNeg)).toInt64)) fun J_22 =>
    yb_let (up2J J_22 (b + 31) 8 (x2.toInt64)) fun J_23 =>
    yb_let (up2J J_23 (b + 31) 9 (x3.toInt64)) fun J_24 =>
    yb_b3 (f9_tillBirthday b S Rf (b + 5) x5_2 I_9 J_24) fun r_25 I_26 J_27 =>
    yb_let (up2J J_27 (b + 31) 11 (r_25.toInt64)) fun J_29 =>
    some ((), I_26, J_29)
def f5_valueOf (b : Nat) (S : ST) (Rf : RT) (x0 : Int32) (I : IT) (J : JT) : Option (Int64 × IT × JT) :=
  if (100000 : Int32) ≤ x0 then
    yb_let (x0 - (100000 : Int32)) fun x2_2 =>
    if (nI 12) ≤ x2_2 then
      some ((0 : Int64), I, J)
    else
      yb_ck (inb x2_2 12) fun _ =>
      some ((J (b + 31) x2_2.toNatClampNeg), I, J)
  else
    some ((x0.toInt64), I, J)
def f5_joined (b : Nat) (S : ST) (Rf : RT) (x0 : Int32) (x1 : Int64) (x3 : Int64) (I : IT) (J : JT) : Option (Int64 × IT × JT) :=
  if x0 = (200000 : Int32) then
    some ((x1 + x3), I, J)
  else
  if x0 = (200001 : Int32) then
    some ((x1 - x3), I, J)
  else
  if x0 = (200002 : Int32) then
    some ((x1 * x3), I, J)
  else
  if x0 = (200003 : Int32) then
    if (lg_cmp x3 (0 : Int64)) = 0 then
      some ((0 : Int64), I, J)
    else
      if x3 = 0 then none else
      some ((x1 / x3), I, J)
  else
  if x0 = (200004 : Int32) then
    if (lg_cmp x3 (0 : Int64)) = 0 then
      some ((0 : Int64), I, J)
    else
      if x3 = 0 then none else
      some ((x1 - x1 / x3 * x3), I, J)
  else
  if x0 = (200005 : Int32) then
    if 0 ≤ (lg_cmp x1 x3) then
      some ((0 : Int64), I, J)
    else
      some ((1 : Int64), I, J)
  else
  if x0 = (200006 : Int32) then
    if 0 < (lg_cmp x1 x3) then
      some ((0 : Int64), I, J)
    else
      some ((1 : Int64), I, J)
  else
  if x0 = (200007 : Int32) then
    if (lg_cmp x1 x3) = 0 then
      some ((1 : Int64), I, J)
    else
      some ((0 : Int64), I, J)
  else
  if x0 = (200008 : Int32) then
    if (lg_cmp x1 x3) < 0 then
      some ((0 : Int64), I, J)
    else
      some ((1 : Int64), I, J)
  else
  if x0 = (200009 : Int32) then
    if (lg_cmp x1 x3) ≤ 0 then
      some ((0 : Int64), I, J)
    else
      some ((1 : Int64), I, J)
  else
  if x0 = (200010 : Int32) then
    some ((x1 &&& x3), I, J)
  else
    some ((x1 ||| x3), I, J)
def f5_sum_L5 (N : Nat) (b : Nat) (S : ST) (Rf : RT) (t0 : Nat) : Nat → Int32 → Int32 → IT → JT → Option ((Int64 ⊕ (Unit)) × IT × JT)
  | 0, _, _, _, _ => none
  | n + 1, x3, x4, I, J =>
    if (nI (S (t0 + 1)).2) ≤ x4 then
      some (Sum.inr (), I, J)
    else
      yb_ck (inb x4 (S (t0 + 1)).2) fun _ =>
      yb_let (I (t0 + 1) x4.toNatClampNeg) fun x5_3 =>
      if (200000 : Int32) ≤ x5_3 then
        if (200011 : Int32) < x5_3 then
          if x5_3 = (200012 : Int32) then
            if (1 : Int32) ≤ x3 then
              yb_ck (inb (x3 - (1 : Int32)) 64) fun _ =>
              yb_let (up2J J (b + 32) (x3 - (1 : Int32)).toNatClampNeg ((1 : Int64) - (J (b + 32) (x3 - (1 : Int32)).toNatClampNeg))) fun J_18 =>
              yb_let (x4 + (1 : Int32)) fun x4_19 =>
              f5_sum_L5 N b S Rf t0 n x3 x4_19 I J_18
            else
              some (Sum.inl (0 : Int64), I, J)
          else
            if x5_3 = (200013 : Int32) then
              if (1 : Int32) ≤ x3 then
                yb_ck (inb (x3 - (1 : Int32)) 64) fun _ =>
                some (Sum.inl (J (b + 32) (x3 - (1 : Int32)).toNatClampNeg), I, J)
              else
                some (Sum.inl (0 : Int64), I, J)
            else
              if (2 : Int32) ≤ x3 then
                yb_ck (inb (x3 - (1 : Int32)) 64) fun _ =>
                if (lg_cmp (J (b + 32) (x3 - (1 : Int32)).toNatClampNeg) (0 : Int64)) = 0 then
                  yb_let (x3 + (-2 : Int32)) fun x3_11 =>
                  yb_let (x4 + (1 : Int32)) fun x4_12 =>
                  f5_sum_L5 N b S Rf t0 n x3_11 x4_12 I J
                else
                  yb_ck (inb (x3 - (2 : Int32)) 64) fun _ =>
                  some (Sum.inl (J (b + 32) (x3 - (2 : Int32)).toNatClampNeg), I, J)
              else
                some (Sum.inl (0 : Int64), I, J)
        else
          if (2 : Int32) ≤ x3 then
            yb_let (x3 + (-1 : Int32)) fun x3_21 =>
            yb_ck (inb (x3_21 - (1 : Int32)) 64) fun _ =>
            yb_ck (inb x3_21 64) fun _ =>
            yb_b3 (f5_joined b S Rf x5_3 (J (b + 32) (x3_21 - (1 : Int32)).toNatClampNeg) (J (b + 32) x3_21.toNatClampNeg) I J) fun r_24 I_25 J_26 =>
            yb_let (up2J J_26 (b + 32) (x3_21 - (1 : Int32)).toNatClampNeg r_24) fun J_28 =>
            yb_let (x4 + (1 : Int32)) fun x4_29 =>
            f5_sum_L5 N b S Rf t0 n x3_21 x4_29 I_25 J_28
          else
            some (Sum.inl (0 : Int64), I, J)
      else
        if x3 < (nI 64) then
          yb_b3 (f5_valueOf b S Rf x5_3 I J) fun r_31 I_32 J_33 =>
          yb_ck (inb x3 64) fun _ =>
          yb_let (up2J J_33 (b + 32) x3.toNatClampNeg r_31) fun J_36 =>
          yb_let (x3 + (1 : Int32)) fun x3_37 =>
          yb_let (x4 + (1 : Int32)) fun x4_38 =>
          f5_sum_L5 N b S Rf t0 n x3_37 x4_38 I_32 J_36
        else
          some (Sum.inl (0 : Int64), I, J)
def f5_sum (N : Nat) (b : Nat) (S : ST) (Rf : RT) (t0 : Nat) (I : IT) (J : JT) : Option (Int64 × IT × JT) :=
  yb_b3 (f5_sum_L5 N b S Rf t0 N (0 : Int32) (0 : Int32) I J) fun q_39 I_40 J_41 =>
  yb_sm q_39 (fun v_43 => some (v_43, I_40, J_41)) fun x_44 =>
  some ((0 : Int64), I_40, J_41)
def f1_rightOf (N : Nat) (b : Nat) (S : ST) (Rf : RT) (x1 : Int32) (x2 : Int32) (x3 : Int32) (I : IT) (J : JT) : Option (Int32 × IT × JT) :=
  yb_let (I (b + 4) 6) fun x4_1 =>
  if x4_1 < 0 then
    yb_let (J (b + 31) 5) fun x7_3 =>
    yb_ck (inb x1 7) fun _ =>
    yb_let ((((50 : Int64) + ((5 : Int64) * ((I (b + 15) x1.toNatClampNeg).toInt64))) - ((4 : Int64) * x7_3)) - ((3 : Int64) * ((I (b + 8) x1.toNatClampNeg).toInt64))) fun x5_5 =>
    some (((if (if x5_5 < (100 : Int64) then x5_5 else (100 : Int64)) < (0 : Int64) then (0 : Int64) else (if x5_5 < (100 : Int64) then x5_5 else (100 : Int64))).toInt32), I, J)
  else
    if (6 : Int32) ≤ x4_1 then
      yb_let (J (b + 31) 5) fun x7_7 =>
      yb_ck (inb x1 7) fun _ =>
      yb_let ((((50 : Int64) + ((5 : Int64) * ((I (b + 15) x1.toNatClampNeg).toInt64))) - ((4 : Int64) * x7_7)) - ((3 : Int64) * ((I (b + 8) x1.toNatClampNeg).toInt64))) fun x5_9 =>
      some (((if (if x5_9 < (100 : Int64) then x5_9 else (100 : Int64)) < (0 : Int64) then (0 : Int64) else (if x5_9 < (100 : Int64) then x5_9 else (100 : Int64))).toInt32), I, J)
    else
      yb_ck (inb x4_1 6) fun _ =>
      yb_op (Rf (b + 3) x4_1.toNatClampNeg) (fun _ =>
        yb_let (J (b + 31) 5) fun x7_13 =>
        yb_ck (inb x1 7) fun _ =>
        yb_let ((((50 : Int64) + ((5 : Int64) * ((I (b + 15) x1.toNatClampNeg).toInt64))) - ((4 : Int64) * x7_13)) - ((3 : Int64) * ((I (b + 8) x1.toNatClampNeg).toInt64))) fun x5_15 =>
        some (((if (if x5_15 < (100 : Int64) then x5_15 else (100 : Int64)) < (0 : Int64) then (0 : Int64) else (if x5_15 < (100 : Int64) then x5_15 else (100 : Int64))).toInt32), I, J)) fun t_11 =>
      yb_b3 (f1_nameJudge b S Rf x1 x2 x3 I J) fun r_16 I_17 J_18 =>
      yb_b3 (f5_sum N b S Rf t_11  I_17 J_18) fun r_20 I_21 J_22 =>
      some (((if (if r_20 < (100 : Int64) then r_20 else (100 : Int64)) < (0 : Int64) then (0 : Int64) else (if r_20 < (100 : Int64) then r_20 else (100 : Int64))).toInt32), I_21, J_22)
def f1_rightNow (N : Nat) (b : Nat) (S : ST) (Rf : RT) (x1 : Int32) (x2 : Int32) (I : IT) (J : JT) : Option (Int32 × IT × JT) :=
  yb_ck (inb x1 6) fun _ =>
  yb_b3 (f1_chargeOf b S Rf x1 (I (b + 23) x1.toNatClampNeg) I J) fun r_2 I_3 J_4 =>
  yb_ck (inb x2 7) fun _ =>
  yb_b3 (f1_rightOf N b S Rf x2 (I_3 (b + 14) 9) (I_3 (b + 16) x2.toNatClampNeg) I_3 J_4) fun r_7 I_8 J_9 =>
  some (r_7, I_8, J_9)
def f1_begin (N : Nat) (b : Nat) (S : ST) (Rf : RT) (x1 : Int32) (x2 : Int32) (I : IT) (J : JT) : Option (Unit × IT × JT) :=
  yb_b3 (f1_rightNow N b S Rf x1 x2 I J) fun r_1 I_2 J_3 =>
  yb_ck (inb x1 6) fun _ =>
  yb_let (up2 I_2 (b + 19) x1.toNatClampNeg r_1) fun I_6 =>
  yb_let (up2 I_6 (b + 17) x1.toNatClampNeg x2) fun I_7 =>
  yb_let (up2 I_7 (b + 18) x1.toNatClampNeg (I_7 (b + 12) x1.toNatClampNeg)) fun I_8 =>
  some ((), I_8, J_3)
def f2_forget (b : Nat) (S : ST) (Rf : RT) (I : IT) (J : JT) : Option (Unit × IT × JT) :=
  yb_let (up2 I (b + 28) 2 (0 : Int32)) fun I_1 =>
  some ((), I_1, J)
def f2_takeBack (b : Nat) (S : ST) (Rf : RT) (t1 : Nat) (I : IT) (J : JT) : Option (Int32 × IT × JT) :=
  if (I (b + 28) 1) ≤ 0 then
    if (I (b + 28) 2) ≤ 0 then
      some ((0 : Int32), I, J)
    else
      yb_op (Rf (b + 29) 19) (fun _ =>
        some ((0 : Int32), I, J)) fun t_3 =>
      yb_b3 (f0_copy b S Rf t1 t_3  I J) fun r_5 I_6 J_7 =>
      yb_let (up2 I_6 (b + 28) 1 (19 : Int32)) fun I_9 =>
      yb_let (up2 I_9 (b + 28) 2 ((I_9 (b + 28) 2) - (1 : Int32))) fun I_10 =>
      some ((1 : Int32), I_10, J_7)
  else
    yb_let ((I (b + 28) 1) - (1 : Int32)) fun x2_11 =>
    if (I (b + 28) 2) ≤ 0 then
      some ((0 : Int32), I, J)
    else
      yb_ck (inb x2_11 20) fun _ =>
      yb_op (Rf (b + 29) x2_11.toNatClampNeg) (fun _ =>
        some ((0 : Int32), I, J)) fun t_14 =>
      yb_b3 (f0_copy b S Rf t1 t_14  I J) fun r_16 I_17 J_18 =>
      yb_let (up2 I_17 (b + 28) 1 x2_11) fun I_20 =>
      yb_let (up2 I_20 (b + 28) 2 ((I_20 (b + 28) 2) - (1 : Int32))) fun I_21 =>
      some ((1 : Int32), I_21, J_18)
def f3_moveTo_L5 (N : Nat) (b : Nat) (S : ST) (Rf : RT) : Nat → IT → JT → Option ((Unit) × IT × JT)
  | 0, _, _ => none
  | n + 1, I, J =>
    if (I (b + 2) 1) ≤ (I (b + 2) 2) then
      some ((), I, J)
    else
      yb_ck (inb (I (b + 2) 2) 400) fun _ =>
      if (I (b + 1) (I (b + 2) 2).toNatClampNeg) = (32 : Int32) then
        yb_let (up2 I (b + 2) 2 ((I (b + 2) 2) + (1 : Int32))) fun I_5 =>
        f3_moveTo_L5 N b S Rf n  I_5 J
      else
        some ((), I, J)
def f3_moveTo (N : Nat) (b : Nat) (S : ST) (Rf : RT) (x1 : Int32) (I : IT) (J : JT) : Option (Unit × IT × JT) :=
  yb_let (up2 I (b + 2) 2 x1) fun I_1 =>
  yb_b3 (f3_moveTo_L5 N b S Rf N  I_1 J) fun q_6 I_7 J_8 =>
  some ((), I_7, J_8)
def f3_open (N : Nat) (b : Nat) (S : ST) (Rf : RT) (x1 : Int32) (I : IT) (J : JT) : Option (Unit × IT × JT) :=
  yb_let (up2 I (b + 2) 1 (if (nI 400) < x1 then (nI 400) else x1)) fun I_1 =>
  yb_let (up2 I_1 (b + 2) 4 (0 : Int32)) fun I_2 =>
  yb_b3 (f3_moveTo N b S Rf (0 : Int32) I_2 J) fun r_3 I_4 J_5 =>
  some ((), I_4, J_5)
def f3_passSign (N : Nat) (b : Nat) (S : ST) (Rf : RT) (I : IT) (J : JT) : Option (Unit × IT × JT) :=
  yb_b3 (f3_moveTo N b S Rf ((I (b + 2) 2) + (1 : Int32)) I J) fun r_1 I_2 J_3 =>
  some ((), I_2, J_3)
def f3_passWord (N : Nat) (b : Nat) (S : ST) (Rf : RT) (I : IT) (J : JT) : Option (Unit × IT × JT) :=
  yb_b3 (f3_moveTo N b S Rf (I (b + 2) 3) I J) fun r_1 I_2 J_3 =>
  some ((), I_2, J_3)
def f3_sign (b : Nat) (S : ST) (Rf : RT) (I : IT) (J : JT) : Option (Int32 × IT × JT) :=
  if (I (b + 2) 1) ≤ (I (b + 2) 2) then
    some ((-1 : Int32), I, J)
  else
    yb_ck (inb (I (b + 2) 2) 400) fun _ =>
    some ((I (b + 1) (I (b + 2) 2).toNatClampNeg), I, J)
def f3_failAt (b : Nat) (S : ST) (Rf : RT) (x1 : Int32) (x2 : Int32) (I : IT) (J : JT) : Option (Int32 × IT × JT) :=
  yb_let (up2 I (b + 2) 4 (((1 : Int32) + ((8 : Int32) * x1)) + x2)) fun I_1 =>
  some ((0 : Int32), I_1, J)
def f3_fail (b : Nat) (S : ST) (Rf : RT) (x1 : Int32) (I : IT) (J : JT) : Option (Int32 × IT × JT) :=
  yb_b3 (f3_failAt b S Rf (I (b + 2) 2) x1 I J) fun r_1 I_2 J_3 =>
  yb_ck (bz r_1) fun _ =>
  some (r_1, I_2, J_3)
def f3_atDigit (b : Nat) (S : ST) (Rf : RT) (I : IT) (J : JT) : Option (Int32 × IT × JT) :=
  yb_b3 (f3_sign b S Rf  I J) fun r_1 I_2 J_3 =>
  if r_1 < (48 : Int32) then
    some ((0 : Int32), I_2, J_3)
  else
    yb_b3 (f3_sign b S Rf  I_2 J_3) fun r_6 I_7 J_8 =>
    if (57 : Int32) < r_6 then
      some ((0 : Int32), I_7, J_8)
    else
      some ((1 : Int32), I_7, J_8)
def f3_word_L8 (N : Nat) (b : Nat) (S : ST) (Rf : RT) : Nat → IT → JT → Option ((Unit) × IT × JT)
  | 0, _, _ => none
  | n + 1, I, J =>
    if (I (b + 2) 1) ≤ (I (b + 2) 3) then
      some ((), I, J)
    else
      yb_ck (inb (I (b + 2) 3) 400) fun _ =>
      if (I (b + 1) (I (b + 2) 3).toNatClampNeg) < (97 : Int32) then
        some ((), I, J)
      else
        if (122 : Int32) < (I (b + 1) (I (b + 2) 3).toNatClampNeg) then
          some ((), I, J)
        else
          yb_let (up2 I (b + 2) 3 ((I (b + 2) 3) + (1 : Int32))) fun I_6 =>
          f3_word_L8 N b S Rf n  I_6 J
def f3_word_L72 (N : Nat) (b : Nat) (S : ST) (Rf : RT) : Nat → Int32 → Int32 → Int32 → Int32 → IT → JT → Option ((Int32 ⊕ (Unit)) × IT × JT)
  | 0, _, _, _, _, _, _ => none
  | n + 1, x1, x2, x3, x4, I, J =>
    if (125 : Int32) ≤ x4 then
      some (Sum.inr (), I, J)
    else
      yb_ck (inb x4 125) fun _ =>
      yb_let (wch x4.toNatClampNeg) fun x5_14 =>
      if x5_14 = (32 : Int32) then
        if x3 = 0 then
          yb_let (x1 + (1 : Int32)) fun x1_26 =>
          yb_let (I (b + 2) 2) fun x2_27 =>
          yb_let (x4 + (1 : Int32)) fun x4_28 =>
          f3_word_L72 N b S Rf n x1_26 x2_27 (1 : Int32) x4_28 I J
        else
          if x2 = (I (b + 2) 3) then
            some (Sum.inl x1, I, J)
          else
            yb_let (x1 + (1 : Int32)) fun x1_30 =>
            yb_let (I (b + 2) 2) fun x2_31 =>
            yb_let (x4 + (1 : Int32)) fun x4_32 =>
            f3_word_L72 N b S Rf n x1_30 x2_31 (1 : Int32) x4_32 I J
      else
        if x3 = 0 then
          yb_let (x4 + (1 : Int32)) fun x4_17 =>
          f3_word_L72 N b S Rf n x1 x2 (0 : Int32) x4_17 I J
        else
          if (I (b + 2) 3) ≤ x2 then
            yb_let (x4 + (1 : Int32)) fun x4_19 =>
            f3_word_L72 N b S Rf n x1 x2 (0 : Int32) x4_19 I J
          else
            yb_ck (inb x2 400) fun _ =>
            if (I (b + 1) x2.toNatClampNeg) = x5_14 then
              yb_let (x2 + (1 : Int32)) fun x2_23 =>
              yb_let (x4 + (1 : Int32)) fun x4_24 =>
              f3_word_L72 N b S Rf n x1 x2_23 x3 x4_24 I J
            else
              yb_let (x4 + (1 : Int32)) fun x4_22 =>
              f3_word_L72 N b S Rf n x1 x2 (0 : Int32) x4_22 I J
def f3_word (N : Nat) (b : Nat) (S : ST) (Rf : RT) (I : IT) (J : JT) : Option (Int32 × IT × JT) :=
  yb_let (up2 I (b + 2) 3 (I (b + 2) 2)) fun I_1 =>
  yb_b3 (f3_word_L8 N b S Rf N  I_1 J) fun q_7 I_8 J_9 =>
  yb_let (I_8 (b + 2) 2) fun x2_11 =>
  yb_b3 (f3_word_L72 N b S Rf N (0 : Int32) x2_11 (1 : Int32) (0 : Int32) I_8 J_9) fun q_33 I_34 J_35 =>
  yb_sm q_33 (fun v_37 => some (v_37, I_34, J_35)) fun x_38 =>
  some ((-1 : Int32), I_34, J_35)
def f3_number_L8 (N : Nat) (b : Nat) (S : ST) (Rf : RT) (x1 : Int32) (x2 : Int32) : Nat → Int32 → Int32 → IT → JT → Option ((Int32 × Int32) × IT × JT)
  | 0, _, _, _, _ => none
  | n + 1, x3, x4, I, J =>
    if (I (b + 2) 1) ≤ x3 then
      some ((x3, x4), I, J)
    else
      yb_ck (inb x3 400) fun _ =>
      if (I (b + 1) x3.toNatClampNeg) < (48 : Int32) then
        some ((x3, x4), I, J)
      else
        if (57 : Int32) < (I (b + 1) x3.toNatClampNeg) then
          some ((x3, x4), I, J)
        else
          if (5 : Int32) ≤ (x3 - (I (b + 2) 2)) then
            yb_let (x3 + (1 : Int32)) fun x3_7 =>
            f3_number_L8 N b S Rf x1 x2 n x3_7 x4 I J
          else
            yb_let (((x4 * (10 : Int32)) + (I (b + 1) x3.toNatClampNeg)) - (48 : Int32)) fun x4_8 =>
            yb_let (x3 + (1 : Int32)) fun x3_9 =>
            f3_number_L8 N b S Rf x1 x2 n x3_9 x4_8 I J
def f3_number (N : Nat) (b : Nat) (S : ST) (Rf : RT) (x1 : Int32) (x2 : Int32) (I : IT) (J : JT) : Option (Int32 × IT × JT) :=
  yb_let (I (b + 2) 2) fun x3_1 =>
  yb_b3 (f3_number_L8 N b S Rf x1 x2 N x3_1 (0 : Int32) I J) fun q_10 I_11 J_12 =>
  if q_10.1 = (I_11 (b + 2) 2) then
    yb_b3 (f3_failAt b S Rf (I_11 (b + 2) 2) (0 : Int32) I_11 J_12) fun r_34 I_35 J_36 =>
    some ((-1 : Int32), I_35, J_36)
  else
    if (5 : Int32) < (q_10.1 - (I_11 (b + 2) 2)) then
      yb_b3 (f3_failAt b S Rf (I_11 (b + 2) 2) (1 : Int32) I_11 J_12) fun r_16 I_17 J_18 =>
      some ((-1 : Int32), I_17, J_18)
    else
      if q_10.2 < x1 then
        yb_b3 (f3_failAt b S Rf (I_11 (b + 2) 2) (1 : Int32) I_11 J_12) fun r_21 I_22 J_23 =>
        some ((-1 : Int32), I_22, J_23)
      else
        if q_10.2 ≤ x2 then
          yb_b3 (f3_moveTo N b S Rf q_10.1 I_11 J_12) fun r_26 I_27 J_28 =>
          some (q_10.2, I_27, J_28)
        else
          yb_b3 (f3_failAt b S Rf (I_11 (b + 2) 2) (1 : Int32) I_11 J_12) fun r_30 I_31 J_32 =>
          some ((-1 : Int32), I_31, J_32)
def f4_gatherOpen_L18 (N : Nat) (b : Nat) (S : ST) (Rf : RT) : Nat → Int32 → IT → JT → Option ((Unit) × IT × JT)
  | 0, _, _, _ => none
  | n + 1, x2, I, J =>
    if (I (b + 5) 14) ≤ x2 then
      some ((), I, J)
    else
      yb_ck (inb x2 6) fun _ =>
      if 0 ≤ (I (b + 17) x2.toNatClampNeg) then
        yb_let (x2 + (1 : Int32)) fun x2_5 =>
        f4_gatherOpen_L18 N b S Rf n x2_5 I J
      else
        if (I (b + 23) x2.toNatClampNeg) = 0 then
          if (4 : Int32) ≤ (I (b + 33) 14) then
            yb_let (up2 I (b + 33) 14 ((I (b + 33) 14) + (1 : Int32))) fun I_9 =>
            yb_let (x2 + (1 : Int32)) fun x2_10 =>
            f4_gatherOpen_L18 N b S Rf n x2_10 I_9 J
          else
            yb_ck (inb (I (b + 33) 14) 4) fun _ =>
            yb_let (up2 I (b + 39) (I (b + 33) 14).toNatClampNeg x2) fun I_12 =>
            yb_let (up2 I_12 (b + 33) 14 ((I_12 (b + 33) 14) + (1 : Int32))) fun I_13 =>
            yb_let (x2 + (1 : Int32)) fun x2_14 =>
            f4_gatherOpen_L18 N b S Rf n x2_14 I_13 J
        else
          yb_let (x2 + (1 : Int32)) fun x2_7 =>
          f4_gatherOpen_L18 N b S Rf n x2_7 I J
def f4_gatherOpen (N : Nat) (b : Nat) (S : ST) (Rf : RT) (I : IT) (J : JT) : Option (Unit × IT × JT) :=
  yb_let (up2 I (b + 33) 14 (0 : Int32)) fun I_1 =>
  yb_b3 (f4_gatherOpen_L18 N b S Rf N (0 : Int32) I_1 J) fun q_15 I_16 J_17 =>
  some ((), I_16, J_17)
def f4_isFree_L6 (N : Nat) (b : Nat) (S : ST) (Rf : RT) (x1 : Int32) (x3 : Int32) (x4 : Int32) : Nat → Int32 → Int32 → IT → JT → Option ((Int32 ⊕ (Unit)) × IT × JT)
  | 0, _, _, _, _ => none
  | n + 1, x5, x6, I, J =>
    if (4 : Int32) ≤ x6 then
      some (Sum.inr (), I, J)
    else
      if x5 ≤ 0 then
        some (Sum.inr (), I, J)
      else
        yb_ck (inb ((x1 * (65 : Int32)) + x5) 455) fun _ =>
        yb_let (I (b + 37) ((x1 * (65 : Int32)) + x5).toNatClampNeg) fun x7_4 =>
        yb_ck (inb x5 65) fun _ =>
        yb_ck (inb (I (b + 36) x5.toNatClampNeg) 4) fun _ =>
        yb_ck (inb (I (b + 39) (I (b + 36) x5.toNatClampNeg).toNatClampNeg) 6) fun _ =>
        yb_let (x7_4 + (I (b + 12) (I (b + 39) (I (b + 36) x5.toNatClampNeg).toNatClampNeg).toNatClampNeg)) fun x8_8 =>
        if x8_8 ≤ x3 then
          yb_let (I (b + 35) x5.toNatClampNeg) fun x5_10 =>
          yb_let (x6 + (1 : Int32)) fun x6_11 =>
          f4_isFree_L6 N b S Rf x1 x3 x4 n x5_10 x6_11 I J
        else
          if (x3 + x4) ≤ x7_4 then
            yb_let (I (b + 35) x5.toNatClampNeg) fun x5_13 =>
            yb_let (x6 + (1 : Int32)) fun x6_14 =>
            f4_isFree_L6 N b S Rf x1 x3 x4 n x5_13 x6_14 I J
          else
            some (Sum.inl (0 : Int32), I, J)
def f4_isFree (N : Nat) (b : Nat) (S : ST) (Rf : RT) (x1 : Int32) (x2 : Int32) (x3 : Int32) (x4 : Int32) (I : IT) (J : JT) : Option (Int32 × IT × JT) :=
  yb_b3 (f4_isFree_L6 N b S Rf x1 x3 x4 N x2 (0 : Int32) I J) fun q_15 I_16 J_17 =>
  yb_sm q_15 (fun v_19 => some (v_19, I_16, J_17)) fun x_20 =>
  some ((1 : Int32), I_16, J_17)
def f4_firstDay_L107 (N : Nat) (b : Nat) (S : ST) (Rf : RT) (x1 : Int32) (x4 : Int32) (x5 : Int32) : Nat → Int32 → IT → JT → Option ((Int32 ⊕ (Unit)) × IT × JT)
  | 0, _, _, _ => none
  | n + 1, x9, I, J =>
    if ((I (b + 14) 9) + (100 : Int32)) ≤ x9 then
      some (Sum.inr (), I, J)
    else
      yb_b3 (f1_canHear b S Rf x5 x1 x9 I J) fun r_16 I_17 J_18 =>
      if r_16 = 0 then
        yb_let (x9 + (1 : Int32)) fun x9_21 =>
        f4_firstDay_L107 N b S Rf x1 x4 x5 n x9_21 I_17 J_18
      else
        yb_ck (inb x5 6) fun _ =>
        yb_b3 (f4_isFree N b S Rf x1 x4 x9 (I_17 (b + 12) x5.toNatClampNeg) I_17 J_18) fun r_23 I_24 J_25 =>
        if r_23 = 0 then
          yb_let (x9 + (1 : Int32)) fun x9_28 =>
          f4_firstDay_L107 N b S Rf x1 x4 x5 n x9_28 I_24 J_25
        else
          some (Sum.inl x9, I_24, J_25)
def f4_firstDay (N : Nat) (b : Nat) (S : ST) (Rf : RT) (x1 : Int32) (x2 : Int32) (I : IT) (J : JT) : Option (Int32 × IT × JT) :=
  yb_let (x1 * (65 : Int32)) fun x3_1 =>
  yb_ck (inb x2 65) fun _ =>
  yb_let (I (b + 35) x2.toNatClampNeg) fun x4_3 =>
  if (I (b + 33) 14) ≤ (I (b + 36) x2.toNatClampNeg) then
    some ((-1 : Int32), I, J)
  else
    if x4_3 ≤ 0 then
      yb_ck (inb (I (b + 36) x2.toNatClampNeg) 4) fun _ =>
      yb_let (I (b + 39) (I (b + 36) x2.toNatClampNeg).toNatClampNeg) fun x5_7 =>
      yb_b3 (f0_heardBy N b S Rf (b + 14) x1 I J) fun r_8 I_9 J_10 =>
      if 0 ≤ r_8 then
        yb_ck (inb r_8 6) fun _ =>
        yb_let ((I_9 (b + 14) 9) + (I_9 (b + 18) r_8.toNatClampNeg)) fun x8_14 =>
        yb_b3 (f4_firstDay_L107 N b S Rf x1 x4_3 x5_7 N x8_14 I_9 J_10) fun q_29 I_30 J_31 =>
        yb_sm q_29 (fun v_33 => some (v_33, I_30, J_31)) fun x_34 =>
        some ((-1 : Int32), I_30, J_31)
      else
        yb_let ((I_9 (b + 14) 9) + (0 : Int32)) fun x8_35 =>
        yb_b3 (f4_firstDay_L107 N b S Rf x1 x4_3 x5_7 N x8_35 I_9 J_10) fun q_36 I_37 J_38 =>
        yb_sm q_36 (fun v_40 => some (v_40, I_37, J_38)) fun x_41 =>
        some ((-1 : Int32), I_37, J_38)
    else
      yb_ck (inb (x3_1 + x4_3) 455) fun _ =>
      if 0 ≤ (I (b + 37) (x3_1 + x4_3).toNatClampNeg) then
        yb_ck (inb (I (b + 36) x2.toNatClampNeg) 4) fun _ =>
        yb_let (I (b + 39) (I (b + 36) x2.toNatClampNeg).toNatClampNeg) fun x5_45 =>
        yb_b3 (f0_heardBy N b S Rf (b + 14) x1 I J) fun r_46 I_47 J_48 =>
        if 0 ≤ r_46 then
          yb_ck (inb r_46 6) fun _ =>
          yb_let ((I_47 (b + 14) 9) + (I_47 (b + 18) r_46.toNatClampNeg)) fun x8_52 =>
          yb_b3 (f4_firstDay_L107 N b S Rf x1 x4_3 x5_45 N x8_52 I_47 J_48) fun q_53 I_54 J_55 =>
          yb_sm q_53 (fun v_57 => some (v_57, I_54, J_55)) fun x_58 =>
          some ((-1 : Int32), I_54, J_55)
        else
          yb_let ((I_47 (b + 14) 9) + (0 : Int32)) fun x8_59 =>
          yb_b3 (f4_firstDay_L107 N b S Rf x1 x4_3 x5_45 N x8_59 I_47 J_48) fun q_60 I_61 J_62 =>
          yb_sm q_60 (fun v_64 => some (v_64, I_61, J_62)) fun x_65 =>
          some ((-1 : Int32), I_61, J_62)
      else
        some ((-1 : Int32), I, J)
def f4_weigh_L18 (N : Nat) (b : Nat) (S : ST) (Rf : RT) (x1 : Int32) (x2 : Int32) : Nat → Int32 → IT → JT → Option ((Unit) × IT × JT)
  | 0, _, _, _ => none
  | n + 1, x3, I, J =>
    if (65 : Int32) ≤ x3 then
      some ((), I, J)
    else
      yb_let ((x1 * (65 : Int32)) + x3) fun x4_4 =>
      yb_ck (inb x4_4 455) fun _ =>
      if (I (b + 37) x4_4.toNatClampNeg) < 0 then
        yb_let (x3 + (1 : Int32)) fun x3_7 =>
        f4_weigh_L18 N b S Rf x1 x2 n x3_7 I J
      else
        yb_ck (inb x3 65) fun _ =>
        yb_ck (inb (I (b + 36) x3.toNatClampNeg) 4) fun _ =>
        yb_b3 (f1_chargeOf b S Rf (I (b + 39) (I (b + 36) x3.toNatClampNeg).toNatClampNeg) (0 : Int32) I J) fun r_10 I_11 J_12 =>
        yb_b3 (f1_rightOf N b S Rf x1 (I_11 (b + 37) x4_4.toNatClampNeg) x2 I_11 J_12) fun r_14 I_15 J_16 =>
        yb_let (up2 I_15 (b + 38) x4_4.toNatClampNeg r_14) fun I_18 =>
        yb_let (x3 + (1 : Int32)) fun x3_19 =>
        f4_weigh_L18 N b S Rf x1 x2 n x3_19 I_18 J_16
def f4_weigh (N : Nat) (b : Nat) (S : ST) (Rf : RT) (x1 : Int32) (I : IT) (J : JT) : Option (Unit × IT × JT) :=
  yb_ck (inb x1 7) fun _ =>
  yb_let (I (b + 16) x1.toNatClampNeg) fun x2_2 =>
  yb_b3 (f4_weigh_L18 N b S Rf x1 x2_2 N (1 : Int32) I J) fun q_20 I_21 J_22 =>
  some ((), I_21, J_22)
def f4_placeAll_L21 (N : Nat) (b : Nat) (S : ST) (Rf : RT) (x1 : Int32) : Nat → Int32 → IT → JT → Option ((Unit) × IT × JT)
  | 0, _, _, _ => none
  | n + 1, x2, I, J =>
    if (65 : Int32) ≤ x2 then
      some ((), I, J)
    else
      yb_b3 (f4_firstDay N b S Rf x1 x2 I J) fun r_3 I_4 J_5 =>
      yb_ck (inb ((x1 * (65 : Int32)) + x2) 455) fun _ =>
      yb_let (up2 I_4 (b + 37) ((x1 * (65 : Int32)) + x2).toNatClampNeg r_3) fun I_8 =>
      yb_let (x2 + (1 : Int32)) fun x2_9 =>
      f4_placeAll_L21 N b S Rf x1 n x2_9 I_8 J_5
def f4_placeAll_L2 (N : Nat) (b : Nat) (S : ST) (Rf : RT) : Nat → Int32 → IT → JT → Option ((Unit) × IT × JT)
  | 0, _, _, _ => none
  | n + 1, x1, I, J =>
    if (I (b + 5) 13) ≤ x1 then
      some ((), I, J)
    else
      yb_b3 (f4_placeAll_L21 N b S Rf x1 N (1 : Int32) I J) fun q_10 I_11 J_12 =>
      yb_b3 (f4_weigh N b S Rf x1 I_11 J_12) fun r_14 I_15 J_16 =>
      yb_let (x1 + (1 : Int32)) fun x1_18 =>
      f4_placeAll_L2 N b S Rf n x1_18 I_15 J_16
def f4_placeAll (N : Nat) (b : Nat) (S : ST) (Rf : RT) (I : IT) (J : JT) : Option (Unit × IT × JT) :=
  yb_b3 (f4_placeAll_L2 N b S Rf N (0 : Int32) I J) fun q_19 I_20 J_21 =>
  some ((), I_20, J_21)
def f4_keepIfBetter_L37 (N : Nat) (b : Nat) (S : ST) (Rf : RT) : Nat → Int32 → IT → JT → Option ((Unit) × IT × JT)
  | 0, _, _, _ => none
  | n + 1, x3, I, J =>
    if (I (b + 33) 14) ≤ x3 then
      some ((), I, J)
    else
      if (4 : Int32) ≤ x3 then
        some ((), I, J)
      else
        yb_ck (inb x3 4) fun _ =>
        yb_ck (inb (I (b + 40) x3.toNatClampNeg) 4) fun _ =>
        yb_let (up2 I (b + 44) x3.toNatClampNeg (I (b + 39) (I (b + 40) x3.toNatClampNeg).toNatClampNeg)) fun I_9 =>
        yb_let (up2 I_9 (b + 45) x3.toNatClampNeg (I_9 (b + 41) x3.toNatClampNeg)) fun I_10 =>
        yb_let (up2 I_10 (b + 46) x3.toNatClampNeg (I_10 (b + 42) x3.toNatClampNeg)) fun I_11 =>
        yb_let (x3 + (1 : Int32)) fun x3_12 =>
        f4_keepIfBetter_L37 N b S Rf n x3_12 I_11 J
def f4_keepIfBetter (N : Nat) (b : Nat) (S : ST) (Rf : RT) (x1 : Int32) (x2 : Int32) (I : IT) (J : JT) : Option (Unit × IT × JT) :=
  if x1 < (I (b + 33) 15) then
    some ((), I, J)
  else
    if x1 = (I (b + 33) 15) then
      if x2 < (I (b + 33) 16) then
        yb_let (up2 I (b + 33) 15 x1) fun I_18 =>
        yb_let (up2 I_18 (b + 33) 16 x2) fun I_19 =>
        yb_b3 (f4_keepIfBetter_L37 N b S Rf N (0 : Int32) I_19 J) fun q_20 I_21 J_22 =>
        some ((), I_21, J_22)
      else
        some ((), I, J)
    else
      yb_let (up2 I (b + 33) 15 x1) fun I_3 =>
      yb_let (up2 I_3 (b + 33) 16 x2) fun I_4 =>
      yb_b3 (f4_keepIfBetter_L37 N b S Rf N (0 : Int32) I_4 J) fun q_13 I_14 J_15 =>
      some ((), I_14, J_15)
def f6_put (b : Nat) (S : ST) (Rf : RT) (x1 : Int32) (I : IT) (J : JT) : Option (Unit × IT × JT) :=
  if (400 : Int32) ≤ (I (b + 62) 2) then
    some ((), I, J)
  else
    yb_ck (inb (I (b + 62) 2) 400) fun _ =>
    yb_let (up2 I (b + 63) (I (b + 62) 2).toNatClampNeg x1) fun I_3 =>
    yb_let (up2 I_3 (b + 62) 2 ((I_3 (b + 62) 2) + (1 : Int32))) fun I_4 =>
    some ((), I_4, J)
def f6_readsValue (N : Nat) (b : Nat) (S : ST) (Rf : RT) (I : IT) (J : JT) : Option (Int32 × IT × JT) :=
  yb_let (I (b + 2) 2) fun x1_1 =>
  yb_b3 (f3_atDigit b S Rf  I J) fun r_2 I_3 J_4 =>
  if r_2 = 0 then
    yb_b3 (f3_word N b S Rf  I_3 J_4) fun r_7 I_8 J_9 =>
    if r_7 < 0 then
      yb_b3 (f3_fail b S Rf (0 : Int32) I_8 J_9) fun r_12 I_13 J_14 =>
      yb_ck (bz r_12) fun _ =>
      some (r_12, I_13, J_14)
    else
      if r_7 < (12 : Int32) then
        yb_b3 (f3_passWord N b S Rf  I_8 J_9) fun r_18 I_19 J_20 =>
        yb_let ((100000 : Int32) + r_7) fun x2_22 =>
        if (I_19 (b + 62) 3) < (60 : Int32) then
          yb_let (up2 I_19 (b + 62) 3 ((I_19 (b + 62) 3) + (1 : Int32))) fun I_24 =>
          yb_b3 (f6_put b S Rf x2_22 I_24 J_20) fun r_25 I_26 J_27 =>
          some ((1 : Int32), I_26, J_27)
        else
          yb_b3 (f3_failAt b S Rf x1_1 (3 : Int32) I_19 J_20) fun r_29 I_30 J_31 =>
          yb_ck (bz r_29) fun _ =>
          some (r_29, I_30, J_31)
      else
        yb_b3 (f3_fail b S Rf (0 : Int32) I_8 J_9) fun r_34 I_35 J_36 =>
        yb_ck (bz r_34) fun _ =>
        some (r_34, I_35, J_36)
  else
    yb_b3 (f3_number N b S Rf (0 : Int32) (99999 : Int32) I_3 J_4) fun r_39 I_40 J_41 =>
    if 0 ≤ r_39 then
      if (I_40 (b + 62) 3) < (60 : Int32) then
        yb_let (up2 I_40 (b + 62) 3 ((I_40 (b + 62) 3) + (1 : Int32))) fun I_45 =>
        yb_b3 (f6_put b S Rf r_39 I_45 J_41) fun r_46 I_47 J_48 =>
        some ((1 : Int32), I_47, J_48)
      else
        yb_b3 (f3_failAt b S Rf x1_1 (3 : Int32) I_40 J_41) fun r_50 I_51 J_52 =>
        yb_ck (bz r_50) fun _ =>
        some (r_50, I_51, J_52)
    else
      some ((0 : Int32), I_40, J_41)
def f6_timesOrBy (b : Nat) (S : ST) (Rf : RT) (I : IT) (J : JT) : Option (Int32 × IT × JT) :=
  yb_b3 (f3_sign b S Rf  I J) fun r_1 I_2 J_3 =>
  if r_1 = (37 : Int32) then
    some ((200004 : Int32), I_2, J_3)
  else
  if r_1 = (42 : Int32) then
    some ((200002 : Int32), I_2, J_3)
  else
  if r_1 = (47 : Int32) then
    some ((200003 : Int32), I_2, J_3)
  else
    some ((-1 : Int32), I_2, J_3)
def f6_plusOrMinus (b : Nat) (S : ST) (Rf : RT) (I : IT) (J : JT) : Option (Int32 × IT × JT) :=
  yb_b3 (f3_sign b S Rf  I J) fun r_1 I_2 J_3 =>
  if r_1 = (43 : Int32) then
    some ((200000 : Int32), I_2, J_3)
  else
  if r_1 = (45 : Int32) then
    some ((200001 : Int32), I_2, J_3)
  else
    some ((-1 : Int32), I_2, J_3)
def f6_readsSum_L6 (N : Nat) (b : Nat) (S : ST) (Rf : RT) : Nat → Int32 → Int32 → Int32 → IT → JT → Option ((Int32 ⊕ (Unit)) × IT × JT)
  | 0, _, _, _, _, _ => none
  | n + 1, x1, x2, x3, I, J =>
    if (400 : Int32) ≤ x3 then
      some (Sum.inr (), I, J)
    else
      yb_b3 (f6_readsValue N b S Rf  I J) fun r_2 I_3 J_4 =>
      if r_2 = 0 then
        some (Sum.inl (0 : Int32), I_3, J_4)
      else
        if x1 = (-1 : Int32) then
          yb_b3 (f6_timesOrBy b S Rf  I_3 J_4) fun r_8 I_9 J_10 =>
          if r_8 = (-1 : Int32) then
            if x2 = (-1 : Int32) then
              yb_b3 (f6_plusOrMinus b S Rf  I_9 J_10) fun r_19 I_20 J_21 =>
              if r_19 = (-1 : Int32) then
                some (Sum.inl (1 : Int32), I_20, J_21)
              else
                yb_b3 (f3_passSign N b S Rf  I_20 J_21) fun r_24 I_25 J_26 =>
                yb_let (x3 + (1 : Int32)) fun x3_28 =>
                f6_readsSum_L6 N b S Rf n r_8 r_19 x3_28 I_25 J_26
            else
              yb_b3 (f6_put b S Rf x2 I_9 J_10) fun r_29 I_30 J_31 =>
              yb_b3 (f6_plusOrMinus b S Rf  I_30 J_31) fun r_33 I_34 J_35 =>
              if r_33 = (-1 : Int32) then
                some (Sum.inl (1 : Int32), I_34, J_35)
              else
                yb_b3 (f3_passSign N b S Rf  I_34 J_35) fun r_38 I_39 J_40 =>
                yb_let (x3 + (1 : Int32)) fun x3_42 =>
                f6_readsSum_L6 N b S Rf n r_8 r_33 x3_42 I_39 J_40
          else
            yb_b3 (f3_passSign N b S Rf  I_9 J_10) fun r_13 I_14 J_15 =>
            yb_let (x3 + (1 : Int32)) fun x3_17 =>
            f6_readsSum_L6 N b S Rf n r_8 x2 x3_17 I_14 J_15
        else
          yb_b3 (f6_put b S Rf x1 I_3 J_4) fun r_43 I_44 J_45 =>
          yb_b3 (f6_timesOrBy b S Rf  I_44 J_45) fun r_47 I_48 J_49 =>
          if r_47 = (-1 : Int32) then
            if x2 = (-1 : Int32) then
              yb_b3 (f6_plusOrMinus b S Rf  I_48 J_49) fun r_58 I_59 J_60 =>
              if r_58 = (-1 : Int32) then
                some (Sum.inl (1 : Int32), I_59, J_60)
              else
                yb_b3 (f3_passSign N b S Rf  I_59 J_60) fun r_63 I_64 J_65 =>
                yb_let (x3 + (1 : Int32)) fun x3_67 =>
                f6_readsSum_L6 N b S Rf n r_47 r_58 x3_67 I_64 J_65
            else
              yb_b3 (f6_put b S Rf x2 I_48 J_49) fun r_68 I_69 J_70 =>
              yb_b3 (f6_plusOrMinus b S Rf  I_69 J_70) fun r_72 I_73 J_74 =>
              if r_72 = (-1 : Int32) then
                some (Sum.inl (1 : Int32), I_73, J_74)
              else
                yb_b3 (f3_passSign N b S Rf  I_73 J_74) fun r_77 I_78 J_79 =>
                yb_let (x3 + (1 : Int32)) fun x3_81 =>
                f6_readsSum_L6 N b S Rf n r_47 r_72 x3_81 I_78 J_79
          else
            yb_b3 (f3_passSign N b S Rf  I_48 J_49) fun r_52 I_53 J_54 =>
            yb_let (x3 + (1 : Int32)) fun x3_56 =>
            f6_readsSum_L6 N b S Rf n r_47 x2 x3_56 I_53 J_54
def f6_readsSum (N : Nat) (b : Nat) (S : ST) (Rf : RT) (I : IT) (J : JT) : Option (Int32 × IT × JT) :=
  yb_b3 (f6_readsSum_L6 N b S Rf N (-1 : Int32) (-1 : Int32) (0 : Int32) I J) fun q_82 I_83 J_84 =>
  yb_sm q_82 (fun v_86 => some (v_86, I_83, J_84)) fun x_87 =>
  some ((0 : Int32), I_83, J_84)
def f6_comparison (b : Nat) (S : ST) (Rf : RT) (I : IT) (J : JT) : Option (Int32 × IT × JT) :=
  yb_let ((I (b + 2) 2) + (1 : Int32)) fun x1_1 =>
  if (I (b + 2) 1) ≤ x1_1 then
    yb_b3 (f3_sign b S Rf  I J) fun r_3 I_4 J_5 =>
    if r_3 = (60 : Int32) then
      some ((200005 : Int32), I_4, J_5)
    else
    if r_3 = (61 : Int32) then
      some ((200007 : Int32), I_4, J_5)
    else
    if r_3 = (62 : Int32) then
      some ((200009 : Int32), I_4, J_5)
    else
      some ((-1 : Int32), I_4, J_5)
  else
    yb_ck (inb x1_1 400) fun _ =>
    if (I (b + 1) x1_1.toNatClampNeg) = (61 : Int32) then
      yb_b3 (f3_sign b S Rf  I J) fun r_23 I_24 J_25 =>
      if r_23 = (60 : Int32) then
        some ((200006 : Int32), I_24, J_25)
      else
      if r_23 = (61 : Int32) then
        some ((200007 : Int32), I_24, J_25)
      else
      if r_23 = (62 : Int32) then
        some ((200008 : Int32), I_24, J_25)
      else
        some ((-1 : Int32), I_24, J_25)
    else
      yb_b3 (f3_sign b S Rf  I J) fun r_14 I_15 J_16 =>
      if r_14 = (60 : Int32) then
        some ((200005 : Int32), I_15, J_16)
      else
      if r_14 = (61 : Int32) then
        some ((200007 : Int32), I_15, J_16)
      else
      if r_14 = (62 : Int32) then
        some ((200009 : Int32), I_15, J_16)
      else
        some ((-1 : Int32), I_15, J_16)
def f6_readsComparison (N : Nat) (b : Nat) (S : ST) (Rf : RT) (I : IT) (J : JT) : Option (Int32 × IT × JT) :=
  yb_b3 (f6_comparison b S Rf  I J) fun r_1 I_2 J_3 =>
  if r_1 = (-1 : Int32) then
    yb_b3 (f3_fail b S Rf (0 : Int32) I_2 J_3) fun r_29 I_30 J_31 =>
    some ((-1 : Int32), I_30, J_31)
  else
    if (I_2 (b + 62) 3) < (60 : Int32) then
      yb_let (up2 I_2 (b + 62) 3 ((I_2 (b + 62) 3) + (1 : Int32))) fun I_7 =>
      if r_1 = (200006 : Int32) then
        yb_b3 (f3_moveTo N b S Rf ((I_7 (b + 2) 2) + (2 : Int32)) I_7 J_3) fun r_10 I_11 J_12 =>
        some (r_1, I_11, J_12)
      else
        if r_1 = (200008 : Int32) then
          yb_b3 (f3_moveTo N b S Rf ((I_7 (b + 2) 2) + (2 : Int32)) I_7 J_3) fun r_21 I_22 J_23 =>
          some (r_1, I_22, J_23)
        else
          yb_b3 (f3_moveTo N b S Rf ((I_7 (b + 2) 2) + (1 : Int32)) I_7 J_3) fun r_16 I_17 J_18 =>
          some (r_1, I_17, J_18)
    else
      yb_b3 (f3_fail b S Rf (3 : Int32) I_2 J_3) fun r_25 I_26 J_27 =>
      some ((-1 : Int32), I_26, J_27)
def f8_factsAllow_L3 (N : Nat) (b : Nat) (S : ST) (Rf : RT) (t0 : Nat) (x1 : Int32) (x2 : Int32) (x3 : Int32) (x4 : Int32) (x5 : Int32) : Nat → Int32 → IT → JT → Option ((Int32 ⊕ (Unit)) × IT × JT)
  | 0, _, _, _ => none
  | n + 1, x6, I, J =>
    if (I t0 5) ≤ x6 then
      some (Sum.inr (), I, J)
    else
      yb_ck (inb x6 10) fun _ =>
      if (I (t0 + 20) x6.toNatClampNeg) = x1 then
        yb_let ((I (t0 + 21) x6.toNatClampNeg) >>> ((1 : Int32) &&& 31)) fun x7_5 =>
        if x7_5 = 0 then
          if ((I (t0 + 21) x6.toNatClampNeg) &&& (1 : Int32)) = 0 then
            if (I (t0 + 22) x6.toNatClampNeg) ≤ x2 then
              yb_let (x6 + (1 : Int32)) fun x6_36 =>
              f8_factsAllow_L3 N b S Rf t0 x1 x2 x3 x4 x5 n x6_36 I J
            else
              some (Sum.inl (0 : Int32), I, J)
          else
            if x2 ≤ (I (t0 + 22) x6.toNatClampNeg) then
              yb_let (x6 + (1 : Int32)) fun x6_33 =>
              f8_factsAllow_L3 N b S Rf t0 x1 x2 x3 x4 x5 n x6_33 I J
            else
              some (Sum.inl (0 : Int32), I, J)
        else
          if x7_5 = (1 : Int32) then
            if ((I (t0 + 21) x6.toNatClampNeg) &&& (1 : Int32)) = 0 then
              if (I (t0 + 22) x6.toNatClampNeg) ≤ x3 then
                yb_let (x6 + (1 : Int32)) fun x6_29 =>
                f8_factsAllow_L3 N b S Rf t0 x1 x2 x3 x4 x5 n x6_29 I J
              else
                some (Sum.inl (0 : Int32), I, J)
            else
              if x3 ≤ (I (t0 + 22) x6.toNatClampNeg) then
                yb_let (x6 + (1 : Int32)) fun x6_26 =>
                f8_factsAllow_L3 N b S Rf t0 x1 x2 x3 x4 x5 n x6_26 I J
              else
                some (Sum.inl (0 : Int32), I, J)
          else
            if x7_5 = (2 : Int32) then
              if ((I (t0 + 21) x6.toNatClampNeg) &&& (1 : Int32)) = 0 then
                if (I (t0 + 22) x6.toNatClampNeg) ≤ x4 then
                  yb_let (x6 + (1 : Int32)) fun x6_22 =>
                  f8_factsAllow_L3 N b S Rf t0 x1 x2 x3 x4 x5 n x6_22 I J
                else
                  some (Sum.inl (0 : Int32), I, J)
              else
                if x4 ≤ (I (t0 + 22) x6.toNatClampNeg) then
                  yb_let (x6 + (1 : Int32)) fun x6_19 =>
                  f8_factsAllow_L3 N b S Rf t0 x1 x2 x3 x4 x5 n x6_19 I J
                else
                  some (Sum.inl (0 : Int32), I, J)
            else
              if ((I (t0 + 21) x6.toNatClampNeg) &&& (1 : Int32)) = 0 then
                if (I (t0 + 22) x6.toNatClampNeg) ≤ x5 then
                  yb_let (x6 + (1 : Int32)) fun x6_15 =>
                  f8_factsAllow_L3 N b S Rf t0 x1 x2 x3 x4 x5 n x6_15 I J
                else
                  some (Sum.inl (0 : Int32), I, J)
              else
                if x5 ≤ (I (t0 + 22) x6.toNatClampNeg) then
                  yb_let (x6 + (1 : Int32)) fun x6_12 =>
                  f8_factsAllow_L3 N b S Rf t0 x1 x2 x3 x4 x5 n x6_12 I J
                else
                  some (Sum.inl (0 : Int32), I, J)
      else
        yb_let (x6 + (1 : Int32)) fun x6_4 =>
        f8_factsAllow_L3 N b S Rf t0 x1 x2 x3 x4 x5 n x6_4 I J
def f8_factsAllow (N : Nat) (b : Nat) (S : ST) (Rf : RT) (t0 : Nat) (x1 : Int32) (x2 : Int32) (x3 : Int32) (x4 : Int32) (x5 : Int32) (I : IT) (J : JT) : Option (Int32 × IT × JT) :=
  yb_b3 (f8_factsAllow_L3 N b S Rf t0 x1 x2 x3 x4 x5 N (0 : Int32) I J) fun q_37 I_38 J_39 =>
  yb_sm q_37 (fun v_41 => some (v_41, I_38, J_39)) fun x_42 =>
  some ((1 : Int32), I_38, J_39)
def f7_weigh (N : Nat) (b : Nat) (S : ST) (Rf : RT) (x1 : Int32) (x2 : Int32) (x3 : Int32) (I : IT) (J : JT) : Option (Unit × IT × JT) :=
  yb_b3 (f1_rightOf N b S Rf x2 x3 (0 : Int32) I J) fun r_1 I_2 J_3 =>
  yb_ck (inb x2 7) fun _ =>
  yb_b3 (f8_factsAllow N b S Rf (b + 4) x1 ((I_2 (b + 6) x2.toNatClampNeg) + x3) (I_2 (b + 15) x2.toNatClampNeg) x3 r_1 I_2 J_3) fun r_6 I_7 J_8 =>
  if r_6 = 0 then
    some ((), I_7, J_8)
  else
    if (I_7 (b + 48) 4) = 0 then
      yb_let (up2 I_7 (b + 48) 5 x2) fun I_19 =>
      yb_let (up2 I_19 (b + 48) 6 x3) fun I_20 =>
      yb_let (up2 I_20 (b + 48) 4 ((I_20 (b + 48) 4) + (1 : Int32))) fun I_21 =>
      yb_let (up2 I_21 (b + 48) 7 ((I_21 (b + 48) 7) ||| ((1 : Int32) <<< (x2 &&& 31)))) fun I_22 =>
      yb_let (up2 I_22 (b + 49) x2.toNatClampNeg ((I_22 (b + 49) x2.toNatClampNeg) + (1 : Int32))) fun I_23 =>
      yb_ck (inb x3 61) fun _ =>
      yb_let (up2 I_23 (b + 50) x3.toNatClampNeg ((I_23 (b + 50) x3.toNatClampNeg) + (1 : Int32))) fun I_25 =>
      yb_ck (inb r_1 101) fun _ =>
      yb_let (up2 I_25 (b + 51) r_1.toNatClampNeg ((I_25 (b + 51) r_1.toNatClampNeg) + (1 : Int32))) fun I_27 =>
      some ((), I_27, J_8)
    else
      yb_let (up2 I_7 (b + 48) 4 ((I_7 (b + 48) 4) + (1 : Int32))) fun I_12 =>
      yb_let (up2 I_12 (b + 48) 7 ((I_12 (b + 48) 7) ||| ((1 : Int32) <<< (x2 &&& 31)))) fun I_13 =>
      yb_let (up2 I_13 (b + 49) x2.toNatClampNeg ((I_13 (b + 49) x2.toNatClampNeg) + (1 : Int32))) fun I_14 =>
      yb_ck (inb x3 61) fun _ =>
      yb_let (up2 I_14 (b + 50) x3.toNatClampNeg ((I_14 (b + 50) x3.toNatClampNeg) + (1 : Int32))) fun I_16 =>
      yb_ck (inb r_1 101) fun _ =>
      yb_let (up2 I_16 (b + 51) r_1.toNatClampNeg ((I_16 (b + 51) r_1.toNatClampNeg) + (1 : Int32))) fun I_18 =>
      some ((), I_18, J_8)
def f7_sift_L76 (N : Nat) (b : Nat) (S : ST) (Rf : RT) (x1 : Int32) (x2 : Int32) : Nat → Int32 → IT → JT → Option ((Unit) × IT × JT)
  | 0, _, _, _ => none
  | n + 1, x3, I, J =>
    if (61 : Int32) ≤ x3 then
      some ((), I, J)
    else
      yb_b3 (f1_canHear b S Rf x1 x2 x3 I J) fun r_23 I_24 J_25 =>
      if r_23 = 0 then
        yb_let (x3 + (1 : Int32)) fun x3_28 =>
        f7_sift_L76 N b S Rf x1 x2 n x3_28 I_24 J_25
      else
        yb_b3 (f7_weigh N b S Rf x1 x2 x3 I_24 J_25) fun r_29 I_30 J_31 =>
        yb_let (x3 + (1 : Int32)) fun x3_33 =>
        f7_sift_L76 N b S Rf x1 x2 n x3_33 I_30 J_31
def f7_sift_L57 (N : Nat) (b : Nat) (S : ST) (Rf : RT) (x1 : Int32) : Nat → Int32 → IT → JT → Option ((Unit) × IT × JT)
  | 0, _, _, _ => none
  | n + 1, x2, I, J =>
    if (I (b + 5) 13) ≤ x2 then
      some ((), I, J)
    else
      yb_b3 (f7_sift_L76 N b S Rf x1 x2 N (0 : Int32) I J) fun q_34 I_35 J_36 =>
      yb_let (x2 + (1 : Int32)) fun x2_38 =>
      f7_sift_L57 N b S Rf x1 n x2_38 I_35 J_36
def f7_sift (N : Nat) (b : Nat) (S : ST) (Rf : RT) (x1 : Int32) (I : IT) (J : JT) : Option (Unit × IT × JT) :=
  yb_let (up2 I (b + 48) 4 (0 : Int32)) fun I_1 =>
  yb_let (up2 I_1 (b + 48) 5 (-2 : Int32)) fun I_2 =>
  yb_let (up2 I_2 (b + 48) 6 (-2 : Int32)) fun I_3 =>
  yb_let (up2 I_3 (b + 48) 7 (0 : Int32)) fun I_4 =>
  yb_b3 (fJ_fill_53178 N (b + 49) 7 (0 : Int32) I_4 J) fun r_8 I_5 J_6 =>
  yb_b3 (fJ_fill_53178 N (b + 50) 61 (0 : Int32) I_5 J_6) fun r_12 I_9 J_10 =>
  yb_b3 (fJ_fill_53178 N (b + 51) 101 (0 : Int32) I_9 J_10) fun r_16 I_13 J_14 =>
  yb_b3 (f1_chargeOf b S Rf x1 (0 : Int32) I_13 J_14) fun r_17 I_18 J_19 =>
  yb_b3 (f7_sift_L57 N b S Rf x1 N (0 : Int32) I_18 J_19) fun q_39 I_40 J_41 =>
  some ((), I_40, J_41)
def f7_most_L4 (N : Nat) (b : Nat) (S : ST) (Rf : RT) (t0 : Nat) (n0 : Nat) : Nat → Int32 → Int32 → IT → JT → Option ((Int32) × IT × JT)
  | 0, _, _, _, _ => none
  | n + 1, x1, x2, I, J =>
    if (nI n0) ≤ x2 then
      some (x1, I, J)
    else
      yb_ck (inb x2 n0) fun _ =>
      yb_let (if x1 < (I t0 x2.toNatClampNeg) then (I t0 x2.toNatClampNeg) else x1) fun x1_3 =>
      yb_let (x2 + (1 : Int32)) fun x2_4 =>
      f7_most_L4 N b S Rf t0 n0 n x1_3 x2_4 I J
def f7_most (N : Nat) (b : Nat) (S : ST) (Rf : RT) (t0 : Nat) (n0 : Nat) (I : IT) (J : JT) : Option (Int32 × IT × JT) :=
  yb_b3 (f7_most_L4 N b S Rf t0 n0 N (0 : Int32) (0 : Int32) I J) fun q_5 I_6 J_7 =>
  some (q_5, I_6, J_7)
def f7_part (N : Nat) (b : Nat) (S : ST) (Rf : RT) (x1 : Int32) (I : IT) (J : JT) : Option (Int32 × IT × JT) :=
  if (I (b + 48) 4) = 0 then
    some ((-2 : Int32), I, J)
  else
    yb_b3 (f7_most N b S Rf (b + 49) 7  I J) fun r_2 I_3 J_4 =>
    yb_b3 (f7_most N b S Rf (b + 50) 61  I_3 J_4) fun r_6 I_7 J_8 =>
    if r_2 ≤ r_6 then
      yb_b3 (f7_most N b S Rf (b + 51) 101  I_7 J_8) fun r_11 I_12 J_13 =>
      if r_2 ≤ r_11 then
        if x1 = 0 then
          some (r_2, I_12, J_13)
        else
          some ((0 : Int32), I_12, J_13)
      else
        yb_b3 (f7_most N b S Rf (b + 51) 101  I_12 J_13) fun r_17 I_18 J_19 =>
        if x1 = 0 then
          some (r_17, I_18, J_19)
        else
          some ((2 : Int32), I_18, J_19)
    else
      yb_b3 (f7_most N b S Rf (b + 50) 61  I_7 J_8) fun r_22 I_23 J_24 =>
      yb_b3 (f7_most N b S Rf (b + 51) 101  I_23 J_24) fun r_26 I_27 J_28 =>
      if r_22 ≤ r_26 then
        if x1 = 0 then
          some (r_22, I_27, J_28)
        else
          some ((1 : Int32), I_27, J_28)
      else
        yb_b3 (f7_most N b S Rf (b + 51) 101  I_27 J_28) fun r_32 I_33 J_34 =>
        if x1 = 0 then
          some (r_32, I_33, J_34)
        else
          some ((2 : Int32), I_33, J_34)
def f9_copy (b : Nat) (S : ST) (Rf : RT) (t0 : Nat) (t1 : Nat) (I : IT) (J : JT) : Option (Unit × IT × JT) :=
  yb_ck (bz (I t1 8)) fun _ =>
  yb_let (up2 I t0 8 (I t1 8)) fun I_1 =>
  yb_let (up2 I_1 t0 9 (I_1 t1 9)) fun I_3 =>
  yb_let (up2 I_3 t0 10 (I_3 t1 10)) fun I_4 =>
  yb_let (up2 I_4 t0 11 (I_4 t1 11)) fun I_5 =>
  yb_let (up2 I_5 t0 12 (I_5 t1 12)) fun I_6 =>
  yb_let (up2 I_6 t0 13 (I_6 t1 13)) fun I_7 =>
  yb_let (up2 I_7 t0 14 (I_7 t1 14)) fun I_8 =>
  yb_let (cpy2 I_8 (t1 + 1) (t0 + 1) 7) fun I_9 =>
  yb_let (cpy2 I_9 (t1 + 2) (t0 + 2) 7) fun I_10 =>
  yb_let (cpy2 I_10 (t1 + 3) (t0 + 3) 7) fun I_11 =>
  yb_let (cpy2 I_11 (t1 + 4) (t0 + 4) 7) fun I_12 =>
  yb_let (cpy2 I_12 (t1 + 5) (t0 + 5) 6) fun I_13 =>
  yb_let (cpy2 I_13 (t1 + 6) (t0 + 6) 6) fun I_14 =>
  yb_let (cpy2 I_14 (t1 + 7) (t0 + 7) 6) fun I_15 =>
  yb_let (cpy2 I_15 (t1 + 8) (t0 + 8) 6) fun I_16 =>
  some ((), I_16, J)
def f8_copy (b : Nat) (S : ST) (Rf : RT) (t0 : Nat) (t1 : Nat) (I : IT) (J : JT) : Option (Unit × IT × JT) :=
  yb_b3 (f9_copy b S Rf (t0 + 1) (t1 + 1)  I J) fun r_1 I_2 J_3 =>
  yb_b3 (f0_copy b S Rf (t0 + 10) (t1 + 10)  I_2 J_3) fun r_5 I_6 J_7 =>
  yb_let (up2 I_6 t0 5 (I_6 t1 5)) fun I_9 =>
  yb_let (cpy2 I_9 (t1 + 20) (t0 + 20) 10) fun I_10 =>
  yb_let (cpy2 I_10 (t1 + 21) (t0 + 21) 10) fun I_11 =>
  yb_let (cpy2 I_11 (t1 + 22) (t0 + 22) 10) fun I_12 =>
  yb_let (up2 I_12 t0 6 (I_12 t1 6)) fun I_13 =>
  yb_let (up2 I_13 t0 7 (I_13 t1 7)) fun I_14 =>
  some ((), I_14, J_7)
def f8_settle (N : Nat) (b : Nat) (S : ST) (Rf : RT) (t0 : Nat) (t1 : Nat) (I : IT) (J : JT) : Option (Unit × IT × JT) :=
  yb_b3 (f9_copy b S Rf (t0 + 1) t1  I J) fun r_1 I_2 J_3 =>
  yb_b3 (f0_start N b S Rf (t0 + 10) t1  I_2 J_3) fun r_5 I_6 J_7 =>
  yb_let (up2 I_6 t0 5 (0 : Int32)) fun I_9 =>
  some ((), I_9, J_7)
def f8_addFact (b : Nat) (S : ST) (Rf : RT) (t0 : Nat) (x1 : Int32) (x2 : Int32) (x3 : Int32) (I : IT) (J : JT) : Option (Unit × IT × JT) :=
  if (10 : Int32) ≤ (I t0 5) then
    some ((), I, J)
  else
    yb_ck (inb (I t0 5) 10) fun _ =>
    yb_let (up2 I (t0 + 20) (I t0 5).toNatClampNeg x1) fun I_3 =>
    yb_ck (inb (I_3 t0 5) 10) fun _ =>
    yb_let (up2 I_3 (t0 + 21) (I_3 t0 5).toNatClampNeg x2) fun I_5 =>
    yb_ck (inb (I_5 t0 5) 10) fun _ =>
    yb_let (up2 I_5 (t0 + 22) (I_5 t0 5).toNatClampNeg x3) fun I_7 =>
    yb_let (up2 I_7 t0 5 ((I_7 t0 5) + (1 : Int32))) fun I_8 =>
    some ((), I_8, J)
def f8_draw (b : Nat) (S : ST) (Rf : RT) (t0 : Nat) (I : IT) (J : JT) : Option (Int32 × IT × JT) :=
  yb_let (up2 I t0 7 ((((((I t0 7).toInt64) * (1103515245 : Int64)) + (12345 : Int64)) &&& (2147483647 : Int64)).toInt32)) fun I_1 =>
  some (((I_1 t0 7) / (65536 : Int32)), I_1, J)
def f9_clear (N : Nat) (b : Nat) (S : ST) (Rf : RT) (t0 : Nat) (I : IT) (J : JT) : Option (Unit × IT × JT) :=
  yb_let (up2 I t0 8 (0 : Int32)) fun I_1 =>
  yb_let (up2 I_1 t0 9 (0 : Int32)) fun I_2 =>
  yb_let (up2 I_2 t0 10 (0 : Int32)) fun I_3 =>
  yb_let (up2 I_3 t0 11 (0 : Int32)) fun I_4 =>
  yb_let (up2 I_4 t0 12 (9999 : Int32)) fun I_5 =>
  yb_let (up2 I_5 t0 13 (0 : Int32)) fun I_6 =>
  yb_let (up2 I_6 t0 14 (0 : Int32)) fun I_7 =>
  yb_b3 (fJ_fill_53178 N (t0 + 4) 7 (0 : Int32) I_7 J) fun r_11 I_8 J_9 =>
  some ((), I_8, J_9)
def f9_hasCase (b : Nat) (S : ST) (Rf : RT) (t0 : Nat) (x1 : Int32) (I : IT) (J : JT) : Option (Int32 × IT × JT) :=
  if x1 < 0 then
    some ((0 : Int32), I, J)
  else
    if (I t0 14) ≤ x1 then
      some ((0 : Int32), I, J)
    else
      some ((1 : Int32), I, J)
def f10_isOneTooMany (b : Nat) (S : ST) (Rf : RT) (x1 : Int32) (I : IT) (J : JT) : Option (Int32 × IT × JT) :=
  if (40 : Int32) ≤ (I (b + 61) 2) then
    some ((1 : Int32), I, J)
  else
    if x1 = (17 : Int32) then
      if (I (b + 52) 8) = (1 : Int32) then
        some ((1 : Int32), I, J)
      else
        if x1 = (18 : Int32) then
          yb_ck (bz (I (b + 61) 4)) fun _ =>
          some ((I (b + 61) 4), I, J)
        else
        if x1 = (19 : Int32) then
          if (I (b + 52) 13) < (7 : Int32) then
            some ((0 : Int32), I, J)
          else
            some ((1 : Int32), I, J)
        else
        if x1 = (20 : Int32) then
          if (I (b + 61) 3) < (4 : Int32) then
            some ((0 : Int32), I, J)
          else
            some ((1 : Int32), I, J)
        else
        if x1 = (21 : Int32) then
          if (I (b + 52) 14) < (6 : Int32) then
            some ((0 : Int32), I, J)
          else
            some ((1 : Int32), I, J)
        else
          some ((0 : Int32), I, J)
    else
      if (I (b + 52) 8) = (0 : Int32) then
        some ((1 : Int32), I, J)
      else
        if x1 = (18 : Int32) then
          yb_ck (bz (I (b + 61) 4)) fun _ =>
          some ((I (b + 61) 4), I, J)
        else
        if x1 = (19 : Int32) then
          if (I (b + 52) 13) < (7 : Int32) then
            some ((0 : Int32), I, J)
          else
            some ((1 : Int32), I, J)
        else
        if x1 = (20 : Int32) then
          if (I (b + 61) 3) < (4 : Int32) then
            some ((0 : Int32), I, J)
          else
            some ((1 : Int32), I, J)
        else
        if x1 = (21 : Int32) then
          if (I (b + 52) 14) < (6 : Int32) then
            some ((0 : Int32), I, J)
          else
            some ((1 : Int32), I, J)
        else
          some ((0 : Int32), I, J)
def f10_readsTown (N : Nat) (b : Nat) (S : ST) (Rf : RT) (I : IT) (J : JT) : Option (Int32 × IT × JT) :=
  yb_b3 (f3_number N b S Rf (1 : Int32) (99 : Int32) I J) fun r_1 I_2 J_3 =>
  yb_let (up2 I_2 (b + 52) 9 r_1) fun I_5 =>
  if 0 ≤ (I_5 (b + 52) 9) then
    yb_b3 (f3_number N b S Rf (5 : Int32) (99 : Int32) I_5 J_3) fun r_7 I_8 J_9 =>
    yb_let (up2 I_8 (b + 52) 10 r_7) fun I_11 =>
    if (I_11 (b + 52) 10) < 0 then
      yb_let (up2 I_11 (b + 52) 8 (0 : Int32)) fun I_13 =>
      yb_ck (bz (I_13 (b + 52) 8)) fun _ =>
      some ((I_13 (b + 52) 8), I_13, J_9)
    else
      yb_let (up2 I_11 (b + 52) 8 (1 : Int32)) fun I_15 =>
      yb_ck (bz (I_15 (b + 52) 8)) fun _ =>
      some ((I_15 (b + 52) 8), I_15, J_9)
  else
    some ((0 : Int32), I_5, J_3)
def f10_readsBench (N : Nat) (b : Nat) (S : ST) (Rf : RT) (I : IT) (J : JT) : Option (Int32 × IT × JT) :=
  yb_b3 (f3_number N b S Rf (0 : Int32) (9999 : Int32) I J) fun r_1 I_2 J_3 =>
  yb_let (up2 I_2 (b + 52) 11 r_1) fun I_5 =>
  if 0 ≤ (I_5 (b + 52) 11) then
    yb_b3 (f3_number N b S Rf (I_5 (b + 52) 11) (9999 : Int32) I_5 J_3) fun r_7 I_8 J_9 =>
    yb_let (up2 I_8 (b + 52) 12 r_7) fun I_11 =>
    if (I_11 (b + 52) 12) < 0 then
      yb_let (up2 I_11 (b + 61) 4 (0 : Int32)) fun I_13 =>
      yb_ck (bz (I_13 (b + 61) 4)) fun _ =>
      some ((I_13 (b + 61) 4), I_13, J_9)
    else
      yb_let (up2 I_11 (b + 61) 4 (1 : Int32)) fun I_15 =>
      yb_ck (bz (I_15 (b + 61) 4)) fun _ =>
      some ((I_15 (b + 61) 4), I_15, J_9)
  else
    some ((0 : Int32), I_5, J_3)
def f10_readsPerson (N : Nat) (b : Nat) (S : ST) (Rf : RT) (I : IT) (J : JT) : Option (Int32 × IT × JT) :=
  yb_b3 (f3_number N b S Rf (0 : Int32) (9999 : Int32) I J) fun r_1 I_2 J_3 =>
  if 0 ≤ r_1 then
    yb_b3 (f3_number N b S Rf (0 : Int32) (9 : Int32) I_2 J_3) fun r_6 I_7 J_8 =>
    if 0 ≤ r_6 then
      yb_b3 (f3_number N b S Rf (0 : Int32) (9 : Int32) I_7 J_8) fun r_11 I_12 J_13 =>
      if 0 ≤ r_11 then
        yb_ck (inb (I_12 (b + 52) 13) 7) fun _ =>
        yb_let (up2 I_12 (b + 53) (I_12 (b + 52) 13).toNatClampNeg r_1) fun I_17 =>
        yb_ck (inb (I_17 (b + 52) 13) 7) fun _ =>
        yb_let (up2 I_17 (b + 54) (I_17 (b + 52) 13).toNatClampNeg r_6) fun I_19 =>
        yb_ck (inb (I_19 (b + 52) 13) 7) fun _ =>
        yb_let (up2 I_19 (b + 55) (I_19 (b + 52) 13).toNatClampNeg r_11) fun I_21 =>
        yb_let (up2 I_21 (b + 52) 13 ((I_21 (b + 52) 13) + (1 : Int32))) fun I_22 =>
        some ((1 : Int32), I_22, J_13)
      else
        some ((0 : Int32), I_12, J_13)
    else
      some ((0 : Int32), I_7, J_8)
  else
    some ((0 : Int32), I_2, J_3)
def f10_readsTwins (N : Nat) (b : Nat) (S : ST) (Rf : RT) (I : IT) (J : JT) : Option (Int32 × IT × JT) :=
  yb_b3 (f3_number N b S Rf (0 : Int32) ((I (b + 52) 13) - (1 : Int32)) I J) fun r_1 I_2 J_3 =>
  if 0 ≤ r_1 then
    yb_let (I_2 (b + 2) 2) fun x2_6 =>
    yb_b3 (f3_number N b S Rf (0 : Int32) ((I_2 (b + 52) 13) - (1 : Int32)) I_2 J_3) fun r_7 I_8 J_9 =>
    if 0 ≤ r_7 then
      if r_7 = r_1 then
        yb_b3 (f3_failAt b S Rf x2_6 (1 : Int32) I_8 J_9) fun r_18 I_19 J_20 =>
        yb_ck (bz r_18) fun _ =>
        some (r_18, I_19, J_20)
      else
        yb_ck (inb r_1 7) fun _ =>
        yb_let (up2 I_8 (b + 56) r_1.toNatClampNeg ((I_8 (b + 56) r_1.toNatClampNeg) ||| ((1 : Int32) <<< (r_7 &&& 31)))) fun I_14 =>
        yb_ck (inb r_7 7) fun _ =>
        yb_let (up2 I_14 (b + 56) r_7.toNatClampNeg ((I_14 (b + 56) r_7.toNatClampNeg) ||| ((1 : Int32) <<< (r_1 &&& 31)))) fun I_16 =>
        yb_let (up2 I_16 (b + 61) 3 ((I_16 (b + 61) 3) + (1 : Int32))) fun I_17 =>
        some ((1 : Int32), I_17, J_9)
    else
      some ((0 : Int32), I_8, J_9)
  else
    some ((0 : Int32), I_2, J_3)
def f10_readsCase (N : Nat) (b : Nat) (S : ST) (Rf : RT) (I : IT) (J : JT) : Option (Int32 × IT × JT) :=
  yb_b3 (f3_number N b S Rf (0 : Int32) ((I (b + 52) 13) - (1 : Int32)) I J) fun r_1 I_2 J_3 =>
  if 0 ≤ r_1 then
    yb_b3 (f3_number N b S Rf (1 : Int32) (9 : Int32) I_2 J_3) fun r_6 I_7 J_8 =>
    if 0 ≤ r_6 then
      yb_b3 (f3_number N b S Rf (1 : Int32) (9 : Int32) I_7 J_8) fun r_11 I_12 J_13 =>
      if 0 ≤ r_11 then
        yb_b3 (f3_number N b S Rf (0 : Int32) (99 : Int32) I_12 J_13) fun r_16 I_17 J_18 =>
        if 0 ≤ r_16 then
          yb_ck (inb (I_17 (b + 52) 14) 6) fun _ =>
          yb_let (up2 I_17 (b + 57) (I_17 (b + 52) 14).toNatClampNeg r_1) fun I_22 =>
          yb_ck (inb (I_22 (b + 52) 14) 6) fun _ =>
          yb_let (up2 I_22 (b + 58) (I_22 (b + 52) 14).toNatClampNeg r_6) fun I_24 =>
          yb_ck (inb (I_24 (b + 52) 14) 6) fun _ =>
          yb_let (up2 I_24 (b + 59) (I_24 (b + 52) 14).toNatClampNeg r_11) fun I_26 =>
          yb_ck (inb (I_26 (b + 52) 14) 6) fun _ =>
          yb_let (up2 I_26 (b + 60) (I_26 (b + 52) 14).toNatClampNeg r_16) fun I_28 =>
          yb_let (up2 I_28 (b + 52) 14 ((I_28 (b + 52) 14) + (1 : Int32))) fun I_29 =>
          some ((1 : Int32), I_29, J_18)
        else
          some ((0 : Int32), I_17, J_18)
      else
        some ((0 : Int32), I_12, J_13)
    else
      some ((0 : Int32), I_7, J_8)
  else
    some ((0 : Int32), I_2, J_3)
def f10_readsClause (N : Nat) (b : Nat) (S : ST) (Rf : RT) (I : IT) (J : JT) : Option (Int32 × IT × JT) :=
  yb_b3 (f3_word N b S Rf  I J) fun r_1 I_2 J_3 =>
  if (17 : Int32) ≤ r_1 then
    yb_b3 (f10_isOneTooMany b S Rf r_1 I_2 J_3) fun r_6 I_7 J_8 =>
    if r_6 = 0 then
      yb_b3 (f3_passWord N b S Rf  I_7 J_8) fun r_11 I_12 J_13 =>
      if r_1 = (17 : Int32) then
        yb_b3 (f10_readsTown N b S Rf  I_12 J_13) fun r_16 I_17 J_18 =>
        yb_ck (bz r_16) fun _ =>
        some (r_16, I_17, J_18)
      else
      if r_1 = (18 : Int32) then
        yb_b3 (f10_readsBench N b S Rf  I_12 J_13) fun r_22 I_23 J_24 =>
        yb_ck (bz r_22) fun _ =>
        some (r_22, I_23, J_24)
      else
      if r_1 = (19 : Int32) then
        yb_b3 (f10_readsPerson N b S Rf  I_12 J_13) fun r_28 I_29 J_30 =>
        yb_ck (bz r_28) fun _ =>
        some (r_28, I_29, J_30)
      else
      if r_1 = (20 : Int32) then
        yb_b3 (f10_readsTwins N b S Rf  I_12 J_13) fun r_34 I_35 J_36 =>
        yb_ck (bz r_34) fun _ =>
        some (r_34, I_35, J_36)
      else
        yb_b3 (f10_readsCase N b S Rf  I_12 J_13) fun r_39 I_40 J_41 =>
        yb_ck (bz r_39) fun _ =>
        some (r_39, I_40, J_41)
    else
      yb_b3 (f3_fail b S Rf (4 : Int32) I_7 J_8) fun r_44 I_45 J_46 =>
      yb_ck (bz r_44) fun _ =>
      some (r_44, I_45, J_46)
  else
    yb_b3 (f3_fail b S Rf (0 : Int32) I_2 J_3) fun r_49 I_50 J_51 =>
    yb_ck (bz r_49) fun _ =>
    some (r_49, I_50, J_51)
def f10_reads_L22 (N : Nat) (b : Nat) (S : ST) (Rf : RT) : Nat → IT → JT → Option ((Int32 ⊕ (Unit)) × IT × JT)
  | 0, _, _ => none
  | n + 1, I, J =>
    if (40 : Int32) < (I (b + 61) 2) then
      some (Sum.inr (), I, J)
    else
      yb_b3 (f10_readsClause N b S Rf  I J) fun r_9 I_10 J_11 =>
      if r_9 = 0 then
        some (Sum.inl (0 : Int32), I_10, J_11)
      else
        yb_b3 (f3_sign b S Rf  I_10 J_11) fun r_14 I_15 J_16 =>
        if r_14 = (-1 : Int32) then
          some (Sum.inl (1 : Int32), I_15, J_16)
        else
          yb_b3 (f3_sign b S Rf  I_15 J_16) fun r_19 I_20 J_21 =>
          if r_19 = (59 : Int32) then
            yb_b3 (f3_passSign N b S Rf  I_20 J_21) fun r_24 I_25 J_26 =>
            yb_let (up2 I_25 (b + 61) 2 ((I_25 (b + 61) 2) + (1 : Int32))) fun I_28 =>
            f10_reads_L22 N b S Rf n  I_28 J_26
          else
            yb_b3 (f3_fail b S Rf (0 : Int32) I_20 J_21) fun r_29 I_30 J_31 =>
            yb_ck (bz r_29) fun _ =>
            some (Sum.inl r_29, I_30, J_31)
def f10_reads (N : Nat) (b : Nat) (S : ST) (Rf : RT) (I : IT) (J : JT) : Option (Int32 × IT × JT) :=
  yb_b3 (f9_clear N b S Rf (b + 52)  I J) fun r_1 I_2 J_3 =>
  yb_let (up2 I_2 (b + 61) 3 (0 : Int32)) fun I_5 =>
  yb_let (up2 I_5 (b + 61) 4 (0 : Int32)) fun I_6 =>
  yb_let (up2 I_6 (b + 61) 2 (0 : Int32)) fun I_7 =>
  yb_b3 (f10_reads_L22 N b S Rf N  I_7 J_3) fun q_34 I_35 J_36 =>
  yb_sm q_34 (fun v_38 => some (v_38, I_35, J_36)) fun x_39 =>
  some ((0 : Int32), I_35, J_36)
def f11_putBytes_L3 (N : Nat) (b : Nat) (S : ST) (Rf : RT) (x1 : Int32) : Nat → Int32 → IT → JT → Option ((Unit) × IT × JT)
  | 0, _, _, _ => none
  | n + 1, x2, I, J =>
    if x2 < 0 then
      some ((), I, J)
    else
      if (400 : Int32) ≤ (I b 14) then
        some ((), I, J)
      else
        yb_ck (inb (I b 14) 400) fun _ =>
        yb_let (up2 I (b + 1) (I b 14).toNatClampNeg ((((x1).toUInt32 >>> ((x2).toUInt32 &&& Int32.toUInt32 31)).toInt32) &&& (255 : Int32))) fun I_4 =>
        yb_let (up2 I_4 b 14 ((I_4 b 14) + (1 : Int32))) fun I_5 =>
        yb_let (x2 + (-8 : Int32)) fun x2_6 =>
        f11_putBytes_L3 N b S Rf x1 n x2_6 I_5 J
def f11_putBytes (N : Nat) (b : Nat) (S : ST) (Rf : RT) (x1 : Int32) (I : IT) (J : JT) : Option (Unit × IT × JT) :=
  yb_b3 (f11_putBytes_L3 N b S Rf x1 N (24 : Int32) I J) fun q_7 I_8 J_9 =>
  some ((), I_8, J_9)
def f11_feed (N : Nat) (b : Nat) (S : ST) (Rf : RT) (x1 : Int32) (x2 : Int32) (x3 : Int32) (x4 : Int32) (x5 : Int32) (I : IT) (J : JT) : Option (Int32 × IT × JT) :=
  if ((I b 14) + (20 : Int32)) ≤ (400 : Int32) then
    yb_b3 (f11_putBytes N b S Rf x1 I J) fun r_2 I_3 J_4 =>
    yb_b3 (f11_putBytes N b S Rf x2 I_3 J_4) fun r_6 I_7 J_8 =>
    yb_b3 (f11_putBytes N b S Rf x3 I_7 J_8) fun r_10 I_11 J_12 =>
    yb_b3 (f11_putBytes N b S Rf x4 I_11 J_12) fun r_14 I_15 J_16 =>
    yb_b3 (f11_putBytes N b S Rf x5 I_15 J_16) fun r_18 I_19 J_20 =>
    some ((I_19 b 14), I_19, J_20)
  else
    some ((-1 : Int32), I, J)
def f11_end (b : Nat) (S : ST) (Rf : RT) (x1 : Int32) (I : IT) (J : JT) : Option (Int32 × IT × JT) :=
  if x1 < 0 then
    some ((-1 : Int32), I, J)
  else
    if x1 ≤ (I b 14) then
      yb_let (up2 I b 14 x1) fun I_3 =>
      some (x1, I_3, J)
    else
      some ((-1 : Int32), I, J)
def f11_openTape (N : Nat) (b : Nat) (S : ST) (Rf : RT) (I : IT) (J : JT) : Option (Unit × IT × JT) :=
  yb_b3 (f3_open N b S Rf (I b 14) I J) fun r_1 I_2 J_3 =>
  yb_let (up2 I_2 b 14 (0 : Int32)) fun I_5 =>
  some ((), I_5, J_3)
def f11_town (N : Nat) (b : Nat) (S : ST) (Rf : RT) (I : IT) (J : JT) : Option (Int32 × IT × JT) :=
  yb_b3 (f11_openTape N b S Rf  I J) fun r_1 I_2 J_3 =>
  yb_b3 (f10_reads N b S Rf  I_2 J_3) fun r_5 I_6 J_7 =>
  if r_5 = 0 then
    some (((-2 : Int32) - (I_6 (b + 2) 4)), I_6, J_7)
  else
    yb_b3 (f8_settle N b S Rf (b + 4) (b + 52)  I_6 J_7) fun r_10 I_11 J_12 =>
    yb_b3 (f2_forget b S Rf  I_11 J_12) fun r_14 I_15 J_16 =>
    some ((I_15 (b + 5) 13), I_15, J_16)
def f11_force (b : Nat) (S : ST) (Rf : RT) (x1 : Int32) (I : IT) (J : JT) : Option (Int32 × IT × JT) :=
  if x1 < (-1 : Int32) then
    some ((-2 : Int32), I, J)
  else
    if x1 < (I b 15) then
      yb_let (I (b + 4) 6) fun x2_3 =>
      yb_let (up2 I (b + 4) 6 x1) fun I_4 =>
      some (x2_3, I_4, J)
    else
      some ((-2 : Int32), I, J)
def f11_person (N : Nat) (b : Nat) (S : ST) (Rf : RT) (x1 : Int32) (x2 : Int32) (I : IT) (J : JT) : Option (Int32 × IT × JT) :=
  yb_b3 (f9_hasPerson b S Rf (b + 5) x1 I J) fun r_1 I_2 J_3 =>
  if r_1 = 0 then
    some ((-1 : Int32), I_2, J_3)
  else
    yb_ck (inb x1 7) fun _ =>
    yb_let ((I_2 (b + 6) x1.toNatClampNeg) + (I_2 (b + 14) 9)) fun x5_7 =>
    if x2 = (0 : Int32) then
      some (x5_7, I_2, J_3)
    else
    if x2 = (1 : Int32) then
      some ((I_2 (b + 15) x1.toNatClampNeg), I_2, J_3)
    else
    if x2 = (2 : Int32) then
      some ((I_2 (b + 8) x1.toNatClampNeg), I_2, J_3)
    else
    if x2 = (3 : Int32) then
      some ((I_2 (b + 9) x1.toNatClampNeg), I_2, J_3)
    else
    if x2 = (4 : Int32) then
      yb_b3 (f9_tillBirthday b S Rf (b + 5) x5_7 I_2 J_3) fun r_13 I_14 J_15 =>
      some (r_13, I_14, J_15)
    else
    if x2 = (5 : Int32) then
      yb_b3 (f0_heardBy N b S Rf (b + 14) x1 I_2 J_3) fun r_18 I_19 J_20 =>
      some (r_18, I_19, J_20)
    else
    if x2 = (6 : Int32) then
      some ((I_2 (b + 16) x1.toNatClampNeg), I_2, J_3)
    else
    if x2 = (7 : Int32) then
      yb_b3 (f9_sits b S Rf (b + 5) x5_7 I_2 J_3) fun r_24 I_25 J_26 =>
      if r_24 = 0 then
        some ((0 : Int32), I_25, J_26)
      else
        some ((1 : Int32), I_25, J_26)
    else
      some ((-1 : Int32), I_2, J_3)
def f11_trial (b : Nat) (S : ST) (Rf : RT) (x1 : Int32) (x2 : Int32) (I : IT) (J : JT) : Option (Int32 × IT × JT) :=
  yb_b3 (f9_hasCase b S Rf (b + 5) x1 I J) fun r_1 I_2 J_3 =>
  if r_1 = 0 then
    some ((-2 : Int32), I_2, J_3)
  else
    if x2 = (0 : Int32) then
      yb_ck (inb x1 6) fun _ =>
      some ((I_2 (b + 10) x1.toNatClampNeg), I_2, J_3)
    else
    if x2 = (1 : Int32) then
      yb_ck (inb x1 6) fun _ =>
      some ((I_2 (b + 11) x1.toNatClampNeg), I_2, J_3)
    else
    if x2 = (2 : Int32) then
      yb_ck (inb x1 6) fun _ =>
      some ((I_2 (b + 12) x1.toNatClampNeg), I_2, J_3)
    else
    if x2 = (3 : Int32) then
      yb_ck (inb x1 6) fun _ =>
      some ((I_2 (b + 13) x1.toNatClampNeg), I_2, J_3)
    else
    if x2 = (4 : Int32) then
      yb_ck (inb x1 6) fun _ =>
      some ((I_2 (b + 17) x1.toNatClampNeg), I_2, J_3)
    else
    if x2 = (5 : Int32) then
      yb_ck (inb x1 6) fun _ =>
      some ((I_2 (b + 18) x1.toNatClampNeg), I_2, J_3)
    else
    if x2 = (6 : Int32) then
      yb_ck (inb x1 6) fun _ =>
      some ((I_2 (b + 20) x1.toNatClampNeg), I_2, J_3)
    else
    if x2 = (7 : Int32) then
      yb_ck (inb x1 6) fun _ =>
      some ((I_2 (b + 21) x1.toNatClampNeg), I_2, J_3)
    else
    if x2 = (8 : Int32) then
      yb_ck (inb x1 6) fun _ =>
      some ((I_2 (b + 22) x1.toNatClampNeg), I_2, J_3)
    else
    if x2 = (9 : Int32) then
      yb_ck (inb x1 6) fun _ =>
      some ((I_2 (b + 23) x1.toNatClampNeg), I_2, J_3)
    else
      some ((-2 : Int32), I_2, J_3)
def f11_hasBoth (b : Nat) (S : ST) (Rf : RT) (x1 : Int32) (x2 : Int32) (I : IT) (J : JT) : Option (Int32 × IT × JT) :=
  yb_b3 (f9_hasCase b S Rf (b + 5) x1 I J) fun r_1 I_2 J_3 =>
  if r_1 = 0 then
    some ((0 : Int32), I_2, J_3)
  else
    yb_b3 (f9_hasPerson b S Rf (b + 5) x2 I_2 J_3) fun r_6 I_7 J_8 =>
    if r_6 = 0 then
      some ((0 : Int32), I_7, J_8)
    else
      some ((1 : Int32), I_7, J_8)
def f11_can (b : Nat) (S : ST) (Rf : RT) (x1 : Int32) (x2 : Int32) (x3 : Int32) (I : IT) (J : JT) : Option (Int32 × IT × JT) :=
  yb_b3 (f11_hasBoth b S Rf x1 x2 I J) fun r_1 I_2 J_3 =>
  if r_1 = 0 then
    some ((-1 : Int32), I_2, J_3)
  else
    if x3 < 0 then
      some ((-1 : Int32), I_2, J_3)
    else
      if x3 ≤ (999 : Int32) then
        yb_b3 (f1_canHear b S Rf x1 x2 x3 I_2 J_3) fun r_8 I_9 J_10 =>
        if r_8 = 0 then
          some ((0 : Int32), I_9, J_10)
        else
          some ((1 : Int32), I_9, J_10)
      else
        some ((-1 : Int32), I_2, J_3)
def f11_right (N : Nat) (b : Nat) (S : ST) (Rf : RT) (x1 : Int32) (x2 : Int32) (I : IT) (J : JT) : Option (Int32 × IT × JT) :=
  yb_b3 (f11_hasBoth b S Rf x1 x2 I J) fun r_1 I_2 J_3 =>
  if r_1 = 0 then
    some ((-1 : Int32), I_2, J_3)
  else
    yb_b3 (f1_rightNow N b S Rf x1 x2 I_2 J_3) fun r_6 I_7 J_8 =>
    some (r_6, I_7, J_8)
def f11_undo (b : Nat) (S : ST) (Rf : RT) (I : IT) (J : JT) : Option (Int32 × IT × JT) :=
  yb_b3 (f2_takeBack b S Rf (b + 14)  I J) fun r_1 I_2 J_3 =>
  if r_1 = 0 then
    some ((-1 : Int32), I_2, J_3)
  else
    some ((I_2 (b + 28) 2), I_2, J_3)
def f11_soonest_L25 (N : Nat) (b : Nat) (S : ST) (Rf : RT) (x1 : Int32) (x2 : Int32) (x3 : Int32) : Nat → Int32 → IT → JT → Option ((Int32 ⊕ (Unit)) × IT × JT)
  | 0, _, _, _ => none
  | n + 1, x4, I, J =>
    if (x3 + (100 : Int32)) ≤ x4 then
      some (Sum.inr (), I, J)
    else
      yb_b3 (f1_canHear b S Rf x1 x2 x4 I J) fun r_8 I_9 J_10 =>
      if r_8 = 0 then
        yb_let (x4 + (1 : Int32)) fun x4_13 =>
        f11_soonest_L25 N b S Rf x1 x2 x3 n x4_13 I_9 J_10
      else
        some (Sum.inl x4, I_9, J_10)
def f11_soonest (N : Nat) (b : Nat) (S : ST) (Rf : RT) (x1 : Int32) (x2 : Int32) (I : IT) (J : JT) : Option (Int32 × IT × JT) :=
  yb_b3 (f11_hasBoth b S Rf x1 x2 I J) fun r_1 I_2 J_3 =>
  if r_1 = 0 then
    some ((-1 : Int32), I_2, J_3)
  else
    yb_let (I_2 (b + 14) 9) fun x3_6 =>
    yb_b3 (f11_soonest_L25 N b S Rf x1 x2 x3_6 N x3_6 I_2 J_3) fun q_14 I_15 J_16 =>
    yb_sm q_14 (fun v_18 => some (v_18, I_15, J_16)) fun x_19 =>
    some ((-2 : Int32), I_15, J_16)
def f11_isBelow (b : Nat) (S : ST) (Rf : RT) (x1 : Int32) (x2 : Int32) (I : IT) (J : JT) : Option (Int32 × IT × JT) :=
  if x2 < 0 then
    some ((1 : Int32), I, J)
  else
    yb_b3 (f9_isYounger b S Rf (b + 5) x1 x2 I J) fun r_2 I_3 J_4 =>
    if r_2 = 0 then
      some ((0 : Int32), I_3, J_4)
    else
      some ((1 : Int32), I_3, J_4)
def f11_longestBelow_L4 (N : Nat) (b : Nat) (S : ST) (Rf : RT) (x1 : Int32) : Nat → Int32 → Int32 → IT → JT → Option ((Int32) × IT × JT)
  | 0, _, _, _, _ => none
  | n + 1, x2, x3, I, J =>
    if (I (b + 5) 13) ≤ x3 then
      some (x2, I, J)
    else
      yb_b3 (f11_isBelow b S Rf x3 x1 I J) fun r_2 I_3 J_4 =>
      if r_2 = 0 then
        yb_let (x3 + (1 : Int32)) fun x3_7 =>
        f11_longestBelow_L4 N b S Rf x1 n x2 x3_7 I_3 J_4
      else
        yb_ck (inb x3 7) fun _ =>
        yb_let (if x2 < (I_3 (b + 74) x3.toNatClampNeg) then (I_3 (b + 74) x3.toNatClampNeg) else x2) fun x2_9 =>
        yb_let (x3 + (1 : Int32)) fun x3_10 =>
        f11_longestBelow_L4 N b S Rf x1 n x2_9 x3_10 I_3 J_4
def f11_longestBelow (N : Nat) (b : Nat) (S : ST) (Rf : RT) (x1 : Int32) (I : IT) (J : JT) : Option (Int32 × IT × JT) :=
  yb_b3 (f11_longestBelow_L4 N b S Rf x1 N (0 : Int32) (0 : Int32) I J) fun q_11 I_12 J_13 =>
  some (q_11, I_12, J_13)
def f11_measureChains_L13 (N : Nat) (b : Nat) (S : ST) (Rf : RT) (x1 : Int32) (x2 : Int32) : Nat → Int32 → IT → JT → Option ((Unit) × IT × JT)
  | 0, _, _, _ => none
  | n + 1, x3, I, J =>
    if x2 ≤ x3 then
      some ((), I, J)
    else
      yb_ck (inb x3 7) fun _ =>
      yb_let (up2 I (b + 74) x3.toNatClampNeg (0 : Int32)) fun I_4 =>
      yb_let (x3 + (1 : Int32)) fun x3_5 =>
      f11_measureChains_L13 N b S Rf x1 x2 n x3_5 I_4 J
def f11_measureChains_L41 (N : Nat) (b : Nat) (S : ST) (Rf : RT) (x1 : Int32) (x2 : Int32) (x3 : Int32) : Nat → Int32 → IT → JT → Option ((Unit) × IT × JT)
  | 0, _, _, _ => none
  | n + 1, x4, I, J =>
    if x2 ≤ x4 then
      some ((), I, J)
    else
      yb_b3 (f1_canHear b S Rf x1 x4 (I (b + 14) 9) I J) fun r_12 I_13 J_14 =>
      if r_12 = 0 then
        yb_let (x4 + (1 : Int32)) fun x4_17 =>
        f11_measureChains_L41 N b S Rf x1 x2 x3 n x4_17 I_13 J_14
      else
        yb_b3 (f11_longestBelow N b S Rf x4 I_13 J_14) fun r_18 I_19 J_20 =>
        yb_ck (inb x4 7) fun _ =>
        yb_let (up2 I_19 (b + 74) x4.toNatClampNeg ((1 : Int32) + r_18)) fun I_23 =>
        yb_let (x4 + (1 : Int32)) fun x4_24 =>
        f11_measureChains_L41 N b S Rf x1 x2 x3 n x4_24 I_23 J_20
def f11_measureChains_L33 (N : Nat) (b : Nat) (S : ST) (Rf : RT) (x1 : Int32) (x2 : Int32) : Nat → Int32 → IT → JT → Option ((Unit) × IT × JT)
  | 0, _, _, _ => none
  | n + 1, x3, I, J =>
    if x2 ≤ x3 then
      some ((), I, J)
    else
      yb_b3 (f11_measureChains_L41 N b S Rf x1 x2 x3 N (0 : Int32) I J) fun q_25 I_26 J_27 =>
      yb_let (x3 + (1 : Int32)) fun x3_29 =>
      f11_measureChains_L33 N b S Rf x1 x2 n x3_29 I_26 J_27
def f11_measureChains (N : Nat) (b : Nat) (S : ST) (Rf : RT) (x1 : Int32) (I : IT) (J : JT) : Option (Unit × IT × JT) :=
  yb_let (I (b + 5) 13) fun x2_1 =>
  yb_b3 (f11_measureChains_L13 N b S Rf x1 x2_1 N (0 : Int32) I J) fun q_6 I_7 J_8 =>
  yb_b3 (f11_measureChains_L33 N b S Rf x1 x2_1 N (0 : Int32) I_7 J_8) fun q_30 I_31 J_32 =>
  some ((), I_31, J_32)
def f11_firstBelow_L2 (N : Nat) (b : Nat) (S : ST) (Rf : RT) (x1 : Int32) (x2 : Int32) : Nat → Int32 → IT → JT → Option ((Int32 ⊕ (Unit)) × IT × JT)
  | 0, _, _, _ => none
  | n + 1, x3, I, J =>
    if (I (b + 5) 13) ≤ x3 then
      some (Sum.inr (), I, J)
    else
      yb_ck (inb x3 7) fun _ =>
      if (I (b + 74) x3.toNatClampNeg) = x2 then
        yb_b3 (f11_isBelow b S Rf x3 x1 I J) fun r_5 I_6 J_7 =>
        if r_5 = 0 then
          yb_let (x3 + (1 : Int32)) fun x3_10 =>
          f11_firstBelow_L2 N b S Rf x1 x2 n x3_10 I_6 J_7
        else
          some (Sum.inl x3, I_6, J_7)
      else
        yb_let (x3 + (1 : Int32)) fun x3_4 =>
        f11_firstBelow_L2 N b S Rf x1 x2 n x3_4 I J
def f11_firstBelow (N : Nat) (b : Nat) (S : ST) (Rf : RT) (x1 : Int32) (x2 : Int32) (I : IT) (J : JT) : Option (Int32 × IT × JT) :=
  yb_b3 (f11_firstBelow_L2 N b S Rf x1 x2 N (0 : Int32) I J) fun q_11 I_12 J_13 =>
  yb_sm q_11 (fun v_15 => some (v_15, I_12, J_13)) fun x_16 =>
  some ((-2 : Int32), I_12, J_13)
def f11_down_L73 (N : Nat) (b : Nat) (S : ST) (Rf : RT) (x2 : Int32) (x4 : Int32) : Nat → Int32 → Int32 → IT → JT → Option ((Int32) × IT × JT)
  | 0, _, _, _, _ => none
  | n + 1, x5, x6, I, J =>
    if x2 < x6 then
      some (x5, I, J)
    else
      yb_b3 (f11_firstBelow N b S Rf x5 ((x4 - x6) + (1 : Int32)) I J) fun r_21 I_22 J_23 =>
      yb_let (x6 + (1 : Int32)) fun x6_25 =>
      f11_down_L73 N b S Rf x2 x4 n r_21 x6_25 I_22 J_23
def f11_down (N : Nat) (b : Nat) (S : ST) (Rf : RT) (x1 : Int32) (x2 : Int32) (I : IT) (J : JT) : Option (Int32 × IT × JT) :=
  yb_b3 (f9_hasCase b S Rf (b + 5) x1 I J) fun r_1 I_2 J_3 =>
  if r_1 = 0 then
    some ((-1 : Int32), I_2, J_3)
  else
    if x2 < 0 then
      some ((-1 : Int32), I_2, J_3)
    else
      if x2 ≤ (7 : Int32) then
        yb_b3 (f11_measureChains N b S Rf x1 I_2 J_3) fun r_8 I_9 J_10 =>
        yb_ck (inb x1 6) fun _ =>
        yb_let (I_9 (b + 20) x1.toNatClampNeg) fun x3_13 =>
        yb_b3 (f11_longestBelow N b S Rf x3_13 I_9 J_10) fun r_14 I_15 J_16 =>
        if x2 = 0 then
          some (r_14, I_15, J_16)
        else
          if x2 ≤ r_14 then
            yb_b3 (f11_down_L73 N b S Rf x2 r_14 N x3_13 (1 : Int32) I_15 J_16) fun q_26 I_27 J_28 =>
            some (q_26, I_27, J_28)
          else
            some ((-2 : Int32), I_15, J_16)
      else
        some ((-1 : Int32), I_2, J_3)
def f11_isDigit (b : Nat) (S : ST) (Rf : RT) (x0 : Int32) (I : IT) (J : JT) : Option (Int32 × IT × JT) :=
  if x0 < (1 : Int32) then
    some ((0 : Int32), I, J)
  else
    if (9 : Int32) < x0 then
      some ((0 : Int32), I, J)
    else
      some ((1 : Int32), I, J)
def f11_mostRight_L6 (N : Nat) (b : Nat) (S : ST) (Rf : RT) (x1 : Int32) (x2 : Int32) (x3 : Int32) : Nat → Int32 → Int32 → IT → JT → Option ((Int32) × IT × JT)
  | 0, _, _, _, _ => none
  | n + 1, x4, x5, I, J =>
    if (I (b + 5) 13) ≤ x5 then
      some (x4, I, J)
    else
      yb_b3 (f1_canSit b S Rf x5 x1 x2 x3 I J) fun r_2 I_3 J_4 =>
      if r_2 = 0 then
        yb_let (x5 + (1 : Int32)) fun x5_7 =>
        f11_mostRight_L6 N b S Rf x1 x2 x3 n x4 x5_7 I_3 J_4
      else
        yb_ck (inb x5 7) fun _ =>
        yb_b3 (f1_rightOf N b S Rf x5 x3 (I_3 (b + 16) x5.toNatClampNeg) I_3 J_4) fun r_9 I_10 J_11 =>
        yb_let (if x4 < r_9 then r_9 else x4) fun x4_13 =>
        yb_let (x5 + (1 : Int32)) fun x5_14 =>
        f11_mostRight_L6 N b S Rf x1 x2 x3 n x4_13 x5_14 I_10 J_11
def f11_mostRight (N : Nat) (b : Nat) (S : ST) (Rf : RT) (x1 : Int32) (x2 : Int32) (x3 : Int32) (I : IT) (J : JT) : Option (Int32 × IT × JT) :=
  yb_b3 (f11_mostRight_L6 N b S Rf x1 x2 x3 N (0 : Int32) (0 : Int32) I J) fun q_15 I_16 J_17 =>
  some (q_15, I_16, J_17)
def f11_commit_L101 (N : Nat) (b : Nat) (S : ST) (Rf : RT) (x1 : Int32) (x3 : Int32) (x4 : Int32) (x5 : Int32) (x7 : Int32) : Nat → Int32 → Int32 → Int32 → IT → JT → Option ((Int32 × Int32) × IT × JT)
  | 0, _, _, _, _, _ => none
  | n + 1, x8, x9, x10, I, J =>
    if (x7 + x4) ≤ x10 then
      some ((x8, x9), I, J)
    else
      yb_b3 (f11_mostRight N b S Rf x1 x3 x10 I J) fun r_30 I_31 J_32 =>
      if x9 ≤ r_30 then
        yb_let (x10 + (1 : Int32)) fun x10_35 =>
        f11_commit_L101 N b S Rf x1 x3 x4 x5 x7 n x8 x9 x10_35 I_31 J_32
      else
        yb_let (x10 + (1 : Int32)) fun x10_36 =>
        f11_commit_L101 N b S Rf x1 x3 x4 x5 x7 n x10 r_30 x10_36 I_31 J_32
def f11_commit (N : Nat) (b : Nat) (S : ST) (Rf : RT) (x1 : Int32) (x2 : Int32) (x3 : Int32) (x4 : Int32) (x5 : Int32) (I : IT) (J : JT) : Option (Int32 × IT × JT) :=
  yb_b3 (f9_hasPerson b S Rf (b + 5) x1 I J) fun r_1 I_2 J_3 =>
  if r_1 = 0 then
    some ((-1 : Int32), I_2, J_3)
  else
    yb_b3 (f11_isDigit b S Rf x2 I_2 J_3) fun r_7 I_8 J_9 =>
    if r_7 = 0 then
      some ((-1 : Int32), I_8, J_9)
    else
      yb_b3 (f11_isDigit b S Rf x3 I_8 J_9) fun r_13 I_14 J_15 =>
      if r_13 = 0 then
        some ((-1 : Int32), I_14, J_15)
      else
        if x4 < (1 : Int32) then
          some ((-1 : Int32), I_14, J_15)
        else
          if (60 : Int32) < x4 then
            some ((-1 : Int32), I_14, J_15)
          else
            if x5 < 0 then
              some ((-1 : Int32), I_14, J_15)
            else
              if x5 ≤ (1 : Int32) then
                yb_b3 (f1_charge b S Rf x1 x2 x3 (0 : Int32) I_14 J_15) fun r_24 I_25 J_26 =>
                yb_let (I_25 (b + 14) 9) fun x7_28 =>
                yb_b3 (f11_commit_L101 N b S Rf x1 x3 x4 x5 x7_28 N x7_28 (101 : Int32) x7_28 I_25 J_26) fun q_37 I_38 J_39 =>
                if x5 = 0 then
                  some (q_37.1, I_38, J_39)
                else
                  some (q_37.2, I_38, J_39)
              else
                some ((-1 : Int32), I_14, J_15)
def f11_isTriable_L32 (N : Nat) (b : Nat) (S : ST) (Rf : RT) (x1 : Int32) (x2 : Int32) (x3 : Int32) (x4 : Int32) : Nat → Int32 → IT → JT → Option ((Int32 ⊕ (Unit)) × IT × JT)
  | 0, _, _, _ => none
  | n + 1, x5, I, J =>
    if (x3 + x2) ≤ x5 then
      some (Sum.inr (), I, J)
    else
      yb_b3 (f1_canSit b S Rf x4 x1 (1 : Int32) x5 I J) fun r_4 I_5 J_6 =>
      if r_4 = 0 then
        yb_let (x5 + (1 : Int32)) fun x5_9 =>
        f11_isTriable_L32 N b S Rf x1 x2 x3 x4 n x5_9 I_5 J_6
      else
        some (Sum.inl (1 : Int32), I_5, J_6)
def f11_isTriable_L14 (N : Nat) (b : Nat) (S : ST) (Rf : RT) (x1 : Int32) (x2 : Int32) (x3 : Int32) : Nat → Int32 → IT → JT → Option ((Int32 ⊕ (Unit)) × IT × JT)
  | 0, _, _, _ => none
  | n + 1, x4, I, J =>
    if (I (b + 5) 13) ≤ x4 then
      some (Sum.inr (), I, J)
    else
      yb_b3 (f11_isTriable_L32 N b S Rf x1 x2 x3 x4 N x3 I J) fun q_10 I_11 J_12 =>
      yb_sm q_10 (fun v_14 => some (Sum.inl v_14, I_11, J_12)) fun x_15 =>
      yb_let (x4 + (1 : Int32)) fun x4_16 =>
      f11_isTriable_L14 N b S Rf x1 x2 x3 n x4_16 I_11 J_12
def f11_isTriable (N : Nat) (b : Nat) (S : ST) (Rf : RT) (x1 : Int32) (x2 : Int32) (I : IT) (J : JT) : Option (Int32 × IT × JT) :=
  yb_let (I (b + 14) 9) fun x3_1 =>
  yb_b3 (f11_isTriable_L14 N b S Rf x1 x2 x3_1 N (0 : Int32) I J) fun q_17 I_18 J_19 =>
  yb_sm q_17 (fun v_21 => some (v_21, I_18, J_19)) fun x_22 =>
  some ((0 : Int32), I_18, J_19)
def f11_above_L30 (N : Nat) (b : Nat) (S : ST) (Rf : RT) (x1 : Int32) : Nat → Int32 → Int32 → IT → JT → Option ((Int32) × IT × JT)
  | 0, _, _, _, _ => none
  | n + 1, x2, x3, I, J =>
    if (I (b + 5) 13) ≤ x3 then
      some (x2, I, J)
    else
      yb_b3 (f11_isTriable N b S Rf x3 x1 I J) fun r_5 I_6 J_7 =>
      if r_5 = 0 then
        yb_let (x2 ||| ((1 : Int32) <<< (x3 &&& 31))) fun x2_11 =>
        yb_let (x3 + (1 : Int32)) fun x3_12 =>
        f11_above_L30 N b S Rf x1 n x2_11 x3_12 I_6 J_7
      else
        yb_let (x3 + (1 : Int32)) fun x3_10 =>
        f11_above_L30 N b S Rf x1 n x2 x3_10 I_6 J_7
def f11_above (N : Nat) (b : Nat) (S : ST) (Rf : RT) (x1 : Int32) (I : IT) (J : JT) : Option (Int32 × IT × JT) :=
  if (I (b + 5) 8) = 0 then
    some ((-1 : Int32), I, J)
  else
    if x1 < (1 : Int32) then
      some ((-1 : Int32), I, J)
    else
      if x1 ≤ (60 : Int32) then
        yb_b3 (f11_above_L30 N b S Rf x1 N (0 : Int32) (0 : Int32) I J) fun q_13 I_14 J_15 =>
        some (q_13, I_14, J_15)
      else
        some ((-1 : Int32), I, J)
def f11_clement_L47 (N : Nat) (b : Nat) (S : ST) (Rf : RT) (x1 : Int32) (x2 : Int32) (x3 : Int32) : Nat → Int32 → Int32 → Int32 → IT → JT → Option ((Int32 × Int32) × IT × JT)
  | 0, _, _, _, _, _ => none
  | n + 1, x4, x5, x6, I, J =>
    if (I (b + 5) 13) ≤ x6 then
      some ((x4, x5), I, J)
    else
      yb_b3 (f1_canHear b S Rf x1 x6 (I (b + 14) 9) I J) fun r_10 I_11 J_12 =>
      if r_10 = 0 then
        yb_let (x6 + (1 : Int32)) fun x6_15 =>
        f11_clement_L47 N b S Rf x1 x2 x3 n x4 x5 x6_15 I_11 J_12
      else
        yb_b3 (f1_rightNow N b S Rf x1 x6 I_11 J_12) fun r_16 I_17 J_18 =>
        if x4 < 0 then
          yb_let (x6 + (1 : Int32)) fun x6_21 =>
          f11_clement_L47 N b S Rf x1 x2 x3 n x6 r_16 x6_21 I_17 J_18
        else
          if x3 = 0 then
            if r_16 ≤ x5 then
              yb_let (x6 + (1 : Int32)) fun x6_24 =>
              f11_clement_L47 N b S Rf x1 x2 x3 n x4 x5 x6_24 I_17 J_18
            else
              yb_let (x6 + (1 : Int32)) fun x6_25 =>
              f11_clement_L47 N b S Rf x1 x2 x3 n x6 r_16 x6_25 I_17 J_18
          else
            if x5 ≤ r_16 then
              yb_let (x6 + (1 : Int32)) fun x6_27 =>
              f11_clement_L47 N b S Rf x1 x2 x3 n x4 x5 x6_27 I_17 J_18
            else
              yb_let (x6 + (1 : Int32)) fun x6_28 =>
              f11_clement_L47 N b S Rf x1 x2 x3 n x6 r_16 x6_28 I_17 J_18
def f11_clement (N : Nat) (b : Nat) (S : ST) (Rf : RT) (x1 : Int32) (x2 : Int32) (I : IT) (J : JT) : Option (Int32 × IT × JT) :=
  yb_b3 (f9_hasCase b S Rf (b + 5) x1 I J) fun r_1 I_2 J_3 =>
  if r_1 = 0 then
    some ((-1 : Int32), I_2, J_3)
  else
    if x2 < 0 then
      some ((-1 : Int32), I_2, J_3)
    else
      if x2 ≤ (3 : Int32) then
        if (2 : Int32) ≤ x2 then
          yb_b3 (f11_clement_L47 N b S Rf x1 x2 (0 : Int32) N (-2 : Int32) (-2 : Int32) (0 : Int32) I_2 J_3) fun q_29 I_30 J_31 =>
          if (x2 &&& (1 : Int32)) = 0 then
            some (q_29.1, I_30, J_31)
          else
            some (q_29.2, I_30, J_31)
        else
          yb_b3 (f11_clement_L47 N b S Rf x1 x2 (1 : Int32) N (-2 : Int32) (-2 : Int32) (0 : Int32) I_2 J_3) fun q_34 I_35 J_36 =>
          if (x2 &&& (1 : Int32)) = 0 then
            some (q_34.1, I_35, J_36)
          else
            some (q_34.2, I_35, J_36)
      else
        some ((-1 : Int32), I_2, J_3)
def f11_fact (b : Nat) (S : ST) (Rf : RT) (x1 : Int32) (x2 : Int32) (x3 : Int32) (I : IT) (J : JT) : Option (Int32 × IT × JT) :=
  if x1 = (-1 : Int32) then
    yb_let (up2 I (b + 4) 5 (0 : Int32)) fun I_22 =>
    some ((0 : Int32), I_22, J)
  else
    yb_b3 (f9_hasCase b S Rf (b + 5) x1 I J) fun r_2 I_3 J_4 =>
    if r_2 = 0 then
      some ((-2 : Int32), I_3, J_4)
    else
      if x2 < 0 then
        some ((-2 : Int32), I_3, J_4)
      else
        if (7 : Int32) < x2 then
          some ((-2 : Int32), I_3, J_4)
        else
          if x3 < 0 then
            some ((-2 : Int32), I_3, J_4)
          else
            if (9999 : Int32) < x3 then
              some ((-2 : Int32), I_3, J_4)
            else
              if (I_3 (b + 4) 5) < (10 : Int32) then
                yb_b3 (f8_addFact b S Rf (b + 4) x1 x2 x3 I_3 J_4) fun r_18 I_19 J_20 =>
                some ((I_19 (b + 4) 5), I_19, J_20)
              else
                some ((-2 : Int32), I_3, J_4)
def f11_who (N : Nat) (b : Nat) (S : ST) (Rf : RT) (x1 : Int32) (x2 : Int32) (I : IT) (J : JT) : Option (Int32 × IT × JT) :=
  yb_b3 (f9_hasCase b S Rf (b + 5) x1 I J) fun r_1 I_2 J_3 =>
  if r_1 = 0 then
    some ((-1 : Int32), I_2, J_3)
  else
    if x2 < 0 then
      some ((-1 : Int32), I_2, J_3)
    else
      if x2 ≤ (3 : Int32) then
        yb_b3 (f7_sift N b S Rf x1 I_2 J_3) fun r_8 I_9 J_10 =>
        if x2 = (0 : Int32) then
          some ((I_9 (b + 48) 4), I_9, J_10)
        else
        if x2 = (1 : Int32) then
          some ((I_9 (b + 48) 5), I_9, J_10)
        else
        if x2 = (2 : Int32) then
          some ((I_9 (b + 48) 6), I_9, J_10)
        else
          some ((I_9 (b + 48) 7), I_9, J_10)
      else
        some ((-1 : Int32), I_2, J_3)
def f11_look (N : Nat) (b : Nat) (S : ST) (Rf : RT) (x1 : Int32) (x2 : Int32) (I : IT) (J : JT) : Option (Int32 × IT × JT) :=
  yb_b3 (f9_hasCase b S Rf (b + 5) x1 I J) fun r_1 I_2 J_3 =>
  if r_1 = 0 then
    some ((-1 : Int32), I_2, J_3)
  else
    if x2 < 0 then
      some ((-1 : Int32), I_2, J_3)
    else
      if x2 ≤ (1 : Int32) then
        yb_b3 (f7_sift N b S Rf x1 I_2 J_3) fun r_8 I_9 J_10 =>
        if x2 = 0 then
          yb_b3 (f7_part N b S Rf (1 : Int32) I_9 J_10) fun r_17 I_18 J_19 =>
          some (r_17, I_18, J_19)
        else
          yb_b3 (f7_part N b S Rf (0 : Int32) I_9 J_10) fun r_13 I_14 J_15 =>
          some (r_13, I_14, J_15)
      else
        some ((-1 : Int32), I_2, J_3)
def f11_seed (b : Nat) (S : ST) (Rf : RT) (x1 : Int32) (I : IT) (J : JT) : Option (Int32 × IT × JT) :=
  if 0 ≤ x1 then
    yb_let (I (b + 4) 7) fun x2_2 =>
    yb_let (up2 I (b + 4) 7 x1) fun I_3 =>
    some (x2_2, I_3, J)
  else
    some ((-1 : Int32), I, J)
def f11_hearByDraw_L28 (N : Nat) (b : Nat) (S : ST) (Rf : RT) (x2 : Int32) : Nat → Int32 → IT → JT → Option ((Unit ⊕ (Unit)) × IT × JT)
  | 0, _, _, _ => none
  | n + 1, x3, I, J =>
    if (I (b + 5) 14) ≤ x3 then
      some (Sum.inr (), I, J)
    else
      yb_b3 (f1_mayHear N b S Rf x3 x2 I J) fun r_10 I_11 J_12 =>
      if r_10 = 0 then
        yb_let (x3 + (1 : Int32)) fun x3_15 =>
        f11_hearByDraw_L28 N b S Rf x2 n x3_15 I_11 J_12
      else
        yb_b3 (f1_begin N b S Rf x3 x2 I_11 J_12) fun r_16 I_17 J_18 =>
        some (Sum.inl (), I_17, J_18)
def f11_hearByDraw (N : Nat) (b : Nat) (S : ST) (Rf : RT) (I : IT) (J : JT) : Option (Unit × IT × JT) :=
  yb_let (I (b + 5) 13) fun x1_1 =>
  if 0 < x1_1 then
    yb_b3 (f8_draw b S Rf (b + 4)  I J) fun r_3 I_4 J_5 =>
    if x1_1 = 0 then none else
    yb_let (r_3 - r_3 / x1_1 * x1_1) fun x2_8 =>
    yb_b3 (f11_hearByDraw_L28 N b S Rf x2_8 N (0 : Int32) I_4 J_5) fun q_20 I_21 J_22 =>
    yb_sm q_20 (fun v_24 => some (v_24, I_21, J_22)) fun x_25 =>
    some ((), I_21, J_22)
  else
    some ((), I, J)
def f11_ruledRightly_L4 (N : Nat) (b : Nat) (S : ST) (Rf : RT) (x1 : Int32) : Nat → Int32 → Int32 → IT → JT → Option ((Int32) × IT × JT)
  | 0, _, _, _, _ => none
  | n + 1, x2, x3, I, J =>
    if (I (b + 5) 14) ≤ x3 then
      some (x2, I, J)
    else
      if ((x1 >>> (x3 &&& 31)) &&& (1 : Int32)) = 0 then
        yb_let (x3 + (1 : Int32)) fun x3_3 =>
        f11_ruledRightly_L4 N b S Rf x1 n x2 x3_3 I J
      else
        yb_b3 (f8_draw b S Rf (b + 4)  I J) fun r_4 I_5 J_6 =>
        yb_ck (inb x3 6) fun _ =>
        if (I_5 (b + 21) x3.toNatClampNeg) ≤ (r_4 - r_4 / (100 : Int32) * (100 : Int32)) then
          yb_let (x3 + (1 : Int32)) fun x3_10 =>
          f11_ruledRightly_L4 N b S Rf x1 n x2 x3_10 I_5 J_6
        else
          yb_let (x2 + (1 : Int32)) fun x2_11 =>
          yb_let (x3 + (1 : Int32)) fun x3_12 =>
          f11_ruledRightly_L4 N b S Rf x1 n x2_11 x3_12 I_5 J_6
def f11_ruledRightly (N : Nat) (b : Nat) (S : ST) (Rf : RT) (x1 : Int32) (I : IT) (J : JT) : Option (Int32 × IT × JT) :=
  yb_b3 (f11_ruledRightly_L4 N b S Rf x1 N (0 : Int32) (0 : Int32) I J) fun q_13 I_14 J_15 =>
  some (q_13, I_14, J_15)
def f11_years_L99 (N : Nat) (b : Nat) (S : ST) (Rf : RT) (x1 : Int32) (x2 : Int32) (x3 : Int32) (x5 : Int32) (x8 : Int32) : Nat → Int32 → Int32 → Int32 → IT → JT → Option ((Int32 × Int32) × IT × JT)
  | 0, _, _, _, _, _ => none
  | n + 1, x6, x7, x9, I, J =>
    if x2 ≤ x9 then
      some ((x6, x7), I, J)
    else
      yb_b3 (f11_hearByDraw N b S Rf  I J) fun r_21 I_22 J_23 =>
      yb_b3 (f0_pass N b S Rf (b + 14) (b + 5)  I_22 J_23) fun r_25 I_26 J_27 =>
      yb_b3 (fJ_bitCount_0f7a4  r_25 I_26 J_27) fun r_29 I_30 J_31 =>
      yb_let (x7 + r_29) fun x7_33 =>
      yb_b3 (f11_ruledRightly N b S Rf r_25 I_30 J_31) fun r_34 I_35 J_36 =>
      yb_let (x6 + r_34) fun x6_38 =>
      yb_let (x9 + (1 : Int32)) fun x9_39 =>
      f11_years_L99 N b S Rf x1 x2 x3 x5 x8 n x6_38 x7_33 x9_39 I_35 J_36
def f11_years_L90 (N : Nat) (b : Nat) (S : ST) (Rf : RT) (x1 : Int32) (x2 : Int32) (x3 : Int32) (x5 : Int32) : Nat → Int32 → Int32 → Int32 → IT → JT → Option ((Int32 × Int32) × IT × JT)
  | 0, _, _, _, _, _ => none
  | n + 1, x6, x7, x8, I, J =>
    if x1 ≤ x8 then
      some ((x6, x7), I, J)
    else
      yb_b3 (f11_years_L99 N b S Rf x1 x2 x3 x5 x8 N x6 x7 (0 : Int32) I J) fun q_40 I_41 J_42 =>
      yb_b3 (f0_copy b S Rf (b + 14) (b + 64)  I_41 J_42) fun r_44 I_45 J_46 =>
      yb_let (x8 + (1 : Int32)) fun x8_48 =>
      f11_years_L90 N b S Rf x1 x2 x3 x5 n q_40.1 q_40.2 x8_48 I_45 J_46
def f11_years (N : Nat) (b : Nat) (S : ST) (Rf : RT) (x1 : Int32) (x2 : Int32) (x3 : Int32) (I : IT) (J : JT) : Option (Int32 × IT × JT) :=
  if (I (b + 5) 8) = 0 then
    some ((-1 : Int32), I, J)
  else
    if x1 < (1 : Int32) then
      some ((-1 : Int32), I, J)
    else
      if (10 : Int32) < x1 then
        some ((-1 : Int32), I, J)
      else
        if x2 < (1 : Int32) then
          some ((-1 : Int32), I, J)
        else
          if (99 : Int32) < x2 then
            some ((-1 : Int32), I, J)
          else
            if x3 < 0 then
              some ((-1 : Int32), I, J)
            else
              if x3 ≤ (1 : Int32) then
                yb_let (I (b + 4) 7) fun x5_14 =>
                yb_b3 (f0_copy b S Rf (b + 64) (b + 14)  I J) fun r_15 I_16 J_17 =>
                yb_b3 (f11_years_L90 N b S Rf x1 x2 x3 x5_14 N (0 : Int32) (0 : Int32) (0 : Int32) I_16 J_17) fun q_49 I_50 J_51 =>
                yb_let (up2 I_50 (b + 4) 7 x5_14) fun I_53 =>
                if x3 = 0 then
                  some (q_49.1, I_53, J_51)
                else
                  some (q_49.2, I_53, J_51)
              else
                some ((-1 : Int32), I, J)
def f11_count (N : Nat) (b : Nat) (S : ST) (Rf : RT) (x1 : Int32) (I : IT) (J : JT) : Option (Int32 × IT × JT) :=
  if x1 = (0 : Int32) then
    some ((I (b + 5) 9), I, J)
  else
  if x1 = (1 : Int32) then
    some ((I (b + 5) 10), I, J)
  else
  if x1 = (2 : Int32) then
    some ((I (b + 5) 13), I, J)
  else
  if x1 = (3 : Int32) then
    some ((I (b + 5) 14), I, J)
  else
  if x1 = (4 : Int32) then
    some ((I b 15), I, J)
  else
  if x1 = (5 : Int32) then
    some ((I (b + 4) 6), I, J)
  else
  if x1 = (6 : Int32) then
    some ((I (b + 14) 9), I, J)
  else
  if x1 = (7 : Int32) then
    yb_b3 (f0_heardBits N b S Rf (b + 14) (I (b + 5) 14) I J) fun r_9 I_10 J_11 =>
    some (r_9, I_10, J_11)
  else
  if x1 = (8 : Int32) then
    yb_b3 (f0_ruledBits N b S Rf (b + 14) (I (b + 5) 14) I J) fun r_14 I_15 J_16 =>
    some (r_14, I_15, J_16)
  else
  if x1 = (9 : Int32) then
    if (I (b + 5) 8) = 0 then
      some ((-1 : Int32), I, J)
    else
      some ((I (b + 5) 11), I, J)
  else
  if x1 = (10 : Int32) then
    if (I (b + 5) 8) = 0 then
      some ((-1 : Int32), I, J)
    else
      some ((I (b + 5) 12), I, J)
  else
  if x1 = (11 : Int32) then
    some ((I (b + 4) 5), I, J)
  else
  if x1 = (12 : Int32) then
    some ((I (b + 28) 2), I, J)
  else
  if x1 = (13 : Int32) then
    some ((I (b + 4) 7), I, J)
  else
  if x1 = (14 : Int32) then
    some ((I b 14), I, J)
  else
    some ((-1 : Int32), I, J)
def f11_back (b : Nat) (S : ST) (Rf : RT) (x1 : Int32) (I : IT) (J : JT) : Option (Int32 × IT × JT) :=
  if x1 < 0 then
    some ((-1 : Int32), I, J)
  else
    if (4 : Int32) ≤ x1 then
      some ((-1 : Int32), I, J)
    else
      yb_ck (inb x1 4) fun _ =>
      yb_op (Rf (b + 27) x1.toNatClampNeg) (fun _ =>
        some ((-1 : Int32), I, J)) fun t_4 =>
      yb_b3 (f8_copy b S Rf (b + 4) t_4  I J) fun r_6 I_7 J_8 =>
      yb_b3 (f2_forget b S Rf  I_7 J_8) fun r_10 I_11 J_12 =>
      some ((I_11 (b + 14) 9), I_11, J_12)
def g4_tryJudges_L102 (N : Nat) (b : Nat) (S : ST) (Rf : RT) (rJ : Int32 → Int32 → Int32 → IT → JT → Option (Unit × IT × JT)) (x1 : Int32) (x2 : Int32) (x3 : Int32) (x4 : Int32) (x7 : Int32) : Nat → Int32 → IT → JT → Option ((Unit) × IT × JT)
  | 0, _, _, _ => none
  | n + 1, x8, I, J =>
    if x7 ≤ x8 then
      some ((), I, J)
    else
      yb_ck (inb x8 7) fun _ =>
      yb_let (I (b + 43) x8.toNatClampNeg) fun x9_15 =>
      yb_ck (inb ((x9_15 * (4 : Int32)) + x4) 260) fun _ =>
      yb_let (I (b + 34) ((x9_15 * (4 : Int32)) + x4).toNatClampNeg) fun x10_17 =>
      yb_let ((x8 * (65 : Int32)) + x10_17) fun x11_18 =>
      if x10_17 ≤ 0 then
        yb_let (x8 + (1 : Int32)) fun x8_20 =>
        g4_tryJudges_L102 N b S Rf rJ x1 x2 x3 x4 x7 n x8_20 I J
      else
        yb_ck (inb x11_18 455) fun _ =>
        if (I (b + 37) x11_18.toNatClampNeg) < 0 then
          yb_let (x8 + (1 : Int32)) fun x8_23 =>
          g4_tryJudges_L102 N b S Rf rJ x1 x2 x3 x4 x7 n x8_23 I J
        else
          yb_let (up2 I (b + 43) x8.toNatClampNeg x10_17) fun I_24 =>
          yb_ck (inb x1 4) fun _ =>
          yb_let (up2 I_24 (b + 41) x1.toNatClampNeg x8) fun I_26 =>
          yb_let (up2 I_26 (b + 42) x1.toNatClampNeg (I_26 (b + 37) x11_18.toNatClampNeg)) fun I_27 =>
          yb_ck (inb x4 4) fun _ =>
          yb_ck (inb (I_27 (b + 39) x4.toNatClampNeg) 6) fun _ =>
          yb_let (((I_27 (b + 37) x11_18.toNatClampNeg) + (I_27 (b + 12) (I_27 (b + 39) x4.toNatClampNeg).toNatClampNeg)) - (1 : Int32)) fun x12_30 =>
          yb_b3 (rJ  (x1 + (1 : Int32)) (x2 + (I_27 (b + 38) x11_18.toNatClampNeg)) (if x3 < x12_30 then x12_30 else x3) I_27 J) fun r_31 I_32 J_33 =>
          yb_let (up2 I_32 (b + 43) x8.toNatClampNeg x9_15) fun I_35 =>
          yb_let (x8 + (1 : Int32)) fun x8_36 =>
          g4_tryJudges_L102 N b S Rf rJ x1 x2 x3 x4 x7 n x8_36 I_35 J_33
def g4_tryJudges (N : Nat) (b : Nat) (S : ST) (Rf : RT) (rJ : Int32 → Int32 → Int32 → IT → JT → Option (Unit × IT × JT)) (x1 : Int32) (x2 : Int32) (x3 : Int32) (I : IT) (J : JT) : Option (Unit × IT × JT) :=
  if (I (b + 33) 14) ≤ x1 then
    yb_b3 (f4_keepIfBetter N b S Rf x2 x3 I J) fun r_2 I_3 J_4 =>
    some ((), I_3, J_4)
  else
    if x1 < (4 : Int32) then
      yb_ck (inb x1 4) fun _ =>
      yb_let (I (b + 40) x1.toNatClampNeg) fun x4_8 =>
      if x1 ≤ 0 then
        yb_let (I (b + 5) 13) fun x7_12 =>
        yb_b3 (g4_tryJudges_L102 N b S Rf rJ x1 x2 x3 x4_8 x7_12 N (0 : Int32) I J) fun q_37 I_38 J_39 =>
        some ((), I_38, J_39)
      else
        yb_ck (inb (x1 - (1 : Int32)) 4) fun _ =>
        if (I (b + 40) (x1 - (1 : Int32)).toNatClampNeg) ≤ x4_8 then
          yb_let (I (b + 5) 13) fun x7_45 =>
          yb_b3 (g4_tryJudges_L102 N b S Rf rJ x1 x2 x3 x4_8 x7_45 N (0 : Int32) I J) fun q_46 I_47 J_48 =>
          some ((), I_47, J_48)
        else
          yb_let (I (b + 41) (x1 - (1 : Int32)).toNatClampNeg) fun x6_51 =>
          yb_let (x6_51 + (1 : Int32)) fun x7_53 =>
          yb_b3 (g4_tryJudges_L102 N b S Rf rJ x1 x2 x3 x4_8 x7_53 N x6_51 I J) fun q_54 I_55 J_56 =>
          some ((), I_55, J_56)
    else
      yb_b3 (f4_keepIfBetter N b S Rf x2 x3 I J) fun r_58 I_59 J_60 =>
      some ((), I_59, J_60)
def f4_rec_tryJudges (N b : Nat) (S : ST) (Rf : RT) : Nat → Nat → Int32 → Int32 → Int32 → IT → JT → Option (Unit × IT × JT)
  | 0, _, _, _, _, _, _ => none
  | k + 1, _, x1, x2, x3, I, J => g4_tryJudges N b S Rf (f4_rec_tryJudges N b S Rf k 0) x1 x2 x3 I J
def f4_tryJudges (N b : Nat) (S : ST) (Rf : RT) (x1 x2 x3 : Int32) (I : IT) (J : JT) : Option (Unit × IT × JT) := f4_rec_tryJudges N b S Rf 6 0 x1 x2 x3 I J
def g4_tryRows_L23 (N : Nat) (b : Nat) (S : ST) (Rf : RT) (rR : Int32 → Int32 → IT → JT → Option (Unit × IT × JT)) (x1 : Int32) (x2 : Int32) : Nat → Int32 → IT → JT → Option ((Unit) × IT × JT)
  | 0, _, _, _ => none
  | n + 1, x3, I, J =>
    if (I (b + 33) 14) ≤ x3 then
      some ((), I, J)
    else
      if ((x2 >>> (x3 &&& 31)) &&& (1 : Int32)) = 0 then
        yb_ck (inb x1 4) fun _ =>
        yb_let (up2 I (b + 40) x1.toNatClampNeg x3) fun I_11 =>
        yb_b3 (rR  (x1 + (1 : Int32)) (x2 ||| ((1 : Int32) <<< (x3 &&& 31))) I_11 J) fun r_12 I_13 J_14 =>
        yb_let (x3 + (1 : Int32)) fun x3_16 =>
        g4_tryRows_L23 N b S Rf rR x1 x2 n x3_16 I_13 J_14
      else
        yb_let (x3 + (1 : Int32)) fun x3_9 =>
        g4_tryRows_L23 N b S Rf rR x1 x2 n x3_9 I J
def g4_tryRows (N : Nat) (b : Nat) (S : ST) (Rf : RT) (rR : Int32 → Int32 → IT → JT → Option (Unit × IT × JT)) (x1 : Int32) (x2 : Int32) (I : IT) (J : JT) : Option (Unit × IT × JT) :=
  if (I (b + 33) 14) ≤ x1 then
    yb_b3 (f4_tryJudges N b S Rf (0 : Int32) (0 : Int32) (-1 : Int32) I J) fun r_2 I_3 J_4 =>
    some ((), I_3, J_4)
  else
    if x1 < (4 : Int32) then
      yb_b3 (g4_tryRows_L23 N b S Rf rR x1 x2 N (0 : Int32) I J) fun q_17 I_18 J_19 =>
      some ((), I_18, J_19)
    else
      yb_b3 (f4_tryJudges N b S Rf (0 : Int32) (0 : Int32) (-1 : Int32) I J) fun r_21 I_22 J_23 =>
      some ((), I_22, J_23)
def f4_rec_tryRows (N b : Nat) (S : ST) (Rf : RT) : Nat → Nat → Int32 → Int32 → IT → JT → Option (Unit × IT × JT)
  | 0, _, _, _, _, _ => none
  | k + 1, _, x1, x2, I, J => g4_tryRows N b S Rf (f4_rec_tryRows N b S Rf k 0) x1 x2 I J
def f4_tryRows (N b : Nat) (S : ST) (Rf : RT) (x1 x2 : Int32) (I : IT) (J : JT) : Option (Unit × IT × JT) := f4_rec_tryRows N b S Rf 6 0 x1 x2 I J
def g6_readsTest_L7 (N : Nat) (b : Nat) (S : ST) (Rf : RT) (rF : Int32 → IT → JT → Option (Int32 × IT × JT)) (x1 : Int32) : Nat → Int32 → Int32 → Int32 → IT → JT → Option ((Int32 ⊕ (Unit)) × IT × JT)
  | 0, _, _, _, _, _ => none
  | n + 1, x2, x3, x4, I, J =>
    if (400 : Int32) ≤ x4 then
      some (Sum.inr (), I, J)
    else
      yb_b3 (rF  x1 I J) fun r_2 I_3 J_4 =>
      if r_2 = 0 then
        some (Sum.inl (0 : Int32), I_3, J_4)
      else
        if x2 = 0 then
          yb_b3 (f3_word N b S Rf  I_3 J_4) fun r_8 I_9 J_10 =>
          if r_8 = (15 : Int32) then
            yb_b3 (f3_passWord N b S Rf  I_9 J_10) fun r_41 I_42 J_43 =>
            yb_let (x4 + (1 : Int32)) fun x4_45 =>
            g6_readsTest_L7 N b S Rf rF x1 n (1 : Int32) x3 x4_45 I_42 J_43
          else
            if x3 = 0 then
              if r_8 = (14 : Int32) then
                yb_b3 (f3_passWord N b S Rf  I_9 J_10) fun r_20 I_21 J_22 =>
                yb_let (x4 + (1 : Int32)) fun x4_24 =>
                g6_readsTest_L7 N b S Rf rF x1 n (0 : Int32) (1 : Int32) x4_24 I_21 J_22
              else
                some (Sum.inl (1 : Int32), I_9, J_10)
            else
              yb_b3 (f6_put b S Rf (200011 : Int32) I_9 J_10) fun r_25 I_26 J_27 =>
              if r_8 = (14 : Int32) then
                yb_b3 (f3_passWord N b S Rf  I_26 J_27) fun r_34 I_35 J_36 =>
                yb_let (x4 + (1 : Int32)) fun x4_38 =>
                g6_readsTest_L7 N b S Rf rF x1 n (0 : Int32) (1 : Int32) x4_38 I_35 J_36
              else
                some (Sum.inl (1 : Int32), I_26, J_27)
        else
          yb_b3 (f6_put b S Rf (200010 : Int32) I_3 J_4) fun r_46 I_47 J_48 =>
          yb_b3 (f3_word N b S Rf  I_47 J_48) fun r_50 I_51 J_52 =>
          if r_50 = (15 : Int32) then
            yb_b3 (f3_passWord N b S Rf  I_51 J_52) fun r_83 I_84 J_85 =>
            yb_let (x4 + (1 : Int32)) fun x4_87 =>
            g6_readsTest_L7 N b S Rf rF x1 n (1 : Int32) x3 x4_87 I_84 J_85
          else
            if x3 = 0 then
              if r_50 = (14 : Int32) then
                yb_b3 (f3_passWord N b S Rf  I_51 J_52) fun r_62 I_63 J_64 =>
                yb_let (x4 + (1 : Int32)) fun x4_66 =>
                g6_readsTest_L7 N b S Rf rF x1 n (0 : Int32) (1 : Int32) x4_66 I_63 J_64
              else
                some (Sum.inl (1 : Int32), I_51, J_52)
            else
              yb_b3 (f6_put b S Rf (200011 : Int32) I_51 J_52) fun r_67 I_68 J_69 =>
              if r_50 = (14 : Int32) then
                yb_b3 (f3_passWord N b S Rf  I_68 J_69) fun r_76 I_77 J_78 =>
                yb_let (x4 + (1 : Int32)) fun x4_80 =>
                g6_readsTest_L7 N b S Rf rF x1 n (0 : Int32) (1 : Int32) x4_80 I_77 J_78
              else
                some (Sum.inl (1 : Int32), I_68, J_69)
def g6_readsTest (N : Nat) (b : Nat) (S : ST) (Rf : RT) (rF : Int32 → IT → JT → Option (Int32 × IT × JT)) (x1 : Int32) (I : IT) (J : JT) : Option (Int32 × IT × JT) :=
  yb_b3 (g6_readsTest_L7 N b S Rf rF x1 N (0 : Int32) (0 : Int32) (0 : Int32) I J) fun q_88 I_89 J_90 =>
  yb_sm q_88 (fun v_92 => some (v_92, I_89, J_90)) fun x_93 =>
  some ((0 : Int32), I_89, J_90)
def g6_readsFact (N : Nat) (b : Nat) (S : ST) (Rf : RT) (rT : Int32 → IT → JT → Option (Int32 × IT × JT)) (rF : Int32 → IT → JT → Option (Int32 × IT × JT)) (x1 : Int32) (I : IT) (J : JT) : Option (Int32 × IT × JT) :=
  yb_b3 (f3_word N b S Rf  I J) fun r_1 I_2 J_3 =>
  if r_1 = (16 : Int32) then
    yb_b3 (f3_sign b S Rf  I_2 J_3) fun r_64 I_65 J_66 =>
    if r_64 = (91 : Int32) then
      if x1 < (10 : Int32) then
        yb_b3 (f3_passWord N b S Rf  I_65 J_66) fun r_93 I_94 J_95 =>
        yb_b3 (rF  (x1 + (1 : Int32)) I_94 J_95) fun r_97 I_98 J_99 =>
        if r_97 = 0 then
          some ((0 : Int32), I_98, J_99)
        else
          yb_b3 (f6_put b S Rf (200012 : Int32) I_98 J_99) fun r_102 I_103 J_104 =>
          some ((1 : Int32), I_103, J_104)
      else
        yb_b3 (f3_fail b S Rf (2 : Int32) I_65 J_66) fun r_106 I_107 J_108 =>
        yb_ck (bz r_106) fun _ =>
        some (r_106, I_107, J_108)
    else
      if x1 < (10 : Int32) then
        yb_b3 (f3_passWord N b S Rf  I_65 J_66) fun r_72 I_73 J_74 =>
        yb_b3 (rF  (x1 + (1 : Int32)) I_73 J_74) fun r_76 I_77 J_78 =>
        if r_76 = 0 then
          some ((0 : Int32), I_77, J_78)
        else
          yb_b3 (f6_put b S Rf (200012 : Int32) I_77 J_78) fun r_81 I_82 J_83 =>
          some ((1 : Int32), I_82, J_83)
      else
        yb_b3 (f3_fail b S Rf (2 : Int32) I_65 J_66) fun r_85 I_86 J_87 =>
        yb_ck (bz r_85) fun _ =>
        some (r_85, I_86, J_87)
  else
    yb_b3 (f3_sign b S Rf  I_2 J_3) fun r_6 I_7 J_8 =>
    if r_6 = (91 : Int32) then
      if x1 < (10 : Int32) then
        yb_b3 (f3_passSign N b S Rf  I_7 J_8) fun r_36 I_37 J_38 =>
        yb_b3 (rT  (x1 + (1 : Int32)) I_37 J_38) fun r_40 I_41 J_42 =>
        if r_40 = 0 then
          some ((0 : Int32), I_41, J_42)
        else
          yb_b3 (f3_sign b S Rf  I_41 J_42) fun r_45 I_46 J_47 =>
          if r_45 = (93 : Int32) then
            yb_b3 (f3_passSign N b S Rf  I_46 J_47) fun r_50 I_51 J_52 =>
            some ((1 : Int32), I_51, J_52)
          else
            yb_b3 (f3_fail b S Rf (0 : Int32) I_46 J_47) fun r_54 I_55 J_56 =>
            yb_ck (bz r_54) fun _ =>
            some (r_54, I_55, J_56)
      else
        yb_b3 (f3_fail b S Rf (2 : Int32) I_7 J_8) fun r_59 I_60 J_61 =>
        yb_ck (bz r_59) fun _ =>
        some (r_59, I_60, J_61)
    else
      yb_b3 (f6_readsSum N b S Rf  I_7 J_8) fun r_13 I_14 J_15 =>
      if r_13 = 0 then
        some ((0 : Int32), I_14, J_15)
      else
        yb_b3 (f6_readsComparison N b S Rf  I_14 J_15) fun r_18 I_19 J_20 =>
        if r_18 = (-1 : Int32) then
          some ((0 : Int32), I_19, J_20)
        else
          yb_b3 (f6_readsSum N b S Rf  I_19 J_20) fun r_23 I_24 J_25 =>
          if r_23 = 0 then
            some ((0 : Int32), I_24, J_25)
          else
            yb_b3 (f6_put b S Rf r_18 I_24 J_25) fun r_28 I_29 J_30 =>
            some ((1 : Int32), I_29, J_30)
def f6_rec_readsTest (N b : Nat) (S : ST) (Rf : RT) : Nat → Nat → Int32 → IT → JT → Option (Int32 × IT × JT)
  | 0, _, _, _, _ => none
  | k + 1, 0, x1, I, J => g6_readsTest N b S Rf (f6_rec_readsTest N b S Rf k 1) x1 I J
  | k + 1, _ + 1, x1, I, J => g6_readsFact N b S Rf (f6_rec_readsTest N b S Rf k 0) (f6_rec_readsTest N b S Rf k 1) x1 I J
def f6_readsTest (N b : Nat) (S : ST) (Rf : RT) (x1 : Int32) (I : IT) (J : JT) : Option (Int32 × IT × JT) := f6_rec_readsTest N b S Rf 26 0 x1 I J
def f6_readsFact (N b : Nat) (S : ST) (Rf : RT) (x1 : Int32) (I : IT) (J : JT) : Option (Int32 × IT × JT) := f6_rec_readsTest N b S Rf 26 1 x1 I J
def f4_search (N : Nat) (b : Nat) (S : ST) (Rf : RT) (I : IT) (J : JT) : Option (Unit × IT × JT) :=
  yb_let (up2 I (b + 33) 15 (-1 : Int32)) fun I_1 =>
  yb_let (up2 I_1 (b + 33) 16 (-1 : Int32)) fun I_2 =>
  yb_b3 (fJ_fill_53178 N (b + 43) 7 (0 : Int32) I_2 J) fun r_6 I_3 J_4 =>
  if (I_3 (b + 33) 14) = 0 then
    yb_let (up2 I_3 (b + 33) 15 (0 : Int32)) fun I_12 =>
    some ((), I_12, J_4)
  else
    yb_b3 (f4_tryRows N b S Rf (0 : Int32) (0 : Int32) I_3 J_4) fun r_8 I_9 J_10 =>
    some ((), I_9, J_10)
def f4_answer (N : Nat) (b : Nat) (S : ST) (Rf : RT) (x1 : Int32) (I : IT) (J : JT) : Option (Int32 × IT × JT) :=
  yb_b3 (f4_gatherOpen N b S Rf  I J) fun r_1 I_2 J_3 =>
  if (I_2 (b + 33) 14) ≤ (4 : Int32) then
    yb_b3 (f4_placeAll N b S Rf  I_2 J_3) fun r_6 I_7 J_8 =>
    yb_b3 (f4_search N b S Rf  I_7 J_8) fun r_10 I_11 J_12 =>
    if 0 ≤ (I_11 (b + 33) 15) then
      if (2 : Int32) ≤ x1 then
        yb_let ((x1 - (2 : Int32)) - (x1 - (2 : Int32)) / (4 : Int32) * (4 : Int32)) fun x2_16 =>
        if x2_16 < (I_11 (b + 33) 14) then
          if (6 : Int32) ≤ x1 then
            if (10 : Int32) ≤ x1 then
              yb_ck (inb x2_16 4) fun _ =>
              some ((I_11 (b + 46) x2_16.toNatClampNeg), I_11, J_12)
            else
              yb_ck (inb x2_16 4) fun _ =>
              some ((I_11 (b + 45) x2_16.toNatClampNeg), I_11, J_12)
          else
            yb_ck (inb x2_16 4) fun _ =>
            some ((I_11 (b + 44) x2_16.toNatClampNeg), I_11, J_12)
        else
          some ((-2 : Int32), I_11, J_12)
      else
        if x1 = 0 then
          some ((I_11 (b + 33) 15), I_11, J_12)
        else
          some ((I_11 (b + 33) 16), I_11, J_12)
    else
      some ((-2 : Int32), I_11, J_12)
  else
    some ((-3 : Int32), I_2, J_3)
def f4_bestPupil_L43 (N : Nat) (b : Nat) (S : ST) (Rf : RT) (x1 : Int32) : Nat → Int32 → Int32 → Int32 → IT → JT → Option ((Int32 × Int32) × IT × JT)
  | 0, _, _, _, _, _ => none
  | n + 1, x3, x4, x5, I, J =>
    if (I (b + 5) 13) ≤ x5 then
      some ((x3, x4), I, J)
    else
      yb_ck (inb x5 7) fun _ =>
      if (9 : Int32) ≤ (I (b + 15) x5.toNatClampNeg) then
        yb_let (x5 + (1 : Int32)) fun x5_13 =>
        f4_bestPupil_L43 N b S Rf x1 n x3 x4 x5_13 I J
      else
        yb_let (up2 I (b + 15) x5.toNatClampNeg ((I (b + 15) x5.toNatClampNeg) + (1 : Int32))) fun I_14 =>
        yb_b3 (f4_weigh N b S Rf x5 I_14 J) fun r_15 I_16 J_17 =>
        yb_b3 (f4_search N b S Rf  I_16 J_17) fun r_19 I_20 J_21 =>
        yb_let (up2 I_20 (b + 15) x5.toNatClampNeg ((I_20 (b + 15) x5.toNatClampNeg) - (1 : Int32))) fun I_23 =>
        yb_b3 (f4_weigh N b S Rf x5 I_23 J_21) fun r_24 I_25 J_26 =>
        if (I_25 (b + 33) 15) ≤ x4 then
          yb_let (x5 + (1 : Int32)) fun x5_29 =>
          f4_bestPupil_L43 N b S Rf x1 n x3 x4 x5_29 I_25 J_26
        else
          if (I_25 (b + 33) 15) < 0 then
            yb_let (x5 + (1 : Int32)) fun x5_31 =>
            f4_bestPupil_L43 N b S Rf x1 n x3 x4 x5_31 I_25 J_26
          else
            yb_let (I_25 (b + 33) 15) fun x4_32 =>
            yb_let (x5 + (1 : Int32)) fun x5_33 =>
            f4_bestPupil_L43 N b S Rf x1 n x5 x4_32 x5_33 I_25 J_26
def f4_bestPupil (N : Nat) (b : Nat) (S : ST) (Rf : RT) (x1 : Int32) (I : IT) (J : JT) : Option (Int32 × IT × JT) :=
  yb_b3 (f4_gatherOpen N b S Rf  I J) fun r_1 I_2 J_3 =>
  if (I_2 (b + 33) 14) ≤ (4 : Int32) then
    yb_b3 (f4_placeAll N b S Rf  I_2 J_3) fun r_6 I_7 J_8 =>
    yb_b3 (f4_bestPupil_L43 N b S Rf x1 N (-2 : Int32) (-2 : Int32) (0 : Int32) I_7 J_8) fun q_34 I_35 J_36 =>
    if x1 = 0 then
      some (q_34.2, I_35, J_36)
    else
      some (q_34.1, I_35, J_36)
  else
    some ((-3 : Int32), I_2, J_3)
def f6_reads_L12 (N : Nat) (b : Nat) (S : ST) (Rf : RT) : Nat → Int32 → IT → JT → Option ((Int32 ⊕ (Unit)) × IT × JT)
  | 0, _, _, _ => none
  | n + 1, x1, I, J =>
    if (12 : Int32) < x1 then
      some (Sum.inr (), I, J)
    else
      yb_b3 (f3_word N b S Rf  I J) fun r_4 I_5 J_6 =>
      if r_4 = (12 : Int32) then
        if x1 = (12 : Int32) then
          yb_b3 (f3_fail b S Rf (4 : Int32) I_5 J_6) fun r_85 I_86 J_87 =>
          yb_ck (bz r_85) fun _ =>
          some (Sum.inl r_85, I_86, J_87)
        else
          yb_b3 (f3_passWord N b S Rf  I_5 J_6) fun r_10 I_11 J_12 =>
          yb_b3 (f6_readsSum N b S Rf  I_11 J_12) fun r_14 I_15 J_16 =>
          if r_14 = 0 then
            some (Sum.inl (0 : Int32), I_15, J_16)
          else
            yb_b3 (f3_word N b S Rf  I_15 J_16) fun r_19 I_20 J_21 =>
            if r_19 = (13 : Int32) then
              yb_b3 (f3_passWord N b S Rf  I_20 J_21) fun r_25 I_26 J_27 =>
              yb_b3 (f6_readsTest N b S Rf (0 : Int32) I_26 J_27) fun r_29 I_30 J_31 =>
              if r_29 = 0 then
                some (Sum.inl (0 : Int32), I_30, J_31)
              else
                yb_b3 (f6_put b S Rf (200014 : Int32) I_30 J_31) fun r_35 I_36 J_37 =>
                yb_b3 (f3_sign b S Rf  I_36 J_37) fun r_39 I_40 J_41 =>
                if r_39 = (-1 : Int32) then
                  some (Sum.inl (1 : Int32), I_40, J_41)
                else
                  yb_b3 (f3_sign b S Rf  I_40 J_41) fun r_44 I_45 J_46 =>
                  if r_44 = (59 : Int32) then
                    yb_b3 (f3_passSign N b S Rf  I_45 J_46) fun r_49 I_50 J_51 =>
                    yb_let (x1 + (1 : Int32)) fun x1_53 =>
                    f6_reads_L12 N b S Rf n x1_53 I_50 J_51
                  else
                    yb_b3 (f3_fail b S Rf (0 : Int32) I_45 J_46) fun r_54 I_55 J_56 =>
                    yb_ck (bz r_54) fun _ =>
                    some (Sum.inl r_54, I_55, J_56)
            else
              yb_b3 (f6_put b S Rf (200013 : Int32) I_20 J_21) fun r_61 I_62 J_63 =>
              yb_b3 (f3_sign b S Rf  I_62 J_63) fun r_65 I_66 J_67 =>
              if r_65 = (-1 : Int32) then
                some (Sum.inl (1 : Int32), I_66, J_67)
              else
                yb_b3 (f3_sign b S Rf  I_66 J_67) fun r_70 I_71 J_72 =>
                if r_70 = (59 : Int32) then
                  yb_b3 (f3_passSign N b S Rf  I_71 J_72) fun r_75 I_76 J_77 =>
                  yb_let (x1 + (1 : Int32)) fun x1_79 =>
                  f6_reads_L12 N b S Rf n x1_79 I_76 J_77
                else
                  yb_b3 (f3_fail b S Rf (0 : Int32) I_71 J_72) fun r_80 I_81 J_82 =>
                  yb_ck (bz r_80) fun _ =>
                  some (Sum.inl r_80, I_81, J_82)
      else
        yb_b3 (f3_fail b S Rf (0 : Int32) I_5 J_6) fun r_90 I_91 J_92 =>
        yb_ck (bz r_90) fun _ =>
        some (Sum.inl r_90, I_91, J_92)
def f6_reads (N : Nat) (b : Nat) (S : ST) (Rf : RT) (I : IT) (J : JT) : Option (Int32 × IT × JT) :=
  yb_let (up2 I (b + 62) 2 (0 : Int32)) fun I_1 =>
  yb_let (up2 I_1 (b + 62) 3 (0 : Int32)) fun I_2 =>
  yb_b3 (f6_reads_L12 N b S Rf N (0 : Int32) I_2 J) fun q_95 I_96 J_97 =>
  yb_sm q_95 (fun v_99 => some (v_99, I_96, J_97)) fun x_100 =>
  some ((0 : Int32), I_96, J_97)
def f11_benches (N : Nat) (b : Nat) (S : ST) (Rf : RT) (x1 : Int32) (I : IT) (J : JT) : Option (Int32 × IT × JT) :=
  if (I (b + 5) 8) = 0 then
    some ((-1 : Int32), I, J)
  else
    if x1 < 0 then
      some ((-1 : Int32), I, J)
    else
      if x1 ≤ (13 : Int32) then
        yb_b3 (f4_answer N b S Rf x1 I J) fun r_4 I_5 J_6 =>
        some (r_4, I_5, J_6)
      else
        some ((-1 : Int32), I, J)
def f11_lesson (N : Nat) (b : Nat) (S : ST) (Rf : RT) (x1 : Int32) (I : IT) (J : JT) : Option (Int32 × IT × JT) :=
  if (I (b + 5) 8) = 0 then
    some ((-1 : Int32), I, J)
  else
    if x1 < 0 then
      some ((-1 : Int32), I, J)
    else
      if x1 ≤ (1 : Int32) then
        if x1 = 0 then
          yb_b3 (f4_bestPupil N b S Rf (1 : Int32) I J) fun r_9 I_10 J_11 =>
          some (r_9, I_10, J_11)
        else
          yb_b3 (f4_bestPupil N b S Rf (0 : Int32) I J) fun r_5 I_6 J_7 =>
          some (r_5, I_6, J_7)
      else
        some ((-1 : Int32), I, J)
