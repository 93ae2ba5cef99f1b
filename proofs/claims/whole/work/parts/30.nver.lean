def f11_dayN (N b z : Nat) (S : ST) (Rf : RT) (I : IT) (J : JT) : Option ((Int32 × ST × RT) × IT × JT) :=
  if (I (b + 5) 8) = 0 then
    none
  else
    if (I (b + 14) 9) < (999 : Int32) then
      yb_ck (inb (I (b + 28) 1) 20) fun _ =>
      yb_op (Rf (b + 29) (I (b + 28) 1).toNatClampNeg) (fun _ =>
        yb_b3 (h2_keep_B N b (nwC z S Rf I J).1 (kpR b z S Rf I J) (b + 14) (nwC z S Rf I J).2.2.1 (nwC z S Rf I J).2.2.2) fun r_8 I_6 J_7 =>
        yb_b3 (h11_day_B N b (nwC z S Rf I J).1 (kpR b z S Rf I J) I_6 J_7) fun r_9 I_10 J_11 =>
        some ((r_9, (nwC z S Rf I J).1, (kpR b z S Rf I J)), I_10, J_11)) fun _ => none
    else
      none
set_option maxHeartbeats 4000000 in
set_option maxRecDepth 100000 in
theorem c11_dayN (l : Launch) (D : va_G) (cz : Nat → ClassId) (ev : Nat × Nat × Nat) {b z N : Nat} {L : List Nat} {S : ST} {Rf : RT} (hC : CW b L S Rf) {I : IT} {J : JT} {r : Int32} {S1 : ST} {Rf1 : RT} {I1 : IT} {J1 : JT} (hf : f11_dayN N b z S Rf I J = some ((r, S1, Rf1), I1, J1)) : MBi l D cz ev yX11_day cX11_day 1 (some .int) 3 142 10 66 [.ref b] z L S Rf I J r (apn L z 10) S1 Rf1 I1 J1 := by
  unfold f11_dayN at hf
  refine MBi_of (by decide) (Nat.le_of_ble_eq_true rfl) ?_
  intro p e s m args below meth c Q ls X hK hz hw hl hfin
  have X : CallFix p m c cX11_day 1 s args gw RX11 := X
  have hx := X.1
  have hb := X.2.1
  have hlt : ∀ a ∈ L, a < z := fun a ha => hz ▸ wx_lt hw ha
  have hl : lv_has ls 1 [(0, .ref b)] := hl
  refine lv_aload_n hx hb dX11_day_0 rfl (lv_at hl 0 rfl) ?_
  refine x_getR X hK hw (cw_mem0 hC) (cw_S0 hC) cpX11 3 (by decide) rfl (cw_R hC 0 3 (by decide) rfl) tw_562 dX11_day_1 ?_
  refine x_getR X hK hw (cw_now hC).1.1 (cw_now hC).1.2 cpX8 0 (by decide) rfl (cw_now hC).2.1.1 tw_346 dX11_day_4 ?_
  refine x_getI X hK hw (st_town (cw_now hC)).1.1 (st_town (cw_now hC)).1.2 cpX9 8 (by decide) rfl tw_225 dX11_day_7 ?_
  refine lv_if_eq (tgt := 29) hx hb dX11_day_10 (by decide) (fun c_1 => ?_) (fun c_1 => ?_)
  · have hf := yb_pos c_1 hf
    refine lv_iconst (v := (-1 : Int32)) hx hb dX11_day_29 (by decide) ?_
    cases hf
  · have hf := yb_neg c_1 hf
    refine lv_aload_n hx hb dX11_day_13 rfl (lv_at hl 0 rfl) ?_
    refine x_getR X hK hw (cw_mem0 hC) (cw_S0 hC) cpX11 3 (by decide) rfl (cw_R hC 0 3 (by decide) rfl) tw_562 dX11_day_14 ?_
    refine x_getR X hK hw (cw_now hC).1.1 (cw_now hC).1.2 cpX8 1 (by decide) rfl (cw_now hC).2.2.1.1 tw_351 dX11_day_17 ?_
    refine x_getI X hK hw (st_course (cw_now hC)).1.1 (st_course (cw_now hC)).1.2 cpX0 9 (by decide) rfl tw_320 dX11_day_20 ?_
    refine lv_sipush (v := (999 : Int32)) hx hb dX11_day_23 (by decide) ?_
    refine lv_icmp_lt (tgt := 31) hx hb dX11_day_26 (by decide) (fun c_2 => ?_) (fun c_2 => ?_)
    · have hf := yb_pos c_2 hf
      refine lv_aload_n hx hb dX11_day_31 rfl (lv_at hl 0 rfl) ?_
      refine x_getR X hK hw (cw_mem0 hC) (cw_S0 hC) cpX11 5 (by decide) rfl (cw_R hC 0 5 (by decide) rfl) tw_564 dX11_day_32 ?_
      refine lv_aload_n hx hb dX11_day_35 rfl (lv_at hl 0 rfl) ?_
      refine x_getR X hK hw (cw_mem0 hC) (cw_S0 hC) cpX11 3 (by decide) rfl (cw_R hC 0 3 (by decide) rfl) tw_562 dX11_day_36 ?_
      refine x_getR X hK hw (cw_now hC).1.1 (cw_now hC).1.2 cpX8 1 (by decide) rfl (cw_now hC).2.2.1.1 tw_351 dX11_day_39 ?_
      obtain ⟨hi_3, hf⟩ := yb_ck_some hf
      rcases ho_4 : Rf (b + 29) (I (b + 28) 1).toNatClampNeg with _ | tq
      · rw [ho_4] at hf
        have hf := yb_op_n hf
        obtain ⟨r_8, I_6, J_7, hq_5, hf⟩ := yb_b3_some hf
        refine x_size (fun q1 q2 => ?_)
        refine x_callvB (z := z) X hK hw (Nat.le_antisymm (hz ▸ q2) (hz ▸ q1)) (fun q hq => Or.inr hq) (c2_keepN l D cz ev hC (st_course (cw_now hC)) hi_3 ho_4 hq_5) (fun a ha => (apn_mem 10 ha).imp id (fun g => g.1)) (cw_mem hC 28 (by decide)) (cw_S hC 28 rfl) cpX2.1 vw_X11_235 ⟨Nat.le_of_ble_eq_true rfl, Nat.le_of_ble_eq_true rfl⟩ rfl rfl (Nat.le_of_ble_eq_true rfl) hl.1 ⟨Nat.le_of_ble_eq_true rfl, Nat.le_of_ble_eq_true rfl⟩ dX11_day_42 (fun H locs hw => ?_)
        have hC1 := kp_cw (I := I) (J := J) hC hlt
        obtain ⟨r_9, I_10, J_11, hq_12, hf⟩ := yb_b3_some hf
        cases hf
        exact u11_day_B hC1 X hK (Nat.le_of_ble_eq_true rfl) (Nat.le_of_ble_eq_true rfl) ⟨Nat.le_of_ble_eq_true rfl, Nat.le_of_ble_eq_true rfl⟩ hq_12 hw (lv_sub hl [0] rfl) hfin
      · rw [ho_4] at hf
        cases hf
    · have hf := yb_neg c_2 hf
      refine lv_iconst (v := (-1 : Int32)) hx hb dX11_day_29 (by decide) ?_
      cases hf
def f11_hearN (N b z : Nat) (S : ST) (Rf : RT) (x1 : Int32) (x2 : Int32) (I : IT) (J : JT) : Option ((Int32 × ST × RT) × IT × JT) :=
  yb_b3 (f11_hasBoth b S Rf x1 x2 I J) fun r_1 I_2 J_3 =>
  if r_1 = 0 then
    none
  else
    yb_b3 (f1_mayHear N b S Rf x1 x2 I_2 J_3) fun r_6 I_7 J_8 =>
    if r_6 = 0 then
      none
    else
      yb_ck (inb (I_7 (b + 28) 1) 20) fun _ =>
      yb_op (Rf (b + 29) (I_7 (b + 28) 1).toNatClampNeg) (fun _ =>
        yb_b3 (h2_keep_B N b (nwC z S Rf I_7 J_8).1 (kpR b z S Rf I_7 J_8) (b + 14) (nwC z S Rf I_7 J_8).2.2.1 (nwC z S Rf I_7 J_8).2.2.2) fun r_16 I_14 J_15 =>
        yb_b3 (h11_hear_B N b (nwC z S Rf I_7 J_8).1 (kpR b z S Rf I_7 J_8) x1 x2 I_14 J_15) fun r_17 I_18 J_19 =>
        some ((r_17, (nwC z S Rf I_7 J_8).1, (kpR b z S Rf I_7 J_8)), I_18, J_19)) fun _ => none
set_option maxHeartbeats 4000000 in
set_option maxRecDepth 100000 in
theorem c11_hearN (l : Launch) (D : va_G) (cz : Nat → ClassId) (ev : Nat × Nat × Nat) {b z N : Nat} {L : List Nat} {S : ST} {Rf : RT} (hC : CW b L S Rf) {x1 : Int32} {x2 : Int32} {I : IT} {J : JT} {r : Int32} {S1 : ST} {Rf1 : RT} {I1 : IT} {J1 : JT} (hf : f11_hearN N b z S Rf x1 x2 I J = some ((r, S1, Rf1), I1, J1)) : MBi l D cz ev yX11_hear cX11_hear 3 (some .int) 5 142 10 66 [.ref b, .int x1, .int x2] z L S Rf I J r (apn L z 10) S1 Rf1 I1 J1 := by
  unfold f11_hearN at hf
  refine MBi_of (by decide) (Nat.le_of_ble_eq_true rfl) ?_
  intro p e s m args below meth c Q ls X hK hz hw hl hfin
  have X : CallFix p m c cX11_hear 3 s args gw RX11 := X
  have hx := X.1
  have hb := X.2.1
  have hlt : ∀ a ∈ L, a < z := fun a ha => hz ▸ wx_lt hw ha
  have hl : lv_has ls 3 [(0, .ref b), (1, .int x1), (2, .int x2)] := hl
  refine lv_aload_n hx hb dX11_hear_0 rfl (lv_at hl 0 rfl) ?_
  refine lv_iload_n hx hb dX11_hear_1 rfl (lv_at hl 1 rfl) ?_
  refine lv_iload_n hx hb dX11_hear_2 rfl (lv_at hl 2 rfl) ?_
  obtain ⟨r_1, I_2, J_3, hq_4, hf⟩ := yb_b3_some hf
  refine x_calli X hK hw (c11_hasBoth l D cz ev hC hq_4) (cw_mem0 hC) (cw_S0 hC) cpX11.1 vw_X11_219 ⟨Nat.le_of_ble_eq_true rfl, Nat.le_of_ble_eq_true rfl⟩ rfl rfl (Nat.le_of_ble_eq_true rfl) hl.1 ⟨Nat.le_of_ble_eq_true rfl, Nat.le_of_ble_eq_true rfl⟩ dX11_hear_3 (fun H locs hw => ?_)
  refine lv_if_eq (tgt := 21) hx hb dX11_hear_6 (by decide) (fun c_5 => ?_) (fun c_5 => ?_)
  · have hf := yb_pos c_5 hf
    refine lv_iconst (v := (-1 : Int32)) hx hb dX11_hear_21 (by decide) ?_
    cases hf
  · have hf := yb_neg c_5 hf
    refine lv_aload_n hx hb dX11_hear_9 rfl (lv_at hl 0 rfl) ?_
    refine x_getR X hK hw (cw_mem0 hC) (cw_S0 hC) cpX11 6 (by decide) rfl (cw_R hC 0 6 (by decide) rfl) tw_565 dX11_hear_10 ?_
    refine lv_iload_n hx hb dX11_hear_13 rfl (lv_at hl 1 rfl) ?_
    refine lv_iload_n hx hb dX11_hear_14 rfl (lv_at hl 2 rfl) ?_
    obtain ⟨r_6, I_7, J_8, hq_9, hf⟩ := yb_b3_some hf
    refine x_calli X hK hw (c1_mayHear l D cz ev hC hq_9) (cw_mem hC 30 (by decide)) (cw_S hC 30 rfl) cpX1.1 vw_X11_248 ⟨Nat.le_of_ble_eq_true rfl, Nat.le_of_ble_eq_true rfl⟩ rfl rfl (Nat.le_of_ble_eq_true rfl) hl.1 ⟨Nat.le_of_ble_eq_true rfl, Nat.le_of_ble_eq_true rfl⟩ dX11_hear_15 (fun H locs hw => ?_)
    refine lv_if_ne (tgt := 23) hx hb dX11_hear_18 (by decide) (fun c_10 => ?_) (fun c_10 => ?_)
    · have hf := yb_neg c_10 hf
      refine lv_aload_n hx hb dX11_hear_23 rfl (lv_at hl 0 rfl) ?_
      refine x_getR X hK hw (cw_mem0 hC) (cw_S0 hC) cpX11 5 (by decide) rfl (cw_R hC 0 5 (by decide) rfl) tw_564 dX11_hear_24 ?_
      refine lv_aload_n hx hb dX11_hear_27 rfl (lv_at hl 0 rfl) ?_
      refine x_getR X hK hw (cw_mem0 hC) (cw_S0 hC) cpX11 3 (by decide) rfl (cw_R hC 0 3 (by decide) rfl) tw_562 dX11_hear_28 ?_
      refine x_getR X hK hw (cw_now hC).1.1 (cw_now hC).1.2 cpX8 1 (by decide) rfl (cw_now hC).2.2.1.1 tw_351 dX11_hear_31 ?_
      obtain ⟨hi_11, hf⟩ := yb_ck_some hf
      rcases ho_12 : Rf (b + 29) (I_7 (b + 28) 1).toNatClampNeg with _ | tq
      · rw [ho_12] at hf
        have hf := yb_op_n hf
        obtain ⟨r_16, I_14, J_15, hq_13, hf⟩ := yb_b3_some hf
        refine x_size (fun q1 q2 => ?_)
        refine x_callvB (z := z) X hK hw (Nat.le_antisymm (hz ▸ q2) (hz ▸ q1)) (fun q hq => Or.inr hq) (c2_keepN l D cz ev hC (st_course (cw_now hC)) hi_11 ho_12 hq_13) (fun a ha => (apn_mem 10 ha).imp id (fun g => g.1)) (cw_mem hC 28 (by decide)) (cw_S hC 28 rfl) cpX2.1 vw_X11_235 ⟨Nat.le_of_ble_eq_true rfl, Nat.le_of_ble_eq_true rfl⟩ rfl rfl (Nat.le_of_ble_eq_true rfl) hl.1 ⟨Nat.le_of_ble_eq_true rfl, Nat.le_of_ble_eq_true rfl⟩ dX11_hear_34 (fun H locs hw => ?_)
        have hC1 := kp_cw (I := I_7) (J := J_8) hC hlt
        obtain ⟨r_17, I_18, J_19, hq_20, hf⟩ := yb_b3_some hf
        cases hf
        exact u11_hear_B hC1 X hK (Nat.le_of_ble_eq_true rfl) (Nat.le_of_ble_eq_true rfl) ⟨Nat.le_of_ble_eq_true rfl, Nat.le_of_ble_eq_true rfl⟩ hq_20 hw (lv_sub hl [0, 1, 2] rfl) hfin
      · rw [ho_12] at hf
        cases hf
    · have hf := yb_pos c_10 hf
      refine lv_iconst (v := (-1 : Int32)) hx hb dX11_hear_21 (by decide) ?_
      cases hf
def f11_teachN (N b z : Nat) (S : ST) (Rf : RT) (x1 : Int32) (I : IT) (J : JT) : Option ((Int32 × ST × RT) × IT × JT) :=
  yb_b3 (f9_hasPerson b S Rf (b + 5) x1 I J) fun r_1 I_2 J_3 =>
  if r_1 = 0 then
    none
  else
    yb_ck (inb x1 7) fun _ =>
    if (I_2 (b + 15) x1.toNatClampNeg) < (9 : Int32) then
      yb_ck (inb (I_2 (b + 28) 1) 20) fun _ =>
      yb_op (Rf (b + 29) (I_2 (b + 28) 1).toNatClampNeg) (fun _ =>
        yb_b3 (h2_keep_B N b (nwC z S Rf I_2 J_3).1 (kpR b z S Rf I_2 J_3) (b + 14) (nwC z S Rf I_2 J_3).2.2.1 (nwC z S Rf I_2 J_3).2.2.2) fun r_13 I_11 J_12 =>
        yb_b3 (h11_teach_B N b (nwC z S Rf I_2 J_3).1 (kpR b z S Rf I_2 J_3) x1 I_11 J_12) fun r_14 I_15 J_16 =>
        some ((r_14, (nwC z S Rf I_2 J_3).1, (kpR b z S Rf I_2 J_3)), I_15, J_16)) fun _ => none
    else
      none
set_option maxHeartbeats 4000000 in
set_option maxRecDepth 100000 in
theorem c11_teachN (l : Launch) (D : va_G) (cz : Nat → ClassId) (ev : Nat × Nat × Nat) {b z N : Nat} {L : List Nat} {S : ST} {Rf : RT} (hC : CW b L S Rf) {x1 : Int32} {I : IT} {J : JT} {r : Int32} {S1 : ST} {Rf1 : RT} {I1 : IT} {J1 : JT} (hf : f11_teachN N b z S Rf x1 I J = some ((r, S1, Rf1), I1, J1)) : MBi l D cz ev yX11_teach cX11_teach 2 (some .int) 3 142 10 66 [.ref b, .int x1] z L S Rf I J r (apn L z 10) S1 Rf1 I1 J1 := by
  unfold f11_teachN at hf
  refine MBi_of (by decide) (Nat.le_of_ble_eq_true rfl) ?_
  intro p e s m args below meth c Q ls X hK hz hw hl hfin
  have X : CallFix p m c cX11_teach 2 s args gw RX11 := X
  have hx := X.1
  have hb := X.2.1
  have hlt : ∀ a ∈ L, a < z := fun a ha => hz ▸ wx_lt hw ha
  have hl : lv_has ls 2 [(0, .ref b), (1, .int x1)] := hl
  refine lv_aload_n hx hb dX11_teach_0 rfl (lv_at hl 0 rfl) ?_
  refine x_getR X hK hw (cw_mem0 hC) (cw_S0 hC) cpX11 3 (by decide) rfl (cw_R hC 0 3 (by decide) rfl) tw_562 dX11_teach_1 ?_
  refine x_getR X hK hw (cw_now hC).1.1 (cw_now hC).1.2 cpX8 0 (by decide) rfl (cw_now hC).2.1.1 tw_346 dX11_teach_4 ?_
  refine lv_iload_n hx hb dX11_teach_7 rfl (lv_at hl 1 rfl) ?_
  obtain ⟨r_1, I_2, J_3, hq_4, hf⟩ := yb_b3_some hf
  refine x_calli X hK hw (c9_hasPerson l D cz ev hC (st_town (cw_now hC)) hq_4) (st_town (cw_now hC)).1.1 (st_town (cw_now hC)).1.2 cpX9.1 vw_X11_151 ⟨Nat.le_of_ble_eq_true rfl, Nat.le_of_ble_eq_true rfl⟩ rfl rfl (Nat.le_of_ble_eq_true rfl) hl.1 ⟨Nat.le_of_ble_eq_true rfl, Nat.le_of_ble_eq_true rfl⟩ dX11_teach_8 (fun H locs hw => ?_)
  refine lv_if_eq (tgt := 31) hx hb dX11_teach_11 (by decide) (fun c_5 => ?_) (fun c_5 => ?_)
  · have hf := yb_pos c_5 hf
    refine lv_iconst (v := (-1 : Int32)) hx hb dX11_teach_31 (by decide) ?_
    cases hf
  · have hf := yb_neg c_5 hf
    refine lv_aload_n hx hb dX11_teach_14 rfl (lv_at hl 0 rfl) ?_
    refine x_getR X hK hw (cw_mem0 hC) (cw_S0 hC) cpX11 3 (by decide) rfl (cw_R hC 0 3 (by decide) rfl) tw_562 dX11_teach_15 ?_
    refine x_getR X hK hw (cw_now hC).1.1 (cw_now hC).1.2 cpX8 1 (by decide) rfl (cw_now hC).2.2.1.1 tw_351 dX11_teach_18 ?_
    refine x_getR X hK hw (st_course (cw_now hC)).1.1 (st_course (cw_now hC)).1.2 cpX0 0 (by decide) rfl (ca_R (st_course (cw_now hC)) 0 (by decide)) tw_290 dX11_teach_21 ?_
    refine lv_iload_n hx hb dX11_teach_24 rfl (lv_at hl 1 rfl) ?_
    obtain ⟨hi_6, hf⟩ := yb_ck_some hf
    refine x_iald X hK hw (ca_mem (st_course (cw_now hC)) 0 (by decide)) (ca_S (st_course (cw_now hC)) 0 rfl) hi_6 rfl dX11_teach_25 ?_
    refine lv_bipush (v := (9 : Int32)) hx hb dX11_teach_26 (by decide) ?_
    refine lv_icmp_lt (tgt := 33) hx hb dX11_teach_28 (by decide) (fun c_7 => ?_) (fun c_7 => ?_)
    · have hf := yb_pos c_7 hf
      refine lv_aload_n hx hb dX11_teach_33 rfl (lv_at hl 0 rfl) ?_
      refine x_getR X hK hw (cw_mem0 hC) (cw_S0 hC) cpX11 5 (by decide) rfl (cw_R hC 0 5 (by decide) rfl) tw_564 dX11_teach_34 ?_
      refine lv_aload_n hx hb dX11_teach_37 rfl (lv_at hl 0 rfl) ?_
      refine x_getR X hK hw (cw_mem0 hC) (cw_S0 hC) cpX11 3 (by decide) rfl (cw_R hC 0 3 (by decide) rfl) tw_562 dX11_teach_38 ?_
      refine x_getR X hK hw (cw_now hC).1.1 (cw_now hC).1.2 cpX8 1 (by decide) rfl (cw_now hC).2.2.1.1 tw_351 dX11_teach_41 ?_
      obtain ⟨hi_8, hf⟩ := yb_ck_some hf
      rcases ho_9 : Rf (b + 29) (I_2 (b + 28) 1).toNatClampNeg with _ | tq
      · rw [ho_9] at hf
        have hf := yb_op_n hf
        obtain ⟨r_13, I_11, J_12, hq_10, hf⟩ := yb_b3_some hf
        refine x_size (fun q1 q2 => ?_)
        refine x_callvB (z := z) X hK hw (Nat.le_antisymm (hz ▸ q2) (hz ▸ q1)) (fun q hq => Or.inr hq) (c2_keepN l D cz ev hC (st_course (cw_now hC)) hi_8 ho_9 hq_10) (fun a ha => (apn_mem 10 ha).imp id (fun g => g.1)) (cw_mem hC 28 (by decide)) (cw_S hC 28 rfl) cpX2.1 vw_X11_235 ⟨Nat.le_of_ble_eq_true rfl, Nat.le_of_ble_eq_true rfl⟩ rfl rfl (Nat.le_of_ble_eq_true rfl) hl.1 ⟨Nat.le_of_ble_eq_true rfl, Nat.le_of_ble_eq_true rfl⟩ dX11_teach_44 (fun H locs hw => ?_)
        have hC1 := kp_cw (I := I_2) (J := J_3) hC hlt
        obtain ⟨r_14, I_15, J_16, hq_17, hf⟩ := yb_b3_some hf
        cases hf
        exact u11_teach_B hC1 X hK (Nat.le_of_ble_eq_true rfl) (Nat.le_of_ble_eq_true rfl) ⟨Nat.le_of_ble_eq_true rfl, Nat.le_of_ble_eq_true rfl⟩ hq_17 hw (lv_sub hl [0, 1] rfl) hfin
      · rw [ho_9] at hf
        cases hf
    · have hf := yb_neg c_7 hf
      refine lv_iconst (v := (-1 : Int32)) hx hb dX11_teach_31 (by decide) ?_
      cases hf
