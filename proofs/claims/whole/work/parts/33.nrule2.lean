theorem vw_X11_144 : VW RX11 144 yX6_made cX6_made 1 (some (.object "YoungerBench$Rule")) 0 := ⟨⟨tw_852, tw_853, tw_854, tw_129, tw_855⟩, by decide +kernel⟩
def f11_ruleN (N b z : Nat) (S : ST) (Rf : RT) (I : IT) (J : JT) : Option ((Int32 × ST × RT) × IT × JT) :=
  if (I b 15) < (6 : Int32) then
    yb_b3 (f11_openTape N b S Rf  I J) fun r_2 I_3 J_4 =>
    yb_b3 (f6_reads N b S Rf  I_3 J_4) fun r_6 I_7 J_8 =>
    if r_6 = 0 then
      none
    else
      yb_ck (mdok (I_7 (b + 62) 2)) fun _ =>
      yb_ck (inb (I_7 b 15) 6) fun _ =>
      yb_b3 (h11_rule_B N b (mdT b z S Rf I_7 J_8).1 (ruR b z S Rf I_7 J_8) (mdT b z S Rf I_7 J_8).2.2.1 (mdT b z S Rf I_7 J_8).2.2.2) fun r3 I3 J3 =>
      some ((r3, (mdT b z S Rf I_7 J_8).1, (ruR b z S Rf I_7 J_8)), I3, J3)
  else
    none
set_option maxHeartbeats 4000000 in
set_option maxRecDepth 100000 in
theorem c11_ruleN (l : Launch) (D : va_G) (cz : Nat → ClassId) (ev : Nat × Nat × Nat) {b z N : Nat} {L : List Nat} {S : ST} {Rf : RT} (hC : CW b L S Rf) {I : IT} {J : JT} {r : Int32} {S1 : ST} {Rf1 : RT} {I1 : IT} {J1 : JT} (hf : f11_ruleN N b z S Rf I J = some ((r, S1, Rf1), I1, J1)) : MBi l D cz ev yX11_rule cX11_rule 1 (some .int) 35 853 2 401 [.ref b] z L S Rf I J r (apn L z 2) S1 Rf1 I1 J1 := by
  unfold f11_ruleN at hf
  refine MBi_of (by decide) (Nat.le_of_ble_eq_true rfl) ?_
  intro p e s m args below meth c Q ls X hK hz hw hl hfin
  have X : CallFix p m c cX11_rule 1 s args gw RX11 := X
  have hx := X.1
  have hb := X.2.1
  have hlt : ∀ a ∈ L, a < z := fun a ha => hz ▸ wx_lt hw ha
  have hl : lv_has ls 1 [(0, .ref b)] := hl
  refine lv_aload_n hx hb dX11_rule_0 rfl (lv_at hl 0 rfl) ?_
  refine x_getI X hK hw (cw_mem0 hC) (cw_S0 hC) cpX11 15 (by decide) rfl tw_574 dX11_rule_1 ?_
  refine lv_bipush (v := (6 : Int32)) hx hb dX11_rule_4 (by decide) ?_
  refine lv_icmp_lt (tgt := 11) hx hb dX11_rule_6 (by decide) (fun c_1 => ?_) (fun c_1 => ?_)
  · have hf := yb_pos c_1 hf
    refine lv_aload_n hx hb dX11_rule_11 rfl (lv_at hl 0 rfl) ?_
    obtain ⟨r_2, I_3, J_4, hq_5, hf⟩ := yb_b3_some hf
    refine x_callv X hK hw (c11_openTape l D cz ev hC hq_5) (cw_mem0 hC) (cw_S0 hC) cpX11.1 vw_X11_117 ⟨Nat.le_of_ble_eq_true rfl, Nat.le_of_ble_eq_true rfl⟩ rfl rfl (Nat.le_of_ble_eq_true rfl) hl.1 ⟨Nat.le_of_ble_eq_true rfl, Nat.le_of_ble_eq_true rfl⟩ dX11_rule_12 (fun H locs hw => ?_)
    refine lv_aload_n hx hb dX11_rule_15 rfl (lv_at hl 0 rfl) ?_
    refine x_getR X hK hw (cw_mem0 hC) (cw_S0 hC) cpX11 11 (by decide) rfl (cw_R hC 0 11 (by decide) rfl) tw_570 dX11_rule_16 ?_
    obtain ⟨r_6, I_7, J_8, hq_9, hf⟩ := yb_b3_some hf
    refine x_calli X hK hw (c6_reads l D cz ev hC hq_9) (cw_mem hC 62 (by decide)) (cw_S hC 62 rfl) cpX6.1 vw_X11_143 ⟨Nat.le_of_ble_eq_true rfl, Nat.le_of_ble_eq_true rfl⟩ rfl rfl (Nat.le_of_ble_eq_true rfl) hl.1 ⟨Nat.le_of_ble_eq_true rfl, Nat.le_of_ble_eq_true rfl⟩ dX11_rule_19 (fun H locs hw => ?_)
    refine lv_if_ne (tgt := 36) hx hb dX11_rule_22 (by decide) (fun c_10 => ?_) (fun c_10 => ?_)
    · have hf := yb_neg c_10 hf
      refine lv_aload_n hx hb dX11_rule_36 rfl (lv_at hl 0 rfl) ?_
      refine x_getR X hK hw (cw_mem0 hC) (cw_S0 hC) cpX11 2 (by decide) rfl (cw_R hC 0 2 (by decide) rfl) tw_561 dX11_rule_37 ?_
      refine lv_aload_n hx hb dX11_rule_40 rfl (lv_at hl 0 rfl) ?_
      refine x_getI X hK hw (cw_mem0 hC) (cw_S0 hC) cpX11 15 (by decide) rfl tw_574 dX11_rule_41 ?_
      refine lv_aload_n hx hb dX11_rule_44 rfl (lv_at hl 0 rfl) ?_
      refine x_getR X hK hw (cw_mem0 hC) (cw_S0 hC) cpX11 11 (by decide) rfl (cw_R hC 0 11 (by decide) rfl) tw_570 dX11_rule_45 ?_
      obtain ⟨hm_11, hf⟩ := yb_ck_some hf
      obtain ⟨hi_12, hf⟩ := yb_ck_some hf
      refine x_size (fun q1 q2 => ?_)
      refine x_callrB (z := z) X hK hw (Nat.le_antisymm (hz ▸ q2) (hz ▸ q1)) (fun q hq => Or.inr hq) (c6_made l D cz ev hC hm_11) (fun a ha => (apn_mem 2 ha).imp id (fun g => g.1)) (cw_mem hC 62 (by decide)) (cw_S hC 62 rfl) cpX6.1 vw_X11_144 ⟨Nat.le_of_ble_eq_true rfl, Nat.le_of_ble_eq_true rfl⟩ rfl rfl (Nat.le_of_ble_eq_true rfl) hl.1 ⟨Nat.le_of_ble_eq_true rfl, Nat.le_of_ble_eq_true rfl⟩ dX11_rule_48 (fun H locs hw => ?_)
      have hb3 : b + 3 < z := hlt _ (cw_mem hC 3 (by decide))
      have hat := md_at (b := b) (z := z) (S := S) (Rf := Rf) (I := I_7) (J := J_8) L
      refine x_aast4 X hK hw (apn_old (cw_mem hC 3 (by decide)) 2) (n := 6) ((md_S hb3).trans (cw_S hC 3 rfl)) hat.1.1 hat.1.2 hi_12 rfl dX11_rule_51 (fun H locs hw => ?_)
      obtain ⟨r3, I3, J3, hq3, hf⟩ := yb_b3_some hf
      cases hf
      exact u11_rule_B (ru_cw hC hlt) X hK (Nat.le_of_ble_eq_true rfl) (Nat.le_of_ble_eq_true rfl) ⟨Nat.le_of_ble_eq_true rfl, Nat.le_of_ble_eq_true rfl⟩ hq3 hw (lv_sub hl [0] rfl) hfin
    · have hf := yb_pos c_10 hf
      refine lv_bipush (v := (-2 : Int32)) hx hb dX11_rule_25 (by decide) ?_
      refine lv_aload_n hx hb dX11_rule_27 rfl (lv_at hl 0 rfl) ?_
      refine x_getR X hK hw (cw_mem0 hC) (cw_S0 hC) cpX11 1 (by decide) rfl (cw_R hC 0 1 (by decide) rfl) tw_560 dX11_rule_28 ?_
      refine x_getI X hK hw (cw_mem hC 2 (by decide)) (cw_S hC 2 rfl) cpX3 4 (by decide) rfl tw_163 dX11_rule_31 ?_
      refine lv_isub hx hb dX11_rule_34 ?_
      cases hf
  · have hf := yb_neg c_1 hf
    refine lv_iconst (v := (-1 : Int32)) hx hb dX11_rule_9 (by decide) ?_
    cases hf
