set_option maxHeartbeats 4000000 in
set_option maxRecDepth 100000 in
theorem c11_fact (l : Launch) (D : va_G) (cz : Nat → ClassId) (ev : Nat × Nat × Nat) {b : Nat} {L : List Nat} {S : ST} {Rf : RT} (hC : CW b L S Rf) {x1 : Int32} {x2 : Int32} {x3 : Int32} {I : IT} {J : JT} {r : Int32} {I1 : IT} {J1 : JT} (hf : f11_fact b S Rf x1 x2 x3 I J = some (r, I1, J1)) : MTi l D cz ev yX11_fact cX11_fact 5 (some .int) 1 23 [.ref b, .int x1, .int x2, .int x3] L S Rf I J r I1 J1 := by
  unfold f11_fact at hf
  refine MTi_of (by decide) (Nat.le_of_ble_eq_true rfl) ?_
  intro p e s m args below meth c Q ls X hK hw hl hfin
  have X : CallFix p m c cX11_fact 5 s args gw RX11 := X
  have hx := X.1
  have hb := X.2.1
  have hl : lv_has ls 5 [(0, .ref b), (1, .int x1), (2, .int x2), (3, .int x3)] := hl
  refine lv_iload_n hx hb dX11_fact_0 rfl (lv_at hl 1 rfl) ?_
  refine lv_iconst (v := (-1 : Int32)) hx hb dX11_fact_1 (by decide) ?_
  refine lv_icmp_ne (tgt := 15) hx hb dX11_fact_2 (by decide) (fun c_1 => ?_) (fun c_1 => ?_)
  · have hf := yb_neg c_1 hf
    refine lv_aload_n hx hb dX11_fact_15 rfl (lv_at hl 0 rfl) ?_
    refine x_getR X hK hw (cw_mem0 hC) (cw_S0 hC) cpX11 3 (by decide) rfl (cw_R hC 0 3 (by decide) rfl) tw_562 dX11_fact_16 ?_
    refine x_getR X hK hw (cw_now hC).1.1 (cw_now hC).1.2 cpX8 0 (by decide) rfl (cw_now hC).2.1.1 tw_346 dX11_fact_19 ?_
    refine lv_iload_n hx hb dX11_fact_22 rfl (lv_at hl 1 rfl) ?_
    obtain ⟨r_2, I_3, J_4, hq_5, hf⟩ := yb_b3_some hf
    refine x_calli X hK hw (c9_hasCase l D cz ev hC (st_town (cw_now hC)) hq_5) (st_town (cw_now hC)).1.1 (st_town (cw_now hC)).1.2 cpX9.1 vw_X11_186 ⟨Nat.le_of_ble_eq_true rfl, Nat.le_of_ble_eq_true rfl⟩ rfl rfl (Nat.le_of_ble_eq_true rfl) hl.1 ⟨Nat.le_refl _, Nat.le_refl _⟩ dX11_fact_23 (fun H locs hw => ?_)
    refine lv_if_eq (tgt := 54) hx hb dX11_fact_26 (by decide) (fun c_6 => ?_) (fun c_6 => ?_)
    · have hf := yb_pos c_6 hf
      refine lv_iconst (v := (0 : Int32)) hx hb dX11_fact_54 (by decide) ?_
      refine lv_istore (lv' := [(4, .int (0 : Int32)), (0, .ref b), (1, .int x1), (2, .int x2), (3, .int x3)]) hx hb dX11_fact_55 hl (by decide) rfl (fun ls hl => ?_)
      refine lv_iload hx hb dX11_fact_57 (lv_at hl 0 rfl) ?_
      refine lv_if_eq (tgt := 74) hx hb dX11_fact_59 (by decide) (fun _ => ?_) (fun c_7 => absurd (by decide) c_7)
      refine lv_bipush (v := (-2 : Int32)) hx hb dX11_fact_74 (by decide) ?_
      exact yb_reti hfin hf hw dX11_fact_76
    · have hf := yb_neg c_6 hf
      refine lv_iload_n hx hb dX11_fact_29 rfl (lv_at hl 2 rfl) ?_
      refine lv_if_lt (tgt := 54) hx hb dX11_fact_30 (by decide) (fun c_8 => ?_) (fun c_8 => ?_)
      · have hf := yb_pos c_8 hf
        refine lv_iconst (v := (0 : Int32)) hx hb dX11_fact_54 (by decide) ?_
        refine lv_istore (lv' := [(4, .int (0 : Int32)), (0, .ref b), (1, .int x1), (2, .int x2), (3, .int x3)]) hx hb dX11_fact_55 hl (by decide) rfl (fun ls hl => ?_)
        refine lv_iload hx hb dX11_fact_57 (lv_at hl 0 rfl) ?_
        refine lv_if_eq (tgt := 74) hx hb dX11_fact_59 (by decide) (fun _ => ?_) (fun c_9 => absurd (by decide) c_9)
        refine lv_bipush (v := (-2 : Int32)) hx hb dX11_fact_74 (by decide) ?_
        exact yb_reti hfin hf hw dX11_fact_76
      · have hf := yb_neg c_8 hf
        refine lv_iload_n hx hb dX11_fact_33 rfl (lv_at hl 2 rfl) ?_
        refine lv_bipush (v := (7 : Int32)) hx hb dX11_fact_34 (by decide) ?_
        refine lv_icmp_gt (tgt := 54) hx hb dX11_fact_36 (by decide) (fun c_10 => ?_) (fun c_10 => ?_)
        · have hf := yb_pos c_10 hf
          refine lv_iconst (v := (0 : Int32)) hx hb dX11_fact_54 (by decide) ?_
          refine lv_istore (lv' := [(4, .int (0 : Int32)), (0, .ref b), (1, .int x1), (2, .int x2), (3, .int x3)]) hx hb dX11_fact_55 hl (by decide) rfl (fun ls hl => ?_)
          refine lv_iload hx hb dX11_fact_57 (lv_at hl 0 rfl) ?_
          refine lv_if_eq (tgt := 74) hx hb dX11_fact_59 (by decide) (fun _ => ?_) (fun c_11 => absurd (by decide) c_11)
          refine lv_bipush (v := (-2 : Int32)) hx hb dX11_fact_74 (by decide) ?_
          exact yb_reti hfin hf hw dX11_fact_76
        · have hf := yb_neg c_10 hf
          refine lv_iload_n hx hb dX11_fact_39 rfl (lv_at hl 3 rfl) ?_
          refine lv_if_lt (tgt := 54) hx hb dX11_fact_40 (by decide) (fun c_12 => ?_) (fun c_12 => ?_)
          · have hf := yb_pos c_12 hf
            refine lv_iconst (v := (0 : Int32)) hx hb dX11_fact_54 (by decide) ?_
            refine lv_istore (lv' := [(4, .int (0 : Int32)), (0, .ref b), (1, .int x1), (2, .int x2), (3, .int x3)]) hx hb dX11_fact_55 hl (by decide) rfl (fun ls hl => ?_)
            refine lv_iload hx hb dX11_fact_57 (lv_at hl 0 rfl) ?_
            refine lv_if_eq (tgt := 74) hx hb dX11_fact_59 (by decide) (fun _ => ?_) (fun c_13 => absurd (by decide) c_13)
            refine lv_bipush (v := (-2 : Int32)) hx hb dX11_fact_74 (by decide) ?_
            exact yb_reti hfin hf hw dX11_fact_76
          · have hf := yb_neg c_12 hf
            refine lv_iload_n hx hb dX11_fact_43 rfl (lv_at hl 3 rfl) ?_
            refine lv_sipush (v := (9999 : Int32)) hx hb dX11_fact_44 (by decide) ?_
            refine lv_icmp_gt (tgt := 54) hx hb dX11_fact_47 (by decide) (fun c_14 => ?_) (fun c_14 => ?_)
            · have hf := yb_pos c_14 hf
              refine lv_iconst (v := (0 : Int32)) hx hb dX11_fact_54 (by decide) ?_
              refine lv_istore (lv' := [(4, .int (0 : Int32)), (0, .ref b), (1, .int x1), (2, .int x2), (3, .int x3)]) hx hb dX11_fact_55 hl (by decide) rfl (fun ls hl => ?_)
              refine lv_iload hx hb dX11_fact_57 (lv_at hl 0 rfl) ?_
              refine lv_if_eq (tgt := 74) hx hb dX11_fact_59 (by decide) (fun _ => ?_) (fun c_15 => absurd (by decide) c_15)
              refine lv_bipush (v := (-2 : Int32)) hx hb dX11_fact_74 (by decide) ?_
              exact yb_reti hfin hf hw dX11_fact_76
            · have hf := yb_neg c_14 hf
              refine lv_iconst (v := (1 : Int32)) hx hb dX11_fact_50 (by decide) ?_
              refine lv_goto (tgt := 55) hx hb dX11_fact_51 (by decide) ?_
              refine lv_istore (lv' := [(4, .int (1 : Int32)), (0, .ref b), (1, .int x1), (2, .int x2), (3, .int x3)]) hx hb dX11_fact_55 hl (by decide) rfl (fun ls hl => ?_)
              refine lv_iload hx hb dX11_fact_57 (lv_at hl 0 rfl) ?_
              refine lv_if_eq (tgt := 74) hx hb dX11_fact_59 (by decide) (fun c_16 => absurd c_16 (by decide)) (fun _ => ?_)
              refine lv_aload_n hx hb dX11_fact_62 rfl (lv_at hl 1 rfl) ?_
              refine x_getR X hK hw (cw_mem0 hC) (cw_S0 hC) cpX11 3 (by decide) rfl (cw_R hC 0 3 (by decide) rfl) tw_562 dX11_fact_63 ?_
              refine x_getI X hK hw (cw_now hC).1.1 (cw_now hC).1.2 cpX8 5 (by decide) rfl tw_356 dX11_fact_66 ?_
              refine lv_bipush (v := (10 : Int32)) hx hb dX11_fact_69 (by decide) ?_
              refine lv_icmp_lt (tgt := 77) hx hb dX11_fact_71 (by decide) (fun c_17 => ?_) (fun c_17 => ?_)
              · have hf := yb_pos c_17 hf
                refine lv_aload_n hx hb dX11_fact_77 rfl (lv_at hl 1 rfl) ?_
                refine x_getR X hK hw (cw_mem0 hC) (cw_S0 hC) cpX11 3 (by decide) rfl (cw_R hC 0 3 (by decide) rfl) tw_562 dX11_fact_78 ?_
                refine lv_iload_n hx hb dX11_fact_81 rfl (lv_at hl 2 rfl) ?_
                refine lv_iload_n hx hb dX11_fact_82 rfl (lv_at hl 3 rfl) ?_
                refine lv_iload_n hx hb dX11_fact_83 rfl (lv_at hl 4 rfl) ?_
                obtain ⟨r_18, I_19, J_20, hq_21, hf⟩ := yb_b3_some hf
                refine x_callv X hK hw (c8_addFact l D cz ev hC (cw_now hC) hq_21) (cw_now hC).1.1 (cw_now hC).1.2 cpX8.1 vw_X11_316 ⟨Nat.le_of_ble_eq_true rfl, Nat.le_of_ble_eq_true rfl⟩ rfl rfl (Nat.le_of_ble_eq_true rfl) hl.1 ⟨Nat.le_refl _, Nat.le_refl _⟩ dX11_fact_84 (fun H locs hw => ?_)
                refine lv_aload_n hx hb dX11_fact_87 rfl (lv_at hl 1 rfl) ?_
                refine x_getR X hK hw (cw_mem0 hC) (cw_S0 hC) cpX11 3 (by decide) rfl (cw_R hC 0 3 (by decide) rfl) tw_562 dX11_fact_88 ?_
                refine x_getI X hK hw (cw_now hC).1.1 (cw_now hC).1.2 cpX8 5 (by decide) rfl tw_356 dX11_fact_91 ?_
                exact yb_reti hfin hf hw dX11_fact_94
              · have hf := yb_neg c_17 hf
                refine lv_bipush (v := (-2 : Int32)) hx hb dX11_fact_74 (by decide) ?_
                exact yb_reti hfin hf hw dX11_fact_76
  · have hf := yb_pos c_1 hf
    refine lv_aload_n hx hb dX11_fact_5 rfl (lv_at hl 0 rfl) ?_
    refine x_getR X hK hw (cw_mem0 hC) (cw_S0 hC) cpX11 3 (by decide) rfl (cw_R hC 0 3 (by decide) rfl) tw_562 dX11_fact_6 ?_
    refine lv_iconst (v := (0 : Int32)) hx hb dX11_fact_9 (by decide) ?_
    refine x_putI X hK hw (cw_now hC).1.1 (cw_now hC).1.2 cpX8 5 (by decide) rfl rfl rfl tw_356 dX11_fact_10 (fun H locs hw => ?_)
    obtain ⟨I_22, eI_22, hf⟩ := yb_let_ex hf
    have hw := yb_wI eI_22 hw
    refine lv_iconst (v := (0 : Int32)) hx hb dX11_fact_13 (by decide) ?_
    exact yb_reti hfin hf hw dX11_fact_14
set_option maxHeartbeats 4000000 in
set_option maxRecDepth 100000 in
theorem c11_who (l : Launch) (D : va_G) (cz : Nat → ClassId) (ev : Nat × Nat × Nat) {b : Nat} {L : List Nat} {S : ST} {Rf : RT} (hC : CW b L S Rf) {N : Nat} {x1 : Int32} {x2 : Int32} {I : IT} {J : JT} {r : Int32} {I1 : IT} {J1 : JT} (hf : f11_who N b S Rf x1 x2 I J = some (r, I1, J1)) : MTi l D cz ev yX11_who cX11_who 3 (some .int) 5 125 [.ref b, .int x1, .int x2] L S Rf I J r I1 J1 := by
  unfold f11_who at hf
  refine MTi_of (by decide) (Nat.le_of_ble_eq_true rfl) ?_
  intro p e s m args below meth c Q ls X hK hw hl hfin
  have X : CallFix p m c cX11_who 3 s args gw RX11 := X
  have hx := X.1
  have hb := X.2.1
  have hl : lv_has ls 3 [(0, .ref b), (1, .int x1), (2, .int x2)] := hl
  refine lv_aload_n hx hb dX11_who_0 rfl (lv_at hl 0 rfl) ?_
  refine x_getR X hK hw (cw_mem0 hC) (cw_S0 hC) cpX11 3 (by decide) rfl (cw_R hC 0 3 (by decide) rfl) tw_562 dX11_who_1 ?_
  refine x_getR X hK hw (cw_now hC).1.1 (cw_now hC).1.2 cpX8 0 (by decide) rfl (cw_now hC).2.1.1 tw_346 dX11_who_4 ?_
  refine lv_iload_n hx hb dX11_who_7 rfl (lv_at hl 1 rfl) ?_
  obtain ⟨r_1, I_2, J_3, hq_4, hf⟩ := yb_b3_some hf
  refine x_calli X hK hw (c9_hasCase l D cz ev hC (st_town (cw_now hC)) hq_4) (st_town (cw_now hC)).1.1 (st_town (cw_now hC)).1.2 cpX9.1 vw_X11_186 ⟨Nat.le_of_ble_eq_true rfl, Nat.le_of_ble_eq_true rfl⟩ rfl rfl (Nat.le_of_ble_eq_true rfl) hl.1 ⟨Nat.le_refl _, Nat.le_refl _⟩ dX11_who_8 (fun H locs hw => ?_)
  refine lv_if_eq (tgt := 23) hx hb dX11_who_11 (by decide) (fun c_5 => ?_) (fun c_5 => ?_)
  · have hf := yb_pos c_5 hf
    refine lv_iconst (v := (-1 : Int32)) hx hb dX11_who_23 (by decide) ?_
    exact yb_reti hfin hf hw dX11_who_24
  · have hf := yb_neg c_5 hf
    refine lv_iload_n hx hb dX11_who_14 rfl (lv_at hl 2 rfl) ?_
    refine lv_if_lt (tgt := 23) hx hb dX11_who_15 (by decide) (fun c_6 => ?_) (fun c_6 => ?_)
    · have hf := yb_pos c_6 hf
      refine lv_iconst (v := (-1 : Int32)) hx hb dX11_who_23 (by decide) ?_
      exact yb_reti hfin hf hw dX11_who_24
    · have hf := yb_neg c_6 hf
      refine lv_iload_n hx hb dX11_who_18 rfl (lv_at hl 2 rfl) ?_
      refine lv_iconst (v := (3 : Int32)) hx hb dX11_who_19 (by decide) ?_
      refine lv_icmp_le (tgt := 25) hx hb dX11_who_20 (by decide) (fun c_7 => ?_) (fun c_7 => ?_)
      · have hf := yb_pos c_7 hf
        refine lv_aload_n hx hb dX11_who_25 rfl (lv_at hl 0 rfl) ?_
        refine x_getR X hK hw (cw_mem0 hC) (cw_S0 hC) cpX11 8 (by decide) rfl (cw_R hC 0 8 (by decide) rfl) tw_567 dX11_who_26 ?_
        refine lv_iload_n hx hb dX11_who_29 rfl (lv_at hl 1 rfl) ?_
        obtain ⟨r_8, I_9, J_10, hq_11, hf⟩ := yb_b3_some hf
        refine x_callv X hK hw (c7_sift l D cz ev hC hq_11) (cw_mem hC 48 (by decide)) (cw_S hC 48 rfl) cpX7.1 vw_X11_320 ⟨Nat.le_of_ble_eq_true rfl, Nat.le_of_ble_eq_true rfl⟩ rfl rfl (Nat.le_of_ble_eq_true rfl) hl.1 ⟨Nat.le_refl _, Nat.le_refl _⟩ dX11_who_30 (fun H locs hw => ?_)
        refine lv_iload_n hx hb dX11_who_33 rfl (lv_at hl 2 rfl) ?_
        by_cases c_12 : x2 = (0 : Int32)
        · have hf := yb_pos c_12 hf
          refine lv_tableIn (off := 26) (tgt := 60) hx hb dX11_who_34 (by rw [c_12]; decide) (by rw [c_12]; decide) (by rw [c_12]; rfl) (by decide) ?_
          refine lv_aload_n hx hb dX11_who_60 rfl (lv_at hl 0 rfl) ?_
          refine x_getR X hK hw (cw_mem0 hC) (cw_S0 hC) cpX11 8 (by decide) rfl (cw_R hC 0 8 (by decide) rfl) tw_567 dX11_who_61 ?_
          refine x_getI X hK hw (cw_mem hC 48 (by decide)) (cw_S hC 48 rfl) cpX7 4 (by decide) rfl tw_490 dX11_who_64 ?_
          exact yb_reti hfin hf hw dX11_who_67
        have hf := yb_neg c_12 hf
        by_cases c_13 : x2 = (1 : Int32)
        · have hf := yb_pos c_13 hf
          refine lv_tableIn (off := 34) (tgt := 68) hx hb dX11_who_34 (by rw [c_13]; decide) (by rw [c_13]; decide) (by rw [c_13]; rfl) (by decide) ?_
          refine lv_aload_n hx hb dX11_who_68 rfl (lv_at hl 0 rfl) ?_
          refine x_getR X hK hw (cw_mem0 hC) (cw_S0 hC) cpX11 8 (by decide) rfl (cw_R hC 0 8 (by decide) rfl) tw_567 dX11_who_69 ?_
          refine x_getI X hK hw (cw_mem hC 48 (by decide)) (cw_S hC 48 rfl) cpX7 5 (by decide) rfl tw_492 dX11_who_72 ?_
          exact yb_reti hfin hf hw dX11_who_75
        have hf := yb_neg c_13 hf
        by_cases c_14 : x2 = (2 : Int32)
        · have hf := yb_pos c_14 hf
          refine lv_tableIn (off := 42) (tgt := 76) hx hb dX11_who_34 (by rw [c_14]; decide) (by rw [c_14]; decide) (by rw [c_14]; rfl) (by decide) ?_
          refine lv_aload_n hx hb dX11_who_76 rfl (lv_at hl 0 rfl) ?_
          refine x_getR X hK hw (cw_mem0 hC) (cw_S0 hC) cpX11 8 (by decide) rfl (cw_R hC 0 8 (by decide) rfl) tw_567 dX11_who_77 ?_
          refine x_getI X hK hw (cw_mem hC 48 (by decide)) (cw_S hC 48 rfl) cpX7 6 (by decide) rfl tw_494 dX11_who_80 ?_
          exact yb_reti hfin hf hw dX11_who_83
        have hf := yb_neg c_14 hf
        refine lv_tableOut (tgt := 84) hx hb dX11_who_34 (by
            rcases Int.lt_or_le (x2).toInt 0 with g1 | g1
            · exact Or.inl g1
            · rcases Int.lt_or_le 2 (x2).toInt with g2 | g2
              · exact Or.inr g2
              · exfalso
                have g3 : (x2).toInt = 0 ∨ (x2).toInt = 1 ∨ (x2).toInt = 2 := by omega
                rcases g3 with g3 | g3 | g3
                · exact c_12 (yb_sw (0 : Int32) g3 rfl)
                · exact c_13 (yb_sw (1 : Int32) g3 rfl)
                · exact c_14 (yb_sw (2 : Int32) g3 rfl)) (by decide) ?_
        refine lv_aload_n hx hb dX11_who_84 rfl (lv_at hl 0 rfl) ?_
        refine x_getR X hK hw (cw_mem0 hC) (cw_S0 hC) cpX11 8 (by decide) rfl (cw_R hC 0 8 (by decide) rfl) tw_567 dX11_who_85 ?_
        refine x_getI X hK hw (cw_mem hC 48 (by decide)) (cw_S hC 48 rfl) cpX7 7 (by decide) rfl tw_496 dX11_who_88 ?_
        exact yb_reti hfin hf hw dX11_who_91
      · have hf := yb_neg c_7 hf
        refine lv_iconst (v := (-1 : Int32)) hx hb dX11_who_23 (by decide) ?_
        exact yb_reti hfin hf hw dX11_who_24
set_option maxHeartbeats 4000000 in
set_option maxRecDepth 100000 in
theorem c11_look (l : Launch) (D : va_G) (cz : Nat → ClassId) (ev : Nat × Nat × Nat) {b : Nat} {L : List Nat} {S : ST} {Rf : RT} (hC : CW b L S Rf) {N : Nat} {x1 : Int32} {x2 : Int32} {I : IT} {J : JT} {r : Int32} {I1 : IT} {J1 : JT} (hf : f11_look N b S Rf x1 x2 I J = some (r, I1, J1)) : MTi l D cz ev yX11_look cX11_look 3 (some .int) 5 125 [.ref b, .int x1, .int x2] L S Rf I J r I1 J1 := by
  unfold f11_look at hf
  refine MTi_of (by decide) (Nat.le_of_ble_eq_true rfl) ?_
  intro p e s m args below meth c Q ls X hK hw hl hfin
  have X : CallFix p m c cX11_look 3 s args gw RX11 := X
  have hx := X.1
  have hb := X.2.1
  have hl : lv_has ls 3 [(0, .ref b), (1, .int x1), (2, .int x2)] := hl
  refine lv_aload_n hx hb dX11_look_0 rfl (lv_at hl 0 rfl) ?_
  refine x_getR X hK hw (cw_mem0 hC) (cw_S0 hC) cpX11 3 (by decide) rfl (cw_R hC 0 3 (by decide) rfl) tw_562 dX11_look_1 ?_
  refine x_getR X hK hw (cw_now hC).1.1 (cw_now hC).1.2 cpX8 0 (by decide) rfl (cw_now hC).2.1.1 tw_346 dX11_look_4 ?_
  refine lv_iload_n hx hb dX11_look_7 rfl (lv_at hl 1 rfl) ?_
  obtain ⟨r_1, I_2, J_3, hq_4, hf⟩ := yb_b3_some hf
  refine x_calli X hK hw (c9_hasCase l D cz ev hC (st_town (cw_now hC)) hq_4) (st_town (cw_now hC)).1.1 (st_town (cw_now hC)).1.2 cpX9.1 vw_X11_186 ⟨Nat.le_of_ble_eq_true rfl, Nat.le_of_ble_eq_true rfl⟩ rfl rfl (Nat.le_of_ble_eq_true rfl) hl.1 ⟨Nat.le_refl _, Nat.le_refl _⟩ dX11_look_8 (fun H locs hw => ?_)
  refine lv_if_eq (tgt := 23) hx hb dX11_look_11 (by decide) (fun c_5 => ?_) (fun c_5 => ?_)
  · have hf := yb_pos c_5 hf
    refine lv_iconst (v := (-1 : Int32)) hx hb dX11_look_23 (by decide) ?_
    exact yb_reti hfin hf hw dX11_look_24
  · have hf := yb_neg c_5 hf
    refine lv_iload_n hx hb dX11_look_14 rfl (lv_at hl 2 rfl) ?_
    refine lv_if_lt (tgt := 23) hx hb dX11_look_15 (by decide) (fun c_6 => ?_) (fun c_6 => ?_)
    · have hf := yb_pos c_6 hf
      refine lv_iconst (v := (-1 : Int32)) hx hb dX11_look_23 (by decide) ?_
      exact yb_reti hfin hf hw dX11_look_24
    · have hf := yb_neg c_6 hf
      refine lv_iload_n hx hb dX11_look_18 rfl (lv_at hl 2 rfl) ?_
      refine lv_iconst (v := (1 : Int32)) hx hb dX11_look_19 (by decide) ?_
      refine lv_icmp_le (tgt := 25) hx hb dX11_look_20 (by decide) (fun c_7 => ?_) (fun c_7 => ?_)
      · have hf := yb_pos c_7 hf
        refine lv_aload_n hx hb dX11_look_25 rfl (lv_at hl 0 rfl) ?_
        refine x_getR X hK hw (cw_mem0 hC) (cw_S0 hC) cpX11 8 (by decide) rfl (cw_R hC 0 8 (by decide) rfl) tw_567 dX11_look_26 ?_
        refine lv_iload_n hx hb dX11_look_29 rfl (lv_at hl 1 rfl) ?_
        obtain ⟨r_8, I_9, J_10, hq_11, hf⟩ := yb_b3_some hf
        refine x_callv X hK hw (c7_sift l D cz ev hC hq_11) (cw_mem hC 48 (by decide)) (cw_S hC 48 rfl) cpX7.1 vw_X11_320 ⟨Nat.le_of_ble_eq_true rfl, Nat.le_of_ble_eq_true rfl⟩ rfl rfl (Nat.le_of_ble_eq_true rfl) hl.1 ⟨Nat.le_refl _, Nat.le_refl _⟩ dX11_look_30 (fun H locs hw => ?_)
        refine lv_aload_n hx hb dX11_look_33 rfl (lv_at hl 0 rfl) ?_
        refine x_getR X hK hw (cw_mem0 hC) (cw_S0 hC) cpX11 8 (by decide) rfl (cw_R hC 0 8 (by decide) rfl) tw_567 dX11_look_34 ?_
        refine lv_iload_n hx hb dX11_look_37 rfl (lv_at hl 2 rfl) ?_
        refine lv_if_ne (tgt := 45) hx hb dX11_look_38 (by decide) (fun c_12 => ?_) (fun c_12 => ?_)
        · have hf := yb_neg c_12 hf
          refine lv_iconst (v := (0 : Int32)) hx hb dX11_look_45 (by decide) ?_
          obtain ⟨r_13, I_14, J_15, hq_16, hf⟩ := yb_b3_some hf
          refine x_calli X hK hw (c7_part l D cz ev hC hq_16) (cw_mem hC 48 (by decide)) (cw_S hC 48 rfl) cpX7.1 vw_X11_330 ⟨Nat.le_of_ble_eq_true rfl, Nat.le_of_ble_eq_true rfl⟩ rfl rfl (Nat.le_of_ble_eq_true rfl) hl.1 ⟨Nat.le_refl _, Nat.le_refl _⟩ dX11_look_46 (fun H locs hw => ?_)
          exact yb_reti hfin hf hw dX11_look_49
        · have hf := yb_pos c_12 hf
          refine lv_iconst (v := (1 : Int32)) hx hb dX11_look_41 (by decide) ?_
          refine lv_goto (tgt := 46) hx hb dX11_look_42 (by decide) ?_
          obtain ⟨r_17, I_18, J_19, hq_20, hf⟩ := yb_b3_some hf
          refine x_calli X hK hw (c7_part l D cz ev hC hq_20) (cw_mem hC 48 (by decide)) (cw_S hC 48 rfl) cpX7.1 vw_X11_330 ⟨Nat.le_of_ble_eq_true rfl, Nat.le_of_ble_eq_true rfl⟩ rfl rfl (Nat.le_of_ble_eq_true rfl) hl.1 ⟨Nat.le_refl _, Nat.le_refl _⟩ dX11_look_46 (fun H locs hw => ?_)
          exact yb_reti hfin hf hw dX11_look_49
      · have hf := yb_neg c_7 hf
        refine lv_iconst (v := (-1 : Int32)) hx hb dX11_look_23 (by decide) ?_
        exact yb_reti hfin hf hw dX11_look_24
set_option maxHeartbeats 4000000 in
set_option maxRecDepth 100000 in
theorem c11_seed (l : Launch) (D : va_G) (cz : Nat → ClassId) (ev : Nat × Nat × Nat) {b : Nat} {L : List Nat} {S : ST} {Rf : RT} (hC : CW b L S Rf) {x1 : Int32} {I : IT} {J : JT} {r : Int32} {I1 : IT} {J1 : JT} (hf : f11_seed b S Rf x1 I J = some (r, I1, J1)) : MTi l D cz ev yX11_seed cX11_seed 3 (some .int) 0 0 [.ref b, .int x1] L S Rf I J r I1 J1 := by
  unfold f11_seed at hf
  refine MTi_of (by decide) (Nat.le_of_ble_eq_true rfl) ?_
  intro p e s m args below meth c Q ls X hK hw hl hfin
  have X : CallFix p m c cX11_seed 3 s args gw RX11 := X
  have hx := X.1
  have hb := X.2.1
  have hl : lv_has ls 3 [(0, .ref b), (1, .int x1)] := hl
  refine lv_iload_n hx hb dX11_seed_0 rfl (lv_at hl 1 rfl) ?_
  refine lv_if_ge (tgt := 6) hx hb dX11_seed_1 (by decide) (fun c_1 => ?_) (fun c_1 => ?_)
  · have hf := yb_pos c_1 hf
    refine lv_aload_n hx hb dX11_seed_6 rfl (lv_at hl 0 rfl) ?_
    refine x_getR X hK hw (cw_mem0 hC) (cw_S0 hC) cpX11 3 (by decide) rfl (cw_R hC 0 3 (by decide) rfl) tw_562 dX11_seed_7 ?_
    refine x_getI X hK hw (cw_now hC).1.1 (cw_now hC).1.2 cpX8 7 (by decide) rfl tw_361 dX11_seed_10 ?_
    refine lv_topi (fun x2_2 ex2_2 => ?_)
    have hf := yb_let_to ex2_2 hf
    refine lv_istore_n (lv' := [(2, .int x2_2), (0, .ref b), (1, .int x1)]) hx hb dX11_seed_13 rfl hl (by decide) rfl (fun ls hl => ?_)
    refine lv_aload_n hx hb dX11_seed_14 rfl (lv_at hl 1 rfl) ?_
    refine x_getR X hK hw (cw_mem0 hC) (cw_S0 hC) cpX11 3 (by decide) rfl (cw_R hC 0 3 (by decide) rfl) tw_562 dX11_seed_15 ?_
    refine lv_iload_n hx hb dX11_seed_18 rfl (lv_at hl 2 rfl) ?_
    refine x_putI X hK hw (cw_now hC).1.1 (cw_now hC).1.2 cpX8 7 (by decide) rfl rfl rfl tw_361 dX11_seed_19 (fun H locs hw => ?_)
    obtain ⟨I_3, eI_3, hf⟩ := yb_let_ex hf
    have hw := yb_wI eI_3 hw
    refine lv_iload_n hx hb dX11_seed_22 rfl (lv_at hl 0 rfl) ?_
    exact yb_reti hfin hf hw dX11_seed_23
  · have hf := yb_neg c_1 hf
    refine lv_iconst (v := (-1 : Int32)) hx hb dX11_seed_4 (by decide) ?_
    exact yb_reti hfin hf hw dX11_seed_5
set_option maxHeartbeats 4000000 in
set_option maxRecDepth 100000 in
theorem w11_hearByDraw_L28 {p : Program} {l : Launch} {e : Env} {s : State} {m : MethodId} {args : Array Value} {below : List Frame} {meth : Method} {c : Code} {Q : State → Prop} {D : va_G} {cz : Nat → ClassId} {A : Nat → Prop} {ev : Nat × Nat × Nat} {b : Nat} {L : List Nat} {S : ST} {Rf : RT} (hC : CW b L S Rf) (X : CallFix p m c cX11_hearByDraw 4 s args gw RX11) (hK : KX D cz ev A s) {N : Nat} {x2 : Int32} {rM : Unit} {IM : IT} {JM : JT} :
    ∀ (n : Nat) (x3 : Int32) (I : IT) (J : JT) (q : (Unit ⊕ (Unit))) (I1 : IT) (J1 : JT) (H : Heap) (locs : List Loc) (ls : Array Slot), f11_hearByDraw_L28 N b S Rf x2 n x3 I J = some (q, I1, J1) → WX D cz A L S Rf s.heap I J H locs → lv_has ls 4 [(0, .ref b), (2, .int x2), (3, .int x3)] →
    (∀ v, q = .inl v → some (v, I1, J1) = some (rM, IM, JM)) → (∀ (H : Heap) (locs : List Loc) (ls : Array Slot) (pc : Nat), WX D cz A L S Rf s.heap IM JM H locs → decode cX11_hearByDraw pc = .ok (.return_, 1) → W p l e (rmX 5 122) s m args below meth c H locs 0 0 Q (F0 m pc ls [])) →
    (∀ xq, q = .inr xq → ∀ (H : Heap) (locs : List Loc) (ls : Array Slot), WX D cz A L S Rf s.heap I1 J1 H locs → lv_has ls 4 [] → W p l e (rmX 5 122) s m args below meth c H locs 0 0 Q (F0 m 70 ls [])) →
    W p l e (rmX 5 122) s m args below meth c H locs 0 0 Q (F0 m 28 ls []) := by
  have hx := X.1
  have hb := X.2.1
  intro n
  induction n with
  | zero =>
    intro x3 I J q I1 J1 H locs ls hf
    rw [f11_hearByDraw_L28] at hf
    cases hf
  | succ n ih =>
    intro x3 I J q I1 J1 H locs ls hf hw hl hret hfin hexit
    rw [f11_hearByDraw_L28] at hf
    refine lv_iload_n hx hb dX11_hearByDraw_28 rfl (lv_at hl 2 rfl) ?_
    refine lv_aload_n hx hb dX11_hearByDraw_29 rfl (lv_at hl 0 rfl) ?_
    refine x_getR X hK hw (cw_mem0 hC) (cw_S0 hC) cpX11 3 (by decide) rfl (cw_R hC 0 3 (by decide) rfl) tw_562 dX11_hearByDraw_30 ?_
    refine x_getR X hK hw (cw_now hC).1.1 (cw_now hC).1.2 cpX8 0 (by decide) rfl (cw_now hC).2.1.1 tw_346 dX11_hearByDraw_33 ?_
    refine x_getI X hK hw (st_town (cw_now hC)).1.1 (st_town (cw_now hC)).1.2 cpX9 14 (by decide) rfl tw_248 dX11_hearByDraw_36 ?_
    refine lv_icmp_ge (tgt := 70) hx hb dX11_hearByDraw_39 (by decide) (fun c_9 => ?_) (fun c_9 => ?_)
    · have hf := yb_pos c_9 hf
      obtain ⟨rfl, rfl, rfl⟩ := yb_inj hf
      exact hexit _ rfl _ _ _ hw (lv_sub hl [] rfl)
    · have hf := yb_neg c_9 hf
      refine lv_aload_n hx hb dX11_hearByDraw_42 rfl (lv_at hl 0 rfl) ?_
      refine x_getR X hK hw (cw_mem0 hC) (cw_S0 hC) cpX11 6 (by decide) rfl (cw_R hC 0 6 (by decide) rfl) tw_565 dX11_hearByDraw_43 ?_
      refine lv_iload_n hx hb dX11_hearByDraw_46 rfl (lv_at hl 2 rfl) ?_
      refine lv_iload_n hx hb dX11_hearByDraw_47 rfl (lv_at hl 1 rfl) ?_
      obtain ⟨r_10, I_11, J_12, hq_13, hf⟩ := yb_b3_some hf
      refine x_calli X hK hw (c1_mayHear l D cz ev hC hq_13) (cw_mem hC 30 (by decide)) (cw_S hC 30 rfl) cpX1.1 vw_X11_248 ⟨Nat.le_of_ble_eq_true rfl, Nat.le_of_ble_eq_true rfl⟩ rfl rfl (Nat.le_of_ble_eq_true rfl) hl.1 ⟨Nat.le_refl _, Nat.le_refl _⟩ dX11_hearByDraw_48 (fun H locs hw => ?_)
      refine lv_if_eq (tgt := 64) hx hb dX11_hearByDraw_51 (by decide) (fun c_14 => ?_) (fun c_14 => ?_)
      · have hf := yb_pos c_14 hf
        obtain ⟨x3_15, ex3_15, hf⟩ := yb_let_ex hf
        refine lv_iinc (v := x3_15) (lv' := [(3, .int x3_15), (0, .ref b), (2, .int x2)]) hx hb dX11_hearByDraw_64 hl (k := 2) rfl (by rw [ex3_15]; rfl) (by decide) rfl (fun ls hl => ?_)
        refine lv_goto (tgt := 28) hx hb dX11_hearByDraw_67 (by decide) ?_
        exact ih _ _ _ _ _ _ _ _ _ hf hw (lv_sub hl [1, 2, 0] rfl) hret hfin hexit
      · have hf := yb_neg c_14 hf
        refine lv_aload_n hx hb dX11_hearByDraw_54 rfl (lv_at hl 0 rfl) ?_
        refine x_getR X hK hw (cw_mem0 hC) (cw_S0 hC) cpX11 6 (by decide) rfl (cw_R hC 0 6 (by decide) rfl) tw_565 dX11_hearByDraw_55 ?_
        refine lv_iload_n hx hb dX11_hearByDraw_58 rfl (lv_at hl 2 rfl) ?_
        refine lv_iload_n hx hb dX11_hearByDraw_59 rfl (lv_at hl 1 rfl) ?_
        obtain ⟨r_16, I_17, J_18, hq_19, hf⟩ := yb_b3_some hf
        refine x_callv X hK hw (c1_begin l D cz ev hC hq_19) (cw_mem hC 30 (by decide)) (cw_S hC 30 rfl) cpX1.1 vw_X11_251 ⟨Nat.le_of_ble_eq_true rfl, Nat.le_of_ble_eq_true rfl⟩ rfl rfl (Nat.le_of_ble_eq_true rfl) hl.1 ⟨Nat.le_refl _, Nat.le_refl _⟩ dX11_hearByDraw_60 (fun H locs hw => ?_)
        exact yb_retv hfin (yb_inl hret hf) hw dX11_hearByDraw_63
set_option maxHeartbeats 4000000 in
set_option maxRecDepth 100000 in
theorem c11_hearByDraw (l : Launch) (D : va_G) (cz : Nat → ClassId) (ev : Nat × Nat × Nat) {b : Nat} {L : List Nat} {S : ST} {Rf : RT} (hC : CW b L S Rf) {N : Nat} {I : IT} {J : JT} {r : Unit} {I1 : IT} {J1 : JT} (hf : f11_hearByDraw N b S Rf I J = some (r, I1, J1)) : MTv l D cz ev yX11_hearByDraw cX11_hearByDraw 4 (none) 5 122 [.ref b] L S Rf I J r I1 J1 := by
  unfold f11_hearByDraw at hf
  refine MTv_of (by decide) (Nat.le_of_ble_eq_true rfl) ?_
  intro p e s m args below meth c Q ls X hK hw hl hfin
  have X : CallFix p m c cX11_hearByDraw 4 s args gw RX11 := X
  have hx := X.1
  have hb := X.2.1
  have hl : lv_has ls 4 [(0, .ref b)] := hl
  refine lv_aload_n hx hb dX11_hearByDraw_0 rfl (lv_at hl 0 rfl) ?_
  refine x_getR X hK hw (cw_mem0 hC) (cw_S0 hC) cpX11 3 (by decide) rfl (cw_R hC 0 3 (by decide) rfl) tw_562 dX11_hearByDraw_1 ?_
  refine x_getR X hK hw (cw_now hC).1.1 (cw_now hC).1.2 cpX8 0 (by decide) rfl (cw_now hC).2.1.1 tw_346 dX11_hearByDraw_4 ?_
  refine x_getI X hK hw (st_town (cw_now hC)).1.1 (st_town (cw_now hC)).1.2 cpX9 13 (by decide) rfl tw_243 dX11_hearByDraw_7 ?_
  refine lv_topi (fun x1_1 ex1_1 => ?_)
  have hf := yb_let_to ex1_1 hf
  refine lv_istore_n (lv' := [(1, .int x1_1), (0, .ref b)]) hx hb dX11_hearByDraw_10 rfl hl (by decide) rfl (fun ls hl => ?_)
  refine lv_iload_n hx hb dX11_hearByDraw_11 rfl (lv_at hl 0 rfl) ?_
  refine lv_if_gt (tgt := 16) hx hb dX11_hearByDraw_12 (by decide) (fun c_2 => ?_) (fun c_2 => ?_)
  · have hf := yb_pos c_2 hf
    refine lv_aload_n hx hb dX11_hearByDraw_16 rfl (lv_at hl 1 rfl) ?_
    refine x_getR X hK hw (cw_mem0 hC) (cw_S0 hC) cpX11 3 (by decide) rfl (cw_R hC 0 3 (by decide) rfl) tw_562 dX11_hearByDraw_17 ?_
    obtain ⟨r_3, I_4, J_5, hq_6, hf⟩ := yb_b3_some hf
    refine x_calli X hK hw (c8_draw l D cz ev hC (cw_now hC) hq_6) (cw_now hC).1.1 (cw_now hC).1.2 cpX8.1 vw_X11_345 ⟨Nat.le_of_ble_eq_true rfl, Nat.le_of_ble_eq_true rfl⟩ rfl rfl (Nat.le_of_ble_eq_true rfl) hl.1 ⟨Nat.le_refl _, Nat.le_refl _⟩ dX11_hearByDraw_20 (fun H locs hw => ?_)
    refine lv_iload_n hx hb dX11_hearByDraw_23 rfl (lv_at hl 0 rfl) ?_
    obtain ⟨h_7, hf⟩ := yb_nz hf
    refine lv_irem hx hb dX11_hearByDraw_24 h_7 ?_
    refine lv_topi (fun x2_8 ex2_8 => ?_)
    have hf := yb_let_to ex2_8 hf
    refine lv_istore_n (lv' := [(2, .int x2_8), (1, .int x1_1), (0, .ref b)]) hx hb dX11_hearByDraw_25 rfl hl (by decide) rfl (fun ls hl => ?_)
    refine lv_iconst (v := (0 : Int32)) hx hb dX11_hearByDraw_26 (by decide) ?_
    refine lv_istore_n (lv' := [(3, .int (0 : Int32)), (2, .int x2_8), (1, .int x1_1), (0, .ref b)]) hx hb dX11_hearByDraw_27 rfl hl (by decide) rfl (fun ls hl => ?_)
    obtain ⟨q_20, I_21, J_22, hq_23, hf⟩ := yb_b3_some hf
    refine w11_hearByDraw_L28 hC X hK _ _ _ _ _ _ _ _ _ _ hq_23 hw (lv_sub hl [3, 1, 0] rfl) (fun v hv => by rw [hv] at hf; exact hf) hfin (fun x_25 hx1 H locs ls hw hl => ?_)
    rw [hx1] at hf
    have hf := yb_sm_r hf
    exact yb_retv hfin hf hw dX11_hearByDraw_70
  · have hf := yb_neg c_2 hf
    exact yb_retv hfin hf hw dX11_hearByDraw_15
set_option maxHeartbeats 4000000 in
set_option maxRecDepth 100000 in
theorem w11_ruledRightly_L4 {p : Program} {l : Launch} {e : Env} {s : State} {m : MethodId} {args : Array Value} {below : List Frame} {meth : Method} {c : Code} {Q : State → Prop} {D : va_G} {cz : Nat → ClassId} {A : Nat → Prop} {ev : Nat × Nat × Nat} {b : Nat} {L : List Nat} {S : ST} {Rf : RT} (hC : CW b L S Rf) (X : CallFix p m c cX11_ruledRightly 4 s args gw RX11) (hK : KX D cz ev A s) {N : Nat} {x1 : Int32} :
    ∀ (n : Nat) (x2 : Int32) (x3 : Int32) (I : IT) (J : JT) (q : (Int32)) (I1 : IT) (J1 : JT) (H : Heap) (locs : List Loc) (ls : Array Slot), f11_ruledRightly_L4 N b S Rf x1 n x2 x3 I J = some (q, I1, J1) → WX D cz A L S Rf s.heap I J H locs → lv_has ls 4 [(0, .ref b), (1, .int x1), (2, .int x2), (3, .int x3)] →
    (∀ (H : Heap) (locs : List Loc) (ls : Array Slot), WX D cz A L S Rf s.heap I1 J1 H locs → lv_has ls 4 [(2, .int q)] → W p l e (rmX 1 20) s m args below meth c H locs 0 0 Q (F0 m 60 ls [])) →
    W p l e (rmX 1 20) s m args below meth c H locs 0 0 Q (F0 m 4 ls []) := by
  have hx := X.1
  have hb := X.2.1
  intro n
  induction n with
  | zero =>
    intro x2 x3 I J q I1 J1 H locs ls hf
    rw [f11_ruledRightly_L4] at hf
    cases hf
  | succ n ih =>
    intro x2 x3 I J q I1 J1 H locs ls hf hw hl hexit
    rw [f11_ruledRightly_L4] at hf
    refine lv_iload_n hx hb dX11_ruledRightly_4 rfl (lv_at hl 3 rfl) ?_
    refine lv_aload_n hx hb dX11_ruledRightly_5 rfl (lv_at hl 0 rfl) ?_
    refine x_getR X hK hw (cw_mem0 hC) (cw_S0 hC) cpX11 3 (by decide) rfl (cw_R hC 0 3 (by decide) rfl) tw_562 dX11_ruledRightly_6 ?_
    refine x_getR X hK hw (cw_now hC).1.1 (cw_now hC).1.2 cpX8 0 (by decide) rfl (cw_now hC).2.1.1 tw_346 dX11_ruledRightly_9 ?_
    refine x_getI X hK hw (st_town (cw_now hC)).1.1 (st_town (cw_now hC)).1.2 cpX9 14 (by decide) rfl tw_248 dX11_ruledRightly_12 ?_
    refine lv_icmp_ge (tgt := 60) hx hb dX11_ruledRightly_15 (by decide) (fun c_1 => ?_) (fun c_1 => ?_)
    · have hf := yb_pos c_1 hf
      obtain ⟨rfl, rfl, rfl⟩ := yb_inj hf
      exact hexit _ _ _ hw (lv_sub hl [2] rfl)
    · have hf := yb_neg c_1 hf
      refine lv_iload_n hx hb dX11_ruledRightly_18 rfl (lv_at hl 1 rfl) ?_
      refine lv_iload_n hx hb dX11_ruledRightly_19 rfl (lv_at hl 3 rfl) ?_
      refine lv_ishr hx hb dX11_ruledRightly_20 ?_
      refine lv_iconst (v := (1 : Int32)) hx hb dX11_ruledRightly_21 (by decide) ?_
      refine lv_iand hx hb dX11_ruledRightly_22 ?_
      refine lv_if_eq (tgt := 54) hx hb dX11_ruledRightly_23 (by decide) (fun c_2 => ?_) (fun c_2 => ?_)
      · have hf := yb_pos c_2 hf
        obtain ⟨x3_3, ex3_3, hf⟩ := yb_let_ex hf
        refine lv_iinc (v := x3_3) (lv' := [(3, .int x3_3), (0, .ref b), (1, .int x1), (2, .int x2)]) hx hb dX11_ruledRightly_54 hl (k := 3) rfl (by rw [ex3_3]; rfl) (by decide) rfl (fun ls hl => ?_)
        refine lv_goto (tgt := 4) hx hb dX11_ruledRightly_57 (by decide) ?_
        exact ih _ _ _ _ _ _ _ _ _ _ hf hw (lv_sub hl [1, 2, 3, 0] rfl) hexit
      · have hf := yb_neg c_2 hf
        refine lv_aload_n hx hb dX11_ruledRightly_26 rfl (lv_at hl 0 rfl) ?_
        refine x_getR X hK hw (cw_mem0 hC) (cw_S0 hC) cpX11 3 (by decide) rfl (cw_R hC 0 3 (by decide) rfl) tw_562 dX11_ruledRightly_27 ?_
        obtain ⟨r_4, I_5, J_6, hq_7, hf⟩ := yb_b3_some hf
        refine x_calli X hK hw (c8_draw l D cz ev hC (cw_now hC) hq_7) (cw_now hC).1.1 (cw_now hC).1.2 cpX8.1 vw_X11_345 ⟨Nat.le_of_ble_eq_true rfl, Nat.le_of_ble_eq_true rfl⟩ rfl rfl (Nat.le_of_ble_eq_true rfl) hl.1 ⟨Nat.le_refl _, Nat.le_refl _⟩ dX11_ruledRightly_30 (fun H locs hw => ?_)
        refine lv_bipush (v := (100 : Int32)) hx hb dX11_ruledRightly_33 (by decide) ?_
        refine lv_irem hx hb dX11_ruledRightly_35 (by decide) ?_
        refine lv_aload_n hx hb dX11_ruledRightly_36 rfl (lv_at hl 0 rfl) ?_
        refine x_getR X hK hw (cw_mem0 hC) (cw_S0 hC) cpX11 3 (by decide) rfl (cw_R hC 0 3 (by decide) rfl) tw_562 dX11_ruledRightly_37 ?_
        refine x_getR X hK hw (cw_now hC).1.1 (cw_now hC).1.2 cpX8 1 (by decide) rfl (cw_now hC).2.2.1.1 tw_351 dX11_ruledRightly_40 ?_
        refine x_getR X hK hw (st_course (cw_now hC)).1.1 (st_course (cw_now hC)).1.2 cpX0 6 (by decide) rfl (ca_R (st_course (cw_now hC)) 6 (by decide)) tw_310 dX11_ruledRightly_43 ?_
        refine lv_iload_n hx hb dX11_ruledRightly_46 rfl (lv_at hl 3 rfl) ?_
        obtain ⟨hi_8, hf⟩ := yb_ck_some hf
        refine x_iald X hK hw (ca_mem (st_course (cw_now hC)) 6 (by decide)) (ca_S (st_course (cw_now hC)) 6 rfl) hi_8 rfl dX11_ruledRightly_47 ?_
        refine lv_icmp_ge (tgt := 54) hx hb dX11_ruledRightly_48 (by decide) (fun c_9 => ?_) (fun c_9 => ?_)
        · have hf := yb_pos c_9 hf
          obtain ⟨x3_10, ex3_10, hf⟩ := yb_let_ex hf
          refine lv_iinc (v := x3_10) (lv' := [(3, .int x3_10), (0, .ref b), (1, .int x1), (2, .int x2)]) hx hb dX11_ruledRightly_54 hl (k := 3) rfl (by rw [ex3_10]; rfl) (by decide) rfl (fun ls hl => ?_)
          refine lv_goto (tgt := 4) hx hb dX11_ruledRightly_57 (by decide) ?_
          exact ih _ _ _ _ _ _ _ _ _ _ hf hw (lv_sub hl [1, 2, 3, 0] rfl) hexit
        · have hf := yb_neg c_9 hf
          obtain ⟨x2_11, ex2_11, hf⟩ := yb_let_ex hf
          refine lv_iinc (v := x2_11) (lv' := [(2, .int x2_11), (0, .ref b), (1, .int x1), (3, .int x3)]) hx hb dX11_ruledRightly_51 hl (k := 2) rfl (by rw [ex2_11]; rfl) (by decide) rfl (fun ls hl => ?_)
          obtain ⟨x3_12, ex3_12, hf⟩ := yb_let_ex hf
          refine lv_iinc (v := x3_12) (lv' := [(3, .int x3_12), (2, .int x2_11), (0, .ref b), (1, .int x1)]) hx hb dX11_ruledRightly_54 hl (k := 3) rfl (by rw [ex3_12]; rfl) (by decide) rfl (fun ls hl => ?_)
          refine lv_goto (tgt := 4) hx hb dX11_ruledRightly_57 (by decide) ?_
          exact ih _ _ _ _ _ _ _ _ _ _ hf hw (lv_sub hl [2, 3, 1, 0] rfl) hexit
set_option maxHeartbeats 4000000 in
set_option maxRecDepth 100000 in
theorem c11_ruledRightly (l : Launch) (D : va_G) (cz : Nat → ClassId) (ev : Nat × Nat × Nat) {b : Nat} {L : List Nat} {S : ST} {Rf : RT} (hC : CW b L S Rf) {N : Nat} {x1 : Int32} {I : IT} {J : JT} {r : Int32} {I1 : IT} {J1 : JT} (hf : f11_ruledRightly N b S Rf x1 I J = some (r, I1, J1)) : MTi l D cz ev yX11_ruledRightly cX11_ruledRightly 4 (some .int) 1 20 [.ref b, .int x1] L S Rf I J r I1 J1 := by
  unfold f11_ruledRightly at hf
  refine MTi_of (by decide) (Nat.le_of_ble_eq_true rfl) ?_
  intro p e s m args below meth c Q ls X hK hw hl hfin
  have X : CallFix p m c cX11_ruledRightly 4 s args gw RX11 := X
  have hx := X.1
  have hb := X.2.1
  have hl : lv_has ls 4 [(0, .ref b), (1, .int x1)] := hl
  refine lv_iconst (v := (0 : Int32)) hx hb dX11_ruledRightly_0 (by decide) ?_
  refine lv_istore_n (lv' := [(2, .int (0 : Int32)), (0, .ref b), (1, .int x1)]) hx hb dX11_ruledRightly_1 rfl hl (by decide) rfl (fun ls hl => ?_)
  refine lv_iconst (v := (0 : Int32)) hx hb dX11_ruledRightly_2 (by decide) ?_
  refine lv_istore_n (lv' := [(3, .int (0 : Int32)), (2, .int (0 : Int32)), (0, .ref b), (1, .int x1)]) hx hb dX11_ruledRightly_3 rfl hl (by decide) rfl (fun ls hl => ?_)
  obtain ⟨q_13, I_14, J_15, hq_16, hf⟩ := yb_b3_some hf
  refine w11_ruledRightly_L4 hC X hK _ _ _ _ _ _ _ _ _ _ _ hq_16 hw (lv_sub hl [2, 3, 1, 0] rfl) (fun H locs ls hw hl => ?_)
  refine lv_iload_n hx hb dX11_ruledRightly_60 rfl (lv_at hl 0 rfl) ?_
  exact yb_reti hfin hf hw dX11_ruledRightly_61
set_option maxHeartbeats 4000000 in
set_option maxRecDepth 100000 in
theorem w11_years_L99 {p : Program} {l : Launch} {e : Env} {s : State} {m : MethodId} {args : Array Value} {below : List Frame} {meth : Method} {c : Code} {Q : State → Prop} {D : va_G} {cz : Nat → ClassId} {A : Nat → Prop} {ev : Nat × Nat × Nat} {b : Nat} {L : List Nat} {S : ST} {Rf : RT} (hC : CW b L S Rf) (X : CallFix p m c cX11_years 11 s args gw RX11) (hK : KX D cz ev A s) {N : Nat} {x1 : Int32} {x2 : Int32} {x3 : Int32} {x5 : Int32} {x8 : Int32} :
    ∀ (n : Nat) (x6 : Int32) (x7 : Int32) (x9 : Int32) (I : IT) (J : JT) (q : (Int32 × Int32)) (I1 : IT) (J1 : JT) (H : Heap) (locs : List Loc) (ls : Array Slot), f11_years_L99 N b S Rf x1 x2 x3 x5 x8 n x6 x7 x9 I J = some (q, I1, J1) → WX D cz A L S Rf s.heap I J H locs → lv_has ls 11 [(0, .ref b), (1, .int x1), (2, .int x2), (3, .int x3), (5, .int x5), (6, .int x6), (7, .int x7), (8, .int x8), (9, .int x9)] →
    (∀ (H : Heap) (locs : List Loc) (ls : Array Slot), WX D cz A L S Rf s.heap I1 J1 H locs → lv_has ls 11 [(0, .ref b), (1, .int x1), (2, .int x2), (3, .int x3), (5, .int x5), (6, .int q.1), (7, .int q.2), (8, .int x8)] → W p l e (rmX 6 145) s m args below meth c H locs 0 0 Q (F0 m 155 ls [])) →
    W p l e (rmX 6 145) s m args below meth c H locs 0 0 Q (F0 m 99 ls []) := by
  have hx := X.1
  have hb := X.2.1
  intro n
  induction n with
  | zero =>
    intro x6 x7 x9 I J q I1 J1 H locs ls hf
    rw [f11_years_L99] at hf
    cases hf
  | succ n ih =>
    intro x6 x7 x9 I J q I1 J1 H locs ls hf hw hl hexit
    rw [f11_years_L99] at hf
    refine lv_iload hx hb dX11_years_99 (lv_at hl 8 rfl) ?_
    refine lv_iload_n hx hb dX11_years_101 rfl (lv_at hl 2 rfl) ?_
    refine lv_icmp_ge (tgt := 155) hx hb dX11_years_102 (by decide) (fun c_20 => ?_) (fun c_20 => ?_)
    · have hf := yb_pos c_20 hf
      obtain ⟨rfl, rfl, rfl⟩ := yb_inj hf
      exact hexit _ _ _ hw (lv_sub hl [0, 1, 2, 3, 4, 5, 6, 7] rfl)
    · have hf := yb_neg c_20 hf
      refine lv_aload_n hx hb dX11_years_105 rfl (lv_at hl 0 rfl) ?_
      obtain ⟨r_21, I_22, J_23, hq_24, hf⟩ := yb_b3_some hf
      refine x_callv X hK hw (c11_hearByDraw l D cz ev hC hq_24) (cw_mem0 hC) (cw_S0 hC) cpX11.1 vw_X11_339 ⟨Nat.le_of_ble_eq_true rfl, Nat.le_of_ble_eq_true rfl⟩ rfl rfl (Nat.le_of_ble_eq_true rfl) hl.1 ⟨Nat.le_refl _, Nat.le_refl _⟩ dX11_years_106 (fun H locs hw => ?_)
      refine lv_aload_n hx hb dX11_years_109 rfl (lv_at hl 0 rfl) ?_
      refine x_getR X hK hw (cw_mem0 hC) (cw_S0 hC) cpX11 3 (by decide) rfl (cw_R hC 0 3 (by decide) rfl) tw_562 dX11_years_110 ?_
      refine x_getR X hK hw (cw_now hC).1.1 (cw_now hC).1.2 cpX8 1 (by decide) rfl (cw_now hC).2.2.1.1 tw_351 dX11_years_113 ?_
      refine lv_aload_n hx hb dX11_years_116 rfl (lv_at hl 0 rfl) ?_
      refine x_getR X hK hw (cw_mem0 hC) (cw_S0 hC) cpX11 3 (by decide) rfl (cw_R hC 0 3 (by decide) rfl) tw_562 dX11_years_117 ?_
      refine x_getR X hK hw (cw_now hC).1.1 (cw_now hC).1.2 cpX8 0 (by decide) rfl (cw_now hC).2.1.1 tw_346 dX11_years_120 ?_
      obtain ⟨r_25, I_26, J_27, hq_28, hf⟩ := yb_b3_some hf
      refine x_calli X hK hw (c0_pass l D cz ev hC (st_course (cw_now hC)) (st_town (cw_now hC)) hq_28) (st_course (cw_now hC)).1.1 (st_course (cw_now hC)).1.2 cpX0.1 vw_X11_239 ⟨Nat.le_of_ble_eq_true rfl, Nat.le_of_ble_eq_true rfl⟩ rfl rfl (Nat.le_of_ble_eq_true rfl) hl.1 ⟨Nat.le_refl _, Nat.le_refl _⟩ dX11_years_123 (fun H locs hw => ?_)
      refine lv_istore (lv' := [(10, .int r_25), (0, .ref b), (1, .int x1), (2, .int x2), (3, .int x3), (5, .int x5), (6, .int x6), (7, .int x7), (8, .int x8), (9, .int x9)]) hx hb dX11_years_126 hl (by decide) rfl (fun ls hl => ?_)
      refine lv_iload hx hb dX11_years_128 (lv_at hl 7 rfl) ?_
      refine lv_iload hx hb dX11_years_130 (lv_at hl 0 rfl) ?_
      obtain ⟨r_29, I_30, J_31, hq_32, hf⟩ := yb_b3_some hf
      refine x_callsi X hK hw (cJ_bitCount_0f7a4 l D cz ev hq_32) sw_X11_243 ⟨Nat.le_of_ble_eq_true rfl, Nat.le_of_ble_eq_true rfl⟩ rfl rfl (Nat.le_of_ble_eq_true rfl) hl.1 ⟨Nat.le_refl _, Nat.le_refl _⟩ dX11_years_132 (fun H locs hw => ?_)
      refine lv_iadd hx hb dX11_years_135 ?_
      refine lv_topi (fun x7_33 ex7_33 => ?_)
      have hf := yb_let_to ex7_33 hf
      refine lv_istore (lv' := [(7, .int x7_33), (10, .int r_25), (0, .ref b), (1, .int x1), (2, .int x2), (3, .int x3), (5, .int x5), (6, .int x6), (8, .int x8), (9, .int x9)]) hx hb dX11_years_136 hl (by decide) rfl (fun ls hl => ?_)
      refine lv_iload hx hb dX11_years_138 (lv_at hl 7 rfl) ?_
      refine lv_aload_n hx hb dX11_years_140 rfl (lv_at hl 2 rfl) ?_
      refine lv_iload hx hb dX11_years_141 (lv_at hl 1 rfl) ?_
      obtain ⟨r_34, I_35, J_36, hq_37, hf⟩ := yb_b3_some hf
      refine x_calli X hK hw (c11_ruledRightly l D cz ev hC hq_37) (cw_mem0 hC) (cw_S0 hC) cpX11.1 vw_X11_342 ⟨Nat.le_of_ble_eq_true rfl, Nat.le_of_ble_eq_true rfl⟩ rfl rfl (Nat.le_of_ble_eq_true rfl) hl.1 ⟨Nat.le_refl _, Nat.le_refl _⟩ dX11_years_143 (fun H locs hw => ?_)
      refine lv_iadd hx hb dX11_years_146 ?_
      refine lv_topi (fun x6_38 ex6_38 => ?_)
      have hf := yb_let_to ex6_38 hf
      refine lv_istore (lv' := [(6, .int x6_38), (7, .int x7_33), (10, .int r_25), (0, .ref b), (1, .int x1), (2, .int x2), (3, .int x3), (5, .int x5), (8, .int x8), (9, .int x9)]) hx hb dX11_years_147 hl (by decide) rfl (fun ls hl => ?_)
      obtain ⟨x9_39, ex9_39, hf⟩ := yb_let_ex hf
      refine lv_iinc (v := x9_39) (lv' := [(9, .int x9_39), (6, .int x6_38), (7, .int x7_33), (10, .int r_25), (0, .ref b), (1, .int x1), (2, .int x2), (3, .int x3), (5, .int x5), (8, .int x8)]) hx hb dX11_years_149 hl (k := 9) rfl (by rw [ex9_39]; rfl) (by decide) rfl (fun ls hl => ?_)
      refine lv_goto (tgt := 99) hx hb dX11_years_152 (by decide) ?_
      exact ih _ _ _ _ _ _ _ _ _ _ _ hf hw (lv_sub hl [4, 5, 6, 7, 8, 1, 2, 9, 0] rfl) hexit
set_option maxHeartbeats 4000000 in
set_option maxRecDepth 100000 in
theorem w11_years_L90 {p : Program} {l : Launch} {e : Env} {s : State} {m : MethodId} {args : Array Value} {below : List Frame} {meth : Method} {c : Code} {Q : State → Prop} {D : va_G} {cz : Nat → ClassId} {A : Nat → Prop} {ev : Nat × Nat × Nat} {b : Nat} {L : List Nat} {S : ST} {Rf : RT} (hC : CW b L S Rf) (X : CallFix p m c cX11_years 11 s args gw RX11) (hK : KX D cz ev A s) {N : Nat} {x1 : Int32} {x2 : Int32} {x3 : Int32} {x5 : Int32} :
    ∀ (n : Nat) (x6 : Int32) (x7 : Int32) (x8 : Int32) (I : IT) (J : JT) (q : (Int32 × Int32)) (I1 : IT) (J1 : JT) (H : Heap) (locs : List Loc) (ls : Array Slot), f11_years_L90 N b S Rf x1 x2 x3 x5 n x6 x7 x8 I J = some (q, I1, J1) → WX D cz A L S Rf s.heap I J H locs → lv_has ls 11 [(0, .ref b), (1, .int x1), (2, .int x2), (3, .int x3), (5, .int x5), (6, .int x6), (7, .int x7), (8, .int x8)] →
    (∀ (H : Heap) (locs : List Loc) (ls : Array Slot), WX D cz A L S Rf s.heap I1 J1 H locs → lv_has ls 11 [(0, .ref b), (3, .int x3), (5, .int x5), (6, .int q.1), (7, .int q.2)] → W p l e (rmX 6 145) s m args below meth c H locs 0 0 Q (F0 m 175 ls [])) →
    W p l e (rmX 6 145) s m args below meth c H locs 0 0 Q (F0 m 90 ls []) := by
  have hx := X.1
  have hb := X.2.1
  intro n
  induction n with
  | zero =>
    intro x6 x7 x8 I J q I1 J1 H locs ls hf
    rw [f11_years_L90] at hf
    cases hf
  | succ n ih =>
    intro x6 x7 x8 I J q I1 J1 H locs ls hf hw hl hexit
    rw [f11_years_L90] at hf
    refine lv_iload hx hb dX11_years_90 (lv_at hl 7 rfl) ?_
    refine lv_iload_n hx hb dX11_years_92 rfl (lv_at hl 1 rfl) ?_
    refine lv_icmp_ge (tgt := 175) hx hb dX11_years_93 (by decide) (fun c_19 => ?_) (fun c_19 => ?_)
    · have hf := yb_pos c_19 hf
      obtain ⟨rfl, rfl, rfl⟩ := yb_inj hf
      exact hexit _ _ _ hw (lv_sub hl [0, 3, 4, 5, 6] rfl)
    · have hf := yb_neg c_19 hf
      refine lv_iconst (v := (0 : Int32)) hx hb dX11_years_96 (by decide) ?_
      refine lv_istore (lv' := [(9, .int (0 : Int32)), (0, .ref b), (1, .int x1), (2, .int x2), (3, .int x3), (5, .int x5), (6, .int x6), (7, .int x7), (8, .int x8)]) hx hb dX11_years_97 hl (by decide) rfl (fun ls hl => ?_)
      obtain ⟨q_40, I_41, J_42, hq_43, hf⟩ := yb_b3_some hf
      refine w11_years_L99 hC X hK _ _ _ _ _ _ _ _ _ _ _ _ hq_43 hw (lv_sub hl [1, 2, 3, 4, 5, 6, 7, 8, 0] rfl) (fun H locs ls hw hl => ?_)
      refine lv_aload_n hx hb dX11_years_155 rfl (lv_at hl 0 rfl) ?_
      refine x_getR X hK hw (cw_mem0 hC) (cw_S0 hC) cpX11 3 (by decide) rfl (cw_R hC 0 3 (by decide) rfl) tw_562 dX11_years_156 ?_
      refine x_getR X hK hw (cw_now hC).1.1 (cw_now hC).1.2 cpX8 1 (by decide) rfl (cw_now hC).2.2.1.1 tw_351 dX11_years_159 ?_
      refine lv_aload_n hx hb dX11_years_162 rfl (lv_at hl 0 rfl) ?_
      refine x_getR X hK hw (cw_mem0 hC) (cw_S0 hC) cpX11 12 (by decide) rfl (cw_R hC 0 12 (by decide) rfl) tw_571 dX11_years_163 ?_
      obtain ⟨r_44, I_45, J_46, hq_47, hf⟩ := yb_b3_some hf
      refine x_callv X hK hw (c0_copy l D cz ev hC (st_course (cw_now hC)) (cw_kept hC) hq_47) (st_course (cw_now hC)).1.1 (st_course (cw_now hC)).1.2 cpX0.1 vw_X11_336 ⟨Nat.le_of_ble_eq_true rfl, Nat.le_of_ble_eq_true rfl⟩ rfl rfl (Nat.le_of_ble_eq_true rfl) hl.1 ⟨Nat.le_refl _, Nat.le_refl _⟩ dX11_years_166 (fun H locs hw => ?_)
      obtain ⟨x8_48, ex8_48, hf⟩ := yb_let_ex hf
      refine lv_iinc (v := x8_48) (lv' := [(8, .int x8_48), (0, .ref b), (1, .int x1), (2, .int x2), (3, .int x3), (5, .int x5), (6, .int q_40.1), (7, .int q_40.2)]) hx hb dX11_years_169 hl (k := 7) rfl (by rw [ex8_48]; rfl) (by decide) rfl (fun ls hl => ?_)
      refine lv_goto (tgt := 90) hx hb dX11_years_172 (by decide) ?_
      exact ih _ _ _ _ _ _ _ _ _ _ _ hf hw (lv_sub hl [1, 2, 3, 4, 5, 6, 7, 0] rfl) hexit
set_option maxHeartbeats 4000000 in
set_option maxRecDepth 100000 in
theorem c11_years (l : Launch) (D : va_G) (cz : Nat → ClassId) (ev : Nat × Nat × Nat) {b : Nat} {L : List Nat} {S : ST} {Rf : RT} (hC : CW b L S Rf) {N : Nat} {x1 : Int32} {x2 : Int32} {x3 : Int32} {I : IT} {J : JT} {r : Int32} {I1 : IT} {J1 : JT} (hf : f11_years N b S Rf x1 x2 x3 I J = some (r, I1, J1)) : MTi l D cz ev yX11_years cX11_years 11 (some .int) 6 145 [.ref b, .int x1, .int x2, .int x3] L S Rf I J r I1 J1 := by
  unfold f11_years at hf
  refine MTi_of (by decide) (Nat.le_of_ble_eq_true rfl) ?_
  intro p e s m args below meth c Q ls X hK hw hl hfin
  have X : CallFix p m c cX11_years 11 s args gw RX11 := X
  have hx := X.1
  have hb := X.2.1
  have hl : lv_has ls 11 [(0, .ref b), (1, .int x1), (2, .int x2), (3, .int x3)] := hl
  refine lv_aload_n hx hb dX11_years_0 rfl (lv_at hl 0 rfl) ?_
  refine x_getR X hK hw (cw_mem0 hC) (cw_S0 hC) cpX11 3 (by decide) rfl (cw_R hC 0 3 (by decide) rfl) tw_562 dX11_years_1 ?_
  refine x_getR X hK hw (cw_now hC).1.1 (cw_now hC).1.2 cpX8 0 (by decide) rfl (cw_now hC).2.1.1 tw_346 dX11_years_4 ?_
  refine x_getI X hK hw (st_town (cw_now hC)).1.1 (st_town (cw_now hC)).1.2 cpX9 8 (by decide) rfl tw_225 dX11_years_7 ?_
  refine lv_if_eq (tgt := 39) hx hb dX11_years_10 (by decide) (fun c_1 => ?_) (fun c_1 => ?_)
  · have hf := yb_pos c_1 hf
    refine lv_iconst (v := (0 : Int32)) hx hb dX11_years_39 (by decide) ?_
    refine lv_istore (lv' := [(4, .int (0 : Int32)), (0, .ref b), (1, .int x1), (2, .int x2), (3, .int x3)]) hx hb dX11_years_40 hl (by decide) rfl (fun ls hl => ?_)
    refine lv_iload hx hb dX11_years_42 (lv_at hl 0 rfl) ?_
    refine lv_if_eq (tgt := 56) hx hb dX11_years_44 (by decide) (fun _ => ?_) (fun c_2 => absurd (by decide) c_2)
    refine lv_iconst (v := (-1 : Int32)) hx hb dX11_years_56 (by decide) ?_
    exact yb_reti hfin hf hw dX11_years_57
  · have hf := yb_neg c_1 hf
    refine lv_iload_n hx hb dX11_years_13 rfl (lv_at hl 1 rfl) ?_
    refine lv_iconst (v := (1 : Int32)) hx hb dX11_years_14 (by decide) ?_
    refine lv_icmp_lt (tgt := 39) hx hb dX11_years_15 (by decide) (fun c_3 => ?_) (fun c_3 => ?_)
    · have hf := yb_pos c_3 hf
      refine lv_iconst (v := (0 : Int32)) hx hb dX11_years_39 (by decide) ?_
      refine lv_istore (lv' := [(4, .int (0 : Int32)), (0, .ref b), (1, .int x1), (2, .int x2), (3, .int x3)]) hx hb dX11_years_40 hl (by decide) rfl (fun ls hl => ?_)
      refine lv_iload hx hb dX11_years_42 (lv_at hl 0 rfl) ?_
      refine lv_if_eq (tgt := 56) hx hb dX11_years_44 (by decide) (fun _ => ?_) (fun c_4 => absurd (by decide) c_4)
      refine lv_iconst (v := (-1 : Int32)) hx hb dX11_years_56 (by decide) ?_
      exact yb_reti hfin hf hw dX11_years_57
    · have hf := yb_neg c_3 hf
      refine lv_iload_n hx hb dX11_years_18 rfl (lv_at hl 1 rfl) ?_
      refine lv_bipush (v := (10 : Int32)) hx hb dX11_years_19 (by decide) ?_
      refine lv_icmp_gt (tgt := 39) hx hb dX11_years_21 (by decide) (fun c_5 => ?_) (fun c_5 => ?_)
      · have hf := yb_pos c_5 hf
        refine lv_iconst (v := (0 : Int32)) hx hb dX11_years_39 (by decide) ?_
        refine lv_istore (lv' := [(4, .int (0 : Int32)), (0, .ref b), (1, .int x1), (2, .int x2), (3, .int x3)]) hx hb dX11_years_40 hl (by decide) rfl (fun ls hl => ?_)
        refine lv_iload hx hb dX11_years_42 (lv_at hl 0 rfl) ?_
        refine lv_if_eq (tgt := 56) hx hb dX11_years_44 (by decide) (fun _ => ?_) (fun c_6 => absurd (by decide) c_6)
        refine lv_iconst (v := (-1 : Int32)) hx hb dX11_years_56 (by decide) ?_
        exact yb_reti hfin hf hw dX11_years_57
      · have hf := yb_neg c_5 hf
        refine lv_iload_n hx hb dX11_years_24 rfl (lv_at hl 2 rfl) ?_
        refine lv_iconst (v := (1 : Int32)) hx hb dX11_years_25 (by decide) ?_
        refine lv_icmp_lt (tgt := 39) hx hb dX11_years_26 (by decide) (fun c_7 => ?_) (fun c_7 => ?_)
        · have hf := yb_pos c_7 hf
          refine lv_iconst (v := (0 : Int32)) hx hb dX11_years_39 (by decide) ?_
          refine lv_istore (lv' := [(4, .int (0 : Int32)), (0, .ref b), (1, .int x1), (2, .int x2), (3, .int x3)]) hx hb dX11_years_40 hl (by decide) rfl (fun ls hl => ?_)
          refine lv_iload hx hb dX11_years_42 (lv_at hl 0 rfl) ?_
          refine lv_if_eq (tgt := 56) hx hb dX11_years_44 (by decide) (fun _ => ?_) (fun c_8 => absurd (by decide) c_8)
          refine lv_iconst (v := (-1 : Int32)) hx hb dX11_years_56 (by decide) ?_
          exact yb_reti hfin hf hw dX11_years_57
        · have hf := yb_neg c_7 hf
          refine lv_iload_n hx hb dX11_years_29 rfl (lv_at hl 2 rfl) ?_
          refine lv_bipush (v := (99 : Int32)) hx hb dX11_years_30 (by decide) ?_
          refine lv_icmp_gt (tgt := 39) hx hb dX11_years_32 (by decide) (fun c_9 => ?_) (fun c_9 => ?_)
          · have hf := yb_pos c_9 hf
            refine lv_iconst (v := (0 : Int32)) hx hb dX11_years_39 (by decide) ?_
            refine lv_istore (lv' := [(4, .int (0 : Int32)), (0, .ref b), (1, .int x1), (2, .int x2), (3, .int x3)]) hx hb dX11_years_40 hl (by decide) rfl (fun ls hl => ?_)
            refine lv_iload hx hb dX11_years_42 (lv_at hl 0 rfl) ?_
            refine lv_if_eq (tgt := 56) hx hb dX11_years_44 (by decide) (fun _ => ?_) (fun c_10 => absurd (by decide) c_10)
            refine lv_iconst (v := (-1 : Int32)) hx hb dX11_years_56 (by decide) ?_
            exact yb_reti hfin hf hw dX11_years_57
          · have hf := yb_neg c_9 hf
            refine lv_iconst (v := (1 : Int32)) hx hb dX11_years_35 (by decide) ?_
            refine lv_goto (tgt := 40) hx hb dX11_years_36 (by decide) ?_
            refine lv_istore (lv' := [(4, .int (1 : Int32)), (0, .ref b), (1, .int x1), (2, .int x2), (3, .int x3)]) hx hb dX11_years_40 hl (by decide) rfl (fun ls hl => ?_)
            refine lv_iload hx hb dX11_years_42 (lv_at hl 0 rfl) ?_
            refine lv_if_eq (tgt := 56) hx hb dX11_years_44 (by decide) (fun c_11 => absurd c_11 (by decide)) (fun _ => ?_)
            refine lv_iload_n hx hb dX11_years_47 rfl (lv_at hl 4 rfl) ?_
            refine lv_if_lt (tgt := 56) hx hb dX11_years_48 (by decide) (fun c_12 => ?_) (fun c_12 => ?_)
            · have hf := yb_pos c_12 hf
              refine lv_iconst (v := (-1 : Int32)) hx hb dX11_years_56 (by decide) ?_
              exact yb_reti hfin hf hw dX11_years_57
            · have hf := yb_neg c_12 hf
              refine lv_iload_n hx hb dX11_years_51 rfl (lv_at hl 4 rfl) ?_
              refine lv_iconst (v := (1 : Int32)) hx hb dX11_years_52 (by decide) ?_
              refine lv_icmp_le (tgt := 58) hx hb dX11_years_53 (by decide) (fun c_13 => ?_) (fun c_13 => ?_)
              · have hf := yb_pos c_13 hf
                refine lv_aload_n hx hb dX11_years_58 rfl (lv_at hl 1 rfl) ?_
                refine x_getR X hK hw (cw_mem0 hC) (cw_S0 hC) cpX11 3 (by decide) rfl (cw_R hC 0 3 (by decide) rfl) tw_562 dX11_years_59 ?_
                refine x_getI X hK hw (cw_now hC).1.1 (cw_now hC).1.2 cpX8 7 (by decide) rfl tw_361 dX11_years_62 ?_
                refine lv_topi (fun x5_14 ex5_14 => ?_)
                have hf := yb_let_to ex5_14 hf
                refine lv_istore (lv' := [(5, .int x5_14), (4, .int (1 : Int32)), (0, .ref b), (1, .int x1), (2, .int x2), (3, .int x3)]) hx hb dX11_years_65 hl (by decide) rfl (fun ls hl => ?_)
                refine lv_iconst (v := (0 : Int32)) hx hb dX11_years_67 (by decide) ?_
                refine lv_istore (lv' := [(6, .int (0 : Int32)), (5, .int x5_14), (4, .int (1 : Int32)), (0, .ref b), (1, .int x1), (2, .int x2), (3, .int x3)]) hx hb dX11_years_68 hl (by decide) rfl (fun ls hl => ?_)
                refine lv_iconst (v := (0 : Int32)) hx hb dX11_years_70 (by decide) ?_
                refine lv_istore (lv' := [(7, .int (0 : Int32)), (6, .int (0 : Int32)), (5, .int x5_14), (4, .int (1 : Int32)), (0, .ref b), (1, .int x1), (2, .int x2), (3, .int x3)]) hx hb dX11_years_71 hl (by decide) rfl (fun ls hl => ?_)
                refine lv_aload_n hx hb dX11_years_73 rfl (lv_at hl 4 rfl) ?_
                refine x_getR X hK hw (cw_mem0 hC) (cw_S0 hC) cpX11 12 (by decide) rfl (cw_R hC 0 12 (by decide) rfl) tw_571 dX11_years_74 ?_
                refine lv_aload_n hx hb dX11_years_77 rfl (lv_at hl 4 rfl) ?_
                refine x_getR X hK hw (cw_mem0 hC) (cw_S0 hC) cpX11 3 (by decide) rfl (cw_R hC 0 3 (by decide) rfl) tw_562 dX11_years_78 ?_
                refine x_getR X hK hw (cw_now hC).1.1 (cw_now hC).1.2 cpX8 1 (by decide) rfl (cw_now hC).2.2.1.1 tw_351 dX11_years_81 ?_
                obtain ⟨r_15, I_16, J_17, hq_18, hf⟩ := yb_b3_some hf
                refine x_callv X hK hw (c0_copy l D cz ev hC (cw_kept hC) (st_course (cw_now hC)) hq_18) (cw_kept hC).1.1 (cw_kept hC).1.2 cpX0.1 vw_X11_336 ⟨Nat.le_of_ble_eq_true rfl, Nat.le_of_ble_eq_true rfl⟩ rfl rfl (Nat.le_of_ble_eq_true rfl) hl.1 ⟨Nat.le_refl _, Nat.le_refl _⟩ dX11_years_84 (fun H locs hw => ?_)
                refine lv_iconst (v := (0 : Int32)) hx hb dX11_years_87 (by decide) ?_
                refine lv_istore (lv' := [(8, .int (0 : Int32)), (7, .int (0 : Int32)), (6, .int (0 : Int32)), (5, .int x5_14), (4, .int (1 : Int32)), (0, .ref b), (1, .int x1), (2, .int x2), (3, .int x3)]) hx hb dX11_years_88 hl (by decide) rfl (fun ls hl => ?_)
                obtain ⟨q_49, I_50, J_51, hq_52, hf⟩ := yb_b3_some hf
                refine w11_years_L90 hC X hK _ _ _ _ _ _ _ _ _ _ _ _ hq_52 hw (lv_sub hl [5, 6, 7, 8, 3, 2, 1, 0] rfl) (fun H locs ls hw hl => ?_)
                refine lv_aload_n hx hb dX11_years_175 rfl (lv_at hl 0 rfl) ?_
                refine x_getR X hK hw (cw_mem0 hC) (cw_S0 hC) cpX11 3 (by decide) rfl (cw_R hC 0 3 (by decide) rfl) tw_562 dX11_years_176 ?_
                refine lv_iload hx hb dX11_years_179 (lv_at hl 2 rfl) ?_
                refine x_putI X hK hw (cw_now hC).1.1 (cw_now hC).1.2 cpX8 7 (by decide) rfl rfl rfl tw_361 dX11_years_181 (fun H locs hw => ?_)
                obtain ⟨I_53, eI_53, hf⟩ := yb_let_ex hf
                have hw := yb_wI eI_53 hw
                refine lv_iload_n hx hb dX11_years_184 rfl (lv_at hl 1 rfl) ?_
                refine lv_if_ne (tgt := 193) hx hb dX11_years_185 (by decide) (fun c_54 => ?_) (fun c_54 => ?_)
                · have hf := yb_neg c_54 hf
                  refine lv_iload hx hb dX11_years_193 (lv_at hl 4 rfl) ?_
                  exact yb_reti hfin hf hw dX11_years_195
                · have hf := yb_pos c_54 hf
                  refine lv_iload hx hb dX11_years_188 (lv_at hl 3 rfl) ?_
                  refine lv_goto (tgt := 195) hx hb dX11_years_190 (by decide) ?_
                  exact yb_reti hfin hf hw dX11_years_195
              · have hf := yb_neg c_13 hf
                refine lv_iconst (v := (-1 : Int32)) hx hb dX11_years_56 (by decide) ?_
                exact yb_reti hfin hf hw dX11_years_57
set_option maxHeartbeats 4000000 in
set_option maxRecDepth 100000 in
theorem c11_count (l : Launch) (D : va_G) (cz : Nat → ClassId) (ev : Nat × Nat × Nat) {b : Nat} {L : List Nat} {S : ST} {Rf : RT} (hC : CW b L S Rf) {N : Nat} {x1 : Int32} {I : IT} {J : JT} {r : Int32} {I1 : IT} {J1 : JT} (hf : f11_count N b S Rf x1 I J = some (r, I1, J1)) : MTi l D cz ev yX11_count cX11_count 3 (some .int) 1 23 [.ref b, .int x1] L S Rf I J r I1 J1 := by
  unfold f11_count at hf
  refine MTi_of (by decide) (Nat.le_of_ble_eq_true rfl) ?_
  intro p e s m args below meth c Q ls X hK hw hl hfin
  have X : CallFix p m c cX11_count 3 s args gw RX11 := X
  have hx := X.1
  have hb := X.2.1
  have hl : lv_has ls 3 [(0, .ref b), (1, .int x1)] := hl
  refine lv_aload_n hx hb dX11_count_0 rfl (lv_at hl 0 rfl) ?_
  refine x_getR X hK hw (cw_mem0 hC) (cw_S0 hC) cpX11 3 (by decide) rfl (cw_R hC 0 3 (by decide) rfl) tw_562 dX11_count_1 ?_
  refine x_getR X hK hw (cw_now hC).1.1 (cw_now hC).1.2 cpX8 0 (by decide) rfl (cw_now hC).2.1.1 tw_346 dX11_count_4 ?_
  refine lv_astore_n (lv' := [(2, .ref (b + 5)), (0, .ref b), (1, .int x1)]) hx hb dX11_count_7 rfl hl (by decide) rfl (fun ls hl => ?_)
  refine lv_iload_n hx hb dX11_count_8 rfl (lv_at hl 2 rfl) ?_
  by_cases c_1 : x1 = (0 : Int32)
  · have hf := yb_pos c_1 hf
    refine lv_tableIn (off := 75) (tgt := 84) hx hb dX11_count_9 (by rw [c_1]; decide) (by rw [c_1]; decide) (by rw [c_1]; rfl) (by decide) ?_
    refine lv_aload_n hx hb dX11_count_84 rfl (lv_at hl 0 rfl) ?_
    refine x_getI X hK hw (st_town (cw_now hC)).1.1 (st_town (cw_now hC)).1.2 cpX9 9 (by decide) rfl tw_228 dX11_count_85 ?_
    exact yb_reti hfin hf hw dX11_count_88
  have hf := yb_neg c_1 hf
  by_cases c_2 : x1 = (1 : Int32)
  · have hf := yb_pos c_2 hf
    refine lv_tableIn (off := 80) (tgt := 89) hx hb dX11_count_9 (by rw [c_2]; decide) (by rw [c_2]; decide) (by rw [c_2]; rfl) (by decide) ?_
    refine lv_aload_n hx hb dX11_count_89 rfl (lv_at hl 0 rfl) ?_
    refine x_getI X hK hw (st_town (cw_now hC)).1.1 (st_town (cw_now hC)).1.2 cpX9 10 (by decide) rfl tw_232 dX11_count_90 ?_
    exact yb_reti hfin hf hw dX11_count_93
  have hf := yb_neg c_2 hf
  by_cases c_3 : x1 = (2 : Int32)
  · have hf := yb_pos c_3 hf
    refine lv_tableIn (off := 85) (tgt := 94) hx hb dX11_count_9 (by rw [c_3]; decide) (by rw [c_3]; decide) (by rw [c_3]; rfl) (by decide) ?_
    refine lv_aload_n hx hb dX11_count_94 rfl (lv_at hl 0 rfl) ?_
    refine x_getI X hK hw (st_town (cw_now hC)).1.1 (st_town (cw_now hC)).1.2 cpX9 13 (by decide) rfl tw_243 dX11_count_95 ?_
    exact yb_reti hfin hf hw dX11_count_98
  have hf := yb_neg c_3 hf
  by_cases c_4 : x1 = (3 : Int32)
  · have hf := yb_pos c_4 hf
    refine lv_tableIn (off := 90) (tgt := 99) hx hb dX11_count_9 (by rw [c_4]; decide) (by rw [c_4]; decide) (by rw [c_4]; rfl) (by decide) ?_
    refine lv_aload_n hx hb dX11_count_99 rfl (lv_at hl 0 rfl) ?_
    refine x_getI X hK hw (st_town (cw_now hC)).1.1 (st_town (cw_now hC)).1.2 cpX9 14 (by decide) rfl tw_248 dX11_count_100 ?_
    exact yb_reti hfin hf hw dX11_count_103
  have hf := yb_neg c_4 hf
  by_cases c_5 : x1 = (4 : Int32)
  · have hf := yb_pos c_5 hf
    refine lv_tableIn (off := 95) (tgt := 104) hx hb dX11_count_9 (by rw [c_5]; decide) (by rw [c_5]; decide) (by rw [c_5]; rfl) (by decide) ?_
    refine lv_aload_n hx hb dX11_count_104 rfl (lv_at hl 1 rfl) ?_
    refine x_getI X hK hw (cw_mem0 hC) (cw_S0 hC) cpX11 15 (by decide) rfl tw_574 dX11_count_105 ?_
    exact yb_reti hfin hf hw dX11_count_108
  have hf := yb_neg c_5 hf
  by_cases c_6 : x1 = (5 : Int32)
  · have hf := yb_pos c_6 hf
    refine lv_tableIn (off := 100) (tgt := 109) hx hb dX11_count_9 (by rw [c_6]; decide) (by rw [c_6]; decide) (by rw [c_6]; rfl) (by decide) ?_
    refine lv_aload_n hx hb dX11_count_109 rfl (lv_at hl 1 rfl) ?_
    refine x_getR X hK hw (cw_mem0 hC) (cw_S0 hC) cpX11 3 (by decide) rfl (cw_R hC 0 3 (by decide) rfl) tw_562 dX11_count_110 ?_
    refine x_getI X hK hw (cw_now hC).1.1 (cw_now hC).1.2 cpX8 6 (by decide) rfl tw_358 dX11_count_113 ?_
    exact yb_reti hfin hf hw dX11_count_116
  have hf := yb_neg c_6 hf
  by_cases c_7 : x1 = (6 : Int32)
  · have hf := yb_pos c_7 hf
    refine lv_tableIn (off := 108) (tgt := 117) hx hb dX11_count_9 (by rw [c_7]; decide) (by rw [c_7]; decide) (by rw [c_7]; rfl) (by decide) ?_
    refine lv_aload_n hx hb dX11_count_117 rfl (lv_at hl 1 rfl) ?_
    refine x_getR X hK hw (cw_mem0 hC) (cw_S0 hC) cpX11 3 (by decide) rfl (cw_R hC 0 3 (by decide) rfl) tw_562 dX11_count_118 ?_
    refine x_getR X hK hw (cw_now hC).1.1 (cw_now hC).1.2 cpX8 1 (by decide) rfl (cw_now hC).2.2.1.1 tw_351 dX11_count_121 ?_
    refine x_getI X hK hw (st_course (cw_now hC)).1.1 (st_course (cw_now hC)).1.2 cpX0 9 (by decide) rfl tw_320 dX11_count_124 ?_
    exact yb_reti hfin hf hw dX11_count_127
  have hf := yb_neg c_7 hf
  by_cases c_8 : x1 = (7 : Int32)
  · have hf := yb_pos c_8 hf
    refine lv_tableIn (off := 119) (tgt := 128) hx hb dX11_count_9 (by rw [c_8]; decide) (by rw [c_8]; decide) (by rw [c_8]; rfl) (by decide) ?_
    refine lv_aload_n hx hb dX11_count_128 rfl (lv_at hl 1 rfl) ?_
    refine x_getR X hK hw (cw_mem0 hC) (cw_S0 hC) cpX11 3 (by decide) rfl (cw_R hC 0 3 (by decide) rfl) tw_562 dX11_count_129 ?_
    refine x_getR X hK hw (cw_now hC).1.1 (cw_now hC).1.2 cpX8 1 (by decide) rfl (cw_now hC).2.2.1.1 tw_351 dX11_count_132 ?_
    refine lv_aload_n hx hb dX11_count_135 rfl (lv_at hl 0 rfl) ?_
    refine x_getI X hK hw (st_town (cw_now hC)).1.1 (st_town (cw_now hC)).1.2 cpX9 14 (by decide) rfl tw_248 dX11_count_136 ?_
    obtain ⟨r_9, I_10, J_11, hq_12, hf⟩ := yb_b3_some hf
    refine x_calli X hK hw (c0_heardBits l D cz ev hC (st_course (cw_now hC)) hq_12) (st_course (cw_now hC)).1.1 (st_course (cw_now hC)).1.2 cpX0.1 vw_X11_358 ⟨Nat.le_of_ble_eq_true rfl, Nat.le_of_ble_eq_true rfl⟩ rfl rfl (Nat.le_of_ble_eq_true rfl) hl.1 ⟨Nat.le_refl _, Nat.le_refl _⟩ dX11_count_139 (fun H locs hw => ?_)
    exact yb_reti hfin hf hw dX11_count_142
  have hf := yb_neg c_8 hf
  by_cases c_13 : x1 = (8 : Int32)
  · have hf := yb_pos c_13 hf
    refine lv_tableIn (off := 134) (tgt := 143) hx hb dX11_count_9 (by rw [c_13]; decide) (by rw [c_13]; decide) (by rw [c_13]; rfl) (by decide) ?_
    refine lv_aload_n hx hb dX11_count_143 rfl (lv_at hl 1 rfl) ?_
    refine x_getR X hK hw (cw_mem0 hC) (cw_S0 hC) cpX11 3 (by decide) rfl (cw_R hC 0 3 (by decide) rfl) tw_562 dX11_count_144 ?_
    refine x_getR X hK hw (cw_now hC).1.1 (cw_now hC).1.2 cpX8 1 (by decide) rfl (cw_now hC).2.2.1.1 tw_351 dX11_count_147 ?_
    refine lv_aload_n hx hb dX11_count_150 rfl (lv_at hl 0 rfl) ?_
    refine x_getI X hK hw (st_town (cw_now hC)).1.1 (st_town (cw_now hC)).1.2 cpX9 14 (by decide) rfl tw_248 dX11_count_151 ?_
    obtain ⟨r_14, I_15, J_16, hq_17, hf⟩ := yb_b3_some hf
    refine x_calli X hK hw (c0_ruledBits l D cz ev hC (st_course (cw_now hC)) hq_17) (st_course (cw_now hC)).1.1 (st_course (cw_now hC)).1.2 cpX0.1 vw_X11_361 ⟨Nat.le_of_ble_eq_true rfl, Nat.le_of_ble_eq_true rfl⟩ rfl rfl (Nat.le_of_ble_eq_true rfl) hl.1 ⟨Nat.le_refl _, Nat.le_refl _⟩ dX11_count_154 (fun H locs hw => ?_)
    exact yb_reti hfin hf hw dX11_count_157
  have hf := yb_neg c_13 hf
  by_cases c_18 : x1 = (9 : Int32)
  · have hf := yb_pos c_18 hf
    refine lv_tableIn (off := 149) (tgt := 158) hx hb dX11_count_9 (by rw [c_18]; decide) (by rw [c_18]; decide) (by rw [c_18]; rfl) (by decide) ?_
    refine lv_aload_n hx hb dX11_count_158 rfl (lv_at hl 0 rfl) ?_
    refine x_getI X hK hw (st_town (cw_now hC)).1.1 (st_town (cw_now hC)).1.2 cpX9 8 (by decide) rfl tw_225 dX11_count_159 ?_
    refine lv_if_eq (tgt := 172) hx hb dX11_count_162 (by decide) (fun c_19 => ?_) (fun c_19 => ?_)
    · have hf := yb_pos c_19 hf
      refine lv_iconst (v := (-1 : Int32)) hx hb dX11_count_172 (by decide) ?_
      exact yb_reti hfin hf hw dX11_count_173
    · have hf := yb_neg c_19 hf
      refine lv_aload_n hx hb dX11_count_165 rfl (lv_at hl 0 rfl) ?_
      refine x_getI X hK hw (st_town (cw_now hC)).1.1 (st_town (cw_now hC)).1.2 cpX9 11 (by decide) rfl tw_235 dX11_count_166 ?_
      refine lv_goto (tgt := 173) hx hb dX11_count_169 (by decide) ?_
      exact yb_reti hfin hf hw dX11_count_173
  have hf := yb_neg c_18 hf
  by_cases c_20 : x1 = (10 : Int32)
  · have hf := yb_pos c_20 hf
    refine lv_tableIn (off := 165) (tgt := 174) hx hb dX11_count_9 (by rw [c_20]; decide) (by rw [c_20]; decide) (by rw [c_20]; rfl) (by decide) ?_
    refine lv_aload_n hx hb dX11_count_174 rfl (lv_at hl 0 rfl) ?_
    refine x_getI X hK hw (st_town (cw_now hC)).1.1 (st_town (cw_now hC)).1.2 cpX9 8 (by decide) rfl tw_225 dX11_count_175 ?_
    refine lv_if_eq (tgt := 188) hx hb dX11_count_178 (by decide) (fun c_21 => ?_) (fun c_21 => ?_)
    · have hf := yb_pos c_21 hf
      refine lv_iconst (v := (-1 : Int32)) hx hb dX11_count_188 (by decide) ?_
      exact yb_reti hfin hf hw dX11_count_189
    · have hf := yb_neg c_21 hf
      refine lv_aload_n hx hb dX11_count_181 rfl (lv_at hl 0 rfl) ?_
      refine x_getI X hK hw (st_town (cw_now hC)).1.1 (st_town (cw_now hC)).1.2 cpX9 12 (by decide) rfl tw_238 dX11_count_182 ?_
      refine lv_goto (tgt := 189) hx hb dX11_count_185 (by decide) ?_
      exact yb_reti hfin hf hw dX11_count_189
  have hf := yb_neg c_20 hf
  by_cases c_22 : x1 = (11 : Int32)
  · have hf := yb_pos c_22 hf
    refine lv_tableIn (off := 181) (tgt := 190) hx hb dX11_count_9 (by rw [c_22]; decide) (by rw [c_22]; decide) (by rw [c_22]; rfl) (by decide) ?_
    refine lv_aload_n hx hb dX11_count_190 rfl (lv_at hl 1 rfl) ?_
    refine x_getR X hK hw (cw_mem0 hC) (cw_S0 hC) cpX11 3 (by decide) rfl (cw_R hC 0 3 (by decide) rfl) tw_562 dX11_count_191 ?_
    refine x_getI X hK hw (cw_now hC).1.1 (cw_now hC).1.2 cpX8 5 (by decide) rfl tw_356 dX11_count_194 ?_
    exact yb_reti hfin hf hw dX11_count_197
  have hf := yb_neg c_22 hf
  by_cases c_23 : x1 = (12 : Int32)
  · have hf := yb_pos c_23 hf
    refine lv_tableIn (off := 189) (tgt := 198) hx hb dX11_count_9 (by rw [c_23]; decide) (by rw [c_23]; decide) (by rw [c_23]; rfl) (by decide) ?_
    refine lv_aload_n hx hb dX11_count_198 rfl (lv_at hl 1 rfl) ?_
    refine x_getR X hK hw (cw_mem0 hC) (cw_S0 hC) cpX11 5 (by decide) rfl (cw_R hC 0 5 (by decide) rfl) tw_564 dX11_count_199 ?_
    refine x_getI X hK hw (cw_mem hC 28 (by decide)) (cw_S hC 28 rfl) cpX2 2 (by decide) rfl tw_391 dX11_count_202 ?_
    exact yb_reti hfin hf hw dX11_count_205
  have hf := yb_neg c_23 hf
  by_cases c_24 : x1 = (13 : Int32)
  · have hf := yb_pos c_24 hf
    refine lv_tableIn (off := 197) (tgt := 206) hx hb dX11_count_9 (by rw [c_24]; decide) (by rw [c_24]; decide) (by rw [c_24]; rfl) (by decide) ?_
    refine lv_aload_n hx hb dX11_count_206 rfl (lv_at hl 1 rfl) ?_
    refine x_getR X hK hw (cw_mem0 hC) (cw_S0 hC) cpX11 3 (by decide) rfl (cw_R hC 0 3 (by decide) rfl) tw_562 dX11_count_207 ?_
    refine x_getI X hK hw (cw_now hC).1.1 (cw_now hC).1.2 cpX8 7 (by decide) rfl tw_361 dX11_count_210 ?_
    exact yb_reti hfin hf hw dX11_count_213
  have hf := yb_neg c_24 hf
  by_cases c_25 : x1 = (14 : Int32)
  · have hf := yb_pos c_25 hf
    refine lv_tableIn (off := 205) (tgt := 214) hx hb dX11_count_9 (by rw [c_25]; decide) (by rw [c_25]; decide) (by rw [c_25]; rfl) (by decide) ?_
    refine lv_aload_n hx hb dX11_count_214 rfl (lv_at hl 1 rfl) ?_
    refine x_getI X hK hw (cw_mem0 hC) (cw_S0 hC) cpX11 14 (by decide) rfl tw_573 dX11_count_215 ?_
    exact yb_reti hfin hf hw dX11_count_218
  have hf := yb_neg c_25 hf
  refine lv_tableOut (tgt := 219) hx hb dX11_count_9 (by
      rcases Int.lt_or_le (x1).toInt 0 with g1 | g1
      · exact Or.inl g1
      · rcases Int.lt_or_le 14 (x1).toInt with g2 | g2
        · exact Or.inr g2
        · exfalso
          have g3 : (x1).toInt = 0 ∨ (x1).toInt = 1 ∨ (x1).toInt = 2 ∨ (x1).toInt = 3 ∨ (x1).toInt = 4 ∨ (x1).toInt = 5 ∨ (x1).toInt = 6 ∨ (x1).toInt = 7 ∨ (x1).toInt = 8 ∨ (x1).toInt = 9 ∨ (x1).toInt = 10 ∨ (x1).toInt = 11 ∨ (x1).toInt = 12 ∨ (x1).toInt = 13 ∨ (x1).toInt = 14 := by omega
          rcases g3 with g3 | g3 | g3 | g3 | g3 | g3 | g3 | g3 | g3 | g3 | g3 | g3 | g3 | g3 | g3
          · exact c_1 (yb_sw (0 : Int32) g3 rfl)
          · exact c_2 (yb_sw (1 : Int32) g3 rfl)
          · exact c_3 (yb_sw (2 : Int32) g3 rfl)
          · exact c_4 (yb_sw (3 : Int32) g3 rfl)
          · exact c_5 (yb_sw (4 : Int32) g3 rfl)
          · exact c_6 (yb_sw (5 : Int32) g3 rfl)
          · exact c_7 (yb_sw (6 : Int32) g3 rfl)
          · exact c_8 (yb_sw (7 : Int32) g3 rfl)
          · exact c_13 (yb_sw (8 : Int32) g3 rfl)
          · exact c_18 (yb_sw (9 : Int32) g3 rfl)
          · exact c_20 (yb_sw (10 : Int32) g3 rfl)
          · exact c_22 (yb_sw (11 : Int32) g3 rfl)
          · exact c_23 (yb_sw (12 : Int32) g3 rfl)
          · exact c_24 (yb_sw (13 : Int32) g3 rfl)
          · exact c_25 (yb_sw (14 : Int32) g3 rfl)) (by decide) ?_
  refine lv_iconst (v := (-1 : Int32)) hx hb dX11_count_219 (by decide) ?_
  exact yb_reti hfin hf hw dX11_count_220
set_option maxHeartbeats 4000000 in
set_option maxRecDepth 100000 in
theorem c11_back (l : Launch) (D : va_G) (cz : Nat → ClassId) (ev : Nat × Nat × Nat) {b : Nat} {L : List Nat} {S : ST} {Rf : RT} (hC : CW b L S Rf) {x1 : Int32} {I : IT} {J : JT} {r : Int32} {I1 : IT} {J1 : JT} (hf : f11_back b S Rf x1 I J = some (r, I1, J1)) : MTi l D cz ev yX11_back cX11_back 2 (some .int) 3 142 [.ref b, .int x1] L S Rf I J r I1 J1 := by
  unfold f11_back at hf
  refine MTi_of (by decide) (Nat.le_of_ble_eq_true rfl) ?_
  intro p e s m args below meth c Q ls X hK hw hl hfin
  have X : CallFix p m c cX11_back 2 s args gw RX11 := X
  have hx := X.1
  have hb := X.2.1
  have hl : lv_has ls 2 [(0, .ref b), (1, .int x1)] := hl
  refine lv_iload_n hx hb dX11_back_0 rfl (lv_at hl 1 rfl) ?_
  refine lv_if_lt (tgt := 18) hx hb dX11_back_1 (by decide) (fun c_1 => ?_) (fun c_1 => ?_)
  · have hf := yb_pos c_1 hf
    refine lv_iconst (v := (-1 : Int32)) hx hb dX11_back_18 (by decide) ?_
    exact yb_reti hfin hf hw dX11_back_19
  · have hf := yb_neg c_1 hf
    refine lv_iload_n hx hb dX11_back_4 rfl (lv_at hl 1 rfl) ?_
    refine lv_iconst (v := (4 : Int32)) hx hb dX11_back_5 (by decide) ?_
    refine lv_icmp_ge (tgt := 18) hx hb dX11_back_6 (by decide) (fun c_2 => ?_) (fun c_2 => ?_)
    · have hf := yb_pos c_2 hf
      refine lv_iconst (v := (-1 : Int32)) hx hb dX11_back_18 (by decide) ?_
      exact yb_reti hfin hf hw dX11_back_19
    · have hf := yb_neg c_2 hf
      refine lv_aload_n hx hb dX11_back_9 rfl (lv_at hl 0 rfl) ?_
      refine x_getR X hK hw (cw_mem0 hC) (cw_S0 hC) cpX11 4 (by decide) rfl (cw_R hC 0 4 (by decide) rfl) tw_563 dX11_back_10 ?_
      refine lv_iload_n hx hb dX11_back_13 rfl (lv_at hl 1 rfl) ?_
      obtain ⟨hi_3, hf⟩ := yb_ck_some hf
      rcases ho_5 : Rf (b + 27) x1.toNatClampNeg with _ | t_4
      · rw [ho_5] at hf
        have hf := yb_op_n hf
        refine x_aaldN_5 X hK hw (cw_mem hC 27 (by decide)) (cw_S hC 27 rfl) hi_3 rfl ho_5 dX11_back_14 ?_
        refine lv_ifnonnullN hx hb dX11_back_15 ?_
        refine lv_iconst (v := (-1 : Int32)) hx hb dX11_back_18 (by decide) ?_
        exact yb_reti hfin hf hw dX11_back_19
      · rw [ho_5] at hf
        have hf := yb_op_s hf
        refine x_aaldS_5 X hK hw (cw_mem hC 27 (by decide)) (cw_S hC 27 rfl) hi_3 rfl ho_5 dX11_back_14 ?_
        refine lv_ifnonnull (tgt := 20) hx hb dX11_back_15 (by decide) ?_
        refine lv_aload_n hx hb dX11_back_20 rfl (lv_at hl 0 rfl) ?_
        refine x_getR X hK hw (cw_mem0 hC) (cw_S0 hC) cpX11 3 (by decide) rfl (cw_R hC 0 3 (by decide) rfl) tw_562 dX11_back_21 ?_
        refine lv_aload_n hx hb dX11_back_24 rfl (lv_at hl 0 rfl) ?_
        refine x_getR X hK hw (cw_mem0 hC) (cw_S0 hC) cpX11 4 (by decide) rfl (cw_R hC 0 4 (by decide) rfl) tw_563 dX11_back_25 ?_
        refine lv_iload_n hx hb dX11_back_28 rfl (lv_at hl 1 rfl) ?_
        refine x_aaldS_5 X hK hw (cw_mem hC 27 (by decide)) (cw_S hC 27 rfl) hi_3 rfl ho_5 dX11_back_29 ?_
        obtain ⟨r_6, I_7, J_8, hq_9, hf⟩ := yb_b3_some hf
        refine x_callv X hK hw (c8_copy l D cz ev hC (cw_now hC) (cw_image hC ho_5) hq_9) (cw_now hC).1.1 (cw_now hC).1.2 cpX8.1 vw_X11_370 ⟨Nat.le_of_ble_eq_true rfl, Nat.le_of_ble_eq_true rfl⟩ rfl rfl (Nat.le_of_ble_eq_true rfl) hl.1 ⟨Nat.le_refl _, Nat.le_refl _⟩ dX11_back_30 (fun H locs hw => ?_)
        refine lv_aload_n hx hb dX11_back_33 rfl (lv_at hl 0 rfl) ?_
        refine x_getR X hK hw (cw_mem0 hC) (cw_S0 hC) cpX11 5 (by decide) rfl (cw_R hC 0 5 (by decide) rfl) tw_564 dX11_back_34 ?_
        obtain ⟨r_10, I_11, J_12, hq_13, hf⟩ := yb_b3_some hf
        refine x_callv X hK hw (c2_forget l D cz ev hC hq_13) (cw_mem hC 28 (by decide)) (cw_S hC 28 rfl) cpX2.1 vw_X11_131 ⟨Nat.le_of_ble_eq_true rfl, Nat.le_of_ble_eq_true rfl⟩ rfl rfl (Nat.le_of_ble_eq_true rfl) hl.1 ⟨Nat.le_refl _, Nat.le_refl _⟩ dX11_back_37 (fun H locs hw => ?_)
        refine lv_aload_n hx hb dX11_back_40 rfl (lv_at hl 0 rfl) ?_
        refine x_getR X hK hw (cw_mem0 hC) (cw_S0 hC) cpX11 3 (by decide) rfl (cw_R hC 0 3 (by decide) rfl) tw_562 dX11_back_41 ?_
        refine x_getR X hK hw (cw_now hC).1.1 (cw_now hC).1.2 cpX8 1 (by decide) rfl (cw_now hC).2.2.1.1 tw_351 dX11_back_44 ?_
        refine x_getI X hK hw (st_course (cw_now hC)).1.1 (st_course (cw_now hC)).1.2 cpX0 9 (by decide) rfl tw_320 dX11_back_47 ?_
        exact yb_reti hfin hf hw dX11_back_50
set_option maxHeartbeats 4000000 in
set_option maxRecDepth 100000 in
theorem v4_tryJudges_L102 {p : Program} {l : Launch} {e : Env} {s : State} {m : MethodId} {args : Array Value} {below : List Frame} {meth : Method} {c : Code} {Q : State → Prop} {D : va_G} {cz : Nat → ClassId} {A : Nat → Prop} {ev : Nat × Nat × Nat} {k b : Nat} {L : List Nat} {S : ST} {Rf : RT} (hC : CW b L S Rf) {rJ : Int32 → Int32 → Int32 → IT → JT → Option (Unit × IT × JT)} (hrJ : ∀ (y0 y1 y2 : Int32) (I : IT) (J : JT) (r : Unit) (I1 : IT) (J1 : JT), rJ y0 y1 y2 I J = some (r, I1, J1) → MTv l D cz ev yX4_tryJudges cX4_tryJudges 13 (none) (2 + k) (61 + 32 * k) [.ref (b + 33), .int y0, .int y1, .int y2] L S Rf I J r I1 J1) (X : CallFix p m c cX4_tryJudges 13 s args gw RX4) (hK : KX D cz ev A s) {N : Nat} {x1 : Int32} {x2 : Int32} {x3 : Int32} {x4 : Int32} {x7 : Int32} :
    ∀ (n : Nat) (x8 : Int32) (I : IT) (J : JT) (q : (Unit)) (I1 : IT) (J1 : JT) (H : Heap) (locs : List Loc) (ls : Array Slot), g4_tryJudges_L102 N b S Rf rJ x1 x2 x3 x4 x7 n x8 I J = some (q, I1, J1) → WX D cz A L S Rf s.heap I J H locs → lv_has ls 13 [(0, .ref (b + 33)), (1, .int x1), (2, .int x2), (3, .int x3), (4, .int x4), (7, .int x7), (8, .int x8)] →
    (∀ (H : Heap) (locs : List Loc) (ls : Array Slot), WX D cz A L S Rf s.heap I1 J1 H locs → lv_has ls 13 [] → W p l e (rmX (2 + (k + 1)) (61 + 32 * (k + 1))) s m args below meth c H locs 0 0 Q (F0 m 257 ls [])) →
    W p l e (rmX (2 + (k + 1)) (61 + 32 * (k + 1))) s m args below meth c H locs 0 0 Q (F0 m 102 ls []) := by
  have hx := X.1
  have hb := X.2.1
  have hR_rJ : 8 + (13 + 11) + (61 + 32 * k) ≤ 61 + 32 * (k + 1) := by rw [Nat.mul_succ]; omega
  intro n
  induction n with
  | zero =>
    intro x8 I J q I1 J1 H locs ls hf
    rw [g4_tryJudges_L102] at hf
    cases hf
  | succ n ih =>
    intro x8 I J q I1 J1 H locs ls hf hw hl hexit
    rw [g4_tryJudges_L102] at hf
    refine lv_iload hx hb dX4_tryJudges_102 (lv_at hl 6 rfl) ?_
    refine lv_iload hx hb dX4_tryJudges_104 (lv_at hl 5 rfl) ?_
    refine lv_icmp_ge (tgt := 257) hx hb dX4_tryJudges_106 (by decide) (fun c_13 => ?_) (fun c_13 => ?_)
    · have hf := yb_pos c_13 hf
      obtain ⟨rfl, rfl, rfl⟩ := yb_inj hf
      exact hexit _ _ _ hw (lv_sub hl [] rfl)
    · have hf := yb_neg c_13 hf
      refine lv_aload_n hx hb dX4_tryJudges_109 rfl (lv_at hl 0 rfl) ?_
      refine x_getR X hK hw (cw_mem hC 33 (by decide)) (cw_S hC 33 rfl) cpX4 10 (by decide) rfl (cw_R hC 33 10 (by decide) rfl) tw_437 dX4_tryJudges_110 ?_
      refine lv_iload hx hb dX4_tryJudges_113 (lv_at hl 6 rfl) ?_
      obtain ⟨hi_14, hf⟩ := yb_ck_some hf
      refine x_iald X hK hw (cw_mem hC 43 (by decide)) (cw_S hC 43 rfl) hi_14 rfl dX4_tryJudges_115 ?_
      refine lv_topi (fun x9_15 ex9_15 => ?_)
      have hf := yb_let_to ex9_15 hf
      refine lv_istore (lv' := [(9, .int x9_15), (0, .ref (b + 33)), (1, .int x1), (2, .int x2), (3, .int x3), (4, .int x4), (7, .int x7), (8, .int x8)]) hx hb dX4_tryJudges_116 hl (by decide) rfl (fun ls hl => ?_)
      refine lv_aload_n hx hb dX4_tryJudges_118 rfl (lv_at hl 1 rfl) ?_
      refine x_getR X hK hw (cw_mem hC 33 (by decide)) (cw_S hC 33 rfl) cpX4 1 (by decide) rfl (cw_R hC 33 1 (by decide) rfl) tw_428 dX4_tryJudges_119 ?_
      refine lv_iload hx hb dX4_tryJudges_122 (lv_at hl 0 rfl) ?_
      refine lv_iconst (v := (4 : Int32)) hx hb dX4_tryJudges_124 (by decide) ?_
      refine lv_imul hx hb dX4_tryJudges_125 ?_
      refine lv_iload hx hb dX4_tryJudges_126 (lv_at hl 5 rfl) ?_
      refine lv_iadd hx hb dX4_tryJudges_128 ?_
      obtain ⟨hi_16, hf⟩ := yb_ck_some hf
      refine x_iald X hK hw (cw_mem hC 34 (by decide)) (cw_S hC 34 rfl) hi_16 rfl dX4_tryJudges_129 ?_
      refine lv_topi (fun x10_17 ex10_17 => ?_)
      have hf := yb_let_to ex10_17 hf
      refine lv_istore (lv' := [(10, .int x10_17), (9, .int x9_15), (0, .ref (b + 33)), (1, .int x1), (2, .int x2), (3, .int x3), (4, .int x4), (7, .int x7), (8, .int x8)]) hx hb dX4_tryJudges_130 hl (by decide) rfl (fun ls hl => ?_)
      refine lv_iload hx hb dX4_tryJudges_132 (lv_at hl 8 rfl) ?_
      refine lv_bipush (v := (65 : Int32)) hx hb dX4_tryJudges_134 (by decide) ?_
      refine lv_imul hx hb dX4_tryJudges_136 ?_
      refine lv_iload hx hb dX4_tryJudges_137 (lv_at hl 0 rfl) ?_
      refine lv_iadd hx hb dX4_tryJudges_139 ?_
      refine lv_topi (fun x11_18 ex11_18 => ?_)
      have hf := yb_let_to ex11_18 hf
      refine lv_istore (lv' := [(11, .int x11_18), (10, .int x10_17), (9, .int x9_15), (0, .ref (b + 33)), (1, .int x1), (2, .int x2), (3, .int x3), (4, .int x4), (7, .int x7), (8, .int x8)]) hx hb dX4_tryJudges_140 hl (by decide) rfl (fun ls hl => ?_)
      refine lv_iload hx hb dX4_tryJudges_142 (lv_at hl 1 rfl) ?_
      refine lv_if_le (tgt := 251) hx hb dX4_tryJudges_144 (by decide) (fun c_19 => ?_) (fun c_19 => ?_)
      · have hf := yb_pos c_19 hf
        obtain ⟨x8_20, ex8_20, hf⟩ := yb_let_ex hf
        refine lv_iinc (v := x8_20) (lv' := [(8, .int x8_20), (11, .int x11_18), (10, .int x10_17), (9, .int x9_15), (0, .ref (b + 33)), (1, .int x1), (2, .int x2), (3, .int x3), (4, .int x4), (7, .int x7)]) hx hb dX4_tryJudges_251 hl (k := 9) rfl (by rw [ex8_20]; rfl) (by decide) rfl (fun ls hl => ?_)
        refine lv_goto (tgt := 102) hx hb dX4_tryJudges_254 (by decide) ?_
        exact ih _ _ _ _ _ _ _ _ _ hf hw (lv_sub hl [4, 5, 6, 7, 8, 9, 0] rfl) hexit
      · have hf := yb_neg c_19 hf
        refine lv_aload_n hx hb dX4_tryJudges_147 rfl (lv_at hl 3 rfl) ?_
        refine x_getR X hK hw (cw_mem hC 33 (by decide)) (cw_S hC 33 rfl) cpX4 4 (by decide) rfl (cw_R hC 33 4 (by decide) rfl) tw_431 dX4_tryJudges_148 ?_
        refine lv_iload hx hb dX4_tryJudges_151 (lv_at hl 0 rfl) ?_
        obtain ⟨hi_21, hf⟩ := yb_ck_some hf
        refine x_iald X hK hw (cw_mem hC 37 (by decide)) (cw_S hC 37 rfl) hi_21 rfl dX4_tryJudges_153 ?_
        refine lv_if_lt (tgt := 251) hx hb dX4_tryJudges_154 (by decide) (fun c_22 => ?_) (fun c_22 => ?_)
        · have hf := yb_pos c_22 hf
          obtain ⟨x8_23, ex8_23, hf⟩ := yb_let_ex hf
          refine lv_iinc (v := x8_23) (lv' := [(8, .int x8_23), (11, .int x11_18), (10, .int x10_17), (9, .int x9_15), (0, .ref (b + 33)), (1, .int x1), (2, .int x2), (3, .int x3), (4, .int x4), (7, .int x7)]) hx hb dX4_tryJudges_251 hl (k := 9) rfl (by rw [ex8_23]; rfl) (by decide) rfl (fun ls hl => ?_)
          refine lv_goto (tgt := 102) hx hb dX4_tryJudges_254 (by decide) ?_
          exact ih _ _ _ _ _ _ _ _ _ hf hw (lv_sub hl [4, 5, 6, 7, 8, 9, 0] rfl) hexit
        · have hf := yb_neg c_22 hf
          refine lv_aload_n hx hb dX4_tryJudges_157 rfl (lv_at hl 3 rfl) ?_
          refine x_getR X hK hw (cw_mem hC 33 (by decide)) (cw_S hC 33 rfl) cpX4 10 (by decide) rfl (cw_R hC 33 10 (by decide) rfl) tw_437 dX4_tryJudges_158 ?_
          refine lv_iload hx hb dX4_tryJudges_161 (lv_at hl 9 rfl) ?_
          refine lv_iload hx hb dX4_tryJudges_163 (lv_at hl 1 rfl) ?_
          refine x_iast X hK hw (cw_mem hC 43 (by decide)) (cw_S hC 43 rfl) hi_14 rfl dX4_tryJudges_165 (fun H locs hw => ?_)
          obtain ⟨I_24, eI_24, hf⟩ := yb_let_ex hf
          have hw := yb_wI eI_24 hw
          refine lv_aload_n hx hb dX4_tryJudges_166 rfl (lv_at hl 3 rfl) ?_
          refine x_getR X hK hw (cw_mem hC 33 (by decide)) (cw_S hC 33 rfl) cpX4 8 (by decide) rfl (cw_R hC 33 8 (by decide) rfl) tw_435 dX4_tryJudges_167 ?_
          refine lv_iload_n hx hb dX4_tryJudges_170 rfl (lv_at hl 4 rfl) ?_
          refine lv_iload hx hb dX4_tryJudges_171 (lv_at hl 9 rfl) ?_
          obtain ⟨hi_25, hf⟩ := yb_ck_some hf
          refine x_iast X hK hw (cw_mem hC 41 (by decide)) (cw_S hC 41 rfl) hi_25 rfl dX4_tryJudges_173 (fun H locs hw => ?_)
          obtain ⟨I_26, eI_26, hf⟩ := yb_let_ex hf
          have hw := yb_wI eI_26 hw
          refine lv_aload_n hx hb dX4_tryJudges_174 rfl (lv_at hl 3 rfl) ?_
          refine x_getR X hK hw (cw_mem hC 33 (by decide)) (cw_S hC 33 rfl) cpX4 9 (by decide) rfl (cw_R hC 33 9 (by decide) rfl) tw_436 dX4_tryJudges_175 ?_
          refine lv_iload_n hx hb dX4_tryJudges_178 rfl (lv_at hl 4 rfl) ?_
          refine lv_aload_n hx hb dX4_tryJudges_179 rfl (lv_at hl 3 rfl) ?_
          refine x_getR X hK hw (cw_mem hC 33 (by decide)) (cw_S hC 33 rfl) cpX4 4 (by decide) rfl (cw_R hC 33 4 (by decide) rfl) tw_431 dX4_tryJudges_180 ?_
          refine lv_iload hx hb dX4_tryJudges_183 (lv_at hl 0 rfl) ?_
          refine x_iald X hK hw (cw_mem hC 37 (by decide)) (cw_S hC 37 rfl) hi_21 rfl dX4_tryJudges_185 ?_
          refine x_iast X hK hw (cw_mem hC 42 (by decide)) (cw_S hC 42 rfl) hi_25 rfl dX4_tryJudges_186 (fun H locs hw => ?_)
          obtain ⟨I_27, eI_27, hf⟩ := yb_let_ex hf
          have hw := yb_wI eI_27 hw
          refine lv_aload_n hx hb dX4_tryJudges_187 rfl (lv_at hl 3 rfl) ?_
          refine x_getR X hK hw (cw_mem hC 33 (by decide)) (cw_S hC 33 rfl) cpX4 4 (by decide) rfl (cw_R hC 33 4 (by decide) rfl) tw_431 dX4_tryJudges_188 ?_
          refine lv_iload hx hb dX4_tryJudges_191 (lv_at hl 0 rfl) ?_
          refine x_iald X hK hw (cw_mem hC 37 (by decide)) (cw_S hC 37 rfl) hi_21 rfl dX4_tryJudges_193 ?_
          refine lv_aload_n hx hb dX4_tryJudges_194 rfl (lv_at hl 3 rfl) ?_
          refine x_getR X hK hw (cw_mem hC 33 (by decide)) (cw_S hC 33 rfl) cpX4 0 (by decide) rfl (cw_R hC 33 0 (by decide) rfl) tw_427 dX4_tryJudges_195 ?_
          refine x_getR X hK hw (cw_mem hC 30 (by decide)) (cw_S hC 30 rfl) cpX1 0 (by decide) rfl (cw_R hC 30 0 (by decide) rfl) tw_407 dX4_tryJudges_198 ?_
          refine x_getR X hK hw (cw_now hC).1.1 (cw_now hC).1.2 cpX8 0 (by decide) rfl (cw_now hC).2.1.1 tw_345 dX4_tryJudges_201 ?_
          refine x_getR X hK hw (st_town (cw_now hC)).1.1 (st_town (cw_now hC)).1.2 cpX9 6 (by decide) rfl (ta_R (st_town (cw_now hC)) 6 (by decide)) tw_216 dX4_tryJudges_204 ?_
          refine lv_aload_n hx hb dX4_tryJudges_207 rfl (lv_at hl 3 rfl) ?_
          refine x_getR X hK hw (cw_mem hC 33 (by decide)) (cw_S hC 33 rfl) cpX4 6 (by decide) rfl (cw_R hC 33 6 (by decide) rfl) tw_433 dX4_tryJudges_208 ?_
          refine lv_iload hx hb dX4_tryJudges_211 (lv_at hl 7 rfl) ?_
          obtain ⟨hi_28, hf⟩ := yb_ck_some hf
          refine x_iald X hK hw (cw_mem hC 39 (by decide)) (cw_S hC 39 rfl) hi_28 rfl dX4_tryJudges_213 ?_
          obtain ⟨hi_29, hf⟩ := yb_ck_some hf
          refine x_iald X hK hw (ta_mem (st_town (cw_now hC)) 6 (by decide)) (ta_S (st_town (cw_now hC)) 6 rfl) hi_29 rfl dX4_tryJudges_214 ?_
          refine lv_iadd hx hb dX4_tryJudges_215 ?_
          refine lv_iconst (v := (1 : Int32)) hx hb dX4_tryJudges_216 (by decide) ?_
          refine lv_isub hx hb dX4_tryJudges_217 ?_
          refine lv_topi (fun x12_30 ex12_30 => ?_)
          have hf := yb_let_to ex12_30 hf
          refine lv_istore (lv' := [(12, .int x12_30), (11, .int x11_18), (10, .int x10_17), (9, .int x9_15), (0, .ref (b + 33)), (1, .int x1), (2, .int x2), (3, .int x3), (4, .int x4), (7, .int x7), (8, .int x8)]) hx hb dX4_tryJudges_218 hl (by decide) rfl (fun ls hl => ?_)
          refine lv_aload_n hx hb dX4_tryJudges_220 rfl (lv_at hl 4 rfl) ?_
          refine lv_iload_n hx hb dX4_tryJudges_221 rfl (lv_at hl 5 rfl) ?_
          refine lv_iconst (v := (1 : Int32)) hx hb dX4_tryJudges_222 (by decide) ?_
          refine lv_iadd hx hb dX4_tryJudges_223 ?_
          refine lv_iload_n hx hb dX4_tryJudges_224 rfl (lv_at hl 6 rfl) ?_
          refine lv_aload_n hx hb dX4_tryJudges_225 rfl (lv_at hl 4 rfl) ?_
          refine x_getR X hK hw (cw_mem hC 33 (by decide)) (cw_S hC 33 rfl) cpX4 5 (by decide) rfl (cw_R hC 33 5 (by decide) rfl) tw_432 dX4_tryJudges_226 ?_
          refine lv_iload hx hb dX4_tryJudges_229 (lv_at hl 1 rfl) ?_
          refine x_iald X hK hw (cw_mem hC 38 (by decide)) (cw_S hC 38 rfl) hi_21 rfl dX4_tryJudges_231 ?_
          refine lv_iadd hx hb dX4_tryJudges_232 ?_
          refine lv_iload_n hx hb dX4_tryJudges_233 rfl (lv_at hl 7 rfl) ?_
          refine lv_iload hx hb dX4_tryJudges_234 (lv_at hl 0 rfl) ?_
          refine va_mmax hx hb (X.2.2.1.trans hl.1.symm) X.2.2.2.1 (X.2.2.2.2 _ tw_1095) (X.2.2.2.2 _ tw_1096) (X.2.2.2.2 _ tw_131) (X.2.2.2.2 _ tw_1097) (Nat.le_trans (m := 2) (Nat.le_of_ble_eq_true rfl) (Nat.le_add_right _ _)) (Nat.le_trans (m := 61) (Nat.le_of_ble_eq_true rfl) (Nat.le_add_right _ _)) (Nat.le_refl _) (Nat.le_refl _) dX4_tryJudges_236 ?_
          obtain ⟨r_31, I_32, J_33, hq_34, hf⟩ := yb_b3_some hf
          refine x_callv X hK hw (hrJ _ _ _ _ _ _ _ _ hq_34) (cw_mem hC 33 (by decide)) (cw_S hC 33 rfl) cpX4.1 vw_X4_158 ⟨Nat.le_refl _, hR_rJ⟩ rfl rfl (Nat.le_of_ble_eq_true rfl) hl.1 ⟨Nat.le_refl _, Nat.le_refl _⟩ dX4_tryJudges_239 (fun H locs hw => ?_)
          refine lv_aload_n hx hb dX4_tryJudges_242 rfl (lv_at hl 4 rfl) ?_
          refine x_getR X hK hw (cw_mem hC 33 (by decide)) (cw_S hC 33 rfl) cpX4 10 (by decide) rfl (cw_R hC 33 10 (by decide) rfl) tw_437 dX4_tryJudges_243 ?_
          refine lv_iload hx hb dX4_tryJudges_246 (lv_at hl 10 rfl) ?_
          refine lv_iload hx hb dX4_tryJudges_248 (lv_at hl 3 rfl) ?_
          refine x_iast X hK hw (cw_mem hC 43 (by decide)) (cw_S hC 43 rfl) hi_14 rfl dX4_tryJudges_250 (fun H locs hw => ?_)
          obtain ⟨I_35, eI_35, hf⟩ := yb_let_ex hf
          have hw := yb_wI eI_35 hw
          obtain ⟨x8_36, ex8_36, hf⟩ := yb_let_ex hf
          refine lv_iinc (v := x8_36) (lv' := [(8, .int x8_36), (12, .int x12_30), (11, .int x11_18), (10, .int x10_17), (9, .int x9_15), (0, .ref (b + 33)), (1, .int x1), (2, .int x2), (3, .int x3), (4, .int x4), (7, .int x7)]) hx hb dX4_tryJudges_251 hl (k := 10) rfl (by rw [ex8_36]; rfl) (by decide) rfl (fun ls hl => ?_)
          refine lv_goto (tgt := 102) hx hb dX4_tryJudges_254 (by decide) ?_
          exact ih _ _ _ _ _ _ _ _ _ hf hw (lv_sub hl [5, 6, 7, 8, 9, 10, 0] rfl) hexit
set_option maxHeartbeats 4000000 in
set_option maxRecDepth 100000 in
theorem d4_tryJudges (l : Launch) (D : va_G) (cz : Nat → ClassId) (ev : Nat × Nat × Nat) {k b : Nat} {L : List Nat} {S : ST} {Rf : RT} (hC : CW b L S Rf) {rJ : Int32 → Int32 → Int32 → IT → JT → Option (Unit × IT × JT)} (hrJ : ∀ (y0 y1 y2 : Int32) (I : IT) (J : JT) (r : Unit) (I1 : IT) (J1 : JT), rJ y0 y1 y2 I J = some (r, I1, J1) → MTv l D cz ev yX4_tryJudges cX4_tryJudges 13 (none) (2 + k) (61 + 32 * k) [.ref (b + 33), .int y0, .int y1, .int y2] L S Rf I J r I1 J1) {N : Nat} {x1 : Int32} {x2 : Int32} {x3 : Int32} {I : IT} {J : JT} {r : Unit} {I1 : IT} {J1 : JT} (hf : g4_tryJudges N b S Rf rJ x1 x2 x3 I J = some (r, I1, J1)) : MTv l D cz ev yX4_tryJudges cX4_tryJudges 13 (none) (2 + (k + 1)) (61 + 32 * (k + 1)) [.ref (b + 33), .int x1, .int x2, .int x3] L S Rf I J r I1 J1 := by
  unfold g4_tryJudges at hf
  refine MTv_of (by decide) (Nat.le_of_ble_eq_true rfl) ?_
  intro p e s m args below meth c Q ls X hK hw hl hfin
  have X : CallFix p m c cX4_tryJudges 13 s args gw RX4 := X
  have hx := X.1
  have hb := X.2.1
  have hR_rJ : 8 + (13 + 11) + (61 + 32 * k) ≤ 61 + 32 * (k + 1) := by rw [Nat.mul_succ]; omega
  have hl : lv_has ls 13 [(0, .ref (b + 33)), (1, .int x1), (2, .int x2), (3, .int x3)] := hl
  refine lv_iload_n hx hb dX4_tryJudges_0 rfl (lv_at hl 1 rfl) ?_
  refine lv_aload_n hx hb dX4_tryJudges_1 rfl (lv_at hl 0 rfl) ?_
  refine x_getI X hK hw (cw_mem hC 33 (by decide)) (cw_S hC 33 rfl) cpX4 14 (by decide) rfl tw_441 dX4_tryJudges_2 ?_
  refine lv_icmp_ge (tgt := 13) hx hb dX4_tryJudges_5 (by decide) (fun c_1 => ?_) (fun c_1 => ?_)
  · have hf := yb_pos c_1 hf
    refine lv_aload_n hx hb dX4_tryJudges_13 rfl (lv_at hl 0 rfl) ?_
    refine lv_iload_n hx hb dX4_tryJudges_14 rfl (lv_at hl 2 rfl) ?_
    refine lv_iload_n hx hb dX4_tryJudges_15 rfl (lv_at hl 3 rfl) ?_
    obtain ⟨r_2, I_3, J_4, hq_5, hf⟩ := yb_b3_some hf
    refine x_callv X hK hw (c4_keepIfBetter l D cz ev hC hq_5) (cw_mem hC 33 (by decide)) (cw_S hC 33 rfl) cpX4.1 vw_X4_162 ⟨Nat.le_trans (m := 2) (Nat.le_of_ble_eq_true rfl) (Nat.le_add_right _ _), Nat.le_trans (m := 61) (Nat.le_of_ble_eq_true rfl) (Nat.le_add_right _ _)⟩ rfl rfl (Nat.le_of_ble_eq_true rfl) hl.1 ⟨Nat.le_refl _, Nat.le_refl _⟩ dX4_tryJudges_16 (fun H locs hw => ?_)
    exact yb_retv hfin hf hw dX4_tryJudges_19
  · have hf := yb_neg c_1 hf
    refine lv_iload_n hx hb dX4_tryJudges_8 rfl (lv_at hl 1 rfl) ?_
    refine lv_iconst (v := (4 : Int32)) hx hb dX4_tryJudges_9 (by decide) ?_
    refine lv_icmp_lt (tgt := 20) hx hb dX4_tryJudges_10 (by decide) (fun c_6 => ?_) (fun c_6 => ?_)
    · have hf := yb_pos c_6 hf
      refine lv_aload_n hx hb dX4_tryJudges_20 rfl (lv_at hl 0 rfl) ?_
      refine x_getR X hK hw (cw_mem hC 33 (by decide)) (cw_S hC 33 rfl) cpX4 7 (by decide) rfl (cw_R hC 33 7 (by decide) rfl) tw_434 dX4_tryJudges_21 ?_
      refine lv_iload_n hx hb dX4_tryJudges_24 rfl (lv_at hl 1 rfl) ?_
      obtain ⟨hi_7, hf⟩ := yb_ck_some hf
      refine x_iald X hK hw (cw_mem hC 40 (by decide)) (cw_S hC 40 rfl) hi_7 rfl dX4_tryJudges_25 ?_
      refine lv_topi (fun x4_8 ex4_8 => ?_)
      have hf := yb_let_to ex4_8 hf
      refine lv_istore (lv' := [(4, .int x4_8), (0, .ref (b + 33)), (1, .int x1), (2, .int x2), (3, .int x3)]) hx hb dX4_tryJudges_26 hl (by decide) rfl (fun ls hl => ?_)
      refine lv_iload_n hx hb dX4_tryJudges_28 rfl (lv_at hl 2 rfl) ?_
      refine lv_if_le (tgt := 49) hx hb dX4_tryJudges_29 (by decide) (fun c_9 => ?_) (fun c_9 => ?_)
      · have hf := yb_pos c_9 hf
        refine lv_iconst (v := (0 : Int32)) hx hb dX4_tryJudges_49 (by decide) ?_
        refine lv_istore (lv' := [(5, .int (0 : Int32)), (4, .int x4_8), (0, .ref (b + 33)), (1, .int x1), (2, .int x2), (3, .int x3)]) hx hb dX4_tryJudges_50 hl (by decide) rfl (fun ls hl => ?_)
        refine lv_iload hx hb dX4_tryJudges_52 (lv_at hl 0 rfl) ?_
        refine lv_if_eq (tgt := 68) hx hb dX4_tryJudges_54 (by decide) (fun _ => ?_) (fun c_10 => absurd (by decide) c_10)
        refine lv_iconst (v := (0 : Int32)) hx hb dX4_tryJudges_68 (by decide) ?_
        refine lv_istore (lv' := [(6, .int (0 : Int32)), (5, .int (0 : Int32)), (4, .int x4_8), (0, .ref (b + 33)), (1, .int x1), (2, .int x2), (3, .int x3)]) hx hb dX4_tryJudges_69 hl (by decide) rfl (fun ls hl => ?_)
        refine lv_iload hx hb dX4_tryJudges_71 (lv_at hl 1 rfl) ?_
        refine lv_if_eq (tgt := 83) hx hb dX4_tryJudges_73 (by decide) (fun _ => ?_) (fun c_11 => absurd (by decide) c_11)
        refine lv_aload_n hx hb dX4_tryJudges_83 rfl (lv_at hl 3 rfl) ?_
        refine x_getR X hK hw (cw_mem hC 33 (by decide)) (cw_S hC 33 rfl) cpX4 0 (by decide) rfl (cw_R hC 33 0 (by decide) rfl) tw_427 dX4_tryJudges_84 ?_
        refine x_getR X hK hw (cw_mem hC 30 (by decide)) (cw_S hC 30 rfl) cpX1 0 (by decide) rfl (cw_R hC 30 0 (by decide) rfl) tw_407 dX4_tryJudges_87 ?_
        refine x_getR X hK hw (cw_now hC).1.1 (cw_now hC).1.2 cpX8 0 (by decide) rfl (cw_now hC).2.1.1 tw_345 dX4_tryJudges_90 ?_
        refine x_getI X hK hw (st_town (cw_now hC)).1.1 (st_town (cw_now hC)).1.2 cpX9 13 (by decide) rfl tw_241 dX4_tryJudges_93 ?_
        refine lv_topi (fun x7_12 ex7_12 => ?_)
        have hf := yb_let_to ex7_12 hf
        refine lv_istore (lv' := [(7, .int x7_12), (6, .int (0 : Int32)), (5, .int (0 : Int32)), (4, .int x4_8), (0, .ref (b + 33)), (1, .int x1), (2, .int x2), (3, .int x3)]) hx hb dX4_tryJudges_96 hl (by decide) rfl (fun ls hl => ?_)
        refine lv_iload hx hb dX4_tryJudges_98 (lv_at hl 1 rfl) ?_
        refine lv_istore (lv' := [(8, .int (0 : Int32)), (7, .int x7_12), (6, .int (0 : Int32)), (5, .int (0 : Int32)), (4, .int x4_8), (0, .ref (b + 33)), (1, .int x1), (2, .int x2), (3, .int x3)]) hx hb dX4_tryJudges_100 hl (by decide) rfl (fun ls hl => ?_)
        obtain ⟨q_37, I_38, J_39, hq_40, hf⟩ := yb_b3_some hf
        refine v4_tryJudges_L102 hC hrJ X hK _ _ _ _ _ _ _ _ _ _ hq_40 hw (lv_sub hl [5, 6, 7, 8, 4, 1, 0] rfl) (fun H locs ls hw hl => ?_)
        exact yb_retv hfin hf hw dX4_tryJudges_257
      · have hf := yb_neg c_9 hf
        refine lv_aload_n hx hb dX4_tryJudges_32 rfl (lv_at hl 1 rfl) ?_
        refine x_getR X hK hw (cw_mem hC 33 (by decide)) (cw_S hC 33 rfl) cpX4 7 (by decide) rfl (cw_R hC 33 7 (by decide) rfl) tw_434 dX4_tryJudges_33 ?_
        refine lv_iload_n hx hb dX4_tryJudges_36 rfl (lv_at hl 2 rfl) ?_
        refine lv_iconst (v := (1 : Int32)) hx hb dX4_tryJudges_37 (by decide) ?_
        refine lv_isub hx hb dX4_tryJudges_38 ?_
        obtain ⟨hi_41, hf⟩ := yb_ck_some hf
        refine x_iald X hK hw (cw_mem hC 40 (by decide)) (cw_S hC 40 rfl) hi_41 rfl dX4_tryJudges_39 ?_
        refine lv_iload hx hb dX4_tryJudges_40 (lv_at hl 0 rfl) ?_
        refine lv_icmp_le (tgt := 49) hx hb dX4_tryJudges_42 (by decide) (fun c_42 => ?_) (fun c_42 => ?_)
        · have hf := yb_pos c_42 hf
          refine lv_iconst (v := (0 : Int32)) hx hb dX4_tryJudges_49 (by decide) ?_
          refine lv_istore (lv' := [(5, .int (0 : Int32)), (4, .int x4_8), (0, .ref (b + 33)), (1, .int x1), (2, .int x2), (3, .int x3)]) hx hb dX4_tryJudges_50 hl (by decide) rfl (fun ls hl => ?_)
          refine lv_iload hx hb dX4_tryJudges_52 (lv_at hl 0 rfl) ?_
          refine lv_if_eq (tgt := 68) hx hb dX4_tryJudges_54 (by decide) (fun _ => ?_) (fun c_43 => absurd (by decide) c_43)
          refine lv_iconst (v := (0 : Int32)) hx hb dX4_tryJudges_68 (by decide) ?_
          refine lv_istore (lv' := [(6, .int (0 : Int32)), (5, .int (0 : Int32)), (4, .int x4_8), (0, .ref (b + 33)), (1, .int x1), (2, .int x2), (3, .int x3)]) hx hb dX4_tryJudges_69 hl (by decide) rfl (fun ls hl => ?_)
          refine lv_iload hx hb dX4_tryJudges_71 (lv_at hl 1 rfl) ?_
          refine lv_if_eq (tgt := 83) hx hb dX4_tryJudges_73 (by decide) (fun _ => ?_) (fun c_44 => absurd (by decide) c_44)
          refine lv_aload_n hx hb dX4_tryJudges_83 rfl (lv_at hl 3 rfl) ?_
          refine x_getR X hK hw (cw_mem hC 33 (by decide)) (cw_S hC 33 rfl) cpX4 0 (by decide) rfl (cw_R hC 33 0 (by decide) rfl) tw_427 dX4_tryJudges_84 ?_
          refine x_getR X hK hw (cw_mem hC 30 (by decide)) (cw_S hC 30 rfl) cpX1 0 (by decide) rfl (cw_R hC 30 0 (by decide) rfl) tw_407 dX4_tryJudges_87 ?_
          refine x_getR X hK hw (cw_now hC).1.1 (cw_now hC).1.2 cpX8 0 (by decide) rfl (cw_now hC).2.1.1 tw_345 dX4_tryJudges_90 ?_
          refine x_getI X hK hw (st_town (cw_now hC)).1.1 (st_town (cw_now hC)).1.2 cpX9 13 (by decide) rfl tw_241 dX4_tryJudges_93 ?_
          refine lv_topi (fun x7_45 ex7_45 => ?_)
          have hf := yb_let_to ex7_45 hf
          refine lv_istore (lv' := [(7, .int x7_45), (6, .int (0 : Int32)), (5, .int (0 : Int32)), (4, .int x4_8), (0, .ref (b + 33)), (1, .int x1), (2, .int x2), (3, .int x3)]) hx hb dX4_tryJudges_96 hl (by decide) rfl (fun ls hl => ?_)
          refine lv_iload hx hb dX4_tryJudges_98 (lv_at hl 1 rfl) ?_
          refine lv_istore (lv' := [(8, .int (0 : Int32)), (7, .int x7_45), (6, .int (0 : Int32)), (5, .int (0 : Int32)), (4, .int x4_8), (0, .ref (b + 33)), (1, .int x1), (2, .int x2), (3, .int x3)]) hx hb dX4_tryJudges_100 hl (by decide) rfl (fun ls hl => ?_)
          obtain ⟨q_46, I_47, J_48, hq_49, hf⟩ := yb_b3_some hf
          refine v4_tryJudges_L102 hC hrJ X hK _ _ _ _ _ _ _ _ _ _ hq_49 hw (lv_sub hl [5, 6, 7, 8, 4, 1, 0] rfl) (fun H locs ls hw hl => ?_)
          exact yb_retv hfin hf hw dX4_tryJudges_257
        · have hf := yb_neg c_42 hf
          refine lv_iconst (v := (1 : Int32)) hx hb dX4_tryJudges_45 (by decide) ?_
          refine lv_goto (tgt := 50) hx hb dX4_tryJudges_46 (by decide) ?_
          refine lv_istore (lv' := [(5, .int (1 : Int32)), (4, .int x4_8), (0, .ref (b + 33)), (1, .int x1), (2, .int x2), (3, .int x3)]) hx hb dX4_tryJudges_50 hl (by decide) rfl (fun ls hl => ?_)
          refine lv_iload hx hb dX4_tryJudges_52 (lv_at hl 0 rfl) ?_
          refine lv_if_eq (tgt := 68) hx hb dX4_tryJudges_54 (by decide) (fun c_50 => absurd c_50 (by decide)) (fun _ => ?_)
          refine lv_aload_n hx hb dX4_tryJudges_57 rfl (lv_at hl 2 rfl) ?_
          refine x_getR X hK hw (cw_mem hC 33 (by decide)) (cw_S hC 33 rfl) cpX4 8 (by decide) rfl (cw_R hC 33 8 (by decide) rfl) tw_435 dX4_tryJudges_58 ?_
          refine lv_iload_n hx hb dX4_tryJudges_61 rfl (lv_at hl 3 rfl) ?_
          refine lv_iconst (v := (1 : Int32)) hx hb dX4_tryJudges_62 (by decide) ?_
          refine lv_isub hx hb dX4_tryJudges_63 ?_
          refine x_iald X hK hw (cw_mem hC 41 (by decide)) (cw_S hC 41 rfl) hi_41 rfl dX4_tryJudges_64 ?_
          refine lv_goto (tgt := 69) hx hb dX4_tryJudges_65 (by decide) ?_
          refine lv_topi (fun x6_51 ex6_51 => ?_)
          have hf := yb_let_to ex6_51 hf
          refine lv_istore (lv' := [(6, .int x6_51), (5, .int (1 : Int32)), (4, .int x4_8), (0, .ref (b + 33)), (1, .int x1), (2, .int x2), (3, .int x3)]) hx hb dX4_tryJudges_69 hl (by decide) rfl (fun ls hl => ?_)
          refine lv_iload hx hb dX4_tryJudges_71 (lv_at hl 1 rfl) ?_
          refine lv_if_eq (tgt := 83) hx hb dX4_tryJudges_73 (by decide) (fun c_52 => absurd c_52 (by decide)) (fun _ => ?_)
          refine lv_iload hx hb dX4_tryJudges_76 (lv_at hl 0 rfl) ?_
          refine lv_iconst (v := (1 : Int32)) hx hb dX4_tryJudges_78 (by decide) ?_
          refine lv_iadd hx hb dX4_tryJudges_79 ?_
          refine lv_goto (tgt := 96) hx hb dX4_tryJudges_80 (by decide) ?_
          refine lv_topi (fun x7_53 ex7_53 => ?_)
          have hf := yb_let_to ex7_53 hf
          refine lv_istore (lv' := [(7, .int x7_53), (6, .int x6_51), (5, .int (1 : Int32)), (4, .int x4_8), (0, .ref (b + 33)), (1, .int x1), (2, .int x2), (3, .int x3)]) hx hb dX4_tryJudges_96 hl (by decide) rfl (fun ls hl => ?_)
          refine lv_iload hx hb dX4_tryJudges_98 (lv_at hl 1 rfl) ?_
          refine lv_istore (lv' := [(8, .int x6_51), (7, .int x7_53), (6, .int x6_51), (5, .int (1 : Int32)), (4, .int x4_8), (0, .ref (b + 33)), (1, .int x1), (2, .int x2), (3, .int x3)]) hx hb dX4_tryJudges_100 hl (by decide) rfl (fun ls hl => ?_)
          obtain ⟨q_54, I_55, J_56, hq_57, hf⟩ := yb_b3_some hf
          refine v4_tryJudges_L102 hC hrJ X hK _ _ _ _ _ _ _ _ _ _ hq_57 hw (lv_sub hl [5, 6, 7, 8, 4, 1, 0] rfl) (fun H locs ls hw hl => ?_)
          exact yb_retv hfin hf hw dX4_tryJudges_257
    · have hf := yb_neg c_6 hf
      refine lv_aload_n hx hb dX4_tryJudges_13 rfl (lv_at hl 0 rfl) ?_
      refine lv_iload_n hx hb dX4_tryJudges_14 rfl (lv_at hl 2 rfl) ?_
      refine lv_iload_n hx hb dX4_tryJudges_15 rfl (lv_at hl 3 rfl) ?_
      obtain ⟨r_58, I_59, J_60, hq_61, hf⟩ := yb_b3_some hf
      refine x_callv X hK hw (c4_keepIfBetter l D cz ev hC hq_61) (cw_mem hC 33 (by decide)) (cw_S hC 33 rfl) cpX4.1 vw_X4_162 ⟨Nat.le_trans (m := 2) (Nat.le_of_ble_eq_true rfl) (Nat.le_add_right _ _), Nat.le_trans (m := 61) (Nat.le_of_ble_eq_true rfl) (Nat.le_add_right _ _)⟩ rfl rfl (Nat.le_of_ble_eq_true rfl) hl.1 ⟨Nat.le_refl _, Nat.le_refl _⟩ dX4_tryJudges_16 (fun H locs hw => ?_)
      exact yb_retv hfin hf hw dX4_tryJudges_19
theorem c4_rec_tryJudges (l : Launch) (D : va_G) (cz : Nat → ClassId) (ev : Nat × Nat × Nat) {b : Nat} {L : List Nat} {S : ST} {Rf : RT} (hC : CW b L S Rf) {N : Nat} : ∀ k : Nat, (∀ (x1 x2 x3 : Int32) (I : IT) (J : JT) (r : Unit) (I1 : IT) (J1 : JT), f4_rec_tryJudges N b S Rf k 0 x1 x2 x3 I J = some (r, I1, J1) → MTv l D cz ev yX4_tryJudges cX4_tryJudges 13 (none) (2 + k) (61 + 32 * k) [.ref (b + 33), .int x1, .int x2, .int x3] L S Rf I J r I1 J1) := by
  intro k
  induction k with
  | zero =>
    exact fun x1 x2 x3 I J r I1 J1 h => by rw [f4_rec_tryJudges] at h; cases h
  | succ k ih =>
    exact (fun x1 x2 x3 I J r I1 J1 h => by rw [f4_rec_tryJudges] at h; exact d4_tryJudges l D cz ev hC ih h)
theorem c4_tryJudges (l : Launch) (D : va_G) (cz : Nat → ClassId) (ev : Nat × Nat × Nat) {b : Nat} {L : List Nat} {S : ST} {Rf : RT} (hC : CW b L S Rf) {N : Nat} {x1 x2 x3 : Int32} {I : IT} {J : JT} {r : Unit} {I1 : IT} {J1 : JT} (hf : f4_tryJudges N b S Rf x1 x2 x3 I J = some (r, I1, J1)) : MTv l D cz ev yX4_tryJudges cX4_tryJudges 13 (none) 8 253 [.ref (b + 33), .int x1, .int x2, .int x3] L S Rf I J r I1 J1 := (c4_rec_tryJudges l D cz ev hC (N := N) 6) x1 x2 x3 I J r I1 J1 hf
set_option maxHeartbeats 4000000 in
set_option maxRecDepth 100000 in
theorem v4_tryRows_L23 {p : Program} {l : Launch} {e : Env} {s : State} {m : MethodId} {args : Array Value} {below : List Frame} {meth : Method} {c : Code} {Q : State → Prop} {D : va_G} {cz : Nat → ClassId} {A : Nat → Prop} {ev : Nat × Nat × Nat} {k b : Nat} {L : List Nat} {S : ST} {Rf : RT} (hC : CW b L S Rf) {rR : Int32 → Int32 → IT → JT → Option (Unit × IT × JT)} (hrR : ∀ (y0 y1 : Int32) (I : IT) (J : JT) (r : Unit) (I1 : IT) (J1 : JT), rR y0 y1 I J = some (r, I1, J1) → MTv l D cz ev yX4_tryRows cX4_tryRows 4 (none) (9 + k) (285 + 23 * k) [.ref (b + 33), .int y0, .int y1] L S Rf I J r I1 J1) (X : CallFix p m c cX4_tryRows 4 s args gw RX4) (hK : KX D cz ev A s) {N : Nat} {x1 : Int32} {x2 : Int32} :
    ∀ (n : Nat) (x3 : Int32) (I : IT) (J : JT) (q : (Unit)) (I1 : IT) (J1 : JT) (H : Heap) (locs : List Loc) (ls : Array Slot), g4_tryRows_L23 N b S Rf rR x1 x2 n x3 I J = some (q, I1, J1) → WX D cz A L S Rf s.heap I J H locs → lv_has ls 4 [(0, .ref (b + 33)), (1, .int x1), (2, .int x2), (3, .int x3)] →
    (∀ (H : Heap) (locs : List Loc) (ls : Array Slot), WX D cz A L S Rf s.heap I1 J1 H locs → lv_has ls 4 [] → W p l e (rmX (9 + (k + 1)) (285 + 23 * (k + 1))) s m args below meth c H locs 0 0 Q (F0 m 64 ls [])) →
    W p l e (rmX (9 + (k + 1)) (285 + 23 * (k + 1))) s m args below meth c H locs 0 0 Q (F0 m 23 ls []) := by
  have hx := X.1
  have hb := X.2.1
  have hR_rR : 8 + (4 + 11) + (285 + 23 * k) ≤ 285 + 23 * (k + 1) := by rw [Nat.mul_succ]; omega
  intro n
  induction n with
  | zero =>
    intro x3 I J q I1 J1 H locs ls hf
    rw [g4_tryRows_L23] at hf
    cases hf
  | succ n ih =>
    intro x3 I J q I1 J1 H locs ls hf hw hl hexit
    rw [g4_tryRows_L23] at hf
    refine lv_iload_n hx hb dX4_tryRows_23 rfl (lv_at hl 3 rfl) ?_
    refine lv_aload_n hx hb dX4_tryRows_24 rfl (lv_at hl 0 rfl) ?_
    refine x_getI X hK hw (cw_mem hC 33 (by decide)) (cw_S hC 33 rfl) cpX4 14 (by decide) rfl tw_441 dX4_tryRows_25 ?_
    refine lv_icmp_ge (tgt := 64) hx hb dX4_tryRows_28 (by decide) (fun c_7 => ?_) (fun c_7 => ?_)
    · have hf := yb_pos c_7 hf
      obtain ⟨rfl, rfl, rfl⟩ := yb_inj hf
      exact hexit _ _ _ hw (lv_sub hl [] rfl)
    · have hf := yb_neg c_7 hf
      refine lv_iload_n hx hb dX4_tryRows_31 rfl (lv_at hl 2 rfl) ?_
      refine lv_iload_n hx hb dX4_tryRows_32 rfl (lv_at hl 3 rfl) ?_
      refine lv_ishr hx hb dX4_tryRows_33 ?_
      refine lv_iconst (v := (1 : Int32)) hx hb dX4_tryRows_34 (by decide) ?_
      refine lv_iand hx hb dX4_tryRows_35 ?_
      refine lv_if_ne (tgt := 58) hx hb dX4_tryRows_36 (by decide) (fun c_8 => ?_) (fun c_8 => ?_)
      · have hf := yb_neg c_8 hf
        obtain ⟨x3_9, ex3_9, hf⟩ := yb_let_ex hf
        refine lv_iinc (v := x3_9) (lv' := [(3, .int x3_9), (0, .ref (b + 33)), (1, .int x1), (2, .int x2)]) hx hb dX4_tryRows_58 hl (k := 3) rfl (by rw [ex3_9]; rfl) (by decide) rfl (fun ls hl => ?_)
        refine lv_goto (tgt := 23) hx hb dX4_tryRows_61 (by decide) ?_
        exact ih _ _ _ _ _ _ _ _ _ hf hw (lv_sub hl [1, 2, 3, 0] rfl) hexit
      · have hf := yb_pos c_8 hf
        refine lv_aload_n hx hb dX4_tryRows_39 rfl (lv_at hl 0 rfl) ?_
        refine x_getR X hK hw (cw_mem hC 33 (by decide)) (cw_S hC 33 rfl) cpX4 7 (by decide) rfl (cw_R hC 33 7 (by decide) rfl) tw_434 dX4_tryRows_40 ?_
        refine lv_iload_n hx hb dX4_tryRows_43 rfl (lv_at hl 1 rfl) ?_
        refine lv_iload_n hx hb dX4_tryRows_44 rfl (lv_at hl 3 rfl) ?_
        obtain ⟨hi_10, hf⟩ := yb_ck_some hf
        refine x_iast X hK hw (cw_mem hC 40 (by decide)) (cw_S hC 40 rfl) hi_10 rfl dX4_tryRows_45 (fun H locs hw => ?_)
        obtain ⟨I_11, eI_11, hf⟩ := yb_let_ex hf
        have hw := yb_wI eI_11 hw
        refine lv_aload_n hx hb dX4_tryRows_46 rfl (lv_at hl 0 rfl) ?_
        refine lv_iload_n hx hb dX4_tryRows_47 rfl (lv_at hl 1 rfl) ?_
        refine lv_iconst (v := (1 : Int32)) hx hb dX4_tryRows_48 (by decide) ?_
        refine lv_iadd hx hb dX4_tryRows_49 ?_
        refine lv_iload_n hx hb dX4_tryRows_50 rfl (lv_at hl 2 rfl) ?_
        refine lv_iconst (v := (1 : Int32)) hx hb dX4_tryRows_51 (by decide) ?_
        refine lv_iload_n hx hb dX4_tryRows_52 rfl (lv_at hl 3 rfl) ?_
        refine lv_ishl hx hb dX4_tryRows_53 ?_
        refine lv_ior hx hb dX4_tryRows_54 ?_
        obtain ⟨r_12, I_13, J_14, hq_15, hf⟩ := yb_b3_some hf
        refine x_callv X hK hw (hrR _ _ _ _ _ _ _ hq_15) (cw_mem hC 33 (by decide)) (cw_S hC 33 rfl) cpX4.1 vw_X4_155 ⟨Nat.le_refl _, hR_rR⟩ rfl rfl (Nat.le_of_ble_eq_true rfl) hl.1 ⟨Nat.le_refl _, Nat.le_refl _⟩ dX4_tryRows_55 (fun H locs hw => ?_)
        obtain ⟨x3_16, ex3_16, hf⟩ := yb_let_ex hf
        refine lv_iinc (v := x3_16) (lv' := [(3, .int x3_16), (0, .ref (b + 33)), (1, .int x1), (2, .int x2)]) hx hb dX4_tryRows_58 hl (k := 3) rfl (by rw [ex3_16]; rfl) (by decide) rfl (fun ls hl => ?_)
        refine lv_goto (tgt := 23) hx hb dX4_tryRows_61 (by decide) ?_
        exact ih _ _ _ _ _ _ _ _ _ hf hw (lv_sub hl [1, 2, 3, 0] rfl) hexit
set_option maxHeartbeats 4000000 in
set_option maxRecDepth 100000 in
theorem d4_tryRows (l : Launch) (D : va_G) (cz : Nat → ClassId) (ev : Nat × Nat × Nat) {k b : Nat} {L : List Nat} {S : ST} {Rf : RT} (hC : CW b L S Rf) {rR : Int32 → Int32 → IT → JT → Option (Unit × IT × JT)} (hrR : ∀ (y0 y1 : Int32) (I : IT) (J : JT) (r : Unit) (I1 : IT) (J1 : JT), rR y0 y1 I J = some (r, I1, J1) → MTv l D cz ev yX4_tryRows cX4_tryRows 4 (none) (9 + k) (285 + 23 * k) [.ref (b + 33), .int y0, .int y1] L S Rf I J r I1 J1) {N : Nat} {x1 : Int32} {x2 : Int32} {I : IT} {J : JT} {r : Unit} {I1 : IT} {J1 : JT} (hf : g4_tryRows N b S Rf rR x1 x2 I J = some (r, I1, J1)) : MTv l D cz ev yX4_tryRows cX4_tryRows 4 (none) (9 + (k + 1)) (285 + 23 * (k + 1)) [.ref (b + 33), .int x1, .int x2] L S Rf I J r I1 J1 := by
  unfold g4_tryRows at hf
  refine MTv_of (by decide) (Nat.le_of_ble_eq_true rfl) ?_
  intro p e s m args below meth c Q ls X hK hw hl hfin
  have X : CallFix p m c cX4_tryRows 4 s args gw RX4 := X
  have hx := X.1
  have hb := X.2.1
  have hR_rR : 8 + (4 + 11) + (285 + 23 * k) ≤ 285 + 23 * (k + 1) := by rw [Nat.mul_succ]; omega
  have hl : lv_has ls 4 [(0, .ref (b + 33)), (1, .int x1), (2, .int x2)] := hl
  refine lv_iload_n hx hb dX4_tryRows_0 rfl (lv_at hl 1 rfl) ?_
  refine lv_aload_n hx hb dX4_tryRows_1 rfl (lv_at hl 0 rfl) ?_
  refine x_getI X hK hw (cw_mem hC 33 (by decide)) (cw_S hC 33 rfl) cpX4 14 (by decide) rfl tw_441 dX4_tryRows_2 ?_
  refine lv_icmp_ge (tgt := 13) hx hb dX4_tryRows_5 (by decide) (fun c_1 => ?_) (fun c_1 => ?_)
  · have hf := yb_pos c_1 hf
    refine lv_aload_n hx hb dX4_tryRows_13 rfl (lv_at hl 0 rfl) ?_
    refine lv_iconst (v := (0 : Int32)) hx hb dX4_tryRows_14 (by decide) ?_
    refine lv_iconst (v := (0 : Int32)) hx hb dX4_tryRows_15 (by decide) ?_
    refine lv_iconst (v := (-1 : Int32)) hx hb dX4_tryRows_16 (by decide) ?_
    obtain ⟨r_2, I_3, J_4, hq_5, hf⟩ := yb_b3_some hf
    refine x_callv X hK hw (c4_tryJudges l D cz ev hC hq_5) (cw_mem hC 33 (by decide)) (cw_S hC 33 rfl) cpX4.1 vw_X4_158 ⟨Nat.le_trans (m := 9) (Nat.le_of_ble_eq_true rfl) (Nat.le_add_right _ _), Nat.le_trans (m := 285) (Nat.le_of_ble_eq_true rfl) (Nat.le_add_right _ _)⟩ rfl rfl (Nat.le_of_ble_eq_true rfl) hl.1 ⟨Nat.le_refl _, Nat.le_refl _⟩ dX4_tryRows_17 (fun H locs hw => ?_)
    exact yb_retv hfin hf hw dX4_tryRows_20
  · have hf := yb_neg c_1 hf
    refine lv_iload_n hx hb dX4_tryRows_8 rfl (lv_at hl 1 rfl) ?_
    refine lv_iconst (v := (4 : Int32)) hx hb dX4_tryRows_9 (by decide) ?_
    refine lv_icmp_lt (tgt := 21) hx hb dX4_tryRows_10 (by decide) (fun c_6 => ?_) (fun c_6 => ?_)
    · have hf := yb_pos c_6 hf
      refine lv_iconst (v := (0 : Int32)) hx hb dX4_tryRows_21 (by decide) ?_
      refine lv_istore_n (lv' := [(3, .int (0 : Int32)), (0, .ref (b + 33)), (1, .int x1), (2, .int x2)]) hx hb dX4_tryRows_22 rfl hl (by decide) rfl (fun ls hl => ?_)
      obtain ⟨q_17, I_18, J_19, hq_20, hf⟩ := yb_b3_some hf
      refine v4_tryRows_L23 hC hrR X hK _ _ _ _ _ _ _ _ _ _ hq_20 hw (lv_sub hl [1, 2, 3, 0] rfl) (fun H locs ls hw hl => ?_)
      exact yb_retv hfin hf hw dX4_tryRows_64
    · have hf := yb_neg c_6 hf
      refine lv_aload_n hx hb dX4_tryRows_13 rfl (lv_at hl 0 rfl) ?_
      refine lv_iconst (v := (0 : Int32)) hx hb dX4_tryRows_14 (by decide) ?_
      refine lv_iconst (v := (0 : Int32)) hx hb dX4_tryRows_15 (by decide) ?_
      refine lv_iconst (v := (-1 : Int32)) hx hb dX4_tryRows_16 (by decide) ?_
      obtain ⟨r_21, I_22, J_23, hq_24, hf⟩ := yb_b3_some hf
      refine x_callv X hK hw (c4_tryJudges l D cz ev hC hq_24) (cw_mem hC 33 (by decide)) (cw_S hC 33 rfl) cpX4.1 vw_X4_158 ⟨Nat.le_trans (m := 9) (Nat.le_of_ble_eq_true rfl) (Nat.le_add_right _ _), Nat.le_trans (m := 285) (Nat.le_of_ble_eq_true rfl) (Nat.le_add_right _ _)⟩ rfl rfl (Nat.le_of_ble_eq_true rfl) hl.1 ⟨Nat.le_refl _, Nat.le_refl _⟩ dX4_tryRows_17 (fun H locs hw => ?_)
      exact yb_retv hfin hf hw dX4_tryRows_20
theorem c4_rec_tryRows (l : Launch) (D : va_G) (cz : Nat → ClassId) (ev : Nat × Nat × Nat) {b : Nat} {L : List Nat} {S : ST} {Rf : RT} (hC : CW b L S Rf) {N : Nat} : ∀ k : Nat, (∀ (x1 x2 : Int32) (I : IT) (J : JT) (r : Unit) (I1 : IT) (J1 : JT), f4_rec_tryRows N b S Rf k 0 x1 x2 I J = some (r, I1, J1) → MTv l D cz ev yX4_tryRows cX4_tryRows 4 (none) (9 + k) (285 + 23 * k) [.ref (b + 33), .int x1, .int x2] L S Rf I J r I1 J1) := by
  intro k
  induction k with
  | zero =>
    exact fun x1 x2 I J r I1 J1 h => by rw [f4_rec_tryRows] at h; cases h
  | succ k ih =>
    exact (fun x1 x2 I J r I1 J1 h => by rw [f4_rec_tryRows] at h; exact d4_tryRows l D cz ev hC ih h)
theorem c4_tryRows (l : Launch) (D : va_G) (cz : Nat → ClassId) (ev : Nat × Nat × Nat) {b : Nat} {L : List Nat} {S : ST} {Rf : RT} (hC : CW b L S Rf) {N : Nat} {x1 x2 : Int32} {I : IT} {J : JT} {r : Unit} {I1 : IT} {J1 : JT} (hf : f4_tryRows N b S Rf x1 x2 I J = some (r, I1, J1)) : MTv l D cz ev yX4_tryRows cX4_tryRows 4 (none) 15 423 [.ref (b + 33), .int x1, .int x2] L S Rf I J r I1 J1 := (c4_rec_tryRows l D cz ev hC (N := N) 6) x1 x2 I J r I1 J1 hf
set_option maxHeartbeats 4000000 in
set_option maxRecDepth 100000 in
theorem v6_readsTest_L7 {p : Program} {l : Launch} {e : Env} {s : State} {m : MethodId} {args : Array Value} {below : List Frame} {meth : Method} {c : Code} {Q : State → Prop} {D : va_G} {cz : Nat → ClassId} {A : Nat → Prop} {ev : Nat × Nat × Nat} {k b : Nat} {L : List Nat} {S : ST} {Rf : RT} (hC : CW b L S Rf) {rF : Int32 → IT → JT → Option (Int32 × IT × JT)} (hrF : ∀ (y0 : Int32) (I : IT) (J : JT) (r : Int32) (I1 : IT) (J1 : JT), rF y0 I J = some (r, I1, J1) → MTi l D cz ev yX6_readsFact cX6_readsFact 5 (some .boolean) (7 + k) (156 + 25 * k) [.ref (b + 62), .int y0] L S Rf I J r I1 J1) (X : CallFix p m c cX6_readsTest 6 s args gw RX6) (hK : KX D cz ev A s) {N : Nat} {x1 : Int32} {rM : Int32} {IM : IT} {JM : JT} :
    ∀ (n : Nat) (x2 : Int32) (x3 : Int32) (x4 : Int32) (I : IT) (J : JT) (q : (Int32 ⊕ (Unit))) (I1 : IT) (J1 : JT) (H : Heap) (locs : List Loc) (ls : Array Slot), g6_readsTest_L7 N b S Rf rF x1 n x2 x3 x4 I J = some (q, I1, J1) → WX D cz A L S Rf s.heap I J H locs → lv_has ls 6 [(0, .ref (b + 62)), (1, .int x1), (2, .int x2), (3, .int x3), (4, .int x4)] →
    (∀ v, q = .inl v → some (v, I1, J1) = some (rM, IM, JM)) → (∀ (H : Heap) (locs : List Loc) (ls : Array Slot) (pc : Nat), bz rM = true → WX D cz A L S Rf s.heap IM JM H locs → decode cX6_readsTest pc = .ok (.ireturn, 1) → W p l e (rmX (7 + (k + 1)) (156 + 25 * (k + 1))) s m args below meth c H locs 0 0 Q (F0 m pc ls [.int rM])) →
    (∀ xq, q = .inr xq → ∀ (H : Heap) (locs : List Loc) (ls : Array Slot), WX D cz A L S Rf s.heap I1 J1 H locs → lv_has ls 6 [] → W p l e (rmX (7 + (k + 1)) (156 + 25 * (k + 1))) s m args below meth c H locs 0 0 Q (F0 m 107 ls [])) →
    W p l e (rmX (7 + (k + 1)) (156 + 25 * (k + 1))) s m args below meth c H locs 0 0 Q (F0 m 7 ls []) := by
  have hx := X.1
  have hb := X.2.1
  have hR_rF : 8 + (5 + 11) + (156 + 25 * k) ≤ 156 + 25 * (k + 1) := by rw [Nat.mul_succ]; omega
  intro n
  induction n with
  | zero =>
    intro x2 x3 x4 I J q I1 J1 H locs ls hf
    rw [g6_readsTest_L7] at hf
    cases hf
  | succ n ih =>
    intro x2 x3 x4 I J q I1 J1 H locs ls hf hw hl hret hfin hexit
    rw [g6_readsTest_L7] at hf
    refine lv_iload hx hb dX6_readsTest_7 (lv_at hl 4 rfl) ?_
    refine lv_sipush (v := (400 : Int32)) hx hb dX6_readsTest_9 (by decide) ?_
    refine lv_icmp_ge (tgt := 107) hx hb dX6_readsTest_12 (by decide) (fun c_1 => ?_) (fun c_1 => ?_)
    · have hf := yb_pos c_1 hf
      obtain ⟨rfl, rfl, rfl⟩ := yb_inj hf
      exact hexit _ rfl _ _ _ hw (lv_sub hl [] rfl)
    · have hf := yb_neg c_1 hf
      refine lv_aload_n hx hb dX6_readsTest_15 rfl (lv_at hl 0 rfl) ?_
      refine lv_iload_n hx hb dX6_readsTest_16 rfl (lv_at hl 1 rfl) ?_
      obtain ⟨r_2, I_3, J_4, hq_5, hf⟩ := yb_b3_some hf
      refine x_calli X hK hw (hrF _ _ _ _ _ _ hq_5) (cw_mem hC 62 (by decide)) (cw_S hC 62 rfl) cpX6.1 vw_X6_69 ⟨Nat.le_refl _, hR_rF⟩ rfl rfl (Nat.le_of_ble_eq_true rfl) hl.1 ⟨Nat.le_refl _, Nat.le_refl _⟩ dX6_readsTest_17 (fun H locs hw => ?_)
      refine lv_if_ne (tgt := 25) hx hb dX6_readsTest_20 (by decide) (fun c_6 => ?_) (fun c_6 => ?_)
      · have hf := yb_neg c_6 hf
        refine lv_iload_n hx hb dX6_readsTest_25 rfl (lv_at hl 2 rfl) ?_
        refine lv_if_eq (tgt := 35) hx hb dX6_readsTest_26 (by decide) (fun c_7 => ?_) (fun c_7 => ?_)
        · have hf := yb_pos c_7 hf
          refine lv_aload_n hx hb dX6_readsTest_35 rfl (lv_at hl 0 rfl) ?_
          refine x_getR X hK hw (cw_mem hC 62 (by decide)) (cw_S hC 62 rfl) cpX6 0 (by decide) rfl (cw_R hC 62 0 (by decide) rfl) tw_544 dX6_readsTest_36 ?_
          obtain ⟨r_8, I_9, J_10, hq_11, hf⟩ := yb_b3_some hf
          refine x_calli X hK hw (c3_word l D cz ev hC hq_11) (cw_mem hC 2 (by decide)) (cw_S hC 2 rfl) cpX3.1 vw_X6_37 ⟨Nat.le_trans (m := 7) (Nat.le_of_ble_eq_true rfl) (Nat.le_add_right _ _), Nat.le_trans (m := 156) (Nat.le_of_ble_eq_true rfl) (Nat.le_add_right _ _)⟩ rfl rfl (Nat.le_of_ble_eq_true rfl) hl.1 ⟨Nat.le_refl _, Nat.le_refl _⟩ dX6_readsTest_39 (fun H locs hw => ?_)
          refine lv_istore (lv' := [(5, .int r_8), (0, .ref (b + 62)), (1, .int x1), (2, .int x2), (3, .int x3), (4, .int x4)]) hx hb dX6_readsTest_42 hl (by decide) rfl (fun ls hl => ?_)
          refine lv_iload hx hb dX6_readsTest_44 (lv_at hl 0 rfl) ?_
          refine lv_bipush (v := (15 : Int32)) hx hb dX6_readsTest_46 (by decide) ?_
          refine lv_icmp_ne (tgt := 55) hx hb dX6_readsTest_48 (by decide) (fun c_12 => ?_) (fun c_12 => ?_)
          · have hf := yb_neg c_12 hf
            refine lv_iconst (v := (0 : Int32)) hx hb dX6_readsTest_55 (by decide) ?_
            refine lv_istore_n (lv' := [(2, .int (0 : Int32)), (5, .int r_8), (0, .ref (b + 62)), (1, .int x1), (3, .int x3), (4, .int x4)]) hx hb dX6_readsTest_56 rfl hl (by decide) rfl (fun ls hl => ?_)
            refine lv_iload_n hx hb dX6_readsTest_57 rfl (lv_at hl 0 rfl) ?_
            refine lv_if_ne (tgt := 84) hx hb dX6_readsTest_58 (by decide) (fun c_13 => absurd (by decide) c_13) (fun _ => ?_)
            refine lv_iload_n hx hb dX6_readsTest_61 rfl (lv_at hl 4 rfl) ?_
            refine lv_if_eq (tgt := 71) hx hb dX6_readsTest_62 (by decide) (fun c_14 => ?_) (fun c_14 => ?_)
            · have hf := yb_pos c_14 hf
              refine lv_iload hx hb dX6_readsTest_71 (lv_at hl 1 rfl) ?_
              refine lv_bipush (v := (14 : Int32)) hx hb dX6_readsTest_73 (by decide) ?_
              refine lv_icmp_ne (tgt := 82) hx hb dX6_readsTest_75 (by decide) (fun c_15 => ?_) (fun c_15 => ?_)
              · have hf := yb_neg c_15 hf
                refine lv_iconst (v := (0 : Int32)) hx hb dX6_readsTest_82 (by decide) ?_
                refine lv_istore_n (lv' := [(3, .int (0 : Int32)), (2, .int (0 : Int32)), (5, .int r_8), (0, .ref (b + 62)), (1, .int x1), (4, .int x4)]) hx hb dX6_readsTest_83 rfl hl (by decide) rfl (fun ls hl => ?_)
                refine lv_iload_n hx hb dX6_readsTest_84 rfl (lv_at hl 1 rfl) ?_
                refine lv_if_ne (tgt := 94) hx hb dX6_readsTest_85 (by decide) (fun c_16 => absurd (by decide) c_16) (fun _ => ?_)
                refine lv_iload_n hx hb dX6_readsTest_88 rfl (lv_at hl 0 rfl) ?_
                refine lv_if_ne (tgt := 94) hx hb dX6_readsTest_89 (by decide) (fun c_17 => absurd (by decide) c_17) (fun _ => ?_)
                refine lv_iconst (v := (1 : Int32)) hx hb dX6_readsTest_92 (by decide) ?_
                exact yb_retz hfin (by decide) (yb_inl hret hf) hw dX6_readsTest_93
              · have hf := yb_pos c_15 hf
                refine lv_iconst (v := (1 : Int32)) hx hb dX6_readsTest_78 (by decide) ?_
                refine lv_goto (tgt := 83) hx hb dX6_readsTest_79 (by decide) ?_
                refine lv_istore_n (lv' := [(3, .int (1 : Int32)), (2, .int (0 : Int32)), (5, .int r_8), (0, .ref (b + 62)), (1, .int x1), (4, .int x4)]) hx hb dX6_readsTest_83 rfl hl (by decide) rfl (fun ls hl => ?_)
                refine lv_iload_n hx hb dX6_readsTest_84 rfl (lv_at hl 1 rfl) ?_
                refine lv_if_ne (tgt := 94) hx hb dX6_readsTest_85 (by decide) (fun c_18 => absurd (by decide) c_18) (fun _ => ?_)
                refine lv_iload_n hx hb dX6_readsTest_88 rfl (lv_at hl 0 rfl) ?_
                refine lv_if_ne (tgt := 94) hx hb dX6_readsTest_89 (by decide) (fun _ => ?_) (fun c_19 => absurd c_19 (by decide))
                refine lv_aload_n hx hb dX6_readsTest_94 rfl (lv_at hl 3 rfl) ?_
                refine x_getR X hK hw (cw_mem hC 62 (by decide)) (cw_S hC 62 rfl) cpX6 0 (by decide) rfl (cw_R hC 62 0 (by decide) rfl) tw_544 dX6_readsTest_95 ?_
                obtain ⟨r_20, I_21, J_22, hq_23, hf⟩ := yb_b3_some hf
                refine x_callv X hK hw (c3_passWord l D cz ev hC hq_23) (cw_mem hC 2 (by decide)) (cw_S hC 2 rfl) cpX3.1 vw_X6_47 ⟨Nat.le_trans (m := 7) (Nat.le_of_ble_eq_true rfl) (Nat.le_add_right _ _), Nat.le_trans (m := 156) (Nat.le_of_ble_eq_true rfl) (Nat.le_add_right _ _)⟩ rfl rfl (Nat.le_of_ble_eq_true rfl) hl.1 ⟨Nat.le_refl _, Nat.le_refl _⟩ dX6_readsTest_98 (fun H locs hw => ?_)
                obtain ⟨x4_24, ex4_24, hf⟩ := yb_let_ex hf
                refine lv_iinc (v := x4_24) (lv' := [(4, .int x4_24), (3, .int (1 : Int32)), (2, .int (0 : Int32)), (5, .int r_8), (0, .ref (b + 62)), (1, .int x1)]) hx hb dX6_readsTest_101 hl (k := 5) rfl (by rw [ex4_24]; rfl) (by decide) rfl (fun ls hl => ?_)
                refine lv_goto (tgt := 7) hx hb dX6_readsTest_104 (by decide) ?_
                exact ih _ _ _ _ _ _ _ _ _ _ _ hf hw (lv_sub hl [4, 5, 2, 1, 0] rfl) hret hfin hexit
            · have hf := yb_neg c_14 hf
              refine lv_aload_n hx hb dX6_readsTest_65 rfl (lv_at hl 2 rfl) ?_
              refine lv_ldc (v := (200011 : Int32)) hx hb X.2.2.2.1 (X.2.2.2.2 _ tw_849) dX6_readsTest_66 ?_
              obtain ⟨r_25, I_26, J_27, hq_28, hf⟩ := yb_b3_some hf
              refine x_callv X hK hw (c6_put l D cz ev hC hq_28) (cw_mem hC 62 (by decide)) (cw_S hC 62 rfl) cpX6.1 vw_X6_59 ⟨Nat.le_trans (m := 7) (Nat.le_of_ble_eq_true rfl) (Nat.le_add_right _ _), Nat.le_trans (m := 156) (Nat.le_of_ble_eq_true rfl) (Nat.le_add_right _ _)⟩ rfl rfl (Nat.le_of_ble_eq_true rfl) hl.1 ⟨Nat.le_refl _, Nat.le_refl _⟩ dX6_readsTest_68 (fun H locs hw => ?_)
              refine lv_iload hx hb dX6_readsTest_71 (lv_at hl 1 rfl) ?_
              refine lv_bipush (v := (14 : Int32)) hx hb dX6_readsTest_73 (by decide) ?_
              refine lv_icmp_ne (tgt := 82) hx hb dX6_readsTest_75 (by decide) (fun c_29 => ?_) (fun c_29 => ?_)
              · have hf := yb_neg c_29 hf
                refine lv_iconst (v := (0 : Int32)) hx hb dX6_readsTest_82 (by decide) ?_
                refine lv_istore_n (lv' := [(3, .int (0 : Int32)), (2, .int (0 : Int32)), (5, .int r_8), (0, .ref (b + 62)), (1, .int x1), (4, .int x4)]) hx hb dX6_readsTest_83 rfl hl (by decide) rfl (fun ls hl => ?_)
                refine lv_iload_n hx hb dX6_readsTest_84 rfl (lv_at hl 1 rfl) ?_
                refine lv_if_ne (tgt := 94) hx hb dX6_readsTest_85 (by decide) (fun c_30 => absurd (by decide) c_30) (fun _ => ?_)
                refine lv_iload_n hx hb dX6_readsTest_88 rfl (lv_at hl 0 rfl) ?_
                refine lv_if_ne (tgt := 94) hx hb dX6_readsTest_89 (by decide) (fun c_31 => absurd (by decide) c_31) (fun _ => ?_)
                refine lv_iconst (v := (1 : Int32)) hx hb dX6_readsTest_92 (by decide) ?_
                exact yb_retz hfin (by decide) (yb_inl hret hf) hw dX6_readsTest_93
              · have hf := yb_pos c_29 hf
                refine lv_iconst (v := (1 : Int32)) hx hb dX6_readsTest_78 (by decide) ?_
                refine lv_goto (tgt := 83) hx hb dX6_readsTest_79 (by decide) ?_
                refine lv_istore_n (lv' := [(3, .int (1 : Int32)), (2, .int (0 : Int32)), (5, .int r_8), (0, .ref (b + 62)), (1, .int x1), (4, .int x4)]) hx hb dX6_readsTest_83 rfl hl (by decide) rfl (fun ls hl => ?_)
                refine lv_iload_n hx hb dX6_readsTest_84 rfl (lv_at hl 1 rfl) ?_
                refine lv_if_ne (tgt := 94) hx hb dX6_readsTest_85 (by decide) (fun c_32 => absurd (by decide) c_32) (fun _ => ?_)
                refine lv_iload_n hx hb dX6_readsTest_88 rfl (lv_at hl 0 rfl) ?_
                refine lv_if_ne (tgt := 94) hx hb dX6_readsTest_89 (by decide) (fun _ => ?_) (fun c_33 => absurd c_33 (by decide))
                refine lv_aload_n hx hb dX6_readsTest_94 rfl (lv_at hl 3 rfl) ?_
                refine x_getR X hK hw (cw_mem hC 62 (by decide)) (cw_S hC 62 rfl) cpX6 0 (by decide) rfl (cw_R hC 62 0 (by decide) rfl) tw_544 dX6_readsTest_95 ?_
                obtain ⟨r_34, I_35, J_36, hq_37, hf⟩ := yb_b3_some hf
                refine x_callv X hK hw (c3_passWord l D cz ev hC hq_37) (cw_mem hC 2 (by decide)) (cw_S hC 2 rfl) cpX3.1 vw_X6_47 ⟨Nat.le_trans (m := 7) (Nat.le_of_ble_eq_true rfl) (Nat.le_add_right _ _), Nat.le_trans (m := 156) (Nat.le_of_ble_eq_true rfl) (Nat.le_add_right _ _)⟩ rfl rfl (Nat.le_of_ble_eq_true rfl) hl.1 ⟨Nat.le_refl _, Nat.le_refl _⟩ dX6_readsTest_98 (fun H locs hw => ?_)
                obtain ⟨x4_38, ex4_38, hf⟩ := yb_let_ex hf
                refine lv_iinc (v := x4_38) (lv' := [(4, .int x4_38), (3, .int (1 : Int32)), (2, .int (0 : Int32)), (5, .int r_8), (0, .ref (b + 62)), (1, .int x1)]) hx hb dX6_readsTest_101 hl (k := 5) rfl (by rw [ex4_38]; rfl) (by decide) rfl (fun ls hl => ?_)
                refine lv_goto (tgt := 7) hx hb dX6_readsTest_104 (by decide) ?_
                exact ih _ _ _ _ _ _ _ _ _ _ _ hf hw (lv_sub hl [4, 5, 2, 1, 0] rfl) hret hfin hexit
          · have hf := yb_pos c_12 hf
            refine lv_iconst (v := (1 : Int32)) hx hb dX6_readsTest_51 (by decide) ?_
            refine lv_goto (tgt := 56) hx hb dX6_readsTest_52 (by decide) ?_
            refine lv_istore_n (lv' := [(2, .int (1 : Int32)), (5, .int r_8), (0, .ref (b + 62)), (1, .int x1), (3, .int x3), (4, .int x4)]) hx hb dX6_readsTest_56 rfl hl (by decide) rfl (fun ls hl => ?_)
            refine lv_iload_n hx hb dX6_readsTest_57 rfl (lv_at hl 0 rfl) ?_
            refine lv_if_ne (tgt := 84) hx hb dX6_readsTest_58 (by decide) (fun _ => ?_) (fun c_39 => absurd c_39 (by decide))
            refine lv_iload_n hx hb dX6_readsTest_84 rfl (lv_at hl 0 rfl) ?_
            refine lv_if_ne (tgt := 94) hx hb dX6_readsTest_85 (by decide) (fun _ => ?_) (fun c_40 => absurd c_40 (by decide))
            refine lv_aload_n hx hb dX6_readsTest_94 rfl (lv_at hl 2 rfl) ?_
            refine x_getR X hK hw (cw_mem hC 62 (by decide)) (cw_S hC 62 rfl) cpX6 0 (by decide) rfl (cw_R hC 62 0 (by decide) rfl) tw_544 dX6_readsTest_95 ?_
            obtain ⟨r_41, I_42, J_43, hq_44, hf⟩ := yb_b3_some hf
            refine x_callv X hK hw (c3_passWord l D cz ev hC hq_44) (cw_mem hC 2 (by decide)) (cw_S hC 2 rfl) cpX3.1 vw_X6_47 ⟨Nat.le_trans (m := 7) (Nat.le_of_ble_eq_true rfl) (Nat.le_add_right _ _), Nat.le_trans (m := 156) (Nat.le_of_ble_eq_true rfl) (Nat.le_add_right _ _)⟩ rfl rfl (Nat.le_of_ble_eq_true rfl) hl.1 ⟨Nat.le_refl _, Nat.le_refl _⟩ dX6_readsTest_98 (fun H locs hw => ?_)
            obtain ⟨x4_45, ex4_45, hf⟩ := yb_let_ex hf
            refine lv_iinc (v := x4_45) (lv' := [(4, .int x4_45), (2, .int (1 : Int32)), (5, .int r_8), (0, .ref (b + 62)), (1, .int x1), (3, .int x3)]) hx hb dX6_readsTest_101 hl (k := 5) rfl (by rw [ex4_45]; rfl) (by decide) rfl (fun ls hl => ?_)
            refine lv_goto (tgt := 7) hx hb dX6_readsTest_104 (by decide) ?_
            exact ih _ _ _ _ _ _ _ _ _ _ _ hf hw (lv_sub hl [3, 4, 1, 5, 0] rfl) hret hfin hexit
        · have hf := yb_neg c_7 hf
          refine lv_aload_n hx hb dX6_readsTest_29 rfl (lv_at hl 0 rfl) ?_
          refine lv_ldc (v := (200010 : Int32)) hx hb X.2.2.2.1 (X.2.2.2.2 _ tw_848) dX6_readsTest_30 ?_
          obtain ⟨r_46, I_47, J_48, hq_49, hf⟩ := yb_b3_some hf
          refine x_callv X hK hw (c6_put l D cz ev hC hq_49) (cw_mem hC 62 (by decide)) (cw_S hC 62 rfl) cpX6.1 vw_X6_59 ⟨Nat.le_trans (m := 7) (Nat.le_of_ble_eq_true rfl) (Nat.le_add_right _ _), Nat.le_trans (m := 156) (Nat.le_of_ble_eq_true rfl) (Nat.le_add_right _ _)⟩ rfl rfl (Nat.le_of_ble_eq_true rfl) hl.1 ⟨Nat.le_refl _, Nat.le_refl _⟩ dX6_readsTest_32 (fun H locs hw => ?_)
          refine lv_aload_n hx hb dX6_readsTest_35 rfl (lv_at hl 0 rfl) ?_
          refine x_getR X hK hw (cw_mem hC 62 (by decide)) (cw_S hC 62 rfl) cpX6 0 (by decide) rfl (cw_R hC 62 0 (by decide) rfl) tw_544 dX6_readsTest_36 ?_
          obtain ⟨r_50, I_51, J_52, hq_53, hf⟩ := yb_b3_some hf
          refine x_calli X hK hw (c3_word l D cz ev hC hq_53) (cw_mem hC 2 (by decide)) (cw_S hC 2 rfl) cpX3.1 vw_X6_37 ⟨Nat.le_trans (m := 7) (Nat.le_of_ble_eq_true rfl) (Nat.le_add_right _ _), Nat.le_trans (m := 156) (Nat.le_of_ble_eq_true rfl) (Nat.le_add_right _ _)⟩ rfl rfl (Nat.le_of_ble_eq_true rfl) hl.1 ⟨Nat.le_refl _, Nat.le_refl _⟩ dX6_readsTest_39 (fun H locs hw => ?_)
          refine lv_istore (lv' := [(5, .int r_50), (0, .ref (b + 62)), (1, .int x1), (2, .int x2), (3, .int x3), (4, .int x4)]) hx hb dX6_readsTest_42 hl (by decide) rfl (fun ls hl => ?_)
          refine lv_iload hx hb dX6_readsTest_44 (lv_at hl 0 rfl) ?_
          refine lv_bipush (v := (15 : Int32)) hx hb dX6_readsTest_46 (by decide) ?_
          refine lv_icmp_ne (tgt := 55) hx hb dX6_readsTest_48 (by decide) (fun c_54 => ?_) (fun c_54 => ?_)
          · have hf := yb_neg c_54 hf
            refine lv_iconst (v := (0 : Int32)) hx hb dX6_readsTest_55 (by decide) ?_
            refine lv_istore_n (lv' := [(2, .int (0 : Int32)), (5, .int r_50), (0, .ref (b + 62)), (1, .int x1), (3, .int x3), (4, .int x4)]) hx hb dX6_readsTest_56 rfl hl (by decide) rfl (fun ls hl => ?_)
            refine lv_iload_n hx hb dX6_readsTest_57 rfl (lv_at hl 0 rfl) ?_
            refine lv_if_ne (tgt := 84) hx hb dX6_readsTest_58 (by decide) (fun c_55 => absurd (by decide) c_55) (fun _ => ?_)
            refine lv_iload_n hx hb dX6_readsTest_61 rfl (lv_at hl 4 rfl) ?_
            refine lv_if_eq (tgt := 71) hx hb dX6_readsTest_62 (by decide) (fun c_56 => ?_) (fun c_56 => ?_)
            · have hf := yb_pos c_56 hf
              refine lv_iload hx hb dX6_readsTest_71 (lv_at hl 1 rfl) ?_
              refine lv_bipush (v := (14 : Int32)) hx hb dX6_readsTest_73 (by decide) ?_
              refine lv_icmp_ne (tgt := 82) hx hb dX6_readsTest_75 (by decide) (fun c_57 => ?_) (fun c_57 => ?_)
              · have hf := yb_neg c_57 hf
                refine lv_iconst (v := (0 : Int32)) hx hb dX6_readsTest_82 (by decide) ?_
                refine lv_istore_n (lv' := [(3, .int (0 : Int32)), (2, .int (0 : Int32)), (5, .int r_50), (0, .ref (b + 62)), (1, .int x1), (4, .int x4)]) hx hb dX6_readsTest_83 rfl hl (by decide) rfl (fun ls hl => ?_)
                refine lv_iload_n hx hb dX6_readsTest_84 rfl (lv_at hl 1 rfl) ?_
                refine lv_if_ne (tgt := 94) hx hb dX6_readsTest_85 (by decide) (fun c_58 => absurd (by decide) c_58) (fun _ => ?_)
                refine lv_iload_n hx hb dX6_readsTest_88 rfl (lv_at hl 0 rfl) ?_
                refine lv_if_ne (tgt := 94) hx hb dX6_readsTest_89 (by decide) (fun c_59 => absurd (by decide) c_59) (fun _ => ?_)
                refine lv_iconst (v := (1 : Int32)) hx hb dX6_readsTest_92 (by decide) ?_
                exact yb_retz hfin (by decide) (yb_inl hret hf) hw dX6_readsTest_93
              · have hf := yb_pos c_57 hf
                refine lv_iconst (v := (1 : Int32)) hx hb dX6_readsTest_78 (by decide) ?_
                refine lv_goto (tgt := 83) hx hb dX6_readsTest_79 (by decide) ?_
                refine lv_istore_n (lv' := [(3, .int (1 : Int32)), (2, .int (0 : Int32)), (5, .int r_50), (0, .ref (b + 62)), (1, .int x1), (4, .int x4)]) hx hb dX6_readsTest_83 rfl hl (by decide) rfl (fun ls hl => ?_)
                refine lv_iload_n hx hb dX6_readsTest_84 rfl (lv_at hl 1 rfl) ?_
                refine lv_if_ne (tgt := 94) hx hb dX6_readsTest_85 (by decide) (fun c_60 => absurd (by decide) c_60) (fun _ => ?_)
                refine lv_iload_n hx hb dX6_readsTest_88 rfl (lv_at hl 0 rfl) ?_
                refine lv_if_ne (tgt := 94) hx hb dX6_readsTest_89 (by decide) (fun _ => ?_) (fun c_61 => absurd c_61 (by decide))
                refine lv_aload_n hx hb dX6_readsTest_94 rfl (lv_at hl 3 rfl) ?_
                refine x_getR X hK hw (cw_mem hC 62 (by decide)) (cw_S hC 62 rfl) cpX6 0 (by decide) rfl (cw_R hC 62 0 (by decide) rfl) tw_544 dX6_readsTest_95 ?_
                obtain ⟨r_62, I_63, J_64, hq_65, hf⟩ := yb_b3_some hf
                refine x_callv X hK hw (c3_passWord l D cz ev hC hq_65) (cw_mem hC 2 (by decide)) (cw_S hC 2 rfl) cpX3.1 vw_X6_47 ⟨Nat.le_trans (m := 7) (Nat.le_of_ble_eq_true rfl) (Nat.le_add_right _ _), Nat.le_trans (m := 156) (Nat.le_of_ble_eq_true rfl) (Nat.le_add_right _ _)⟩ rfl rfl (Nat.le_of_ble_eq_true rfl) hl.1 ⟨Nat.le_refl _, Nat.le_refl _⟩ dX6_readsTest_98 (fun H locs hw => ?_)
                obtain ⟨x4_66, ex4_66, hf⟩ := yb_let_ex hf
                refine lv_iinc (v := x4_66) (lv' := [(4, .int x4_66), (3, .int (1 : Int32)), (2, .int (0 : Int32)), (5, .int r_50), (0, .ref (b + 62)), (1, .int x1)]) hx hb dX6_readsTest_101 hl (k := 5) rfl (by rw [ex4_66]; rfl) (by decide) rfl (fun ls hl => ?_)
                refine lv_goto (tgt := 7) hx hb dX6_readsTest_104 (by decide) ?_
                exact ih _ _ _ _ _ _ _ _ _ _ _ hf hw (lv_sub hl [4, 5, 2, 1, 0] rfl) hret hfin hexit
            · have hf := yb_neg c_56 hf
              refine lv_aload_n hx hb dX6_readsTest_65 rfl (lv_at hl 2 rfl) ?_
              refine lv_ldc (v := (200011 : Int32)) hx hb X.2.2.2.1 (X.2.2.2.2 _ tw_849) dX6_readsTest_66 ?_
              obtain ⟨r_67, I_68, J_69, hq_70, hf⟩ := yb_b3_some hf
              refine x_callv X hK hw (c6_put l D cz ev hC hq_70) (cw_mem hC 62 (by decide)) (cw_S hC 62 rfl) cpX6.1 vw_X6_59 ⟨Nat.le_trans (m := 7) (Nat.le_of_ble_eq_true rfl) (Nat.le_add_right _ _), Nat.le_trans (m := 156) (Nat.le_of_ble_eq_true rfl) (Nat.le_add_right _ _)⟩ rfl rfl (Nat.le_of_ble_eq_true rfl) hl.1 ⟨Nat.le_refl _, Nat.le_refl _⟩ dX6_readsTest_68 (fun H locs hw => ?_)
              refine lv_iload hx hb dX6_readsTest_71 (lv_at hl 1 rfl) ?_
              refine lv_bipush (v := (14 : Int32)) hx hb dX6_readsTest_73 (by decide) ?_
              refine lv_icmp_ne (tgt := 82) hx hb dX6_readsTest_75 (by decide) (fun c_71 => ?_) (fun c_71 => ?_)
              · have hf := yb_neg c_71 hf
                refine lv_iconst (v := (0 : Int32)) hx hb dX6_readsTest_82 (by decide) ?_
                refine lv_istore_n (lv' := [(3, .int (0 : Int32)), (2, .int (0 : Int32)), (5, .int r_50), (0, .ref (b + 62)), (1, .int x1), (4, .int x4)]) hx hb dX6_readsTest_83 rfl hl (by decide) rfl (fun ls hl => ?_)
                refine lv_iload_n hx hb dX6_readsTest_84 rfl (lv_at hl 1 rfl) ?_
                refine lv_if_ne (tgt := 94) hx hb dX6_readsTest_85 (by decide) (fun c_72 => absurd (by decide) c_72) (fun _ => ?_)
                refine lv_iload_n hx hb dX6_readsTest_88 rfl (lv_at hl 0 rfl) ?_
                refine lv_if_ne (tgt := 94) hx hb dX6_readsTest_89 (by decide) (fun c_73 => absurd (by decide) c_73) (fun _ => ?_)
                refine lv_iconst (v := (1 : Int32)) hx hb dX6_readsTest_92 (by decide) ?_
                exact yb_retz hfin (by decide) (yb_inl hret hf) hw dX6_readsTest_93
              · have hf := yb_pos c_71 hf
                refine lv_iconst (v := (1 : Int32)) hx hb dX6_readsTest_78 (by decide) ?_
                refine lv_goto (tgt := 83) hx hb dX6_readsTest_79 (by decide) ?_
                refine lv_istore_n (lv' := [(3, .int (1 : Int32)), (2, .int (0 : Int32)), (5, .int r_50), (0, .ref (b + 62)), (1, .int x1), (4, .int x4)]) hx hb dX6_readsTest_83 rfl hl (by decide) rfl (fun ls hl => ?_)
                refine lv_iload_n hx hb dX6_readsTest_84 rfl (lv_at hl 1 rfl) ?_
                refine lv_if_ne (tgt := 94) hx hb dX6_readsTest_85 (by decide) (fun c_74 => absurd (by decide) c_74) (fun _ => ?_)
                refine lv_iload_n hx hb dX6_readsTest_88 rfl (lv_at hl 0 rfl) ?_
                refine lv_if_ne (tgt := 94) hx hb dX6_readsTest_89 (by decide) (fun _ => ?_) (fun c_75 => absurd c_75 (by decide))
                refine lv_aload_n hx hb dX6_readsTest_94 rfl (lv_at hl 3 rfl) ?_
                refine x_getR X hK hw (cw_mem hC 62 (by decide)) (cw_S hC 62 rfl) cpX6 0 (by decide) rfl (cw_R hC 62 0 (by decide) rfl) tw_544 dX6_readsTest_95 ?_
                obtain ⟨r_76, I_77, J_78, hq_79, hf⟩ := yb_b3_some hf
                refine x_callv X hK hw (c3_passWord l D cz ev hC hq_79) (cw_mem hC 2 (by decide)) (cw_S hC 2 rfl) cpX3.1 vw_X6_47 ⟨Nat.le_trans (m := 7) (Nat.le_of_ble_eq_true rfl) (Nat.le_add_right _ _), Nat.le_trans (m := 156) (Nat.le_of_ble_eq_true rfl) (Nat.le_add_right _ _)⟩ rfl rfl (Nat.le_of_ble_eq_true rfl) hl.1 ⟨Nat.le_refl _, Nat.le_refl _⟩ dX6_readsTest_98 (fun H locs hw => ?_)
                obtain ⟨x4_80, ex4_80, hf⟩ := yb_let_ex hf
                refine lv_iinc (v := x4_80) (lv' := [(4, .int x4_80), (3, .int (1 : Int32)), (2, .int (0 : Int32)), (5, .int r_50), (0, .ref (b + 62)), (1, .int x1)]) hx hb dX6_readsTest_101 hl (k := 5) rfl (by rw [ex4_80]; rfl) (by decide) rfl (fun ls hl => ?_)
                refine lv_goto (tgt := 7) hx hb dX6_readsTest_104 (by decide) ?_
                exact ih _ _ _ _ _ _ _ _ _ _ _ hf hw (lv_sub hl [4, 5, 2, 1, 0] rfl) hret hfin hexit
          · have hf := yb_pos c_54 hf
            refine lv_iconst (v := (1 : Int32)) hx hb dX6_readsTest_51 (by decide) ?_
            refine lv_goto (tgt := 56) hx hb dX6_readsTest_52 (by decide) ?_
            refine lv_istore_n (lv' := [(2, .int (1 : Int32)), (5, .int r_50), (0, .ref (b + 62)), (1, .int x1), (3, .int x3), (4, .int x4)]) hx hb dX6_readsTest_56 rfl hl (by decide) rfl (fun ls hl => ?_)
            refine lv_iload_n hx hb dX6_readsTest_57 rfl (lv_at hl 0 rfl) ?_
            refine lv_if_ne (tgt := 84) hx hb dX6_readsTest_58 (by decide) (fun _ => ?_) (fun c_81 => absurd c_81 (by decide))
            refine lv_iload_n hx hb dX6_readsTest_84 rfl (lv_at hl 0 rfl) ?_
            refine lv_if_ne (tgt := 94) hx hb dX6_readsTest_85 (by decide) (fun _ => ?_) (fun c_82 => absurd c_82 (by decide))
            refine lv_aload_n hx hb dX6_readsTest_94 rfl (lv_at hl 2 rfl) ?_
            refine x_getR X hK hw (cw_mem hC 62 (by decide)) (cw_S hC 62 rfl) cpX6 0 (by decide) rfl (cw_R hC 62 0 (by decide) rfl) tw_544 dX6_readsTest_95 ?_
            obtain ⟨r_83, I_84, J_85, hq_86, hf⟩ := yb_b3_some hf
            refine x_callv X hK hw (c3_passWord l D cz ev hC hq_86) (cw_mem hC 2 (by decide)) (cw_S hC 2 rfl) cpX3.1 vw_X6_47 ⟨Nat.le_trans (m := 7) (Nat.le_of_ble_eq_true rfl) (Nat.le_add_right _ _), Nat.le_trans (m := 156) (Nat.le_of_ble_eq_true rfl) (Nat.le_add_right _ _)⟩ rfl rfl (Nat.le_of_ble_eq_true rfl) hl.1 ⟨Nat.le_refl _, Nat.le_refl _⟩ dX6_readsTest_98 (fun H locs hw => ?_)
            obtain ⟨x4_87, ex4_87, hf⟩ := yb_let_ex hf
            refine lv_iinc (v := x4_87) (lv' := [(4, .int x4_87), (2, .int (1 : Int32)), (5, .int r_50), (0, .ref (b + 62)), (1, .int x1), (3, .int x3)]) hx hb dX6_readsTest_101 hl (k := 5) rfl (by rw [ex4_87]; rfl) (by decide) rfl (fun ls hl => ?_)
            refine lv_goto (tgt := 7) hx hb dX6_readsTest_104 (by decide) ?_
            exact ih _ _ _ _ _ _ _ _ _ _ _ hf hw (lv_sub hl [3, 4, 1, 5, 0] rfl) hret hfin hexit
      · have hf := yb_pos c_6 hf
        refine lv_iconst (v := (0 : Int32)) hx hb dX6_readsTest_23 (by decide) ?_
        exact yb_retz hfin (by decide) (yb_inl hret hf) hw dX6_readsTest_24
set_option maxHeartbeats 4000000 in
set_option maxRecDepth 100000 in
theorem d6_readsTest (l : Launch) (D : va_G) (cz : Nat → ClassId) (ev : Nat × Nat × Nat) {k b : Nat} {L : List Nat} {S : ST} {Rf : RT} (hC : CW b L S Rf) {rF : Int32 → IT → JT → Option (Int32 × IT × JT)} (hrF : ∀ (y0 : Int32) (I : IT) (J : JT) (r : Int32) (I1 : IT) (J1 : JT), rF y0 I J = some (r, I1, J1) → MTi l D cz ev yX6_readsFact cX6_readsFact 5 (some .boolean) (7 + k) (156 + 25 * k) [.ref (b + 62), .int y0] L S Rf I J r I1 J1) {N : Nat} {x1 : Int32} {I : IT} {J : JT} {r : Int32} {I1 : IT} {J1 : JT} (hf : g6_readsTest N b S Rf rF x1 I J = some (r, I1, J1)) : MTi l D cz ev yX6_readsTest cX6_readsTest 6 (some .boolean) (7 + (k + 1)) (156 + 25 * (k + 1)) [.ref (b + 62), .int x1] L S Rf I J r I1 J1 := by
  unfold g6_readsTest at hf
  refine MTz_of (by decide) (Nat.le_of_ble_eq_true rfl) ?_
  intro p e s m args below meth c Q ls X hK hw hl hfin
  have X : CallFix p m c cX6_readsTest 6 s args gw RX6 := X
  have hx := X.1
  have hb := X.2.1
  have hR_rF : 8 + (5 + 11) + (156 + 25 * k) ≤ 156 + 25 * (k + 1) := by rw [Nat.mul_succ]; omega
  have hl : lv_has ls 6 [(0, .ref (b + 62)), (1, .int x1)] := hl
  refine lv_iconst (v := (0 : Int32)) hx hb dX6_readsTest_0 (by decide) ?_
  refine lv_istore_n (lv' := [(2, .int (0 : Int32)), (0, .ref (b + 62)), (1, .int x1)]) hx hb dX6_readsTest_1 rfl hl (by decide) rfl (fun ls hl => ?_)
  refine lv_iconst (v := (0 : Int32)) hx hb dX6_readsTest_2 (by decide) ?_
  refine lv_istore_n (lv' := [(3, .int (0 : Int32)), (2, .int (0 : Int32)), (0, .ref (b + 62)), (1, .int x1)]) hx hb dX6_readsTest_3 rfl hl (by decide) rfl (fun ls hl => ?_)
  refine lv_iconst (v := (0 : Int32)) hx hb dX6_readsTest_4 (by decide) ?_
  refine lv_istore (lv' := [(4, .int (0 : Int32)), (3, .int (0 : Int32)), (2, .int (0 : Int32)), (0, .ref (b + 62)), (1, .int x1)]) hx hb dX6_readsTest_5 hl (by decide) rfl (fun ls hl => ?_)
  obtain ⟨q_88, I_89, J_90, hq_91, hf⟩ := yb_b3_some hf
  refine v6_readsTest_L7 hC hrF X hK _ _ _ _ _ _ _ _ _ _ _ _ hq_91 hw (lv_sub hl [3, 4, 2, 1, 0] rfl) (fun v hv => by rw [hv] at hf; exact hf) hfin (fun x_93 hx1 H locs ls hw hl => ?_)
  rw [hx1] at hf
  have hf := yb_sm_r hf
  refine lv_iconst (v := (0 : Int32)) hx hb dX6_readsTest_107 (by decide) ?_
  exact yb_retz hfin (by decide) hf hw dX6_readsTest_108
set_option maxHeartbeats 4000000 in
set_option maxRecDepth 100000 in
theorem d6_readsFact (l : Launch) (D : va_G) (cz : Nat → ClassId) (ev : Nat × Nat × Nat) {k b : Nat} {L : List Nat} {S : ST} {Rf : RT} (hC : CW b L S Rf) {rT : Int32 → IT → JT → Option (Int32 × IT × JT)} (hrT : ∀ (y0 : Int32) (I : IT) (J : JT) (r : Int32) (I1 : IT) (J1 : JT), rT y0 I J = some (r, I1, J1) → MTi l D cz ev yX6_readsTest cX6_readsTest 6 (some .boolean) (7 + k) (156 + 25 * k) [.ref (b + 62), .int y0] L S Rf I J r I1 J1) {rF : Int32 → IT → JT → Option (Int32 × IT × JT)} (hrF : ∀ (y0 : Int32) (I : IT) (J : JT) (r : Int32) (I1 : IT) (J1 : JT), rF y0 I J = some (r, I1, J1) → MTi l D cz ev yX6_readsFact cX6_readsFact 5 (some .boolean) (7 + k) (156 + 25 * k) [.ref (b + 62), .int y0] L S Rf I J r I1 J1) {N : Nat} {x1 : Int32} {I : IT} {J : JT} {r : Int32} {I1 : IT} {J1 : JT} (hf : g6_readsFact N b S Rf rT rF x1 I J = some (r, I1, J1)) : MTi l D cz ev yX6_readsFact cX6_readsFact 5 (some .boolean) (7 + (k + 1)) (156 + 25 * (k + 1)) [.ref (b + 62), .int x1] L S Rf I J r I1 J1 := by
  unfold g6_readsFact at hf
  refine MTz_of (by decide) (Nat.le_of_ble_eq_true rfl) ?_
  intro p e s m args below meth c Q ls X hK hw hl hfin
  have X : CallFix p m c cX6_readsFact 5 s args gw RX6 := X
  have hx := X.1
  have hb := X.2.1
  have hR_rT : 8 + (6 + 11) + (156 + 25 * k) ≤ 156 + 25 * (k + 1) := by rw [Nat.mul_succ]; omega
  have hR_rF : 8 + (5 + 11) + (156 + 25 * k) ≤ 156 + 25 * (k + 1) := by rw [Nat.mul_succ]; omega
  have hl : lv_has ls 5 [(0, .ref (b + 62)), (1, .int x1)] := hl
  refine lv_aload_n hx hb dX6_readsFact_0 rfl (lv_at hl 0 rfl) ?_
  refine x_getR X hK hw (cw_mem hC 62 (by decide)) (cw_S hC 62 rfl) cpX6 0 (by decide) rfl (cw_R hC 62 0 (by decide) rfl) tw_544 dX6_readsFact_1 ?_
  obtain ⟨r_1, I_2, J_3, hq_4, hf⟩ := yb_b3_some hf
  refine x_calli X hK hw (c3_word l D cz ev hC hq_4) (cw_mem hC 2 (by decide)) (cw_S hC 2 rfl) cpX3.1 vw_X6_37 ⟨Nat.le_trans (m := 7) (Nat.le_of_ble_eq_true rfl) (Nat.le_add_right _ _), Nat.le_trans (m := 156) (Nat.le_of_ble_eq_true rfl) (Nat.le_add_right _ _)⟩ rfl rfl (Nat.le_of_ble_eq_true rfl) hl.1 ⟨Nat.le_refl _, Nat.le_refl _⟩ dX6_readsFact_4 (fun H locs hw => ?_)
  refine lv_bipush (v := (16 : Int32)) hx hb dX6_readsFact_7 (by decide) ?_
  refine lv_icmp_ne (tgt := 16) hx hb dX6_readsFact_9 (by decide) (fun c_5 => ?_) (fun c_5 => ?_)
  · have hf := yb_neg c_5 hf
    refine lv_iconst (v := (0 : Int32)) hx hb dX6_readsFact_16 (by decide) ?_
    refine lv_istore_n (lv' := [(2, .int (0 : Int32)), (0, .ref (b + 62)), (1, .int x1)]) hx hb dX6_readsFact_17 rfl hl (by decide) rfl (fun ls hl => ?_)
    refine lv_aload_n hx hb dX6_readsFact_18 rfl (lv_at hl 1 rfl) ?_
    refine x_getR X hK hw (cw_mem hC 62 (by decide)) (cw_S hC 62 rfl) cpX6 0 (by decide) rfl (cw_R hC 62 0 (by decide) rfl) tw_544 dX6_readsFact_19 ?_
    obtain ⟨r_6, I_7, J_8, hq_9, hf⟩ := yb_b3_some hf
    refine x_calli X hK hw (c3_sign l D cz ev hC hq_9) (cw_mem hC 2 (by decide)) (cw_S hC 2 rfl) cpX3.1 vw_X6_63 ⟨Nat.le_trans (m := 7) (Nat.le_of_ble_eq_true rfl) (Nat.le_add_right _ _), Nat.le_trans (m := 156) (Nat.le_of_ble_eq_true rfl) (Nat.le_add_right _ _)⟩ rfl rfl (Nat.le_of_ble_eq_true rfl) hl.1 ⟨Nat.le_refl _, Nat.le_refl _⟩ dX6_readsFact_22 (fun H locs hw => ?_)
    refine lv_bipush (v := (91 : Int32)) hx hb dX6_readsFact_25 (by decide) ?_
    refine lv_icmp_ne (tgt := 34) hx hb dX6_readsFact_27 (by decide) (fun c_10 => ?_) (fun c_10 => ?_)
    · have hf := yb_neg c_10 hf
      refine lv_iconst (v := (0 : Int32)) hx hb dX6_readsFact_34 (by decide) ?_
      refine lv_istore_n (lv' := [(3, .int (0 : Int32)), (2, .int (0 : Int32)), (0, .ref (b + 62)), (1, .int x1)]) hx hb dX6_readsFact_35 rfl hl (by decide) rfl (fun ls hl => ?_)
      refine lv_iload_n hx hb dX6_readsFact_36 rfl (lv_at hl 1 rfl) ?_
      refine lv_if_ne (tgt := 82) hx hb dX6_readsFact_37 (by decide) (fun c_11 => absurd (by decide) c_11) (fun _ => ?_)
      refine lv_iload_n hx hb dX6_readsFact_40 rfl (lv_at hl 0 rfl) ?_
      refine lv_if_ne (tgt := 82) hx hb dX6_readsFact_41 (by decide) (fun c_12 => absurd (by decide) c_12) (fun _ => ?_)
      refine lv_aload_n hx hb dX6_readsFact_44 rfl (lv_at hl 2 rfl) ?_
      obtain ⟨r_13, I_14, J_15, hq_16, hf⟩ := yb_b3_some hf
      refine x_calli X hK hw (c6_readsSum l D cz ev hC hq_16) (cw_mem hC 62 (by decide)) (cw_S hC 62 rfl) cpX6.1 vw_X6_50 ⟨Nat.le_trans (m := 7) (Nat.le_of_ble_eq_true rfl) (Nat.le_add_right _ _), Nat.le_trans (m := 156) (Nat.le_of_ble_eq_true rfl) (Nat.le_add_right _ _)⟩ rfl rfl (Nat.le_of_ble_eq_true rfl) hl.1 ⟨Nat.le_refl _, Nat.le_refl _⟩ dX6_readsFact_45 (fun H locs hw => ?_)
      refine lv_if_ne (tgt := 53) hx hb dX6_readsFact_48 (by decide) (fun c_17 => ?_) (fun c_17 => ?_)
      · have hf := yb_neg c_17 hf
        refine lv_aload_n hx hb dX6_readsFact_53 rfl (lv_at hl 2 rfl) ?_
        obtain ⟨r_18, I_19, J_20, hq_21, hf⟩ := yb_b3_some hf
        refine x_calli X hK hw (c6_readsComparison l D cz ev hC hq_21) (cw_mem hC 62 (by decide)) (cw_S hC 62 rfl) cpX6.1 vw_X6_74 ⟨Nat.le_trans (m := 7) (Nat.le_of_ble_eq_true rfl) (Nat.le_add_right _ _), Nat.le_trans (m := 156) (Nat.le_of_ble_eq_true rfl) (Nat.le_add_right _ _)⟩ rfl rfl (Nat.le_of_ble_eq_true rfl) hl.1 ⟨Nat.le_refl _, Nat.le_refl _⟩ dX6_readsFact_54 (fun H locs hw => ?_)
        refine lv_istore (lv' := [(4, .int r_18), (3, .int (0 : Int32)), (2, .int (0 : Int32)), (0, .ref (b + 62)), (1, .int x1)]) hx hb dX6_readsFact_57 hl (by decide) rfl (fun ls hl => ?_)
        refine lv_iload hx hb dX6_readsFact_59 (lv_at hl 0 rfl) ?_
        refine lv_iconst (v := (-1 : Int32)) hx hb dX6_readsFact_61 (by decide) ?_
        refine lv_icmp_eq (tgt := 72) hx hb dX6_readsFact_62 (by decide) (fun c_22 => ?_) (fun c_22 => ?_)
        · have hf := yb_pos c_22 hf
          refine lv_iconst (v := (0 : Int32)) hx hb dX6_readsFact_72 (by decide) ?_
          exact yb_retz hfin (by decide) hf hw dX6_readsFact_73
        · have hf := yb_neg c_22 hf
          refine lv_aload_n hx hb dX6_readsFact_65 rfl (lv_at hl 3 rfl) ?_
          obtain ⟨r_23, I_24, J_25, hq_26, hf⟩ := yb_b3_some hf
          refine x_calli X hK hw (c6_readsSum l D cz ev hC hq_26) (cw_mem hC 62 (by decide)) (cw_S hC 62 rfl) cpX6.1 vw_X6_50 ⟨Nat.le_trans (m := 7) (Nat.le_of_ble_eq_true rfl) (Nat.le_add_right _ _), Nat.le_trans (m := 156) (Nat.le_of_ble_eq_true rfl) (Nat.le_add_right _ _)⟩ rfl rfl (Nat.le_of_ble_eq_true rfl) hl.1 ⟨Nat.le_refl _, Nat.le_refl _⟩ dX6_readsFact_66 (fun H locs hw => ?_)
          refine lv_if_ne (tgt := 74) hx hb dX6_readsFact_69 (by decide) (fun c_27 => ?_) (fun c_27 => ?_)
          · have hf := yb_neg c_27 hf
            refine lv_aload_n hx hb dX6_readsFact_74 rfl (lv_at hl 3 rfl) ?_
            refine lv_iload hx hb dX6_readsFact_75 (lv_at hl 0 rfl) ?_
            obtain ⟨r_28, I_29, J_30, hq_31, hf⟩ := yb_b3_some hf
            refine x_callv X hK hw (c6_put l D cz ev hC hq_31) (cw_mem hC 62 (by decide)) (cw_S hC 62 rfl) cpX6.1 vw_X6_59 ⟨Nat.le_trans (m := 7) (Nat.le_of_ble_eq_true rfl) (Nat.le_add_right _ _), Nat.le_trans (m := 156) (Nat.le_of_ble_eq_true rfl) (Nat.le_add_right _ _)⟩ rfl rfl (Nat.le_of_ble_eq_true rfl) hl.1 ⟨Nat.le_refl _, Nat.le_refl _⟩ dX6_readsFact_77 (fun H locs hw => ?_)
            refine lv_iconst (v := (1 : Int32)) hx hb dX6_readsFact_80 (by decide) ?_
            exact yb_retz hfin (by decide) hf hw dX6_readsFact_81
          · have hf := yb_pos c_27 hf
            refine lv_iconst (v := (0 : Int32)) hx hb dX6_readsFact_72 (by decide) ?_
            exact yb_retz hfin (by decide) hf hw dX6_readsFact_73
      · have hf := yb_pos c_17 hf
        refine lv_iconst (v := (0 : Int32)) hx hb dX6_readsFact_51 (by decide) ?_
        exact yb_retz hfin (by decide) hf hw dX6_readsFact_52
    · have hf := yb_pos c_10 hf
      refine lv_iconst (v := (1 : Int32)) hx hb dX6_readsFact_30 (by decide) ?_
      refine lv_goto (tgt := 35) hx hb dX6_readsFact_31 (by decide) ?_
      refine lv_istore_n (lv' := [(3, .int (1 : Int32)), (2, .int (0 : Int32)), (0, .ref (b + 62)), (1, .int x1)]) hx hb dX6_readsFact_35 rfl hl (by decide) rfl (fun ls hl => ?_)
      refine lv_iload_n hx hb dX6_readsFact_36 rfl (lv_at hl 1 rfl) ?_
      refine lv_if_ne (tgt := 82) hx hb dX6_readsFact_37 (by decide) (fun c_32 => absurd (by decide) c_32) (fun _ => ?_)
      refine lv_iload_n hx hb dX6_readsFact_40 rfl (lv_at hl 0 rfl) ?_
      refine lv_if_ne (tgt := 82) hx hb dX6_readsFact_41 (by decide) (fun _ => ?_) (fun c_33 => absurd c_33 (by decide))
      refine lv_iload_n hx hb dX6_readsFact_82 rfl (lv_at hl 3 rfl) ?_
      refine lv_bipush (v := (10 : Int32)) hx hb dX6_readsFact_83 (by decide) ?_
      refine lv_icmp_lt (tgt := 97) hx hb dX6_readsFact_85 (by decide) (fun c_34 => ?_) (fun c_34 => ?_)
      · have hf := yb_pos c_34 hf
        refine lv_iload_n hx hb dX6_readsFact_97 rfl (lv_at hl 1 rfl) ?_
        refine lv_if_eq (tgt := 128) hx hb dX6_readsFact_98 (by decide) (fun _ => ?_) (fun c_35 => absurd (by decide) c_35)
        refine lv_aload_n hx hb dX6_readsFact_128 rfl (lv_at hl 2 rfl) ?_
        refine x_getR X hK hw (cw_mem hC 62 (by decide)) (cw_S hC 62 rfl) cpX6 0 (by decide) rfl (cw_R hC 62 0 (by decide) rfl) tw_544 dX6_readsFact_129 ?_
        obtain ⟨r_36, I_37, J_38, hq_39, hf⟩ := yb_b3_some hf
        refine x_callv X hK hw (c3_passSign l D cz ev hC hq_39) (cw_mem hC 2 (by decide)) (cw_S hC 2 rfl) cpX3.1 vw_X6_66 ⟨Nat.le_trans (m := 7) (Nat.le_of_ble_eq_true rfl) (Nat.le_add_right _ _), Nat.le_trans (m := 156) (Nat.le_of_ble_eq_true rfl) (Nat.le_add_right _ _)⟩ rfl rfl (Nat.le_of_ble_eq_true rfl) hl.1 ⟨Nat.le_refl _, Nat.le_refl _⟩ dX6_readsFact_132 (fun H locs hw => ?_)
        refine lv_aload_n hx hb dX6_readsFact_135 rfl (lv_at hl 2 rfl) ?_
        refine lv_iload_n hx hb dX6_readsFact_136 rfl (lv_at hl 3 rfl) ?_
        refine lv_iconst (v := (1 : Int32)) hx hb dX6_readsFact_137 (by decide) ?_
        refine lv_iadd hx hb dX6_readsFact_138 ?_
        obtain ⟨r_40, I_41, J_42, hq_43, hf⟩ := yb_b3_some hf
        refine x_calli X hK hw (hrT _ _ _ _ _ _ hq_43) (cw_mem hC 62 (by decide)) (cw_S hC 62 rfl) cpX6.1 vw_X6_54 ⟨Nat.le_refl _, hR_rT⟩ rfl rfl (Nat.le_of_ble_eq_true rfl) hl.1 ⟨Nat.le_refl _, Nat.le_refl _⟩ dX6_readsFact_139 (fun H locs hw => ?_)
        refine lv_if_ne (tgt := 147) hx hb dX6_readsFact_142 (by decide) (fun c_44 => ?_) (fun c_44 => ?_)
        · have hf := yb_neg c_44 hf
          refine lv_aload_n hx hb dX6_readsFact_147 rfl (lv_at hl 2 rfl) ?_
          refine x_getR X hK hw (cw_mem hC 62 (by decide)) (cw_S hC 62 rfl) cpX6 0 (by decide) rfl (cw_R hC 62 0 (by decide) rfl) tw_544 dX6_readsFact_148 ?_
          obtain ⟨r_45, I_46, J_47, hq_48, hf⟩ := yb_b3_some hf
          refine x_calli X hK hw (c3_sign l D cz ev hC hq_48) (cw_mem hC 2 (by decide)) (cw_S hC 2 rfl) cpX3.1 vw_X6_63 ⟨Nat.le_trans (m := 7) (Nat.le_of_ble_eq_true rfl) (Nat.le_add_right _ _), Nat.le_trans (m := 156) (Nat.le_of_ble_eq_true rfl) (Nat.le_add_right _ _)⟩ rfl rfl (Nat.le_of_ble_eq_true rfl) hl.1 ⟨Nat.le_refl _, Nat.le_refl _⟩ dX6_readsFact_151 (fun H locs hw => ?_)
          refine lv_bipush (v := (93 : Int32)) hx hb dX6_readsFact_154 (by decide) ?_
          refine lv_icmp_eq (tgt := 168) hx hb dX6_readsFact_156 (by decide) (fun c_49 => ?_) (fun c_49 => ?_)
          · have hf := yb_pos c_49 hf
            refine lv_aload_n hx hb dX6_readsFact_168 rfl (lv_at hl 2 rfl) ?_
            refine x_getR X hK hw (cw_mem hC 62 (by decide)) (cw_S hC 62 rfl) cpX6 0 (by decide) rfl (cw_R hC 62 0 (by decide) rfl) tw_544 dX6_readsFact_169 ?_
            obtain ⟨r_50, I_51, J_52, hq_53, hf⟩ := yb_b3_some hf
            refine x_callv X hK hw (c3_passSign l D cz ev hC hq_53) (cw_mem hC 2 (by decide)) (cw_S hC 2 rfl) cpX3.1 vw_X6_66 ⟨Nat.le_trans (m := 7) (Nat.le_of_ble_eq_true rfl) (Nat.le_add_right _ _), Nat.le_trans (m := 156) (Nat.le_of_ble_eq_true rfl) (Nat.le_add_right _ _)⟩ rfl rfl (Nat.le_of_ble_eq_true rfl) hl.1 ⟨Nat.le_refl _, Nat.le_refl _⟩ dX6_readsFact_172 (fun H locs hw => ?_)
            refine lv_iconst (v := (1 : Int32)) hx hb dX6_readsFact_175 (by decide) ?_
            exact yb_retz hfin (by decide) hf hw dX6_readsFact_176
          · have hf := yb_neg c_49 hf
            refine lv_aload_n hx hb dX6_readsFact_159 rfl (lv_at hl 2 rfl) ?_
            refine x_getR X hK hw (cw_mem hC 62 (by decide)) (cw_S hC 62 rfl) cpX6 0 (by decide) rfl (cw_R hC 62 0 (by decide) rfl) tw_544 dX6_readsFact_160 ?_
            refine lv_iconst (v := (0 : Int32)) hx hb dX6_readsFact_163 (by decide) ?_
            obtain ⟨r_54, I_55, J_56, hq_57, hf⟩ := yb_b3_some hf
            refine x_calli X hK hw (c3_fail l D cz ev hC hq_57) (cw_mem hC 2 (by decide)) (cw_S hC 2 rfl) cpX3.1 vw_X6_43 ⟨Nat.le_trans (m := 7) (Nat.le_of_ble_eq_true rfl) (Nat.le_add_right _ _), Nat.le_trans (m := 156) (Nat.le_of_ble_eq_true rfl) (Nat.le_add_right _ _)⟩ rfl rfl (Nat.le_of_ble_eq_true rfl) hl.1 ⟨Nat.le_refl _, Nat.le_refl _⟩ dX6_readsFact_164 (fun H locs hw => ?_)
            obtain ⟨hz_58, hf⟩ := yb_ck_some hf
            exact yb_retz hfin hz_58 hf hw dX6_readsFact_167
        · have hf := yb_pos c_44 hf
          refine lv_iconst (v := (0 : Int32)) hx hb dX6_readsFact_145 (by decide) ?_
          exact yb_retz hfin (by decide) hf hw dX6_readsFact_146
      · have hf := yb_neg c_34 hf
        refine lv_aload_n hx hb dX6_readsFact_88 rfl (lv_at hl 2 rfl) ?_
        refine x_getR X hK hw (cw_mem hC 62 (by decide)) (cw_S hC 62 rfl) cpX6 0 (by decide) rfl (cw_R hC 62 0 (by decide) rfl) tw_544 dX6_readsFact_89 ?_
        refine lv_iconst (v := (2 : Int32)) hx hb dX6_readsFact_92 (by decide) ?_
        obtain ⟨r_59, I_60, J_61, hq_62, hf⟩ := yb_b3_some hf
        refine x_calli X hK hw (c3_fail l D cz ev hC hq_62) (cw_mem hC 2 (by decide)) (cw_S hC 2 rfl) cpX3.1 vw_X6_43 ⟨Nat.le_trans (m := 7) (Nat.le_of_ble_eq_true rfl) (Nat.le_add_right _ _), Nat.le_trans (m := 156) (Nat.le_of_ble_eq_true rfl) (Nat.le_add_right _ _)⟩ rfl rfl (Nat.le_of_ble_eq_true rfl) hl.1 ⟨Nat.le_refl _, Nat.le_refl _⟩ dX6_readsFact_93 (fun H locs hw => ?_)
        obtain ⟨hz_63, hf⟩ := yb_ck_some hf
        exact yb_retz hfin hz_63 hf hw dX6_readsFact_96
  · have hf := yb_pos c_5 hf
    refine lv_iconst (v := (1 : Int32)) hx hb dX6_readsFact_12 (by decide) ?_
    refine lv_goto (tgt := 17) hx hb dX6_readsFact_13 (by decide) ?_
    refine lv_istore_n (lv' := [(2, .int (1 : Int32)), (0, .ref (b + 62)), (1, .int x1)]) hx hb dX6_readsFact_17 rfl hl (by decide) rfl (fun ls hl => ?_)
    refine lv_aload_n hx hb dX6_readsFact_18 rfl (lv_at hl 1 rfl) ?_
    refine x_getR X hK hw (cw_mem hC 62 (by decide)) (cw_S hC 62 rfl) cpX6 0 (by decide) rfl (cw_R hC 62 0 (by decide) rfl) tw_544 dX6_readsFact_19 ?_
    obtain ⟨r_64, I_65, J_66, hq_67, hf⟩ := yb_b3_some hf
    refine x_calli X hK hw (c3_sign l D cz ev hC hq_67) (cw_mem hC 2 (by decide)) (cw_S hC 2 rfl) cpX3.1 vw_X6_63 ⟨Nat.le_trans (m := 7) (Nat.le_of_ble_eq_true rfl) (Nat.le_add_right _ _), Nat.le_trans (m := 156) (Nat.le_of_ble_eq_true rfl) (Nat.le_add_right _ _)⟩ rfl rfl (Nat.le_of_ble_eq_true rfl) hl.1 ⟨Nat.le_refl _, Nat.le_refl _⟩ dX6_readsFact_22 (fun H locs hw => ?_)
    refine lv_bipush (v := (91 : Int32)) hx hb dX6_readsFact_25 (by decide) ?_
    refine lv_icmp_ne (tgt := 34) hx hb dX6_readsFact_27 (by decide) (fun c_68 => ?_) (fun c_68 => ?_)
    · have hf := yb_neg c_68 hf
      refine lv_iconst (v := (0 : Int32)) hx hb dX6_readsFact_34 (by decide) ?_
      refine lv_istore_n (lv' := [(3, .int (0 : Int32)), (2, .int (1 : Int32)), (0, .ref (b + 62)), (1, .int x1)]) hx hb dX6_readsFact_35 rfl hl (by decide) rfl (fun ls hl => ?_)
      refine lv_iload_n hx hb dX6_readsFact_36 rfl (lv_at hl 1 rfl) ?_
      refine lv_if_ne (tgt := 82) hx hb dX6_readsFact_37 (by decide) (fun _ => ?_) (fun c_69 => absurd c_69 (by decide))
      refine lv_iload_n hx hb dX6_readsFact_82 rfl (lv_at hl 3 rfl) ?_
      refine lv_bipush (v := (10 : Int32)) hx hb dX6_readsFact_83 (by decide) ?_
      refine lv_icmp_lt (tgt := 97) hx hb dX6_readsFact_85 (by decide) (fun c_70 => ?_) (fun c_70 => ?_)
      · have hf := yb_pos c_70 hf
        refine lv_iload_n hx hb dX6_readsFact_97 rfl (lv_at hl 1 rfl) ?_
        refine lv_if_eq (tgt := 128) hx hb dX6_readsFact_98 (by decide) (fun c_71 => absurd c_71 (by decide)) (fun _ => ?_)
        refine lv_aload_n hx hb dX6_readsFact_101 rfl (lv_at hl 2 rfl) ?_
        refine x_getR X hK hw (cw_mem hC 62 (by decide)) (cw_S hC 62 rfl) cpX6 0 (by decide) rfl (cw_R hC 62 0 (by decide) rfl) tw_544 dX6_readsFact_102 ?_
        obtain ⟨r_72, I_73, J_74, hq_75, hf⟩ := yb_b3_some hf
        refine x_callv X hK hw (c3_passWord l D cz ev hC hq_75) (cw_mem hC 2 (by decide)) (cw_S hC 2 rfl) cpX3.1 vw_X6_47 ⟨Nat.le_trans (m := 7) (Nat.le_of_ble_eq_true rfl) (Nat.le_add_right _ _), Nat.le_trans (m := 156) (Nat.le_of_ble_eq_true rfl) (Nat.le_add_right _ _)⟩ rfl rfl (Nat.le_of_ble_eq_true rfl) hl.1 ⟨Nat.le_refl _, Nat.le_refl _⟩ dX6_readsFact_105 (fun H locs hw => ?_)
        refine lv_aload_n hx hb dX6_readsFact_108 rfl (lv_at hl 2 rfl) ?_
        refine lv_iload_n hx hb dX6_readsFact_109 rfl (lv_at hl 3 rfl) ?_
        refine lv_iconst (v := (1 : Int32)) hx hb dX6_readsFact_110 (by decide) ?_
        refine lv_iadd hx hb dX6_readsFact_111 ?_
        obtain ⟨r_76, I_77, J_78, hq_79, hf⟩ := yb_b3_some hf
        refine x_calli X hK hw (hrF _ _ _ _ _ _ hq_79) (cw_mem hC 62 (by decide)) (cw_S hC 62 rfl) cpX6.1 vw_X6_69 ⟨Nat.le_refl _, hR_rF⟩ rfl rfl (Nat.le_of_ble_eq_true rfl) hl.1 ⟨Nat.le_refl _, Nat.le_refl _⟩ dX6_readsFact_112 (fun H locs hw => ?_)
        refine lv_if_ne (tgt := 120) hx hb dX6_readsFact_115 (by decide) (fun c_80 => ?_) (fun c_80 => ?_)
        · have hf := yb_neg c_80 hf
          refine lv_aload_n hx hb dX6_readsFact_120 rfl (lv_at hl 2 rfl) ?_
          refine lv_ldc (v := (200012 : Int32)) hx hb X.2.2.2.1 (X.2.2.2.2 _ tw_847) dX6_readsFact_121 ?_
          obtain ⟨r_81, I_82, J_83, hq_84, hf⟩ := yb_b3_some hf
          refine x_callv X hK hw (c6_put l D cz ev hC hq_84) (cw_mem hC 62 (by decide)) (cw_S hC 62 rfl) cpX6.1 vw_X6_59 ⟨Nat.le_trans (m := 7) (Nat.le_of_ble_eq_true rfl) (Nat.le_add_right _ _), Nat.le_trans (m := 156) (Nat.le_of_ble_eq_true rfl) (Nat.le_add_right _ _)⟩ rfl rfl (Nat.le_of_ble_eq_true rfl) hl.1 ⟨Nat.le_refl _, Nat.le_refl _⟩ dX6_readsFact_123 (fun H locs hw => ?_)
          refine lv_iconst (v := (1 : Int32)) hx hb dX6_readsFact_126 (by decide) ?_
          exact yb_retz hfin (by decide) hf hw dX6_readsFact_127
        · have hf := yb_pos c_80 hf
          refine lv_iconst (v := (0 : Int32)) hx hb dX6_readsFact_118 (by decide) ?_
          exact yb_retz hfin (by decide) hf hw dX6_readsFact_119
      · have hf := yb_neg c_70 hf
        refine lv_aload_n hx hb dX6_readsFact_88 rfl (lv_at hl 2 rfl) ?_
        refine x_getR X hK hw (cw_mem hC 62 (by decide)) (cw_S hC 62 rfl) cpX6 0 (by decide) rfl (cw_R hC 62 0 (by decide) rfl) tw_544 dX6_readsFact_89 ?_
        refine lv_iconst (v := (2 : Int32)) hx hb dX6_readsFact_92 (by decide) ?_
        obtain ⟨r_85, I_86, J_87, hq_88, hf⟩ := yb_b3_some hf
        refine x_calli X hK hw (c3_fail l D cz ev hC hq_88) (cw_mem hC 2 (by decide)) (cw_S hC 2 rfl) cpX3.1 vw_X6_43 ⟨Nat.le_trans (m := 7) (Nat.le_of_ble_eq_true rfl) (Nat.le_add_right _ _), Nat.le_trans (m := 156) (Nat.le_of_ble_eq_true rfl) (Nat.le_add_right _ _)⟩ rfl rfl (Nat.le_of_ble_eq_true rfl) hl.1 ⟨Nat.le_refl _, Nat.le_refl _⟩ dX6_readsFact_93 (fun H locs hw => ?_)
        obtain ⟨hz_89, hf⟩ := yb_ck_some hf
        exact yb_retz hfin hz_89 hf hw dX6_readsFact_96
    · have hf := yb_pos c_68 hf
      refine lv_iconst (v := (1 : Int32)) hx hb dX6_readsFact_30 (by decide) ?_
      refine lv_goto (tgt := 35) hx hb dX6_readsFact_31 (by decide) ?_
      refine lv_istore_n (lv' := [(3, .int (1 : Int32)), (2, .int (1 : Int32)), (0, .ref (b + 62)), (1, .int x1)]) hx hb dX6_readsFact_35 rfl hl (by decide) rfl (fun ls hl => ?_)
      refine lv_iload_n hx hb dX6_readsFact_36 rfl (lv_at hl 1 rfl) ?_
      refine lv_if_ne (tgt := 82) hx hb dX6_readsFact_37 (by decide) (fun _ => ?_) (fun c_90 => absurd c_90 (by decide))
      refine lv_iload_n hx hb dX6_readsFact_82 rfl (lv_at hl 3 rfl) ?_
      refine lv_bipush (v := (10 : Int32)) hx hb dX6_readsFact_83 (by decide) ?_
      refine lv_icmp_lt (tgt := 97) hx hb dX6_readsFact_85 (by decide) (fun c_91 => ?_) (fun c_91 => ?_)
      · have hf := yb_pos c_91 hf
        refine lv_iload_n hx hb dX6_readsFact_97 rfl (lv_at hl 1 rfl) ?_
        refine lv_if_eq (tgt := 128) hx hb dX6_readsFact_98 (by decide) (fun c_92 => absurd c_92 (by decide)) (fun _ => ?_)
        refine lv_aload_n hx hb dX6_readsFact_101 rfl (lv_at hl 2 rfl) ?_
        refine x_getR X hK hw (cw_mem hC 62 (by decide)) (cw_S hC 62 rfl) cpX6 0 (by decide) rfl (cw_R hC 62 0 (by decide) rfl) tw_544 dX6_readsFact_102 ?_
        obtain ⟨r_93, I_94, J_95, hq_96, hf⟩ := yb_b3_some hf
        refine x_callv X hK hw (c3_passWord l D cz ev hC hq_96) (cw_mem hC 2 (by decide)) (cw_S hC 2 rfl) cpX3.1 vw_X6_47 ⟨Nat.le_trans (m := 7) (Nat.le_of_ble_eq_true rfl) (Nat.le_add_right _ _), Nat.le_trans (m := 156) (Nat.le_of_ble_eq_true rfl) (Nat.le_add_right _ _)⟩ rfl rfl (Nat.le_of_ble_eq_true rfl) hl.1 ⟨Nat.le_refl _, Nat.le_refl _⟩ dX6_readsFact_105 (fun H locs hw => ?_)
        refine lv_aload_n hx hb dX6_readsFact_108 rfl (lv_at hl 2 rfl) ?_
        refine lv_iload_n hx hb dX6_readsFact_109 rfl (lv_at hl 3 rfl) ?_
        refine lv_iconst (v := (1 : Int32)) hx hb dX6_readsFact_110 (by decide) ?_
        refine lv_iadd hx hb dX6_readsFact_111 ?_
        obtain ⟨r_97, I_98, J_99, hq_100, hf⟩ := yb_b3_some hf
        refine x_calli X hK hw (hrF _ _ _ _ _ _ hq_100) (cw_mem hC 62 (by decide)) (cw_S hC 62 rfl) cpX6.1 vw_X6_69 ⟨Nat.le_refl _, hR_rF⟩ rfl rfl (Nat.le_of_ble_eq_true rfl) hl.1 ⟨Nat.le_refl _, Nat.le_refl _⟩ dX6_readsFact_112 (fun H locs hw => ?_)
        refine lv_if_ne (tgt := 120) hx hb dX6_readsFact_115 (by decide) (fun c_101 => ?_) (fun c_101 => ?_)
        · have hf := yb_neg c_101 hf
          refine lv_aload_n hx hb dX6_readsFact_120 rfl (lv_at hl 2 rfl) ?_
          refine lv_ldc (v := (200012 : Int32)) hx hb X.2.2.2.1 (X.2.2.2.2 _ tw_847) dX6_readsFact_121 ?_
          obtain ⟨r_102, I_103, J_104, hq_105, hf⟩ := yb_b3_some hf
          refine x_callv X hK hw (c6_put l D cz ev hC hq_105) (cw_mem hC 62 (by decide)) (cw_S hC 62 rfl) cpX6.1 vw_X6_59 ⟨Nat.le_trans (m := 7) (Nat.le_of_ble_eq_true rfl) (Nat.le_add_right _ _), Nat.le_trans (m := 156) (Nat.le_of_ble_eq_true rfl) (Nat.le_add_right _ _)⟩ rfl rfl (Nat.le_of_ble_eq_true rfl) hl.1 ⟨Nat.le_refl _, Nat.le_refl _⟩ dX6_readsFact_123 (fun H locs hw => ?_)
          refine lv_iconst (v := (1 : Int32)) hx hb dX6_readsFact_126 (by decide) ?_
          exact yb_retz hfin (by decide) hf hw dX6_readsFact_127
        · have hf := yb_pos c_101 hf
          refine lv_iconst (v := (0 : Int32)) hx hb dX6_readsFact_118 (by decide) ?_
          exact yb_retz hfin (by decide) hf hw dX6_readsFact_119
      · have hf := yb_neg c_91 hf
        refine lv_aload_n hx hb dX6_readsFact_88 rfl (lv_at hl 2 rfl) ?_
        refine x_getR X hK hw (cw_mem hC 62 (by decide)) (cw_S hC 62 rfl) cpX6 0 (by decide) rfl (cw_R hC 62 0 (by decide) rfl) tw_544 dX6_readsFact_89 ?_
        refine lv_iconst (v := (2 : Int32)) hx hb dX6_readsFact_92 (by decide) ?_
        obtain ⟨r_106, I_107, J_108, hq_109, hf⟩ := yb_b3_some hf
        refine x_calli X hK hw (c3_fail l D cz ev hC hq_109) (cw_mem hC 2 (by decide)) (cw_S hC 2 rfl) cpX3.1 vw_X6_43 ⟨Nat.le_trans (m := 7) (Nat.le_of_ble_eq_true rfl) (Nat.le_add_right _ _), Nat.le_trans (m := 156) (Nat.le_of_ble_eq_true rfl) (Nat.le_add_right _ _)⟩ rfl rfl (Nat.le_of_ble_eq_true rfl) hl.1 ⟨Nat.le_refl _, Nat.le_refl _⟩ dX6_readsFact_93 (fun H locs hw => ?_)
        obtain ⟨hz_110, hf⟩ := yb_ck_some hf
        exact yb_retz hfin hz_110 hf hw dX6_readsFact_96
theorem c6_rec_readsTest (l : Launch) (D : va_G) (cz : Nat → ClassId) (ev : Nat × Nat × Nat) {b : Nat} {L : List Nat} {S : ST} {Rf : RT} (hC : CW b L S Rf) {N : Nat} : ∀ k : Nat, (∀ (x1 : Int32) (I : IT) (J : JT) (r : Int32) (I1 : IT) (J1 : JT), f6_rec_readsTest N b S Rf k 0 x1 I J = some (r, I1, J1) → MTi l D cz ev yX6_readsTest cX6_readsTest 6 (some .boolean) (7 + k) (156 + 25 * k) [.ref (b + 62), .int x1] L S Rf I J r I1 J1) ∧ (∀ (x1 : Int32) (I : IT) (J : JT) (r : Int32) (I1 : IT) (J1 : JT), f6_rec_readsTest N b S Rf k 1 x1 I J = some (r, I1, J1) → MTi l D cz ev yX6_readsFact cX6_readsFact 5 (some .boolean) (7 + k) (156 + 25 * k) [.ref (b + 62), .int x1] L S Rf I J r I1 J1) := by
  intro k
  induction k with
  | zero =>
    exact ⟨(fun x1 I J r I1 J1 h => by rw [f6_rec_readsTest] at h; cases h), (fun x1 I J r I1 J1 h => by rw [f6_rec_readsTest] at h; cases h)⟩
  | succ k ih =>
    exact ⟨(fun x1 I J r I1 J1 h => by rw [f6_rec_readsTest] at h; exact d6_readsTest l D cz ev hC ih.2 h), (fun x1 I J r I1 J1 h => by rw [f6_rec_readsTest] at h; exact d6_readsFact l D cz ev hC ih.1 ih.2 h)⟩
theorem c6_readsTest (l : Launch) (D : va_G) (cz : Nat → ClassId) (ev : Nat × Nat × Nat) {b : Nat} {L : List Nat} {S : ST} {Rf : RT} (hC : CW b L S Rf) {N : Nat} {x1 : Int32} {I : IT} {J : JT} {r : Int32} {I1 : IT} {J1 : JT} (hf : f6_readsTest N b S Rf x1 I J = some (r, I1, J1)) : MTi l D cz ev yX6_readsTest cX6_readsTest 6 (some .boolean) 33 806 [.ref (b + 62), .int x1] L S Rf I J r I1 J1 := (c6_rec_readsTest l D cz ev hC (N := N) 26).1 x1 I J r I1 J1 hf
theorem c6_readsFact (l : Launch) (D : va_G) (cz : Nat → ClassId) (ev : Nat × Nat × Nat) {b : Nat} {L : List Nat} {S : ST} {Rf : RT} (hC : CW b L S Rf) {N : Nat} {x1 : Int32} {I : IT} {J : JT} {r : Int32} {I1 : IT} {J1 : JT} (hf : f6_readsFact N b S Rf x1 I J = some (r, I1, J1)) : MTi l D cz ev yX6_readsFact cX6_readsFact 5 (some .boolean) 33 806 [.ref (b + 62), .int x1] L S Rf I J r I1 J1 := (c6_rec_readsTest l D cz ev hC (N := N) 26).2 x1 I J r I1 J1 hf
set_option maxHeartbeats 4000000 in
set_option maxRecDepth 100000 in
theorem c4_search (l : Launch) (D : va_G) (cz : Nat → ClassId) (ev : Nat × Nat × Nat) {b : Nat} {L : List Nat} {S : ST} {Rf : RT} (hC : CW b L S Rf) {N : Nat} {I : IT} {J : JT} {r : Unit} {I1 : IT} {J1 : JT} (hf : f4_search N b S Rf I J = some (r, I1, J1)) : MTv l D cz ev yX4_search cX4_search 1 (none) 16 446 [.ref (b + 33)] L S Rf I J r I1 J1 := by
  unfold f4_search at hf
  refine MTv_of (by decide) (Nat.le_of_ble_eq_true rfl) ?_
  intro p e s m args below meth c Q ls X hK hw hl hfin
  have X : CallFix p m c cX4_search 1 s args gw RX4 := X
  have hx := X.1
  have hb := X.2.1
  have hl : lv_has ls 1 [(0, .ref (b + 33))] := hl
  refine lv_aload_n hx hb dX4_search_0 rfl (lv_at hl 0 rfl) ?_
  refine lv_iconst (v := (-1 : Int32)) hx hb dX4_search_1 (by decide) ?_
  refine x_putI X hK hw (cw_mem hC 33 (by decide)) (cw_S hC 33 rfl) cpX4 15 (by decide) rfl rfl rfl tw_442 dX4_search_2 (fun H locs hw => ?_)
  obtain ⟨I_1, eI_1, hf⟩ := yb_let_ex hf
  have hw := yb_wI eI_1 hw
  refine lv_aload_n hx hb dX4_search_5 rfl (lv_at hl 0 rfl) ?_
  refine lv_iconst (v := (-1 : Int32)) hx hb dX4_search_6 (by decide) ?_
  refine x_putI X hK hw (cw_mem hC 33 (by decide)) (cw_S hC 33 rfl) cpX4 16 (by decide) rfl rfl rfl tw_443 dX4_search_7 (fun H locs hw => ?_)
  obtain ⟨I_2, eI_2, hf⟩ := yb_let_ex hf
  have hw := yb_wI eI_2 hw
  refine lv_aload_n hx hb dX4_search_10 rfl (lv_at hl 0 rfl) ?_
  refine x_getR X hK hw (cw_mem hC 33 (by decide)) (cw_S hC 33 rfl) cpX4 10 (by decide) rfl (cw_R hC 33 10 (by decide) rfl) tw_437 dX4_search_11 ?_
  refine lv_iconst (v := (0 : Int32)) hx hb dX4_search_14 (by decide) ?_
  obtain ⟨r_6, I_3, J_4, hq_5, hf⟩ := yb_b3_some hf
  refine x_callsv X hK hw (cJ_fill_53178 l D cz ev (cw_mem hC 43 (by decide)) (cw_S hC 43 rfl) hq_5) sw_X4_149 ⟨Nat.le_of_ble_eq_true rfl, Nat.le_of_ble_eq_true rfl⟩ rfl rfl (Nat.le_of_ble_eq_true rfl) hl.1 ⟨Nat.le_refl _, Nat.le_refl _⟩ dX4_search_15 (fun H locs hw => ?_)
  refine lv_aload_n hx hb dX4_search_18 rfl (lv_at hl 0 rfl) ?_
  refine x_getI X hK hw (cw_mem hC 33 (by decide)) (cw_S hC 33 rfl) cpX4 14 (by decide) rfl tw_441 dX4_search_19 ?_
  refine lv_if_ne (tgt := 33) hx hb dX4_search_22 (by decide) (fun c_7 => ?_) (fun c_7 => ?_)
  · have hf := yb_neg c_7 hf
    refine lv_aload_n hx hb dX4_search_33 rfl (lv_at hl 0 rfl) ?_
    refine lv_iconst (v := (0 : Int32)) hx hb dX4_search_34 (by decide) ?_
    refine lv_iconst (v := (0 : Int32)) hx hb dX4_search_35 (by decide) ?_
    obtain ⟨r_8, I_9, J_10, hq_11, hf⟩ := yb_b3_some hf
    refine x_callv X hK hw (c4_tryRows l D cz ev hC hq_11) (cw_mem hC 33 (by decide)) (cw_S hC 33 rfl) cpX4.1 vw_X4_155 ⟨Nat.le_of_ble_eq_true rfl, Nat.le_of_ble_eq_true rfl⟩ rfl rfl (Nat.le_of_ble_eq_true rfl) hl.1 ⟨Nat.le_refl _, Nat.le_refl _⟩ dX4_search_36 (fun H locs hw => ?_)
    exact yb_retv hfin hf hw dX4_search_39
  · have hf := yb_pos c_7 hf
    refine lv_aload_n hx hb dX4_search_25 rfl (lv_at hl 0 rfl) ?_
    refine lv_iconst (v := (0 : Int32)) hx hb dX4_search_26 (by decide) ?_
    refine x_putI X hK hw (cw_mem hC 33 (by decide)) (cw_S hC 33 rfl) cpX4 15 (by decide) rfl rfl rfl tw_442 dX4_search_27 (fun H locs hw => ?_)
    obtain ⟨I_12, eI_12, hf⟩ := yb_let_ex hf
    have hw := yb_wI eI_12 hw
    refine lv_goto (tgt := 39) hx hb dX4_search_30 (by decide) ?_
    exact yb_retv hfin hf hw dX4_search_39
set_option maxHeartbeats 4000000 in
set_option maxRecDepth 100000 in
theorem c4_answer (l : Launch) (D : va_G) (cz : Nat → ClassId) (ev : Nat × Nat × Nat) {b : Nat} {L : List Nat} {S : ST} {Rf : RT} (hC : CW b L S Rf) {N : Nat} {x1 : Int32} {I : IT} {J : JT} {r : Int32} {I1 : IT} {J1 : JT} (hf : f4_answer N b S Rf x1 I J = some (r, I1, J1)) : MTi l D cz ev yX4_answer cX4_answer 3 (some .int) 17 466 [.ref (b + 33), .int x1] L S Rf I J r I1 J1 := by
  unfold f4_answer at hf
  refine MTi_of (by decide) (Nat.le_of_ble_eq_true rfl) ?_
  intro p e s m args below meth c Q ls X hK hw hl hfin
  have X : CallFix p m c cX4_answer 3 s args gw RX4 := X
  have hx := X.1
  have hb := X.2.1
  have hl : lv_has ls 3 [(0, .ref (b + 33)), (1, .int x1)] := hl
  refine lv_aload_n hx hb dX4_answer_0 rfl (lv_at hl 0 rfl) ?_
  obtain ⟨r_1, I_2, J_3, hq_4, hf⟩ := yb_b3_some hf
  refine x_callv X hK hw (c4_gatherOpen l D cz ev hC hq_4) (cw_mem hC 33 (by decide)) (cw_S hC 33 rfl) cpX4.1 vw_X4_55 ⟨Nat.le_of_ble_eq_true rfl, Nat.le_of_ble_eq_true rfl⟩ rfl rfl (Nat.le_of_ble_eq_true rfl) hl.1 ⟨Nat.le_refl _, Nat.le_refl _⟩ dX4_answer_1 (fun H locs hw => ?_)
  refine lv_aload_n hx hb dX4_answer_4 rfl (lv_at hl 0 rfl) ?_
  refine x_getI X hK hw (cw_mem hC 33 (by decide)) (cw_S hC 33 rfl) cpX4 14 (by decide) rfl tw_441 dX4_answer_5 ?_
  refine lv_iconst (v := (4 : Int32)) hx hb dX4_answer_8 (by decide) ?_
  refine lv_icmp_le (tgt := 15) hx hb dX4_answer_9 (by decide) (fun c_5 => ?_) (fun c_5 => ?_)
  · have hf := yb_pos c_5 hf
    refine lv_aload_n hx hb dX4_answer_15 rfl (lv_at hl 0 rfl) ?_
    obtain ⟨r_6, I_7, J_8, hq_9, hf⟩ := yb_b3_some hf
    refine x_callv X hK hw (c4_placeAll l D cz ev hC hq_9) (cw_mem hC 33 (by decide)) (cw_S hC 33 rfl) cpX4.1 vw_X4_62 ⟨Nat.le_of_ble_eq_true rfl, Nat.le_of_ble_eq_true rfl⟩ rfl rfl (Nat.le_of_ble_eq_true rfl) hl.1 ⟨Nat.le_refl _, Nat.le_refl _⟩ dX4_answer_16 (fun H locs hw => ?_)
    refine lv_aload_n hx hb dX4_answer_19 rfl (lv_at hl 0 rfl) ?_
    obtain ⟨r_10, I_11, J_12, hq_13, hf⟩ := yb_b3_some hf
    refine x_callv X hK hw (c4_search l D cz ev hC hq_13) (cw_mem hC 33 (by decide)) (cw_S hC 33 rfl) cpX4.1 vw_X4_65 ⟨Nat.le_of_ble_eq_true rfl, Nat.le_of_ble_eq_true rfl⟩ rfl rfl (Nat.le_of_ble_eq_true rfl) hl.1 ⟨Nat.le_refl _, Nat.le_refl _⟩ dX4_answer_20 (fun H locs hw => ?_)
    refine lv_aload_n hx hb dX4_answer_23 rfl (lv_at hl 0 rfl) ?_
    refine x_getI X hK hw (cw_mem hC 33 (by decide)) (cw_S hC 33 rfl) cpX4 15 (by decide) rfl tw_442 dX4_answer_24 ?_
    refine lv_if_ge (tgt := 33) hx hb dX4_answer_27 (by decide) (fun c_14 => ?_) (fun c_14 => ?_)
    · have hf := yb_pos c_14 hf
      refine lv_iload_n hx hb dX4_answer_33 rfl (lv_at hl 1 rfl) ?_
      refine lv_iconst (v := (2 : Int32)) hx hb dX4_answer_34 (by decide) ?_
      refine lv_icmp_ge (tgt := 54) hx hb dX4_answer_35 (by decide) (fun c_15 => ?_) (fun c_15 => ?_)
      · have hf := yb_pos c_15 hf
        refine lv_iload_n hx hb dX4_answer_54 rfl (lv_at hl 1 rfl) ?_
        refine lv_iconst (v := (2 : Int32)) hx hb dX4_answer_55 (by decide) ?_
        refine lv_isub hx hb dX4_answer_56 ?_
        refine lv_iconst (v := (4 : Int32)) hx hb dX4_answer_57 (by decide) ?_
        refine lv_irem hx hb dX4_answer_58 (by decide) ?_
        refine lv_topi (fun x2_16 ex2_16 => ?_)
        have hf := yb_let_to ex2_16 hf
        refine lv_istore_n (lv' := [(2, .int x2_16), (0, .ref (b + 33)), (1, .int x1)]) hx hb dX4_answer_59 rfl hl (by decide) rfl (fun ls hl => ?_)
        refine lv_iload_n hx hb dX4_answer_60 rfl (lv_at hl 0 rfl) ?_
        refine lv_aload_n hx hb dX4_answer_61 rfl (lv_at hl 1 rfl) ?_
        refine x_getI X hK hw (cw_mem hC 33 (by decide)) (cw_S hC 33 rfl) cpX4 14 (by decide) rfl tw_441 dX4_answer_62 ?_
        refine lv_icmp_lt (tgt := 71) hx hb dX4_answer_65 (by decide) (fun c_17 => ?_) (fun c_17 => ?_)
        · have hf := yb_pos c_17 hf
          refine lv_iload_n hx hb dX4_answer_71 rfl (lv_at hl 2 rfl) ?_
          refine lv_bipush (v := (6 : Int32)) hx hb dX4_answer_72 (by decide) ?_
          refine lv_icmp_ge (tgt := 86) hx hb dX4_answer_74 (by decide) (fun c_18 => ?_) (fun c_18 => ?_)
          · have hf := yb_pos c_18 hf
            refine lv_iload_n hx hb dX4_answer_86 rfl (lv_at hl 2 rfl) ?_
            refine lv_bipush (v := (10 : Int32)) hx hb dX4_answer_87 (by decide) ?_
            refine lv_icmp_ge (tgt := 101) hx hb dX4_answer_89 (by decide) (fun c_19 => ?_) (fun c_19 => ?_)
            · have hf := yb_pos c_19 hf
              refine lv_aload_n hx hb dX4_answer_101 rfl (lv_at hl 1 rfl) ?_
              refine x_getR X hK hw (cw_mem hC 33 (by decide)) (cw_S hC 33 rfl) cpX4 13 (by decide) rfl (cw_R hC 33 13 (by decide) rfl) tw_440 dX4_answer_102 ?_
              refine lv_iload_n hx hb dX4_answer_105 rfl (lv_at hl 0 rfl) ?_
              obtain ⟨hi_20, hf⟩ := yb_ck_some hf
              refine x_iald X hK hw (cw_mem hC 46 (by decide)) (cw_S hC 46 rfl) hi_20 rfl dX4_answer_106 ?_
              exact yb_reti hfin hf hw dX4_answer_107
            · have hf := yb_neg c_19 hf
              refine lv_aload_n hx hb dX4_answer_92 rfl (lv_at hl 1 rfl) ?_
              refine x_getR X hK hw (cw_mem hC 33 (by decide)) (cw_S hC 33 rfl) cpX4 12 (by decide) rfl (cw_R hC 33 12 (by decide) rfl) tw_439 dX4_answer_93 ?_
              refine lv_iload_n hx hb dX4_answer_96 rfl (lv_at hl 0 rfl) ?_
              obtain ⟨hi_21, hf⟩ := yb_ck_some hf
              refine x_iald X hK hw (cw_mem hC 45 (by decide)) (cw_S hC 45 rfl) hi_21 rfl dX4_answer_97 ?_
              refine lv_goto (tgt := 107) hx hb dX4_answer_98 (by decide) ?_
              exact yb_reti hfin hf hw dX4_answer_107
          · have hf := yb_neg c_18 hf
            refine lv_aload_n hx hb dX4_answer_77 rfl (lv_at hl 1 rfl) ?_
            refine x_getR X hK hw (cw_mem hC 33 (by decide)) (cw_S hC 33 rfl) cpX4 11 (by decide) rfl (cw_R hC 33 11 (by decide) rfl) tw_438 dX4_answer_78 ?_
            refine lv_iload_n hx hb dX4_answer_81 rfl (lv_at hl 0 rfl) ?_
            obtain ⟨hi_22, hf⟩ := yb_ck_some hf
            refine x_iald X hK hw (cw_mem hC 44 (by decide)) (cw_S hC 44 rfl) hi_22 rfl dX4_answer_82 ?_
            refine lv_goto (tgt := 107) hx hb dX4_answer_83 (by decide) ?_
            exact yb_reti hfin hf hw dX4_answer_107
        · have hf := yb_neg c_17 hf
          refine lv_bipush (v := (-2 : Int32)) hx hb dX4_answer_68 (by decide) ?_
          exact yb_reti hfin hf hw dX4_answer_70
      · have hf := yb_neg c_15 hf
        refine lv_iload_n hx hb dX4_answer_38 rfl (lv_at hl 1 rfl) ?_
        refine lv_if_ne (tgt := 49) hx hb dX4_answer_39 (by decide) (fun c_23 => ?_) (fun c_23 => ?_)
        · have hf := yb_neg c_23 hf
          refine lv_aload_n hx hb dX4_answer_49 rfl (lv_at hl 0 rfl) ?_
          refine x_getI X hK hw (cw_mem hC 33 (by decide)) (cw_S hC 33 rfl) cpX4 16 (by decide) rfl tw_443 dX4_answer_50 ?_
          exact yb_reti hfin hf hw dX4_answer_53
        · have hf := yb_pos c_23 hf
          refine lv_aload_n hx hb dX4_answer_42 rfl (lv_at hl 0 rfl) ?_
          refine x_getI X hK hw (cw_mem hC 33 (by decide)) (cw_S hC 33 rfl) cpX4 15 (by decide) rfl tw_442 dX4_answer_43 ?_
          refine lv_goto (tgt := 53) hx hb dX4_answer_46 (by decide) ?_
          exact yb_reti hfin hf hw dX4_answer_53
    · have hf := yb_neg c_14 hf
      refine lv_bipush (v := (-2 : Int32)) hx hb dX4_answer_30 (by decide) ?_
      exact yb_reti hfin hf hw dX4_answer_32
  · have hf := yb_neg c_5 hf
    refine lv_bipush (v := (-3 : Int32)) hx hb dX4_answer_12 (by decide) ?_
    exact yb_reti hfin hf hw dX4_answer_14
set_option maxHeartbeats 4000000 in
set_option maxRecDepth 100000 in
theorem w4_bestPupil_L43 {p : Program} {l : Launch} {e : Env} {s : State} {m : MethodId} {args : Array Value} {below : List Frame} {meth : Method} {c : Code} {Q : State → Prop} {D : va_G} {cz : Nat → ClassId} {A : Nat → Prop} {ev : Nat × Nat × Nat} {b : Nat} {L : List Nat} {S : ST} {Rf : RT} (hC : CW b L S Rf) (X : CallFix p m c cX4_bestPupil 6 s args gw RX4) (hK : KX D cz ev A s) {N : Nat} {x1 : Int32} :
    ∀ (n : Nat) (x3 : Int32) (x4 : Int32) (x5 : Int32) (I : IT) (J : JT) (q : (Int32 × Int32)) (I1 : IT) (J1 : JT) (H : Heap) (locs : List Loc) (ls : Array Slot), f4_bestPupil_L43 N b S Rf x1 n x3 x4 x5 I J = some (q, I1, J1) → WX D cz A L S Rf s.heap I J H locs → lv_has ls 6 [(0, .ref (b + 33)), (1, .int x1), (2, .ref (b + 15)), (3, .int x3), (4, .int x4), (5, .int x5)] →
    (∀ (H : Heap) (locs : List Loc) (ls : Array Slot), WX D cz A L S Rf s.heap I1 J1 H locs → lv_has ls 6 [(1, .int x1), (3, .int q.1), (4, .int q.2)] → W p l e (rmX 17 466) s m args below meth c H locs 0 0 Q (F0 m 133 ls [])) →
    W p l e (rmX 17 466) s m args below meth c H locs 0 0 Q (F0 m 43 ls []) := by
  have hx := X.1
  have hb := X.2.1
  intro n
  induction n with
  | zero =>
    intro x3 x4 x5 I J q I1 J1 H locs ls hf
    rw [f4_bestPupil_L43] at hf
    cases hf
  | succ n ih =>
    intro x3 x4 x5 I J q I1 J1 H locs ls hf hw hl hexit
    rw [f4_bestPupil_L43] at hf
    refine lv_iload hx hb dX4_bestPupil_43 (lv_at hl 5 rfl) ?_
    refine lv_aload_n hx hb dX4_bestPupil_45 rfl (lv_at hl 0 rfl) ?_
    refine x_getR X hK hw (cw_mem hC 33 (by decide)) (cw_S hC 33 rfl) cpX4 0 (by decide) rfl (cw_R hC 33 0 (by decide) rfl) tw_427 dX4_bestPupil_46 ?_
    refine x_getR X hK hw (cw_mem hC 30 (by decide)) (cw_S hC 30 rfl) cpX1 0 (by decide) rfl (cw_R hC 30 0 (by decide) rfl) tw_407 dX4_bestPupil_49 ?_
    refine x_getR X hK hw (cw_now hC).1.1 (cw_now hC).1.2 cpX8 0 (by decide) rfl (cw_now hC).2.1.1 tw_345 dX4_bestPupil_52 ?_
    refine x_getI X hK hw (st_town (cw_now hC)).1.1 (st_town (cw_now hC)).1.2 cpX9 13 (by decide) rfl tw_241 dX4_bestPupil_55 ?_
    refine lv_icmp_ge (tgt := 133) hx hb dX4_bestPupil_58 (by decide) (fun c_10 => ?_) (fun c_10 => ?_)
    · have hf := yb_pos c_10 hf
      obtain ⟨rfl, rfl, rfl⟩ := yb_inj hf
      exact hexit _ _ _ hw (lv_sub hl [1, 3, 4] rfl)
    · have hf := yb_neg c_10 hf
      refine lv_aload_n hx hb dX4_bestPupil_61 rfl (lv_at hl 2 rfl) ?_
      refine lv_iload hx hb dX4_bestPupil_62 (lv_at hl 5 rfl) ?_
      obtain ⟨hi_11, hf⟩ := yb_ck_some hf
      refine x_iald X hK hw (ca_mem (st_course (cw_now hC)) 0 (by decide)) (ca_S (st_course (cw_now hC)) 0 rfl) hi_11 rfl dX4_bestPupil_64 ?_
      refine lv_bipush (v := (9 : Int32)) hx hb dX4_bestPupil_65 (by decide) ?_
      refine lv_icmp_ge (tgt := 127) hx hb dX4_bestPupil_67 (by decide) (fun c_12 => ?_) (fun c_12 => ?_)
      · have hf := yb_pos c_12 hf
        obtain ⟨x5_13, ex5_13, hf⟩ := yb_let_ex hf
        refine lv_iinc (v := x5_13) (lv' := [(5, .int x5_13), (0, .ref (b + 33)), (1, .int x1), (2, .ref (b + 15)), (3, .int x3), (4, .int x4)]) hx hb dX4_bestPupil_127 hl (k := 5) rfl (by rw [ex5_13]; rfl) (by decide) rfl (fun ls hl => ?_)
        refine lv_goto (tgt := 43) hx hb dX4_bestPupil_130 (by decide) ?_
        exact ih _ _ _ _ _ _ _ _ _ _ _ hf hw (lv_sub hl [1, 2, 3, 4, 5, 0] rfl) hexit
      · have hf := yb_neg c_12 hf
        refine lv_aload_n hx hb dX4_bestPupil_70 rfl (lv_at hl 2 rfl) ?_
        refine lv_iload hx hb dX4_bestPupil_71 (lv_at hl 5 rfl) ?_
        refine lv_dup2_11 hx hb dX4_bestPupil_73 rfl rfl ?_
        refine x_iald X hK hw (ca_mem (st_course (cw_now hC)) 0 (by decide)) (ca_S (st_course (cw_now hC)) 0 rfl) hi_11 rfl dX4_bestPupil_74 ?_
        refine lv_iconst (v := (1 : Int32)) hx hb dX4_bestPupil_75 (by decide) ?_
        refine lv_iadd hx hb dX4_bestPupil_76 ?_
        refine x_iast X hK hw (ca_mem (st_course (cw_now hC)) 0 (by decide)) (ca_S (st_course (cw_now hC)) 0 rfl) hi_11 rfl dX4_bestPupil_77 (fun H locs hw => ?_)
        obtain ⟨I_14, eI_14, hf⟩ := yb_let_ex hf
        have hw := yb_wI eI_14 hw
        refine lv_aload_n hx hb dX4_bestPupil_78 rfl (lv_at hl 0 rfl) ?_
        refine lv_iload hx hb dX4_bestPupil_79 (lv_at hl 5 rfl) ?_
        obtain ⟨r_15, I_16, J_17, hq_18, hf⟩ := yb_b3_some hf
        refine x_callv X hK hw (c4_weigh l D cz ev hC hq_18) (cw_mem hC 33 (by decide)) (cw_S hC 33 rfl) cpX4.1 vw_X4_100 ⟨Nat.le_of_ble_eq_true rfl, Nat.le_of_ble_eq_true rfl⟩ rfl rfl (Nat.le_of_ble_eq_true rfl) hl.1 ⟨Nat.le_refl _, Nat.le_refl _⟩ dX4_bestPupil_81 (fun H locs hw => ?_)
        refine lv_aload_n hx hb dX4_bestPupil_84 rfl (lv_at hl 0 rfl) ?_
        obtain ⟨r_19, I_20, J_21, hq_22, hf⟩ := yb_b3_some hf
        refine x_callv X hK hw (c4_search l D cz ev hC hq_22) (cw_mem hC 33 (by decide)) (cw_S hC 33 rfl) cpX4.1 vw_X4_65 ⟨Nat.le_of_ble_eq_true rfl, Nat.le_of_ble_eq_true rfl⟩ rfl rfl (Nat.le_of_ble_eq_true rfl) hl.1 ⟨Nat.le_refl _, Nat.le_refl _⟩ dX4_bestPupil_85 (fun H locs hw => ?_)
        refine lv_aload_n hx hb dX4_bestPupil_88 rfl (lv_at hl 2 rfl) ?_
        refine lv_iload hx hb dX4_bestPupil_89 (lv_at hl 5 rfl) ?_
        refine lv_dup2_11 hx hb dX4_bestPupil_91 rfl rfl ?_
        refine x_iald X hK hw (ca_mem (st_course (cw_now hC)) 0 (by decide)) (ca_S (st_course (cw_now hC)) 0 rfl) hi_11 rfl dX4_bestPupil_92 ?_
        refine lv_iconst (v := (1 : Int32)) hx hb dX4_bestPupil_93 (by decide) ?_
        refine lv_isub hx hb dX4_bestPupil_94 ?_
        refine x_iast X hK hw (ca_mem (st_course (cw_now hC)) 0 (by decide)) (ca_S (st_course (cw_now hC)) 0 rfl) hi_11 rfl dX4_bestPupil_95 (fun H locs hw => ?_)
        obtain ⟨I_23, eI_23, hf⟩ := yb_let_ex hf
        have hw := yb_wI eI_23 hw
        refine lv_aload_n hx hb dX4_bestPupil_96 rfl (lv_at hl 0 rfl) ?_
        refine lv_iload hx hb dX4_bestPupil_97 (lv_at hl 5 rfl) ?_
        obtain ⟨r_24, I_25, J_26, hq_27, hf⟩ := yb_b3_some hf
        refine x_callv X hK hw (c4_weigh l D cz ev hC hq_27) (cw_mem hC 33 (by decide)) (cw_S hC 33 rfl) cpX4.1 vw_X4_100 ⟨Nat.le_of_ble_eq_true rfl, Nat.le_of_ble_eq_true rfl⟩ rfl rfl (Nat.le_of_ble_eq_true rfl) hl.1 ⟨Nat.le_refl _, Nat.le_refl _⟩ dX4_bestPupil_99 (fun H locs hw => ?_)
        refine lv_aload_n hx hb dX4_bestPupil_102 rfl (lv_at hl 0 rfl) ?_
        refine x_getI X hK hw (cw_mem hC 33 (by decide)) (cw_S hC 33 rfl) cpX4 15 (by decide) rfl tw_442 dX4_bestPupil_103 ?_
        refine lv_iload hx hb dX4_bestPupil_106 (lv_at hl 4 rfl) ?_
        refine lv_icmp_le (tgt := 127) hx hb dX4_bestPupil_108 (by decide) (fun c_28 => ?_) (fun c_28 => ?_)
        · have hf := yb_pos c_28 hf
          obtain ⟨x5_29, ex5_29, hf⟩ := yb_let_ex hf
          refine lv_iinc (v := x5_29) (lv' := [(5, .int x5_29), (0, .ref (b + 33)), (1, .int x1), (2, .ref (b + 15)), (3, .int x3), (4, .int x4)]) hx hb dX4_bestPupil_127 hl (k := 5) rfl (by rw [ex5_29]; rfl) (by decide) rfl (fun ls hl => ?_)
          refine lv_goto (tgt := 43) hx hb dX4_bestPupil_130 (by decide) ?_
          exact ih _ _ _ _ _ _ _ _ _ _ _ hf hw (lv_sub hl [1, 2, 3, 4, 5, 0] rfl) hexit
        · have hf := yb_neg c_28 hf
          refine lv_aload_n hx hb dX4_bestPupil_111 rfl (lv_at hl 0 rfl) ?_
          refine x_getI X hK hw (cw_mem hC 33 (by decide)) (cw_S hC 33 rfl) cpX4 15 (by decide) rfl tw_442 dX4_bestPupil_112 ?_
          refine lv_if_lt (tgt := 127) hx hb dX4_bestPupil_115 (by decide) (fun c_30 => ?_) (fun c_30 => ?_)
          · have hf := yb_pos c_30 hf
            obtain ⟨x5_31, ex5_31, hf⟩ := yb_let_ex hf
            refine lv_iinc (v := x5_31) (lv' := [(5, .int x5_31), (0, .ref (b + 33)), (1, .int x1), (2, .ref (b + 15)), (3, .int x3), (4, .int x4)]) hx hb dX4_bestPupil_127 hl (k := 5) rfl (by rw [ex5_31]; rfl) (by decide) rfl (fun ls hl => ?_)
            refine lv_goto (tgt := 43) hx hb dX4_bestPupil_130 (by decide) ?_
            exact ih _ _ _ _ _ _ _ _ _ _ _ hf hw (lv_sub hl [1, 2, 3, 4, 5, 0] rfl) hexit
          · have hf := yb_neg c_30 hf
            refine lv_aload_n hx hb dX4_bestPupil_118 rfl (lv_at hl 0 rfl) ?_
            refine x_getI X hK hw (cw_mem hC 33 (by decide)) (cw_S hC 33 rfl) cpX4 15 (by decide) rfl tw_442 dX4_bestPupil_119 ?_
            refine lv_topi (fun x4_32 ex4_32 => ?_)
            have hf := yb_let_to ex4_32 hf
            refine lv_istore (lv' := [(4, .int x4_32), (0, .ref (b + 33)), (1, .int x1), (2, .ref (b + 15)), (3, .int x3), (5, .int x5)]) hx hb dX4_bestPupil_122 hl (by decide) rfl (fun ls hl => ?_)
            refine lv_iload hx hb dX4_bestPupil_124 (lv_at hl 5 rfl) ?_
            refine lv_istore_n (lv' := [(3, .int x5), (4, .int x4_32), (0, .ref (b + 33)), (1, .int x1), (2, .ref (b + 15)), (5, .int x5)]) hx hb dX4_bestPupil_126 rfl hl (by decide) rfl (fun ls hl => ?_)
            obtain ⟨x5_33, ex5_33, hf⟩ := yb_let_ex hf
            refine lv_iinc (v := x5_33) (lv' := [(5, .int x5_33), (3, .int x5), (4, .int x4_32), (0, .ref (b + 33)), (1, .int x1), (2, .ref (b + 15))]) hx hb dX4_bestPupil_127 hl (k := 5) rfl (by rw [ex5_33]; rfl) (by decide) rfl (fun ls hl => ?_)
            refine lv_goto (tgt := 43) hx hb dX4_bestPupil_130 (by decide) ?_
            exact ih _ _ _ _ _ _ _ _ _ _ _ hf hw (lv_sub hl [3, 4, 5, 1, 2, 0] rfl) hexit
set_option maxHeartbeats 4000000 in
set_option maxRecDepth 100000 in
theorem c4_bestPupil (l : Launch) (D : va_G) (cz : Nat → ClassId) (ev : Nat × Nat × Nat) {b : Nat} {L : List Nat} {S : ST} {Rf : RT} (hC : CW b L S Rf) {N : Nat} {x1 : Int32} {I : IT} {J : JT} {r : Int32} {I1 : IT} {J1 : JT} (hf : f4_bestPupil N b S Rf x1 I J = some (r, I1, J1)) : MTi l D cz ev yX4_bestPupil cX4_bestPupil 6 (some .int) 17 466 [.ref (b + 33), .int x1] L S Rf I J r I1 J1 := by
  unfold f4_bestPupil at hf
  refine MTi_of (by decide) (Nat.le_of_ble_eq_true rfl) ?_
  intro p e s m args below meth c Q ls X hK hw hl hfin
  have X : CallFix p m c cX4_bestPupil 6 s args gw RX4 := X
  have hx := X.1
  have hb := X.2.1
  have hl : lv_has ls 6 [(0, .ref (b + 33)), (1, .int x1)] := hl
  refine lv_aload_n hx hb dX4_bestPupil_0 rfl (lv_at hl 0 rfl) ?_
  obtain ⟨r_1, I_2, J_3, hq_4, hf⟩ := yb_b3_some hf
  refine x_callv X hK hw (c4_gatherOpen l D cz ev hC hq_4) (cw_mem hC 33 (by decide)) (cw_S hC 33 rfl) cpX4.1 vw_X4_55 ⟨Nat.le_of_ble_eq_true rfl, Nat.le_of_ble_eq_true rfl⟩ rfl rfl (Nat.le_of_ble_eq_true rfl) hl.1 ⟨Nat.le_refl _, Nat.le_refl _⟩ dX4_bestPupil_1 (fun H locs hw => ?_)
  refine lv_aload_n hx hb dX4_bestPupil_4 rfl (lv_at hl 0 rfl) ?_
  refine x_getI X hK hw (cw_mem hC 33 (by decide)) (cw_S hC 33 rfl) cpX4 14 (by decide) rfl tw_441 dX4_bestPupil_5 ?_
  refine lv_iconst (v := (4 : Int32)) hx hb dX4_bestPupil_8 (by decide) ?_
  refine lv_icmp_le (tgt := 15) hx hb dX4_bestPupil_9 (by decide) (fun c_5 => ?_) (fun c_5 => ?_)
  · have hf := yb_pos c_5 hf
    refine lv_aload_n hx hb dX4_bestPupil_15 rfl (lv_at hl 0 rfl) ?_
    obtain ⟨r_6, I_7, J_8, hq_9, hf⟩ := yb_b3_some hf
    refine x_callv X hK hw (c4_placeAll l D cz ev hC hq_9) (cw_mem hC 33 (by decide)) (cw_S hC 33 rfl) cpX4.1 vw_X4_62 ⟨Nat.le_of_ble_eq_true rfl, Nat.le_of_ble_eq_true rfl⟩ rfl rfl (Nat.le_of_ble_eq_true rfl) hl.1 ⟨Nat.le_refl _, Nat.le_refl _⟩ dX4_bestPupil_16 (fun H locs hw => ?_)
    refine lv_aload_n hx hb dX4_bestPupil_19 rfl (lv_at hl 0 rfl) ?_
    refine x_getR X hK hw (cw_mem hC 33 (by decide)) (cw_S hC 33 rfl) cpX4 0 (by decide) rfl (cw_R hC 33 0 (by decide) rfl) tw_427 dX4_bestPupil_20 ?_
    refine x_getR X hK hw (cw_mem hC 30 (by decide)) (cw_S hC 30 rfl) cpX1 0 (by decide) rfl (cw_R hC 30 0 (by decide) rfl) tw_407 dX4_bestPupil_23 ?_
    refine x_getR X hK hw (cw_now hC).1.1 (cw_now hC).1.2 cpX8 1 (by decide) rfl (cw_now hC).2.2.1.1 tw_348 dX4_bestPupil_26 ?_
    refine x_getR X hK hw (st_course (cw_now hC)).1.1 (st_course (cw_now hC)).1.2 cpX0 0 (by decide) rfl (ca_R (st_course (cw_now hC)) 0 (by decide)) tw_287 dX4_bestPupil_29 ?_
    refine lv_astore_n (lv' := [(2, .ref (b + 15)), (0, .ref (b + 33)), (1, .int x1)]) hx hb dX4_bestPupil_32 rfl hl (by decide) rfl (fun ls hl => ?_)
    refine lv_bipush (v := (-2 : Int32)) hx hb dX4_bestPupil_33 (by decide) ?_
    refine lv_istore_n (lv' := [(3, .int (-2 : Int32)), (2, .ref (b + 15)), (0, .ref (b + 33)), (1, .int x1)]) hx hb dX4_bestPupil_35 rfl hl (by decide) rfl (fun ls hl => ?_)
    refine lv_bipush (v := (-2 : Int32)) hx hb dX4_bestPupil_36 (by decide) ?_
    refine lv_istore (lv' := [(4, .int (-2 : Int32)), (3, .int (-2 : Int32)), (2, .ref (b + 15)), (0, .ref (b + 33)), (1, .int x1)]) hx hb dX4_bestPupil_38 hl (by decide) rfl (fun ls hl => ?_)
    refine lv_iconst (v := (0 : Int32)) hx hb dX4_bestPupil_40 (by decide) ?_
    refine lv_istore (lv' := [(5, .int (0 : Int32)), (4, .int (-2 : Int32)), (3, .int (-2 : Int32)), (2, .ref (b + 15)), (0, .ref (b + 33)), (1, .int x1)]) hx hb dX4_bestPupil_41 hl (by decide) rfl (fun ls hl => ?_)
    obtain ⟨q_34, I_35, J_36, hq_37, hf⟩ := yb_b3_some hf
    refine w4_bestPupil_L43 hC X hK _ _ _ _ _ _ _ _ _ _ _ _ hq_37 hw (lv_sub hl [4, 5, 3, 2, 1, 0] rfl) (fun H locs ls hw hl => ?_)
    refine lv_iload_n hx hb dX4_bestPupil_133 rfl (lv_at hl 0 rfl) ?_
    refine lv_if_eq (tgt := 141) hx hb dX4_bestPupil_134 (by decide) (fun c_38 => ?_) (fun c_38 => ?_)
    · have hf := yb_pos c_38 hf
      refine lv_iload hx hb dX4_bestPupil_141 (lv_at hl 2 rfl) ?_
      exact yb_reti hfin hf hw dX4_bestPupil_143
    · have hf := yb_neg c_38 hf
      refine lv_iload_n hx hb dX4_bestPupil_137 rfl (lv_at hl 1 rfl) ?_
      refine lv_goto (tgt := 143) hx hb dX4_bestPupil_138 (by decide) ?_
      exact yb_reti hfin hf hw dX4_bestPupil_143
  · have hf := yb_neg c_5 hf
    refine lv_bipush (v := (-3 : Int32)) hx hb dX4_bestPupil_12 (by decide) ?_
    exact yb_reti hfin hf hw dX4_bestPupil_14
set_option maxHeartbeats 4000000 in
set_option maxRecDepth 100000 in
theorem w6_reads_L12 {p : Program} {l : Launch} {e : Env} {s : State} {m : MethodId} {args : Array Value} {below : List Frame} {meth : Method} {c : Code} {Q : State → Prop} {D : va_G} {cz : Nat → ClassId} {A : Nat → Prop} {ev : Nat × Nat × Nat} {b : Nat} {L : List Nat} {S : ST} {Rf : RT} (hC : CW b L S Rf) (X : CallFix p m c cX6_reads 3 s args gw RX6) (hK : KX D cz ev A s) {N : Nat} {rM : Int32} {IM : IT} {JM : JT} :
    ∀ (n : Nat) (x1 : Int32) (I : IT) (J : JT) (q : (Int32 ⊕ (Unit))) (I1 : IT) (J1 : JT) (H : Heap) (locs : List Loc) (ls : Array Slot), f6_reads_L12 N b S Rf n x1 I J = some (q, I1, J1) → WX D cz A L S Rf s.heap I J H locs → lv_has ls 3 [(0, .ref (b + 62)), (1, .int x1)] →
    (∀ v, q = .inl v → some (v, I1, J1) = some (rM, IM, JM)) → (∀ (H : Heap) (locs : List Loc) (ls : Array Slot) (pc : Nat), bz rM = true → WX D cz A L S Rf s.heap IM JM H locs → decode cX6_reads pc = .ok (.ireturn, 1) → W p l e (rmX 34 831) s m args below meth c H locs 0 0 Q (F0 m pc ls [.int rM])) →
    (∀ xq, q = .inr xq → ∀ (H : Heap) (locs : List Loc) (ls : Array Slot), WX D cz A L S Rf s.heap I1 J1 H locs → lv_has ls 3 [] → W p l e (rmX 34 831) s m args below meth c H locs 0 0 Q (F0 m 171 ls [])) →
    W p l e (rmX 34 831) s m args below meth c H locs 0 0 Q (F0 m 12 ls []) := by
  have hx := X.1
  have hb := X.2.1
  intro n
  induction n with
  | zero =>
    intro x1 I J q I1 J1 H locs ls hf
    rw [f6_reads_L12] at hf
    cases hf
  | succ n ih =>
    intro x1 I J q I1 J1 H locs ls hf hw hl hret hfin hexit
    rw [f6_reads_L12] at hf
    refine lv_iload_n hx hb dX6_reads_12 rfl (lv_at hl 1 rfl) ?_
    refine lv_bipush (v := (12 : Int32)) hx hb dX6_reads_13 (by decide) ?_
    refine lv_icmp_gt (tgt := 171) hx hb dX6_reads_15 (by decide) (fun c_3 => ?_) (fun c_3 => ?_)
    · have hf := yb_pos c_3 hf
      obtain ⟨rfl, rfl, rfl⟩ := yb_inj hf
      exact hexit _ rfl _ _ _ hw (lv_sub hl [] rfl)
    · have hf := yb_neg c_3 hf
      refine lv_aload_n hx hb dX6_reads_18 rfl (lv_at hl 0 rfl) ?_
      refine x_getR X hK hw (cw_mem hC 62 (by decide)) (cw_S hC 62 rfl) cpX6 0 (by decide) rfl (cw_R hC 62 0 (by decide) rfl) tw_544 dX6_reads_19 ?_
      obtain ⟨r_4, I_5, J_6, hq_7, hf⟩ := yb_b3_some hf
      refine x_calli X hK hw (c3_word l D cz ev hC hq_7) (cw_mem hC 2 (by decide)) (cw_S hC 2 rfl) cpX3.1 vw_X6_37 ⟨Nat.le_of_ble_eq_true rfl, Nat.le_of_ble_eq_true rfl⟩ rfl rfl (Nat.le_of_ble_eq_true rfl) hl.1 ⟨Nat.le_refl _, Nat.le_refl _⟩ dX6_reads_22 (fun H locs hw => ?_)
      refine lv_bipush (v := (12 : Int32)) hx hb dX6_reads_25 (by decide) ?_
      refine lv_icmp_eq (tgt := 39) hx hb dX6_reads_27 (by decide) (fun c_8 => ?_) (fun c_8 => ?_)
      · have hf := yb_pos c_8 hf
        refine lv_iload_n hx hb dX6_reads_39 rfl (lv_at hl 1 rfl) ?_
        refine lv_bipush (v := (12 : Int32)) hx hb dX6_reads_40 (by decide) ?_
        refine lv_icmp_ne (tgt := 54) hx hb dX6_reads_42 (by decide) (fun c_9 => ?_) (fun c_9 => ?_)
        · have hf := yb_neg c_9 hf
          refine lv_aload_n hx hb dX6_reads_54 rfl (lv_at hl 0 rfl) ?_
          refine x_getR X hK hw (cw_mem hC 62 (by decide)) (cw_S hC 62 rfl) cpX6 0 (by decide) rfl (cw_R hC 62 0 (by decide) rfl) tw_544 dX6_reads_55 ?_
          obtain ⟨r_10, I_11, J_12, hq_13, hf⟩ := yb_b3_some hf
          refine x_callv X hK hw (c3_passWord l D cz ev hC hq_13) (cw_mem hC 2 (by decide)) (cw_S hC 2 rfl) cpX3.1 vw_X6_47 ⟨Nat.le_of_ble_eq_true rfl, Nat.le_of_ble_eq_true rfl⟩ rfl rfl (Nat.le_of_ble_eq_true rfl) hl.1 ⟨Nat.le_refl _, Nat.le_refl _⟩ dX6_reads_58 (fun H locs hw => ?_)
          refine lv_aload_n hx hb dX6_reads_61 rfl (lv_at hl 0 rfl) ?_
          obtain ⟨r_14, I_15, J_16, hq_17, hf⟩ := yb_b3_some hf
          refine x_calli X hK hw (c6_readsSum l D cz ev hC hq_17) (cw_mem hC 62 (by decide)) (cw_S hC 62 rfl) cpX6.1 vw_X6_50 ⟨Nat.le_of_ble_eq_true rfl, Nat.le_of_ble_eq_true rfl⟩ rfl rfl (Nat.le_of_ble_eq_true rfl) hl.1 ⟨Nat.le_refl _, Nat.le_refl _⟩ dX6_reads_62 (fun H locs hw => ?_)
          refine lv_if_ne (tgt := 70) hx hb dX6_reads_65 (by decide) (fun c_18 => ?_) (fun c_18 => ?_)
          · have hf := yb_neg c_18 hf
            refine lv_aload_n hx hb dX6_reads_70 rfl (lv_at hl 0 rfl) ?_
            refine x_getR X hK hw (cw_mem hC 62 (by decide)) (cw_S hC 62 rfl) cpX6 0 (by decide) rfl (cw_R hC 62 0 (by decide) rfl) tw_544 dX6_reads_71 ?_
            obtain ⟨r_19, I_20, J_21, hq_22, hf⟩ := yb_b3_some hf
            refine x_calli X hK hw (c3_word l D cz ev hC hq_22) (cw_mem hC 2 (by decide)) (cw_S hC 2 rfl) cpX3.1 vw_X6_37 ⟨Nat.le_of_ble_eq_true rfl, Nat.le_of_ble_eq_true rfl⟩ rfl rfl (Nat.le_of_ble_eq_true rfl) hl.1 ⟨Nat.le_refl _, Nat.le_refl _⟩ dX6_reads_74 (fun H locs hw => ?_)
            refine lv_bipush (v := (13 : Int32)) hx hb dX6_reads_77 (by decide) ?_
            refine lv_icmp_eq (tgt := 86) hx hb dX6_reads_79 (by decide) (fun c_23 => ?_) (fun c_23 => ?_)
            · have hf := yb_pos c_23 hf
              refine lv_iconst (v := (0 : Int32)) hx hb dX6_reads_86 (by decide) ?_
              refine lv_istore_n (lv' := [(2, .int (0 : Int32)), (0, .ref (b + 62)), (1, .int x1)]) hx hb dX6_reads_87 rfl hl (by decide) rfl (fun ls hl => ?_)
              refine lv_iload_n hx hb dX6_reads_88 rfl (lv_at hl 0 rfl) ?_
              refine lv_if_ne (tgt := 109) hx hb dX6_reads_89 (by decide) (fun c_24 => absurd (by decide) c_24) (fun _ => ?_)
              refine lv_aload_n hx hb dX6_reads_92 rfl (lv_at hl 1 rfl) ?_
              refine x_getR X hK hw (cw_mem hC 62 (by decide)) (cw_S hC 62 rfl) cpX6 0 (by decide) rfl (cw_R hC 62 0 (by decide) rfl) tw_544 dX6_reads_93 ?_
              obtain ⟨r_25, I_26, J_27, hq_28, hf⟩ := yb_b3_some hf
              refine x_callv X hK hw (c3_passWord l D cz ev hC hq_28) (cw_mem hC 2 (by decide)) (cw_S hC 2 rfl) cpX3.1 vw_X6_47 ⟨Nat.le_of_ble_eq_true rfl, Nat.le_of_ble_eq_true rfl⟩ rfl rfl (Nat.le_of_ble_eq_true rfl) hl.1 ⟨Nat.le_refl _, Nat.le_refl _⟩ dX6_reads_96 (fun H locs hw => ?_)
              refine lv_aload_n hx hb dX6_reads_99 rfl (lv_at hl 1 rfl) ?_
              refine lv_iconst (v := (0 : Int32)) hx hb dX6_reads_100 (by decide) ?_
              obtain ⟨r_29, I_30, J_31, hq_32, hf⟩ := yb_b3_some hf
              refine x_calli X hK hw (c6_readsTest l D cz ev hC hq_32) (cw_mem hC 62 (by decide)) (cw_S hC 62 rfl) cpX6.1 vw_X6_54 ⟨Nat.le_of_ble_eq_true rfl, Nat.le_of_ble_eq_true rfl⟩ rfl rfl (Nat.le_of_ble_eq_true rfl) hl.1 ⟨Nat.le_refl _, Nat.le_refl _⟩ dX6_reads_101 (fun H locs hw => ?_)
              refine lv_if_ne (tgt := 109) hx hb dX6_reads_104 (by decide) (fun c_33 => ?_) (fun c_33 => ?_)
              · have hf := yb_neg c_33 hf
                refine lv_aload_n hx hb dX6_reads_109 rfl (lv_at hl 1 rfl) ?_
                refine lv_iload_n hx hb dX6_reads_110 rfl (lv_at hl 0 rfl) ?_
                refine lv_if_eq (tgt := 119) hx hb dX6_reads_111 (by decide) (fun _ => ?_) (fun c_34 => absurd (by decide) c_34)
                refine lv_ldc (v := (200014 : Int32)) hx hb X.2.2.2.1 (X.2.2.2.2 _ tw_851) dX6_reads_119 ?_
                obtain ⟨r_35, I_36, J_37, hq_38, hf⟩ := yb_b3_some hf
                refine x_callv X hK hw (c6_put l D cz ev hC hq_38) (cw_mem hC 62 (by decide)) (cw_S hC 62 rfl) cpX6.1 vw_X6_59 ⟨Nat.le_of_ble_eq_true rfl, Nat.le_of_ble_eq_true rfl⟩ rfl rfl (Nat.le_of_ble_eq_true rfl) hl.1 ⟨Nat.le_refl _, Nat.le_refl _⟩ dX6_reads_121 (fun H locs hw => ?_)
                refine lv_aload_n hx hb dX6_reads_124 rfl (lv_at hl 1 rfl) ?_
                refine x_getR X hK hw (cw_mem hC 62 (by decide)) (cw_S hC 62 rfl) cpX6 0 (by decide) rfl (cw_R hC 62 0 (by decide) rfl) tw_544 dX6_reads_125 ?_
                obtain ⟨r_39, I_40, J_41, hq_42, hf⟩ := yb_b3_some hf
                refine x_calli X hK hw (c3_sign l D cz ev hC hq_42) (cw_mem hC 2 (by decide)) (cw_S hC 2 rfl) cpX3.1 vw_X6_63 ⟨Nat.le_of_ble_eq_true rfl, Nat.le_of_ble_eq_true rfl⟩ rfl rfl (Nat.le_of_ble_eq_true rfl) hl.1 ⟨Nat.le_refl _, Nat.le_refl _⟩ dX6_reads_128 (fun H locs hw => ?_)
                refine lv_iconst (v := (-1 : Int32)) hx hb dX6_reads_131 (by decide) ?_
                refine lv_icmp_ne (tgt := 137) hx hb dX6_reads_132 (by decide) (fun c_43 => ?_) (fun c_43 => ?_)
                · have hf := yb_neg c_43 hf
                  refine lv_aload_n hx hb dX6_reads_137 rfl (lv_at hl 1 rfl) ?_
                  refine x_getR X hK hw (cw_mem hC 62 (by decide)) (cw_S hC 62 rfl) cpX6 0 (by decide) rfl (cw_R hC 62 0 (by decide) rfl) tw_544 dX6_reads_138 ?_
                  obtain ⟨r_44, I_45, J_46, hq_47, hf⟩ := yb_b3_some hf
                  refine x_calli X hK hw (c3_sign l D cz ev hC hq_47) (cw_mem hC 2 (by decide)) (cw_S hC 2 rfl) cpX3.1 vw_X6_63 ⟨Nat.le_of_ble_eq_true rfl, Nat.le_of_ble_eq_true rfl⟩ rfl rfl (Nat.le_of_ble_eq_true rfl) hl.1 ⟨Nat.le_refl _, Nat.le_refl _⟩ dX6_reads_141 (fun H locs hw => ?_)
                  refine lv_bipush (v := (59 : Int32)) hx hb dX6_reads_144 (by decide) ?_
                  refine lv_icmp_eq (tgt := 158) hx hb dX6_reads_146 (by decide) (fun c_48 => ?_) (fun c_48 => ?_)
                  · have hf := yb_pos c_48 hf
                    refine lv_aload_n hx hb dX6_reads_158 rfl (lv_at hl 1 rfl) ?_
                    refine x_getR X hK hw (cw_mem hC 62 (by decide)) (cw_S hC 62 rfl) cpX6 0 (by decide) rfl (cw_R hC 62 0 (by decide) rfl) tw_544 dX6_reads_159 ?_
                    obtain ⟨r_49, I_50, J_51, hq_52, hf⟩ := yb_b3_some hf
                    refine x_callv X hK hw (c3_passSign l D cz ev hC hq_52) (cw_mem hC 2 (by decide)) (cw_S hC 2 rfl) cpX3.1 vw_X6_66 ⟨Nat.le_of_ble_eq_true rfl, Nat.le_of_ble_eq_true rfl⟩ rfl rfl (Nat.le_of_ble_eq_true rfl) hl.1 ⟨Nat.le_refl _, Nat.le_refl _⟩ dX6_reads_162 (fun H locs hw => ?_)
                    obtain ⟨x1_53, ex1_53, hf⟩ := yb_let_ex hf
                    refine lv_iinc (v := x1_53) (lv' := [(1, .int x1_53), (2, .int (0 : Int32)), (0, .ref (b + 62))]) hx hb dX6_reads_165 hl (k := 2) rfl (by rw [ex1_53]; rfl) (by decide) rfl (fun ls hl => ?_)
                    refine lv_goto (tgt := 12) hx hb dX6_reads_168 (by decide) ?_
                    exact ih _ _ _ _ _ _ _ _ _ hf hw (lv_sub hl [2, 0] rfl) hret hfin hexit
                  · have hf := yb_neg c_48 hf
                    refine lv_aload_n hx hb dX6_reads_149 rfl (lv_at hl 1 rfl) ?_
                    refine x_getR X hK hw (cw_mem hC 62 (by decide)) (cw_S hC 62 rfl) cpX6 0 (by decide) rfl (cw_R hC 62 0 (by decide) rfl) tw_544 dX6_reads_150 ?_
                    refine lv_iconst (v := (0 : Int32)) hx hb dX6_reads_153 (by decide) ?_
                    obtain ⟨r_54, I_55, J_56, hq_57, hf⟩ := yb_b3_some hf
                    refine x_calli X hK hw (c3_fail l D cz ev hC hq_57) (cw_mem hC 2 (by decide)) (cw_S hC 2 rfl) cpX3.1 vw_X6_43 ⟨Nat.le_of_ble_eq_true rfl, Nat.le_of_ble_eq_true rfl⟩ rfl rfl (Nat.le_of_ble_eq_true rfl) hl.1 ⟨Nat.le_refl _, Nat.le_refl _⟩ dX6_reads_154 (fun H locs hw => ?_)
                    obtain ⟨hz_58, hf⟩ := yb_ck_some hf
                    exact yb_retz hfin hz_58 (yb_inl hret hf) hw dX6_reads_157
                · have hf := yb_pos c_43 hf
                  refine lv_iconst (v := (1 : Int32)) hx hb dX6_reads_135 (by decide) ?_
                  exact yb_retz hfin (by decide) (yb_inl hret hf) hw dX6_reads_136
              · have hf := yb_pos c_33 hf
                refine lv_iconst (v := (0 : Int32)) hx hb dX6_reads_107 (by decide) ?_
                exact yb_retz hfin (by decide) (yb_inl hret hf) hw dX6_reads_108
            · have hf := yb_neg c_23 hf
              refine lv_iconst (v := (1 : Int32)) hx hb dX6_reads_82 (by decide) ?_
              refine lv_goto (tgt := 87) hx hb dX6_reads_83 (by decide) ?_
              refine lv_istore_n (lv' := [(2, .int (1 : Int32)), (0, .ref (b + 62)), (1, .int x1)]) hx hb dX6_reads_87 rfl hl (by decide) rfl (fun ls hl => ?_)
              refine lv_iload_n hx hb dX6_reads_88 rfl (lv_at hl 0 rfl) ?_
              refine lv_if_ne (tgt := 109) hx hb dX6_reads_89 (by decide) (fun _ => ?_) (fun c_59 => absurd c_59 (by decide))
              refine lv_aload_n hx hb dX6_reads_109 rfl (lv_at hl 1 rfl) ?_
              refine lv_iload_n hx hb dX6_reads_110 rfl (lv_at hl 0 rfl) ?_
              refine lv_if_eq (tgt := 119) hx hb dX6_reads_111 (by decide) (fun c_60 => absurd c_60 (by decide)) (fun _ => ?_)
              refine lv_ldc (v := (200013 : Int32)) hx hb X.2.2.2.1 (X.2.2.2.2 _ tw_850) dX6_reads_114 ?_
              refine lv_goto (tgt := 121) hx hb dX6_reads_116 (by decide) ?_
              obtain ⟨r_61, I_62, J_63, hq_64, hf⟩ := yb_b3_some hf
              refine x_callv X hK hw (c6_put l D cz ev hC hq_64) (cw_mem hC 62 (by decide)) (cw_S hC 62 rfl) cpX6.1 vw_X6_59 ⟨Nat.le_of_ble_eq_true rfl, Nat.le_of_ble_eq_true rfl⟩ rfl rfl (Nat.le_of_ble_eq_true rfl) hl.1 ⟨Nat.le_refl _, Nat.le_refl _⟩ dX6_reads_121 (fun H locs hw => ?_)
              refine lv_aload_n hx hb dX6_reads_124 rfl (lv_at hl 1 rfl) ?_
              refine x_getR X hK hw (cw_mem hC 62 (by decide)) (cw_S hC 62 rfl) cpX6 0 (by decide) rfl (cw_R hC 62 0 (by decide) rfl) tw_544 dX6_reads_125 ?_
              obtain ⟨r_65, I_66, J_67, hq_68, hf⟩ := yb_b3_some hf
              refine x_calli X hK hw (c3_sign l D cz ev hC hq_68) (cw_mem hC 2 (by decide)) (cw_S hC 2 rfl) cpX3.1 vw_X6_63 ⟨Nat.le_of_ble_eq_true rfl, Nat.le_of_ble_eq_true rfl⟩ rfl rfl (Nat.le_of_ble_eq_true rfl) hl.1 ⟨Nat.le_refl _, Nat.le_refl _⟩ dX6_reads_128 (fun H locs hw => ?_)
              refine lv_iconst (v := (-1 : Int32)) hx hb dX6_reads_131 (by decide) ?_
              refine lv_icmp_ne (tgt := 137) hx hb dX6_reads_132 (by decide) (fun c_69 => ?_) (fun c_69 => ?_)
              · have hf := yb_neg c_69 hf
                refine lv_aload_n hx hb dX6_reads_137 rfl (lv_at hl 1 rfl) ?_
                refine x_getR X hK hw (cw_mem hC 62 (by decide)) (cw_S hC 62 rfl) cpX6 0 (by decide) rfl (cw_R hC 62 0 (by decide) rfl) tw_544 dX6_reads_138 ?_
                obtain ⟨r_70, I_71, J_72, hq_73, hf⟩ := yb_b3_some hf
                refine x_calli X hK hw (c3_sign l D cz ev hC hq_73) (cw_mem hC 2 (by decide)) (cw_S hC 2 rfl) cpX3.1 vw_X6_63 ⟨Nat.le_of_ble_eq_true rfl, Nat.le_of_ble_eq_true rfl⟩ rfl rfl (Nat.le_of_ble_eq_true rfl) hl.1 ⟨Nat.le_refl _, Nat.le_refl _⟩ dX6_reads_141 (fun H locs hw => ?_)
                refine lv_bipush (v := (59 : Int32)) hx hb dX6_reads_144 (by decide) ?_
                refine lv_icmp_eq (tgt := 158) hx hb dX6_reads_146 (by decide) (fun c_74 => ?_) (fun c_74 => ?_)
                · have hf := yb_pos c_74 hf
                  refine lv_aload_n hx hb dX6_reads_158 rfl (lv_at hl 1 rfl) ?_
                  refine x_getR X hK hw (cw_mem hC 62 (by decide)) (cw_S hC 62 rfl) cpX6 0 (by decide) rfl (cw_R hC 62 0 (by decide) rfl) tw_544 dX6_reads_159 ?_
                  obtain ⟨r_75, I_76, J_77, hq_78, hf⟩ := yb_b3_some hf
                  refine x_callv X hK hw (c3_passSign l D cz ev hC hq_78) (cw_mem hC 2 (by decide)) (cw_S hC 2 rfl) cpX3.1 vw_X6_66 ⟨Nat.le_of_ble_eq_true rfl, Nat.le_of_ble_eq_true rfl⟩ rfl rfl (Nat.le_of_ble_eq_true rfl) hl.1 ⟨Nat.le_refl _, Nat.le_refl _⟩ dX6_reads_162 (fun H locs hw => ?_)
                  obtain ⟨x1_79, ex1_79, hf⟩ := yb_let_ex hf
                  refine lv_iinc (v := x1_79) (lv' := [(1, .int x1_79), (2, .int (1 : Int32)), (0, .ref (b + 62))]) hx hb dX6_reads_165 hl (k := 2) rfl (by rw [ex1_79]; rfl) (by decide) rfl (fun ls hl => ?_)
                  refine lv_goto (tgt := 12) hx hb dX6_reads_168 (by decide) ?_
                  exact ih _ _ _ _ _ _ _ _ _ hf hw (lv_sub hl [2, 0] rfl) hret hfin hexit
                · have hf := yb_neg c_74 hf
                  refine lv_aload_n hx hb dX6_reads_149 rfl (lv_at hl 1 rfl) ?_
                  refine x_getR X hK hw (cw_mem hC 62 (by decide)) (cw_S hC 62 rfl) cpX6 0 (by decide) rfl (cw_R hC 62 0 (by decide) rfl) tw_544 dX6_reads_150 ?_
                  refine lv_iconst (v := (0 : Int32)) hx hb dX6_reads_153 (by decide) ?_
                  obtain ⟨r_80, I_81, J_82, hq_83, hf⟩ := yb_b3_some hf
                  refine x_calli X hK hw (c3_fail l D cz ev hC hq_83) (cw_mem hC 2 (by decide)) (cw_S hC 2 rfl) cpX3.1 vw_X6_43 ⟨Nat.le_of_ble_eq_true rfl, Nat.le_of_ble_eq_true rfl⟩ rfl rfl (Nat.le_of_ble_eq_true rfl) hl.1 ⟨Nat.le_refl _, Nat.le_refl _⟩ dX6_reads_154 (fun H locs hw => ?_)
                  obtain ⟨hz_84, hf⟩ := yb_ck_some hf
                  exact yb_retz hfin hz_84 (yb_inl hret hf) hw dX6_reads_157
              · have hf := yb_pos c_69 hf
                refine lv_iconst (v := (1 : Int32)) hx hb dX6_reads_135 (by decide) ?_
                exact yb_retz hfin (by decide) (yb_inl hret hf) hw dX6_reads_136
          · have hf := yb_pos c_18 hf
            refine lv_iconst (v := (0 : Int32)) hx hb dX6_reads_68 (by decide) ?_
            exact yb_retz hfin (by decide) (yb_inl hret hf) hw dX6_reads_69
        · have hf := yb_pos c_9 hf
          refine lv_aload_n hx hb dX6_reads_45 rfl (lv_at hl 0 rfl) ?_
          refine x_getR X hK hw (cw_mem hC 62 (by decide)) (cw_S hC 62 rfl) cpX6 0 (by decide) rfl (cw_R hC 62 0 (by decide) rfl) tw_544 dX6_reads_46 ?_
          refine lv_iconst (v := (4 : Int32)) hx hb dX6_reads_49 (by decide) ?_
          obtain ⟨r_85, I_86, J_87, hq_88, hf⟩ := yb_b3_some hf
          refine x_calli X hK hw (c3_fail l D cz ev hC hq_88) (cw_mem hC 2 (by decide)) (cw_S hC 2 rfl) cpX3.1 vw_X6_43 ⟨Nat.le_of_ble_eq_true rfl, Nat.le_of_ble_eq_true rfl⟩ rfl rfl (Nat.le_of_ble_eq_true rfl) hl.1 ⟨Nat.le_refl _, Nat.le_refl _⟩ dX6_reads_50 (fun H locs hw => ?_)
          obtain ⟨hz_89, hf⟩ := yb_ck_some hf
          exact yb_retz hfin hz_89 (yb_inl hret hf) hw dX6_reads_53
      · have hf := yb_neg c_8 hf
        refine lv_aload_n hx hb dX6_reads_30 rfl (lv_at hl 0 rfl) ?_
        refine x_getR X hK hw (cw_mem hC 62 (by decide)) (cw_S hC 62 rfl) cpX6 0 (by decide) rfl (cw_R hC 62 0 (by decide) rfl) tw_544 dX6_reads_31 ?_
        refine lv_iconst (v := (0 : Int32)) hx hb dX6_reads_34 (by decide) ?_
        obtain ⟨r_90, I_91, J_92, hq_93, hf⟩ := yb_b3_some hf
        refine x_calli X hK hw (c3_fail l D cz ev hC hq_93) (cw_mem hC 2 (by decide)) (cw_S hC 2 rfl) cpX3.1 vw_X6_43 ⟨Nat.le_of_ble_eq_true rfl, Nat.le_of_ble_eq_true rfl⟩ rfl rfl (Nat.le_of_ble_eq_true rfl) hl.1 ⟨Nat.le_refl _, Nat.le_refl _⟩ dX6_reads_35 (fun H locs hw => ?_)
        obtain ⟨hz_94, hf⟩ := yb_ck_some hf
        exact yb_retz hfin hz_94 (yb_inl hret hf) hw dX6_reads_38
set_option maxHeartbeats 4000000 in
set_option maxRecDepth 100000 in
theorem c6_reads (l : Launch) (D : va_G) (cz : Nat → ClassId) (ev : Nat × Nat × Nat) {b : Nat} {L : List Nat} {S : ST} {Rf : RT} (hC : CW b L S Rf) {N : Nat} {I : IT} {J : JT} {r : Int32} {I1 : IT} {J1 : JT} (hf : f6_reads N b S Rf I J = some (r, I1, J1)) : MTi l D cz ev yX6_reads cX6_reads 3 (some .boolean) 34 831 [.ref (b + 62)] L S Rf I J r I1 J1 := by
  unfold f6_reads at hf
  refine MTz_of (by decide) (Nat.le_of_ble_eq_true rfl) ?_
  intro p e s m args below meth c Q ls X hK hw hl hfin
  have X : CallFix p m c cX6_reads 3 s args gw RX6 := X
  have hx := X.1
  have hb := X.2.1
  have hl : lv_has ls 3 [(0, .ref (b + 62))] := hl
  refine lv_aload_n hx hb dX6_reads_0 rfl (lv_at hl 0 rfl) ?_
  refine lv_iconst (v := (0 : Int32)) hx hb dX6_reads_1 (by decide) ?_
  refine x_putI X hK hw (cw_mem hC 62 (by decide)) (cw_S hC 62 rfl) cpX6 2 (by decide) rfl rfl rfl tw_546 dX6_reads_2 (fun H locs hw => ?_)
  obtain ⟨I_1, eI_1, hf⟩ := yb_let_ex hf
  have hw := yb_wI eI_1 hw
  refine lv_aload_n hx hb dX6_reads_5 rfl (lv_at hl 0 rfl) ?_
  refine lv_iconst (v := (0 : Int32)) hx hb dX6_reads_6 (by decide) ?_
  refine x_putI X hK hw (cw_mem hC 62 (by decide)) (cw_S hC 62 rfl) cpX6 3 (by decide) rfl rfl rfl tw_547 dX6_reads_7 (fun H locs hw => ?_)
  obtain ⟨I_2, eI_2, hf⟩ := yb_let_ex hf
  have hw := yb_wI eI_2 hw
  refine lv_iconst (v := (0 : Int32)) hx hb dX6_reads_10 (by decide) ?_
  refine lv_istore_n (lv' := [(1, .int (0 : Int32)), (0, .ref (b + 62))]) hx hb dX6_reads_11 rfl hl (by decide) rfl (fun ls hl => ?_)
  obtain ⟨q_95, I_96, J_97, hq_98, hf⟩ := yb_b3_some hf
  refine w6_reads_L12 hC X hK _ _ _ _ _ _ _ _ _ _ hq_98 hw (lv_sub hl [1, 0] rfl) (fun v hv => by rw [hv] at hf; exact hf) hfin (fun x_100 hx1 H locs ls hw hl => ?_)
  rw [hx1] at hf
  have hf := yb_sm_r hf
  refine lv_iconst (v := (0 : Int32)) hx hb dX6_reads_171 (by decide) ?_
  exact yb_retz hfin (by decide) hf hw dX6_reads_172
set_option maxHeartbeats 4000000 in
set_option maxRecDepth 100000 in
theorem c11_benches (l : Launch) (D : va_G) (cz : Nat → ClassId) (ev : Nat × Nat × Nat) {b : Nat} {L : List Nat} {S : ST} {Rf : RT} (hC : CW b L S Rf) {N : Nat} {x1 : Int32} {I : IT} {J : JT} {r : Int32} {I1 : IT} {J1 : JT} (hf : f11_benches N b S Rf x1 I J = some (r, I1, J1)) : MTi l D cz ev yX11_benches cX11_benches 2 (some .int) 18 488 [.ref b, .int x1] L S Rf I J r I1 J1 := by
  unfold f11_benches at hf
  refine MTi_of (by decide) (Nat.le_of_ble_eq_true rfl) ?_
  intro p e s m args below meth c Q ls X hK hw hl hfin
  have X : CallFix p m c cX11_benches 2 s args gw RX11 := X
  have hx := X.1
  have hb := X.2.1
  have hl : lv_has ls 2 [(0, .ref b), (1, .int x1)] := hl
  refine lv_aload_n hx hb dX11_benches_0 rfl (lv_at hl 0 rfl) ?_
  refine x_getR X hK hw (cw_mem0 hC) (cw_S0 hC) cpX11 3 (by decide) rfl (cw_R hC 0 3 (by decide) rfl) tw_562 dX11_benches_1 ?_
  refine x_getR X hK hw (cw_now hC).1.1 (cw_now hC).1.2 cpX8 0 (by decide) rfl (cw_now hC).2.1.1 tw_346 dX11_benches_4 ?_
  refine x_getI X hK hw (st_town (cw_now hC)).1.1 (st_town (cw_now hC)).1.2 cpX9 8 (by decide) rfl tw_225 dX11_benches_7 ?_
  refine lv_if_eq (tgt := 23) hx hb dX11_benches_10 (by decide) (fun c_1 => ?_) (fun c_1 => ?_)
  · have hf := yb_pos c_1 hf
    refine lv_iconst (v := (-1 : Int32)) hx hb dX11_benches_23 (by decide) ?_
    exact yb_reti hfin hf hw dX11_benches_24
  · have hf := yb_neg c_1 hf
    refine lv_iload_n hx hb dX11_benches_13 rfl (lv_at hl 1 rfl) ?_
    refine lv_if_lt (tgt := 23) hx hb dX11_benches_14 (by decide) (fun c_2 => ?_) (fun c_2 => ?_)
    · have hf := yb_pos c_2 hf
      refine lv_iconst (v := (-1 : Int32)) hx hb dX11_benches_23 (by decide) ?_
      exact yb_reti hfin hf hw dX11_benches_24
    · have hf := yb_neg c_2 hf
      refine lv_iload_n hx hb dX11_benches_17 rfl (lv_at hl 1 rfl) ?_
      refine lv_bipush (v := (13 : Int32)) hx hb dX11_benches_18 (by decide) ?_
      refine lv_icmp_le (tgt := 25) hx hb dX11_benches_20 (by decide) (fun c_3 => ?_) (fun c_3 => ?_)
      · have hf := yb_pos c_3 hf
        refine lv_aload_n hx hb dX11_benches_25 rfl (lv_at hl 0 rfl) ?_
        refine x_getR X hK hw (cw_mem0 hC) (cw_S0 hC) cpX11 7 (by decide) rfl (cw_R hC 0 7 (by decide) rfl) tw_566 dX11_benches_26 ?_
        refine lv_iload_n hx hb dX11_benches_29 rfl (lv_at hl 1 rfl) ?_
        obtain ⟨r_4, I_5, J_6, hq_7, hf⟩ := yb_b3_some hf
        refine x_calli X hK hw (c4_answer l D cz ev hC hq_7) (cw_mem hC 33 (by decide)) (cw_S hC 33 rfl) cpX4.1 vw_X11_265 ⟨Nat.le_of_ble_eq_true rfl, Nat.le_of_ble_eq_true rfl⟩ rfl rfl (Nat.le_of_ble_eq_true rfl) hl.1 ⟨Nat.le_refl _, Nat.le_refl _⟩ dX11_benches_30 (fun H locs hw => ?_)
        exact yb_reti hfin hf hw dX11_benches_33
      · have hf := yb_neg c_3 hf
        refine lv_iconst (v := (-1 : Int32)) hx hb dX11_benches_23 (by decide) ?_
        exact yb_reti hfin hf hw dX11_benches_24
set_option maxHeartbeats 4000000 in
set_option maxRecDepth 100000 in
theorem c11_lesson (l : Launch) (D : va_G) (cz : Nat → ClassId) (ev : Nat × Nat × Nat) {b : Nat} {L : List Nat} {S : ST} {Rf : RT} (hC : CW b L S Rf) {N : Nat} {x1 : Int32} {I : IT} {J : JT} {r : Int32} {I1 : IT} {J1 : JT} (hf : f11_lesson N b S Rf x1 I J = some (r, I1, J1)) : MTi l D cz ev yX11_lesson cX11_lesson 2 (some .int) 18 491 [.ref b, .int x1] L S Rf I J r I1 J1 := by
  unfold f11_lesson at hf
  refine MTi_of (by decide) (Nat.le_of_ble_eq_true rfl) ?_
  intro p e s m args below meth c Q ls X hK hw hl hfin
  have X : CallFix p m c cX11_lesson 2 s args gw RX11 := X
  have hx := X.1
  have hb := X.2.1
  have hl : lv_has ls 2 [(0, .ref b), (1, .int x1)] := hl
  refine lv_aload_n hx hb dX11_lesson_0 rfl (lv_at hl 0 rfl) ?_
  refine x_getR X hK hw (cw_mem0 hC) (cw_S0 hC) cpX11 3 (by decide) rfl (cw_R hC 0 3 (by decide) rfl) tw_562 dX11_lesson_1 ?_
  refine x_getR X hK hw (cw_now hC).1.1 (cw_now hC).1.2 cpX8 0 (by decide) rfl (cw_now hC).2.1.1 tw_346 dX11_lesson_4 ?_
  refine x_getI X hK hw (st_town (cw_now hC)).1.1 (st_town (cw_now hC)).1.2 cpX9 8 (by decide) rfl tw_225 dX11_lesson_7 ?_
  refine lv_if_eq (tgt := 22) hx hb dX11_lesson_10 (by decide) (fun c_1 => ?_) (fun c_1 => ?_)
  · have hf := yb_pos c_1 hf
    refine lv_iconst (v := (-1 : Int32)) hx hb dX11_lesson_22 (by decide) ?_
    exact yb_reti hfin hf hw dX11_lesson_23
  · have hf := yb_neg c_1 hf
    refine lv_iload_n hx hb dX11_lesson_13 rfl (lv_at hl 1 rfl) ?_
    refine lv_if_lt (tgt := 22) hx hb dX11_lesson_14 (by decide) (fun c_2 => ?_) (fun c_2 => ?_)
    · have hf := yb_pos c_2 hf
      refine lv_iconst (v := (-1 : Int32)) hx hb dX11_lesson_22 (by decide) ?_
      exact yb_reti hfin hf hw dX11_lesson_23
    · have hf := yb_neg c_2 hf
      refine lv_iload_n hx hb dX11_lesson_17 rfl (lv_at hl 1 rfl) ?_
      refine lv_iconst (v := (1 : Int32)) hx hb dX11_lesson_18 (by decide) ?_
      refine lv_icmp_le (tgt := 24) hx hb dX11_lesson_19 (by decide) (fun c_3 => ?_) (fun c_3 => ?_)
      · have hf := yb_pos c_3 hf
        refine lv_aload_n hx hb dX11_lesson_24 rfl (lv_at hl 0 rfl) ?_
        refine x_getR X hK hw (cw_mem0 hC) (cw_S0 hC) cpX11 7 (by decide) rfl (cw_R hC 0 7 (by decide) rfl) tw_566 dX11_lesson_25 ?_
        refine lv_iload_n hx hb dX11_lesson_28 rfl (lv_at hl 1 rfl) ?_
        refine lv_if_ne (tgt := 36) hx hb dX11_lesson_29 (by decide) (fun c_4 => ?_) (fun c_4 => ?_)
        · have hf := yb_neg c_4 hf
          refine lv_iconst (v := (0 : Int32)) hx hb dX11_lesson_36 (by decide) ?_
          obtain ⟨r_5, I_6, J_7, hq_8, hf⟩ := yb_b3_some hf
          refine x_calli X hK hw (c4_bestPupil l D cz ev hC hq_8) (cw_mem hC 33 (by decide)) (cw_S hC 33 rfl) cpX4.1 vw_X11_309 ⟨Nat.le_of_ble_eq_true rfl, Nat.le_of_ble_eq_true rfl⟩ rfl rfl (Nat.le_of_ble_eq_true rfl) hl.1 ⟨Nat.le_refl _, Nat.le_refl _⟩ dX11_lesson_37 (fun H locs hw => ?_)
          exact yb_reti hfin hf hw dX11_lesson_40
        · have hf := yb_pos c_4 hf
          refine lv_iconst (v := (1 : Int32)) hx hb dX11_lesson_32 (by decide) ?_
          refine lv_goto (tgt := 37) hx hb dX11_lesson_33 (by decide) ?_
          obtain ⟨r_9, I_10, J_11, hq_12, hf⟩ := yb_b3_some hf
          refine x_calli X hK hw (c4_bestPupil l D cz ev hC hq_12) (cw_mem hC 33 (by decide)) (cw_S hC 33 rfl) cpX4.1 vw_X11_309 ⟨Nat.le_of_ble_eq_true rfl, Nat.le_of_ble_eq_true rfl⟩ rfl rfl (Nat.le_of_ble_eq_true rfl) hl.1 ⟨Nat.le_refl _, Nat.le_refl _⟩ dX11_lesson_37 (fun H locs hw => ?_)
          exact yb_reti hfin hf hw dX11_lesson_40
      · have hf := yb_neg c_3 hf
        refine lv_iconst (v := (-1 : Int32)) hx hb dX11_lesson_22 (by decide) ?_
        exact yb_reti hfin hf hw dX11_lesson_23
