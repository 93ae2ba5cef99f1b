set_option maxHeartbeats 4000000 in
set_option maxRecDepth 100000 in
theorem c11_fact (l : Launch) (D : va_G) (cz : Nat → ClassId) (ev : Nat × Nat × Nat) {b : Nat} {L : List Nat} {S : ST} {Rf : RT} (hC : CW b L S Rf) {x1 : Int32} {x2 : Int32} {x3 : Int32} {I : IT} {J : JT} {r : Int32} {I1 : IT} {J1 : JT} (hf : f11_fact b S Rf x1 x2 x3 I J = some (r, I1, J1)) : MTi l D cz ev yX11_fact cX11_fact 5 (some .int) 1 23 [.ref b, .int x1, .int x2, .int x3] L S Rf I J r I1 J1 := by
  unfold f11_fact at hf
  refine MTi_of (by decide) (Nat.le_of_ble_eq_true rfl) ?_
  intro p e s m args below meth c Q ls X hK hw hl hfin
  have X : CallFix p m c cX11_fact 5 s args gw RX11 := X
  have hx := X.1
  have hb := X.2.1
  have hl : lv_has ls 5 [(0, .ref b), (1, .int x1), (2, .int x2), (3, .int x3)] := hl
  refine lv_iload_n hx hb dX11_fact_0 rfl (lv_at hl 1 rfl) ?_
  refine lv_iconst (v := (-1 : Int32)) hx hb dX11_fact_1 (by decide) ?_
  refine lv_icmp_ne (tgt := 15) hx hb dX11_fact_2 (by decide) (fun c_1 => ?_) (fun c_1 => ?_)
  · have hf := yb_neg c_1 hf
    refine lv_aload_n hx hb dX11_fact_15 rfl (lv_at hl 0 rfl) ?_
    refine x_getR X hK hw (cw_mem0 hC) (cw_S0 hC) cpX11 3 (by decide) rfl (cw_R hC 0 3 (by decide) rfl) tw_562 dX11_fact_16 ?_
    refine x_getR X hK hw (cw_now hC).1.1 (cw_now hC).1.2 cpX8 0 (by decide) rfl (cw_now hC).2.1.1 tw_346 dX11_fact_19 ?_
    refine lv_iload_n hx hb dX11_fact_22 rfl (lv_at hl 1 rfl) ?_
    obtain ⟨r_2, I_3, J_4, hq_5, hf⟩ := yb_b3_some hf
    refine x_calli X hK hw (c9_hasCase l D cz ev hC (st_town (cw_now hC)) hq_5) (st_town (cw_now hC)).1.1 (st_town (cw_now hC)).1.2 cpX9.1 vw_X11_186 ⟨Nat.le_of_ble_eq_true rfl, Nat.le_of_ble_eq_true rfl⟩ rfl rfl (Nat.le_of_ble_eq_true rfl) hl.1 ⟨Nat.le_refl _, Nat.le_refl _⟩ dX11_fact_23 (fun H locs hw => ?_)
    refine lv_if_eq (tgt := 54) hx hb dX11_fact_26 (by decide) (fun c_6 => ?_) (fun c_6 => ?_)
    · have hf := yb_pos c_6 hf
      refine lv_iconst (v := (0 : Int32)) hx hb dX11_fact_54 (by decide) ?_
      refine lv_istore (lv' := [(4, .int (0 : Int32)), (0, .ref b), (1, .int x1), (2, .int x2), (3, .int x3)]) hx hb dX11_fact_55 hl (by decide) rfl (fun ls hl => ?_)
      refine lv_iload hx hb dX11_fact_57 (lv_at hl 0 rfl) ?_
      refine lv_if_eq (tgt := 74) hx hb dX11_fact_59 (by decide) (fun _ => ?_) (fun c_7 => absurd (by decide) c_7)
      refine lv_bipush (v := (-2 : Int32)) hx hb dX11_fact_74 (by decide) ?_
      exact yb_reti hfin hf hw dX11_fact_76
    · have hf := yb_neg c_6 hf
      refine lv_iload_n hx hb dX11_fact_29 rfl (lv_at hl 2 rfl) ?_
      refine lv_if_lt (tgt := 54) hx hb dX11_fact_30 (by decide) (fun c_8 => ?_) (fun c_8 => ?_)
      · have hf := yb_pos c_8 hf
        refine lv_iconst (v := (0 : Int32)) hx hb dX11_fact_54 (by decide) ?_
        refine lv_istore (lv' := [(4, .int (0 : Int32)), (0, .ref b), (1, .int x1), (2, .int x2), (3, .int x3)]) hx hb dX11_fact_55 hl (by decide) rfl (fun ls hl => ?_)
        refine lv_iload hx hb dX11_fact_57 (lv_at hl 0 rfl) ?_
        refine lv_if_eq (tgt := 74) hx hb dX11_fact_59 (by decide) (fun _ => ?_) (fun c_9 => absurd (by decide) c_9)
        refine lv_bipush (v := (-2 : Int32)) hx hb dX11_fact_74 (by decide) ?_
        exact yb_reti hfin hf hw dX11_fact_76
      · have hf := yb_neg c_8 hf
        refine lv_iload_n hx hb dX11_fact_33 rfl (lv_at hl 2 rfl) ?_
        refine lv_bipush (v := (7 : Int32)) hx hb dX11_fact_34 (by decide) ?_
        refine lv_icmp_gt (tgt := 54) hx hb dX11_fact_36 (by decide) (fun c_10 => ?_) (fun c_10 => ?_)
        · have hf := yb_pos c_10 hf
          refine lv_iconst (v := (0 : Int32)) hx hb dX11_fact_54 (by decide) ?_
          refine lv_istore (lv' := [(4, .int (0 : Int32)), (0, .ref b), (1, .int x1), (2, .int x2), (3, .int x3)]) hx hb dX11_fact_55 hl (by decide) rfl (fun ls hl => ?_)
          refine lv_iload hx hb dX11_fact_57 (lv_at hl 0 rfl) ?_
          refine lv_if_eq (tgt := 74) hx hb dX11_fact_59 (by decide) (fun _ => ?_) (fun c_11 => absurd (by decide) c_11)
          refine lv_bipush (v := (-2 : Int32)) hx hb dX11_fact_74 (by decide) ?_
          exact yb_reti hfin hf hw dX11_fact_76
        · have hf := yb_neg c_10 hf
          refine lv_iload_n hx hb dX11_fact_39 rfl (lv_at hl 3 rfl) ?_
          refine lv_if_lt (tgt := 54) hx hb dX11_fact_40 (by decide) (fun c_12 => ?_) (fun c_12 => ?_)
          · have hf := yb_pos c_12 hf
            refine lv_iconst (v := (0 : Int32)) hx hb dX11_fact_54 (by decide) ?_
            refine lv_istore (lv' := [(4, .int (0 : Int32)), (0, .ref b), (1, .int x1), (2, .int x2), (3, .int x3)]) hx hb dX11_fact_55 hl (by decide) rfl (fun ls hl => ?_)
            refine lv_iload hx hb dX11_fact_57 (lv_at hl 0 rfl) ?_
            refine lv_if_eq (tgt := 74) hx hb dX11_fact_59 (by decide) (fun _ => ?_) (fun c_13 => absurd (by decide) c_13)
            refine lv_bipush (v := (-2 : Int32)) hx hb dX11_fact_74 (by decide) ?_
            exact yb_reti hfin hf hw dX11_fact_76
          · have hf := yb_neg c_12 hf
            refine lv_iload_n hx hb dX11_fact_43 rfl (lv_at hl 3 rfl) ?_
            refine lv_sipush (v := (9999 : Int32)) hx hb dX11_fact_44 (by decide) ?_
            refine lv_icmp_gt (tgt := 54) hx hb dX11_fact_47 (by decide) (fun c_14 => ?_) (fun c_14 => ?_)
            · have hf := yb_pos c_14 hf
              refine lv_iconst (v := (0 : Int32)) hx hb dX11_fact_54 (by decide) ?_
              refine lv_istore (lv' := [(4, .int (0 : Int32)), (0, .ref b), (1, .int x1), (2, .int x2), (3, .int x3)]) hx hb dX11_fact_55 hl (by decide) rfl (fun ls hl => ?_)
              refine lv_iload hx hb dX11_fact_57 (lv_at hl 0 rfl) ?_
              refine lv_if_eq (tgt := 74) hx hb dX11_fact_59 (by decide) (fun _ => ?_) (fun c_15 => absurd (by decide) c_15)
              refine lv_bipush (v := (-2 : Int32)) hx hb dX11_fact_74 (by decide) ?_
              exact yb_reti hfin hf hw dX11_fact_76
            · have hf := yb_neg c_14 hf
              refine lv_iconst (v := (1 : Int32)) hx hb dX11_fact_50 (by decide) ?_
              refine lv_goto (tgt := 55) hx hb dX11_fact_51 (by decide) ?_
              refine lv_istore (lv' := [(4, .int (1 : Int32)), (0, .ref b), (1, .int x1), (2, .int x2), (3, .int x3)]) hx hb dX11_fact_55 hl (by decide) rfl (fun ls hl => ?_)
              refine lv_iload hx hb dX11_fact_57 (lv_at hl 0 rfl) ?_
              refine lv_if_eq (tgt := 74) hx hb dX11_fact_59 (by decide) (fun c_16 => absurd c_16 (by decide)) (fun _ => ?_)
              refine lv_aload_n hx hb dX11_fact_62 rfl (lv_at hl 1 rfl) ?_
              refine x_getR X hK hw (cw_mem0 hC) (cw_S0 hC) cpX11 3 (by decide) rfl (cw_R hC 0 3 (by decide) rfl) tw_562 dX11_fact_63 ?_
              refine x_getI X hK hw (cw_now hC).1.1 (cw_now hC).1.2 cpX8 5 (by decide) rfl tw_356 dX11_fact_66 ?_
              refine lv_bipush (v := (10 : Int32)) hx hb dX11_fact_69 (by decide) ?_
              refine lv_icmp_lt (tgt := 77) hx hb dX11_fact_71 (by decide) (fun c_17 => ?_) (fun c_17 => ?_)
              · have hf := yb_pos c_17 hf
                refine lv_aload_n hx hb dX11_fact_77 rfl (lv_at hl 1 rfl) ?_
                refine x_getR X hK hw (cw_mem0 hC) (cw_S0 hC) cpX11 3 (by decide) rfl (cw_R hC 0 3 (by decide) rfl) tw_562 dX11_fact_78 ?_
                refine lv_iload_n hx hb dX11_fact_81 rfl (lv_at hl 2 rfl) ?_
                refine lv_iload_n hx hb dX11_fact_82 rfl (lv_at hl 3 rfl) ?_
                refine lv_iload_n hx hb dX11_fact_83 rfl (lv_at hl 4 rfl) ?_
                obtain ⟨r_18, I_19, J_20, hq_21, hf⟩ := yb_b3_some hf
                refine x_callv X hK hw (c8_addFact l D cz ev hC (cw_now hC) hq_21) (cw_now hC).1.1 (cw_now hC).1.2 cpX8.1 vw_X11_316 ⟨Nat.le_of_ble_eq_true rfl, Nat.le_of_ble_eq_true rfl⟩ rfl rfl (Nat.le_of_ble_eq_true rfl) hl.1 ⟨Nat.le_refl _, Nat.le_refl _⟩ dX11_fact_84 (fun H locs hw => ?_)
                refine lv_aload_n hx hb dX11_fact_87 rfl (lv_at hl 1 rfl) ?_
                refine x_getR X hK hw (cw_mem0 hC) (cw_S0 hC) cpX11 3 (by decide) rfl (cw_R hC 0 3 (by decide) rfl) tw_562 dX11_fact_88 ?_
                refine x_getI X hK hw (cw_now hC).1.1 (cw_now hC).1.2 cpX8 5 (by decide) rfl tw_356 dX11_fact_91 ?_
                exact yb_reti hfin hf hw dX11_fact_94
              · have hf := yb_neg c_17 hf
                refine lv_bipush (v := (-2 : Int32)) hx hb dX11_fact_74 (by decide) ?_
                exact yb_reti hfin hf hw dX11_fact_76
  · have hf := yb_pos c_1 hf
    refine lv_aload_n hx hb dX11_fact_5 rfl (lv_at hl 0 rfl) ?_
    refine x_getR X hK hw (cw_mem0 hC) (cw_S0 hC) cpX11 3 (by decide) rfl (cw_R hC 0 3 (by decide) rfl) tw_562 dX11_fact_6 ?_
    refine lv_iconst (v := (0 : Int32)) hx hb dX11_fact_9 (by decide) ?_
    refine x_putI X hK hw (cw_now hC).1.1 (cw_now hC).1.2 cpX8 5 (by decide) rfl rfl rfl tw_356 dX11_fact_10 (fun H locs hw => ?_)
    obtain ⟨I_22, eI_22, hf⟩ := yb_let_ex hf
    have hw := yb_wI eI_22 hw
    refine lv_iconst (v := (0 : Int32)) hx hb dX11_fact_13 (by decide) ?_
    exact yb_reti hfin hf hw dX11_fact_14
set_option maxHeartbeats 4000000 in
set_option maxRecDepth 100000 in
theorem c11_who (l : Launch) (D : va_G) (cz : Nat → ClassId) (ev : Nat × Nat × Nat) {b : Nat} {L : List Nat} {S : ST} {Rf : RT} (hC : CW b L S Rf) {N : Nat} {x1 : Int32} {x2 : Int32} {I : IT} {J : JT} {r : Int32} {I1 : IT} {J1 : JT} (hf : f11_who N b S Rf x1 x2 I J = some (r, I1, J1)) : MTi l D cz ev yX11_who cX11_who 3 (some .int) 5 125 [.ref b, .int x1, .int x2] L S Rf I J r I1 J1 := by
  unfold f11_who at hf
  refine MTi_of (by decide) (Nat.le_of_ble_eq_true rfl) ?_
  intro p e s m args below meth c Q ls X hK hw hl hfin
  have X : CallFix p m c cX11_who 3 s args gw RX11 := X
  have hx := X.1
  have hb := X.2.1
  have hl : lv_has ls 3 [(0, .ref b), (1, .int x1), (2, .int x2)] := hl
  refine lv_aload_n hx hb dX11_who_0 rfl (lv_at hl 0 rfl) ?_
  refine x_getR X hK hw (cw_mem0 hC) (cw_S0 hC) cpX11 3 (by decide) rfl (cw_R hC 0 3 (by decide) rfl) tw_562 dX11_who_1 ?_
  refine x_getR X hK hw (cw_now hC).1.1 (cw_now hC).1.2 cpX8 0 (by decide) rfl (cw_now hC).2.1.1 tw_346 dX11_who_4 ?_
  refine lv_iload_n hx hb dX11_who_7 rfl (lv_at hl 1 rfl) ?_
  obtain ⟨r_1, I_2, J_3, hq_4, hf⟩ := yb_b3_some hf
  refine x_calli X hK hw (c9_hasCase l D cz ev hC (st_town (cw_now hC)) hq_4) (st_town (cw_now hC)).1.1 (st_town (cw_now hC)).1.2 cpX9.1 vw_X11_186 ⟨Nat.le_of_ble_eq_true rfl, Nat.le_of_ble_eq_true rfl⟩ rfl rfl (Nat.le_of_ble_eq_true rfl) hl.1 ⟨Nat.le_refl _, Nat.le_refl _⟩ dX11_who_8 (fun H locs hw => ?_)
  refine lv_if_eq (tgt := 23) hx hb dX11_who_11 (by decide) (fun c_5 => ?_) (fun c_5 => ?_)
  · have hf := yb_pos c_5 hf
    refine lv_iconst (v := (-1 : Int32)) hx hb dX11_who_23 (by decide) ?_
    exact yb_reti hfin hf hw dX11_who_24
  · have hf := yb_neg c_5 hf
    refine lv_iload_n hx hb dX11_who_14 rfl (lv_at hl 2 rfl) ?_
    refine lv_if_lt (tgt := 23) hx hb dX11_who_15 (by decide) (fun c_6 => ?_) (fun c_6 => ?_)
    · have hf := yb_pos c_6 hf
      refine lv_iconst (v := (-1 : Int32)) hx hb dX11_who_23 (by decide) ?_
      exact yb_reti hfin hf hw dX11_who_24
    · have hf := yb_neg c_6 hf
      refine lv_iload_n hx hb dX11_who_18 rfl (lv_at hl 2 rfl) ?_
      refine lv_iconst (v := (3 : Int32)) hx hb dX11_who_19 (by decide) ?_
      refine lv_icmp_le (tgt := 25) hx hb dX11_who_20 (by decide) (fun c_7 => ?_) (fun c_7 => ?_)
      · have hf := yb_pos c_7 hf
        refine lv_aload_n hx hb dX11_who_25 rfl (lv_at hl 0 rfl) ?_
        refine x_getR X hK hw (cw_mem0 hC) (cw_S0 hC) cpX11 8 (by decide) rfl (cw_R hC 0 8 (by decide) rfl) tw_567 dX11_who_26 ?_
        refine lv_iload_n hx hb dX11_who_29 rfl (lv_at hl 1 rfl) ?_
        obtain ⟨r_8, I_9, J_10, hq_11, hf⟩ := yb_b3_some hf
        refine x_callv X hK hw (c7_sift l D cz ev hC hq_11) (cw_mem hC 48 (by decide)) (cw_S hC 48 rfl) cpX7.1 vw_X11_320 ⟨Nat.le_of_ble_eq_true rfl, Nat.le_of_ble_eq_true rfl⟩ rfl rfl (Nat.le_of_ble_eq_true rfl) hl.1 ⟨Nat.le_refl _, Nat.le_refl _⟩ dX11_who_30 (fun H locs hw => ?_)
        refine lv_iload_n hx hb dX11_who_33 rfl (lv_at hl 2 rfl) ?_
        by_cases c_12 : x2 = (0 : Int32)
        · have hf := yb_pos c_12 hf
          refine lv_tableIn (off := 26) (tgt := 60) hx hb dX11_who_34 (by rw [c_12]; decide) (by rw [c_12]; decide) (by rw [c_12]; rfl) (by decide) ?_
          refine lv_aload_n hx hb dX11_who_60 rfl (lv_at hl 0 rfl) ?_
          refine x_getR X hK hw (cw_mem0 hC) (cw_S0 hC) cpX11 8 (by decide) rfl (cw_R hC 0 8 (by decide) rfl) tw_567 dX11_who_61 ?_
          refine x_getI X hK hw (cw_mem hC 48 (by decide)) (cw_S hC 48 rfl) cpX7 4 (by decide) rfl tw_490 dX11_who_64 ?_
          exact yb_reti hfin hf hw dX11_who_67
        have hf := yb_neg c_12 hf
        by_cases c_13 : x2 = (1 : Int32)
        · have hf := yb_pos c_13 hf
          refine lv_tableIn (off := 34) (tgt := 68) hx hb dX11_who_34 (by rw [c_13]; decide) (by rw [c_13]; decide) (by rw [c_13]; rfl) (by decide) ?_
          refine lv_aload_n hx hb dX11_who_68 rfl (lv_at hl 0 rfl) ?_
          refine x_getR X hK hw (cw_mem0 hC) (cw_S0 hC) cpX11 8 (by decide) rfl (cw_R hC 0 8 (by decide) rfl) tw_567 dX11_who_69 ?_
          refine x_getI X hK hw (cw_mem hC 48 (by decide)) (cw_S hC 48 rfl) cpX7 5 (by decide) rfl tw_492 dX11_who_72 ?_
          exact yb_reti hfin hf hw dX11_who_75
        have hf := yb_neg c_13 hf
        by_cases c_14 : x2 = (2 : Int32)
        · have hf := yb_pos c_14 hf
          refine lv_tableIn (off := 42) (tgt := 76) hx hb dX11_who_34 (by rw [c_14]; decide) (by rw [c_14]; decide) (by rw [c_14]; rfl) (by decide) ?_
          refine lv_aload_n hx hb dX11_who_76 rfl (lv_at hl 0 rfl) ?_
          refine x_getR X hK hw (cw_mem0 hC) (cw_S0 hC) cpX11 8 (by decide) rfl (cw_R hC 0 8 (by decide) rfl) tw_567 dX11_who_77 ?_
          refine x_getI X hK hw (cw_mem hC 48 (by decide)) (cw_S hC 48 rfl) cpX7 6 (by decide) rfl tw_494 dX11_who_80 ?_
          exact yb_reti hfin hf hw dX11_who_83
        have hf := yb_neg c_14 hf
        refine lv_tableOut (tgt := 84) hx hb dX11_who_34 (by
            rcases Int.lt_or_le (x2).toInt 0 with g1 | g1
            · exact Or.inl g1
            · rcases Int.lt_or_le 2 (x2).toInt with g2 | g2
              · exact Or.inr g2
              · exfalso
                have g3 : (x2).toInt = 0 ∨ (x2).toInt = 1 ∨ (x2).toInt = 2 := by omega
                rcases g3 with g3 | g3 | g3
                · exact c_12 (yb_sw (0 : Int32) g3 rfl)
                · exact c_13 (yb_sw (1 : Int32) g3 rfl)
                · exact c_14 (yb_sw (2 : Int32) g3 rfl)) (by decide) ?_
        refine lv_aload_n hx hb dX11_who_84 rfl (lv_at hl 0 rfl) ?_
        refine x_getR X hK hw (cw_mem0 hC) (cw_S0 hC) cpX11 8 (by decide) rfl (cw_R hC 0 8 (by decide) rfl) tw_567 dX11_who_85 ?_
        refine x_getI X hK hw (cw_mem hC 48 (by decide)) (cw_S hC 48 rfl) cpX7 7 (by decide) rfl tw_496 dX11_who_88 ?_
        exact yb_reti hfin hf hw dX11_who_91
      · have hf := yb_neg c_7 hf
        refine lv_iconst (v := (-1 : Int32)) hx hb dX11_who_23 (by decide) ?_
        exact yb_reti hfin hf hw dX11_who_24
set_option maxHeartbeats 4000000 in
set_option maxRecDepth 100000 in
theorem c11_look (l : Launch) (D : va_G) (cz : Nat → ClassId) (ev : Nat × Nat × Nat) {b : Nat} {L : List Nat} {S : ST} {Rf : RT} (hC : CW b L S Rf) {N : Nat} {x1 : Int32} {x2 : Int32} {I : IT} {J : JT} {r : Int32} {I1 : IT} {J1 : JT} (hf : f11_look N b S Rf x1 x2 I J = some (r, I1, J1)) : MTi l D cz ev yX11_look cX11_look 3 (some .int) 5 125 [.ref b, .int x1, .int x2] L S Rf I J r I1 J1 := by
  unfold f11_look at hf
  refine MTi_of (by decide) (Nat.le_of_ble_eq_true rfl) ?_
  intro p e s m args below meth c Q ls X hK hw hl hfin
  have X : CallFix p m c cX11_look 3 s args gw RX11 := X
  have hx := X.1
  have hb := X.2.1
  have hl : lv_has ls 3 [(0, .ref b), (1, .int x1), (2, .int x2)] := hl
  refine lv_aload_n hx hb dX11_look_0 rfl (lv_at hl 0 rfl) ?_
  refine x_getR X hK hw (cw_mem0 hC) (cw_S0 hC) cpX11 3 (by decide) rfl (cw_R hC 0 3 (by decide) rfl) tw_562 dX11_look_1 ?_
  refine x_getR X hK hw (cw_now hC).1.1 (cw_now hC).1.2 cpX8 0 (by decide) rfl (cw_now hC).2.1.1 tw_346 dX11_look_4 ?_
  refine lv_iload_n hx hb dX11_look_7 rfl (lv_at hl 1 rfl) ?_
  obtain ⟨r_1, I_2, J_3, hq_4, hf⟩ := yb_b3_some hf
  refine x_calli X hK hw (c9_hasCase l D cz ev hC (st_town (cw_now hC)) hq_4) (st_town (cw_now hC)).1.1 (st_town (cw_now hC)).1.2 cpX9.1 vw_X11_186 ⟨Nat.le_of_ble_eq_true rfl, Nat.le_of_ble_eq_true rfl⟩ rfl rfl (Nat.le_of_ble_eq_true rfl) hl.1 ⟨Nat.le_refl _, Nat.le_refl _⟩ dX11_look_8 (fun H locs hw => ?_)
  refine lv_if_eq (tgt := 23) hx hb dX11_look_11 (by decide) (fun c_5 => ?_) (fun c_5 => ?_)
  · have hf := yb_pos c_5 hf
    refine lv_iconst (v := (-1 : Int32)) hx hb dX11_look_23 (by decide) ?_
    exact yb_reti hfin hf hw dX11_look_24
  · have hf := yb_neg c_5 hf
    refine lv_iload_n hx hb dX11_look_14 rfl (lv_at hl 2 rfl) ?_
    refine lv_if_lt (tgt := 23) hx hb dX11_look_15 (by decide) (fun c_6 => ?_) (fun c_6 => ?_)
    · have hf := yb_pos c_6 hf
      refine lv_iconst (v := (-1 : Int32)) hx hb dX11_look_23 (by decide) ?_
      exact yb_reti hfin hf hw dX11_look_24
    · have hf := yb_neg c_6 hf
      refine lv_iload_n hx hb dX11_look_18 rfl (lv_at hl 2 rfl) ?_
      refine lv_iconst (v := (1 : Int32)) hx hb dX11_look_19 (by decide) ?_
      refine lv_icmp_le (tgt := 25) hx hb dX11_look_20 (by decide) (fun c_7 => ?_) (fun c_7 => ?_)
      · have hf := yb_pos c_7 hf
        refine lv_aload_n hx hb dX11_look_25 rfl (lv_at hl 0 rfl) ?_
        refine x_getR X hK hw (cw_mem0 hC) (cw_S0 hC) cpX11 8 (by decide) rfl (cw_R hC 0 8 (by decide) rfl) tw_567 dX11_look_26 ?_
        refine lv_iload_n hx hb dX11_look_29 rfl (lv_at hl 1 rfl) ?_
        obtain ⟨r_8, I_9, J_10, hq_11, hf⟩ := yb_b3_some hf
        refine x_callv X hK hw (c7_sift l D cz ev hC hq_11) (cw_mem hC 48 (by decide)) (cw_S hC 48 rfl) cpX7.1 vw_X11_320 ⟨Nat.le_of_ble_eq_true rfl, Nat.le_of_ble_eq_true rfl⟩ rfl rfl (Nat.le_of_ble_eq_true rfl) hl.1 ⟨Nat.le_refl _, Nat.le_refl _⟩ dX11_look_30 (fun H locs hw => ?_)
        refine lv_aload_n hx hb dX11_look_33 rfl (lv_at hl 0 rfl) ?_
        refine x_getR X hK hw (cw_mem0 hC) (cw_S0 hC) cpX11 8 (by decide) rfl (cw_R hC 0 8 (by decide) rfl) tw_567 dX11_look_34 ?_
        refine lv_iload_n hx hb dX11_look_37 rfl (lv_at hl 2 rfl) ?_
        refine lv_if_ne (tgt := 45) hx hb dX11_look_38 (by decide) (fun c_12 => ?_) (fun c_12 => ?_)
        · have hf := yb_neg c_12 hf
          refine lv_iconst (v := (0 : Int32)) hx hb dX11_look_45 (by decide) ?_
          obtain ⟨r_13, I_14, J_15, hq_16, hf⟩ := yb_b3_some hf
          refine x_calli X hK hw (c7_part l D cz ev hC hq_16) (cw_mem hC 48 (by decide)) (cw_S hC 48 rfl) cpX7.1 vw_X11_330 ⟨Nat.le_of_ble_eq_true rfl, Nat.le_of_ble_eq_true rfl⟩ rfl rfl (Nat.le_of_ble_eq_true rfl) hl.1 ⟨Nat.le_refl _, Nat.le_refl _⟩ dX11_look_46 (fun H locs hw => ?_)
          exact yb_reti hfin hf hw dX11_look_49
        · have hf := yb_pos c_12 hf
          refine lv_iconst (v := (1 : Int32)) hx hb dX11_look_41 (by decide) ?_
          refine lv_goto (tgt := 46) hx hb dX11_look_42 (by decide) ?_
          obtain ⟨r_17, I_18, J_19, hq_20, hf⟩ := yb_b3_some hf
          refine x_calli X hK hw (c7_part l D cz ev hC hq_20) (cw_mem hC 48 (by decide)) (cw_S hC 48 rfl) cpX7.1 vw_X11_330 ⟨Nat.le_of_ble_eq_true rfl, Nat.le_of_ble_eq_true rfl⟩ rfl rfl (Nat.le_of_ble_eq_true rfl) hl.1 ⟨Nat.le_refl _, Nat.le_refl _⟩ dX11_look_46 (fun H locs hw => ?_)
          exact yb_reti hfin hf hw dX11_look_49
      · have hf := yb_neg c_7 hf
        refine lv_iconst (v := (-1 : Int32)) hx hb dX11_look_23 (by decide) ?_
        exact yb_reti hfin hf hw dX11_look_24
set_option maxHeartbeats 4000000 in
set_option maxRecDepth 100000 in
theorem c11_seed (l : Launch) (D : va_G) (cz : Nat → ClassId) (ev : Nat × Nat × Nat) {b : Nat} {L : List Nat} {S : ST} {Rf : RT} (hC : CW b L S Rf) {x1 : Int32} {I : IT} {J : JT} {r : Int32} {I1 : IT} {J1 : JT} (hf : f11_seed b S Rf x1 I J = some (r, I1, J1)) : MTi l D cz ev yX11_seed cX11_seed 3 (some .int) 0 0 [.ref b, .int x1] L S Rf I J r I1 J1 := by
  unfold f11_seed at hf
  refine MTi_of (by decide) (Nat.le_of_ble_eq_true rfl) ?_
  intro p e s m args below meth c Q ls X hK hw hl hfin
  have X : CallFix p m c cX11_seed 3 s args gw RX11 := X
  have hx := X.1
  have hb := X.2.1
  have hl : lv_has ls 3 [(0, .ref b), (1, .int x1)] := hl
  refine lv_iload_n hx hb dX11_seed_0 rfl (lv_at hl 1 rfl) ?_
  refine lv_if_ge (tgt := 6) hx hb dX11_seed_1 (by decide) (fun c_1 => ?_) (fun c_1 => ?_)
  · have hf := yb_pos c_1 hf
    refine lv_aload_n hx hb dX11_seed_6 rfl (lv_at hl 0 rfl) ?_
    refine x_getR X hK hw (cw_mem0 hC) (cw_S0 hC) cpX11 3 (by decide) rfl (cw_R hC 0 3 (by decide) rfl) tw_562 dX11_seed_7 ?_
    refine x_getI X hK hw (cw_now hC).1.1 (cw_now hC).1.2 cpX8 7 (by decide) rfl tw_361 dX11_seed_10 ?_
    refine lv_topi (fun x2_2 ex2_2 => ?_)
    have hf := yb_let_to ex2_2 hf
    refine lv_istore_n (lv' := [(2, .int x2_2), (0, .ref b), (1, .int x1)]) hx hb dX11_seed_13 rfl hl (by decide) rfl (fun ls hl => ?_)
    refine lv_aload_n hx hb dX11_seed_14 rfl (lv_at hl 1 rfl) ?_
    refine x_getR X hK hw (cw_mem0 hC) (cw_S0 hC) cpX11 3 (by decide) rfl (cw_R hC 0 3 (by decide) rfl) tw_562 dX11_seed_15 ?_
    refine lv_iload_n hx hb dX11_seed_18 rfl (lv_at hl 2 rfl) ?_
    refine x_putI X hK hw (cw_now hC).1.1 (cw_now hC).1.2 cpX8 7 (by decide) rfl rfl rfl tw_361 dX11_seed_19 (fun H locs hw => ?_)
    obtain ⟨I_3, eI_3, hf⟩ := yb_let_ex hf
    have hw := yb_wI eI_3 hw
    refine lv_iload_n hx hb dX11_seed_22 rfl (lv_at hl 0 rfl) ?_
    exact yb_reti hfin hf hw dX11_seed_23
  · have hf := yb_neg c_1 hf
    refine lv_iconst (v := (-1 : Int32)) hx hb dX11_seed_4 (by decide) ?_
    exact yb_reti hfin hf hw dX11_seed_5
set_option maxHeartbeats 4000000 in
set_option maxRecDepth 100000 in
theorem w11_hearByDraw_L28 {p : Program} {l : Launch} {e : Env} {s : State} {m : MethodId} {args : Array Value} {below : List Frame} {meth : Method} {c : Code} {Q : State → Prop} {D : va_G} {cz : Nat → ClassId} {A : Nat → Prop} {ev : Nat × Nat × Nat} {b : Nat} {L : List Nat} {S : ST} {Rf : RT} (hC : CW b L S Rf) (X : CallFix p m c cX11_hearByDraw 4 s args gw RX11) (hK : KX D cz ev A s) {N : Nat} {x2 : Int32} {rM : Unit} {IM : IT} {JM : JT} :
    ∀ (n : Nat) (x3 : Int32) (I : IT) (J : JT) (q : (Unit ⊕ (Unit))) (I1 : IT) (J1 : JT) (H : Heap) (locs : List Loc) (ls : Array Slot), f11_hearByDraw_L28 N b S Rf x2 n x3 I J = some (q, I1, J1) → WX D cz A L S Rf s.heap I J H locs → lv_has ls 4 [(0, .ref b), (2, .int x2), (3, .int x3)] →
    (∀ v, q = .inl v → some (v, I1, J1) = some (rM, IM, JM)) → (∀ (H : Heap) (locs : List Loc) (ls : Array Slot) (pc : Nat), WX D cz A L S Rf s.heap IM JM H locs → decode cX11_hearByDraw pc = .ok (.return_, 1) → W p l e (rmX 5 122) s m args below meth c H locs 0 0 Q (F0 m pc ls [])) →
    (∀ xq, q = .inr xq → ∀ (H : Heap) (locs : List Loc) (ls : Array Slot), WX D cz A L S Rf s.heap I1 J1 H locs → lv_has ls 4 [] → W p l e (rmX 5 122) s m args below meth c H locs 0 0 Q (F0 m 70 ls [])) →
    W p l e (rmX 5 122) s m args below meth c H locs 0 0 Q (F0 m 28 ls []) := by
  have hx := X.1
  have hb := X.2.1
  intro n
  induction n with
  | zero =>
    intro x3 I J q I1 J1 H locs ls hf
    rw [f11_hearByDraw_L28] at hf
    cases hf
  | succ n ih =>
    intro x3 I J q I1 J1 H locs ls hf hw hl hret hfin hexit
    rw [f11_hearByDraw_L28] at hf
    refine lv_iload_n hx hb dX11_hearByDraw_28 rfl (lv_at hl 2 rfl) ?_
    refine lv_aload_n hx hb dX11_hearByDraw_29 rfl (lv_at hl 0 rfl) ?_
    refine x_getR X hK hw (cw_mem0 hC) (cw_S0 hC) cpX11 3 (by decide) rfl (cw_R hC 0 3 (by decide) rfl) tw_562 dX11_hearByDraw_30 ?_
    refine x_getR X hK hw (cw_now hC).1.1 (cw_now hC).1.2 cpX8 0 (by decide) rfl (cw_now hC).2.1.1 tw_346 dX11_hearByDraw_33 ?_
    refine x_getI X hK hw (st_town (cw_now hC)).1.1 (st_town (cw_now hC)).1.2 cpX9 14 (by decide) rfl tw_248 dX11_hearByDraw_36 ?_
    refine lv_icmp_ge (tgt := 70) hx hb dX11_hearByDraw_39 (by decide) (fun c_9 => ?_) (fun c_9 => ?_)
    · have hf := yb_pos c_9 hf
      obtain ⟨rfl, rfl, rfl⟩ := yb_inj hf
      exact hexit _ rfl _ _ _ hw (lv_sub hl [] rfl)
    · have hf := yb_neg c_9 hf
      refine lv_aload_n hx hb dX11_hearByDraw_42 rfl (lv_at hl 0 rfl) ?_
      refine x_getR X hK hw (cw_mem0 hC) (cw_S0 hC) cpX11 6 (by decide) rfl (cw_R hC 0 6 (by decide) rfl) tw_565 dX11_hearByDraw_43 ?_
      refine lv_iload_n hx hb dX11_hearByDraw_46 rfl (lv_at hl 2 rfl) ?_
      refine lv_iload_n hx hb dX11_hearByDraw_47 rfl (lv_at hl 1 rfl) ?_
      obtain ⟨r_10, I_11, J_12, hq_13, hf⟩ := yb_b3_some hf
      refine x_calli X hK hw (c1_mayHear l D cz ev hC hq_13) (cw_mem hC 30 (by decide)) (cw_S hC 30 rfl) cpX1.1 vw_X11_248 ⟨Nat.le_of_ble_eq_true rfl, Nat.le_of_ble_eq_true rfl⟩ rfl rfl (Nat.le_of_ble_eq_true rfl) hl.1 ⟨Nat.le_refl _, Nat.le_refl _⟩ dX11_hearByDraw_48 (fun H locs hw => ?_)
      refine lv_if_eq (tgt := 64) hx hb dX11_hearByDraw_51 (by decide) (fun c_14 => ?_) (fun c_14 => ?_)
      · have hf := yb_pos c_14 hf
        obtain ⟨x3_15, ex3_15, hf⟩ := yb_let_ex hf
        refine lv_iinc (v := x3_15) (lv' := [(3, .int x3_15), (0, .ref b), (2, .int x2)]) hx hb dX11_hearByDraw_64 hl (k := 2) rfl (by rw [ex3_15]; rfl) (by decide) rfl (fun ls hl => ?_)
        refine lv_goto (tgt := 28) hx hb dX11_hearByDraw_67 (by decide) ?_
        exact ih _ _ _ _ _ _ _ _ _ hf hw (lv_sub hl [1, 2, 0] rfl) hret hfin hexit
      · have hf := yb_neg c_14 hf
        refine lv_aload_n hx hb dX11_hearByDraw_54 rfl (lv_at hl 0 rfl) ?_
        refine x_getR X hK hw (cw_mem0 hC) (cw_S0 hC) cpX11 6 (by decide) rfl (cw_R hC 0 6 (by decide) rfl) tw_565 dX11_hearByDraw_55 ?_
        refine lv_iload_n hx hb dX11_hearByDraw_58 rfl (lv_at hl 2 rfl) ?_
        refine lv_iload_n hx hb dX11_hearByDraw_59 rfl (lv_at hl 1 rfl) ?_
        obtain ⟨r_16, I_17, J_18, hq_19, hf⟩ := yb_b3_some hf
        refine x_callv X hK hw (c1_begin l D cz ev hC hq_19) (cw_mem hC 30 (by decide)) (cw_S hC 30 rfl) cpX1.1 vw_X11_251 ⟨Nat.le_of_ble_eq_true rfl, Nat.le_of_ble_eq_true rfl⟩ rfl rfl (Nat.le_of_ble_eq_true rfl) hl.1 ⟨Nat.le_refl _, Nat.le_refl _⟩ dX11_hearByDraw_60 (fun H locs hw => ?_)
        exact yb_retv hfin (yb_inl hret hf) hw dX11_hearByDraw_63
set_option maxHeartbeats 4000000 in
set_option maxRecDepth 100000 in
theorem c11_hearByDraw (l : Launch) (D : va_G) (cz : Nat → ClassId) (ev : Nat × Nat × Nat) {b : Nat} {L : List Nat} {S : ST} {Rf : RT} (hC : CW b L S Rf) {N : Nat} {I : IT} {J : JT} {r : Unit} {I1 : IT} {J1 : JT} (hf : f11_hearByDraw N b S Rf I J = some (r, I1, J1)) : MTv l D cz ev yX11_hearByDraw cX11_hearByDraw 4 (none) 5 122 [.ref b] L S Rf I J r I1 J1 := by
  unfold f11_hearByDraw at hf
  refine MTv_of (by decide) (Nat.le_of_ble_eq_true rfl) ?_
  intro p e s m args below meth c Q ls X hK hw hl hfin
  have X : CallFix p m c cX11_hearByDraw 4 s args gw RX11 := X
  have hx := X.1
  have hb := X.2.1
  have hl : lv_has ls 4 [(0, .ref b)] := hl
  refine lv_aload_n hx hb dX11_hearByDraw_0 rfl (lv_at hl 0 rfl) ?_
  refine x_getR X hK hw (cw_mem0 hC) (cw_S0 hC) cpX11 3 (by decide) rfl (cw_R hC 0 3 (by decide) rfl) tw_562 dX11_hearByDraw_1 ?_
  refine x_getR X hK hw (cw_now hC).1.1 (cw_now hC).1.2 cpX8 0 (by decide) rfl (cw_now hC).2.1.1 tw_346 dX11_hearByDraw_4 ?_
  refine x_getI X hK hw (st_town (cw_now hC)).1.1 (st_town (cw_now hC)).1.2 cpX9 13 (by decide) rfl tw_243 dX11_hearByDraw_7 ?_
  refine lv_topi (fun x1_1 ex1_1 => ?_)
  have hf := yb_let_to ex1_1 hf
  refine lv_istore_n (lv' := [(1, .int x1_1), (0, .ref b)]) hx hb dX11_hearByDraw_10 rfl hl (by decide) rfl (fun ls hl => ?_)
  refine lv_iload_n hx hb dX11_hearByDraw_11 rfl (lv_at hl 0 rfl) ?_
  refine lv_if_gt (tgt := 16) hx hb dX11_hearByDraw_12 (by decide) (fun c_2 => ?_) (fun c_2 => ?_)
  · have hf := yb_pos c_2 hf
    refine lv_aload_n hx hb dX11_hearByDraw_16 rfl (lv_at hl 1 rfl) ?_
    refine x_getR X hK hw (cw_mem0 hC) (cw_S0 hC) cpX11 3 (by decide) rfl (cw_R hC 0 3 (by decide) rfl) tw_562 dX11_hearByDraw_17 ?_
    obtain ⟨r_3, I_4, J_5, hq_6, hf⟩ := yb_b3_some hf
    refine x_calli X hK hw (c8_draw l D cz ev hC (cw_now hC) hq_6) (cw_now hC).1.1 (cw_now hC).1.2 cpX8.1 vw_X11_345 ⟨Nat.le_of_ble_eq_true rfl, Nat.le_of_ble_eq_true rfl⟩ rfl rfl (Nat.le_of_ble_eq_true rfl) hl.1 ⟨Nat.le_refl _, Nat.le_refl _⟩ dX11_hearByDraw_20 (fun H locs hw => ?_)
    refine lv_iload_n hx hb dX11_hearByDraw_23 rfl (lv_at hl 0 rfl) ?_
    obtain ⟨h_7, hf⟩ := yb_nz hf
    refine lv_irem hx hb dX11_hearByDraw_24 h_7 ?_
    refine lv_topi (fun x2_8 ex2_8 => ?_)
    have hf := yb_let_to ex2_8 hf
    refine lv_istore_n (lv' := [(2, .int x2_8), (1, .int x1_1), (0, .ref b)]) hx hb dX11_hearByDraw_25 rfl hl (by decide) rfl (fun ls hl => ?_)
    refine lv_iconst (v := (0 : Int32)) hx hb dX11_hearByDraw_26 (by decide) ?_
    refine lv_istore_n (lv' := [(3, .int (0 : Int32)), (2, .int x2_8), (1, .int x1_1), (0, .ref b)]) hx hb dX11_hearByDraw_27 rfl hl (by decide) rfl (fun ls hl => ?_)
    obtain ⟨q_20, I_21, J_22, hq_23, hf⟩ := yb_b3_some hf
    refine w11_hearByDraw_L28 hC X hK _ _ _ _ _ _ _ _ _ _ hq_23 hw (lv_sub hl [3, 1, 0] rfl) (fun v hv => by rw [hv] at hf; exact hf) hfin (fun x_25 hx1 H locs ls hw hl => ?_)
    rw [hx1] at hf
    have hf := yb_sm_r hf
    exact yb_retv hfin hf hw dX11_hearByDraw_70
  · have hf := yb_neg c_2 hf
    exact yb_retv hfin hf hw dX11_hearByDraw_15
set_option maxHeartbeats 4000000 in
set_option maxRecDepth 100000 in
theorem w11_ruledRightly_L4 {p : Program} {l : Launch} {e : Env} {s : State} {m : MethodId} {args : Array Value} {below : List Frame} {meth : Method} {c : Code} {Q : State → Prop} {D : va_G} {cz : Nat → ClassId} {A : Nat → Prop} {ev : Nat × Nat × Nat} {b : Nat} {L : List Nat} {S : ST} {Rf : RT} (hC : CW b L S Rf) (X : CallFix p m c cX11_ruledRightly 4 s args gw RX11) (hK : KX D cz ev A s) {N : Nat} {x1 : Int32} :
    ∀ (n : Nat) (x2 : Int32) (x3 : Int32) (I : IT) (J : JT) (q : (Int32)) (I1 : IT) (J1 : JT) (H : Heap) (locs : List Loc) (ls : Array Slot), f11_ruledRightly_L4 N b S Rf x1 n x2 x3 I J = some (q, I1, J1) → WX D cz A L S Rf s.heap I J H locs → lv_has ls 4 [(0, .ref b), (1, .int x1), (2, .int x2), (3, .int x3)] →
    (∀ (H : Heap) (locs : List Loc) (ls : Array Slot), WX D cz A L S Rf s.heap I1 J1 H locs → lv_has ls 4 [(2, .int q)] → W p l e (rmX 1 20) s m args below meth c H locs 0 0 Q (F0 m 60 ls [])) →
    W p l e (rmX 1 20) s m args below meth c H locs 0 0 Q (F0 m 4 ls []) := by
  have hx := X.1
  have hb := X.2.1
  intro n
  induction n with
  | zero =>
    intro x2 x3 I J q I1 J1 H locs ls hf
    rw [f11_ruledRightly_L4] at hf
    cases hf
  | succ n ih =>
    intro x2 x3 I J q I1 J1 H locs ls hf hw hl hexit
    rw [f11_ruledRightly_L4] at hf
    refine lv_iload_n hx hb dX11_ruledRightly_4 rfl (lv_at hl 3 rfl) ?_
    refine lv_aload_n hx hb dX11_ruledRightly_5 rfl (lv_at hl 0 rfl) ?_
    refine x_getR X hK hw (cw_mem0 hC) (cw_S0 hC) cpX11 3 (by decide) rfl (cw_R hC 0 3 (by decide) rfl) tw_562 dX11_ruledRightly_6 ?_
    refine x_getR X hK hw (cw_now hC).1.1 (cw_now hC).1.2 cpX8 0 (by decide) rfl (cw_now hC).2.1.1 tw_346 dX11_ruledRightly_9 ?_
    refine x_getI X hK hw (st_town (cw_now hC)).1.1 (st_town (cw_now hC)).1.2 cpX9 14 (by decide) rfl tw_248 dX11_ruledRightly_12 ?_
    refine lv_icmp_ge (tgt := 60) hx hb dX11_ruledRightly_15 (by decide) (fun c_1 => ?_) (fun c_1 => ?_)
    · have hf := yb_pos c_1 hf
      obtain ⟨rfl, rfl, rfl⟩ := yb_inj hf
      exact hexit _ _ _ hw (lv_sub hl [2] rfl)
    · have hf := yb_neg c_1 hf
      refine lv_iload_n hx hb dX11_ruledRightly_18 rfl (lv_at hl 1 rfl) ?_
      refine lv_iload_n hx hb dX11_ruledRightly_19 rfl (lv_at hl 3 rfl) ?_
      refine lv_ishr hx hb dX11_ruledRightly_20 ?_
      refine lv_iconst (v := (1 : Int32)) hx hb dX11_ruledRightly_21 (by decide) ?_
      refine lv_iand hx hb dX11_ruledRightly_22 ?_
      refine lv_if_eq (tgt := 54) hx hb dX11_ruledRightly_23 (by decide) (fun c_2 => ?_) (fun c_2 => ?_)
      · have hf := yb_pos c_2 hf
        obtain ⟨x3_3, ex3_3, hf⟩ := yb_let_ex hf
        refine lv_iinc (v := x3_3) (lv' := [(3, .int x3_3), (0, .ref b), (1, .int x1), (2, .int x2)]) hx hb dX11_ruledRightly_54 hl (k := 3) rfl (by rw [ex3_3]; rfl) (by decide) rfl (fun ls hl => ?_)
        refine lv_goto (tgt := 4) hx hb dX11_ruledRightly_57 (by decide) ?_
        exact ih _ _ _ _ _ _ _ _ _ _ hf hw (lv_sub hl [1, 2, 3, 0] rfl) hexit
      · have hf := yb_neg c_2 hf
        refine lv_aload_n hx hb dX11_ruledRightly_26 rfl (lv_at hl 0 rfl) ?_
        refine x_getR X hK hw (cw_mem0 hC) (cw_S0 hC) cpX11 3 (by decide) rfl (cw_R hC 0 3 (by decide) rfl) tw_562 dX11_ruledRightly_27 ?_
        obtain ⟨r_4, I_5, J_6, hq_7, hf⟩ := yb_b3_some hf
        refine x_calli X hK hw (c8_draw l D cz ev hC (cw_now hC) hq_7) (cw_now hC).1.1 (cw_now hC).1.2 cpX8.1 vw_X11_345 ⟨Nat.le_of_ble_eq_true rfl, Nat.le_of_ble_eq_true rfl⟩ rfl rfl (Nat.le_of_ble_eq_true rfl) hl.1 ⟨Nat.le_refl _, Nat.le_refl _⟩ dX11_ruledRightly_30 (fun H locs hw => ?_)
        refine lv_bipush (v := (100 : Int32)) hx hb dX11_ruledRightly_33 (by decide) ?_
        refine lv_irem hx hb dX11_ruledRightly_35 (by decide) ?_
        refine lv_aload_n hx hb dX11_ruledRightly_36 rfl (lv_at hl 0 rfl) ?_
        refine x_getR X hK hw (cw_mem0 hC) (cw_S0 hC) cpX11 3 (by decide) rfl (cw_R hC 0 3 (by decide) rfl) tw_562 dX11_ruledRightly_37 ?_
        refine x_getR X hK hw (cw_now hC).1.1 (cw_now hC).1.2 cpX8 1 (by decide) rfl (cw_now hC).2.2.1.1 tw_351 dX11_ruledRightly_40 ?_
        refine x_getR X hK hw (st_course (cw_now hC)).1.1 (st_course (cw_now hC)).1.2 cpX0 6 (by decide) rfl (ca_R (st_course (cw_now hC)) 6 (by decide)) tw_310 dX11_ruledRightly_43 ?_
        refine lv_iload_n hx hb dX11_ruledRightly_46 rfl (lv_at hl 3 rfl) ?_
        obtain ⟨hi_8, hf⟩ := yb_ck_some hf
        refine x_iald X hK hw (ca_mem (st_course (cw_now hC)) 6 (by decide)) (ca_S (st_course (cw_now hC)) 6 rfl) hi_8 rfl dX11_ruledRightly_47 ?_
        refine lv_icmp_ge (tgt := 54) hx hb dX11_ruledRightly_48 (by decide) (fun c_9 => ?_) (fun c_9 => ?_)
        · have hf := yb_pos c_9 hf
          obtain ⟨x3_10, ex3_10, hf⟩ := yb_let_ex hf
          refine lv_iinc (v := x3_10) (lv' := [(3, .int x3_10), (0, .ref b), (1, .int x1), (2, .int x2)]) hx hb dX11_ruledRightly_54 hl (k := 3) rfl (by rw [ex3_10]; rfl) (by decide) rfl (fun ls hl => ?_)
          refine lv_goto (tgt := 4) hx hb dX11_ruledRightly_57 (by decide) ?_
          exact ih _ _ _ _ _ _ _ _ _ _ hf hw (lv_sub hl [1, 2, 3, 0] rfl) hexit
        · have hf := yb_neg c_9 hf
          obtain ⟨x2_11, ex2_11, hf⟩ := yb_let_ex hf
          refine lv_iinc (v := x2_11) (lv' := [(2, .int x2_11), (0, .ref b), (1, .int x1), (3, .int x3)]) hx hb dX11_ruledRightly_51 hl (k := 2) rfl (by rw [ex2_11]; rfl) (by decide) rfl (fun ls hl => ?_)
          obtain ⟨x3_12, ex3_12, hf⟩ := yb_let_ex hf
          refine lv_iinc (v := x3_12) (lv' := [(3, .int x3_12), (2, .int x2_11), (0, .ref b), (1, .int x1)]) hx hb dX11_ruledRightly_54 hl (k := 3) rfl (by rw [ex3_12]; rfl) (by decide) rfl (fun ls hl => ?_)
          refine lv_goto (tgt := 4) hx hb dX11_ruledRightly_57 (by decide) ?_
          exact ih _ _ _ _ _ _ _ _ _ _ hf hw (lv_sub hl [2, 3, 1, 0] rfl) hexit
set_option maxHeartbeats 4000000 in
set_option maxRecDepth 100000 in
theorem c11_ruledRightly (l : Launch) (D : va_G) (cz : Nat → ClassId) (ev : Nat × Nat × Nat) {b : Nat} {L : List Nat} {S : ST} {Rf : RT} (hC : CW b L S Rf) {N : Nat} {x1 : Int32} {I : IT} {J : JT} {r : Int32} {I1 : IT} {J1 : JT} (hf : f11_ruledRightly N b S Rf x1 I J = some (r, I1, J1)) : MTi l D cz ev yX11_ruledRightly cX11_ruledRightly 4 (some .int) 1 20 [.ref b, .int x1] L S Rf I J r I1 J1 := by
  unfold f11_ruledRightly at hf
  refine MTi_of (by decide) (Nat.le_of_ble_eq_true rfl) ?_
  intro p e s m args below meth c Q ls X hK hw hl hfin
  have X : CallFix p m c cX11_ruledRightly 4 s args gw RX11 := X
  have hx := X.1
  have hb := X.2.1
  have hl : lv_has ls 4 [(0, .ref b), (1, .int x1)] := hl
  refine lv_iconst (v := (0 : Int32)) hx hb dX11_ruledRightly_0 (by decide) ?_
  refine lv_istore_n (lv' := [(2, .int (0 : Int32)), (0, .ref b), (1, .int x1)]) hx hb dX11_ruledRightly_1 rfl hl (by decide) rfl (fun ls hl => ?_)
  refine lv_iconst (v := (0 : Int32)) hx hb dX11_ruledRightly_2 (by decide) ?_
  refine lv_istore_n (lv' := [(3, .int (0 : Int32)), (2, .int (0 : Int32)), (0, .ref b), (1, .int x1)]) hx hb dX11_ruledRightly_3 rfl hl (by decide) rfl (fun ls hl => ?_)
  obtain ⟨q_13, I_14, J_15, hq_16, hf⟩ := yb_b3_some hf
  refine w11_ruledRightly_L4 hC X hK _ _ _ _ _ _ _ _ _ _ _ hq_16 hw (lv_sub hl [2, 3, 1, 0] rfl) (fun H locs ls hw hl => ?_)
  refine lv_iload_n hx hb dX11_ruledRightly_60 rfl (lv_at hl 0 rfl) ?_
  exact yb_reti hfin hf hw dX11_ruledRightly_61
set_option maxHeartbeats 4000000 in
set_option maxRecDepth 100000 in
theorem w11_years_L99 {p : Program} {l : Launch} {e : Env} {s : State} {m : MethodId} {args : Array Value} {below : List Frame} {meth : Method} {c : Code} {Q : State → Prop} {D : va_G} {cz : Nat → ClassId} {A : Nat → Prop} {ev : Nat × Nat × Nat} {b : Nat} {L : List Nat} {S : ST} {Rf : RT} (hC : CW b L S Rf) (X : CallFix p m c cX11_years 11 s args gw RX11) (hK : KX D cz ev A s) {N : Nat} {x1 : Int32} {x2 : Int32} {x3 : Int32} {x5 : Int32} {x8 : Int32} :
    ∀ (n : Nat) (x6 : Int32) (x7 : Int32) (x9 : Int32) (I : IT) (J : JT) (q : (Int32 × Int32)) (I1 : IT) (J1 : JT) (H : Heap) (locs : List Loc) (ls : Array Slot), f11_years_L99 N b S Rf x1 x2 x3 x5 x8 n x6 x7 x9 I J = some (q, I1, J1) → WX D cz A L S Rf s.heap I J H locs → lv_has ls 11 [(0, .ref b), (1, .int x1), (2, .int x2), (3, .int x3), (5, .int x5), (6, .int x6), (7, .int x7), (8, .int x8), (9, .int x9)] →
    (∀ (H : Heap) (locs : List Loc) (ls : Array Slot), WX D cz A L S Rf s.heap I1 J1 H locs → lv_has ls 11 [(0, .ref b), (1, .int x1), (2, .int x2), (3, .int x3), (5, .int x5), (6, .int q.1), (7, .int q.2), (8, .int x8)] → W p l e (rmX 6 145) s m args below meth c H locs 0 0 Q (F0 m 155 ls [])) →
    W p l e (rmX 6 145) s m args below meth c H locs 0 0 Q (F0 m 99 ls []) := by
  have hx := X.1
  have hb := X.2.1
  intro n
  induction n with
  | zero =>
    intro x6 x7 x9 I J q I1 J1 H locs ls hf
    rw [f11_years_L99] at hf
    cases hf
  | succ n ih =>
    intro x6 x7 x9 I J q I1 J1 H locs ls hf hw hl hexit
    rw [f11_years_L99] at hf
    refine lv_iload hx hb dX11_years_99 (lv_at hl 8 rfl) ?_
    refine lv_iload_n hx hb dX11_years_101 rfl (lv_at hl 2 rfl) ?_
    refine lv_icmp_ge (tgt := 155) hx hb dX11_years_102 (by decide) (fun c_20 => ?_) (fun c_20 => ?_)
    · have hf := yb_pos c_20 hf
      obtain ⟨rfl, rfl, rfl⟩ := yb_inj hf
      exact hexit _ _ _ hw (lv_sub hl [0, 1, 2, 3, 4, 5, 6, 7] rfl)
    · have hf := yb_neg c_20 hf
      refine lv_aload_n hx hb dX11_years_105 rfl (lv_at hl 0 rfl) ?_
      obtain ⟨r_21, I_22, J_23, hq_24, hf⟩ := yb_b3_some hf
      refine x_callv X hK hw (c11_hearByDraw l D cz ev hC hq_24) (cw_mem0 hC) (cw_S0 hC) cpX11.1 vw_X11_339 ⟨Nat.le_of_ble_eq_true rfl, Nat.le_of_ble_eq_true rfl⟩ rfl rfl (Nat.le_of_ble_eq_true rfl) hl.1 ⟨Nat.le_refl _, Nat.le_refl _⟩ dX11_years_106 (fun H locs hw => ?_)
      refine lv_aload_n hx hb dX11_years_109 rfl (lv_at hl 0 rfl) ?_
      refine x_getR X hK hw (cw_mem0 hC) (cw_S0 hC) cpX11 3 (by decide) rfl (cw_R hC 0 3 (by decide) rfl) tw_562 dX11_years_110 ?_
      refine x_getR X hK hw (cw_now hC).1.1 (cw_now hC).1.2 cpX8 1 (by decide) rfl (cw_now hC).2.2.1.1 tw_351 dX11_years_113 ?_
      refine lv_aload_n hx hb dX11_years_116 rfl (lv_at hl 0 rfl) ?_
      refine x_getR X hK hw (cw_mem0 hC) (cw_S0 hC) cpX11 3 (by decide) rfl (cw_R hC 0 3 (by decide) rfl) tw_562 dX11_years_117 ?_
      refine x_getR X hK hw (cw_now hC).1.1 (cw_now hC).1.2 cpX8 0 (by decide) rfl (cw_now hC).2.1.1 tw_346 dX11_years_120 ?_
      obtain ⟨r_25, I_26, J_27, hq_28, hf⟩ := yb_b3_some hf
      refine x_calli X hK hw (c0_pass l D cz ev hC (st_course (cw_now hC)) (st_town (cw_now hC)) hq_28) (st_course (cw_now hC)).1.1 (st_course (cw_now hC)).1.2 cpX0.1 vw_X11_239 ⟨Nat.le_of_ble_eq_true rfl, Nat.le_of_ble_eq_true rfl⟩ rfl rfl (Nat.le_of_ble_eq_true rfl) hl.1 ⟨Nat.le_refl _, Nat.le_refl _⟩ dX11_years_123 (fun H locs hw => ?_)
      refine lv_istore (lv' := [(10, .int r_25), (0, .ref b), (1, .int x1), (2, .int x2), (3, .int x3), (5, .int x5), (6, .int x6), (7, .int x7), (8, .int x8), (9, .int x9)]) hx hb dX11_years_126 hl (by decide) rfl (fun ls hl => ?_)
      refine lv_iload hx hb dX11_years_128 (lv_at hl 7 rfl) ?_
      refine lv_iload hx hb dX11_years_130 (lv_at hl 0 rfl) ?_
      obtain ⟨r_29, I_30, J_31, hq_32, hf⟩ := yb_b3_some hf
      refine x_callsi X hK hw (cJ_bitCount_0f7a4 l D cz ev hq_32) sw_X11_243 ⟨Nat.le_of_ble_eq_true rfl, Nat.le_of_ble_eq_true rfl⟩ rfl rfl (Nat.le_of_ble_eq_true rfl) hl.1 ⟨Nat.le_refl _, Nat.le_refl _⟩ dX11_years_132 (fun H locs hw => ?_)
      refine lv_iadd hx hb dX11_years_135 ?_
      refine lv_topi (fun x7_33 ex7_33 => ?_)
      have hf := yb_let_to ex7_33 hf
      refine lv_istore (lv' := [(7, .int x7_33), (10, .int r_25), (0, .ref b), (1, .int x1), (2, .int x2), (3, .int x3), (5, .int x5), (6, .int x6), (8, .int x8), (9, .int x9)]) hx hb dX11_years_136 hl (by decide) rfl (fun ls hl => ?_)
      refine lv_iload hx hb dX11_years_138 (lv_at hl 7 rfl) ?_
      refine lv_aload_n hx hb dX11_years_140 rfl (lv_at hl 2 rfl) ?_
      refine lv_iload hx hb dX11_years_141 (lv_at hl 1 rfl) ?_
      obtain ⟨r_34, I_35, J_36, hq_37, hf⟩ := yb_b3_some hf
      refine x_calli X hK hw (c11_ruledRightly l D cz ev hC hq_37) (cw_mem0 hC) (cw_S0 hC) cpX11.1 vw_X11_342 ⟨Nat.le_of_ble_eq_true rfl, Nat.le_of_ble_eq_true rfl⟩ rfl rfl (Nat.le_of_ble_eq_true rfl) hl.1 ⟨Nat.le_refl _, Nat.le_refl _⟩ dX11_years_143 (fun H locs hw => ?_)
      refine lv_iadd hx hb dX11_years_146 ?_
      refine lv_topi (fun x6_38 ex6_38 => ?_)
      have hf := yb_let_to ex6_38 hf
      refine lv_istore (lv' := [(6, .int x6_38), (7, .int x7_33), (10, .int r_25), (0, .ref b), (1, .int x1), (2, .int x2), (3, .int x3), (5, .int x5), (8, .int x8), (9, .int x9)]) hx hb dX11_years_147 hl (by decide) rfl (fun ls hl => ?_)
      obtain ⟨x9_39, ex9_39, hf⟩ := yb_let_ex hf
      refine lv_iinc (v := x9_39) (lv' := [(9, .int x9_39), (6, .int x6_38), (7, .int x7_33), (10, .int r_25), (0, .ref b), (1, .int x1), (2, .int x2), (3, .int x3), (5, .int x5), (8, .int x8)]) hx hb dX11_years_149 hl (k := 9) rfl (by rw [ex9_39]; rfl) (by decide) rfl (fun ls hl => ?_)
      refine lv_goto (tgt := 99) hx hb dX11_years_152 (by decide) ?_
      exact ih _ _ _ _ _ _ _ _ _ _ _ hf hw (lv_sub hl [4, 5, 6, 7, 8, 1, 2, 9, 0] rfl) hexit
set_option maxHeartbeats 4000000 in
set_option maxRecDepth 100000 in
theorem w11_years_L90 {p : Program} {l : Launch} {e : Env} {s : State} {m : MethodId} {args : Array Value} {below : List Frame} {meth : Method} {c : Code} {Q : State → Prop} {D : va_G} {cz : Nat → ClassId} {A : Nat → Prop} {ev : Nat × Nat × Nat} {b : Nat} {L : List Nat} {S : ST} {Rf : RT} (hC : CW b L S Rf) (X : CallFix p m c cX11_years 11 s args gw RX11) (hK : KX D cz ev A s) {N : Nat} {x1 : Int32} {x2 : Int32} {x3 : Int32} {x5 : Int32} :
    ∀ (n : Nat) (x6 : Int32) (x7 : Int32) (x8 : Int32) (I : IT) (J : JT) (q : (Int32 × Int32)) (I1 : IT) (J1 : JT) (H : Heap) (locs : List Loc) (ls : Array Slot), f11_years_L90 N b S Rf x1 x2 x3 x5 n x6 x7 x8 I J = some (q, I1, J1) → WX D cz A L S Rf s.heap I J H locs → lv_has ls 11 [(0, .ref b), (1, .int x1), (2, .int x2), (3, .int x3), (5, .int x5), (6, .int x6), (7, .int x7), (8, .int x8)] →
    (∀ (H : Heap) (locs : List Loc) (ls : Array Slot), WX D cz A L S Rf s.heap I1 J1 H locs → lv_has ls 11 [(0, .ref b), (3, .int x3), (5, .int x5), (6, .int q.1), (7, .int q.2)] → W p l e (rmX 6 145) s m args below meth c H locs 0 0 Q (F0 m 175 ls [])) →
    W p l e (rmX 6 145) s m args below meth c H locs 0 0 Q (F0 m 90 ls []) := by
  have hx := X.1
  have hb := X.2.1
  intro n
  induction n with
  | zero =>
    intro x6 x7 x8 I J q I1 J1 H locs ls hf
    rw [f11_years_L90] at hf
    cases hf
  | succ n ih =>
    intro x6 x7 x8 I J q I1 J1 H locs ls hf hw hl hexit
    rw [f11_years_L90] at hf
    refine lv_iload hx hb dX11_years_90 (lv_at hl 7 rfl) ?_
    refine lv_iload_n hx hb dX11_years_92 rfl (lv_at hl 1 rfl) ?_
    refine lv_icmp_ge (tgt := 175) hx hb dX11_years_93 (by decide) (fun c_19 => ?_) (fun c_19 => ?_)
    · have hf := yb_pos c_19 hf
      obtain ⟨rfl, rfl, rfl⟩ := yb_inj hf
      exact hexit _ _ _ hw (lv_sub hl [0, 3, 4, 5, 6] rfl)
    · have hf := yb_neg c_19 hf
      refine lv_iconst (v := (0 : Int32)) hx hb dX11_years_96 (by decide) ?_
      refine lv_istore (lv' := [(9, .int (0 : Int32)), (0, .ref b), (1, .int x1), (2, .int x2), (3, .int x3), (5, .int x5), (6, .int x6), (7, .int x7), (8, .int x8)]) hx hb dX11_years_97 hl (by decide) rfl (fun ls hl => ?_)
      obtain ⟨q_40, I_41, J_42, hq_43, hf⟩ := yb_b3_some hf
      refine w11_years_L99 hC X hK _ _ _ _ _ _ _ _ _ _ _ _ hq_43 hw (lv_sub hl [1, 2, 3, 4, 5, 6, 7, 8, 0] rfl) (fun H locs ls hw hl => ?_)
      refine lv_aload_n hx hb dX11_years_155 rfl (lv_at hl 0 rfl) ?_
      refine x_getR X hK hw (cw_mem0 hC) (cw_S0 hC) cpX11 3 (by decide) rfl (cw_R hC 0 3 (by decide) rfl) tw_562 dX11_years_156 ?_
      refine x_getR X hK hw (cw_now hC).1.1 (cw_now hC).1.2 cpX8 1 (by decide) rfl (cw_now hC).2.2.1.1 tw_351 dX11_years_159 ?_
      refine lv_aload_n hx hb dX11_years_162 rfl (lv_at hl 0 rfl) ?_
      refine x_getR X hK hw (cw_mem0 hC) (cw_S0 hC) cpX11 12 (by decide) rfl (cw_R hC 0 12 (by decide) rfl) tw_571 dX11_years_163 ?_
      obtain ⟨r_44, I_45, J_46, hq_47, hf⟩ := yb_b3_some hf
      refine x_callv X hK hw (c0_copy l D cz ev hC (st_course (cw_now hC)) (cw_kept hC) hq_47) (st_course (cw_now hC)).1.1 (st_course (cw_now hC)).1.2 cpX0.1 vw_X11_336 ⟨Nat.le_of_ble_eq_true rfl, Nat.le_of_ble_eq_true rfl⟩ rfl rfl (Nat.le_of_ble_eq_true rfl) hl.1 ⟨Nat.le_refl _, Nat.le_refl _⟩ dX11_years_166 (fun H locs hw => ?_)
      obtain ⟨x8_48, ex8_48, hf⟩ := yb_let_ex hf
      refine lv_iinc (v := x8_48) (lv' := [(8, .int x8_48), (0, .ref b), (1, .int x1), (2, .int x2), (3, .int x3), (5, .int x5), (6, .int q_40.1), (7, .int q_40.2)]) hx hb dX11_years_169 hl (k := 7) rfl (by rw [ex8_48]; rfl) (by decide) rfl (fun ls hl => ?_)
      refine lv_goto (tgt := 90) hx hb dX11_years_172 (by decide) ?_
      exact ih _ _ _ _ _ _ _ _ _ _ _ hf hw (lv_sub hl [1, 2, 3, 4, 5, 6, 7, 0] rfl) hexit
set_option maxHeartbeats 4000000 in
set_option maxRecDepth 100000 in
theorem c11_years (l : Launch) (D : va_G) (cz : Nat → ClassId) (ev : Nat × Nat × Nat) {b : Nat} {L : List Nat} {S : ST} {Rf : RT} (hC : CW b L S Rf) {N : Nat} {x1 : Int32} {x2 : Int32} {x3 : Int32} {I : IT} {J : JT} {r : Int32} {I1 : IT} {J1 : JT} (hf : f11_years N b S Rf x1 x2 x3 I J = some (r, I1, J1)) : MTi l D cz ev yX11_years cX11_years 11 (some .int) 6 145 [.ref b, .int x1, .int x2, .int x3] L S Rf I J r I1 J1 := by
  unfold f11_years at hf
  refine MTi_of (by decide) (Nat.le_of_ble_eq_true rfl) ?_
  intro p e s m args below meth c Q ls X hK hw hl hfin
  have X : CallFix p m c cX11_years 11 s args gw RX11 := X
  have hx := X.1
  have hb := X.2.1
  have hl : lv_has ls 11 [(0, .ref b), (1, .int x1), (2, .int x2), (3, .int x3)] := hl
  refine lv_aload_n hx hb dX11_years_0 rfl (lv_at hl 0 rfl) ?_
  refine x_getR X hK hw (cw_mem0 hC) (cw_S0 hC) cpX11 3 (by decide) rfl (cw_R hC 0 3 (by decide) rfl) tw_562 dX11_years_1 ?_
  refine x_getR X hK hw (cw_now hC).1.1 (cw_now hC).1.2 cpX8 0 (by decide) rfl (cw_now hC).2.1.1 tw_346 dX11_years_4 ?_
  refine x_getI X hK hw (st_town (cw_now hC)).1.1 (st_town (cw_now hC)).1.2 cpX9 8 (by decide) rfl tw_225 dX11_years_7 ?_
  refine lv_if_eq (tgt := 39) hx hb dX11_years_10 (by decide) (fun c_1 => ?_) (fun c_1 => ?_)
  · have hf := yb_pos c_1 hf
    refine lv_iconst (v := (0 : Int32)) hx hb dX11_years_39 (by decide) ?_
    refine lv_istore (lv' := [(4, .int (0 : Int32)), (0, .ref b), (1, .int x1), (2, .int x2), (3, .int x3)]) hx hb dX11_years_40 hl (by decide) rfl (fun ls hl => ?_)
    refine lv_iload hx hb dX11_years_42 (lv_at hl 0 rfl) ?_
    refine lv_if_eq (tgt := 56) hx hb dX11_years_44 (by decide) (fun _ => ?_) (fun c_2 => absurd (by decide) c_2)
    refine lv_iconst (v := (-1 : Int32)) hx hb dX11_years_56 (by decide) ?_
    exact yb_reti hfin hf hw dX11_years_57
  · have hf := yb_neg c_1 hf
    refine lv_iload_n hx hb dX11_years_13 rfl (lv_at hl 1 rfl) ?_
    refine lv_iconst (v := (1 : Int32)) hx hb dX11_years_14 (by decide) ?_
    refine lv_icmp_lt (tgt := 39) hx hb dX11_years_15 (by decide) (fun c_3 => ?_) (fun c_3 => ?_)
    · have hf := yb_pos c_3 hf
      refine lv_iconst (v := (0 : Int32)) hx hb dX11_years_39 (by decide) ?_
      refine lv_istore (lv' := [(4, .int (0 : Int32)), (0, .ref b), (1, .int x1), (2, .int x2), (3, .int x3)]) hx hb dX11_years_40 hl (by decide) rfl (fun ls hl => ?_)
      refine lv_iload hx hb dX11_years_42 (lv_at hl 0 rfl) ?_
      refine lv_if_eq (tgt := 56) hx hb dX11_years_44 (by decide) (fun _ => ?_) (fun c_4 => absurd (by decide) c_4)
      refine lv_iconst (v := (-1 : Int32)) hx hb dX11_years_56 (by decide) ?_
      exact yb_reti hfin hf hw dX11_years_57
    · have hf := yb_neg c_3 hf
      refine lv_iload_n hx hb dX11_years_18 rfl (lv_at hl 1 rfl) ?_
      refine lv_bipush (v := (10 : Int32)) hx hb dX11_years_19 (by decide) ?_
      refine lv_icmp_gt (tgt := 39) hx hb dX11_years_21 (by decide) (fun c_5 => ?_) (fun c_5 => ?_)
      · have hf := yb_pos c_5 hf
        refine lv_iconst (v := (0 : Int32)) hx hb dX11_years_39 (by decide) ?_
        refine lv_istore (lv' := [(4, .int (0 : Int32)), (0, .ref b), (1, .int x1), (2, .int x2), (3, .int x3)]) hx hb dX11_years_40 hl (by decide) rfl (fun ls hl => ?_)
        refine lv_iload hx hb dX11_years_42 (lv_at hl 0 rfl) ?_
        refine lv_if_eq (tgt := 56) hx hb dX11_years_44 (by decide) (fun _ => ?_) (fun c_6 => absurd (by decide) c_6)
        refine lv_iconst (v := (-1 : Int32)) hx hb dX11_years_56 (by decide) ?_
        exact yb_reti hfin hf hw dX11_years_57
      · have hf := yb_neg c_5 hf
        refine lv_iload_n hx hb dX11_years_24 rfl (lv_at hl 2 rfl) ?_
        refine lv_iconst (v := (1 : Int32)) hx hb dX11_years_25 (by decide) ?_
        refine lv_icmp_lt (tgt := 39) hx hb dX11_years_26 (by decide) (fun c_7 => ?_) (fun c_7 => ?_)
        · have hf := yb_pos c_7 hf
          refine lv_iconst (v := (0 : Int32)) hx hb dX11_years_39 (by decide) ?_
          refine lv_istore (lv' := [(4, .int (0 : Int32)), (0, .ref b), (1, .int x1), (2, .int x2), (3, .int x3)]) hx hb dX11_years_40 hl (by decide) rfl (fun ls hl => ?_)
          refine lv_iload hx hb dX11_years_42 (lv_at hl 0 rfl) ?_
          refine lv_if_eq (tgt := 56) hx hb dX11_years_44 (by decide) (fun _ => ?_) (fun c_8 => absurd (by decide) c_8)
          refine lv_iconst (v := (-1 : Int32)) hx hb dX11_years_56 (by decide) ?_
          exact yb_reti hfin hf hw dX11_years_57
        · have hf := yb_neg c_7 hf
          refine lv_iload_n hx hb dX11_years_29 rfl (lv_at hl 2 rfl) ?_
          refine lv_bipush (v := (99 : Int32)) hx hb dX11_years_30 (by decide) ?_
          refine lv_icmp_gt (tgt := 39) hx hb dX11_years_32 (by decide) (fun c_9 => ?_) (fun c_9 => ?_)
          · have hf := yb_pos c_9 hf
            refine lv_iconst (v := (0 : Int32)) hx hb dX11_years_39 (by decide) ?_
            refine lv_istore (lv' := [(4, .int (0 : Int32)), (0, .ref b), (1, .int x1), (2, .int x2), (3, .int x3)]) hx hb dX11_years_40 hl (by decide) rfl (fun ls hl => ?_)
            refine lv_iload hx hb dX11_years_42 (lv_at hl 0 rfl) ?_
            refine lv_if_eq (tgt := 56) hx hb dX11_years_44 (by decide) (fun _ => ?_) (fun c_10 => absurd (by decide) c_10)
            refine lv_iconst (v := (-1 : Int32)) hx hb dX11_years_56 (by decide) ?_
            exact yb_reti hfin hf hw dX11_years_57
          · have hf := yb_neg c_9 hf
            refine lv_iconst (v := (1 : Int32)) hx hb dX11_years_35 (by decide) ?_
            refine lv_goto (tgt := 40) hx hb dX11_years_36 (by decide) ?_
            refine lv_istore (lv' := [(4, .int (1 : Int32)), (0, .ref b), (1, .int x1), (2, .int x2), (3, .int x3)]) hx hb dX11_years_40 hl (by decide) rfl (fun ls hl => ?_)
            refine lv_iload hx hb dX11_years_42 (lv_at hl 0 rfl) ?_
            refine lv_if_eq (tgt := 56) hx hb dX11_years_44 (by decide) (fun c_11 => absurd c_11 (by decide)) (fun _ => ?_)
            refine lv_iload_n hx hb dX11_years_47 rfl (lv_at hl 4 rfl) ?_
            refine lv_if_lt (tgt := 56) hx hb dX11_years_48 (by decide) (fun c_12 => ?_) (fun c_12 => ?_)
            · have hf := yb_pos c_12 hf
              refine lv_iconst (v := (-1 : Int32)) hx hb dX11_years_56 (by decide) ?_
              exact yb_reti hfin hf hw dX11_years_57
            · have hf := yb_neg c_12 hf
              refine lv_iload_n hx hb dX11_years_51 rfl (lv_at hl 4 rfl) ?_
              refine lv_iconst (v := (1 : Int32)) hx hb dX11_years_52 (by decide) ?_
              refine lv_icmp_le (tgt := 58) hx hb dX11_years_53 (by decide) (fun c_13 => ?_) (fun c_13 => ?_)
              · have hf := yb_pos c_13 hf
                refine lv_aload_n hx hb dX11_years_58 rfl (lv_at hl 1 rfl) ?_
                refine x_getR X hK hw (cw_mem0 hC) (cw_S0 hC) cpX11 3 (by decide) rfl (cw_R hC 0 3 (by decide) rfl) tw_562 dX11_years_59 ?_
                refine x_getI X hK hw (cw_now hC).1.1 (cw_now hC).1.2 cpX8 7 (by decide) rfl tw_361 dX11_years_62 ?_
                refine lv_topi (fun x5_14 ex5_14 => ?_)
                have hf := yb_let_to ex5_14 hf
                refine lv_istore (lv' := [(5, .int x5_14), (4, .int (1 : Int32)), (0, .ref b), (1, .int x1), (2, .int x2), (3, .int x3)]) hx hb dX11_years_65 hl (by decide) rfl (fun ls hl => ?_)
                refine lv_iconst (v := (0 : Int32)) hx hb dX11_years_67 (by decide) ?_
                refine lv_istore (lv' := [(6, .int (0 : Int32)), (5, .int x5_14), (4, .int (1 : Int32)), (0, .ref b), (1, .int x1), (2, .int x2), (3, .int x3)]) hx hb dX11_years_68 hl (by decide) rfl (fun ls hl => ?_)
                refine lv_iconst (v := (0 : Int32)) hx hb dX11_years_70 (by decide) ?_
                refine lv_istore (lv' := [(7, .int (0 : Int32)), (6, .int (0 : Int32)), (5, .int x5_14), (4, .int (1 : Int32)), (0, .ref b), (1, .int x1), (2, .int x2), (3, .int x3)]) hx hb dX11_years_71 hl (by decide) rfl (fun ls hl => ?_)
                refine lv_aload_n hx hb dX11_years_73 rfl (lv_at hl 4 rfl) ?_
                refine x_getR X hK hw (cw_mem0 hC) (cw_S0 hC) cpX11 12 (by decide) rfl (cw_R hC 0 12 (by decide) rfl) tw_571 dX11_years_74 ?_
                refine lv_aload_n hx hb dX11_years_77 rfl (lv_at hl 4 rfl) ?_
                refine x_getR X hK hw (cw_mem0 hC) (cw_S0 hC) cpX11 3 (by decide) rfl (cw_R hC 0 3 (by decide) rfl) tw_562 dX11_years_78 ?_
                refine x_getR X hK hw (cw_now hC).1.1 (cw_now hC).1.2 cpX8 1 (by decide) rfl (cw_now hC).2.2.1.1 tw_351 dX11_years_81 ?_
                obtain ⟨r_15, I_16, J_17, hq_18, hf⟩ := yb_b3_some hf
                refine x_callv X hK hw (c0_copy l D cz ev hC (cw_kept hC) (st_course (cw_now hC)) hq_18) (cw_kept hC).1.1 (cw_kept hC).1.2 cpX0.1 vw_X11_336 ⟨Nat.le_of_ble_eq_true rfl, Nat.le_of_ble_eq_true rfl⟩ rfl rfl (Nat.le_of_ble_eq_true rfl) hl.1 ⟨Nat.le_refl _, Nat.le_refl _⟩ dX11_years_84 (fun H locs hw => ?_)
                refine lv_iconst (v := (0 : Int32)) hx hb dX11_years_87 (by decide) ?_
                refine lv_istore (lv' := [(8, .int (0 : Int32)), (7, .int (0 : Int32)), (6, .int (0 : Int32)), (5, .int x5_14), (4, .int (1 : Int32)), (0, .ref b), (1, .int x1), (2, .int x2), (3, .int x3)]) hx hb dX11_years_88 hl (by decide) rfl (fun ls hl => ?_)
                obtain ⟨q_49, I_50, J_51, hq_52, hf⟩ := yb_b3_some hf
                refine w11_years_L90 hC X hK _ _ _ _ _ _ _ _ _ _ _ _ hq_52 hw (lv_sub hl [5, 6, 7, 8, 3, 2, 1, 0] rfl) (fun H locs ls hw hl => ?_)
                refine lv_aload_n hx hb dX11_years_175 rfl (lv_at hl 0 rfl) ?_
                refine x_getR X hK hw (cw_mem0 hC) (cw_S0 hC) cpX11 3 (by decide) rfl (cw_R hC 0 3 (by decide) rfl) tw_562 dX11_years_176 ?_
                refine lv_iload hx hb dX11_years_179 (lv_at hl 2 rfl) ?_
                refine x_putI X hK hw (cw_now hC).1.1 (cw_now hC).1.2 cpX8 7 (by decide) rfl rfl rfl tw_361 dX11_years_181 (fun H locs hw => ?_)
                obtain ⟨I_53, eI_53, hf⟩ := yb_let_ex hf
                have hw := yb_wI eI_53 hw
                refine lv_iload_n hx hb dX11_years_184 rfl (lv_at hl 1 rfl) ?_
                refine lv_if_ne (tgt := 193) hx hb dX11_years_185 (by decide) (fun c_54 => ?_) (fun c_54 => ?_)
                · have hf := yb_neg c_54 hf
                  refine lv_iload hx hb dX11_years_193 (lv_at hl 4 rfl) ?_
                  exact yb_reti hfin hf hw dX11_years_195
                · have hf := yb_pos c_54 hf
                  refine lv_iload hx hb dX11_years_188 (lv_at hl 3 rfl) ?_
                  refine lv_goto (tgt := 195) hx hb dX11_years_190 (by decide) ?_
                  exact yb_reti hfin hf hw dX11_years_195
              · have hf := yb_neg c_13 hf
                refine lv_iconst (v := (-1 : Int32)) hx hb dX11_years_56 (by decide) ?_
                exact yb_reti hfin hf hw dX11_years_57
set_option maxHeartbeats 4000000 in
set_option maxRecDepth 100000 in
theorem c11_count (l : Launch) (D : va_G) (cz : Nat → ClassId) (ev : Nat × Nat × Nat) {b : Nat} {L : List Nat} {S : ST} {Rf : RT} (hC : CW b L S Rf) {N : Nat} {x1 : Int32} {I : IT} {J : JT} {r : Int32} {I1 : IT} {J1 : JT} (hf : f11_count N b S Rf x1 I J = some (r, I1, J1)) : MTi l D cz ev yX11_count cX11_count 3 (some .int) 1 23 [.ref b, .int x1] L S Rf I J r I1 J1 := by
  unfold f11_count at hf
  refine MTi_of (by decide) (Nat.le_of_ble_eq_true rfl) ?_
  intro p e s m args below meth c Q ls X hK hw hl hfin
  have X : CallFix p m c cX11_count 3 s args gw RX11 := X
  have hx := X.1
  have hb := X.2.1
  have hl : lv_has ls 3 [(0, .ref b), (1, .int x1)] := hl
  refine lv_aload_n hx hb dX11_count_0 rfl (lv_at hl 0 rfl) ?_
  refine x_getR X hK hw (cw_mem0 hC) (cw_S0 hC) cpX11 3 (by decide) rfl (cw_R hC 0 3 (by decide) rfl) tw_562 dX11_count_1 ?_
  refine x_getR X hK hw (cw_now hC).1.1 (cw_now hC).1.2 cpX8 0 (by decide) rfl (cw_now hC).2.1.1 tw_346 dX11_count_4 ?_
  refine lv_astore_n (lv' := [(2, .ref (b + 5)), (0, .ref b), (1, .int x1)]) hx hb dX11_count_7 rfl hl (by decide) rfl (fun ls hl => ?_)
  refine lv_iload_n hx hb dX11_count_8 rfl (lv_at hl 2 rfl) ?_
  by_cases c_1 : x1 = (0 : Int32)
  · have hf := yb_pos c_1 hf
    refine lv_tableIn (off := 75) (tgt := 84) hx hb dX11_count_9 (by rw [c_1]; decide) (by rw [c_1]; decide) (by rw [c_1]; rfl) (by decide) ?_
    refine lv_aload_n hx hb dX11_count_84 rfl (lv_at hl 0 rfl) ?_
    refine x_getI X hK hw (st_town (cw_now hC)).1.1 (st_town (cw_now hC)).1.2 cpX9 9 (by decide) rfl tw_228 dX11_count_85 ?_
    exact yb_reti hfin hf hw dX11_count_88
  have hf := yb_neg c_1 hf
  by_cases c_2 : x1 = (1 : Int32)
  · have hf := yb_pos c_2 hf
    refine lv_tableIn (off := 80) (tgt := 89) hx hb dX11_count_9 (by rw [c_2]; decide) (by rw [c_2]; decide) (by rw [c_2]; rfl) (by decide) ?_
    refine lv_aload_n hx hb dX11_count_89 rfl (lv_at hl 0 rfl) ?_
    refine x_getI X hK hw (st_town (cw_now hC)).1.1 (st_town (cw_now hC)).1.2 cpX9 10 (by decide) rfl tw_232 dX11_count_90 ?_
    exact yb_reti hfin hf hw dX11_count_93
  have hf := yb_neg c_2 hf
  by_cases c_3 : x1 = (2 : Int32)
  · have hf := yb_pos c_3 hf
    refine lv_tableIn (off := 85) (tgt := 94) hx hb dX11_count_9 (by rw [c_3]; decide) (by rw [c_3]; decide) (by rw [c_3]; rfl) (by decide) ?_
    refine lv_aload_n hx hb dX11_count_94 rfl (lv_at hl 0 rfl) ?_
    refine x_getI X hK hw (st_town (cw_now hC)).1.1 (st_town (cw_now hC)).1.2 cpX9 13 (by decide) rfl tw_243 dX11_count_95 ?_
    exact yb_reti hfin hf hw dX11_count_98
  have hf := yb_neg c_3 hf
  by_cases c_4 : x1 = (3 : Int32)
  · have hf := yb_pos c_4 hf
    refine lv_tableIn (off := 90) (tgt := 99) hx hb dX11_count_9 (by rw [c_4]; decide) (by rw [c_4]; decide) (by rw [c_4]; rfl) (by decide) ?_
    refine lv_aload_n hx hb dX11_count_99 rfl (lv_at hl 0 rfl) ?_
    refine x_getI X hK hw (st_town (cw_now hC)).1.1 (st_town (cw_now hC)).1.2 cpX9 14 (by decide) rfl tw_248 dX11_count_100 ?_
    exact yb_reti hfin hf hw dX11_count_103
  have hf := yb_neg c_4 hf
  by_cases c_5 : x1 = (4 : Int32)
  · have hf := yb_pos c_5 hf
    refine lv_tableIn (off := 95) (tgt := 104) hx hb dX11_count_9 (by rw [c_5]; decide) (by rw [c_5]; decide) (by rw [c_5]; rfl) (by decide) ?_
    refine lv_aload_n hx hb dX11_count_104 rfl (lv_at hl 1 rfl) ?_
    refine x_getI X hK hw (cw_mem0 hC) (cw_S0 hC) cpX11 15 (by decide) rfl tw_574 dX11_count_105 ?_
    exact yb_reti hfin hf hw dX11_count_108
  have hf := yb_neg c_5 hf
  by_cases c_6 : x1 = (5 : Int32)
  · have hf := yb_pos c_6 hf
    refine lv_tableIn (off := 100) (tgt := 109) hx hb dX11_count_9 (by rw [c_6]; decide) (by rw [c_6]; decide) (by rw [c_6]; rfl) (by decide) ?_
    refine lv_aload_n hx hb dX11_count_109 rfl (lv_at hl 1 rfl) ?_
    refine x_getR X hK hw (cw_mem0 hC) (cw_S0 hC) cpX11 3 (by decide) rfl (cw_R hC 0 3 (by decide) rfl) tw_562 dX11_count_110 ?_
    refine x_getI X hK hw (cw_now hC).1.1 (cw_now hC).1.2 cpX8 6 (by decide) rfl tw_358 dX11_count_113 ?_
    exact yb_reti hfin hf hw dX11_count_116
  have hf := yb_neg c_6 hf
  by_cases c_7 : x1 = (6 : Int32)
  · have hf := yb_pos c_7 hf
    refine lv_tableIn (off := 108) (tgt := 117) hx hb dX11_count_9 (by rw [c_7]; decide) (by rw [c_7]; decide) (by rw [c_7]; rfl) (by decide) ?_
    refine lv_aload_n hx hb dX11_count_117 rfl (lv_at hl 1 rfl) ?_
    refine x_getR X hK hw (cw_mem0 hC) (cw_S0 hC) cpX11 3 (by decide) rfl (cw_R hC 0 3 (by decide) rfl) tw_562 dX11_count_118 ?_
    refine x_getR X hK hw (cw_now hC).1.1 (cw_now hC).1.2 cpX8 1 (by decide) rfl (cw_now hC).2.2.1.1 tw_351 dX11_count_121 ?_
    refine x_getI X hK hw (st_course (cw_now hC)).1.1 (st_course (cw_now hC)).1.2 cpX0 9 (by decide) rfl tw_320 dX11_count_124 ?_
    exact yb_reti hfin hf hw dX11_count_127
  have hf := yb_neg c_7 hf
  by_cases c_8 : x1 = (7 : Int32)
  · have hf := yb_pos c_8 hf
    refine lv_tableIn (off := 119) (tgt := 128) hx hb dX11_count_9 (by rw [c_8]; decide) (by rw [c_8]; decide) (by rw [c_8]; rfl) (by decide) ?_
    refine lv_aload_n hx hb dX11_count_128 rfl (lv_at hl 1 rfl) ?_
    refine x_getR X hK hw (cw_mem0 hC) (cw_S0 hC) cpX11 3 (by decide) rfl (cw_R hC 0 3 (by decide) rfl) tw_562 dX11_count_129 ?_
    refine x_getR X hK hw (cw_now hC).1.1 (cw_now hC).1.2 cpX8 1 (by decide) rfl (cw_now hC).2.2.1.1 tw_351 dX11_count_132 ?_
    refine lv_aload_n hx hb dX11_count_135 rfl (lv_at hl 0 rfl) ?_
    refine x_getI X hK hw (st_town (cw_now hC)).1.1 (st_town (cw_now hC)).1.2 cpX9 14 (by decide) rfl tw_248 dX11_count_136 ?_
    obtain ⟨r_9, I_10, J_11, hq_12, hf⟩ := yb_b3_some hf
    refine x_calli X hK hw (c0_heardBits l D cz ev hC (st_course (cw_now hC)) hq_12) (st_course (cw_now hC)).1.1 (st_course (cw_now hC)).1.2 cpX0.1 vw_X11_358 ⟨Nat.le_of_ble_eq_true rfl, Nat.le_of_ble_eq_true rfl⟩ rfl rfl (Nat.le_of_ble_eq_true rfl) hl.1 ⟨Nat.le_refl _, Nat.le_refl _⟩ dX11_count_139 (fun H locs hw => ?_)
    exact yb_reti hfin hf hw dX11_count_142
  have hf := yb_neg c_8 hf
  by_cases c_13 : x1 = (8 : Int32)
  · have hf := yb_pos c_13 hf
    refine lv_tableIn (off := 134) (tgt := 143) hx hb dX11_count_9 (by rw [c_13]; decide) (by rw [c_13]; decide) (by rw [c_13]; rfl) (by decide) ?_
    refine lv_aload_n hx hb dX11_count_143 rfl (lv_at hl 1 rfl) ?_
    refine x_getR X hK hw (cw_mem0 hC) (cw_S0 hC) cpX11 3 (by decide) rfl (cw_R hC 0 3 (by decide) rfl) tw_562 dX11_count_144 ?_
    refine x_getR X hK hw (cw_now hC).1.1 (cw_now hC).1.2 cpX8 1 (by decide) rfl (cw_now hC).2.2.1.1 tw_351 dX11_count_147 ?_
    refine lv_aload_n hx hb dX11_count_150 rfl (lv_at hl 0 rfl) ?_
    refine x_getI X hK hw (st_town (cw_now hC)).1.1 (st_town (cw_now hC)).1.2 cpX9 14 (by decide) rfl tw_248 dX11_count_151 ?_
    obtain ⟨r_14, I_15, J_16, hq_17, hf⟩ := yb_b3_some hf
    refine x_calli X hK hw (c0_ruledBits l D cz ev hC (st_course (cw_now hC)) hq_17) (st_course (cw_now hC)).1.1 (st_course (cw_now hC)).1.2 cpX0.1 vw_X11_361 ⟨Nat.le_of_ble_eq_true rfl, Nat.le_of_ble_eq_true rfl⟩ rfl rfl (Nat.le_of_ble_eq_true rfl) hl.1 ⟨Nat.le_refl _, Nat.le_refl _⟩ dX11_count_154 (fun H locs hw => ?_)
    exact yb_reti hfin hf hw dX11_count_157
  have hf := yb_neg c_13 hf
  by_cases c_18 : x1 = (9 : Int32)
  · have hf := yb_pos c_18 hf
    refine lv_tableIn (off := 149) (tgt := 158) hx hb dX11_count_9 (by rw [c_18]; decide) (by rw [c_18]; decide) (by rw [c_18]; rfl) (by decide) ?_
    refine lv_aload_n hx hb dX11_count_158 rfl (lv_at hl 0 rfl) ?_
    refine x_getI X hK hw (st_town (cw_now hC)).1.1 (st_town (cw_now hC)).1.2 cpX9 8 (by decide) rfl tw_225 dX11_count_159 ?_
    refine lv_if_eq (tgt := 172) hx hb dX11_count_162 (by decide) (fun c_19 => ?_) (fun c_19 => ?_)
    · have hf := yb_pos c_19 hf
      refine lv_iconst (v := (-1 : Int32)) hx hb dX11_count_172 (by decide) ?_
      exact yb_reti hfin hf hw dX11_count_173
    · have hf := yb_neg c_19 hf
      refine lv_aload_n hx hb dX11_count_165 rfl (lv_at hl 0 rfl) ?_
      refine x_getI X hK hw (st_town (cw_now hC)).1.1 (st_town (cw_now hC)).1.2 cpX9 11 (by decide) rfl tw_235 dX11_count_166 ?_
      refine lv_goto (tgt := 173) hx hb dX11_count_169 (by decide) ?_
      exact yb_reti hfin hf hw dX11_count_173
  have hf := yb_neg c_18 hf
  by_cases c_20 : x1 = (10 : Int32)
  · have hf := yb_pos c_20 hf
    refine lv_tableIn (off := 165) (tgt := 174) hx hb dX11_count_9 (by rw [c_20]; decide) (by rw [c_20]; decide) (by rw [c_20]; rfl) (by decide) ?_
    refine lv_aload_n hx hb dX11_count_174 rfl (lv_at hl 0 rfl) ?_
    refine x_getI X hK hw (st_town (cw_now hC)).1.1 (st_town (cw_now hC)).1.2 cpX9 8 (by decide) rfl tw_225 dX11_count_175 ?_
    refine lv_if_eq (tgt := 188) hx hb dX11_count_178 (by decide) (fun c_21 => ?_) (fun c_21 => ?_)
    · have hf := yb_pos c_21 hf
      refine lv_iconst (v := (-1 : Int32)) hx hb dX11_count_188 (by decide) ?_
      exact yb_reti hfin hf hw dX11_count_189
    · have hf := yb_neg c_21 hf
      refine lv_aload_n hx hb dX11_count_181 rfl (lv_at hl 0 rfl) ?_
      refine x_getI X hK hw (st_town (cw_now hC)).1.1 (st_town (cw_now hC)).1.2 cpX9 12 (by decide) rfl tw_238 dX11_count_182 ?_
      refine lv_goto (tgt := 189) hx hb dX11_count_185 (by decide) ?_
      exact yb_reti hfin hf hw dX11_count_189
  have hf := yb_neg c_20 hf
  by_cases c_22 : x1 = (11 : Int32)
  · have hf := yb_pos c_22 hf
    refine lv_tableIn (off := 181) (tgt := 190) hx hb dX11_count_9 (by rw [c_22]; decide) (by rw [c_22]; decide) (by rw [c_22]; rfl) (by decide) ?_
    refine lv_aload_n hx hb dX11_count_190 rfl (lv_at hl 1 rfl) ?_
    refine x_getR X hK hw (cw_mem0 hC) (cw_S0 hC) cpX11 3 (by decide) rfl (cw_R hC 0 3 (by decide) rfl) tw_562 dX11_count_191 ?_
    refine x_getI X hK hw (cw_now hC).1.1 (cw_now hC).1.2 cpX8 5 (by decide) rfl tw_356 dX11_count_194 ?_
    exact yb_reti hfin hf hw dX11_count_197
  have hf := yb_neg c_22 hf
  by_cases c_23 : x1 = (12 : Int32)
  · have hf := yb_pos c_23 hf
    refine lv_tableIn (off := 189) (tgt := 198) hx hb dX11_count_9 (by rw [c_23]; decide) (by rw [c_23]; decide) (by rw [c_23]; rfl) (by decide) ?_
    refine lv_aload_n hx hb dX11_count_198 rfl (lv_at hl 1 rfl) ?_
    refine x_getR X hK hw (cw_mem0 hC) (cw_S0 hC) cpX11 5 (by decide) rfl (cw_R hC 0 5 (by decide) rfl) tw_564 dX11_count_199 ?_
    refine x_getI X hK hw (cw_mem hC 28 (by decide)) (cw_S hC 28 rfl) cpX2 2 (by decide) rfl tw_391 dX11_count_202 ?_
    exact yb_reti hfin hf hw dX11_count_205
  have hf := yb_neg c_23 hf
  by_cases c_24 : x1 = (13 : Int32)
  · have hf := yb_pos c_24 hf
    refine lv_tableIn (off := 197) (tgt := 206) hx hb dX11_count_9 (by rw [c_24]; decide) (by rw [c_24]; decide) (by rw [c_24]; rfl) (by decide) ?_
    refine lv_aload_n hx hb dX11_count_206 rfl (lv_at hl 1 rfl) ?_
    refine x_getR X hK hw (cw_mem0 hC) (cw_S0 hC) cpX11 3 (by decide) rfl (cw_R hC 0 3 (by decide) rfl) tw_562 dX11_count_207 ?_
    refine x_getI X hK hw (cw_now hC).1.1 (cw_now hC).1.2 cpX8 7 (by decide) rfl tw_361 dX11_count_210 ?_
    exact yb_reti hfin hf hw dX11_count_213
  have hf := yb_neg c_24 hf
  by_cases c_25 : x1 = (14 : Int32)
  · have hf := yb_pos c_25 hf
    refine lv_tableIn (off := 205) (tgt := 214) hx hb dX11_count_9 (by rw [c_25]; decide) (by rw [c_25]; decide) (by rw [c_25]; rfl) (by decide) ?_
    refine lv_aload_n hx hb dX11_count_214 rfl (lv_at hl 1 rfl) ?_
    refine x_getI X hK hw (cw_mem0 hC) (cw_S0 hC) cpX11 14 (by decide) rfl tw_573 dX11_count_215 ?_
    exact yb_reti hfin hf hw dX11_count_218
  have hf := yb_neg c_25 hf
  refine lv_tableOut (tgt := 219) hx hb dX11_count_9 (by
      rcases Int.lt_or_le (x1).toInt 0 with g1 | g1
      · exact Or.inl g1
      · rcases Int.lt_or_le 14 (x1).toInt with g2 | g2
        · exact Or.inr g2
        · exfalso
          have g3 : (x1).toInt = 0 ∨ (x1).toInt = 1 ∨ (x1).toInt = 2 ∨ (x1).toInt = 3 ∨ (x1).toInt = 4 ∨ (x1).toInt = 5 ∨ (x1).toInt = 6 ∨ (x1).toInt = 7 ∨ (x1).toInt = 8 ∨ (x1).toInt = 9 ∨ (x1).toInt = 10 ∨ (x1).toInt = 11 ∨ (x1).toInt = 12 ∨ (x1).toInt = 13 ∨ (x1).toInt = 14 := by omega
          rcases g3 with g3 | g3 | g3 | g3 | g3 | g3 | g3 | g3 | g3 | g3 | g3 | g3 | g3 | g3 | g3
          · exact c_1 (yb_sw (0 : Int32) g3 rfl)
          · exact c_2 (yb_sw (1 : Int32) g3 rfl)
          · exact c_3 (yb_sw (2 : Int32) g3 rfl)
          · exact c_4 (yb_sw (3 : Int32) g3 rfl)
          · exact c_5 (yb_sw (4 : Int32) g3 rfl)
          · exact c_6 (yb_sw (5 : Int32) g3 rfl)
          · exact c_7 (yb_sw (6 : Int32) g3 rfl)
          · exact c_8 (yb_sw (7 : Int32) g3 rfl)
          · exact c_13 (yb_sw (8 : Int32) g3 rfl)
          · exact c_18 (yb_sw (9 : Int32) g3 rfl)
          · exact c_20 (yb_sw (10 : Int32) g3 rfl)
          · exact c_22 (yb_sw (11 : Int32) g3 rfl)
          · exact c_23 (yb_sw (12 : Int32) g3 rfl)
          · exact c_24 (yb_sw (13 : Int32) g3 rfl)
          · exact c_25 (yb_sw (14 : Int32) g3 rfl)) (by decide) ?_
  refine lv_iconst (v := (-1 : Int32)) hx hb dX11_count_219 (by decide) ?_
  exact yb_reti hfin hf hw dX11_count_220
set_option maxHeartbeats 4000000 in
set_option maxRecDepth 100000 in
theorem c11_back (l : Launch) (D : va_G) (cz : Nat → ClassId) (ev : Nat × Nat × Nat) {b : Nat} {L : List Nat} {S : ST} {Rf : RT} (hC : CW b L S Rf) {x1 : Int32} {I : IT} {J : JT} {r : Int32} {I1 : IT} {J1 : JT} (hf : f11_back b S Rf x1 I J = some (r, I1, J1)) : MTi l D cz ev yX11_back cX11_back 2 (some .int) 3 142 [.ref b, .int x1] L S Rf I J r I1 J1 := by
  unfold f11_back at hf
  refine MTi_of (by decide) (Nat.le_of_ble_eq_true rfl) ?_
  intro p e s m args below meth c Q ls X hK hw hl hfin
  have X : CallFix p m c cX11_back 2 s args gw RX11 := X
  have hx := X.1
  have hb := X.2.1
  have hl : lv_has ls 2 [(0, .ref b), (1, .int x1)] := hl
  refine lv_iload_n hx hb dX11_back_0 rfl (lv_at hl 1 rfl) ?_
  refine lv_if_lt (tgt := 18) hx hb dX11_back_1 (by decide) (fun c_1 => ?_) (fun c_1 => ?_)
  · have hf := yb_pos c_1 hf
    refine lv_iconst (v := (-1 : Int32)) hx hb dX11_back_18 (by decide) ?_
    exact yb_reti hfin hf hw dX11_back_19
  · have hf := yb_neg c_1 hf
    refine lv_iload_n hx hb dX11_back_4 rfl (lv_at hl 1 rfl) ?_
    refine lv_iconst (v := (4 : Int32)) hx hb dX11_back_5 (by decide) ?_
    refine lv_icmp_ge (tgt := 18) hx hb dX11_back_6 (by decide) (fun c_2 => ?_) (fun c_2 => ?_)
    · have hf := yb_pos c_2 hf
      refine lv_iconst (v := (-1 : Int32)) hx hb dX11_back_18 (by decide) ?_
      exact yb_reti hfin hf hw dX11_back_19
    · have hf := yb_neg c_2 hf
      refine lv_aload_n hx hb dX11_back_9 rfl (lv_at hl 0 rfl) ?_
      refine x_getR X hK hw (cw_mem0 hC) (cw_S0 hC) cpX11 4 (by decide) rfl (cw_R hC 0 4 (by decide) rfl) tw_563 dX11_back_10 ?_
      refine lv_iload_n hx hb dX11_back_13 rfl (lv_at hl 1 rfl) ?_
      obtain ⟨hi_3, hf⟩ := yb_ck_some hf
      rcases ho_5 : Rf (b + 27) x1.toNatClampNeg with _ | t_4
      · rw [ho_5] at hf
        have hf := yb_op_n hf
        refine x_aaldN_5 X hK hw (cw_mem hC 27 (by decide)) (cw_S hC 27 rfl) hi_3 rfl ho_5 dX11_back_14 ?_
        refine lv_ifnonnullN hx hb dX11_back_15 ?_
        refine lv_iconst (v := (-1 : Int32)) hx hb dX11_back_18 (by decide) ?_
        exact yb_reti hfin hf hw dX11_back_19
      · rw [ho_5] at hf
        have hf := yb_op_s hf
        refine x_aaldS_5 X hK hw (cw_mem hC 27 (by decide)) (cw_S hC 27 rfl) hi_3 rfl ho_5 dX11_back_14 ?_
        refine lv_ifnonnull (tgt := 20) hx hb dX11_back_15 (by decide) ?_
        refine lv_aload_n hx hb dX11_back_20 rfl (lv_at hl 0 rfl) ?_
        refine x_getR X hK hw (cw_mem0 hC) (cw_S0 hC) cpX11 3 (by decide) rfl (cw_R hC 0 3 (by decide) rfl) tw_562 dX11_back_21 ?_
        refine lv_aload_n hx hb dX11_back_24 rfl (lv_at hl 0 rfl) ?_
        refine x_getR X hK hw (cw_mem0 hC) (cw_S0 hC) cpX11 4 (by decide) rfl (cw_R hC 0 4 (by decide) rfl) tw_563 dX11_back_25 ?_
        refine lv_iload_n hx hb dX11_back_28 rfl (lv_at hl 1 rfl) ?_
        refine x_aaldS_5 X hK hw (cw_mem hC 27 (by decide)) (cw_S hC 27 rfl) hi_3 rfl ho_5 dX11_back_29 ?_
        obtain ⟨r_6, I_7, J_8, hq_9, hf⟩ := yb_b3_some hf
        refine x_callv X hK hw (c8_copy l D cz ev hC (cw_now hC) (cw_image hC ho_5) hq_9) (cw_now hC).1.1 (cw_now hC).1.2 cpX8.1 vw_X11_370 ⟨Nat.le_of_ble_eq_true rfl, Nat.le_of_ble_eq_true rfl⟩ rfl rfl (Nat.le_of_ble_eq_true rfl) hl.1 ⟨Nat.le_refl _, Nat.le_refl _⟩ dX11_back_30 (fun H locs hw => ?_)
        refine lv_aload_n hx hb dX11_back_33 rfl (lv_at hl 0 rfl) ?_
        refine x_getR X hK hw (cw_mem0 hC) (cw_S0 hC) cpX11 5 (by decide) rfl (cw_R hC 0 5 (by decide) rfl) tw_564 dX11_back_34 ?_
        obtain ⟨r_10, I_11, J_12, hq_13, hf⟩ := yb_b3_some hf
        refine x_callv X hK hw (c2_forget l D cz ev hC hq_13) (cw_mem hC 28 (by decide)) (cw_S hC 28 rfl) cpX2.1 vw_X11_131 ⟨Nat.le_of_ble_eq_true rfl, Nat.le_of_ble_eq_true rfl⟩ rfl rfl (Nat.le_of_ble_eq_true rfl) hl.1 ⟨Nat.le_refl _, Nat.le_refl _⟩ dX11_back_37 (fun H locs hw => ?_)
        refine lv_aload_n hx hb dX11_back_40 rfl (lv_at hl 0 rfl) ?_
        refine x_getR X hK hw (cw_mem0 hC) (cw_S0 hC) cpX11 3 (by decide) rfl (cw_R hC 0 3 (by decide) rfl) tw_562 dX11_back_41 ?_
        refine x_getR X hK hw (cw_now hC).1.1 (cw_now hC).1.2 cpX8 1 (by decide) rfl (cw_now hC).2.2.1.1 tw_351 dX11_back_44 ?_
        refine x_getI X hK hw (st_course (cw_now hC)).1.1 (st_course (cw_now hC)).1.2 cpX0 9 (by decide) rfl tw_320 dX11_back_47 ?_
        exact yb_reti hfin hf hw dX11_back_50
