set_option maxHeartbeats 4000000 in
set_option maxRecDepth 100000 in
theorem c8_draw (l : Launch) (D : va_G) (cz : Nat → ClassId) (ev : Nat × Nat × Nat) {b : Nat} {L : List Nat} {S : ST} {Rf : RT} (hC : CW b L S Rf) {t0 : Nat} (h0 : StateAt L S Rf t0) {I : IT} {J : JT} {r : Int32} {I1 : IT} {J1 : JT} (hf : f8_draw b S Rf t0 I J = some (r, I1, J1)) : MTi l D cz ev yX8_draw cX8_draw 1 (some .int) 0 0 [.ref t0] L S Rf I J r I1 J1 := by
  unfold f8_draw at hf
  refine MTi_of (by decide) (Nat.le_of_ble_eq_true rfl) ?_
  intro p e s m args below meth c Q ls X hK hw hl hfin
  have X : CallFix p m c cX8_draw 1 s args gw RX8 := X
  have hx := X.1
  have hb := X.2.1
  have hl : lv_has ls 1 [(0, .ref t0)] := hl
  refine lv_aload_n hx hb dX8_draw_0 rfl (lv_at hl 0 rfl) ?_
  refine lv_aload_n hx hb dX8_draw_1 rfl (lv_at hl 0 rfl) ?_
  refine x_getI X hK hw h0.1.1 h0.1.2 cpX8 7 (by decide) rfl tw_360 dX8_draw_2 ?_
  refine lv_i2l hx hb dX8_draw_5 rfl ?_
  refine lv_ldc2 (v := (1103515245 : Int64)) hx hb X.2.2.2.1 (X.2.2.2.2 _ tw_1211) dX8_draw_6 ?_
  refine lv_lmul hx hb dX8_draw_9 ?_
  refine lv_ldc2 (v := (12345 : Int64)) hx hb X.2.2.2.1 (X.2.2.2.2 _ tw_1212) dX8_draw_10 ?_
  refine lv_ladd hx hb dX8_draw_13 ?_
  refine lv_ldc2 (v := (2147483647 : Int64)) hx hb X.2.2.2.1 (X.2.2.2.2 _ tw_1213) dX8_draw_14 ?_
  refine lv_land hx hb dX8_draw_17 ?_
  refine lv_l2i hx hb dX8_draw_18 rfl ?_
  refine x_putI X hK hw h0.1.1 h0.1.2 cpX8 7 (by decide) rfl rfl rfl tw_360 dX8_draw_19 (fun H locs hw => ?_)
  obtain ⟨I_1, eI_1, hf⟩ := yb_let_ex hf
  have hw := yb_wI eI_1 hw
  refine lv_aload_n hx hb dX8_draw_22 rfl (lv_at hl 0 rfl) ?_
  refine x_getI X hK hw h0.1.1 h0.1.2 cpX8 7 (by decide) rfl tw_360 dX8_draw_23 ?_
  refine lv_ldc (v := (65536 : Int32)) hx hb X.2.2.2.1 (X.2.2.2.2 _ tw_1214) dX8_draw_26 ?_
  refine lv_idiv hx hb dX8_draw_28 (by decide) ?_
  exact yb_reti hfin hf hw dX8_draw_29
set_option maxHeartbeats 4000000 in
set_option maxRecDepth 100000 in
theorem c9_clear (l : Launch) (D : va_G) (cz : Nat → ClassId) (ev : Nat × Nat × Nat) {b : Nat} {L : List Nat} {S : ST} {Rf : RT} (hC : CW b L S Rf) {t0 : Nat} (h0 : TownAt L S Rf t0) {N : Nat} {I : IT} {J : JT} {r : Unit} {I1 : IT} {J1 : JT} (hf : f9_clear N b S Rf t0 I J = some (r, I1, J1)) : MTv l D cz ev yX9_clear cX9_clear 1 (none) 1 23 [.ref t0] L S Rf I J r I1 J1 := by
  unfold f9_clear at hf
  refine MTv_of (by decide) (Nat.le_of_ble_eq_true rfl) ?_
  intro p e s m args below meth c Q ls X hK hw hl hfin
  have X : CallFix p m c cX9_clear 1 s args gw RX9 := X
  have hx := X.1
  have hb := X.2.1
  have hl : lv_has ls 1 [(0, .ref t0)] := hl
  refine lv_aload_n hx hb dX9_clear_0 rfl (lv_at hl 0 rfl) ?_
  refine lv_iconst (v := (0 : Int32)) hx hb dX9_clear_1 (by decide) ?_
  refine x_putZ X hK hw h0.1.1 h0.1.2 cpX9 8 (by decide) (by decide) rfl rfl rfl tw_223 dX9_clear_2 (fun H locs hw => ?_)
  obtain ⟨I_1, eI_1, hf⟩ := yb_let_ex hf
  have hw := yb_wI eI_1 hw
  refine lv_aload_n hx hb dX9_clear_5 rfl (lv_at hl 0 rfl) ?_
  refine lv_iconst (v := (0 : Int32)) hx hb dX9_clear_6 (by decide) ?_
  refine x_putI X hK hw h0.1.1 h0.1.2 cpX9 9 (by decide) rfl rfl rfl tw_226 dX9_clear_7 (fun H locs hw => ?_)
  obtain ⟨I_2, eI_2, hf⟩ := yb_let_ex hf
  have hw := yb_wI eI_2 hw
  refine lv_aload_n hx hb dX9_clear_10 rfl (lv_at hl 0 rfl) ?_
  refine lv_iconst (v := (0 : Int32)) hx hb dX9_clear_11 (by decide) ?_
  refine x_putI X hK hw h0.1.1 h0.1.2 cpX9 10 (by decide) rfl rfl rfl tw_229 dX9_clear_12 (fun H locs hw => ?_)
  obtain ⟨I_3, eI_3, hf⟩ := yb_let_ex hf
  have hw := yb_wI eI_3 hw
  refine lv_aload_n hx hb dX9_clear_15 rfl (lv_at hl 0 rfl) ?_
  refine lv_iconst (v := (0 : Int32)) hx hb dX9_clear_16 (by decide) ?_
  refine x_putI X hK hw h0.1.1 h0.1.2 cpX9 11 (by decide) rfl rfl rfl tw_233 dX9_clear_17 (fun H locs hw => ?_)
  obtain ⟨I_4, eI_4, hf⟩ := yb_let_ex hf
  have hw := yb_wI eI_4 hw
  refine lv_aload_n hx hb dX9_clear_20 rfl (lv_at hl 0 rfl) ?_
  refine lv_sipush (v := (9999 : Int32)) hx hb dX9_clear_21 (by decide) ?_
  refine x_putI X hK hw h0.1.1 h0.1.2 cpX9 12 (by decide) rfl rfl rfl tw_236 dX9_clear_24 (fun H locs hw => ?_)
  obtain ⟨I_5, eI_5, hf⟩ := yb_let_ex hf
  have hw := yb_wI eI_5 hw
  refine lv_aload_n hx hb dX9_clear_27 rfl (lv_at hl 0 rfl) ?_
  refine lv_iconst (v := (0 : Int32)) hx hb dX9_clear_28 (by decide) ?_
  refine x_putI X hK hw h0.1.1 h0.1.2 cpX9 13 (by decide) rfl rfl rfl tw_239 dX9_clear_29 (fun H locs hw => ?_)
  obtain ⟨I_6, eI_6, hf⟩ := yb_let_ex hf
  have hw := yb_wI eI_6 hw
  refine lv_aload_n hx hb dX9_clear_32 rfl (lv_at hl 0 rfl) ?_
  refine lv_iconst (v := (0 : Int32)) hx hb dX9_clear_33 (by decide) ?_
  refine x_putI X hK hw h0.1.1 h0.1.2 cpX9 14 (by decide) rfl rfl rfl tw_244 dX9_clear_34 (fun H locs hw => ?_)
  obtain ⟨I_7, eI_7, hf⟩ := yb_let_ex hf
  have hw := yb_wI eI_7 hw
  refine lv_aload_n hx hb dX9_clear_37 rfl (lv_at hl 0 rfl) ?_
  refine x_getR X hK hw h0.1.1 h0.1.2 cpX9 3 (by decide) rfl (ta_R h0 3 (by decide)) tw_203 dX9_clear_38 ?_
  refine lv_iconst (v := (0 : Int32)) hx hb dX9_clear_41 (by decide) ?_
  obtain ⟨r_11, I_8, J_9, hq_10, hf⟩ := yb_b3_some hf
  refine x_callsv X hK hw (cJ_fill_53178 l D cz ev (ta_mem h0 3 (by decide)) (ta_S h0 3 rfl) hq_10) sw_X9_59 ⟨Nat.le_of_ble_eq_true rfl, Nat.le_of_ble_eq_true rfl⟩ rfl rfl (Nat.le_of_ble_eq_true rfl) hl.1 ⟨Nat.le_refl _, Nat.le_refl _⟩ dX9_clear_42 (fun H locs hw => ?_)
  exact yb_retv hfin hf hw dX9_clear_45
set_option maxHeartbeats 4000000 in
set_option maxRecDepth 100000 in
theorem c9_hasCase (l : Launch) (D : va_G) (cz : Nat → ClassId) (ev : Nat × Nat × Nat) {b : Nat} {L : List Nat} {S : ST} {Rf : RT} (hC : CW b L S Rf) {t0 : Nat} (h0 : TownAt L S Rf t0) {x1 : Int32} {I : IT} {J : JT} {r : Int32} {I1 : IT} {J1 : JT} (hf : f9_hasCase b S Rf t0 x1 I J = some (r, I1, J1)) : MTi l D cz ev yX9_hasCase cX9_hasCase 2 (some .boolean) 0 0 [.ref t0, .int x1] L S Rf I J r I1 J1 := by
  unfold f9_hasCase at hf
  refine MTz_of (by decide) (Nat.le_of_ble_eq_true rfl) ?_
  intro p e s m args below meth c Q ls X hK hw hl hfin
  have X : CallFix p m c cX9_hasCase 2 s args gw RX9 := X
  have hx := X.1
  have hb := X.2.1
  have hl : lv_has ls 2 [(0, .ref t0), (1, .int x1)] := hl
  refine lv_iload_n hx hb dX9_hasCase_0 rfl (lv_at hl 1 rfl) ?_
  refine lv_if_lt (tgt := 16) hx hb dX9_hasCase_1 (by decide) (fun c_1 => ?_) (fun c_1 => ?_)
  · have hf := yb_pos c_1 hf
    refine lv_iconst (v := (0 : Int32)) hx hb dX9_hasCase_16 (by decide) ?_
    exact yb_retz hfin (by decide) hf hw dX9_hasCase_17
  · have hf := yb_neg c_1 hf
    refine lv_iload_n hx hb dX9_hasCase_4 rfl (lv_at hl 1 rfl) ?_
    refine lv_aload_n hx hb dX9_hasCase_5 rfl (lv_at hl 0 rfl) ?_
    refine x_getI X hK hw h0.1.1 h0.1.2 cpX9 14 (by decide) rfl tw_244 dX9_hasCase_6 ?_
    refine lv_icmp_ge (tgt := 16) hx hb dX9_hasCase_9 (by decide) (fun c_2 => ?_) (fun c_2 => ?_)
    · have hf := yb_pos c_2 hf
      refine lv_iconst (v := (0 : Int32)) hx hb dX9_hasCase_16 (by decide) ?_
      exact yb_retz hfin (by decide) hf hw dX9_hasCase_17
    · have hf := yb_neg c_2 hf
      refine lv_iconst (v := (1 : Int32)) hx hb dX9_hasCase_12 (by decide) ?_
      refine lv_goto (tgt := 17) hx hb dX9_hasCase_13 (by decide) ?_
      exact yb_retz hfin (by decide) hf hw dX9_hasCase_17
set_option maxHeartbeats 4000000 in
set_option maxRecDepth 100000 in
theorem c10_isOneTooMany (l : Launch) (D : va_G) (cz : Nat → ClassId) (ev : Nat × Nat × Nat) {b : Nat} {L : List Nat} {S : ST} {Rf : RT} (hC : CW b L S Rf) {x1 : Int32} {I : IT} {J : JT} {r : Int32} {I1 : IT} {J1 : JT} (hf : f10_isOneTooMany b S Rf x1 I J = some (r, I1, J1)) : MTi l D cz ev yX10_isOneTooMany cX10_isOneTooMany 2 (some .boolean) 0 0 [.ref (b + 61), .int x1] L S Rf I J r I1 J1 := by
  unfold f10_isOneTooMany at hf
  refine MTz_of (by decide) (Nat.le_of_ble_eq_true rfl) ?_
  intro p e s m args below meth c Q ls X hK hw hl hfin
  have X : CallFix p m c cX10_isOneTooMany 2 s args gw RX10 := X
  have hx := X.1
  have hb := X.2.1
  have hl : lv_has ls 2 [(0, .ref (b + 61)), (1, .int x1)] := hl
  refine lv_aload_n hx hb dX10_isOneTooMany_0 rfl (lv_at hl 0 rfl) ?_
  refine x_getI X hK hw (cw_mem hC 61 (by decide)) (cw_S hC 61 rfl) cpX10 2 (by decide) rfl tw_524 dX10_isOneTooMany_1 ?_
  refine lv_bipush (v := (40 : Int32)) hx hb dX10_isOneTooMany_4 (by decide) ?_
  refine lv_icmp_ge (tgt := 30) hx hb dX10_isOneTooMany_6 (by decide) (fun c_1 => ?_) (fun c_1 => ?_)
  · have hf := yb_pos c_1 hf
    refine lv_iconst (v := (1 : Int32)) hx hb dX10_isOneTooMany_30 (by decide) ?_
    exact yb_retz hfin (by decide) hf hw dX10_isOneTooMany_31
  · have hf := yb_neg c_1 hf
    refine lv_aload_n hx hb dX10_isOneTooMany_9 rfl (lv_at hl 0 rfl) ?_
    refine x_getR X hK hw (cw_mem hC 61 (by decide)) (cw_S hC 61 rfl) cpX10 1 (by decide) rfl (cw_R hC 61 1 (by decide) rfl) tw_523 dX10_isOneTooMany_10 ?_
    refine x_getI X hK hw (cw_draft hC).1.1 (cw_draft hC).1.2 cpX9 8 (by decide) rfl tw_224 dX10_isOneTooMany_13 ?_
    refine lv_iload_n hx hb dX10_isOneTooMany_16 rfl (lv_at hl 1 rfl) ?_
    refine lv_bipush (v := (17 : Int32)) hx hb dX10_isOneTooMany_17 (by decide) ?_
    refine lv_icmp_ne (tgt := 26) hx hb dX10_isOneTooMany_19 (by decide) (fun c_2 => ?_) (fun c_2 => ?_)
    · have hf := yb_neg c_2 hf
      refine lv_iconst (v := (0 : Int32)) hx hb dX10_isOneTooMany_26 (by decide) ?_
      refine lv_icmp_ne (tgt := 32) hx hb dX10_isOneTooMany_27 (by decide) (fun c_3 => ?_) (fun c_3 => ?_)
      · have hf := yb_neg c_3 hf
        refine lv_iload_n hx hb dX10_isOneTooMany_32 rfl (lv_at hl 1 rfl) ?_
        by_cases c_4 : x1 = (18 : Int32)
        · have hf := yb_pos c_4 hf
          refine lv_tableIn (off := 31) (tgt := 64) hx hb dX10_isOneTooMany_33 (by rw [c_4]; decide) (by rw [c_4]; decide) (by rw [c_4]; rfl) (by decide) ?_
          refine lv_aload_n hx hb dX10_isOneTooMany_64 rfl (lv_at hl 0 rfl) ?_
          refine x_getI X hK hw (cw_mem hC 61 (by decide)) (cw_S hC 61 rfl) cpX10 4 (by decide) rfl tw_526 dX10_isOneTooMany_65 ?_
          obtain ⟨hz_5, hf⟩ := yb_ck_some hf
          exact yb_retz hfin hz_5 hf hw dX10_isOneTooMany_68
        have hf := yb_neg c_4 hf
        by_cases c_6 : x1 = (19 : Int32)
        · have hf := yb_pos c_6 hf
          refine lv_tableIn (off := 36) (tgt := 69) hx hb dX10_isOneTooMany_33 (by rw [c_6]; decide) (by rw [c_6]; decide) (by rw [c_6]; rfl) (by decide) ?_
          refine lv_aload_n hx hb dX10_isOneTooMany_69 rfl (lv_at hl 0 rfl) ?_
          refine x_getR X hK hw (cw_mem hC 61 (by decide)) (cw_S hC 61 rfl) cpX10 1 (by decide) rfl (cw_R hC 61 1 (by decide) rfl) tw_523 dX10_isOneTooMany_70 ?_
          refine x_getI X hK hw (cw_draft hC).1.1 (cw_draft hC).1.2 cpX9 13 (by decide) rfl tw_242 dX10_isOneTooMany_73 ?_
          refine lv_bipush (v := (7 : Int32)) hx hb dX10_isOneTooMany_76 (by decide) ?_
          refine lv_icmp_lt (tgt := 85) hx hb dX10_isOneTooMany_78 (by decide) (fun c_7 => ?_) (fun c_7 => ?_)
          · have hf := yb_pos c_7 hf
            refine lv_iconst (v := (0 : Int32)) hx hb dX10_isOneTooMany_85 (by decide) ?_
            exact yb_retz hfin (by decide) hf hw dX10_isOneTooMany_86
          · have hf := yb_neg c_7 hf
            refine lv_iconst (v := (1 : Int32)) hx hb dX10_isOneTooMany_81 (by decide) ?_
            refine lv_goto (tgt := 86) hx hb dX10_isOneTooMany_82 (by decide) ?_
            exact yb_retz hfin (by decide) hf hw dX10_isOneTooMany_86
        have hf := yb_neg c_6 hf
        by_cases c_8 : x1 = (20 : Int32)
        · have hf := yb_pos c_8 hf
          refine lv_tableIn (off := 54) (tgt := 87) hx hb dX10_isOneTooMany_33 (by rw [c_8]; decide) (by rw [c_8]; decide) (by rw [c_8]; rfl) (by decide) ?_
          refine lv_aload_n hx hb dX10_isOneTooMany_87 rfl (lv_at hl 0 rfl) ?_
          refine x_getI X hK hw (cw_mem hC 61 (by decide)) (cw_S hC 61 rfl) cpX10 3 (by decide) rfl tw_525 dX10_isOneTooMany_88 ?_
          refine lv_iconst (v := (4 : Int32)) hx hb dX10_isOneTooMany_91 (by decide) ?_
          refine lv_icmp_lt (tgt := 99) hx hb dX10_isOneTooMany_92 (by decide) (fun c_9 => ?_) (fun c_9 => ?_)
          · have hf := yb_pos c_9 hf
            refine lv_iconst (v := (0 : Int32)) hx hb dX10_isOneTooMany_99 (by decide) ?_
            exact yb_retz hfin (by decide) hf hw dX10_isOneTooMany_100
          · have hf := yb_neg c_9 hf
            refine lv_iconst (v := (1 : Int32)) hx hb dX10_isOneTooMany_95 (by decide) ?_
            refine lv_goto (tgt := 100) hx hb dX10_isOneTooMany_96 (by decide) ?_
            exact yb_retz hfin (by decide) hf hw dX10_isOneTooMany_100
        have hf := yb_neg c_8 hf
        by_cases c_10 : x1 = (21 : Int32)
        · have hf := yb_pos c_10 hf
          refine lv_tableIn (off := 68) (tgt := 101) hx hb dX10_isOneTooMany_33 (by rw [c_10]; decide) (by rw [c_10]; decide) (by rw [c_10]; rfl) (by decide) ?_
          refine lv_aload_n hx hb dX10_isOneTooMany_101 rfl (lv_at hl 0 rfl) ?_
          refine x_getR X hK hw (cw_mem hC 61 (by decide)) (cw_S hC 61 rfl) cpX10 1 (by decide) rfl (cw_R hC 61 1 (by decide) rfl) tw_523 dX10_isOneTooMany_102 ?_
          refine x_getI X hK hw (cw_draft hC).1.1 (cw_draft hC).1.2 cpX9 14 (by decide) rfl tw_246 dX10_isOneTooMany_105 ?_
          refine lv_bipush (v := (6 : Int32)) hx hb dX10_isOneTooMany_108 (by decide) ?_
          refine lv_icmp_lt (tgt := 117) hx hb dX10_isOneTooMany_110 (by decide) (fun c_11 => ?_) (fun c_11 => ?_)
          · have hf := yb_pos c_11 hf
            refine lv_iconst (v := (0 : Int32)) hx hb dX10_isOneTooMany_117 (by decide) ?_
            exact yb_retz hfin (by decide) hf hw dX10_isOneTooMany_118
          · have hf := yb_neg c_11 hf
            refine lv_iconst (v := (1 : Int32)) hx hb dX10_isOneTooMany_113 (by decide) ?_
            refine lv_goto (tgt := 118) hx hb dX10_isOneTooMany_114 (by decide) ?_
            exact yb_retz hfin (by decide) hf hw dX10_isOneTooMany_118
        have hf := yb_neg c_10 hf
        refine lv_tableOut (tgt := 119) hx hb dX10_isOneTooMany_33 (by
            rcases Int.lt_or_le (x1).toInt 18 with g1 | g1
            · exact Or.inl g1
            · rcases Int.lt_or_le 21 (x1).toInt with g2 | g2
              · exact Or.inr g2
              · exfalso
                have g3 : (x1).toInt = 18 ∨ (x1).toInt = 19 ∨ (x1).toInt = 20 ∨ (x1).toInt = 21 := by omega
                rcases g3 with g3 | g3 | g3 | g3
                · exact c_4 (yb_sw (18 : Int32) g3 rfl)
                · exact c_6 (yb_sw (19 : Int32) g3 rfl)
                · exact c_8 (yb_sw (20 : Int32) g3 rfl)
                · exact c_10 (yb_sw (21 : Int32) g3 rfl)) (by decide) ?_
        refine lv_iconst (v := (0 : Int32)) hx hb dX10_isOneTooMany_119 (by decide) ?_
        exact yb_retz hfin (by decide) hf hw dX10_isOneTooMany_120
      · have hf := yb_pos c_3 hf
        refine lv_iconst (v := (1 : Int32)) hx hb dX10_isOneTooMany_30 (by decide) ?_
        exact yb_retz hfin (by decide) hf hw dX10_isOneTooMany_31
    · have hf := yb_pos c_2 hf
      refine lv_iconst (v := (1 : Int32)) hx hb dX10_isOneTooMany_22 (by decide) ?_
      refine lv_goto (tgt := 27) hx hb dX10_isOneTooMany_23 (by decide) ?_
      refine lv_icmp_ne (tgt := 32) hx hb dX10_isOneTooMany_27 (by decide) (fun c_12 => ?_) (fun c_12 => ?_)
      · have hf := yb_neg c_12 hf
        refine lv_iload_n hx hb dX10_isOneTooMany_32 rfl (lv_at hl 1 rfl) ?_
        by_cases c_13 : x1 = (18 : Int32)
        · have hf := yb_pos c_13 hf
          refine lv_tableIn (off := 31) (tgt := 64) hx hb dX10_isOneTooMany_33 (by rw [c_13]; decide) (by rw [c_13]; decide) (by rw [c_13]; rfl) (by decide) ?_
          refine lv_aload_n hx hb dX10_isOneTooMany_64 rfl (lv_at hl 0 rfl) ?_
          refine x_getI X hK hw (cw_mem hC 61 (by decide)) (cw_S hC 61 rfl) cpX10 4 (by decide) rfl tw_526 dX10_isOneTooMany_65 ?_
          obtain ⟨hz_14, hf⟩ := yb_ck_some hf
          exact yb_retz hfin hz_14 hf hw dX10_isOneTooMany_68
        have hf := yb_neg c_13 hf
        by_cases c_15 : x1 = (19 : Int32)
        · have hf := yb_pos c_15 hf
          refine lv_tableIn (off := 36) (tgt := 69) hx hb dX10_isOneTooMany_33 (by rw [c_15]; decide) (by rw [c_15]; decide) (by rw [c_15]; rfl) (by decide) ?_
          refine lv_aload_n hx hb dX10_isOneTooMany_69 rfl (lv_at hl 0 rfl) ?_
          refine x_getR X hK hw (cw_mem hC 61 (by decide)) (cw_S hC 61 rfl) cpX10 1 (by decide) rfl (cw_R hC 61 1 (by decide) rfl) tw_523 dX10_isOneTooMany_70 ?_
          refine x_getI X hK hw (cw_draft hC).1.1 (cw_draft hC).1.2 cpX9 13 (by decide) rfl tw_242 dX10_isOneTooMany_73 ?_
          refine lv_bipush (v := (7 : Int32)) hx hb dX10_isOneTooMany_76 (by decide) ?_
          refine lv_icmp_lt (tgt := 85) hx hb dX10_isOneTooMany_78 (by decide) (fun c_16 => ?_) (fun c_16 => ?_)
          · have hf := yb_pos c_16 hf
            refine lv_iconst (v := (0 : Int32)) hx hb dX10_isOneTooMany_85 (by decide) ?_
            exact yb_retz hfin (by decide) hf hw dX10_isOneTooMany_86
          · have hf := yb_neg c_16 hf
            refine lv_iconst (v := (1 : Int32)) hx hb dX10_isOneTooMany_81 (by decide) ?_
            refine lv_goto (tgt := 86) hx hb dX10_isOneTooMany_82 (by decide) ?_
            exact yb_retz hfin (by decide) hf hw dX10_isOneTooMany_86
        have hf := yb_neg c_15 hf
        by_cases c_17 : x1 = (20 : Int32)
        · have hf := yb_pos c_17 hf
          refine lv_tableIn (off := 54) (tgt := 87) hx hb dX10_isOneTooMany_33 (by rw [c_17]; decide) (by rw [c_17]; decide) (by rw [c_17]; rfl) (by decide) ?_
          refine lv_aload_n hx hb dX10_isOneTooMany_87 rfl (lv_at hl 0 rfl) ?_
          refine x_getI X hK hw (cw_mem hC 61 (by decide)) (cw_S hC 61 rfl) cpX10 3 (by decide) rfl tw_525 dX10_isOneTooMany_88 ?_
          refine lv_iconst (v := (4 : Int32)) hx hb dX10_isOneTooMany_91 (by decide) ?_
          refine lv_icmp_lt (tgt := 99) hx hb dX10_isOneTooMany_92 (by decide) (fun c_18 => ?_) (fun c_18 => ?_)
          · have hf := yb_pos c_18 hf
            refine lv_iconst (v := (0 : Int32)) hx hb dX10_isOneTooMany_99 (by decide) ?_
            exact yb_retz hfin (by decide) hf hw dX10_isOneTooMany_100
          · have hf := yb_neg c_18 hf
            refine lv_iconst (v := (1 : Int32)) hx hb dX10_isOneTooMany_95 (by decide) ?_
            refine lv_goto (tgt := 100) hx hb dX10_isOneTooMany_96 (by decide) ?_
            exact yb_retz hfin (by decide) hf hw dX10_isOneTooMany_100
        have hf := yb_neg c_17 hf
        by_cases c_19 : x1 = (21 : Int32)
        · have hf := yb_pos c_19 hf
          refine lv_tableIn (off := 68) (tgt := 101) hx hb dX10_isOneTooMany_33 (by rw [c_19]; decide) (by rw [c_19]; decide) (by rw [c_19]; rfl) (by decide) ?_
          refine lv_aload_n hx hb dX10_isOneTooMany_101 rfl (lv_at hl 0 rfl) ?_
          refine x_getR X hK hw (cw_mem hC 61 (by decide)) (cw_S hC 61 rfl) cpX10 1 (by decide) rfl (cw_R hC 61 1 (by decide) rfl) tw_523 dX10_isOneTooMany_102 ?_
          refine x_getI X hK hw (cw_draft hC).1.1 (cw_draft hC).1.2 cpX9 14 (by decide) rfl tw_246 dX10_isOneTooMany_105 ?_
          refine lv_bipush (v := (6 : Int32)) hx hb dX10_isOneTooMany_108 (by decide) ?_
          refine lv_icmp_lt (tgt := 117) hx hb dX10_isOneTooMany_110 (by decide) (fun c_20 => ?_) (fun c_20 => ?_)
          · have hf := yb_pos c_20 hf
            refine lv_iconst (v := (0 : Int32)) hx hb dX10_isOneTooMany_117 (by decide) ?_
            exact yb_retz hfin (by decide) hf hw dX10_isOneTooMany_118
          · have hf := yb_neg c_20 hf
            refine lv_iconst (v := (1 : Int32)) hx hb dX10_isOneTooMany_113 (by decide) ?_
            refine lv_goto (tgt := 118) hx hb dX10_isOneTooMany_114 (by decide) ?_
            exact yb_retz hfin (by decide) hf hw dX10_isOneTooMany_118
        have hf := yb_neg c_19 hf
        refine lv_tableOut (tgt := 119) hx hb dX10_isOneTooMany_33 (by
            rcases Int.lt_or_le (x1).toInt 18 with g1 | g1
            · exact Or.inl g1
            · rcases Int.lt_or_le 21 (x1).toInt with g2 | g2
              · exact Or.inr g2
              · exfalso
                have g3 : (x1).toInt = 18 ∨ (x1).toInt = 19 ∨ (x1).toInt = 20 ∨ (x1).toInt = 21 := by omega
                rcases g3 with g3 | g3 | g3 | g3
                · exact c_13 (yb_sw (18 : Int32) g3 rfl)
                · exact c_15 (yb_sw (19 : Int32) g3 rfl)
                · exact c_17 (yb_sw (20 : Int32) g3 rfl)
                · exact c_19 (yb_sw (21 : Int32) g3 rfl)) (by decide) ?_
        refine lv_iconst (v := (0 : Int32)) hx hb dX10_isOneTooMany_119 (by decide) ?_
        exact yb_retz hfin (by decide) hf hw dX10_isOneTooMany_120
      · have hf := yb_pos c_12 hf
        refine lv_iconst (v := (1 : Int32)) hx hb dX10_isOneTooMany_30 (by decide) ?_
        exact yb_retz hfin (by decide) hf hw dX10_isOneTooMany_31
set_option maxHeartbeats 4000000 in
set_option maxRecDepth 100000 in
theorem c10_readsTown (l : Launch) (D : va_G) (cz : Nat → ClassId) (ev : Nat × Nat × Nat) {b : Nat} {L : List Nat} {S : ST} {Rf : RT} (hC : CW b L S Rf) {N : Nat} {I : IT} {J : JT} {r : Int32} {I1 : IT} {J1 : JT} (hf : f10_readsTown N b S Rf I J = some (r, I1, J1)) : MTi l D cz ev yX10_readsTown cX10_readsTown 1 (some .boolean) 2 46 [.ref (b + 61)] L S Rf I J r I1 J1 := by
  unfold f10_readsTown at hf
  refine MTz_of (by decide) (Nat.le_of_ble_eq_true rfl) ?_
  intro p e s m args below meth c Q ls X hK hw hl hfin
  have X : CallFix p m c cX10_readsTown 1 s args gw RX10 := X
  have hx := X.1
  have hb := X.2.1
  have hl : lv_has ls 1 [(0, .ref (b + 61))] := hl
  refine lv_aload_n hx hb dX10_readsTown_0 rfl (lv_at hl 0 rfl) ?_
  refine x_getR X hK hw (cw_mem hC 61 (by decide)) (cw_S hC 61 rfl) cpX10 1 (by decide) rfl (cw_R hC 61 1 (by decide) rfl) tw_523 dX10_readsTown_1 ?_
  refine lv_aload_n hx hb dX10_readsTown_4 rfl (lv_at hl 0 rfl) ?_
  refine x_getR X hK hw (cw_mem hC 61 (by decide)) (cw_S hC 61 rfl) cpX10 0 (by decide) rfl (cw_R hC 61 0 (by decide) rfl) tw_522 dX10_readsTown_5 ?_
  refine lv_iconst (v := (1 : Int32)) hx hb dX10_readsTown_8 (by decide) ?_
  refine lv_bipush (v := (99 : Int32)) hx hb dX10_readsTown_9 (by decide) ?_
  obtain ⟨r_1, I_2, J_3, hq_4, hf⟩ := yb_b3_some hf
  refine x_calli X hK hw (c3_number l D cz ev hC hq_4) (cw_mem hC 2 (by decide)) (cw_S hC 2 rfl) cpX3.1 vw_X10_85 ⟨Nat.le_of_ble_eq_true rfl, Nat.le_of_ble_eq_true rfl⟩ rfl rfl (Nat.le_of_ble_eq_true rfl) hl.1 ⟨Nat.le_refl _, Nat.le_refl _⟩ dX10_readsTown_11 (fun H locs hw => ?_)
  refine x_putI X hK hw (cw_draft hC).1.1 (cw_draft hC).1.2 cpX9 9 (by decide) rfl rfl rfl tw_227 dX10_readsTown_14 (fun H locs hw => ?_)
  obtain ⟨I_5, eI_5, hf⟩ := yb_let_ex hf
  have hw := yb_wI eI_5 hw
  refine lv_aload_n hx hb dX10_readsTown_17 rfl (lv_at hl 0 rfl) ?_
  refine x_getR X hK hw (cw_mem hC 61 (by decide)) (cw_S hC 61 rfl) cpX10 1 (by decide) rfl (cw_R hC 61 1 (by decide) rfl) tw_523 dX10_readsTown_18 ?_
  refine x_getI X hK hw (cw_draft hC).1.1 (cw_draft hC).1.2 cpX9 9 (by decide) rfl tw_227 dX10_readsTown_21 ?_
  refine lv_if_ge (tgt := 29) hx hb dX10_readsTown_24 (by decide) (fun c_6 => ?_) (fun c_6 => ?_)
  · have hf := yb_pos c_6 hf
    refine lv_aload_n hx hb dX10_readsTown_29 rfl (lv_at hl 0 rfl) ?_
    refine x_getR X hK hw (cw_mem hC 61 (by decide)) (cw_S hC 61 rfl) cpX10 1 (by decide) rfl (cw_R hC 61 1 (by decide) rfl) tw_523 dX10_readsTown_30 ?_
    refine lv_aload_n hx hb dX10_readsTown_33 rfl (lv_at hl 0 rfl) ?_
    refine x_getR X hK hw (cw_mem hC 61 (by decide)) (cw_S hC 61 rfl) cpX10 0 (by decide) rfl (cw_R hC 61 0 (by decide) rfl) tw_522 dX10_readsTown_34 ?_
    refine lv_iconst (v := (5 : Int32)) hx hb dX10_readsTown_37 (by decide) ?_
    refine lv_bipush (v := (99 : Int32)) hx hb dX10_readsTown_38 (by decide) ?_
    obtain ⟨r_7, I_8, J_9, hq_10, hf⟩ := yb_b3_some hf
    refine x_calli X hK hw (c3_number l D cz ev hC hq_10) (cw_mem hC 2 (by decide)) (cw_S hC 2 rfl) cpX3.1 vw_X10_85 ⟨Nat.le_of_ble_eq_true rfl, Nat.le_of_ble_eq_true rfl⟩ rfl rfl (Nat.le_of_ble_eq_true rfl) hl.1 ⟨Nat.le_refl _, Nat.le_refl _⟩ dX10_readsTown_40 (fun H locs hw => ?_)
    refine x_putI X hK hw (cw_draft hC).1.1 (cw_draft hC).1.2 cpX9 10 (by decide) rfl rfl rfl tw_231 dX10_readsTown_43 (fun H locs hw => ?_)
    obtain ⟨I_11, eI_11, hf⟩ := yb_let_ex hf
    have hw := yb_wI eI_11 hw
    refine lv_aload_n hx hb dX10_readsTown_46 rfl (lv_at hl 0 rfl) ?_
    refine x_getR X hK hw (cw_mem hC 61 (by decide)) (cw_S hC 61 rfl) cpX10 1 (by decide) rfl (cw_R hC 61 1 (by decide) rfl) tw_523 dX10_readsTown_47 ?_
    refine lv_aload_n hx hb dX10_readsTown_50 rfl (lv_at hl 0 rfl) ?_
    refine x_getR X hK hw (cw_mem hC 61 (by decide)) (cw_S hC 61 rfl) cpX10 1 (by decide) rfl (cw_R hC 61 1 (by decide) rfl) tw_523 dX10_readsTown_51 ?_
    refine x_getI X hK hw (cw_draft hC).1.1 (cw_draft hC).1.2 cpX9 10 (by decide) rfl tw_231 dX10_readsTown_54 ?_
    refine lv_if_lt (tgt := 64) hx hb dX10_readsTown_57 (by decide) (fun c_12 => ?_) (fun c_12 => ?_)
    · have hf := yb_pos c_12 hf
      refine lv_iconst (v := (0 : Int32)) hx hb dX10_readsTown_64 (by decide) ?_
      refine x_putZ X hK hw (cw_draft hC).1.1 (cw_draft hC).1.2 cpX9 8 (by decide) (by decide) rfl rfl rfl tw_224 dX10_readsTown_65 (fun H locs hw => ?_)
      obtain ⟨I_13, eI_13, hf⟩ := yb_let_ex hf
      have hw := yb_wI eI_13 hw
      refine lv_aload_n hx hb dX10_readsTown_68 rfl (lv_at hl 0 rfl) ?_
      refine x_getR X hK hw (cw_mem hC 61 (by decide)) (cw_S hC 61 rfl) cpX10 1 (by decide) rfl (cw_R hC 61 1 (by decide) rfl) tw_523 dX10_readsTown_69 ?_
      refine x_getI X hK hw (cw_draft hC).1.1 (cw_draft hC).1.2 cpX9 8 (by decide) rfl tw_224 dX10_readsTown_72 ?_
      obtain ⟨hz_14, hf⟩ := yb_ck_some hf
      exact yb_retz hfin hz_14 hf hw dX10_readsTown_75
    · have hf := yb_neg c_12 hf
      refine lv_iconst (v := (1 : Int32)) hx hb dX10_readsTown_60 (by decide) ?_
      refine lv_goto (tgt := 65) hx hb dX10_readsTown_61 (by decide) ?_
      refine x_putZ X hK hw (cw_draft hC).1.1 (cw_draft hC).1.2 cpX9 8 (by decide) (by decide) rfl rfl rfl tw_224 dX10_readsTown_65 (fun H locs hw => ?_)
      obtain ⟨I_15, eI_15, hf⟩ := yb_let_ex hf
      have hw := yb_wI eI_15 hw
      refine lv_aload_n hx hb dX10_readsTown_68 rfl (lv_at hl 0 rfl) ?_
      refine x_getR X hK hw (cw_mem hC 61 (by decide)) (cw_S hC 61 rfl) cpX10 1 (by decide) rfl (cw_R hC 61 1 (by decide) rfl) tw_523 dX10_readsTown_69 ?_
      refine x_getI X hK hw (cw_draft hC).1.1 (cw_draft hC).1.2 cpX9 8 (by decide) rfl tw_224 dX10_readsTown_72 ?_
      obtain ⟨hz_16, hf⟩ := yb_ck_some hf
      exact yb_retz hfin hz_16 hf hw dX10_readsTown_75
  · have hf := yb_neg c_6 hf
    refine lv_iconst (v := (0 : Int32)) hx hb dX10_readsTown_27 (by decide) ?_
    exact yb_retz hfin (by decide) hf hw dX10_readsTown_28
set_option maxHeartbeats 4000000 in
set_option maxRecDepth 100000 in
theorem c10_readsBench (l : Launch) (D : va_G) (cz : Nat → ClassId) (ev : Nat × Nat × Nat) {b : Nat} {L : List Nat} {S : ST} {Rf : RT} (hC : CW b L S Rf) {N : Nat} {I : IT} {J : JT} {r : Int32} {I1 : IT} {J1 : JT} (hf : f10_readsBench N b S Rf I J = some (r, I1, J1)) : MTi l D cz ev yX10_readsBench cX10_readsBench 1 (some .boolean) 2 46 [.ref (b + 61)] L S Rf I J r I1 J1 := by
  unfold f10_readsBench at hf
  refine MTz_of (by decide) (Nat.le_of_ble_eq_true rfl) ?_
  intro p e s m args below meth c Q ls X hK hw hl hfin
  have X : CallFix p m c cX10_readsBench 1 s args gw RX10 := X
  have hx := X.1
  have hb := X.2.1
  have hl : lv_has ls 1 [(0, .ref (b + 61))] := hl
  refine lv_aload_n hx hb dX10_readsBench_0 rfl (lv_at hl 0 rfl) ?_
  refine x_getR X hK hw (cw_mem hC 61 (by decide)) (cw_S hC 61 rfl) cpX10 1 (by decide) rfl (cw_R hC 61 1 (by decide) rfl) tw_523 dX10_readsBench_1 ?_
  refine lv_aload_n hx hb dX10_readsBench_4 rfl (lv_at hl 0 rfl) ?_
  refine x_getR X hK hw (cw_mem hC 61 (by decide)) (cw_S hC 61 rfl) cpX10 0 (by decide) rfl (cw_R hC 61 0 (by decide) rfl) tw_522 dX10_readsBench_5 ?_
  refine lv_iconst (v := (0 : Int32)) hx hb dX10_readsBench_8 (by decide) ?_
  refine lv_sipush (v := (9999 : Int32)) hx hb dX10_readsBench_9 (by decide) ?_
  obtain ⟨r_1, I_2, J_3, hq_4, hf⟩ := yb_b3_some hf
  refine x_calli X hK hw (c3_number l D cz ev hC hq_4) (cw_mem hC 2 (by decide)) (cw_S hC 2 rfl) cpX3.1 vw_X10_85 ⟨Nat.le_of_ble_eq_true rfl, Nat.le_of_ble_eq_true rfl⟩ rfl rfl (Nat.le_of_ble_eq_true rfl) hl.1 ⟨Nat.le_refl _, Nat.le_refl _⟩ dX10_readsBench_12 (fun H locs hw => ?_)
  refine x_putI X hK hw (cw_draft hC).1.1 (cw_draft hC).1.2 cpX9 11 (by decide) rfl rfl rfl tw_234 dX10_readsBench_15 (fun H locs hw => ?_)
  obtain ⟨I_5, eI_5, hf⟩ := yb_let_ex hf
  have hw := yb_wI eI_5 hw
  refine lv_aload_n hx hb dX10_readsBench_18 rfl (lv_at hl 0 rfl) ?_
  refine x_getR X hK hw (cw_mem hC 61 (by decide)) (cw_S hC 61 rfl) cpX10 1 (by decide) rfl (cw_R hC 61 1 (by decide) rfl) tw_523 dX10_readsBench_19 ?_
  refine x_getI X hK hw (cw_draft hC).1.1 (cw_draft hC).1.2 cpX9 11 (by decide) rfl tw_234 dX10_readsBench_22 ?_
  refine lv_if_ge (tgt := 30) hx hb dX10_readsBench_25 (by decide) (fun c_6 => ?_) (fun c_6 => ?_)
  · have hf := yb_pos c_6 hf
    refine lv_aload_n hx hb dX10_readsBench_30 rfl (lv_at hl 0 rfl) ?_
    refine x_getR X hK hw (cw_mem hC 61 (by decide)) (cw_S hC 61 rfl) cpX10 1 (by decide) rfl (cw_R hC 61 1 (by decide) rfl) tw_523 dX10_readsBench_31 ?_
    refine lv_aload_n hx hb dX10_readsBench_34 rfl (lv_at hl 0 rfl) ?_
    refine x_getR X hK hw (cw_mem hC 61 (by decide)) (cw_S hC 61 rfl) cpX10 0 (by decide) rfl (cw_R hC 61 0 (by decide) rfl) tw_522 dX10_readsBench_35 ?_
    refine lv_aload_n hx hb dX10_readsBench_38 rfl (lv_at hl 0 rfl) ?_
    refine x_getR X hK hw (cw_mem hC 61 (by decide)) (cw_S hC 61 rfl) cpX10 1 (by decide) rfl (cw_R hC 61 1 (by decide) rfl) tw_523 dX10_readsBench_39 ?_
    refine x_getI X hK hw (cw_draft hC).1.1 (cw_draft hC).1.2 cpX9 11 (by decide) rfl tw_234 dX10_readsBench_42 ?_
    refine lv_sipush (v := (9999 : Int32)) hx hb dX10_readsBench_45 (by decide) ?_
    obtain ⟨r_7, I_8, J_9, hq_10, hf⟩ := yb_b3_some hf
    refine x_calli X hK hw (c3_number l D cz ev hC hq_10) (cw_mem hC 2 (by decide)) (cw_S hC 2 rfl) cpX3.1 vw_X10_85 ⟨Nat.le_of_ble_eq_true rfl, Nat.le_of_ble_eq_true rfl⟩ rfl rfl (Nat.le_of_ble_eq_true rfl) hl.1 ⟨Nat.le_refl _, Nat.le_refl _⟩ dX10_readsBench_48 (fun H locs hw => ?_)
    refine x_putI X hK hw (cw_draft hC).1.1 (cw_draft hC).1.2 cpX9 12 (by decide) rfl rfl rfl tw_237 dX10_readsBench_51 (fun H locs hw => ?_)
    obtain ⟨I_11, eI_11, hf⟩ := yb_let_ex hf
    have hw := yb_wI eI_11 hw
    refine lv_aload_n hx hb dX10_readsBench_54 rfl (lv_at hl 0 rfl) ?_
    refine lv_aload_n hx hb dX10_readsBench_55 rfl (lv_at hl 0 rfl) ?_
    refine x_getR X hK hw (cw_mem hC 61 (by decide)) (cw_S hC 61 rfl) cpX10 1 (by decide) rfl (cw_R hC 61 1 (by decide) rfl) tw_523 dX10_readsBench_56 ?_
    refine x_getI X hK hw (cw_draft hC).1.1 (cw_draft hC).1.2 cpX9 12 (by decide) rfl tw_237 dX10_readsBench_59 ?_
    refine lv_if_lt (tgt := 69) hx hb dX10_readsBench_62 (by decide) (fun c_12 => ?_) (fun c_12 => ?_)
    · have hf := yb_pos c_12 hf
      refine lv_iconst (v := (0 : Int32)) hx hb dX10_readsBench_69 (by decide) ?_
      refine x_putZ X hK hw (cw_mem hC 61 (by decide)) (cw_S hC 61 rfl) cpX10 4 (by decide) (by decide) rfl rfl rfl tw_526 dX10_readsBench_70 (fun H locs hw => ?_)
      obtain ⟨I_13, eI_13, hf⟩ := yb_let_ex hf
      have hw := yb_wI eI_13 hw
      refine lv_aload_n hx hb dX10_readsBench_73 rfl (lv_at hl 0 rfl) ?_
      refine x_getI X hK hw (cw_mem hC 61 (by decide)) (cw_S hC 61 rfl) cpX10 4 (by decide) rfl tw_526 dX10_readsBench_74 ?_
      obtain ⟨hz_14, hf⟩ := yb_ck_some hf
      exact yb_retz hfin hz_14 hf hw dX10_readsBench_77
    · have hf := yb_neg c_12 hf
      refine lv_iconst (v := (1 : Int32)) hx hb dX10_readsBench_65 (by decide) ?_
      refine lv_goto (tgt := 70) hx hb dX10_readsBench_66 (by decide) ?_
      refine x_putZ X hK hw (cw_mem hC 61 (by decide)) (cw_S hC 61 rfl) cpX10 4 (by decide) (by decide) rfl rfl rfl tw_526 dX10_readsBench_70 (fun H locs hw => ?_)
      obtain ⟨I_15, eI_15, hf⟩ := yb_let_ex hf
      have hw := yb_wI eI_15 hw
      refine lv_aload_n hx hb dX10_readsBench_73 rfl (lv_at hl 0 rfl) ?_
      refine x_getI X hK hw (cw_mem hC 61 (by decide)) (cw_S hC 61 rfl) cpX10 4 (by decide) rfl tw_526 dX10_readsBench_74 ?_
      obtain ⟨hz_16, hf⟩ := yb_ck_some hf
      exact yb_retz hfin hz_16 hf hw dX10_readsBench_77
  · have hf := yb_neg c_6 hf
    refine lv_iconst (v := (0 : Int32)) hx hb dX10_readsBench_28 (by decide) ?_
    exact yb_retz hfin (by decide) hf hw dX10_readsBench_29
set_option maxHeartbeats 4000000 in
set_option maxRecDepth 100000 in
theorem c10_readsPerson (l : Launch) (D : va_G) (cz : Nat → ClassId) (ev : Nat × Nat × Nat) {b : Nat} {L : List Nat} {S : ST} {Rf : RT} (hC : CW b L S Rf) {N : Nat} {I : IT} {J : JT} {r : Int32} {I1 : IT} {J1 : JT} (hf : f10_readsPerson N b S Rf I J = some (r, I1, J1)) : MTi l D cz ev yX10_readsPerson cX10_readsPerson 4 (some .boolean) 2 46 [.ref (b + 61)] L S Rf I J r I1 J1 := by
  unfold f10_readsPerson at hf
  refine MTz_of (by decide) (Nat.le_of_ble_eq_true rfl) ?_
  intro p e s m args below meth c Q ls X hK hw hl hfin
  have X : CallFix p m c cX10_readsPerson 4 s args gw RX10 := X
  have hx := X.1
  have hb := X.2.1
  have hl : lv_has ls 4 [(0, .ref (b + 61))] := hl
  refine lv_aload_n hx hb dX10_readsPerson_0 rfl (lv_at hl 0 rfl) ?_
  refine x_getR X hK hw (cw_mem hC 61 (by decide)) (cw_S hC 61 rfl) cpX10 0 (by decide) rfl (cw_R hC 61 0 (by decide) rfl) tw_522 dX10_readsPerson_1 ?_
  refine lv_iconst (v := (0 : Int32)) hx hb dX10_readsPerson_4 (by decide) ?_
  refine lv_sipush (v := (9999 : Int32)) hx hb dX10_readsPerson_5 (by decide) ?_
  obtain ⟨r_1, I_2, J_3, hq_4, hf⟩ := yb_b3_some hf
  refine x_calli X hK hw (c3_number l D cz ev hC hq_4) (cw_mem hC 2 (by decide)) (cw_S hC 2 rfl) cpX3.1 vw_X10_85 ⟨Nat.le_of_ble_eq_true rfl, Nat.le_of_ble_eq_true rfl⟩ rfl rfl (Nat.le_of_ble_eq_true rfl) hl.1 ⟨Nat.le_refl _, Nat.le_refl _⟩ dX10_readsPerson_8 (fun H locs hw => ?_)
  refine lv_istore_n (lv' := [(1, .int r_1), (0, .ref (b + 61))]) hx hb dX10_readsPerson_11 rfl hl (by decide) rfl (fun ls hl => ?_)
  refine lv_iload_n hx hb dX10_readsPerson_12 rfl (lv_at hl 0 rfl) ?_
  refine lv_if_ge (tgt := 20) hx hb dX10_readsPerson_13 (by decide) (fun c_5 => ?_) (fun c_5 => ?_)
  · have hf := yb_pos c_5 hf
    refine lv_aload_n hx hb dX10_readsPerson_20 rfl (lv_at hl 1 rfl) ?_
    refine x_getR X hK hw (cw_mem hC 61 (by decide)) (cw_S hC 61 rfl) cpX10 0 (by decide) rfl (cw_R hC 61 0 (by decide) rfl) tw_522 dX10_readsPerson_21 ?_
    refine lv_iconst (v := (0 : Int32)) hx hb dX10_readsPerson_24 (by decide) ?_
    refine lv_bipush (v := (9 : Int32)) hx hb dX10_readsPerson_25 (by decide) ?_
    obtain ⟨r_6, I_7, J_8, hq_9, hf⟩ := yb_b3_some hf
    refine x_calli X hK hw (c3_number l D cz ev hC hq_9) (cw_mem hC 2 (by decide)) (cw_S hC 2 rfl) cpX3.1 vw_X10_85 ⟨Nat.le_of_ble_eq_true rfl, Nat.le_of_ble_eq_true rfl⟩ rfl rfl (Nat.le_of_ble_eq_true rfl) hl.1 ⟨Nat.le_refl _, Nat.le_refl _⟩ dX10_readsPerson_27 (fun H locs hw => ?_)
    refine lv_istore_n (lv' := [(2, .int r_6), (1, .int r_1), (0, .ref (b + 61))]) hx hb dX10_readsPerson_30 rfl hl (by decide) rfl (fun ls hl => ?_)
    refine lv_iload_n hx hb dX10_readsPerson_31 rfl (lv_at hl 0 rfl) ?_
    refine lv_if_ge (tgt := 39) hx hb dX10_readsPerson_32 (by decide) (fun c_10 => ?_) (fun c_10 => ?_)
    · have hf := yb_pos c_10 hf
      refine lv_aload_n hx hb dX10_readsPerson_39 rfl (lv_at hl 2 rfl) ?_
      refine x_getR X hK hw (cw_mem hC 61 (by decide)) (cw_S hC 61 rfl) cpX10 0 (by decide) rfl (cw_R hC 61 0 (by decide) rfl) tw_522 dX10_readsPerson_40 ?_
      refine lv_iconst (v := (0 : Int32)) hx hb dX10_readsPerson_43 (by decide) ?_
      refine lv_bipush (v := (9 : Int32)) hx hb dX10_readsPerson_44 (by decide) ?_
      obtain ⟨r_11, I_12, J_13, hq_14, hf⟩ := yb_b3_some hf
      refine x_calli X hK hw (c3_number l D cz ev hC hq_14) (cw_mem hC 2 (by decide)) (cw_S hC 2 rfl) cpX3.1 vw_X10_85 ⟨Nat.le_of_ble_eq_true rfl, Nat.le_of_ble_eq_true rfl⟩ rfl rfl (Nat.le_of_ble_eq_true rfl) hl.1 ⟨Nat.le_refl _, Nat.le_refl _⟩ dX10_readsPerson_46 (fun H locs hw => ?_)
      refine lv_istore_n (lv' := [(3, .int r_11), (2, .int r_6), (1, .int r_1), (0, .ref (b + 61))]) hx hb dX10_readsPerson_49 rfl hl (by decide) rfl (fun ls hl => ?_)
      refine lv_iload_n hx hb dX10_readsPerson_50 rfl (lv_at hl 0 rfl) ?_
      refine lv_if_ge (tgt := 56) hx hb dX10_readsPerson_51 (by decide) (fun c_15 => ?_) (fun c_15 => ?_)
      · have hf := yb_pos c_15 hf
        refine lv_aload_n hx hb dX10_readsPerson_56 rfl (lv_at hl 3 rfl) ?_
        refine x_getR X hK hw (cw_mem hC 61 (by decide)) (cw_S hC 61 rfl) cpX10 1 (by decide) rfl (cw_R hC 61 1 (by decide) rfl) tw_523 dX10_readsPerson_57 ?_
        refine x_getR X hK hw (cw_draft hC).1.1 (cw_draft hC).1.2 cpX9 0 (by decide) rfl (ta_R (cw_draft hC) 0 (by decide)) tw_194 dX10_readsPerson_60 ?_
        refine lv_aload_n hx hb dX10_readsPerson_63 rfl (lv_at hl 3 rfl) ?_
        refine x_getR X hK hw (cw_mem hC 61 (by decide)) (cw_S hC 61 rfl) cpX10 1 (by decide) rfl (cw_R hC 61 1 (by decide) rfl) tw_523 dX10_readsPerson_64 ?_
        refine x_getI X hK hw (cw_draft hC).1.1 (cw_draft hC).1.2 cpX9 13 (by decide) rfl tw_242 dX10_readsPerson_67 ?_
        refine lv_iload_n hx hb dX10_readsPerson_70 rfl (lv_at hl 2 rfl) ?_
        obtain ⟨hi_16, hf⟩ := yb_ck_some hf
        refine x_iast X hK hw (ta_mem (cw_draft hC) 0 (by decide)) (ta_S (cw_draft hC) 0 rfl) hi_16 rfl dX10_readsPerson_71 (fun H locs hw => ?_)
        obtain ⟨I_17, eI_17, hf⟩ := yb_let_ex hf
        have hw := yb_wI eI_17 hw
        refine lv_aload_n hx hb dX10_readsPerson_72 rfl (lv_at hl 3 rfl) ?_
        refine x_getR X hK hw (cw_mem hC 61 (by decide)) (cw_S hC 61 rfl) cpX10 1 (by decide) rfl (cw_R hC 61 1 (by decide) rfl) tw_523 dX10_readsPerson_73 ?_
        refine x_getR X hK hw (cw_draft hC).1.1 (cw_draft hC).1.2 cpX9 1 (by decide) rfl (ta_R (cw_draft hC) 1 (by decide)) tw_198 dX10_readsPerson_76 ?_
        refine lv_aload_n hx hb dX10_readsPerson_79 rfl (lv_at hl 3 rfl) ?_
        refine x_getR X hK hw (cw_mem hC 61 (by decide)) (cw_S hC 61 rfl) cpX10 1 (by decide) rfl (cw_R hC 61 1 (by decide) rfl) tw_523 dX10_readsPerson_80 ?_
        refine x_getI X hK hw (cw_draft hC).1.1 (cw_draft hC).1.2 cpX9 13 (by decide) rfl tw_242 dX10_readsPerson_83 ?_
        refine lv_iload_n hx hb dX10_readsPerson_86 rfl (lv_at hl 1 rfl) ?_
        obtain ⟨hi_18, hf⟩ := yb_ck_some hf
        refine x_iast X hK hw (ta_mem (cw_draft hC) 1 (by decide)) (ta_S (cw_draft hC) 1 rfl) hi_18 rfl dX10_readsPerson_87 (fun H locs hw => ?_)
        obtain ⟨I_19, eI_19, hf⟩ := yb_let_ex hf
        have hw := yb_wI eI_19 hw
        refine lv_aload_n hx hb dX10_readsPerson_88 rfl (lv_at hl 3 rfl) ?_
        refine x_getR X hK hw (cw_mem hC 61 (by decide)) (cw_S hC 61 rfl) cpX10 1 (by decide) rfl (cw_R hC 61 1 (by decide) rfl) tw_523 dX10_readsPerson_89 ?_
        refine x_getR X hK hw (cw_draft hC).1.1 (cw_draft hC).1.2 cpX9 2 (by decide) rfl (ta_R (cw_draft hC) 2 (by decide)) tw_200 dX10_readsPerson_92 ?_
        refine lv_aload_n hx hb dX10_readsPerson_95 rfl (lv_at hl 3 rfl) ?_
        refine x_getR X hK hw (cw_mem hC 61 (by decide)) (cw_S hC 61 rfl) cpX10 1 (by decide) rfl (cw_R hC 61 1 (by decide) rfl) tw_523 dX10_readsPerson_96 ?_
        refine x_getI X hK hw (cw_draft hC).1.1 (cw_draft hC).1.2 cpX9 13 (by decide) rfl tw_242 dX10_readsPerson_99 ?_
        refine lv_iload_n hx hb dX10_readsPerson_102 rfl (lv_at hl 0 rfl) ?_
        obtain ⟨hi_20, hf⟩ := yb_ck_some hf
        refine x_iast X hK hw (ta_mem (cw_draft hC) 2 (by decide)) (ta_S (cw_draft hC) 2 rfl) hi_20 rfl dX10_readsPerson_103 (fun H locs hw => ?_)
        obtain ⟨I_21, eI_21, hf⟩ := yb_let_ex hf
        have hw := yb_wI eI_21 hw
        refine lv_aload_n hx hb dX10_readsPerson_104 rfl (lv_at hl 3 rfl) ?_
        refine x_getR X hK hw (cw_mem hC 61 (by decide)) (cw_S hC 61 rfl) cpX10 1 (by decide) rfl (cw_R hC 61 1 (by decide) rfl) tw_523 dX10_readsPerson_105 ?_
        refine lv_dup hx hb dX10_readsPerson_108 rfl ?_
        refine x_getI X hK hw (cw_draft hC).1.1 (cw_draft hC).1.2 cpX9 13 (by decide) rfl tw_242 dX10_readsPerson_109 ?_
        refine lv_iconst (v := (1 : Int32)) hx hb dX10_readsPerson_112 (by decide) ?_
        refine lv_iadd hx hb dX10_readsPerson_113 ?_
        refine x_putI X hK hw (cw_draft hC).1.1 (cw_draft hC).1.2 cpX9 13 (by decide) rfl rfl rfl tw_242 dX10_readsPerson_114 (fun H locs hw => ?_)
        obtain ⟨I_22, eI_22, hf⟩ := yb_let_ex hf
        have hw := yb_wI eI_22 hw
        refine lv_iconst (v := (1 : Int32)) hx hb dX10_readsPerson_117 (by decide) ?_
        exact yb_retz hfin (by decide) hf hw dX10_readsPerson_118
      · have hf := yb_neg c_15 hf
        refine lv_iconst (v := (0 : Int32)) hx hb dX10_readsPerson_54 (by decide) ?_
        exact yb_retz hfin (by decide) hf hw dX10_readsPerson_55
    · have hf := yb_neg c_10 hf
      refine lv_iconst (v := (-1 : Int32)) hx hb dX10_readsPerson_35 (by decide) ?_
      refine lv_goto (tgt := 49) hx hb dX10_readsPerson_36 (by decide) ?_
      refine lv_istore_n (lv' := [(3, .int (-1 : Int32)), (2, .int r_6), (1, .int r_1), (0, .ref (b + 61))]) hx hb dX10_readsPerson_49 rfl hl (by decide) rfl (fun ls hl => ?_)
      refine lv_iload_n hx hb dX10_readsPerson_50 rfl (lv_at hl 0 rfl) ?_
      refine lv_if_ge (tgt := 56) hx hb dX10_readsPerson_51 (by decide) (fun c_23 => absurd c_23 (by decide)) (fun _ => ?_)
      refine lv_iconst (v := (0 : Int32)) hx hb dX10_readsPerson_54 (by decide) ?_
      exact yb_retz hfin (by decide) hf hw dX10_readsPerson_55
  · have hf := yb_neg c_5 hf
    refine lv_iconst (v := (-1 : Int32)) hx hb dX10_readsPerson_16 (by decide) ?_
    refine lv_goto (tgt := 30) hx hb dX10_readsPerson_17 (by decide) ?_
    refine lv_istore_n (lv' := [(2, .int (-1 : Int32)), (1, .int r_1), (0, .ref (b + 61))]) hx hb dX10_readsPerson_30 rfl hl (by decide) rfl (fun ls hl => ?_)
    refine lv_iload_n hx hb dX10_readsPerson_31 rfl (lv_at hl 0 rfl) ?_
    refine lv_if_ge (tgt := 39) hx hb dX10_readsPerson_32 (by decide) (fun c_24 => absurd c_24 (by decide)) (fun _ => ?_)
    refine lv_iconst (v := (-1 : Int32)) hx hb dX10_readsPerson_35 (by decide) ?_
    refine lv_goto (tgt := 49) hx hb dX10_readsPerson_36 (by decide) ?_
    refine lv_istore_n (lv' := [(3, .int (-1 : Int32)), (2, .int (-1 : Int32)), (1, .int r_1), (0, .ref (b + 61))]) hx hb dX10_readsPerson_49 rfl hl (by decide) rfl (fun ls hl => ?_)
    refine lv_iload_n hx hb dX10_readsPerson_50 rfl (lv_at hl 0 rfl) ?_
    refine lv_if_ge (tgt := 56) hx hb dX10_readsPerson_51 (by decide) (fun c_25 => absurd c_25 (by decide)) (fun _ => ?_)
    refine lv_iconst (v := (0 : Int32)) hx hb dX10_readsPerson_54 (by decide) ?_
    exact yb_retz hfin (by decide) hf hw dX10_readsPerson_55
set_option maxHeartbeats 4000000 in
set_option maxRecDepth 100000 in
theorem c10_readsTwins (l : Launch) (D : va_G) (cz : Nat → ClassId) (ev : Nat × Nat × Nat) {b : Nat} {L : List Nat} {S : ST} {Rf : RT} (hC : CW b L S Rf) {N : Nat} {I : IT} {J : JT} {r : Int32} {I1 : IT} {J1 : JT} (hf : f10_readsTwins N b S Rf I J = some (r, I1, J1)) : MTi l D cz ev yX10_readsTwins cX10_readsTwins 4 (some .boolean) 2 46 [.ref (b + 61)] L S Rf I J r I1 J1 := by
  unfold f10_readsTwins at hf
  refine MTz_of (by decide) (Nat.le_of_ble_eq_true rfl) ?_
  intro p e s m args below meth c Q ls X hK hw hl hfin
  have X : CallFix p m c cX10_readsTwins 4 s args gw RX10 := X
  have hx := X.1
  have hb := X.2.1
  have hl : lv_has ls 4 [(0, .ref (b + 61))] := hl
  refine lv_aload_n hx hb dX10_readsTwins_0 rfl (lv_at hl 0 rfl) ?_
  refine x_getR X hK hw (cw_mem hC 61 (by decide)) (cw_S hC 61 rfl) cpX10 0 (by decide) rfl (cw_R hC 61 0 (by decide) rfl) tw_522 dX10_readsTwins_1 ?_
  refine lv_iconst (v := (0 : Int32)) hx hb dX10_readsTwins_4 (by decide) ?_
  refine lv_aload_n hx hb dX10_readsTwins_5 rfl (lv_at hl 0 rfl) ?_
  refine x_getR X hK hw (cw_mem hC 61 (by decide)) (cw_S hC 61 rfl) cpX10 1 (by decide) rfl (cw_R hC 61 1 (by decide) rfl) tw_523 dX10_readsTwins_6 ?_
  refine x_getI X hK hw (cw_draft hC).1.1 (cw_draft hC).1.2 cpX9 13 (by decide) rfl tw_242 dX10_readsTwins_9 ?_
  refine lv_iconst (v := (1 : Int32)) hx hb dX10_readsTwins_12 (by decide) ?_
  refine lv_isub hx hb dX10_readsTwins_13 ?_
  obtain ⟨r_1, I_2, J_3, hq_4, hf⟩ := yb_b3_some hf
  refine x_calli X hK hw (c3_number l D cz ev hC hq_4) (cw_mem hC 2 (by decide)) (cw_S hC 2 rfl) cpX3.1 vw_X10_85 ⟨Nat.le_of_ble_eq_true rfl, Nat.le_of_ble_eq_true rfl⟩ rfl rfl (Nat.le_of_ble_eq_true rfl) hl.1 ⟨Nat.le_refl _, Nat.le_refl _⟩ dX10_readsTwins_14 (fun H locs hw => ?_)
  refine lv_istore_n (lv' := [(1, .int r_1), (0, .ref (b + 61))]) hx hb dX10_readsTwins_17 rfl hl (by decide) rfl (fun ls hl => ?_)
  refine lv_iload_n hx hb dX10_readsTwins_18 rfl (lv_at hl 0 rfl) ?_
  refine lv_if_ge (tgt := 24) hx hb dX10_readsTwins_19 (by decide) (fun c_5 => ?_) (fun c_5 => ?_)
  · have hf := yb_pos c_5 hf
    refine lv_aload_n hx hb dX10_readsTwins_24 rfl (lv_at hl 1 rfl) ?_
    refine x_getR X hK hw (cw_mem hC 61 (by decide)) (cw_S hC 61 rfl) cpX10 0 (by decide) rfl (cw_R hC 61 0 (by decide) rfl) tw_522 dX10_readsTwins_25 ?_
    refine x_getI X hK hw (cw_mem hC 2 (by decide)) (cw_S hC 2 rfl) cpX3 2 (by decide) rfl tw_160 dX10_readsTwins_28 ?_
    refine lv_topi (fun x2_6 ex2_6 => ?_)
    have hf := yb_let_to ex2_6 hf
    refine lv_istore_n (lv' := [(2, .int x2_6), (1, .int r_1), (0, .ref (b + 61))]) hx hb dX10_readsTwins_31 rfl hl (by decide) rfl (fun ls hl => ?_)
    refine lv_aload_n hx hb dX10_readsTwins_32 rfl (lv_at hl 2 rfl) ?_
    refine x_getR X hK hw (cw_mem hC 61 (by decide)) (cw_S hC 61 rfl) cpX10 0 (by decide) rfl (cw_R hC 61 0 (by decide) rfl) tw_522 dX10_readsTwins_33 ?_
    refine lv_iconst (v := (0 : Int32)) hx hb dX10_readsTwins_36 (by decide) ?_
    refine lv_aload_n hx hb dX10_readsTwins_37 rfl (lv_at hl 2 rfl) ?_
    refine x_getR X hK hw (cw_mem hC 61 (by decide)) (cw_S hC 61 rfl) cpX10 1 (by decide) rfl (cw_R hC 61 1 (by decide) rfl) tw_523 dX10_readsTwins_38 ?_
    refine x_getI X hK hw (cw_draft hC).1.1 (cw_draft hC).1.2 cpX9 13 (by decide) rfl tw_242 dX10_readsTwins_41 ?_
    refine lv_iconst (v := (1 : Int32)) hx hb dX10_readsTwins_44 (by decide) ?_
    refine lv_isub hx hb dX10_readsTwins_45 ?_
    obtain ⟨r_7, I_8, J_9, hq_10, hf⟩ := yb_b3_some hf
    refine x_calli X hK hw (c3_number l D cz ev hC hq_10) (cw_mem hC 2 (by decide)) (cw_S hC 2 rfl) cpX3.1 vw_X10_85 ⟨Nat.le_of_ble_eq_true rfl, Nat.le_of_ble_eq_true rfl⟩ rfl rfl (Nat.le_of_ble_eq_true rfl) hl.1 ⟨Nat.le_refl _, Nat.le_refl _⟩ dX10_readsTwins_46 (fun H locs hw => ?_)
    refine lv_istore_n (lv' := [(3, .int r_7), (2, .int x2_6), (1, .int r_1), (0, .ref (b + 61))]) hx hb dX10_readsTwins_49 rfl hl (by decide) rfl (fun ls hl => ?_)
    refine lv_iload_n hx hb dX10_readsTwins_50 rfl (lv_at hl 0 rfl) ?_
    refine lv_if_ge (tgt := 56) hx hb dX10_readsTwins_51 (by decide) (fun c_11 => ?_) (fun c_11 => ?_)
    · have hf := yb_pos c_11 hf
      refine lv_iload_n hx hb dX10_readsTwins_56 rfl (lv_at hl 0 rfl) ?_
      refine lv_iload_n hx hb dX10_readsTwins_57 rfl (lv_at hl 2 rfl) ?_
      refine lv_icmp_ne (tgt := 71) hx hb dX10_readsTwins_58 (by decide) (fun c_12 => ?_) (fun c_12 => ?_)
      · have hf := yb_neg c_12 hf
        refine lv_aload_n hx hb dX10_readsTwins_71 rfl (lv_at hl 3 rfl) ?_
        refine x_getR X hK hw (cw_mem hC 61 (by decide)) (cw_S hC 61 rfl) cpX10 1 (by decide) rfl (cw_R hC 61 1 (by decide) rfl) tw_523 dX10_readsTwins_72 ?_
        refine x_getR X hK hw (cw_draft hC).1.1 (cw_draft hC).1.2 cpX9 3 (by decide) rfl (ta_R (cw_draft hC) 3 (by decide)) tw_204 dX10_readsTwins_75 ?_
        refine lv_iload_n hx hb dX10_readsTwins_78 rfl (lv_at hl 2 rfl) ?_
        refine lv_dup2_11 hx hb dX10_readsTwins_79 rfl rfl ?_
        obtain ⟨hi_13, hf⟩ := yb_ck_some hf
        refine x_iald X hK hw (ta_mem (cw_draft hC) 3 (by decide)) (ta_S (cw_draft hC) 3 rfl) hi_13 rfl dX10_readsTwins_80 ?_
        refine lv_iconst (v := (1 : Int32)) hx hb dX10_readsTwins_81 (by decide) ?_
        refine lv_iload_n hx hb dX10_readsTwins_82 rfl (lv_at hl 0 rfl) ?_
        refine lv_ishl hx hb dX10_readsTwins_83 ?_
        refine lv_ior hx hb dX10_readsTwins_84 ?_
        refine x_iast X hK hw (ta_mem (cw_draft hC) 3 (by decide)) (ta_S (cw_draft hC) 3 rfl) hi_13 rfl dX10_readsTwins_85 (fun H locs hw => ?_)
        obtain ⟨I_14, eI_14, hf⟩ := yb_let_ex hf
        have hw := yb_wI eI_14 hw
        refine lv_aload_n hx hb dX10_readsTwins_86 rfl (lv_at hl 3 rfl) ?_
        refine x_getR X hK hw (cw_mem hC 61 (by decide)) (cw_S hC 61 rfl) cpX10 1 (by decide) rfl (cw_R hC 61 1 (by decide) rfl) tw_523 dX10_readsTwins_87 ?_
        refine x_getR X hK hw (cw_draft hC).1.1 (cw_draft hC).1.2 cpX9 3 (by decide) rfl (ta_R (cw_draft hC) 3 (by decide)) tw_204 dX10_readsTwins_90 ?_
        refine lv_iload_n hx hb dX10_readsTwins_93 rfl (lv_at hl 0 rfl) ?_
        refine lv_dup2_11 hx hb dX10_readsTwins_94 rfl rfl ?_
        obtain ⟨hi_15, hf⟩ := yb_ck_some hf
        refine x_iald X hK hw (ta_mem (cw_draft hC) 3 (by decide)) (ta_S (cw_draft hC) 3 rfl) hi_15 rfl dX10_readsTwins_95 ?_
        refine lv_iconst (v := (1 : Int32)) hx hb dX10_readsTwins_96 (by decide) ?_
        refine lv_iload_n hx hb dX10_readsTwins_97 rfl (lv_at hl 2 rfl) ?_
        refine lv_ishl hx hb dX10_readsTwins_98 ?_
        refine lv_ior hx hb dX10_readsTwins_99 ?_
        refine x_iast X hK hw (ta_mem (cw_draft hC) 3 (by decide)) (ta_S (cw_draft hC) 3 rfl) hi_15 rfl dX10_readsTwins_100 (fun H locs hw => ?_)
        obtain ⟨I_16, eI_16, hf⟩ := yb_let_ex hf
        have hw := yb_wI eI_16 hw
        refine lv_aload_n hx hb dX10_readsTwins_101 rfl (lv_at hl 3 rfl) ?_
        refine lv_dup hx hb dX10_readsTwins_102 rfl ?_
        refine x_getI X hK hw (cw_mem hC 61 (by decide)) (cw_S hC 61 rfl) cpX10 3 (by decide) rfl tw_525 dX10_readsTwins_103 ?_
        refine lv_iconst (v := (1 : Int32)) hx hb dX10_readsTwins_106 (by decide) ?_
        refine lv_iadd hx hb dX10_readsTwins_107 ?_
        refine x_putI X hK hw (cw_mem hC 61 (by decide)) (cw_S hC 61 rfl) cpX10 3 (by decide) rfl rfl rfl tw_525 dX10_readsTwins_108 (fun H locs hw => ?_)
        obtain ⟨I_17, eI_17, hf⟩ := yb_let_ex hf
        have hw := yb_wI eI_17 hw
        refine lv_iconst (v := (1 : Int32)) hx hb dX10_readsTwins_111 (by decide) ?_
        exact yb_retz hfin (by decide) hf hw dX10_readsTwins_112
      · have hf := yb_pos c_12 hf
        refine lv_aload_n hx hb dX10_readsTwins_61 rfl (lv_at hl 3 rfl) ?_
        refine x_getR X hK hw (cw_mem hC 61 (by decide)) (cw_S hC 61 rfl) cpX10 0 (by decide) rfl (cw_R hC 61 0 (by decide) rfl) tw_522 dX10_readsTwins_62 ?_
        refine lv_iload_n hx hb dX10_readsTwins_65 rfl (lv_at hl 1 rfl) ?_
        refine lv_iconst (v := (1 : Int32)) hx hb dX10_readsTwins_66 (by decide) ?_
        obtain ⟨r_18, I_19, J_20, hq_21, hf⟩ := yb_b3_some hf
        refine x_calli X hK hw (c3_failAt l D cz ev hC hq_21) (cw_mem hC 2 (by decide)) (cw_S hC 2 rfl) cpX3.1 vw_X10_114 ⟨Nat.le_of_ble_eq_true rfl, Nat.le_of_ble_eq_true rfl⟩ rfl rfl (Nat.le_of_ble_eq_true rfl) hl.1 ⟨Nat.le_refl _, Nat.le_refl _⟩ dX10_readsTwins_67 (fun H locs hw => ?_)
        obtain ⟨hz_22, hf⟩ := yb_ck_some hf
        exact yb_retz hfin hz_22 hf hw dX10_readsTwins_70
    · have hf := yb_neg c_11 hf
      refine lv_iconst (v := (0 : Int32)) hx hb dX10_readsTwins_54 (by decide) ?_
      exact yb_retz hfin (by decide) hf hw dX10_readsTwins_55
  · have hf := yb_neg c_5 hf
    refine lv_iconst (v := (0 : Int32)) hx hb dX10_readsTwins_22 (by decide) ?_
    exact yb_retz hfin (by decide) hf hw dX10_readsTwins_23
set_option maxHeartbeats 4000000 in
set_option maxRecDepth 100000 in
theorem c10_readsCase (l : Launch) (D : va_G) (cz : Nat → ClassId) (ev : Nat × Nat × Nat) {b : Nat} {L : List Nat} {S : ST} {Rf : RT} (hC : CW b L S Rf) {N : Nat} {I : IT} {J : JT} {r : Int32} {I1 : IT} {J1 : JT} (hf : f10_readsCase N b S Rf I J = some (r, I1, J1)) : MTi l D cz ev yX10_readsCase cX10_readsCase 5 (some .boolean) 2 46 [.ref (b + 61)] L S Rf I J r I1 J1 := by
  unfold f10_readsCase at hf
  refine MTz_of (by decide) (Nat.le_of_ble_eq_true rfl) ?_
  intro p e s m args below meth c Q ls X hK hw hl hfin
  have X : CallFix p m c cX10_readsCase 5 s args gw RX10 := X
  have hx := X.1
  have hb := X.2.1
  have hl : lv_has ls 5 [(0, .ref (b + 61))] := hl
  refine lv_aload_n hx hb dX10_readsCase_0 rfl (lv_at hl 0 rfl) ?_
  refine x_getR X hK hw (cw_mem hC 61 (by decide)) (cw_S hC 61 rfl) cpX10 0 (by decide) rfl (cw_R hC 61 0 (by decide) rfl) tw_522 dX10_readsCase_1 ?_
  refine lv_iconst (v := (0 : Int32)) hx hb dX10_readsCase_4 (by decide) ?_
  refine lv_aload_n hx hb dX10_readsCase_5 rfl (lv_at hl 0 rfl) ?_
  refine x_getR X hK hw (cw_mem hC 61 (by decide)) (cw_S hC 61 rfl) cpX10 1 (by decide) rfl (cw_R hC 61 1 (by decide) rfl) tw_523 dX10_readsCase_6 ?_
  refine x_getI X hK hw (cw_draft hC).1.1 (cw_draft hC).1.2 cpX9 13 (by decide) rfl tw_242 dX10_readsCase_9 ?_
  refine lv_iconst (v := (1 : Int32)) hx hb dX10_readsCase_12 (by decide) ?_
  refine lv_isub hx hb dX10_readsCase_13 ?_
  obtain ⟨r_1, I_2, J_3, hq_4, hf⟩ := yb_b3_some hf
  refine x_calli X hK hw (c3_number l D cz ev hC hq_4) (cw_mem hC 2 (by decide)) (cw_S hC 2 rfl) cpX3.1 vw_X10_85 ⟨Nat.le_of_ble_eq_true rfl, Nat.le_of_ble_eq_true rfl⟩ rfl rfl (Nat.le_of_ble_eq_true rfl) hl.1 ⟨Nat.le_refl _, Nat.le_refl _⟩ dX10_readsCase_14 (fun H locs hw => ?_)
  refine lv_istore_n (lv' := [(1, .int r_1), (0, .ref (b + 61))]) hx hb dX10_readsCase_17 rfl hl (by decide) rfl (fun ls hl => ?_)
  refine lv_iload_n hx hb dX10_readsCase_18 rfl (lv_at hl 0 rfl) ?_
  refine lv_if_ge (tgt := 26) hx hb dX10_readsCase_19 (by decide) (fun c_5 => ?_) (fun c_5 => ?_)
  · have hf := yb_pos c_5 hf
    refine lv_aload_n hx hb dX10_readsCase_26 rfl (lv_at hl 1 rfl) ?_
    refine x_getR X hK hw (cw_mem hC 61 (by decide)) (cw_S hC 61 rfl) cpX10 0 (by decide) rfl (cw_R hC 61 0 (by decide) rfl) tw_522 dX10_readsCase_27 ?_
    refine lv_iconst (v := (1 : Int32)) hx hb dX10_readsCase_30 (by decide) ?_
    refine lv_bipush (v := (9 : Int32)) hx hb dX10_readsCase_31 (by decide) ?_
    obtain ⟨r_6, I_7, J_8, hq_9, hf⟩ := yb_b3_some hf
    refine x_calli X hK hw (c3_number l D cz ev hC hq_9) (cw_mem hC 2 (by decide)) (cw_S hC 2 rfl) cpX3.1 vw_X10_85 ⟨Nat.le_of_ble_eq_true rfl, Nat.le_of_ble_eq_true rfl⟩ rfl rfl (Nat.le_of_ble_eq_true rfl) hl.1 ⟨Nat.le_refl _, Nat.le_refl _⟩ dX10_readsCase_33 (fun H locs hw => ?_)
    refine lv_istore_n (lv' := [(2, .int r_6), (1, .int r_1), (0, .ref (b + 61))]) hx hb dX10_readsCase_36 rfl hl (by decide) rfl (fun ls hl => ?_)
    refine lv_iload_n hx hb dX10_readsCase_37 rfl (lv_at hl 0 rfl) ?_
    refine lv_if_ge (tgt := 45) hx hb dX10_readsCase_38 (by decide) (fun c_10 => ?_) (fun c_10 => ?_)
    · have hf := yb_pos c_10 hf
      refine lv_aload_n hx hb dX10_readsCase_45 rfl (lv_at hl 2 rfl) ?_
      refine x_getR X hK hw (cw_mem hC 61 (by decide)) (cw_S hC 61 rfl) cpX10 0 (by decide) rfl (cw_R hC 61 0 (by decide) rfl) tw_522 dX10_readsCase_46 ?_
      refine lv_iconst (v := (1 : Int32)) hx hb dX10_readsCase_49 (by decide) ?_
      refine lv_bipush (v := (9 : Int32)) hx hb dX10_readsCase_50 (by decide) ?_
      obtain ⟨r_11, I_12, J_13, hq_14, hf⟩ := yb_b3_some hf
      refine x_calli X hK hw (c3_number l D cz ev hC hq_14) (cw_mem hC 2 (by decide)) (cw_S hC 2 rfl) cpX3.1 vw_X10_85 ⟨Nat.le_of_ble_eq_true rfl, Nat.le_of_ble_eq_true rfl⟩ rfl rfl (Nat.le_of_ble_eq_true rfl) hl.1 ⟨Nat.le_refl _, Nat.le_refl _⟩ dX10_readsCase_52 (fun H locs hw => ?_)
      refine lv_istore_n (lv' := [(3, .int r_11), (2, .int r_6), (1, .int r_1), (0, .ref (b + 61))]) hx hb dX10_readsCase_55 rfl hl (by decide) rfl (fun ls hl => ?_)
      refine lv_iload_n hx hb dX10_readsCase_56 rfl (lv_at hl 0 rfl) ?_
      refine lv_if_ge (tgt := 64) hx hb dX10_readsCase_57 (by decide) (fun c_15 => ?_) (fun c_15 => ?_)
      · have hf := yb_pos c_15 hf
        refine lv_aload_n hx hb dX10_readsCase_64 rfl (lv_at hl 3 rfl) ?_
        refine x_getR X hK hw (cw_mem hC 61 (by decide)) (cw_S hC 61 rfl) cpX10 0 (by decide) rfl (cw_R hC 61 0 (by decide) rfl) tw_522 dX10_readsCase_65 ?_
        refine lv_iconst (v := (0 : Int32)) hx hb dX10_readsCase_68 (by decide) ?_
        refine lv_bipush (v := (99 : Int32)) hx hb dX10_readsCase_69 (by decide) ?_
        obtain ⟨r_16, I_17, J_18, hq_19, hf⟩ := yb_b3_some hf
        refine x_calli X hK hw (c3_number l D cz ev hC hq_19) (cw_mem hC 2 (by decide)) (cw_S hC 2 rfl) cpX3.1 vw_X10_85 ⟨Nat.le_of_ble_eq_true rfl, Nat.le_of_ble_eq_true rfl⟩ rfl rfl (Nat.le_of_ble_eq_true rfl) hl.1 ⟨Nat.le_refl _, Nat.le_refl _⟩ dX10_readsCase_71 (fun H locs hw => ?_)
        refine lv_istore (lv' := [(4, .int r_16), (3, .int r_11), (2, .int r_6), (1, .int r_1), (0, .ref (b + 61))]) hx hb dX10_readsCase_74 hl (by decide) rfl (fun ls hl => ?_)
        refine lv_iload hx hb dX10_readsCase_76 (lv_at hl 0 rfl) ?_
        refine lv_if_ge (tgt := 83) hx hb dX10_readsCase_78 (by decide) (fun c_20 => ?_) (fun c_20 => ?_)
        · have hf := yb_pos c_20 hf
          refine lv_aload_n hx hb dX10_readsCase_83 rfl (lv_at hl 4 rfl) ?_
          refine x_getR X hK hw (cw_mem hC 61 (by decide)) (cw_S hC 61 rfl) cpX10 1 (by decide) rfl (cw_R hC 61 1 (by decide) rfl) tw_523 dX10_readsCase_84 ?_
          refine x_getR X hK hw (cw_draft hC).1.1 (cw_draft hC).1.2 cpX9 4 (by decide) rfl (ta_R (cw_draft hC) 4 (by decide)) tw_208 dX10_readsCase_87 ?_
          refine lv_aload_n hx hb dX10_readsCase_90 rfl (lv_at hl 4 rfl) ?_
          refine x_getR X hK hw (cw_mem hC 61 (by decide)) (cw_S hC 61 rfl) cpX10 1 (by decide) rfl (cw_R hC 61 1 (by decide) rfl) tw_523 dX10_readsCase_91 ?_
          refine x_getI X hK hw (cw_draft hC).1.1 (cw_draft hC).1.2 cpX9 14 (by decide) rfl tw_246 dX10_readsCase_94 ?_
          refine lv_iload_n hx hb dX10_readsCase_97 rfl (lv_at hl 3 rfl) ?_
          obtain ⟨hi_21, hf⟩ := yb_ck_some hf
          refine x_iast X hK hw (ta_mem (cw_draft hC) 4 (by decide)) (ta_S (cw_draft hC) 4 rfl) hi_21 rfl dX10_readsCase_98 (fun H locs hw => ?_)
          obtain ⟨I_22, eI_22, hf⟩ := yb_let_ex hf
          have hw := yb_wI eI_22 hw
          refine lv_aload_n hx hb dX10_readsCase_99 rfl (lv_at hl 4 rfl) ?_
          refine x_getR X hK hw (cw_mem hC 61 (by decide)) (cw_S hC 61 rfl) cpX10 1 (by decide) rfl (cw_R hC 61 1 (by decide) rfl) tw_523 dX10_readsCase_100 ?_
          refine x_getR X hK hw (cw_draft hC).1.1 (cw_draft hC).1.2 cpX9 5 (by decide) rfl (ta_R (cw_draft hC) 5 (by decide)) tw_212 dX10_readsCase_103 ?_
          refine lv_aload_n hx hb dX10_readsCase_106 rfl (lv_at hl 4 rfl) ?_
          refine x_getR X hK hw (cw_mem hC 61 (by decide)) (cw_S hC 61 rfl) cpX10 1 (by decide) rfl (cw_R hC 61 1 (by decide) rfl) tw_523 dX10_readsCase_107 ?_
          refine x_getI X hK hw (cw_draft hC).1.1 (cw_draft hC).1.2 cpX9 14 (by decide) rfl tw_246 dX10_readsCase_110 ?_
          refine lv_iload_n hx hb dX10_readsCase_113 rfl (lv_at hl 2 rfl) ?_
          obtain ⟨hi_23, hf⟩ := yb_ck_some hf
          refine x_iast X hK hw (ta_mem (cw_draft hC) 5 (by decide)) (ta_S (cw_draft hC) 5 rfl) hi_23 rfl dX10_readsCase_114 (fun H locs hw => ?_)
          obtain ⟨I_24, eI_24, hf⟩ := yb_let_ex hf
          have hw := yb_wI eI_24 hw
          refine lv_aload_n hx hb dX10_readsCase_115 rfl (lv_at hl 4 rfl) ?_
          refine x_getR X hK hw (cw_mem hC 61 (by decide)) (cw_S hC 61 rfl) cpX10 1 (by decide) rfl (cw_R hC 61 1 (by decide) rfl) tw_523 dX10_readsCase_116 ?_
          refine x_getR X hK hw (cw_draft hC).1.1 (cw_draft hC).1.2 cpX9 6 (by decide) rfl (ta_R (cw_draft hC) 6 (by decide)) tw_217 dX10_readsCase_119 ?_
          refine lv_aload_n hx hb dX10_readsCase_122 rfl (lv_at hl 4 rfl) ?_
          refine x_getR X hK hw (cw_mem hC 61 (by decide)) (cw_S hC 61 rfl) cpX10 1 (by decide) rfl (cw_R hC 61 1 (by decide) rfl) tw_523 dX10_readsCase_123 ?_
          refine x_getI X hK hw (cw_draft hC).1.1 (cw_draft hC).1.2 cpX9 14 (by decide) rfl tw_246 dX10_readsCase_126 ?_
          refine lv_iload_n hx hb dX10_readsCase_129 rfl (lv_at hl 1 rfl) ?_
          obtain ⟨hi_25, hf⟩ := yb_ck_some hf
          refine x_iast X hK hw (ta_mem (cw_draft hC) 6 (by decide)) (ta_S (cw_draft hC) 6 rfl) hi_25 rfl dX10_readsCase_130 (fun H locs hw => ?_)
          obtain ⟨I_26, eI_26, hf⟩ := yb_let_ex hf
          have hw := yb_wI eI_26 hw
          refine lv_aload_n hx hb dX10_readsCase_131 rfl (lv_at hl 4 rfl) ?_
          refine x_getR X hK hw (cw_mem hC 61 (by decide)) (cw_S hC 61 rfl) cpX10 1 (by decide) rfl (cw_R hC 61 1 (by decide) rfl) tw_523 dX10_readsCase_132 ?_
          refine x_getR X hK hw (cw_draft hC).1.1 (cw_draft hC).1.2 cpX9 7 (by decide) rfl (ta_R (cw_draft hC) 7 (by decide)) tw_221 dX10_readsCase_135 ?_
          refine lv_aload_n hx hb dX10_readsCase_138 rfl (lv_at hl 4 rfl) ?_
          refine x_getR X hK hw (cw_mem hC 61 (by decide)) (cw_S hC 61 rfl) cpX10 1 (by decide) rfl (cw_R hC 61 1 (by decide) rfl) tw_523 dX10_readsCase_139 ?_
          refine x_getI X hK hw (cw_draft hC).1.1 (cw_draft hC).1.2 cpX9 14 (by decide) rfl tw_246 dX10_readsCase_142 ?_
          refine lv_iload hx hb dX10_readsCase_145 (lv_at hl 0 rfl) ?_
          obtain ⟨hi_27, hf⟩ := yb_ck_some hf
          refine x_iast X hK hw (ta_mem (cw_draft hC) 7 (by decide)) (ta_S (cw_draft hC) 7 rfl) hi_27 rfl dX10_readsCase_147 (fun H locs hw => ?_)
          obtain ⟨I_28, eI_28, hf⟩ := yb_let_ex hf
          have hw := yb_wI eI_28 hw
          refine lv_aload_n hx hb dX10_readsCase_148 rfl (lv_at hl 4 rfl) ?_
          refine x_getR X hK hw (cw_mem hC 61 (by decide)) (cw_S hC 61 rfl) cpX10 1 (by decide) rfl (cw_R hC 61 1 (by decide) rfl) tw_523 dX10_readsCase_149 ?_
          refine lv_dup hx hb dX10_readsCase_152 rfl ?_
          refine x_getI X hK hw (cw_draft hC).1.1 (cw_draft hC).1.2 cpX9 14 (by decide) rfl tw_246 dX10_readsCase_153 ?_
          refine lv_iconst (v := (1 : Int32)) hx hb dX10_readsCase_156 (by decide) ?_
          refine lv_iadd hx hb dX10_readsCase_157 ?_
          refine x_putI X hK hw (cw_draft hC).1.1 (cw_draft hC).1.2 cpX9 14 (by decide) rfl rfl rfl tw_246 dX10_readsCase_158 (fun H locs hw => ?_)
          obtain ⟨I_29, eI_29, hf⟩ := yb_let_ex hf
          have hw := yb_wI eI_29 hw
          refine lv_iconst (v := (1 : Int32)) hx hb dX10_readsCase_161 (by decide) ?_
          exact yb_retz hfin (by decide) hf hw dX10_readsCase_162
        · have hf := yb_neg c_20 hf
          refine lv_iconst (v := (0 : Int32)) hx hb dX10_readsCase_81 (by decide) ?_
          exact yb_retz hfin (by decide) hf hw dX10_readsCase_82
      · have hf := yb_neg c_15 hf
        refine lv_iconst (v := (-1 : Int32)) hx hb dX10_readsCase_60 (by decide) ?_
        refine lv_goto (tgt := 74) hx hb dX10_readsCase_61 (by decide) ?_
        refine lv_istore (lv' := [(4, .int (-1 : Int32)), (3, .int r_11), (2, .int r_6), (1, .int r_1), (0, .ref (b + 61))]) hx hb dX10_readsCase_74 hl (by decide) rfl (fun ls hl => ?_)
        refine lv_iload hx hb dX10_readsCase_76 (lv_at hl 0 rfl) ?_
        refine lv_if_ge (tgt := 83) hx hb dX10_readsCase_78 (by decide) (fun c_30 => absurd c_30 (by decide)) (fun _ => ?_)
        refine lv_iconst (v := (0 : Int32)) hx hb dX10_readsCase_81 (by decide) ?_
        exact yb_retz hfin (by decide) hf hw dX10_readsCase_82
    · have hf := yb_neg c_10 hf
      refine lv_iconst (v := (-1 : Int32)) hx hb dX10_readsCase_41 (by decide) ?_
      refine lv_goto (tgt := 55) hx hb dX10_readsCase_42 (by decide) ?_
      refine lv_istore_n (lv' := [(3, .int (-1 : Int32)), (2, .int r_6), (1, .int r_1), (0, .ref (b + 61))]) hx hb dX10_readsCase_55 rfl hl (by decide) rfl (fun ls hl => ?_)
      refine lv_iload_n hx hb dX10_readsCase_56 rfl (lv_at hl 0 rfl) ?_
      refine lv_if_ge (tgt := 64) hx hb dX10_readsCase_57 (by decide) (fun c_31 => absurd c_31 (by decide)) (fun _ => ?_)
      refine lv_iconst (v := (-1 : Int32)) hx hb dX10_readsCase_60 (by decide) ?_
      refine lv_goto (tgt := 74) hx hb dX10_readsCase_61 (by decide) ?_
      refine lv_istore (lv' := [(4, .int (-1 : Int32)), (3, .int (-1 : Int32)), (2, .int r_6), (1, .int r_1), (0, .ref (b + 61))]) hx hb dX10_readsCase_74 hl (by decide) rfl (fun ls hl => ?_)
      refine lv_iload hx hb dX10_readsCase_76 (lv_at hl 0 rfl) ?_
      refine lv_if_ge (tgt := 83) hx hb dX10_readsCase_78 (by decide) (fun c_32 => absurd c_32 (by decide)) (fun _ => ?_)
      refine lv_iconst (v := (0 : Int32)) hx hb dX10_readsCase_81 (by decide) ?_
      exact yb_retz hfin (by decide) hf hw dX10_readsCase_82
  · have hf := yb_neg c_5 hf
    refine lv_iconst (v := (-1 : Int32)) hx hb dX10_readsCase_22 (by decide) ?_
    refine lv_goto (tgt := 36) hx hb dX10_readsCase_23 (by decide) ?_
    refine lv_istore_n (lv' := [(2, .int (-1 : Int32)), (1, .int r_1), (0, .ref (b + 61))]) hx hb dX10_readsCase_36 rfl hl (by decide) rfl (fun ls hl => ?_)
    refine lv_iload_n hx hb dX10_readsCase_37 rfl (lv_at hl 0 rfl) ?_
    refine lv_if_ge (tgt := 45) hx hb dX10_readsCase_38 (by decide) (fun c_33 => absurd c_33 (by decide)) (fun _ => ?_)
    refine lv_iconst (v := (-1 : Int32)) hx hb dX10_readsCase_41 (by decide) ?_
    refine lv_goto (tgt := 55) hx hb dX10_readsCase_42 (by decide) ?_
    refine lv_istore_n (lv' := [(3, .int (-1 : Int32)), (2, .int (-1 : Int32)), (1, .int r_1), (0, .ref (b + 61))]) hx hb dX10_readsCase_55 rfl hl (by decide) rfl (fun ls hl => ?_)
    refine lv_iload_n hx hb dX10_readsCase_56 rfl (lv_at hl 0 rfl) ?_
    refine lv_if_ge (tgt := 64) hx hb dX10_readsCase_57 (by decide) (fun c_34 => absurd c_34 (by decide)) (fun _ => ?_)
    refine lv_iconst (v := (-1 : Int32)) hx hb dX10_readsCase_60 (by decide) ?_
    refine lv_goto (tgt := 74) hx hb dX10_readsCase_61 (by decide) ?_
    refine lv_istore (lv' := [(4, .int (-1 : Int32)), (3, .int (-1 : Int32)), (2, .int (-1 : Int32)), (1, .int r_1), (0, .ref (b + 61))]) hx hb dX10_readsCase_74 hl (by decide) rfl (fun ls hl => ?_)
    refine lv_iload hx hb dX10_readsCase_76 (lv_at hl 0 rfl) ?_
    refine lv_if_ge (tgt := 83) hx hb dX10_readsCase_78 (by decide) (fun c_35 => absurd c_35 (by decide)) (fun _ => ?_)
    refine lv_iconst (v := (0 : Int32)) hx hb dX10_readsCase_81 (by decide) ?_
    exact yb_retz hfin (by decide) hf hw dX10_readsCase_82
set_option maxHeartbeats 4000000 in
set_option maxRecDepth 100000 in
theorem c10_readsClause (l : Launch) (D : va_G) (cz : Nat → ClassId) (ev : Nat × Nat × Nat) {b : Nat} {L : List Nat} {S : ST} {Rf : RT} (hC : CW b L S Rf) {N : Nat} {I : IT} {J : JT} {r : Int32} {I1 : IT} {J1 : JT} (hf : f10_readsClause N b S Rf I J = some (r, I1, J1)) : MTi l D cz ev yX10_readsClause cX10_readsClause 2 (some .boolean) 5 110 [.ref (b + 61)] L S Rf I J r I1 J1 := by
  unfold f10_readsClause at hf
  refine MTz_of (by decide) (Nat.le_of_ble_eq_true rfl) ?_
  intro p e s m args below meth c Q ls X hK hw hl hfin
  have X : CallFix p m c cX10_readsClause 2 s args gw RX10 := X
  have hx := X.1
  have hb := X.2.1
  have hl : lv_has ls 2 [(0, .ref (b + 61))] := hl
  refine lv_aload_n hx hb dX10_readsClause_0 rfl (lv_at hl 0 rfl) ?_
  refine x_getR X hK hw (cw_mem hC 61 (by decide)) (cw_S hC 61 rfl) cpX10 0 (by decide) rfl (cw_R hC 61 0 (by decide) rfl) tw_522 dX10_readsClause_1 ?_
  obtain ⟨r_1, I_2, J_3, hq_4, hf⟩ := yb_b3_some hf
  refine x_calli X hK hw (c3_word l D cz ev hC hq_4) (cw_mem hC 2 (by decide)) (cw_S hC 2 rfl) cpX3.1 vw_X10_52 ⟨Nat.le_of_ble_eq_true rfl, Nat.le_of_ble_eq_true rfl⟩ rfl rfl (Nat.le_of_ble_eq_true rfl) hl.1 ⟨Nat.le_refl _, Nat.le_refl _⟩ dX10_readsClause_4 (fun H locs hw => ?_)
  refine lv_istore_n (lv' := [(1, .int r_1), (0, .ref (b + 61))]) hx hb dX10_readsClause_7 rfl hl (by decide) rfl (fun ls hl => ?_)
  refine lv_iload_n hx hb dX10_readsClause_8 rfl (lv_at hl 0 rfl) ?_
  refine lv_bipush (v := (17 : Int32)) hx hb dX10_readsClause_9 (by decide) ?_
  refine lv_icmp_ge (tgt := 23) hx hb dX10_readsClause_11 (by decide) (fun c_5 => ?_) (fun c_5 => ?_)
  · have hf := yb_pos c_5 hf
    refine lv_aload_n hx hb dX10_readsClause_23 rfl (lv_at hl 1 rfl) ?_
    refine lv_iload_n hx hb dX10_readsClause_24 rfl (lv_at hl 0 rfl) ?_
    obtain ⟨r_6, I_7, J_8, hq_9, hf⟩ := yb_b3_some hf
    refine x_calli X hK hw (c10_isOneTooMany l D cz ev hC hq_9) (cw_mem hC 61 (by decide)) (cw_S hC 61 rfl) cpX10.1 vw_X10_55 ⟨Nat.le_of_ble_eq_true rfl, Nat.le_of_ble_eq_true rfl⟩ rfl rfl (Nat.le_of_ble_eq_true rfl) hl.1 ⟨Nat.le_refl _, Nat.le_refl _⟩ dX10_readsClause_25 (fun H locs hw => ?_)
    refine lv_if_eq (tgt := 40) hx hb dX10_readsClause_28 (by decide) (fun c_10 => ?_) (fun c_10 => ?_)
    · have hf := yb_pos c_10 hf
      refine lv_aload_n hx hb dX10_readsClause_40 rfl (lv_at hl 1 rfl) ?_
      refine x_getR X hK hw (cw_mem hC 61 (by decide)) (cw_S hC 61 rfl) cpX10 0 (by decide) rfl (cw_R hC 61 0 (by decide) rfl) tw_522 dX10_readsClause_41 ?_
      obtain ⟨r_11, I_12, J_13, hq_14, hf⟩ := yb_b3_some hf
      refine x_callv X hK hw (c3_passWord l D cz ev hC hq_14) (cw_mem hC 2 (by decide)) (cw_S hC 2 rfl) cpX3.1 vw_X10_58 ⟨Nat.le_of_ble_eq_true rfl, Nat.le_of_ble_eq_true rfl⟩ rfl rfl (Nat.le_of_ble_eq_true rfl) hl.1 ⟨Nat.le_refl _, Nat.le_refl _⟩ dX10_readsClause_44 (fun H locs hw => ?_)
      refine lv_iload_n hx hb dX10_readsClause_47 rfl (lv_at hl 0 rfl) ?_
      by_cases c_15 : r_1 = (17 : Int32)
      · have hf := yb_pos c_15 hf
        refine lv_tableIn (off := 32) (tgt := 80) hx hb dX10_readsClause_48 (by rw [c_15]; decide) (by rw [c_15]; decide) (by rw [c_15]; rfl) (by decide) ?_
        refine lv_aload_n hx hb dX10_readsClause_80 rfl (lv_at hl 1 rfl) ?_
        obtain ⟨r_16, I_17, J_18, hq_19, hf⟩ := yb_b3_some hf
        refine x_calli X hK hw (c10_readsTown l D cz ev hC hq_19) (cw_mem hC 61 (by decide)) (cw_S hC 61 rfl) cpX10.1 vw_X10_61 ⟨Nat.le_of_ble_eq_true rfl, Nat.le_of_ble_eq_true rfl⟩ rfl rfl (Nat.le_of_ble_eq_true rfl) hl.1 ⟨Nat.le_refl _, Nat.le_refl _⟩ dX10_readsClause_81 (fun H locs hw => ?_)
        obtain ⟨hz_20, hf⟩ := yb_ck_some hf
        exact yb_retz hfin hz_20 hf hw dX10_readsClause_84
      have hf := yb_neg c_15 hf
      by_cases c_21 : r_1 = (18 : Int32)
      · have hf := yb_pos c_21 hf
        refine lv_tableIn (off := 37) (tgt := 85) hx hb dX10_readsClause_48 (by rw [c_21]; decide) (by rw [c_21]; decide) (by rw [c_21]; rfl) (by decide) ?_
        refine lv_aload_n hx hb dX10_readsClause_85 rfl (lv_at hl 1 rfl) ?_
        obtain ⟨r_22, I_23, J_24, hq_25, hf⟩ := yb_b3_some hf
        refine x_calli X hK hw (c10_readsBench l D cz ev hC hq_25) (cw_mem hC 61 (by decide)) (cw_S hC 61 rfl) cpX10.1 vw_X10_64 ⟨Nat.le_of_ble_eq_true rfl, Nat.le_of_ble_eq_true rfl⟩ rfl rfl (Nat.le_of_ble_eq_true rfl) hl.1 ⟨Nat.le_refl _, Nat.le_refl _⟩ dX10_readsClause_86 (fun H locs hw => ?_)
        obtain ⟨hz_26, hf⟩ := yb_ck_some hf
        exact yb_retz hfin hz_26 hf hw dX10_readsClause_89
      have hf := yb_neg c_21 hf
      by_cases c_27 : r_1 = (19 : Int32)
      · have hf := yb_pos c_27 hf
        refine lv_tableIn (off := 42) (tgt := 90) hx hb dX10_readsClause_48 (by rw [c_27]; decide) (by rw [c_27]; decide) (by rw [c_27]; rfl) (by decide) ?_
        refine lv_aload_n hx hb dX10_readsClause_90 rfl (lv_at hl 1 rfl) ?_
        obtain ⟨r_28, I_29, J_30, hq_31, hf⟩ := yb_b3_some hf
        refine x_calli X hK hw (c10_readsPerson l D cz ev hC hq_31) (cw_mem hC 61 (by decide)) (cw_S hC 61 rfl) cpX10.1 vw_X10_67 ⟨Nat.le_of_ble_eq_true rfl, Nat.le_of_ble_eq_true rfl⟩ rfl rfl (Nat.le_of_ble_eq_true rfl) hl.1 ⟨Nat.le_refl _, Nat.le_refl _⟩ dX10_readsClause_91 (fun H locs hw => ?_)
        obtain ⟨hz_32, hf⟩ := yb_ck_some hf
        exact yb_retz hfin hz_32 hf hw dX10_readsClause_94
      have hf := yb_neg c_27 hf
      by_cases c_33 : r_1 = (20 : Int32)
      · have hf := yb_pos c_33 hf
        refine lv_tableIn (off := 47) (tgt := 95) hx hb dX10_readsClause_48 (by rw [c_33]; decide) (by rw [c_33]; decide) (by rw [c_33]; rfl) (by decide) ?_
        refine lv_aload_n hx hb dX10_readsClause_95 rfl (lv_at hl 1 rfl) ?_
        obtain ⟨r_34, I_35, J_36, hq_37, hf⟩ := yb_b3_some hf
        refine x_calli X hK hw (c10_readsTwins l D cz ev hC hq_37) (cw_mem hC 61 (by decide)) (cw_S hC 61 rfl) cpX10.1 vw_X10_70 ⟨Nat.le_of_ble_eq_true rfl, Nat.le_of_ble_eq_true rfl⟩ rfl rfl (Nat.le_of_ble_eq_true rfl) hl.1 ⟨Nat.le_refl _, Nat.le_refl _⟩ dX10_readsClause_96 (fun H locs hw => ?_)
        obtain ⟨hz_38, hf⟩ := yb_ck_some hf
        exact yb_retz hfin hz_38 hf hw dX10_readsClause_99
      have hf := yb_neg c_33 hf
      refine lv_tableOut (tgt := 100) hx hb dX10_readsClause_48 (by
          rcases Int.lt_or_le (r_1).toInt 17 with g1 | g1
          · exact Or.inl g1
          · rcases Int.lt_or_le 20 (r_1).toInt with g2 | g2
            · exact Or.inr g2
            · exfalso
              have g3 : (r_1).toInt = 17 ∨ (r_1).toInt = 18 ∨ (r_1).toInt = 19 ∨ (r_1).toInt = 20 := by omega
              rcases g3 with g3 | g3 | g3 | g3
              · exact c_15 (yb_sw (17 : Int32) g3 rfl)
              · exact c_21 (yb_sw (18 : Int32) g3 rfl)
              · exact c_27 (yb_sw (19 : Int32) g3 rfl)
              · exact c_33 (yb_sw (20 : Int32) g3 rfl)) (by decide) ?_
      refine lv_aload_n hx hb dX10_readsClause_100 rfl (lv_at hl 1 rfl) ?_
      obtain ⟨r_39, I_40, J_41, hq_42, hf⟩ := yb_b3_some hf
      refine x_calli X hK hw (c10_readsCase l D cz ev hC hq_42) (cw_mem hC 61 (by decide)) (cw_S hC 61 rfl) cpX10.1 vw_X10_73 ⟨Nat.le_of_ble_eq_true rfl, Nat.le_of_ble_eq_true rfl⟩ rfl rfl (Nat.le_of_ble_eq_true rfl) hl.1 ⟨Nat.le_refl _, Nat.le_refl _⟩ dX10_readsClause_101 (fun H locs hw => ?_)
      obtain ⟨hz_43, hf⟩ := yb_ck_some hf
      exact yb_retz hfin hz_43 hf hw dX10_readsClause_104
    · have hf := yb_neg c_10 hf
      refine lv_aload_n hx hb dX10_readsClause_31 rfl (lv_at hl 1 rfl) ?_
      refine x_getR X hK hw (cw_mem hC 61 (by decide)) (cw_S hC 61 rfl) cpX10 0 (by decide) rfl (cw_R hC 61 0 (by decide) rfl) tw_522 dX10_readsClause_32 ?_
      refine lv_iconst (v := (4 : Int32)) hx hb dX10_readsClause_35 (by decide) ?_
      obtain ⟨r_44, I_45, J_46, hq_47, hf⟩ := yb_b3_some hf
      refine x_calli X hK hw (c3_fail l D cz ev hC hq_47) (cw_mem hC 2 (by decide)) (cw_S hC 2 rfl) cpX3.1 vw_X10_45 ⟨Nat.le_of_ble_eq_true rfl, Nat.le_of_ble_eq_true rfl⟩ rfl rfl (Nat.le_of_ble_eq_true rfl) hl.1 ⟨Nat.le_refl _, Nat.le_refl _⟩ dX10_readsClause_36 (fun H locs hw => ?_)
      obtain ⟨hz_48, hf⟩ := yb_ck_some hf
      exact yb_retz hfin hz_48 hf hw dX10_readsClause_39
  · have hf := yb_neg c_5 hf
    refine lv_aload_n hx hb dX10_readsClause_14 rfl (lv_at hl 1 rfl) ?_
    refine x_getR X hK hw (cw_mem hC 61 (by decide)) (cw_S hC 61 rfl) cpX10 0 (by decide) rfl (cw_R hC 61 0 (by decide) rfl) tw_522 dX10_readsClause_15 ?_
    refine lv_iconst (v := (0 : Int32)) hx hb dX10_readsClause_18 (by decide) ?_
    obtain ⟨r_49, I_50, J_51, hq_52, hf⟩ := yb_b3_some hf
    refine x_calli X hK hw (c3_fail l D cz ev hC hq_52) (cw_mem hC 2 (by decide)) (cw_S hC 2 rfl) cpX3.1 vw_X10_45 ⟨Nat.le_of_ble_eq_true rfl, Nat.le_of_ble_eq_true rfl⟩ rfl rfl (Nat.le_of_ble_eq_true rfl) hl.1 ⟨Nat.le_refl _, Nat.le_refl _⟩ dX10_readsClause_19 (fun H locs hw => ?_)
    obtain ⟨hz_53, hf⟩ := yb_ck_some hf
    exact yb_retz hfin hz_53 hf hw dX10_readsClause_22
set_option maxHeartbeats 4000000 in
set_option maxRecDepth 100000 in
theorem w10_reads_L22 {p : Program} {l : Launch} {e : Env} {s : State} {m : MethodId} {args : Array Value} {below : List Frame} {meth : Method} {c : Code} {Q : State → Prop} {D : va_G} {cz : Nat → ClassId} {A : Nat → Prop} {ev : Nat × Nat × Nat} {b : Nat} {L : List Nat} {S : ST} {Rf : RT} (hC : CW b L S Rf) (X : CallFix p m c cX10_reads 1 s args gw RX10) (hK : KX D cz ev A s) {N : Nat} {rM : Int32} {IM : IT} {JM : JT} :
    ∀ (n : Nat) (I : IT) (J : JT) (q : (Int32 ⊕ (Unit))) (I1 : IT) (J1 : JT) (H : Heap) (locs : List Loc) (ls : Array Slot), f10_reads_L22 N b S Rf n I J = some (q, I1, J1) → WX D cz A L S Rf s.heap I J H locs → lv_has ls 1 [(0, .ref (b + 61))] →
    (∀ v, q = .inl v → some (v, I1, J1) = some (rM, IM, JM)) → (∀ (H : Heap) (locs : List Loc) (ls : Array Slot) (pc : Nat), bz rM = true → WX D cz A L S Rf s.heap IM JM H locs → decode cX10_reads pc = .ok (.ireturn, 1) → W p l e (rmX 6 131) s m args below meth c H locs 0 0 Q (F0 m pc ls [.int rM])) →
    (∀ xq, q = .inr xq → ∀ (H : Heap) (locs : List Loc) (ls : Array Slot), WX D cz A L S Rf s.heap I1 J1 H locs → lv_has ls 1 [] → W p l e (rmX 6 131) s m args below meth c H locs 0 0 Q (F0 m 94 ls [])) →
    W p l e (rmX 6 131) s m args below meth c H locs 0 0 Q (F0 m 22 ls []) := by
  have hx := X.1
  have hb := X.2.1
  intro n
  induction n with
  | zero =>
    intro  I J q I1 J1 H locs ls hf
    rw [f10_reads_L22] at hf
    cases hf
  | succ n ih =>
    intro  I J q I1 J1 H locs ls hf hw hl hret hfin hexit
    rw [f10_reads_L22] at hf
    refine lv_aload_n hx hb dX10_reads_22 rfl (lv_at hl 0 rfl) ?_
    refine x_getI X hK hw (cw_mem hC 61 (by decide)) (cw_S hC 61 rfl) cpX10 2 (by decide) rfl tw_524 dX10_reads_23 ?_
    refine lv_bipush (v := (40 : Int32)) hx hb dX10_reads_26 (by decide) ?_
    refine lv_icmp_gt (tgt := 94) hx hb dX10_reads_28 (by decide) (fun c_8 => ?_) (fun c_8 => ?_)
    · have hf := yb_pos c_8 hf
      obtain ⟨rfl, rfl, rfl⟩ := yb_inj hf
      exact hexit _ rfl _ _ _ hw (lv_sub hl [] rfl)
    · have hf := yb_neg c_8 hf
      refine lv_aload_n hx hb dX10_reads_31 rfl (lv_at hl 0 rfl) ?_
      obtain ⟨r_9, I_10, J_11, hq_12, hf⟩ := yb_b3_some hf
      refine x_calli X hK hw (c10_readsClause l D cz ev hC hq_12) (cw_mem hC 61 (by decide)) (cw_S hC 61 rfl) cpX10.1 vw_X10_35 ⟨Nat.le_of_ble_eq_true rfl, Nat.le_of_ble_eq_true rfl⟩ rfl rfl (Nat.le_of_ble_eq_true rfl) hl.1 ⟨Nat.le_refl _, Nat.le_refl _⟩ dX10_reads_32 (fun H locs hw => ?_)
      refine lv_if_ne (tgt := 40) hx hb dX10_reads_35 (by decide) (fun c_13 => ?_) (fun c_13 => ?_)
      · have hf := yb_neg c_13 hf
        refine lv_aload_n hx hb dX10_reads_40 rfl (lv_at hl 0 rfl) ?_
        refine x_getR X hK hw (cw_mem hC 61 (by decide)) (cw_S hC 61 rfl) cpX10 0 (by decide) rfl (cw_R hC 61 0 (by decide) rfl) tw_522 dX10_reads_41 ?_
        obtain ⟨r_14, I_15, J_16, hq_17, hf⟩ := yb_b3_some hf
        refine x_calli X hK hw (c3_sign l D cz ev hC hq_17) (cw_mem hC 2 (by decide)) (cw_S hC 2 rfl) cpX3.1 vw_X10_39 ⟨Nat.le_of_ble_eq_true rfl, Nat.le_of_ble_eq_true rfl⟩ rfl rfl (Nat.le_of_ble_eq_true rfl) hl.1 ⟨Nat.le_refl _, Nat.le_refl _⟩ dX10_reads_44 (fun H locs hw => ?_)
        refine lv_iconst (v := (-1 : Int32)) hx hb dX10_reads_47 (by decide) ?_
        refine lv_icmp_ne (tgt := 53) hx hb dX10_reads_48 (by decide) (fun c_18 => ?_) (fun c_18 => ?_)
        · have hf := yb_neg c_18 hf
          refine lv_aload_n hx hb dX10_reads_53 rfl (lv_at hl 0 rfl) ?_
          refine x_getR X hK hw (cw_mem hC 61 (by decide)) (cw_S hC 61 rfl) cpX10 0 (by decide) rfl (cw_R hC 61 0 (by decide) rfl) tw_522 dX10_reads_54 ?_
          obtain ⟨r_19, I_20, J_21, hq_22, hf⟩ := yb_b3_some hf
          refine x_calli X hK hw (c3_sign l D cz ev hC hq_22) (cw_mem hC 2 (by decide)) (cw_S hC 2 rfl) cpX3.1 vw_X10_39 ⟨Nat.le_of_ble_eq_true rfl, Nat.le_of_ble_eq_true rfl⟩ rfl rfl (Nat.le_of_ble_eq_true rfl) hl.1 ⟨Nat.le_refl _, Nat.le_refl _⟩ dX10_reads_57 (fun H locs hw => ?_)
          refine lv_bipush (v := (59 : Int32)) hx hb dX10_reads_60 (by decide) ?_
          refine lv_icmp_eq (tgt := 74) hx hb dX10_reads_62 (by decide) (fun c_23 => ?_) (fun c_23 => ?_)
          · have hf := yb_pos c_23 hf
            refine lv_aload_n hx hb dX10_reads_74 rfl (lv_at hl 0 rfl) ?_
            refine x_getR X hK hw (cw_mem hC 61 (by decide)) (cw_S hC 61 rfl) cpX10 0 (by decide) rfl (cw_R hC 61 0 (by decide) rfl) tw_522 dX10_reads_75 ?_
            obtain ⟨r_24, I_25, J_26, hq_27, hf⟩ := yb_b3_some hf
            refine x_callv X hK hw (c3_passSign l D cz ev hC hq_27) (cw_mem hC 2 (by decide)) (cw_S hC 2 rfl) cpX3.1 vw_X10_49 ⟨Nat.le_of_ble_eq_true rfl, Nat.le_of_ble_eq_true rfl⟩ rfl rfl (Nat.le_of_ble_eq_true rfl) hl.1 ⟨Nat.le_refl _, Nat.le_refl _⟩ dX10_reads_78 (fun H locs hw => ?_)
            refine lv_aload_n hx hb dX10_reads_81 rfl (lv_at hl 0 rfl) ?_
            refine lv_dup hx hb dX10_reads_82 rfl ?_
            refine x_getI X hK hw (cw_mem hC 61 (by decide)) (cw_S hC 61 rfl) cpX10 2 (by decide) rfl tw_524 dX10_reads_83 ?_
            refine lv_iconst (v := (1 : Int32)) hx hb dX10_reads_86 (by decide) ?_
            refine lv_iadd hx hb dX10_reads_87 ?_
            refine x_putI X hK hw (cw_mem hC 61 (by decide)) (cw_S hC 61 rfl) cpX10 2 (by decide) rfl rfl rfl tw_524 dX10_reads_88 (fun H locs hw => ?_)
            obtain ⟨I_28, eI_28, hf⟩ := yb_let_ex hf
            have hw := yb_wI eI_28 hw
            refine lv_goto (tgt := 22) hx hb dX10_reads_91 (by decide) ?_
            exact ih  _ _ _ _ _ _ _ _ hf hw (lv_sub hl [0] rfl) hret hfin hexit
          · have hf := yb_neg c_23 hf
            refine lv_aload_n hx hb dX10_reads_65 rfl (lv_at hl 0 rfl) ?_
            refine x_getR X hK hw (cw_mem hC 61 (by decide)) (cw_S hC 61 rfl) cpX10 0 (by decide) rfl (cw_R hC 61 0 (by decide) rfl) tw_522 dX10_reads_66 ?_
            refine lv_iconst (v := (0 : Int32)) hx hb dX10_reads_69 (by decide) ?_
            obtain ⟨r_29, I_30, J_31, hq_32, hf⟩ := yb_b3_some hf
            refine x_calli X hK hw (c3_fail l D cz ev hC hq_32) (cw_mem hC 2 (by decide)) (cw_S hC 2 rfl) cpX3.1 vw_X10_45 ⟨Nat.le_of_ble_eq_true rfl, Nat.le_of_ble_eq_true rfl⟩ rfl rfl (Nat.le_of_ble_eq_true rfl) hl.1 ⟨Nat.le_refl _, Nat.le_refl _⟩ dX10_reads_70 (fun H locs hw => ?_)
            obtain ⟨hz_33, hf⟩ := yb_ck_some hf
            exact yb_retz hfin hz_33 (yb_inl hret hf) hw dX10_reads_73
        · have hf := yb_pos c_18 hf
          refine lv_iconst (v := (1 : Int32)) hx hb dX10_reads_51 (by decide) ?_
          exact yb_retz hfin (by decide) (yb_inl hret hf) hw dX10_reads_52
      · have hf := yb_pos c_13 hf
        refine lv_iconst (v := (0 : Int32)) hx hb dX10_reads_38 (by decide) ?_
        exact yb_retz hfin (by decide) (yb_inl hret hf) hw dX10_reads_39
set_option maxHeartbeats 4000000 in
set_option maxRecDepth 100000 in
theorem c10_reads (l : Launch) (D : va_G) (cz : Nat → ClassId) (ev : Nat × Nat × Nat) {b : Nat} {L : List Nat} {S : ST} {Rf : RT} (hC : CW b L S Rf) {N : Nat} {I : IT} {J : JT} {r : Int32} {I1 : IT} {J1 : JT} (hf : f10_reads N b S Rf I J = some (r, I1, J1)) : MTi l D cz ev yX10_reads cX10_reads 1 (some .boolean) 6 131 [.ref (b + 61)] L S Rf I J r I1 J1 := by
  unfold f10_reads at hf
  refine MTz_of (by decide) (Nat.le_of_ble_eq_true rfl) ?_
  intro p e s m args below meth c Q ls X hK hw hl hfin
  have X : CallFix p m c cX10_reads 1 s args gw RX10 := X
  have hx := X.1
  have hb := X.2.1
  have hl : lv_has ls 1 [(0, .ref (b + 61))] := hl
  refine lv_aload_n hx hb dX10_reads_0 rfl (lv_at hl 0 rfl) ?_
  refine x_getR X hK hw (cw_mem hC 61 (by decide)) (cw_S hC 61 rfl) cpX10 1 (by decide) rfl (cw_R hC 61 1 (by decide) rfl) tw_523 dX10_reads_1 ?_
  obtain ⟨r_1, I_2, J_3, hq_4, hf⟩ := yb_b3_some hf
  refine x_callv X hK hw (c9_clear l D cz ev hC (cw_draft hC) hq_4) (cw_draft hC).1.1 (cw_draft hC).1.2 cpX9.1 vw_X10_19 ⟨Nat.le_of_ble_eq_true rfl, Nat.le_of_ble_eq_true rfl⟩ rfl rfl (Nat.le_of_ble_eq_true rfl) hl.1 ⟨Nat.le_refl _, Nat.le_refl _⟩ dX10_reads_4 (fun H locs hw => ?_)
  refine lv_aload_n hx hb dX10_reads_7 rfl (lv_at hl 0 rfl) ?_
  refine lv_iconst (v := (0 : Int32)) hx hb dX10_reads_8 (by decide) ?_
  refine x_putI X hK hw (cw_mem hC 61 (by decide)) (cw_S hC 61 rfl) cpX10 3 (by decide) rfl rfl rfl tw_525 dX10_reads_9 (fun H locs hw => ?_)
  obtain ⟨I_5, eI_5, hf⟩ := yb_let_ex hf
  have hw := yb_wI eI_5 hw
  refine lv_aload_n hx hb dX10_reads_12 rfl (lv_at hl 0 rfl) ?_
  refine lv_iconst (v := (0 : Int32)) hx hb dX10_reads_13 (by decide) ?_
  refine x_putZ X hK hw (cw_mem hC 61 (by decide)) (cw_S hC 61 rfl) cpX10 4 (by decide) (by decide) rfl rfl rfl tw_526 dX10_reads_14 (fun H locs hw => ?_)
  obtain ⟨I_6, eI_6, hf⟩ := yb_let_ex hf
  have hw := yb_wI eI_6 hw
  refine lv_aload_n hx hb dX10_reads_17 rfl (lv_at hl 0 rfl) ?_
  refine lv_iconst (v := (0 : Int32)) hx hb dX10_reads_18 (by decide) ?_
  refine x_putI X hK hw (cw_mem hC 61 (by decide)) (cw_S hC 61 rfl) cpX10 2 (by decide) rfl rfl rfl tw_524 dX10_reads_19 (fun H locs hw => ?_)
  obtain ⟨I_7, eI_7, hf⟩ := yb_let_ex hf
  have hw := yb_wI eI_7 hw
  obtain ⟨q_34, I_35, J_36, hq_37, hf⟩ := yb_b3_some hf
  refine w10_reads_L22 hC X hK _  _ _ _ _ _ _ _ _ hq_37 hw (lv_sub hl [0] rfl) (fun v hv => by rw [hv] at hf; exact hf) hfin (fun x_39 hx1 H locs ls hw hl => ?_)
  rw [hx1] at hf
  have hf := yb_sm_r hf
  refine lv_iconst (v := (0 : Int32)) hx hb dX10_reads_94 (by decide) ?_
  exact yb_retz hfin (by decide) hf hw dX10_reads_95
set_option maxHeartbeats 4000000 in
set_option maxRecDepth 100000 in
theorem w11_putBytes_L3 {p : Program} {l : Launch} {e : Env} {s : State} {m : MethodId} {args : Array Value} {below : List Frame} {meth : Method} {c : Code} {Q : State → Prop} {D : va_G} {cz : Nat → ClassId} {A : Nat → Prop} {ev : Nat × Nat × Nat} {b : Nat} {L : List Nat} {S : ST} {Rf : RT} (hC : CW b L S Rf) (X : CallFix p m c cX11_putBytes 3 s args gw RX11) (hK : KX D cz ev A s) {N : Nat} {x1 : Int32} :
    ∀ (n : Nat) (x2 : Int32) (I : IT) (J : JT) (q : (Unit)) (I1 : IT) (J1 : JT) (H : Heap) (locs : List Loc) (ls : Array Slot), f11_putBytes_L3 N b S Rf x1 n x2 I J = some (q, I1, J1) → WX D cz A L S Rf s.heap I J H locs → lv_has ls 3 [(0, .ref b), (1, .int x1), (2, .int x2)] →
    (∀ (H : Heap) (locs : List Loc) (ls : Array Slot), WX D cz A L S Rf s.heap I1 J1 H locs → lv_has ls 3 [] → W p l e (rmX 0 0) s m args below meth c H locs 0 0 Q (F0 m 49 ls [])) →
    W p l e (rmX 0 0) s m args below meth c H locs 0 0 Q (F0 m 3 ls []) := by
  have hx := X.1
  have hb := X.2.1
  intro n
  induction n with
  | zero =>
    intro x2 I J q I1 J1 H locs ls hf
    rw [f11_putBytes_L3] at hf
    cases hf
  | succ n ih =>
    intro x2 I J q I1 J1 H locs ls hf hw hl hexit
    rw [f11_putBytes_L3] at hf
    refine lv_iload_n hx hb dX11_putBytes_3 rfl (lv_at hl 2 rfl) ?_
    refine lv_if_lt (tgt := 49) hx hb dX11_putBytes_4 (by decide) (fun c_1 => ?_) (fun c_1 => ?_)
    · have hf := yb_pos c_1 hf
      obtain ⟨rfl, rfl, rfl⟩ := yb_inj hf
      exact hexit _ _ _ hw (lv_sub hl [] rfl)
    · have hf := yb_neg c_1 hf
      refine lv_aload_n hx hb dX11_putBytes_7 rfl (lv_at hl 0 rfl) ?_
      refine x_getI X hK hw (cw_mem0 hC) (cw_S0 hC) cpX11 14 (by decide) rfl tw_573 dX11_putBytes_8 ?_
      refine lv_sipush (v := (400 : Int32)) hx hb dX11_putBytes_11 (by decide) ?_
      refine lv_icmp_ge (tgt := 49) hx hb dX11_putBytes_14 (by decide) (fun c_2 => ?_) (fun c_2 => ?_)
      · have hf := yb_pos c_2 hf
        obtain ⟨rfl, rfl, rfl⟩ := yb_inj hf
        exact hexit _ _ _ hw (lv_sub hl [] rfl)
      · have hf := yb_neg c_2 hf
        refine lv_aload_n hx hb dX11_putBytes_17 rfl (lv_at hl 0 rfl) ?_
        refine x_getR X hK hw (cw_mem0 hC) (cw_S0 hC) cpX11 0 (by decide) rfl (cw_R hC 0 0 (by decide) rfl) tw_559 dX11_putBytes_18 ?_
        refine lv_aload_n hx hb dX11_putBytes_21 rfl (lv_at hl 0 rfl) ?_
        refine x_getI X hK hw (cw_mem0 hC) (cw_S0 hC) cpX11 14 (by decide) rfl tw_573 dX11_putBytes_22 ?_
        refine lv_iload_n hx hb dX11_putBytes_25 rfl (lv_at hl 1 rfl) ?_
        refine lv_iload_n hx hb dX11_putBytes_26 rfl (lv_at hl 2 rfl) ?_
        refine lv_iushr hx hb dX11_putBytes_27 rfl ?_
        refine lv_sipush (v := (255 : Int32)) hx hb dX11_putBytes_28 (by decide) ?_
        refine lv_iand hx hb dX11_putBytes_31 ?_
        obtain ⟨hi_3, hf⟩ := yb_ck_some hf
        refine x_iast X hK hw (cw_mem hC 1 (by decide)) (cw_S hC 1 rfl) hi_3 rfl dX11_putBytes_32 (fun H locs hw => ?_)
        obtain ⟨I_4, eI_4, hf⟩ := yb_let_ex hf
        have hw := yb_wI eI_4 hw
        refine lv_aload_n hx hb dX11_putBytes_33 rfl (lv_at hl 0 rfl) ?_
        refine lv_dup hx hb dX11_putBytes_34 rfl ?_
        refine x_getI X hK hw (cw_mem0 hC) (cw_S0 hC) cpX11 14 (by decide) rfl tw_573 dX11_putBytes_35 ?_
        refine lv_iconst (v := (1 : Int32)) hx hb dX11_putBytes_38 (by decide) ?_
        refine lv_iadd hx hb dX11_putBytes_39 ?_
        refine x_putI X hK hw (cw_mem0 hC) (cw_S0 hC) cpX11 14 (by decide) rfl rfl rfl tw_573 dX11_putBytes_40 (fun H locs hw => ?_)
        obtain ⟨I_5, eI_5, hf⟩ := yb_let_ex hf
        have hw := yb_wI eI_5 hw
        obtain ⟨x2_6, ex2_6, hf⟩ := yb_let_ex hf
        refine lv_iinc (v := x2_6) (lv' := [(2, .int x2_6), (0, .ref b), (1, .int x1)]) hx hb dX11_putBytes_43 hl (k := 2) rfl (by rw [ex2_6]; rfl) (by decide) rfl (fun ls hl => ?_)
        refine lv_goto (tgt := 3) hx hb dX11_putBytes_46 (by decide) ?_
        exact ih _ _ _ _ _ _ _ _ _ hf hw (lv_sub hl [1, 2, 0] rfl) hexit
set_option maxHeartbeats 4000000 in
set_option maxRecDepth 100000 in
theorem c11_putBytes (l : Launch) (D : va_G) (cz : Nat → ClassId) (ev : Nat × Nat × Nat) {b : Nat} {L : List Nat} {S : ST} {Rf : RT} (hC : CW b L S Rf) {N : Nat} {x1 : Int32} {I : IT} {J : JT} {r : Unit} {I1 : IT} {J1 : JT} (hf : f11_putBytes N b S Rf x1 I J = some (r, I1, J1)) : MTv l D cz ev yX11_putBytes cX11_putBytes 3 (none) 0 0 [.ref b, .int x1] L S Rf I J r I1 J1 := by
  unfold f11_putBytes at hf
  refine MTv_of (by decide) (Nat.le_of_ble_eq_true rfl) ?_
  intro p e s m args below meth c Q ls X hK hw hl hfin
  have X : CallFix p m c cX11_putBytes 3 s args gw RX11 := X
  have hx := X.1
  have hb := X.2.1
  have hl : lv_has ls 3 [(0, .ref b), (1, .int x1)] := hl
  refine lv_bipush (v := (24 : Int32)) hx hb dX11_putBytes_0 (by decide) ?_
  refine lv_istore_n (lv' := [(2, .int (24 : Int32)), (0, .ref b), (1, .int x1)]) hx hb dX11_putBytes_2 rfl hl (by decide) rfl (fun ls hl => ?_)
  obtain ⟨q_7, I_8, J_9, hq_10, hf⟩ := yb_b3_some hf
  refine w11_putBytes_L3 hC X hK _ _ _ _ _ _ _ _ _ _ hq_10 hw (lv_sub hl [1, 2, 0] rfl) (fun H locs ls hw hl => ?_)
  exact yb_retv hfin hf hw dX11_putBytes_49
set_option maxHeartbeats 4000000 in
set_option maxRecDepth 100000 in
theorem c11_feed (l : Launch) (D : va_G) (cz : Nat → ClassId) (ev : Nat × Nat × Nat) {b : Nat} {L : List Nat} {S : ST} {Rf : RT} (hC : CW b L S Rf) {N : Nat} {x1 : Int32} {x2 : Int32} {x3 : Int32} {x4 : Int32} {x5 : Int32} {I : IT} {J : JT} {r : Int32} {I1 : IT} {J1 : JT} (hf : f11_feed N b S Rf x1 x2 x3 x4 x5 I J = some (r, I1, J1)) : MTi l D cz ev yX11_feed cX11_feed 6 (some .int) 1 22 [.ref b, .int x1, .int x2, .int x3, .int x4, .int x5] L S Rf I J r I1 J1 := by
  unfold f11_feed at hf
  refine MTi_of (by decide) (Nat.le_of_ble_eq_true rfl) ?_
  intro p e s m args below meth c Q ls X hK hw hl hfin
  have X : CallFix p m c cX11_feed 6 s args gw RX11 := X
  have hx := X.1
  have hb := X.2.1
  have hl : lv_has ls 6 [(0, .ref b), (1, .int x1), (2, .int x2), (3, .int x3), (4, .int x4), (5, .int x5)] := hl
  refine lv_aload_n hx hb dX11_feed_0 rfl (lv_at hl 0 rfl) ?_
  refine x_getI X hK hw (cw_mem0 hC) (cw_S0 hC) cpX11 14 (by decide) rfl tw_573 dX11_feed_1 ?_
  refine lv_bipush (v := (20 : Int32)) hx hb dX11_feed_4 (by decide) ?_
  refine lv_iadd hx hb dX11_feed_6 ?_
  refine lv_sipush (v := (400 : Int32)) hx hb dX11_feed_7 (by decide) ?_
  refine lv_icmp_le (tgt := 15) hx hb dX11_feed_10 (by decide) (fun c_1 => ?_) (fun c_1 => ?_)
  · have hf := yb_pos c_1 hf
    refine lv_aload_n hx hb dX11_feed_15 rfl (lv_at hl 0 rfl) ?_
    refine lv_iload_n hx hb dX11_feed_16 rfl (lv_at hl 1 rfl) ?_
    obtain ⟨r_2, I_3, J_4, hq_5, hf⟩ := yb_b3_some hf
    refine x_callv X hK hw (c11_putBytes l D cz ev hC hq_5) (cw_mem0 hC) (cw_S0 hC) cpX11.1 vw_X11_113 ⟨Nat.le_of_ble_eq_true rfl, Nat.le_of_ble_eq_true rfl⟩ rfl rfl (Nat.le_of_ble_eq_true rfl) hl.1 ⟨Nat.le_refl _, Nat.le_refl _⟩ dX11_feed_17 (fun H locs hw => ?_)
    refine lv_aload_n hx hb dX11_feed_20 rfl (lv_at hl 0 rfl) ?_
    refine lv_iload_n hx hb dX11_feed_21 rfl (lv_at hl 2 rfl) ?_
    obtain ⟨r_6, I_7, J_8, hq_9, hf⟩ := yb_b3_some hf
    refine x_callv X hK hw (c11_putBytes l D cz ev hC hq_9) (cw_mem0 hC) (cw_S0 hC) cpX11.1 vw_X11_113 ⟨Nat.le_of_ble_eq_true rfl, Nat.le_of_ble_eq_true rfl⟩ rfl rfl (Nat.le_of_ble_eq_true rfl) hl.1 ⟨Nat.le_refl _, Nat.le_refl _⟩ dX11_feed_22 (fun H locs hw => ?_)
    refine lv_aload_n hx hb dX11_feed_25 rfl (lv_at hl 0 rfl) ?_
    refine lv_iload_n hx hb dX11_feed_26 rfl (lv_at hl 3 rfl) ?_
    obtain ⟨r_10, I_11, J_12, hq_13, hf⟩ := yb_b3_some hf
    refine x_callv X hK hw (c11_putBytes l D cz ev hC hq_13) (cw_mem0 hC) (cw_S0 hC) cpX11.1 vw_X11_113 ⟨Nat.le_of_ble_eq_true rfl, Nat.le_of_ble_eq_true rfl⟩ rfl rfl (Nat.le_of_ble_eq_true rfl) hl.1 ⟨Nat.le_refl _, Nat.le_refl _⟩ dX11_feed_27 (fun H locs hw => ?_)
    refine lv_aload_n hx hb dX11_feed_30 rfl (lv_at hl 0 rfl) ?_
    refine lv_iload hx hb dX11_feed_31 (lv_at hl 4 rfl) ?_
    obtain ⟨r_14, I_15, J_16, hq_17, hf⟩ := yb_b3_some hf
    refine x_callv X hK hw (c11_putBytes l D cz ev hC hq_17) (cw_mem0 hC) (cw_S0 hC) cpX11.1 vw_X11_113 ⟨Nat.le_of_ble_eq_true rfl, Nat.le_of_ble_eq_true rfl⟩ rfl rfl (Nat.le_of_ble_eq_true rfl) hl.1 ⟨Nat.le_refl _, Nat.le_refl _⟩ dX11_feed_33 (fun H locs hw => ?_)
    refine lv_aload_n hx hb dX11_feed_36 rfl (lv_at hl 0 rfl) ?_
    refine lv_iload hx hb dX11_feed_37 (lv_at hl 5 rfl) ?_
    obtain ⟨r_18, I_19, J_20, hq_21, hf⟩ := yb_b3_some hf
    refine x_callv X hK hw (c11_putBytes l D cz ev hC hq_21) (cw_mem0 hC) (cw_S0 hC) cpX11.1 vw_X11_113 ⟨Nat.le_of_ble_eq_true rfl, Nat.le_of_ble_eq_true rfl⟩ rfl rfl (Nat.le_of_ble_eq_true rfl) hl.1 ⟨Nat.le_refl _, Nat.le_refl _⟩ dX11_feed_39 (fun H locs hw => ?_)
    refine lv_aload_n hx hb dX11_feed_42 rfl (lv_at hl 0 rfl) ?_
    refine x_getI X hK hw (cw_mem0 hC) (cw_S0 hC) cpX11 14 (by decide) rfl tw_573 dX11_feed_43 ?_
    exact yb_reti hfin hf hw dX11_feed_46
  · have hf := yb_neg c_1 hf
    refine lv_iconst (v := (-1 : Int32)) hx hb dX11_feed_13 (by decide) ?_
    exact yb_reti hfin hf hw dX11_feed_14
set_option maxHeartbeats 4000000 in
set_option maxRecDepth 100000 in
theorem c11_end (l : Launch) (D : va_G) (cz : Nat → ClassId) (ev : Nat × Nat × Nat) {b : Nat} {L : List Nat} {S : ST} {Rf : RT} (hC : CW b L S Rf) {x1 : Int32} {I : IT} {J : JT} {r : Int32} {I1 : IT} {J1 : JT} (hf : f11_end b S Rf x1 I J = some (r, I1, J1)) : MTi l D cz ev yX11_end cX11_end 2 (some .int) 0 0 [.ref b, .int x1] L S Rf I J r I1 J1 := by
  unfold f11_end at hf
  refine MTi_of (by decide) (Nat.le_of_ble_eq_true rfl) ?_
  intro p e s m args below meth c Q ls X hK hw hl hfin
  have X : CallFix p m c cX11_end 2 s args gw RX11 := X
  have hx := X.1
  have hb := X.2.1
  have hl : lv_has ls 2 [(0, .ref b), (1, .int x1)] := hl
  refine lv_iload_n hx hb dX11_end_0 rfl (lv_at hl 1 rfl) ?_
  refine lv_if_lt (tgt := 12) hx hb dX11_end_1 (by decide) (fun c_1 => ?_) (fun c_1 => ?_)
  · have hf := yb_pos c_1 hf
    refine lv_iconst (v := (-1 : Int32)) hx hb dX11_end_12 (by decide) ?_
    exact yb_reti hfin hf hw dX11_end_13
  · have hf := yb_neg c_1 hf
    refine lv_iload_n hx hb dX11_end_4 rfl (lv_at hl 1 rfl) ?_
    refine lv_aload_n hx hb dX11_end_5 rfl (lv_at hl 0 rfl) ?_
    refine x_getI X hK hw (cw_mem0 hC) (cw_S0 hC) cpX11 14 (by decide) rfl tw_573 dX11_end_6 ?_
    refine lv_icmp_le (tgt := 14) hx hb dX11_end_9 (by decide) (fun c_2 => ?_) (fun c_2 => ?_)
    · have hf := yb_pos c_2 hf
      refine lv_aload_n hx hb dX11_end_14 rfl (lv_at hl 0 rfl) ?_
      refine lv_iload_n hx hb dX11_end_15 rfl (lv_at hl 1 rfl) ?_
      refine x_putI X hK hw (cw_mem0 hC) (cw_S0 hC) cpX11 14 (by decide) rfl rfl rfl tw_573 dX11_end_16 (fun H locs hw => ?_)
      obtain ⟨I_3, eI_3, hf⟩ := yb_let_ex hf
      have hw := yb_wI eI_3 hw
      refine lv_iload_n hx hb dX11_end_19 rfl (lv_at hl 1 rfl) ?_
      exact yb_reti hfin hf hw dX11_end_20
    · have hf := yb_neg c_2 hf
      refine lv_iconst (v := (-1 : Int32)) hx hb dX11_end_12 (by decide) ?_
      exact yb_reti hfin hf hw dX11_end_13
set_option maxHeartbeats 4000000 in
set_option maxRecDepth 100000 in
theorem c11_openTape (l : Launch) (D : va_G) (cz : Nat → ClassId) (ev : Nat × Nat × Nat) {b : Nat} {L : List Nat} {S : ST} {Rf : RT} (hC : CW b L S Rf) {N : Nat} {I : IT} {J : JT} {r : Unit} {I1 : IT} {J1 : JT} (hf : f11_openTape N b S Rf I J = some (r, I1, J1)) : MTv l D cz ev yX11_openTape cX11_openTape 1 (none) 2 61 [.ref b] L S Rf I J r I1 J1 := by
  unfold f11_openTape at hf
  refine MTv_of (by decide) (Nat.le_of_ble_eq_true rfl) ?_
  intro p e s m args below meth c Q ls X hK hw hl hfin
  have X : CallFix p m c cX11_openTape 1 s args gw RX11 := X
  have hx := X.1
  have hb := X.2.1
  have hl : lv_has ls 1 [(0, .ref b)] := hl
  refine lv_aload_n hx hb dX11_openTape_0 rfl (lv_at hl 0 rfl) ?_
  refine x_getR X hK hw (cw_mem0 hC) (cw_S0 hC) cpX11 1 (by decide) rfl (cw_R hC 0 1 (by decide) rfl) tw_560 dX11_openTape_1 ?_
  refine lv_aload_n hx hb dX11_openTape_4 rfl (lv_at hl 0 rfl) ?_
  refine x_getI X hK hw (cw_mem0 hC) (cw_S0 hC) cpX11 14 (by decide) rfl tw_573 dX11_openTape_5 ?_
  obtain ⟨r_1, I_2, J_3, hq_4, hf⟩ := yb_b3_some hf
  refine x_callv X hK hw (c3_open l D cz ev hC hq_4) (cw_mem hC 2 (by decide)) (cw_S hC 2 rfl) cpX3.1 vw_X11_140 ⟨Nat.le_of_ble_eq_true rfl, Nat.le_of_ble_eq_true rfl⟩ rfl rfl (Nat.le_of_ble_eq_true rfl) hl.1 ⟨Nat.le_refl _, Nat.le_refl _⟩ dX11_openTape_8 (fun H locs hw => ?_)
  refine lv_aload_n hx hb dX11_openTape_11 rfl (lv_at hl 0 rfl) ?_
  refine lv_iconst (v := (0 : Int32)) hx hb dX11_openTape_12 (by decide) ?_
  refine x_putI X hK hw (cw_mem0 hC) (cw_S0 hC) cpX11 14 (by decide) rfl rfl rfl tw_573 dX11_openTape_13 (fun H locs hw => ?_)
  obtain ⟨I_5, eI_5, hf⟩ := yb_let_ex hf
  have hw := yb_wI eI_5 hw
  exact yb_retv hfin hf hw dX11_openTape_16
set_option maxHeartbeats 4000000 in
set_option maxRecDepth 100000 in
theorem c11_town (l : Launch) (D : va_G) (cz : Nat → ClassId) (ev : Nat × Nat × Nat) {b : Nat} {L : List Nat} {S : ST} {Rf : RT} (hC : CW b L S Rf) {N : Nat} {I : IT} {J : JT} {r : Int32} {I1 : IT} {J1 : JT} (hf : f11_town N b S Rf I J = some (r, I1, J1)) : MTi l D cz ev yX11_town cX11_town 1 (some .int) 7 151 [.ref b] L S Rf I J r I1 J1 := by
  unfold f11_town at hf
  refine MTi_of (by decide) (Nat.le_of_ble_eq_true rfl) ?_
  intro p e s m args below meth c Q ls X hK hw hl hfin
  have X : CallFix p m c cX11_town 1 s args gw RX11 := X
  have hx := X.1
  have hb := X.2.1
  have hl : lv_has ls 1 [(0, .ref b)] := hl
  refine lv_aload_n hx hb dX11_town_0 rfl (lv_at hl 0 rfl) ?_
  obtain ⟨r_1, I_2, J_3, hq_4, hf⟩ := yb_b3_some hf
  refine x_callv X hK hw (c11_openTape l D cz ev hC hq_4) (cw_mem0 hC) (cw_S0 hC) cpX11.1 vw_X11_117 ⟨Nat.le_of_ble_eq_true rfl, Nat.le_of_ble_eq_true rfl⟩ rfl rfl (Nat.le_of_ble_eq_true rfl) hl.1 ⟨Nat.le_refl _, Nat.le_refl _⟩ dX11_town_1 (fun H locs hw => ?_)
  refine lv_aload_n hx hb dX11_town_4 rfl (lv_at hl 0 rfl) ?_
  refine x_getR X hK hw (cw_mem0 hC) (cw_S0 hC) cpX11 10 (by decide) rfl (cw_R hC 0 10 (by decide) rfl) tw_569 dX11_town_5 ?_
  obtain ⟨r_5, I_6, J_7, hq_8, hf⟩ := yb_b3_some hf
  refine x_calli X hK hw (c10_reads l D cz ev hC hq_8) (cw_mem hC 61 (by decide)) (cw_S hC 61 rfl) cpX10.1 vw_X11_120 ⟨Nat.le_of_ble_eq_true rfl, Nat.le_of_ble_eq_true rfl⟩ rfl rfl (Nat.le_of_ble_eq_true rfl) hl.1 ⟨Nat.le_refl _, Nat.le_refl _⟩ dX11_town_8 (fun H locs hw => ?_)
  refine lv_if_ne (tgt := 25) hx hb dX11_town_11 (by decide) (fun c_9 => ?_) (fun c_9 => ?_)
  · have hf := yb_neg c_9 hf
    refine lv_aload_n hx hb dX11_town_25 rfl (lv_at hl 0 rfl) ?_
    refine x_getR X hK hw (cw_mem0 hC) (cw_S0 hC) cpX11 3 (by decide) rfl (cw_R hC 0 3 (by decide) rfl) tw_562 dX11_town_26 ?_
    refine lv_aload_n hx hb dX11_town_29 rfl (lv_at hl 0 rfl) ?_
    refine x_getR X hK hw (cw_mem0 hC) (cw_S0 hC) cpX11 9 (by decide) rfl (cw_R hC 0 9 (by decide) rfl) tw_568 dX11_town_30 ?_
    obtain ⟨r_10, I_11, J_12, hq_13, hf⟩ := yb_b3_some hf
    refine x_callv X hK hw (c8_settle l D cz ev hC (cw_now hC) (cw_draft hC) hq_13) (cw_now hC).1.1 (cw_now hC).1.2 cpX8.1 vw_X11_127 ⟨Nat.le_of_ble_eq_true rfl, Nat.le_of_ble_eq_true rfl⟩ rfl rfl (Nat.le_of_ble_eq_true rfl) hl.1 ⟨Nat.le_refl _, Nat.le_refl _⟩ dX11_town_33 (fun H locs hw => ?_)
    refine lv_aload_n hx hb dX11_town_36 rfl (lv_at hl 0 rfl) ?_
    refine x_getR X hK hw (cw_mem0 hC) (cw_S0 hC) cpX11 5 (by decide) rfl (cw_R hC 0 5 (by decide) rfl) tw_564 dX11_town_37 ?_
    obtain ⟨r_14, I_15, J_16, hq_17, hf⟩ := yb_b3_some hf
    refine x_callv X hK hw (c2_forget l D cz ev hC hq_17) (cw_mem hC 28 (by decide)) (cw_S hC 28 rfl) cpX2.1 vw_X11_131 ⟨Nat.le_of_ble_eq_true rfl, Nat.le_of_ble_eq_true rfl⟩ rfl rfl (Nat.le_of_ble_eq_true rfl) hl.1 ⟨Nat.le_refl _, Nat.le_refl _⟩ dX11_town_40 (fun H locs hw => ?_)
    refine lv_aload_n hx hb dX11_town_43 rfl (lv_at hl 0 rfl) ?_
    refine x_getR X hK hw (cw_mem0 hC) (cw_S0 hC) cpX11 3 (by decide) rfl (cw_R hC 0 3 (by decide) rfl) tw_562 dX11_town_44 ?_
    refine x_getR X hK hw (cw_now hC).1.1 (cw_now hC).1.2 cpX8 0 (by decide) rfl (cw_now hC).2.1.1 tw_346 dX11_town_47 ?_
    refine x_getI X hK hw (st_town (cw_now hC)).1.1 (st_town (cw_now hC)).1.2 cpX9 13 (by decide) rfl tw_243 dX11_town_50 ?_
    exact yb_reti hfin hf hw dX11_town_53
  · have hf := yb_pos c_9 hf
    refine lv_bipush (v := (-2 : Int32)) hx hb dX11_town_14 (by decide) ?_
    refine lv_aload_n hx hb dX11_town_16 rfl (lv_at hl 0 rfl) ?_
    refine x_getR X hK hw (cw_mem0 hC) (cw_S0 hC) cpX11 1 (by decide) rfl (cw_R hC 0 1 (by decide) rfl) tw_560 dX11_town_17 ?_
    refine x_getI X hK hw (cw_mem hC 2 (by decide)) (cw_S hC 2 rfl) cpX3 4 (by decide) rfl tw_163 dX11_town_20 ?_
    refine lv_isub hx hb dX11_town_23 ?_
    exact yb_reti hfin hf hw dX11_town_24
set_option maxHeartbeats 4000000 in
set_option maxRecDepth 100000 in
theorem c11_force (l : Launch) (D : va_G) (cz : Nat → ClassId) (ev : Nat × Nat × Nat) {b : Nat} {L : List Nat} {S : ST} {Rf : RT} (hC : CW b L S Rf) {x1 : Int32} {I : IT} {J : JT} {r : Int32} {I1 : IT} {J1 : JT} (hf : f11_force b S Rf x1 I J = some (r, I1, J1)) : MTi l D cz ev yX11_force cX11_force 3 (some .int) 0 0 [.ref b, .int x1] L S Rf I J r I1 J1 := by
  unfold f11_force at hf
  refine MTi_of (by decide) (Nat.le_of_ble_eq_true rfl) ?_
  intro p e s m args below meth c Q ls X hK hw hl hfin
  have X : CallFix p m c cX11_force 3 s args gw RX11 := X
  have hx := X.1
  have hb := X.2.1
  have hl : lv_has ls 3 [(0, .ref b), (1, .int x1)] := hl
  refine lv_iload_n hx hb dX11_force_0 rfl (lv_at hl 1 rfl) ?_
  refine lv_iconst (v := (-1 : Int32)) hx hb dX11_force_1 (by decide) ?_
  refine lv_icmp_lt (tgt := 13) hx hb dX11_force_2 (by decide) (fun c_1 => ?_) (fun c_1 => ?_)
  · have hf := yb_pos c_1 hf
    refine lv_bipush (v := (-2 : Int32)) hx hb dX11_force_13 (by decide) ?_
    exact yb_reti hfin hf hw dX11_force_15
  · have hf := yb_neg c_1 hf
    refine lv_iload_n hx hb dX11_force_5 rfl (lv_at hl 1 rfl) ?_
    refine lv_aload_n hx hb dX11_force_6 rfl (lv_at hl 0 rfl) ?_
    refine x_getI X hK hw (cw_mem0 hC) (cw_S0 hC) cpX11 15 (by decide) rfl tw_574 dX11_force_7 ?_
    refine lv_icmp_lt (tgt := 16) hx hb dX11_force_10 (by decide) (fun c_2 => ?_) (fun c_2 => ?_)
    · have hf := yb_pos c_2 hf
      refine lv_aload_n hx hb dX11_force_16 rfl (lv_at hl 0 rfl) ?_
      refine x_getR X hK hw (cw_mem0 hC) (cw_S0 hC) cpX11 3 (by decide) rfl (cw_R hC 0 3 (by decide) rfl) tw_562 dX11_force_17 ?_
      refine x_getI X hK hw (cw_now hC).1.1 (cw_now hC).1.2 cpX8 6 (by decide) rfl tw_358 dX11_force_20 ?_
      refine lv_topi (fun x2_3 ex2_3 => ?_)
      have hf := yb_let_to ex2_3 hf
      refine lv_istore_n (lv' := [(2, .int x2_3), (0, .ref b), (1, .int x1)]) hx hb dX11_force_23 rfl hl (by decide) rfl (fun ls hl => ?_)
      refine lv_aload_n hx hb dX11_force_24 rfl (lv_at hl 1 rfl) ?_
      refine x_getR X hK hw (cw_mem0 hC) (cw_S0 hC) cpX11 3 (by decide) rfl (cw_R hC 0 3 (by decide) rfl) tw_562 dX11_force_25 ?_
      refine lv_iload_n hx hb dX11_force_28 rfl (lv_at hl 2 rfl) ?_
      refine x_putI X hK hw (cw_now hC).1.1 (cw_now hC).1.2 cpX8 6 (by decide) rfl rfl rfl tw_358 dX11_force_29 (fun H locs hw => ?_)
      obtain ⟨I_4, eI_4, hf⟩ := yb_let_ex hf
      have hw := yb_wI eI_4 hw
      refine lv_iload_n hx hb dX11_force_32 rfl (lv_at hl 0 rfl) ?_
      exact yb_reti hfin hf hw dX11_force_33
    · have hf := yb_neg c_2 hf
      refine lv_bipush (v := (-2 : Int32)) hx hb dX11_force_13 (by decide) ?_
      exact yb_reti hfin hf hw dX11_force_15
set_option maxHeartbeats 4000000 in
set_option maxRecDepth 100000 in
theorem c11_person (l : Launch) (D : va_G) (cz : Nat → ClassId) (ev : Nat × Nat × Nat) {b : Nat} {L : List Nat} {S : ST} {Rf : RT} (hC : CW b L S Rf) {N : Nat} {x1 : Int32} {x2 : Int32} {I : IT} {J : JT} {r : Int32} {I1 : IT} {J1 : JT} (hf : f11_person N b S Rf x1 x2 I J = some (r, I1, J1)) : MTi l D cz ev yX11_person cX11_person 6 (some .int) 1 22 [.ref b, .int x1, .int x2] L S Rf I J r I1 J1 := by
  unfold f11_person at hf
  refine MTi_of (by decide) (Nat.le_of_ble_eq_true rfl) ?_
  intro p e s m args below meth c Q ls X hK hw hl hfin
  have X : CallFix p m c cX11_person 6 s args gw RX11 := X
  have hx := X.1
  have hb := X.2.1
  have hl : lv_has ls 6 [(0, .ref b), (1, .int x1), (2, .int x2)] := hl
  refine lv_aload_n hx hb dX11_person_0 rfl (lv_at hl 0 rfl) ?_
  refine x_getR X hK hw (cw_mem0 hC) (cw_S0 hC) cpX11 3 (by decide) rfl (cw_R hC 0 3 (by decide) rfl) tw_562 dX11_person_1 ?_
  refine x_getR X hK hw (cw_now hC).1.1 (cw_now hC).1.2 cpX8 0 (by decide) rfl (cw_now hC).2.1.1 tw_346 dX11_person_4 ?_
  refine lv_iload_n hx hb dX11_person_7 rfl (lv_at hl 1 rfl) ?_
  obtain ⟨r_1, I_2, J_3, hq_4, hf⟩ := yb_b3_some hf
  refine x_calli X hK hw (c9_hasPerson l D cz ev hC (st_town (cw_now hC)) hq_4) (st_town (cw_now hC)).1.1 (st_town (cw_now hC)).1.2 cpX9.1 vw_X11_151 ⟨Nat.le_of_ble_eq_true rfl, Nat.le_of_ble_eq_true rfl⟩ rfl rfl (Nat.le_of_ble_eq_true rfl) hl.1 ⟨Nat.le_refl _, Nat.le_refl _⟩ dX11_person_8 (fun H locs hw => ?_)
  refine lv_if_ne (tgt := 16) hx hb dX11_person_11 (by decide) (fun c_5 => ?_) (fun c_5 => ?_)
  · have hf := yb_neg c_5 hf
    refine lv_aload_n hx hb dX11_person_16 rfl (lv_at hl 0 rfl) ?_
    refine x_getR X hK hw (cw_mem0 hC) (cw_S0 hC) cpX11 3 (by decide) rfl (cw_R hC 0 3 (by decide) rfl) tw_562 dX11_person_17 ?_
    refine x_getR X hK hw (cw_now hC).1.1 (cw_now hC).1.2 cpX8 0 (by decide) rfl (cw_now hC).2.1.1 tw_346 dX11_person_20 ?_
    refine lv_astore_n (lv' := [(3, .ref (b + 5)), (0, .ref b), (1, .int x1), (2, .int x2)]) hx hb dX11_person_23 rfl hl (by decide) rfl (fun ls hl => ?_)
    refine lv_aload_n hx hb dX11_person_24 rfl (lv_at hl 1 rfl) ?_
    refine x_getR X hK hw (cw_mem0 hC) (cw_S0 hC) cpX11 3 (by decide) rfl (cw_R hC 0 3 (by decide) rfl) tw_562 dX11_person_25 ?_
    refine x_getR X hK hw (cw_now hC).1.1 (cw_now hC).1.2 cpX8 1 (by decide) rfl (cw_now hC).2.2.1.1 tw_351 dX11_person_28 ?_
    refine lv_astore (lv' := [(4, .ref (b + 14)), (3, .ref (b + 5)), (0, .ref b), (1, .int x1), (2, .int x2)]) hx hb dX11_person_31 hl (by decide) rfl (fun ls hl => ?_)
    refine lv_aload_n hx hb dX11_person_33 rfl (lv_at hl 1 rfl) ?_
    refine x_getR X hK hw (st_town (cw_now hC)).1.1 (st_town (cw_now hC)).1.2 cpX9 0 (by decide) rfl (ta_R (st_town (cw_now hC)) 0 (by decide)) tw_195 dX11_person_34 ?_
    refine lv_iload_n hx hb dX11_person_37 rfl (lv_at hl 3 rfl) ?_
    obtain ⟨hi_6, hf⟩ := yb_ck_some hf
    refine x_iald X hK hw (ta_mem (st_town (cw_now hC)) 0 (by decide)) (ta_S (st_town (cw_now hC)) 0 rfl) hi_6 rfl dX11_person_38 ?_
    refine lv_aload hx hb dX11_person_39 (lv_at hl 0 rfl) ?_
    refine x_getI X hK hw (st_course (cw_now hC)).1.1 (st_course (cw_now hC)).1.2 cpX0 9 (by decide) rfl tw_320 dX11_person_41 ?_
    refine lv_iadd hx hb dX11_person_44 ?_
    refine lv_topi (fun x5_7 ex5_7 => ?_)
    have hf := yb_let_to ex5_7 hf
    refine lv_istore (lv' := [(5, .int x5_7), (4, .ref (b + 14)), (3, .ref (b + 5)), (0, .ref b), (1, .int x1), (2, .int x2)]) hx hb dX11_person_45 hl (by decide) rfl (fun ls hl => ?_)
    refine lv_iload_n hx hb dX11_person_47 rfl (lv_at hl 5 rfl) ?_
    by_cases c_8 : x2 = (0 : Int32)
    · have hf := yb_pos c_8 hf
      refine lv_tableIn (off := 48) (tgt := 96) hx hb dX11_person_48 (by rw [c_8]; decide) (by rw [c_8]; decide) (by rw [c_8]; rfl) (by decide) ?_
      refine lv_iload hx hb dX11_person_96 (lv_at hl 0 rfl) ?_
      exact yb_reti hfin hf hw dX11_person_98
    have hf := yb_neg c_8 hf
    by_cases c_9 : x2 = (1 : Int32)
    · have hf := yb_pos c_9 hf
      refine lv_tableIn (off := 51) (tgt := 99) hx hb dX11_person_48 (by rw [c_9]; decide) (by rw [c_9]; decide) (by rw [c_9]; rfl) (by decide) ?_
      refine lv_aload hx hb dX11_person_99 (lv_at hl 1 rfl) ?_
      refine x_getR X hK hw (st_course (cw_now hC)).1.1 (st_course (cw_now hC)).1.2 cpX0 0 (by decide) rfl (ca_R (st_course (cw_now hC)) 0 (by decide)) tw_290 dX11_person_101 ?_
      refine lv_iload_n hx hb dX11_person_104 rfl (lv_at hl 4 rfl) ?_
      refine x_iald X hK hw (ca_mem (st_course (cw_now hC)) 0 (by decide)) (ca_S (st_course (cw_now hC)) 0 rfl) hi_6 rfl dX11_person_105 ?_
      exact yb_reti hfin hf hw dX11_person_106
    have hf := yb_neg c_9 hf
    by_cases c_10 : x2 = (2 : Int32)
    · have hf := yb_pos c_10 hf
      refine lv_tableIn (off := 59) (tgt := 107) hx hb dX11_person_48 (by rw [c_10]; decide) (by rw [c_10]; decide) (by rw [c_10]; rfl) (by decide) ?_
      refine lv_aload_n hx hb dX11_person_107 rfl (lv_at hl 2 rfl) ?_
      refine x_getR X hK hw (st_town (cw_now hC)).1.1 (st_town (cw_now hC)).1.2 cpX9 2 (by decide) rfl (ta_R (st_town (cw_now hC)) 2 (by decide)) tw_202 dX11_person_108 ?_
      refine lv_iload_n hx hb dX11_person_111 rfl (lv_at hl 4 rfl) ?_
      refine x_iald X hK hw (ta_mem (st_town (cw_now hC)) 2 (by decide)) (ta_S (st_town (cw_now hC)) 2 rfl) hi_6 rfl dX11_person_112 ?_
      exact yb_reti hfin hf hw dX11_person_113
    have hf := yb_neg c_10 hf
    by_cases c_11 : x2 = (3 : Int32)
    · have hf := yb_pos c_11 hf
      refine lv_tableIn (off := 66) (tgt := 114) hx hb dX11_person_48 (by rw [c_11]; decide) (by rw [c_11]; decide) (by rw [c_11]; rfl) (by decide) ?_
      refine lv_aload_n hx hb dX11_person_114 rfl (lv_at hl 2 rfl) ?_
      refine x_getR X hK hw (st_town (cw_now hC)).1.1 (st_town (cw_now hC)).1.2 cpX9 3 (by decide) rfl (ta_R (st_town (cw_now hC)) 3 (by decide)) tw_205 dX11_person_115 ?_
      refine lv_iload_n hx hb dX11_person_118 rfl (lv_at hl 4 rfl) ?_
      refine x_iald X hK hw (ta_mem (st_town (cw_now hC)) 3 (by decide)) (ta_S (st_town (cw_now hC)) 3 rfl) hi_6 rfl dX11_person_119 ?_
      exact yb_reti hfin hf hw dX11_person_120
    have hf := yb_neg c_11 hf
    by_cases c_12 : x2 = (4 : Int32)
    · have hf := yb_pos c_12 hf
      refine lv_tableIn (off := 73) (tgt := 121) hx hb dX11_person_48 (by rw [c_12]; decide) (by rw [c_12]; decide) (by rw [c_12]; rfl) (by decide) ?_
      refine lv_aload_n hx hb dX11_person_121 rfl (lv_at hl 2 rfl) ?_
      refine lv_iload hx hb dX11_person_122 (lv_at hl 0 rfl) ?_
      obtain ⟨r_13, I_14, J_15, hq_16, hf⟩ := yb_b3_some hf
      refine x_calli X hK hw (c9_tillBirthday l D cz ev hC (st_town (cw_now hC)) hq_16) (st_town (cw_now hC)).1.1 (st_town (cw_now hC)).1.2 cpX9.1 vw_X11_173 ⟨Nat.le_of_ble_eq_true rfl, Nat.le_of_ble_eq_true rfl⟩ rfl rfl (Nat.le_of_ble_eq_true rfl) hl.1 ⟨Nat.le_refl _, Nat.le_refl _⟩ dX11_person_124 (fun H locs hw => ?_)
      exact yb_reti hfin hf hw dX11_person_127
    have hf := yb_neg c_12 hf
    by_cases c_17 : x2 = (5 : Int32)
    · have hf := yb_pos c_17 hf
      refine lv_tableIn (off := 80) (tgt := 128) hx hb dX11_person_48 (by rw [c_17]; decide) (by rw [c_17]; decide) (by rw [c_17]; rfl) (by decide) ?_
      refine lv_aload hx hb dX11_person_128 (lv_at hl 1 rfl) ?_
      refine lv_iload_n hx hb dX11_person_130 rfl (lv_at hl 4 rfl) ?_
      obtain ⟨r_18, I_19, J_20, hq_21, hf⟩ := yb_b3_some hf
      refine x_calli X hK hw (c0_heardBy l D cz ev hC (st_course (cw_now hC)) hq_21) (st_course (cw_now hC)).1.1 (st_course (cw_now hC)).1.2 cpX0.1 vw_X11_177 ⟨Nat.le_of_ble_eq_true rfl, Nat.le_of_ble_eq_true rfl⟩ rfl rfl (Nat.le_of_ble_eq_true rfl) hl.1 ⟨Nat.le_refl _, Nat.le_refl _⟩ dX11_person_131 (fun H locs hw => ?_)
      exact yb_reti hfin hf hw dX11_person_134
    have hf := yb_neg c_17 hf
    by_cases c_22 : x2 = (6 : Int32)
    · have hf := yb_pos c_22 hf
      refine lv_tableIn (off := 87) (tgt := 135) hx hb dX11_person_48 (by rw [c_22]; decide) (by rw [c_22]; decide) (by rw [c_22]; rfl) (by decide) ?_
      refine lv_aload hx hb dX11_person_135 (lv_at hl 1 rfl) ?_
      refine x_getR X hK hw (st_course (cw_now hC)).1.1 (st_course (cw_now hC)).1.2 cpX0 1 (by decide) rfl (ca_R (st_course (cw_now hC)) 1 (by decide)) tw_294 dX11_person_137 ?_
      refine lv_iload_n hx hb dX11_person_140 rfl (lv_at hl 4 rfl) ?_
      refine x_iald X hK hw (ca_mem (st_course (cw_now hC)) 1 (by decide)) (ca_S (st_course (cw_now hC)) 1 rfl) hi_6 rfl dX11_person_141 ?_
      exact yb_reti hfin hf hw dX11_person_142
    have hf := yb_neg c_22 hf
    by_cases c_23 : x2 = (7 : Int32)
    · have hf := yb_pos c_23 hf
      refine lv_tableIn (off := 95) (tgt := 143) hx hb dX11_person_48 (by rw [c_23]; decide) (by rw [c_23]; decide) (by rw [c_23]; rfl) (by decide) ?_
      refine lv_aload_n hx hb dX11_person_143 rfl (lv_at hl 2 rfl) ?_
      refine lv_iload hx hb dX11_person_144 (lv_at hl 0 rfl) ?_
      obtain ⟨r_24, I_25, J_26, hq_27, hf⟩ := yb_b3_some hf
      refine x_calli X hK hw (c9_sits l D cz ev hC (st_town (cw_now hC)) hq_27) (st_town (cw_now hC)).1.1 (st_town (cw_now hC)).1.2 cpX9.1 vw_X11_183 ⟨Nat.le_of_ble_eq_true rfl, Nat.le_of_ble_eq_true rfl⟩ rfl rfl (Nat.le_of_ble_eq_true rfl) hl.1 ⟨Nat.le_refl _, Nat.le_refl _⟩ dX11_person_146 (fun H locs hw => ?_)
      refine lv_if_eq (tgt := 156) hx hb dX11_person_149 (by decide) (fun c_28 => ?_) (fun c_28 => ?_)
      · have hf := yb_pos c_28 hf
        refine lv_iconst (v := (0 : Int32)) hx hb dX11_person_156 (by decide) ?_
        exact yb_reti hfin hf hw dX11_person_157
      · have hf := yb_neg c_28 hf
        refine lv_iconst (v := (1 : Int32)) hx hb dX11_person_152 (by decide) ?_
        refine lv_goto (tgt := 157) hx hb dX11_person_153 (by decide) ?_
        exact yb_reti hfin hf hw dX11_person_157
    have hf := yb_neg c_23 hf
    refine lv_tableOut (tgt := 158) hx hb dX11_person_48 (by
        rcases Int.lt_or_le (x2).toInt 0 with g1 | g1
        · exact Or.inl g1
        · rcases Int.lt_or_le 7 (x2).toInt with g2 | g2
          · exact Or.inr g2
          · exfalso
            have g3 : (x2).toInt = 0 ∨ (x2).toInt = 1 ∨ (x2).toInt = 2 ∨ (x2).toInt = 3 ∨ (x2).toInt = 4 ∨ (x2).toInt = 5 ∨ (x2).toInt = 6 ∨ (x2).toInt = 7 := by omega
            rcases g3 with g3 | g3 | g3 | g3 | g3 | g3 | g3 | g3
            · exact c_8 (yb_sw (0 : Int32) g3 rfl)
            · exact c_9 (yb_sw (1 : Int32) g3 rfl)
            · exact c_10 (yb_sw (2 : Int32) g3 rfl)
            · exact c_11 (yb_sw (3 : Int32) g3 rfl)
            · exact c_12 (yb_sw (4 : Int32) g3 rfl)
            · exact c_17 (yb_sw (5 : Int32) g3 rfl)
            · exact c_22 (yb_sw (6 : Int32) g3 rfl)
            · exact c_23 (yb_sw (7 : Int32) g3 rfl)) (by decide) ?_
    refine lv_iconst (v := (-1 : Int32)) hx hb dX11_person_158 (by decide) ?_
    exact yb_reti hfin hf hw dX11_person_159
  · have hf := yb_pos c_5 hf
    refine lv_iconst (v := (-1 : Int32)) hx hb dX11_person_14 (by decide) ?_
    exact yb_reti hfin hf hw dX11_person_15
set_option maxHeartbeats 4000000 in
set_option maxRecDepth 100000 in
theorem c11_trial (l : Launch) (D : va_G) (cz : Nat → ClassId) (ev : Nat × Nat × Nat) {b : Nat} {L : List Nat} {S : ST} {Rf : RT} (hC : CW b L S Rf) {x1 : Int32} {x2 : Int32} {I : IT} {J : JT} {r : Int32} {I1 : IT} {J1 : JT} (hf : f11_trial b S Rf x1 x2 I J = some (r, I1, J1)) : MTi l D cz ev yX11_trial cX11_trial 5 (some .int) 1 21 [.ref b, .int x1, .int x2] L S Rf I J r I1 J1 := by
  unfold f11_trial at hf
  refine MTi_of (by decide) (Nat.le_of_ble_eq_true rfl) ?_
  intro p e s m args below meth c Q ls X hK hw hl hfin
  have X : CallFix p m c cX11_trial 5 s args gw RX11 := X
  have hx := X.1
  have hb := X.2.1
  have hl : lv_has ls 5 [(0, .ref b), (1, .int x1), (2, .int x2)] := hl
  refine lv_aload_n hx hb dX11_trial_0 rfl (lv_at hl 0 rfl) ?_
  refine x_getR X hK hw (cw_mem0 hC) (cw_S0 hC) cpX11 3 (by decide) rfl (cw_R hC 0 3 (by decide) rfl) tw_562 dX11_trial_1 ?_
  refine x_getR X hK hw (cw_now hC).1.1 (cw_now hC).1.2 cpX8 0 (by decide) rfl (cw_now hC).2.1.1 tw_346 dX11_trial_4 ?_
  refine lv_iload_n hx hb dX11_trial_7 rfl (lv_at hl 1 rfl) ?_
  obtain ⟨r_1, I_2, J_3, hq_4, hf⟩ := yb_b3_some hf
  refine x_calli X hK hw (c9_hasCase l D cz ev hC (st_town (cw_now hC)) hq_4) (st_town (cw_now hC)).1.1 (st_town (cw_now hC)).1.2 cpX9.1 vw_X11_186 ⟨Nat.le_of_ble_eq_true rfl, Nat.le_of_ble_eq_true rfl⟩ rfl rfl (Nat.le_of_ble_eq_true rfl) hl.1 ⟨Nat.le_refl _, Nat.le_refl _⟩ dX11_trial_8 (fun H locs hw => ?_)
  refine lv_if_ne (tgt := 17) hx hb dX11_trial_11 (by decide) (fun c_5 => ?_) (fun c_5 => ?_)
  · have hf := yb_neg c_5 hf
    refine lv_aload_n hx hb dX11_trial_17 rfl (lv_at hl 0 rfl) ?_
    refine x_getR X hK hw (cw_mem0 hC) (cw_S0 hC) cpX11 3 (by decide) rfl (cw_R hC 0 3 (by decide) rfl) tw_562 dX11_trial_18 ?_
    refine x_getR X hK hw (cw_now hC).1.1 (cw_now hC).1.2 cpX8 0 (by decide) rfl (cw_now hC).2.1.1 tw_346 dX11_trial_21 ?_
    refine lv_astore_n (lv' := [(3, .ref (b + 5)), (0, .ref b), (1, .int x1), (2, .int x2)]) hx hb dX11_trial_24 rfl hl (by decide) rfl (fun ls hl => ?_)
    refine lv_aload_n hx hb dX11_trial_25 rfl (lv_at hl 1 rfl) ?_
    refine x_getR X hK hw (cw_mem0 hC) (cw_S0 hC) cpX11 3 (by decide) rfl (cw_R hC 0 3 (by decide) rfl) tw_562 dX11_trial_26 ?_
    refine x_getR X hK hw (cw_now hC).1.1 (cw_now hC).1.2 cpX8 1 (by decide) rfl (cw_now hC).2.2.1.1 tw_351 dX11_trial_29 ?_
    refine lv_astore (lv' := [(4, .ref (b + 14)), (3, .ref (b + 5)), (0, .ref b), (1, .int x1), (2, .int x2)]) hx hb dX11_trial_32 hl (by decide) rfl (fun ls hl => ?_)
    refine lv_iload_n hx hb dX11_trial_34 rfl (lv_at hl 4 rfl) ?_
    by_cases c_6 : x2 = (0 : Int32)
    · have hf := yb_pos c_6 hf
      refine lv_tableIn (off := 53) (tgt := 88) hx hb dX11_trial_35 (by rw [c_6]; decide) (by rw [c_6]; decide) (by rw [c_6]; rfl) (by decide) ?_
      refine lv_aload_n hx hb dX11_trial_88 rfl (lv_at hl 1 rfl) ?_
      refine x_getR X hK hw (st_town (cw_now hC)).1.1 (st_town (cw_now hC)).1.2 cpX9 4 (by decide) rfl (ta_R (st_town (cw_now hC)) 4 (by decide)) tw_209 dX11_trial_89 ?_
      refine lv_iload_n hx hb dX11_trial_92 rfl (lv_at hl 3 rfl) ?_
      obtain ⟨hi_7, hf⟩ := yb_ck_some hf
      refine x_iald X hK hw (ta_mem (st_town (cw_now hC)) 4 (by decide)) (ta_S (st_town (cw_now hC)) 4 rfl) hi_7 rfl dX11_trial_93 ?_
      exact yb_reti hfin hf hw dX11_trial_94
    have hf := yb_neg c_6 hf
    by_cases c_8 : x2 = (1 : Int32)
    · have hf := yb_pos c_8 hf
      refine lv_tableIn (off := 60) (tgt := 95) hx hb dX11_trial_35 (by rw [c_8]; decide) (by rw [c_8]; decide) (by rw [c_8]; rfl) (by decide) ?_
      refine lv_aload_n hx hb dX11_trial_95 rfl (lv_at hl 1 rfl) ?_
      refine x_getR X hK hw (st_town (cw_now hC)).1.1 (st_town (cw_now hC)).1.2 cpX9 5 (by decide) rfl (ta_R (st_town (cw_now hC)) 5 (by decide)) tw_213 dX11_trial_96 ?_
      refine lv_iload_n hx hb dX11_trial_99 rfl (lv_at hl 3 rfl) ?_
      obtain ⟨hi_9, hf⟩ := yb_ck_some hf
      refine x_iald X hK hw (ta_mem (st_town (cw_now hC)) 5 (by decide)) (ta_S (st_town (cw_now hC)) 5 rfl) hi_9 rfl dX11_trial_100 ?_
      exact yb_reti hfin hf hw dX11_trial_101
    have hf := yb_neg c_8 hf
    by_cases c_10 : x2 = (2 : Int32)
    · have hf := yb_pos c_10 hf
      refine lv_tableIn (off := 67) (tgt := 102) hx hb dX11_trial_35 (by rw [c_10]; decide) (by rw [c_10]; decide) (by rw [c_10]; rfl) (by decide) ?_
      refine lv_aload_n hx hb dX11_trial_102 rfl (lv_at hl 1 rfl) ?_
      refine x_getR X hK hw (st_town (cw_now hC)).1.1 (st_town (cw_now hC)).1.2 cpX9 6 (by decide) rfl (ta_R (st_town (cw_now hC)) 6 (by decide)) tw_218 dX11_trial_103 ?_
      refine lv_iload_n hx hb dX11_trial_106 rfl (lv_at hl 3 rfl) ?_
      obtain ⟨hi_11, hf⟩ := yb_ck_some hf
      refine x_iald X hK hw (ta_mem (st_town (cw_now hC)) 6 (by decide)) (ta_S (st_town (cw_now hC)) 6 rfl) hi_11 rfl dX11_trial_107 ?_
      exact yb_reti hfin hf hw dX11_trial_108
    have hf := yb_neg c_10 hf
    by_cases c_12 : x2 = (3 : Int32)
    · have hf := yb_pos c_12 hf
      refine lv_tableIn (off := 74) (tgt := 109) hx hb dX11_trial_35 (by rw [c_12]; decide) (by rw [c_12]; decide) (by rw [c_12]; rfl) (by decide) ?_
      refine lv_aload_n hx hb dX11_trial_109 rfl (lv_at hl 1 rfl) ?_
      refine x_getR X hK hw (st_town (cw_now hC)).1.1 (st_town (cw_now hC)).1.2 cpX9 7 (by decide) rfl (ta_R (st_town (cw_now hC)) 7 (by decide)) tw_222 dX11_trial_110 ?_
      refine lv_iload_n hx hb dX11_trial_113 rfl (lv_at hl 3 rfl) ?_
      obtain ⟨hi_13, hf⟩ := yb_ck_some hf
      refine x_iald X hK hw (ta_mem (st_town (cw_now hC)) 7 (by decide)) (ta_S (st_town (cw_now hC)) 7 rfl) hi_13 rfl dX11_trial_114 ?_
      exact yb_reti hfin hf hw dX11_trial_115
    have hf := yb_neg c_12 hf
    by_cases c_14 : x2 = (4 : Int32)
    · have hf := yb_pos c_14 hf
      refine lv_tableIn (off := 81) (tgt := 116) hx hb dX11_trial_35 (by rw [c_14]; decide) (by rw [c_14]; decide) (by rw [c_14]; rfl) (by decide) ?_
      refine lv_aload hx hb dX11_trial_116 (lv_at hl 0 rfl) ?_
      refine x_getR X hK hw (st_course (cw_now hC)).1.1 (st_course (cw_now hC)).1.2 cpX0 2 (by decide) rfl (ca_R (st_course (cw_now hC)) 2 (by decide)) tw_298 dX11_trial_118 ?_
      refine lv_iload_n hx hb dX11_trial_121 rfl (lv_at hl 3 rfl) ?_
      obtain ⟨hi_15, hf⟩ := yb_ck_some hf
      refine x_iald X hK hw (ca_mem (st_course (cw_now hC)) 2 (by decide)) (ca_S (st_course (cw_now hC)) 2 rfl) hi_15 rfl dX11_trial_122 ?_
      exact yb_reti hfin hf hw dX11_trial_123
    have hf := yb_neg c_14 hf
    by_cases c_16 : x2 = (5 : Int32)
    · have hf := yb_pos c_16 hf
      refine lv_tableIn (off := 89) (tgt := 124) hx hb dX11_trial_35 (by rw [c_16]; decide) (by rw [c_16]; decide) (by rw [c_16]; rfl) (by decide) ?_
      refine lv_aload hx hb dX11_trial_124 (lv_at hl 0 rfl) ?_
      refine x_getR X hK hw (st_course (cw_now hC)).1.1 (st_course (cw_now hC)).1.2 cpX0 3 (by decide) rfl (ca_R (st_course (cw_now hC)) 3 (by decide)) tw_302 dX11_trial_126 ?_
      refine lv_iload_n hx hb dX11_trial_129 rfl (lv_at hl 3 rfl) ?_
      obtain ⟨hi_17, hf⟩ := yb_ck_some hf
      refine x_iald X hK hw (ca_mem (st_course (cw_now hC)) 3 (by decide)) (ca_S (st_course (cw_now hC)) 3 rfl) hi_17 rfl dX11_trial_130 ?_
      exact yb_reti hfin hf hw dX11_trial_131
    have hf := yb_neg c_16 hf
    by_cases c_18 : x2 = (6 : Int32)
    · have hf := yb_pos c_18 hf
      refine lv_tableIn (off := 97) (tgt := 132) hx hb dX11_trial_35 (by rw [c_18]; decide) (by rw [c_18]; decide) (by rw [c_18]; rfl) (by decide) ?_
      refine lv_aload hx hb dX11_trial_132 (lv_at hl 0 rfl) ?_
      refine x_getR X hK hw (st_course (cw_now hC)).1.1 (st_course (cw_now hC)).1.2 cpX0 5 (by decide) rfl (ca_R (st_course (cw_now hC)) 5 (by decide)) tw_308 dX11_trial_134 ?_
      refine lv_iload_n hx hb dX11_trial_137 rfl (lv_at hl 3 rfl) ?_
      obtain ⟨hi_19, hf⟩ := yb_ck_some hf
      refine x_iald X hK hw (ca_mem (st_course (cw_now hC)) 5 (by decide)) (ca_S (st_course (cw_now hC)) 5 rfl) hi_19 rfl dX11_trial_138 ?_
      exact yb_reti hfin hf hw dX11_trial_139
    have hf := yb_neg c_18 hf
    by_cases c_20 : x2 = (7 : Int32)
    · have hf := yb_pos c_20 hf
      refine lv_tableIn (off := 105) (tgt := 140) hx hb dX11_trial_35 (by rw [c_20]; decide) (by rw [c_20]; decide) (by rw [c_20]; rfl) (by decide) ?_
      refine lv_aload hx hb dX11_trial_140 (lv_at hl 0 rfl) ?_
      refine x_getR X hK hw (st_course (cw_now hC)).1.1 (st_course (cw_now hC)).1.2 cpX0 6 (by decide) rfl (ca_R (st_course (cw_now hC)) 6 (by decide)) tw_310 dX11_trial_142 ?_
      refine lv_iload_n hx hb dX11_trial_145 rfl (lv_at hl 3 rfl) ?_
      obtain ⟨hi_21, hf⟩ := yb_ck_some hf
      refine x_iald X hK hw (ca_mem (st_course (cw_now hC)) 6 (by decide)) (ca_S (st_course (cw_now hC)) 6 rfl) hi_21 rfl dX11_trial_146 ?_
      exact yb_reti hfin hf hw dX11_trial_147
    have hf := yb_neg c_20 hf
    by_cases c_22 : x2 = (8 : Int32)
    · have hf := yb_pos c_22 hf
      refine lv_tableIn (off := 113) (tgt := 148) hx hb dX11_trial_35 (by rw [c_22]; decide) (by rw [c_22]; decide) (by rw [c_22]; rfl) (by decide) ?_
      refine lv_aload hx hb dX11_trial_148 (lv_at hl 0 rfl) ?_
      refine x_getR X hK hw (st_course (cw_now hC)).1.1 (st_course (cw_now hC)).1.2 cpX0 7 (by decide) rfl (ca_R (st_course (cw_now hC)) 7 (by decide)) tw_312 dX11_trial_150 ?_
      refine lv_iload_n hx hb dX11_trial_153 rfl (lv_at hl 3 rfl) ?_
      obtain ⟨hi_23, hf⟩ := yb_ck_some hf
      refine x_iald X hK hw (ca_mem (st_course (cw_now hC)) 7 (by decide)) (ca_S (st_course (cw_now hC)) 7 rfl) hi_23 rfl dX11_trial_154 ?_
      exact yb_reti hfin hf hw dX11_trial_155
    have hf := yb_neg c_22 hf
    by_cases c_24 : x2 = (9 : Int32)
    · have hf := yb_pos c_24 hf
      refine lv_tableIn (off := 121) (tgt := 156) hx hb dX11_trial_35 (by rw [c_24]; decide) (by rw [c_24]; decide) (by rw [c_24]; rfl) (by decide) ?_
      refine lv_aload hx hb dX11_trial_156 (lv_at hl 0 rfl) ?_
      refine x_getR X hK hw (st_course (cw_now hC)).1.1 (st_course (cw_now hC)).1.2 cpX0 8 (by decide) rfl (ca_R (st_course (cw_now hC)) 8 (by decide)) tw_316 dX11_trial_158 ?_
      refine lv_iload_n hx hb dX11_trial_161 rfl (lv_at hl 3 rfl) ?_
      obtain ⟨hi_25, hf⟩ := yb_ck_some hf
      refine x_iald X hK hw (ca_mem (st_course (cw_now hC)) 8 (by decide)) (ca_S (st_course (cw_now hC)) 8 rfl) hi_25 rfl dX11_trial_162 ?_
      exact yb_reti hfin hf hw dX11_trial_163
    have hf := yb_neg c_24 hf
    refine lv_tableOut (tgt := 164) hx hb dX11_trial_35 (by
        rcases Int.lt_or_le (x2).toInt 0 with g1 | g1
        · exact Or.inl g1
        · rcases Int.lt_or_le 9 (x2).toInt with g2 | g2
          · exact Or.inr g2
          · exfalso
            have g3 : (x2).toInt = 0 ∨ (x2).toInt = 1 ∨ (x2).toInt = 2 ∨ (x2).toInt = 3 ∨ (x2).toInt = 4 ∨ (x2).toInt = 5 ∨ (x2).toInt = 6 ∨ (x2).toInt = 7 ∨ (x2).toInt = 8 ∨ (x2).toInt = 9 := by omega
            rcases g3 with g3 | g3 | g3 | g3 | g3 | g3 | g3 | g3 | g3 | g3
            · exact c_6 (yb_sw (0 : Int32) g3 rfl)
            · exact c_8 (yb_sw (1 : Int32) g3 rfl)
            · exact c_10 (yb_sw (2 : Int32) g3 rfl)
            · exact c_12 (yb_sw (3 : Int32) g3 rfl)
            · exact c_14 (yb_sw (4 : Int32) g3 rfl)
            · exact c_16 (yb_sw (5 : Int32) g3 rfl)
            · exact c_18 (yb_sw (6 : Int32) g3 rfl)
            · exact c_20 (yb_sw (7 : Int32) g3 rfl)
            · exact c_22 (yb_sw (8 : Int32) g3 rfl)
            · exact c_24 (yb_sw (9 : Int32) g3 rfl)) (by decide) ?_
    refine lv_bipush (v := (-2 : Int32)) hx hb dX11_trial_164 (by decide) ?_
    exact yb_reti hfin hf hw dX11_trial_166
  · have hf := yb_pos c_5 hf
    refine lv_bipush (v := (-2 : Int32)) hx hb dX11_trial_14 (by decide) ?_
    exact yb_reti hfin hf hw dX11_trial_16
set_option maxHeartbeats 4000000 in
set_option maxRecDepth 100000 in
theorem c11_hasBoth (l : Launch) (D : va_G) (cz : Nat → ClassId) (ev : Nat × Nat × Nat) {b : Nat} {L : List Nat} {S : ST} {Rf : RT} (hC : CW b L S Rf) {x1 : Int32} {x2 : Int32} {I : IT} {J : JT} {r : Int32} {I1 : IT} {J1 : JT} (hf : f11_hasBoth b S Rf x1 x2 I J = some (r, I1, J1)) : MTi l D cz ev yX11_hasBoth cX11_hasBoth 3 (some .boolean) 1 21 [.ref b, .int x1, .int x2] L S Rf I J r I1 J1 := by
  unfold f11_hasBoth at hf
  refine MTz_of (by decide) (Nat.le_of_ble_eq_true rfl) ?_
  intro p e s m args below meth c Q ls X hK hw hl hfin
  have X : CallFix p m c cX11_hasBoth 3 s args gw RX11 := X
  have hx := X.1
  have hb := X.2.1
  have hl : lv_has ls 3 [(0, .ref b), (1, .int x1), (2, .int x2)] := hl
  refine lv_aload_n hx hb dX11_hasBoth_0 rfl (lv_at hl 0 rfl) ?_
  refine x_getR X hK hw (cw_mem0 hC) (cw_S0 hC) cpX11 3 (by decide) rfl (cw_R hC 0 3 (by decide) rfl) tw_562 dX11_hasBoth_1 ?_
  refine x_getR X hK hw (cw_now hC).1.1 (cw_now hC).1.2 cpX8 0 (by decide) rfl (cw_now hC).2.1.1 tw_346 dX11_hasBoth_4 ?_
  refine lv_iload_n hx hb dX11_hasBoth_7 rfl (lv_at hl 1 rfl) ?_
  obtain ⟨r_1, I_2, J_3, hq_4, hf⟩ := yb_b3_some hf
  refine x_calli X hK hw (c9_hasCase l D cz ev hC (st_town (cw_now hC)) hq_4) (st_town (cw_now hC)).1.1 (st_town (cw_now hC)).1.2 cpX9.1 vw_X11_186 ⟨Nat.le_of_ble_eq_true rfl, Nat.le_of_ble_eq_true rfl⟩ rfl rfl (Nat.le_of_ble_eq_true rfl) hl.1 ⟨Nat.le_refl _, Nat.le_refl _⟩ dX11_hasBoth_8 (fun H locs hw => ?_)
  refine lv_if_eq (tgt := 32) hx hb dX11_hasBoth_11 (by decide) (fun c_5 => ?_) (fun c_5 => ?_)
  · have hf := yb_pos c_5 hf
    refine lv_iconst (v := (0 : Int32)) hx hb dX11_hasBoth_32 (by decide) ?_
    exact yb_retz hfin (by decide) hf hw dX11_hasBoth_33
  · have hf := yb_neg c_5 hf
    refine lv_aload_n hx hb dX11_hasBoth_14 rfl (lv_at hl 0 rfl) ?_
    refine x_getR X hK hw (cw_mem0 hC) (cw_S0 hC) cpX11 3 (by decide) rfl (cw_R hC 0 3 (by decide) rfl) tw_562 dX11_hasBoth_15 ?_
    refine x_getR X hK hw (cw_now hC).1.1 (cw_now hC).1.2 cpX8 0 (by decide) rfl (cw_now hC).2.1.1 tw_346 dX11_hasBoth_18 ?_
    refine lv_iload_n hx hb dX11_hasBoth_21 rfl (lv_at hl 2 rfl) ?_
    obtain ⟨r_6, I_7, J_8, hq_9, hf⟩ := yb_b3_some hf
    refine x_calli X hK hw (c9_hasPerson l D cz ev hC (st_town (cw_now hC)) hq_9) (st_town (cw_now hC)).1.1 (st_town (cw_now hC)).1.2 cpX9.1 vw_X11_151 ⟨Nat.le_of_ble_eq_true rfl, Nat.le_of_ble_eq_true rfl⟩ rfl rfl (Nat.le_of_ble_eq_true rfl) hl.1 ⟨Nat.le_refl _, Nat.le_refl _⟩ dX11_hasBoth_22 (fun H locs hw => ?_)
    refine lv_if_eq (tgt := 32) hx hb dX11_hasBoth_25 (by decide) (fun c_10 => ?_) (fun c_10 => ?_)
    · have hf := yb_pos c_10 hf
      refine lv_iconst (v := (0 : Int32)) hx hb dX11_hasBoth_32 (by decide) ?_
      exact yb_retz hfin (by decide) hf hw dX11_hasBoth_33
    · have hf := yb_neg c_10 hf
      refine lv_iconst (v := (1 : Int32)) hx hb dX11_hasBoth_28 (by decide) ?_
      refine lv_goto (tgt := 33) hx hb dX11_hasBoth_29 (by decide) ?_
      exact yb_retz hfin (by decide) hf hw dX11_hasBoth_33
set_option maxHeartbeats 4000000 in
set_option maxRecDepth 100000 in
theorem c11_can (l : Launch) (D : va_G) (cz : Nat → ClassId) (ev : Nat × Nat × Nat) {b : Nat} {L : List Nat} {S : ST} {Rf : RT} (hC : CW b L S Rf) {x1 : Int32} {x2 : Int32} {x3 : Int32} {I : IT} {J : JT} {r : Int32} {I1 : IT} {J1 : JT} (hf : f11_can b S Rf x1 x2 x3 I J = some (r, I1, J1)) : MTi l D cz ev yX11_can cX11_can 4 (some .int) 3 73 [.ref b, .int x1, .int x2, .int x3] L S Rf I J r I1 J1 := by
  unfold f11_can at hf
  refine MTi_of (by decide) (Nat.le_of_ble_eq_true rfl) ?_
  intro p e s m args below meth c Q ls X hK hw hl hfin
  have X : CallFix p m c cX11_can 4 s args gw RX11 := X
  have hx := X.1
  have hb := X.2.1
  have hl : lv_has ls 4 [(0, .ref b), (1, .int x1), (2, .int x2), (3, .int x3)] := hl
  refine lv_aload_n hx hb dX11_can_0 rfl (lv_at hl 0 rfl) ?_
  refine lv_iload_n hx hb dX11_can_1 rfl (lv_at hl 1 rfl) ?_
  refine lv_iload_n hx hb dX11_can_2 rfl (lv_at hl 2 rfl) ?_
  obtain ⟨r_1, I_2, J_3, hq_4, hf⟩ := yb_b3_some hf
  refine x_calli X hK hw (c11_hasBoth l D cz ev hC hq_4) (cw_mem0 hC) (cw_S0 hC) cpX11.1 vw_X11_219 ⟨Nat.le_of_ble_eq_true rfl, Nat.le_of_ble_eq_true rfl⟩ rfl rfl (Nat.le_of_ble_eq_true rfl) hl.1 ⟨Nat.le_refl _, Nat.le_refl _⟩ dX11_can_3 (fun H locs hw => ?_)
  refine lv_if_eq (tgt := 20) hx hb dX11_can_6 (by decide) (fun c_5 => ?_) (fun c_5 => ?_)
  · have hf := yb_pos c_5 hf
    refine lv_iconst (v := (-1 : Int32)) hx hb dX11_can_20 (by decide) ?_
    exact yb_reti hfin hf hw dX11_can_21
  · have hf := yb_neg c_5 hf
    refine lv_iload_n hx hb dX11_can_9 rfl (lv_at hl 3 rfl) ?_
    refine lv_if_lt (tgt := 20) hx hb dX11_can_10 (by decide) (fun c_6 => ?_) (fun c_6 => ?_)
    · have hf := yb_pos c_6 hf
      refine lv_iconst (v := (-1 : Int32)) hx hb dX11_can_20 (by decide) ?_
      exact yb_reti hfin hf hw dX11_can_21
    · have hf := yb_neg c_6 hf
      refine lv_iload_n hx hb dX11_can_13 rfl (lv_at hl 3 rfl) ?_
      refine lv_sipush (v := (999 : Int32)) hx hb dX11_can_14 (by decide) ?_
      refine lv_icmp_le (tgt := 22) hx hb dX11_can_17 (by decide) (fun c_7 => ?_) (fun c_7 => ?_)
      · have hf := yb_pos c_7 hf
        refine lv_aload_n hx hb dX11_can_22 rfl (lv_at hl 0 rfl) ?_
        refine x_getR X hK hw (cw_mem0 hC) (cw_S0 hC) cpX11 6 (by decide) rfl (cw_R hC 0 6 (by decide) rfl) tw_565 dX11_can_23 ?_
        refine lv_iload_n hx hb dX11_can_26 rfl (lv_at hl 1 rfl) ?_
        refine lv_iload_n hx hb dX11_can_27 rfl (lv_at hl 2 rfl) ?_
        refine lv_iload_n hx hb dX11_can_28 rfl (lv_at hl 3 rfl) ?_
        obtain ⟨r_8, I_9, J_10, hq_11, hf⟩ := yb_b3_some hf
        refine x_calli X hK hw (c1_canHear l D cz ev hC hq_11) (cw_mem hC 30 (by decide)) (cw_S hC 30 rfl) cpX1.1 vw_X11_223 ⟨Nat.le_of_ble_eq_true rfl, Nat.le_of_ble_eq_true rfl⟩ rfl rfl (Nat.le_of_ble_eq_true rfl) hl.1 ⟨Nat.le_refl _, Nat.le_refl _⟩ dX11_can_29 (fun H locs hw => ?_)
        refine lv_if_eq (tgt := 39) hx hb dX11_can_32 (by decide) (fun c_12 => ?_) (fun c_12 => ?_)
        · have hf := yb_pos c_12 hf
          refine lv_iconst (v := (0 : Int32)) hx hb dX11_can_39 (by decide) ?_
          exact yb_reti hfin hf hw dX11_can_40
        · have hf := yb_neg c_12 hf
          refine lv_iconst (v := (1 : Int32)) hx hb dX11_can_35 (by decide) ?_
          refine lv_goto (tgt := 40) hx hb dX11_can_36 (by decide) ?_
          exact yb_reti hfin hf hw dX11_can_40
      · have hf := yb_neg c_7 hf
        refine lv_iconst (v := (-1 : Int32)) hx hb dX11_can_20 (by decide) ?_
        exact yb_reti hfin hf hw dX11_can_21
set_option maxHeartbeats 4000000 in
set_option maxRecDepth 100000 in
theorem c11_right (l : Launch) (D : va_G) (cz : Nat → ClassId) (ev : Nat × Nat × Nat) {b : Nat} {L : List Nat} {S : ST} {Rf : RT} (hC : CW b L S Rf) {N : Nat} {x1 : Int32} {x2 : Int32} {I : IT} {J : JT} {r : Int32} {I1 : IT} {J1 : JT} (hf : f11_right N b S Rf x1 x2 I J = some (r, I1, J1)) : MTi l D cz ev yX11_right cX11_right 3 (some .int) 4 99 [.ref b, .int x1, .int x2] L S Rf I J r I1 J1 := by
  unfold f11_right at hf
  refine MTi_of (by decide) (Nat.le_of_ble_eq_true rfl) ?_
  intro p e s m args below meth c Q ls X hK hw hl hfin
  have X : CallFix p m c cX11_right 3 s args gw RX11 := X
  have hx := X.1
  have hb := X.2.1
  have hl : lv_has ls 3 [(0, .ref b), (1, .int x1), (2, .int x2)] := hl
  refine lv_aload_n hx hb dX11_right_0 rfl (lv_at hl 0 rfl) ?_
  refine lv_iload_n hx hb dX11_right_1 rfl (lv_at hl 1 rfl) ?_
  refine lv_iload_n hx hb dX11_right_2 rfl (lv_at hl 2 rfl) ?_
  obtain ⟨r_1, I_2, J_3, hq_4, hf⟩ := yb_b3_some hf
  refine x_calli X hK hw (c11_hasBoth l D cz ev hC hq_4) (cw_mem0 hC) (cw_S0 hC) cpX11.1 vw_X11_219 ⟨Nat.le_of_ble_eq_true rfl, Nat.le_of_ble_eq_true rfl⟩ rfl rfl (Nat.le_of_ble_eq_true rfl) hl.1 ⟨Nat.le_refl _, Nat.le_refl _⟩ dX11_right_3 (fun H locs hw => ?_)
  refine lv_if_eq (tgt := 21) hx hb dX11_right_6 (by decide) (fun c_5 => ?_) (fun c_5 => ?_)
  · have hf := yb_pos c_5 hf
    refine lv_iconst (v := (-1 : Int32)) hx hb dX11_right_21 (by decide) ?_
    exact yb_reti hfin hf hw dX11_right_22
  · have hf := yb_neg c_5 hf
    refine lv_aload_n hx hb dX11_right_9 rfl (lv_at hl 0 rfl) ?_
    refine x_getR X hK hw (cw_mem0 hC) (cw_S0 hC) cpX11 6 (by decide) rfl (cw_R hC 0 6 (by decide) rfl) tw_565 dX11_right_10 ?_
    refine lv_iload_n hx hb dX11_right_13 rfl (lv_at hl 1 rfl) ?_
    refine lv_iload_n hx hb dX11_right_14 rfl (lv_at hl 2 rfl) ?_
    obtain ⟨r_6, I_7, J_8, hq_9, hf⟩ := yb_b3_some hf
    refine x_calli X hK hw (c1_rightNow l D cz ev hC hq_9) (cw_mem hC 30 (by decide)) (cw_S hC 30 rfl) cpX1.1 vw_X11_227 ⟨Nat.le_of_ble_eq_true rfl, Nat.le_of_ble_eq_true rfl⟩ rfl rfl (Nat.le_of_ble_eq_true rfl) hl.1 ⟨Nat.le_refl _, Nat.le_refl _⟩ dX11_right_15 (fun H locs hw => ?_)
    refine lv_goto (tgt := 22) hx hb dX11_right_18 (by decide) ?_
    exact yb_reti hfin hf hw dX11_right_22
set_option maxHeartbeats 4000000 in
set_option maxRecDepth 100000 in
theorem c11_undo (l : Launch) (D : va_G) (cz : Nat → ClassId) (ev : Nat × Nat × Nat) {b : Nat} {L : List Nat} {S : ST} {Rf : RT} (hC : CW b L S Rf) {I : IT} {J : JT} {r : Int32} {I1 : IT} {J1 : JT} (hf : f11_undo b S Rf I J = some (r, I1, J1)) : MTi l D cz ev yX11_undo cX11_undo 1 (some .int) 3 143 [.ref b] L S Rf I J r I1 J1 := by
  unfold f11_undo at hf
  refine MTi_of (by decide) (Nat.le_of_ble_eq_true rfl) ?_
  intro p e s m args below meth c Q ls X hK hw hl hfin
  have X : CallFix p m c cX11_undo 1 s args gw RX11 := X
  have hx := X.1
  have hb := X.2.1
  have hl : lv_has ls 1 [(0, .ref b)] := hl
  refine lv_aload_n hx hb dX11_undo_0 rfl (lv_at hl 0 rfl) ?_
  refine x_getR X hK hw (cw_mem0 hC) (cw_S0 hC) cpX11 5 (by decide) rfl (cw_R hC 0 5 (by decide) rfl) tw_564 dX11_undo_1 ?_
  refine lv_aload_n hx hb dX11_undo_4 rfl (lv_at hl 0 rfl) ?_
  refine x_getR X hK hw (cw_mem0 hC) (cw_S0 hC) cpX11 3 (by decide) rfl (cw_R hC 0 3 (by decide) rfl) tw_562 dX11_undo_5 ?_
  refine x_getR X hK hw (cw_now hC).1.1 (cw_now hC).1.2 cpX8 1 (by decide) rfl (cw_now hC).2.2.1.1 tw_351 dX11_undo_8 ?_
  obtain ⟨r_1, I_2, J_3, hq_4, hf⟩ := yb_b3_some hf
  refine x_calli X hK hw (c2_takeBack l D cz ev hC (st_course (cw_now hC)) hq_4) (cw_mem hC 28 (by decide)) (cw_S hC 28 rfl) cpX2.1 vw_X11_258 ⟨Nat.le_of_ble_eq_true rfl, Nat.le_of_ble_eq_true rfl⟩ rfl rfl (Nat.le_of_ble_eq_true rfl) hl.1 ⟨Nat.le_refl _, Nat.le_refl _⟩ dX11_undo_11 (fun H locs hw => ?_)
  refine lv_if_eq (tgt := 27) hx hb dX11_undo_14 (by decide) (fun c_5 => ?_) (fun c_5 => ?_)
  · have hf := yb_pos c_5 hf
    refine lv_iconst (v := (-1 : Int32)) hx hb dX11_undo_27 (by decide) ?_
    exact yb_reti hfin hf hw dX11_undo_28
  · have hf := yb_neg c_5 hf
    refine lv_aload_n hx hb dX11_undo_17 rfl (lv_at hl 0 rfl) ?_
    refine x_getR X hK hw (cw_mem0 hC) (cw_S0 hC) cpX11 5 (by decide) rfl (cw_R hC 0 5 (by decide) rfl) tw_564 dX11_undo_18 ?_
    refine x_getI X hK hw (cw_mem hC 28 (by decide)) (cw_S hC 28 rfl) cpX2 2 (by decide) rfl tw_391 dX11_undo_21 ?_
    refine lv_goto (tgt := 28) hx hb dX11_undo_24 (by decide) ?_
    exact yb_reti hfin hf hw dX11_undo_28
set_option maxHeartbeats 4000000 in
set_option maxRecDepth 100000 in
theorem w11_soonest_L25 {p : Program} {l : Launch} {e : Env} {s : State} {m : MethodId} {args : Array Value} {below : List Frame} {meth : Method} {c : Code} {Q : State → Prop} {D : va_G} {cz : Nat → ClassId} {A : Nat → Prop} {ev : Nat × Nat × Nat} {b : Nat} {L : List Nat} {S : ST} {Rf : RT} (hC : CW b L S Rf) (X : CallFix p m c cX11_soonest 5 s args gw RX11) (hK : KX D cz ev A s) {N : Nat} {x1 : Int32} {x2 : Int32} {x3 : Int32} {rM : Int32} {IM : IT} {JM : JT} :
    ∀ (n : Nat) (x4 : Int32) (I : IT) (J : JT) (q : (Int32 ⊕ (Unit))) (I1 : IT) (J1 : JT) (H : Heap) (locs : List Loc) (ls : Array Slot), f11_soonest_L25 N b S Rf x1 x2 x3 n x4 I J = some (q, I1, J1) → WX D cz A L S Rf s.heap I J H locs → lv_has ls 5 [(0, .ref b), (1, .int x1), (2, .int x2), (3, .int x3), (4, .int x4)] →
    (∀ v, q = .inl v → some (v, I1, J1) = some (rM, IM, JM)) → (∀ (H : Heap) (locs : List Loc) (ls : Array Slot) (pc : Nat), WX D cz A L S Rf s.heap IM JM H locs → decode cX11_soonest pc = .ok (.ireturn, 1) → W p l e (rmX 3 73) s m args below meth c H locs 0 0 Q (F0 m pc ls [.int rM])) →
    (∀ xq, q = .inr xq → ∀ (H : Heap) (locs : List Loc) (ls : Array Slot), WX D cz A L S Rf s.heap I1 J1 H locs → lv_has ls 5 [] → W p l e (rmX 3 73) s m args below meth c H locs 0 0 Q (F0 m 57 ls [])) →
    W p l e (rmX 3 73) s m args below meth c H locs 0 0 Q (F0 m 25 ls []) := by
  have hx := X.1
  have hb := X.2.1
  intro n
  induction n with
  | zero =>
    intro x4 I J q I1 J1 H locs ls hf
    rw [f11_soonest_L25] at hf
    cases hf
  | succ n ih =>
    intro x4 I J q I1 J1 H locs ls hf hw hl hret hfin hexit
    rw [f11_soonest_L25] at hf
    refine lv_iload hx hb dX11_soonest_25 (lv_at hl 4 rfl) ?_
    refine lv_iload_n hx hb dX11_soonest_27 rfl (lv_at hl 3 rfl) ?_
    refine lv_bipush (v := (100 : Int32)) hx hb dX11_soonest_28 (by decide) ?_
    refine lv_iadd hx hb dX11_soonest_30 ?_
    refine lv_icmp_ge (tgt := 57) hx hb dX11_soonest_31 (by decide) (fun c_7 => ?_) (fun c_7 => ?_)
    · have hf := yb_pos c_7 hf
      obtain ⟨rfl, rfl, rfl⟩ := yb_inj hf
      exact hexit _ rfl _ _ _ hw (lv_sub hl [] rfl)
    · have hf := yb_neg c_7 hf
      refine lv_aload_n hx hb dX11_soonest_34 rfl (lv_at hl 0 rfl) ?_
      refine x_getR X hK hw (cw_mem0 hC) (cw_S0 hC) cpX11 6 (by decide) rfl (cw_R hC 0 6 (by decide) rfl) tw_565 dX11_soonest_35 ?_
      refine lv_iload_n hx hb dX11_soonest_38 rfl (lv_at hl 1 rfl) ?_
      refine lv_iload_n hx hb dX11_soonest_39 rfl (lv_at hl 2 rfl) ?_
      refine lv_iload hx hb dX11_soonest_40 (lv_at hl 4 rfl) ?_
      obtain ⟨r_8, I_9, J_10, hq_11, hf⟩ := yb_b3_some hf
      refine x_calli X hK hw (c1_canHear l D cz ev hC hq_11) (cw_mem hC 30 (by decide)) (cw_S hC 30 rfl) cpX1.1 vw_X11_223 ⟨Nat.le_of_ble_eq_true rfl, Nat.le_of_ble_eq_true rfl⟩ rfl rfl (Nat.le_of_ble_eq_true rfl) hl.1 ⟨Nat.le_refl _, Nat.le_refl _⟩ dX11_soonest_42 (fun H locs hw => ?_)
      refine lv_if_eq (tgt := 51) hx hb dX11_soonest_45 (by decide) (fun c_12 => ?_) (fun c_12 => ?_)
      · have hf := yb_pos c_12 hf
        obtain ⟨x4_13, ex4_13, hf⟩ := yb_let_ex hf
        refine lv_iinc (v := x4_13) (lv' := [(4, .int x4_13), (0, .ref b), (1, .int x1), (2, .int x2), (3, .int x3)]) hx hb dX11_soonest_51 hl (k := 4) rfl (by rw [ex4_13]; rfl) (by decide) rfl (fun ls hl => ?_)
        refine lv_goto (tgt := 25) hx hb dX11_soonest_54 (by decide) ?_
        exact ih _ _ _ _ _ _ _ _ _ hf hw (lv_sub hl [1, 2, 3, 4, 0] rfl) hret hfin hexit
      · have hf := yb_neg c_12 hf
        refine lv_iload hx hb dX11_soonest_48 (lv_at hl 4 rfl) ?_
        exact yb_reti hfin (yb_inl hret hf) hw dX11_soonest_50
set_option maxHeartbeats 4000000 in
set_option maxRecDepth 100000 in
theorem c11_soonest (l : Launch) (D : va_G) (cz : Nat → ClassId) (ev : Nat × Nat × Nat) {b : Nat} {L : List Nat} {S : ST} {Rf : RT} (hC : CW b L S Rf) {N : Nat} {x1 : Int32} {x2 : Int32} {I : IT} {J : JT} {r : Int32} {I1 : IT} {J1 : JT} (hf : f11_soonest N b S Rf x1 x2 I J = some (r, I1, J1)) : MTi l D cz ev yX11_soonest cX11_soonest 5 (some .int) 3 73 [.ref b, .int x1, .int x2] L S Rf I J r I1 J1 := by
  unfold f11_soonest at hf
  refine MTi_of (by decide) (Nat.le_of_ble_eq_true rfl) ?_
  intro p e s m args below meth c Q ls X hK hw hl hfin
  have X : CallFix p m c cX11_soonest 5 s args gw RX11 := X
  have hx := X.1
  have hb := X.2.1
  have hl : lv_has ls 5 [(0, .ref b), (1, .int x1), (2, .int x2)] := hl
  refine lv_aload_n hx hb dX11_soonest_0 rfl (lv_at hl 0 rfl) ?_
  refine lv_iload_n hx hb dX11_soonest_1 rfl (lv_at hl 1 rfl) ?_
  refine lv_iload_n hx hb dX11_soonest_2 rfl (lv_at hl 2 rfl) ?_
  obtain ⟨r_1, I_2, J_3, hq_4, hf⟩ := yb_b3_some hf
  refine x_calli X hK hw (c11_hasBoth l D cz ev hC hq_4) (cw_mem0 hC) (cw_S0 hC) cpX11.1 vw_X11_219 ⟨Nat.le_of_ble_eq_true rfl, Nat.le_of_ble_eq_true rfl⟩ rfl rfl (Nat.le_of_ble_eq_true rfl) hl.1 ⟨Nat.le_refl _, Nat.le_refl _⟩ dX11_soonest_3 (fun H locs hw => ?_)
  refine lv_if_ne (tgt := 11) hx hb dX11_soonest_6 (by decide) (fun c_5 => ?_) (fun c_5 => ?_)
  · have hf := yb_neg c_5 hf
    refine lv_aload_n hx hb dX11_soonest_11 rfl (lv_at hl 0 rfl) ?_
    refine x_getR X hK hw (cw_mem0 hC) (cw_S0 hC) cpX11 3 (by decide) rfl (cw_R hC 0 3 (by decide) rfl) tw_562 dX11_soonest_12 ?_
    refine x_getR X hK hw (cw_now hC).1.1 (cw_now hC).1.2 cpX8 1 (by decide) rfl (cw_now hC).2.2.1.1 tw_351 dX11_soonest_15 ?_
    refine x_getI X hK hw (st_course (cw_now hC)).1.1 (st_course (cw_now hC)).1.2 cpX0 9 (by decide) rfl tw_320 dX11_soonest_18 ?_
    refine lv_topi (fun x3_6 ex3_6 => ?_)
    have hf := yb_let_to ex3_6 hf
    refine lv_istore_n (lv' := [(3, .int x3_6), (0, .ref b), (1, .int x1), (2, .int x2)]) hx hb dX11_soonest_21 rfl hl (by decide) rfl (fun ls hl => ?_)
    refine lv_iload_n hx hb dX11_soonest_22 rfl (lv_at hl 0 rfl) ?_
    refine lv_istore (lv' := [(4, .int x3_6), (3, .int x3_6), (0, .ref b), (1, .int x1), (2, .int x2)]) hx hb dX11_soonest_23 hl (by decide) rfl (fun ls hl => ?_)
    obtain ⟨q_14, I_15, J_16, hq_17, hf⟩ := yb_b3_some hf
    refine w11_soonest_L25 hC X hK _ _ _ _ _ _ _ _ _ _ hq_17 hw (lv_sub hl [2, 3, 4, 1, 0] rfl) (fun v hv => by rw [hv] at hf; exact hf) hfin (fun x_19 hx1 H locs ls hw hl => ?_)
    rw [hx1] at hf
    have hf := yb_sm_r hf
    refine lv_bipush (v := (-2 : Int32)) hx hb dX11_soonest_57 (by decide) ?_
    exact yb_reti hfin hf hw dX11_soonest_59
  · have hf := yb_pos c_5 hf
    refine lv_iconst (v := (-1 : Int32)) hx hb dX11_soonest_9 (by decide) ?_
    exact yb_reti hfin hf hw dX11_soonest_10
set_option maxHeartbeats 4000000 in
set_option maxRecDepth 100000 in
theorem c11_isBelow (l : Launch) (D : va_G) (cz : Nat → ClassId) (ev : Nat × Nat × Nat) {b : Nat} {L : List Nat} {S : ST} {Rf : RT} (hC : CW b L S Rf) {x1 : Int32} {x2 : Int32} {I : IT} {J : JT} {r : Int32} {I1 : IT} {J1 : JT} (hf : f11_isBelow b S Rf x1 x2 I J = some (r, I1, J1)) : MTi l D cz ev yX11_isBelow cX11_isBelow 3 (some .boolean) 1 22 [.ref b, .int x1, .int x2] L S Rf I J r I1 J1 := by
  unfold f11_isBelow at hf
  refine MTz_of (by decide) (Nat.le_of_ble_eq_true rfl) ?_
  intro p e s m args below meth c Q ls X hK hw hl hfin
  have X : CallFix p m c cX11_isBelow 3 s args gw RX11 := X
  have hx := X.1
  have hb := X.2.1
  have hl : lv_has ls 3 [(0, .ref b), (1, .int x1), (2, .int x2)] := hl
  refine lv_iload_n hx hb dX11_isBelow_0 rfl (lv_at hl 2 rfl) ?_
  refine lv_if_lt (tgt := 19) hx hb dX11_isBelow_1 (by decide) (fun c_1 => ?_) (fun c_1 => ?_)
  · have hf := yb_pos c_1 hf
    refine lv_iconst (v := (1 : Int32)) hx hb dX11_isBelow_19 (by decide) ?_
    refine lv_goto (tgt := 24) hx hb dX11_isBelow_20 (by decide) ?_
    exact yb_retz hfin (by decide) hf hw dX11_isBelow_24
  · have hf := yb_neg c_1 hf
    refine lv_aload_n hx hb dX11_isBelow_4 rfl (lv_at hl 0 rfl) ?_
    refine x_getR X hK hw (cw_mem0 hC) (cw_S0 hC) cpX11 3 (by decide) rfl (cw_R hC 0 3 (by decide) rfl) tw_562 dX11_isBelow_5 ?_
    refine x_getR X hK hw (cw_now hC).1.1 (cw_now hC).1.2 cpX8 0 (by decide) rfl (cw_now hC).2.1.1 tw_346 dX11_isBelow_8 ?_
    refine lv_iload_n hx hb dX11_isBelow_11 rfl (lv_at hl 1 rfl) ?_
    refine lv_iload_n hx hb dX11_isBelow_12 rfl (lv_at hl 2 rfl) ?_
    obtain ⟨r_2, I_3, J_4, hq_5, hf⟩ := yb_b3_some hf
    refine x_calli X hK hw (c9_isYounger l D cz ev hC (st_town (cw_now hC)) hq_5) (st_town (cw_now hC)).1.1 (st_town (cw_now hC)).1.2 cpX9.1 vw_X11_285 ⟨Nat.le_of_ble_eq_true rfl, Nat.le_of_ble_eq_true rfl⟩ rfl rfl (Nat.le_of_ble_eq_true rfl) hl.1 ⟨Nat.le_refl _, Nat.le_refl _⟩ dX11_isBelow_13 (fun H locs hw => ?_)
    refine lv_if_eq (tgt := 23) hx hb dX11_isBelow_16 (by decide) (fun c_6 => ?_) (fun c_6 => ?_)
    · have hf := yb_pos c_6 hf
      refine lv_iconst (v := (0 : Int32)) hx hb dX11_isBelow_23 (by decide) ?_
      exact yb_retz hfin (by decide) hf hw dX11_isBelow_24
    · have hf := yb_neg c_6 hf
      refine lv_iconst (v := (1 : Int32)) hx hb dX11_isBelow_19 (by decide) ?_
      refine lv_goto (tgt := 24) hx hb dX11_isBelow_20 (by decide) ?_
      exact yb_retz hfin (by decide) hf hw dX11_isBelow_24
set_option maxHeartbeats 4000000 in
set_option maxRecDepth 100000 in
theorem w11_longestBelow_L4 {p : Program} {l : Launch} {e : Env} {s : State} {m : MethodId} {args : Array Value} {below : List Frame} {meth : Method} {c : Code} {Q : State → Prop} {D : va_G} {cz : Nat → ClassId} {A : Nat → Prop} {ev : Nat × Nat × Nat} {b : Nat} {L : List Nat} {S : ST} {Rf : RT} (hC : CW b L S Rf) (X : CallFix p m c cX11_longestBelow 4 s args gw RX11) (hK : KX D cz ev A s) {N : Nat} {x1 : Int32} :
    ∀ (n : Nat) (x2 : Int32) (x3 : Int32) (I : IT) (J : JT) (q : (Int32)) (I1 : IT) (J1 : JT) (H : Heap) (locs : List Loc) (ls : Array Slot), f11_longestBelow_L4 N b S Rf x1 n x2 x3 I J = some (q, I1, J1) → WX D cz A L S Rf s.heap I J H locs → lv_has ls 4 [(0, .ref b), (1, .int x1), (2, .int x2), (3, .int x3)] →
    (∀ (H : Heap) (locs : List Loc) (ls : Array Slot), WX D cz A L S Rf s.heap I1 J1 H locs → lv_has ls 4 [(2, .int q)] → W p l e (rmX 2 44) s m args below meth c H locs 0 0 Q (F0 m 44 ls [])) →
    W p l e (rmX 2 44) s m args below meth c H locs 0 0 Q (F0 m 4 ls []) := by
  have hx := X.1
  have hb := X.2.1
  intro n
  induction n with
  | zero =>
    intro x2 x3 I J q I1 J1 H locs ls hf
    rw [f11_longestBelow_L4] at hf
    cases hf
  | succ n ih =>
    intro x2 x3 I J q I1 J1 H locs ls hf hw hl hexit
    rw [f11_longestBelow_L4] at hf
    refine lv_iload_n hx hb dX11_longestBelow_4 rfl (lv_at hl 3 rfl) ?_
    refine lv_aload_n hx hb dX11_longestBelow_5 rfl (lv_at hl 0 rfl) ?_
    refine x_getR X hK hw (cw_mem0 hC) (cw_S0 hC) cpX11 3 (by decide) rfl (cw_R hC 0 3 (by decide) rfl) tw_562 dX11_longestBelow_6 ?_
    refine x_getR X hK hw (cw_now hC).1.1 (cw_now hC).1.2 cpX8 0 (by decide) rfl (cw_now hC).2.1.1 tw_346 dX11_longestBelow_9 ?_
    refine x_getI X hK hw (st_town (cw_now hC)).1.1 (st_town (cw_now hC)).1.2 cpX9 13 (by decide) rfl tw_243 dX11_longestBelow_12 ?_
    refine lv_icmp_ge (tgt := 44) hx hb dX11_longestBelow_15 (by decide) (fun c_1 => ?_) (fun c_1 => ?_)
    · have hf := yb_pos c_1 hf
      obtain ⟨rfl, rfl, rfl⟩ := yb_inj hf
      exact hexit _ _ _ hw (lv_sub hl [2] rfl)
    · have hf := yb_neg c_1 hf
      refine lv_aload_n hx hb dX11_longestBelow_18 rfl (lv_at hl 0 rfl) ?_
      refine lv_iload_n hx hb dX11_longestBelow_19 rfl (lv_at hl 3 rfl) ?_
      refine lv_iload_n hx hb dX11_longestBelow_20 rfl (lv_at hl 1 rfl) ?_
      obtain ⟨r_2, I_3, J_4, hq_5, hf⟩ := yb_b3_some hf
      refine x_calli X hK hw (c11_isBelow l D cz ev hC hq_5) (cw_mem0 hC) (cw_S0 hC) cpX11.1 vw_X11_277 ⟨Nat.le_of_ble_eq_true rfl, Nat.le_of_ble_eq_true rfl⟩ rfl rfl (Nat.le_of_ble_eq_true rfl) hl.1 ⟨Nat.le_refl _, Nat.le_refl _⟩ dX11_longestBelow_21 (fun H locs hw => ?_)
      refine lv_if_eq (tgt := 38) hx hb dX11_longestBelow_24 (by decide) (fun c_6 => ?_) (fun c_6 => ?_)
      · have hf := yb_pos c_6 hf
        obtain ⟨x3_7, ex3_7, hf⟩ := yb_let_ex hf
        refine lv_iinc (v := x3_7) (lv' := [(3, .int x3_7), (0, .ref b), (1, .int x1), (2, .int x2)]) hx hb dX11_longestBelow_38 hl (k := 3) rfl (by rw [ex3_7]; rfl) (by decide) rfl (fun ls hl => ?_)
        refine lv_goto (tgt := 4) hx hb dX11_longestBelow_41 (by decide) ?_
        exact ih _ _ _ _ _ _ _ _ _ _ hf hw (lv_sub hl [1, 2, 3, 0] rfl) hexit
      · have hf := yb_neg c_6 hf
        refine lv_iload_n hx hb dX11_longestBelow_27 rfl (lv_at hl 2 rfl) ?_
        refine lv_aload_n hx hb dX11_longestBelow_28 rfl (lv_at hl 0 rfl) ?_
        refine x_getR X hK hw (cw_mem0 hC) (cw_S0 hC) cpX11 13 (by decide) rfl (cw_R hC 0 13 (by decide) rfl) tw_572 dX11_longestBelow_29 ?_
        refine lv_iload_n hx hb dX11_longestBelow_32 rfl (lv_at hl 3 rfl) ?_
        obtain ⟨hi_8, hf⟩ := yb_ck_some hf
        refine x_iald X hK hw (cw_mem hC 74 (by decide)) (cw_S hC 74 rfl) hi_8 rfl dX11_longestBelow_33 ?_
        refine va_mmax hx hb (X.2.2.1.trans hl.1.symm) X.2.2.2.1 (X.2.2.2.2 _ tw_1115) (X.2.2.2.2 _ tw_1096) (X.2.2.2.2 _ tw_131) (X.2.2.2.2 _ tw_1097) (Nat.le_of_ble_eq_true rfl) (Nat.le_of_ble_eq_true rfl) (Nat.le_refl _) (Nat.le_refl _) dX11_longestBelow_34 ?_
        refine lv_topi (fun x2_9 ex2_9 => ?_)
        have hf := yb_let_to ex2_9 hf
        refine lv_istore_n (lv' := [(2, .int x2_9), (0, .ref b), (1, .int x1), (3, .int x3)]) hx hb dX11_longestBelow_37 rfl hl (by decide) rfl (fun ls hl => ?_)
        obtain ⟨x3_10, ex3_10, hf⟩ := yb_let_ex hf
        refine lv_iinc (v := x3_10) (lv' := [(3, .int x3_10), (2, .int x2_9), (0, .ref b), (1, .int x1)]) hx hb dX11_longestBelow_38 hl (k := 3) rfl (by rw [ex3_10]; rfl) (by decide) rfl (fun ls hl => ?_)
        refine lv_goto (tgt := 4) hx hb dX11_longestBelow_41 (by decide) ?_
        exact ih _ _ _ _ _ _ _ _ _ _ hf hw (lv_sub hl [2, 3, 1, 0] rfl) hexit
set_option maxHeartbeats 4000000 in
set_option maxRecDepth 100000 in
theorem c11_longestBelow (l : Launch) (D : va_G) (cz : Nat → ClassId) (ev : Nat × Nat × Nat) {b : Nat} {L : List Nat} {S : ST} {Rf : RT} (hC : CW b L S Rf) {N : Nat} {x1 : Int32} {I : IT} {J : JT} {r : Int32} {I1 : IT} {J1 : JT} (hf : f11_longestBelow N b S Rf x1 I J = some (r, I1, J1)) : MTi l D cz ev yX11_longestBelow cX11_longestBelow 4 (some .int) 2 44 [.ref b, .int x1] L S Rf I J r I1 J1 := by
  unfold f11_longestBelow at hf
  refine MTi_of (by decide) (Nat.le_of_ble_eq_true rfl) ?_
  intro p e s m args below meth c Q ls X hK hw hl hfin
  have X : CallFix p m c cX11_longestBelow 4 s args gw RX11 := X
  have hx := X.1
  have hb := X.2.1
  have hl : lv_has ls 4 [(0, .ref b), (1, .int x1)] := hl
  refine lv_iconst (v := (0 : Int32)) hx hb dX11_longestBelow_0 (by decide) ?_
  refine lv_istore_n (lv' := [(2, .int (0 : Int32)), (0, .ref b), (1, .int x1)]) hx hb dX11_longestBelow_1 rfl hl (by decide) rfl (fun ls hl => ?_)
  refine lv_iconst (v := (0 : Int32)) hx hb dX11_longestBelow_2 (by decide) ?_
  refine lv_istore_n (lv' := [(3, .int (0 : Int32)), (2, .int (0 : Int32)), (0, .ref b), (1, .int x1)]) hx hb dX11_longestBelow_3 rfl hl (by decide) rfl (fun ls hl => ?_)
  obtain ⟨q_11, I_12, J_13, hq_14, hf⟩ := yb_b3_some hf
  refine w11_longestBelow_L4 hC X hK _ _ _ _ _ _ _ _ _ _ _ hq_14 hw (lv_sub hl [2, 3, 1, 0] rfl) (fun H locs ls hw hl => ?_)
  refine lv_iload_n hx hb dX11_longestBelow_44 rfl (lv_at hl 0 rfl) ?_
  exact yb_reti hfin hf hw dX11_longestBelow_45
set_option maxHeartbeats 4000000 in
set_option maxRecDepth 100000 in
theorem w11_measureChains_L13 {p : Program} {l : Launch} {e : Env} {s : State} {m : MethodId} {args : Array Value} {below : List Frame} {meth : Method} {c : Code} {Q : State → Prop} {D : va_G} {cz : Nat → ClassId} {A : Nat → Prop} {ev : Nat × Nat × Nat} {b : Nat} {L : List Nat} {S : ST} {Rf : RT} (hC : CW b L S Rf) (X : CallFix p m c cX11_measureChains 5 s args gw RX11) (hK : KX D cz ev A s) {N : Nat} {x1 : Int32} {x2 : Int32} :
    ∀ (n : Nat) (x3 : Int32) (I : IT) (J : JT) (q : (Unit)) (I1 : IT) (J1 : JT) (H : Heap) (locs : List Loc) (ls : Array Slot), f11_measureChains_L13 N b S Rf x1 x2 n x3 I J = some (q, I1, J1) → WX D cz A L S Rf s.heap I J H locs → lv_has ls 5 [(0, .ref b), (1, .int x1), (2, .int x2), (3, .int x3)] →
    (∀ (H : Heap) (locs : List Loc) (ls : Array Slot), WX D cz A L S Rf s.heap I1 J1 H locs → lv_has ls 5 [(0, .ref b), (1, .int x1), (2, .int x2)] → W p l e (rmX 3 73) s m args below meth c H locs 0 0 Q (F0 m 31 ls [])) →
    W p l e (rmX 3 73) s m args below meth c H locs 0 0 Q (F0 m 13 ls []) := by
  have hx := X.1
  have hb := X.2.1
  intro n
  induction n with
  | zero =>
    intro x3 I J q I1 J1 H locs ls hf
    rw [f11_measureChains_L13] at hf
    cases hf
  | succ n ih =>
    intro x3 I J q I1 J1 H locs ls hf hw hl hexit
    rw [f11_measureChains_L13] at hf
    refine lv_iload_n hx hb dX11_measureChains_13 rfl (lv_at hl 3 rfl) ?_
    refine lv_iload_n hx hb dX11_measureChains_14 rfl (lv_at hl 2 rfl) ?_
    refine lv_icmp_ge (tgt := 31) hx hb dX11_measureChains_15 (by decide) (fun c_2 => ?_) (fun c_2 => ?_)
    · have hf := yb_pos c_2 hf
      obtain ⟨rfl, rfl, rfl⟩ := yb_inj hf
      exact hexit _ _ _ hw (lv_sub hl [0, 1, 2] rfl)
    · have hf := yb_neg c_2 hf
      refine lv_aload_n hx hb dX11_measureChains_18 rfl (lv_at hl 0 rfl) ?_
      refine x_getR X hK hw (cw_mem0 hC) (cw_S0 hC) cpX11 13 (by decide) rfl (cw_R hC 0 13 (by decide) rfl) tw_572 dX11_measureChains_19 ?_
      refine lv_iload_n hx hb dX11_measureChains_22 rfl (lv_at hl 3 rfl) ?_
      refine lv_iconst (v := (0 : Int32)) hx hb dX11_measureChains_23 (by decide) ?_
      obtain ⟨hi_3, hf⟩ := yb_ck_some hf
      refine x_iast X hK hw (cw_mem hC 74 (by decide)) (cw_S hC 74 rfl) hi_3 rfl dX11_measureChains_24 (fun H locs hw => ?_)
      obtain ⟨I_4, eI_4, hf⟩ := yb_let_ex hf
      have hw := yb_wI eI_4 hw
      obtain ⟨x3_5, ex3_5, hf⟩ := yb_let_ex hf
      refine lv_iinc (v := x3_5) (lv' := [(3, .int x3_5), (0, .ref b), (1, .int x1), (2, .int x2)]) hx hb dX11_measureChains_25 hl (k := 3) rfl (by rw [ex3_5]; rfl) (by decide) rfl (fun ls hl => ?_)
      refine lv_goto (tgt := 13) hx hb dX11_measureChains_28 (by decide) ?_
      exact ih _ _ _ _ _ _ _ _ _ hf hw (lv_sub hl [1, 2, 3, 0] rfl) hexit
set_option maxHeartbeats 4000000 in
set_option maxRecDepth 100000 in
theorem w11_measureChains_L41 {p : Program} {l : Launch} {e : Env} {s : State} {m : MethodId} {args : Array Value} {below : List Frame} {meth : Method} {c : Code} {Q : State → Prop} {D : va_G} {cz : Nat → ClassId} {A : Nat → Prop} {ev : Nat × Nat × Nat} {b : Nat} {L : List Nat} {S : ST} {Rf : RT} (hC : CW b L S Rf) (X : CallFix p m c cX11_measureChains 5 s args gw RX11) (hK : KX D cz ev A s) {N : Nat} {x1 : Int32} {x2 : Int32} {x3 : Int32} :
    ∀ (n : Nat) (x4 : Int32) (I : IT) (J : JT) (q : (Unit)) (I1 : IT) (J1 : JT) (H : Heap) (locs : List Loc) (ls : Array Slot), f11_measureChains_L41 N b S Rf x1 x2 x3 n x4 I J = some (q, I1, J1) → WX D cz A L S Rf s.heap I J H locs → lv_has ls 5 [(0, .ref b), (1, .int x1), (2, .int x2), (3, .int x3), (4, .int x4)] →
    (∀ (H : Heap) (locs : List Loc) (ls : Array Slot), WX D cz A L S Rf s.heap I1 J1 H locs → lv_has ls 5 [(0, .ref b), (1, .int x1), (2, .int x2), (3, .int x3)] → W p l e (rmX 3 73) s m args below meth c H locs 0 0 Q (F0 m 91 ls [])) →
    W p l e (rmX 3 73) s m args below meth c H locs 0 0 Q (F0 m 41 ls []) := by
  have hx := X.1
  have hb := X.2.1
  intro n
  induction n with
  | zero =>
    intro x4 I J q I1 J1 H locs ls hf
    rw [f11_measureChains_L41] at hf
    cases hf
  | succ n ih =>
    intro x4 I J q I1 J1 H locs ls hf hw hl hexit
    rw [f11_measureChains_L41] at hf
    refine lv_iload hx hb dX11_measureChains_41 (lv_at hl 4 rfl) ?_
    refine lv_iload_n hx hb dX11_measureChains_43 rfl (lv_at hl 2 rfl) ?_
    refine lv_icmp_ge (tgt := 91) hx hb dX11_measureChains_44 (by decide) (fun c_11 => ?_) (fun c_11 => ?_)
    · have hf := yb_pos c_11 hf
      obtain ⟨rfl, rfl, rfl⟩ := yb_inj hf
      exact hexit _ _ _ hw (lv_sub hl [0, 1, 2, 3] rfl)
    · have hf := yb_neg c_11 hf
      refine lv_aload_n hx hb dX11_measureChains_47 rfl (lv_at hl 0 rfl) ?_
      refine x_getR X hK hw (cw_mem0 hC) (cw_S0 hC) cpX11 6 (by decide) rfl (cw_R hC 0 6 (by decide) rfl) tw_565 dX11_measureChains_48 ?_
      refine lv_iload_n hx hb dX11_measureChains_51 rfl (lv_at hl 1 rfl) ?_
      refine lv_iload hx hb dX11_measureChains_52 (lv_at hl 4 rfl) ?_
      refine lv_aload_n hx hb dX11_measureChains_54 rfl (lv_at hl 0 rfl) ?_
      refine x_getR X hK hw (cw_mem0 hC) (cw_S0 hC) cpX11 3 (by decide) rfl (cw_R hC 0 3 (by decide) rfl) tw_562 dX11_measureChains_55 ?_
      refine x_getR X hK hw (cw_now hC).1.1 (cw_now hC).1.2 cpX8 1 (by decide) rfl (cw_now hC).2.2.1.1 tw_351 dX11_measureChains_58 ?_
      refine x_getI X hK hw (st_course (cw_now hC)).1.1 (st_course (cw_now hC)).1.2 cpX0 9 (by decide) rfl tw_320 dX11_measureChains_61 ?_
      obtain ⟨r_12, I_13, J_14, hq_15, hf⟩ := yb_b3_some hf
      refine x_calli X hK hw (c1_canHear l D cz ev hC hq_15) (cw_mem hC 30 (by decide)) (cw_S hC 30 rfl) cpX1.1 vw_X11_223 ⟨Nat.le_of_ble_eq_true rfl, Nat.le_of_ble_eq_true rfl⟩ rfl rfl (Nat.le_of_ble_eq_true rfl) hl.1 ⟨Nat.le_refl _, Nat.le_refl _⟩ dX11_measureChains_64 (fun H locs hw => ?_)
      refine lv_if_eq (tgt := 85) hx hb dX11_measureChains_67 (by decide) (fun c_16 => ?_) (fun c_16 => ?_)
      · have hf := yb_pos c_16 hf
        obtain ⟨x4_17, ex4_17, hf⟩ := yb_let_ex hf
        refine lv_iinc (v := x4_17) (lv' := [(4, .int x4_17), (0, .ref b), (1, .int x1), (2, .int x2), (3, .int x3)]) hx hb dX11_measureChains_85 hl (k := 4) rfl (by rw [ex4_17]; rfl) (by decide) rfl (fun ls hl => ?_)
        refine lv_goto (tgt := 41) hx hb dX11_measureChains_88 (by decide) ?_
        exact ih _ _ _ _ _ _ _ _ _ hf hw (lv_sub hl [1, 2, 3, 4, 0] rfl) hexit
      · have hf := yb_neg c_16 hf
        refine lv_aload_n hx hb dX11_measureChains_70 rfl (lv_at hl 0 rfl) ?_
        refine x_getR X hK hw (cw_mem0 hC) (cw_S0 hC) cpX11 13 (by decide) rfl (cw_R hC 0 13 (by decide) rfl) tw_572 dX11_measureChains_71 ?_
        refine lv_iload hx hb dX11_measureChains_74 (lv_at hl 4 rfl) ?_
        refine lv_iconst (v := (1 : Int32)) hx hb dX11_measureChains_76 (by decide) ?_
        refine lv_aload_n hx hb dX11_measureChains_77 rfl (lv_at hl 0 rfl) ?_
        refine lv_iload hx hb dX11_measureChains_78 (lv_at hl 4 rfl) ?_
        obtain ⟨r_18, I_19, J_20, hq_21, hf⟩ := yb_b3_some hf
        refine x_calli X hK hw (c11_longestBelow l D cz ev hC hq_21) (cw_mem0 hC) (cw_S0 hC) cpX11.1 vw_X11_271 ⟨Nat.le_of_ble_eq_true rfl, Nat.le_of_ble_eq_true rfl⟩ rfl rfl (Nat.le_of_ble_eq_true rfl) hl.1 ⟨Nat.le_refl _, Nat.le_refl _⟩ dX11_measureChains_80 (fun H locs hw => ?_)
        refine lv_iadd hx hb dX11_measureChains_83 ?_
        obtain ⟨hi_22, hf⟩ := yb_ck_some hf
        refine x_iast X hK hw (cw_mem hC 74 (by decide)) (cw_S hC 74 rfl) hi_22 rfl dX11_measureChains_84 (fun H locs hw => ?_)
        obtain ⟨I_23, eI_23, hf⟩ := yb_let_ex hf
        have hw := yb_wI eI_23 hw
        obtain ⟨x4_24, ex4_24, hf⟩ := yb_let_ex hf
        refine lv_iinc (v := x4_24) (lv' := [(4, .int x4_24), (0, .ref b), (1, .int x1), (2, .int x2), (3, .int x3)]) hx hb dX11_measureChains_85 hl (k := 4) rfl (by rw [ex4_24]; rfl) (by decide) rfl (fun ls hl => ?_)
        refine lv_goto (tgt := 41) hx hb dX11_measureChains_88 (by decide) ?_
        exact ih _ _ _ _ _ _ _ _ _ hf hw (lv_sub hl [1, 2, 3, 4, 0] rfl) hexit
set_option maxHeartbeats 4000000 in
set_option maxRecDepth 100000 in
theorem w11_measureChains_L33 {p : Program} {l : Launch} {e : Env} {s : State} {m : MethodId} {args : Array Value} {below : List Frame} {meth : Method} {c : Code} {Q : State → Prop} {D : va_G} {cz : Nat → ClassId} {A : Nat → Prop} {ev : Nat × Nat × Nat} {b : Nat} {L : List Nat} {S : ST} {Rf : RT} (hC : CW b L S Rf) (X : CallFix p m c cX11_measureChains 5 s args gw RX11) (hK : KX D cz ev A s) {N : Nat} {x1 : Int32} {x2 : Int32} :
    ∀ (n : Nat) (x3 : Int32) (I : IT) (J : JT) (q : (Unit)) (I1 : IT) (J1 : JT) (H : Heap) (locs : List Loc) (ls : Array Slot), f11_measureChains_L33 N b S Rf x1 x2 n x3 I J = some (q, I1, J1) → WX D cz A L S Rf s.heap I J H locs → lv_has ls 5 [(0, .ref b), (1, .int x1), (2, .int x2), (3, .int x3)] →
    (∀ (H : Heap) (locs : List Loc) (ls : Array Slot), WX D cz A L S Rf s.heap I1 J1 H locs → lv_has ls 5 [] → W p l e (rmX 3 73) s m args below meth c H locs 0 0 Q (F0 m 97 ls [])) →
    W p l e (rmX 3 73) s m args below meth c H locs 0 0 Q (F0 m 33 ls []) := by
  have hx := X.1
  have hb := X.2.1
  intro n
  induction n with
  | zero =>
    intro x3 I J q I1 J1 H locs ls hf
    rw [f11_measureChains_L33] at hf
    cases hf
  | succ n ih =>
    intro x3 I J q I1 J1 H locs ls hf hw hl hexit
    rw [f11_measureChains_L33] at hf
    refine lv_iload_n hx hb dX11_measureChains_33 rfl (lv_at hl 3 rfl) ?_
    refine lv_iload_n hx hb dX11_measureChains_34 rfl (lv_at hl 2 rfl) ?_
    refine lv_icmp_ge (tgt := 97) hx hb dX11_measureChains_35 (by decide) (fun c_10 => ?_) (fun c_10 => ?_)
    · have hf := yb_pos c_10 hf
      obtain ⟨rfl, rfl, rfl⟩ := yb_inj hf
      exact hexit _ _ _ hw (lv_sub hl [] rfl)
    · have hf := yb_neg c_10 hf
      refine lv_iconst (v := (0 : Int32)) hx hb dX11_measureChains_38 (by decide) ?_
      refine lv_istore (lv' := [(4, .int (0 : Int32)), (0, .ref b), (1, .int x1), (2, .int x2), (3, .int x3)]) hx hb dX11_measureChains_39 hl (by decide) rfl (fun ls hl => ?_)
      obtain ⟨q_25, I_26, J_27, hq_28, hf⟩ := yb_b3_some hf
      refine w11_measureChains_L41 hC X hK _ _ _ _ _ _ _ _ _ _ hq_28 hw (lv_sub hl [1, 2, 3, 4, 0] rfl) (fun H locs ls hw hl => ?_)
      obtain ⟨x3_29, ex3_29, hf⟩ := yb_let_ex hf
      refine lv_iinc (v := x3_29) (lv' := [(3, .int x3_29), (0, .ref b), (1, .int x1), (2, .int x2)]) hx hb dX11_measureChains_91 hl (k := 3) rfl (by rw [ex3_29]; rfl) (by decide) rfl (fun ls hl => ?_)
      refine lv_goto (tgt := 33) hx hb dX11_measureChains_94 (by decide) ?_
      exact ih _ _ _ _ _ _ _ _ _ hf hw (lv_sub hl [1, 2, 3, 0] rfl) hexit
set_option maxHeartbeats 4000000 in
set_option maxRecDepth 100000 in
theorem c11_measureChains (l : Launch) (D : va_G) (cz : Nat → ClassId) (ev : Nat × Nat × Nat) {b : Nat} {L : List Nat} {S : ST} {Rf : RT} (hC : CW b L S Rf) {N : Nat} {x1 : Int32} {I : IT} {J : JT} {r : Unit} {I1 : IT} {J1 : JT} (hf : f11_measureChains N b S Rf x1 I J = some (r, I1, J1)) : MTv l D cz ev yX11_measureChains cX11_measureChains 5 (none) 3 73 [.ref b, .int x1] L S Rf I J r I1 J1 := by
  unfold f11_measureChains at hf
  refine MTv_of (by decide) (Nat.le_of_ble_eq_true rfl) ?_
  intro p e s m args below meth c Q ls X hK hw hl hfin
  have X : CallFix p m c cX11_measureChains 5 s args gw RX11 := X
  have hx := X.1
  have hb := X.2.1
  have hl : lv_has ls 5 [(0, .ref b), (1, .int x1)] := hl
  refine lv_aload_n hx hb dX11_measureChains_0 rfl (lv_at hl 0 rfl) ?_
  refine x_getR X hK hw (cw_mem0 hC) (cw_S0 hC) cpX11 3 (by decide) rfl (cw_R hC 0 3 (by decide) rfl) tw_562 dX11_measureChains_1 ?_
  refine x_getR X hK hw (cw_now hC).1.1 (cw_now hC).1.2 cpX8 0 (by decide) rfl (cw_now hC).2.1.1 tw_346 dX11_measureChains_4 ?_
  refine x_getI X hK hw (st_town (cw_now hC)).1.1 (st_town (cw_now hC)).1.2 cpX9 13 (by decide) rfl tw_243 dX11_measureChains_7 ?_
  refine lv_topi (fun x2_1 ex2_1 => ?_)
  have hf := yb_let_to ex2_1 hf
  refine lv_istore_n (lv' := [(2, .int x2_1), (0, .ref b), (1, .int x1)]) hx hb dX11_measureChains_10 rfl hl (by decide) rfl (fun ls hl => ?_)
  refine lv_iconst (v := (0 : Int32)) hx hb dX11_measureChains_11 (by decide) ?_
  refine lv_istore_n (lv' := [(3, .int (0 : Int32)), (2, .int x2_1), (0, .ref b), (1, .int x1)]) hx hb dX11_measureChains_12 rfl hl (by decide) rfl (fun ls hl => ?_)
  obtain ⟨q_6, I_7, J_8, hq_9, hf⟩ := yb_b3_some hf
  refine w11_measureChains_L13 hC X hK _ _ _ _ _ _ _ _ _ _ hq_9 hw (lv_sub hl [2, 3, 1, 0] rfl) (fun H locs ls hw hl => ?_)
  refine lv_iconst (v := (0 : Int32)) hx hb dX11_measureChains_31 (by decide) ?_
  refine lv_istore_n (lv' := [(3, .int (0 : Int32)), (0, .ref b), (1, .int x1), (2, .int x2_1)]) hx hb dX11_measureChains_32 rfl hl (by decide) rfl (fun ls hl => ?_)
  obtain ⟨q_30, I_31, J_32, hq_33, hf⟩ := yb_b3_some hf
  refine w11_measureChains_L33 hC X hK _ _ _ _ _ _ _ _ _ _ hq_33 hw (lv_sub hl [1, 2, 3, 0] rfl) (fun H locs ls hw hl => ?_)
  exact yb_retv hfin hf hw dX11_measureChains_97
set_option maxHeartbeats 4000000 in
set_option maxRecDepth 100000 in
theorem w11_firstBelow_L2 {p : Program} {l : Launch} {e : Env} {s : State} {m : MethodId} {args : Array Value} {below : List Frame} {meth : Method} {c : Code} {Q : State → Prop} {D : va_G} {cz : Nat → ClassId} {A : Nat → Prop} {ev : Nat × Nat × Nat} {b : Nat} {L : List Nat} {S : ST} {Rf : RT} (hC : CW b L S Rf) (X : CallFix p m c cX11_firstBelow 4 s args gw RX11) (hK : KX D cz ev A s) {N : Nat} {x1 : Int32} {x2 : Int32} {rM : Int32} {IM : IT} {JM : JT} :
    ∀ (n : Nat) (x3 : Int32) (I : IT) (J : JT) (q : (Int32 ⊕ (Unit))) (I1 : IT) (J1 : JT) (H : Heap) (locs : List Loc) (ls : Array Slot), f11_firstBelow_L2 N b S Rf x1 x2 n x3 I J = some (q, I1, J1) → WX D cz A L S Rf s.heap I J H locs → lv_has ls 4 [(0, .ref b), (1, .int x1), (2, .int x2), (3, .int x3)] →
    (∀ v, q = .inl v → some (v, I1, J1) = some (rM, IM, JM)) → (∀ (H : Heap) (locs : List Loc) (ls : Array Slot) (pc : Nat), WX D cz A L S Rf s.heap IM JM H locs → decode cX11_firstBelow pc = .ok (.ireturn, 1) → W p l e (rmX 2 44) s m args below meth c H locs 0 0 Q (F0 m pc ls [.int rM])) →
    (∀ xq, q = .inr xq → ∀ (H : Heap) (locs : List Loc) (ls : Array Slot), WX D cz A L S Rf s.heap I1 J1 H locs → lv_has ls 4 [] → W p l e (rmX 2 44) s m args below meth c H locs 0 0 Q (F0 m 43 ls [])) →
    W p l e (rmX 2 44) s m args below meth c H locs 0 0 Q (F0 m 2 ls []) := by
  have hx := X.1
  have hb := X.2.1
  intro n
  induction n with
  | zero =>
    intro x3 I J q I1 J1 H locs ls hf
    rw [f11_firstBelow_L2] at hf
    cases hf
  | succ n ih =>
    intro x3 I J q I1 J1 H locs ls hf hw hl hret hfin hexit
    rw [f11_firstBelow_L2] at hf
    refine lv_iload_n hx hb dX11_firstBelow_2 rfl (lv_at hl 3 rfl) ?_
    refine lv_aload_n hx hb dX11_firstBelow_3 rfl (lv_at hl 0 rfl) ?_
    refine x_getR X hK hw (cw_mem0 hC) (cw_S0 hC) cpX11 3 (by decide) rfl (cw_R hC 0 3 (by decide) rfl) tw_562 dX11_firstBelow_4 ?_
    refine x_getR X hK hw (cw_now hC).1.1 (cw_now hC).1.2 cpX8 0 (by decide) rfl (cw_now hC).2.1.1 tw_346 dX11_firstBelow_7 ?_
    refine x_getI X hK hw (st_town (cw_now hC)).1.1 (st_town (cw_now hC)).1.2 cpX9 13 (by decide) rfl tw_243 dX11_firstBelow_10 ?_
    refine lv_icmp_ge (tgt := 43) hx hb dX11_firstBelow_13 (by decide) (fun c_1 => ?_) (fun c_1 => ?_)
    · have hf := yb_pos c_1 hf
      obtain ⟨rfl, rfl, rfl⟩ := yb_inj hf
      exact hexit _ rfl _ _ _ hw (lv_sub hl [] rfl)
    · have hf := yb_neg c_1 hf
      refine lv_aload_n hx hb dX11_firstBelow_16 rfl (lv_at hl 0 rfl) ?_
      refine x_getR X hK hw (cw_mem0 hC) (cw_S0 hC) cpX11 13 (by decide) rfl (cw_R hC 0 13 (by decide) rfl) tw_572 dX11_firstBelow_17 ?_
      refine lv_iload_n hx hb dX11_firstBelow_20 rfl (lv_at hl 3 rfl) ?_
      obtain ⟨hi_2, hf⟩ := yb_ck_some hf
      refine x_iald X hK hw (cw_mem hC 74 (by decide)) (cw_S hC 74 rfl) hi_2 rfl dX11_firstBelow_21 ?_
      refine lv_iload_n hx hb dX11_firstBelow_22 rfl (lv_at hl 2 rfl) ?_
      refine lv_icmp_ne (tgt := 37) hx hb dX11_firstBelow_23 (by decide) (fun c_3 => ?_) (fun c_3 => ?_)
      · have hf := yb_neg c_3 hf
        obtain ⟨x3_4, ex3_4, hf⟩ := yb_let_ex hf
        refine lv_iinc (v := x3_4) (lv' := [(3, .int x3_4), (0, .ref b), (1, .int x1), (2, .int x2)]) hx hb dX11_firstBelow_37 hl (k := 3) rfl (by rw [ex3_4]; rfl) (by decide) rfl (fun ls hl => ?_)
        refine lv_goto (tgt := 2) hx hb dX11_firstBelow_40 (by decide) ?_
        exact ih _ _ _ _ _ _ _ _ _ hf hw (lv_sub hl [1, 2, 3, 0] rfl) hret hfin hexit
      · have hf := yb_pos c_3 hf
        refine lv_aload_n hx hb dX11_firstBelow_26 rfl (lv_at hl 0 rfl) ?_
        refine lv_iload_n hx hb dX11_firstBelow_27 rfl (lv_at hl 3 rfl) ?_
        refine lv_iload_n hx hb dX11_firstBelow_28 rfl (lv_at hl 1 rfl) ?_
        obtain ⟨r_5, I_6, J_7, hq_8, hf⟩ := yb_b3_some hf
        refine x_calli X hK hw (c11_isBelow l D cz ev hC hq_8) (cw_mem0 hC) (cw_S0 hC) cpX11.1 vw_X11_277 ⟨Nat.le_of_ble_eq_true rfl, Nat.le_of_ble_eq_true rfl⟩ rfl rfl (Nat.le_of_ble_eq_true rfl) hl.1 ⟨Nat.le_refl _, Nat.le_refl _⟩ dX11_firstBelow_29 (fun H locs hw => ?_)
        refine lv_if_eq (tgt := 37) hx hb dX11_firstBelow_32 (by decide) (fun c_9 => ?_) (fun c_9 => ?_)
        · have hf := yb_pos c_9 hf
          obtain ⟨x3_10, ex3_10, hf⟩ := yb_let_ex hf
          refine lv_iinc (v := x3_10) (lv' := [(3, .int x3_10), (0, .ref b), (1, .int x1), (2, .int x2)]) hx hb dX11_firstBelow_37 hl (k := 3) rfl (by rw [ex3_10]; rfl) (by decide) rfl (fun ls hl => ?_)
          refine lv_goto (tgt := 2) hx hb dX11_firstBelow_40 (by decide) ?_
          exact ih _ _ _ _ _ _ _ _ _ hf hw (lv_sub hl [1, 2, 3, 0] rfl) hret hfin hexit
        · have hf := yb_neg c_9 hf
          refine lv_iload_n hx hb dX11_firstBelow_35 rfl (lv_at hl 3 rfl) ?_
          exact yb_reti hfin (yb_inl hret hf) hw dX11_firstBelow_36
set_option maxHeartbeats 4000000 in
set_option maxRecDepth 100000 in
theorem c11_firstBelow (l : Launch) (D : va_G) (cz : Nat → ClassId) (ev : Nat × Nat × Nat) {b : Nat} {L : List Nat} {S : ST} {Rf : RT} (hC : CW b L S Rf) {N : Nat} {x1 : Int32} {x2 : Int32} {I : IT} {J : JT} {r : Int32} {I1 : IT} {J1 : JT} (hf : f11_firstBelow N b S Rf x1 x2 I J = some (r, I1, J1)) : MTi l D cz ev yX11_firstBelow cX11_firstBelow 4 (some .int) 2 44 [.ref b, .int x1, .int x2] L S Rf I J r I1 J1 := by
  unfold f11_firstBelow at hf
  refine MTi_of (by decide) (Nat.le_of_ble_eq_true rfl) ?_
  intro p e s m args below meth c Q ls X hK hw hl hfin
  have X : CallFix p m c cX11_firstBelow 4 s args gw RX11 := X
  have hx := X.1
  have hb := X.2.1
  have hl : lv_has ls 4 [(0, .ref b), (1, .int x1), (2, .int x2)] := hl
  refine lv_iconst (v := (0 : Int32)) hx hb dX11_firstBelow_0 (by decide) ?_
  refine lv_istore_n (lv' := [(3, .int (0 : Int32)), (0, .ref b), (1, .int x1), (2, .int x2)]) hx hb dX11_firstBelow_1 rfl hl (by decide) rfl (fun ls hl => ?_)
  obtain ⟨q_11, I_12, J_13, hq_14, hf⟩ := yb_b3_some hf
  refine w11_firstBelow_L2 hC X hK _ _ _ _ _ _ _ _ _ _ hq_14 hw (lv_sub hl [1, 2, 3, 0] rfl) (fun v hv => by rw [hv] at hf; exact hf) hfin (fun x_16 hx1 H locs ls hw hl => ?_)
  rw [hx1] at hf
  have hf := yb_sm_r hf
  refine lv_bipush (v := (-2 : Int32)) hx hb dX11_firstBelow_43 (by decide) ?_
  exact yb_reti hfin hf hw dX11_firstBelow_45
set_option maxHeartbeats 4000000 in
set_option maxRecDepth 100000 in
theorem w11_down_L73 {p : Program} {l : Launch} {e : Env} {s : State} {m : MethodId} {args : Array Value} {below : List Frame} {meth : Method} {c : Code} {Q : State → Prop} {D : va_G} {cz : Nat → ClassId} {A : Nat → Prop} {ev : Nat × Nat × Nat} {b : Nat} {L : List Nat} {S : ST} {Rf : RT} (hC : CW b L S Rf) (X : CallFix p m c cX11_down 7 s args gw RX11) (hK : KX D cz ev A s) {N : Nat} {x2 : Int32} {x4 : Int32} :
    ∀ (n : Nat) (x5 : Int32) (x6 : Int32) (I : IT) (J : JT) (q : (Int32)) (I1 : IT) (J1 : JT) (H : Heap) (locs : List Loc) (ls : Array Slot), f11_down_L73 N b S Rf x2 x4 n x5 x6 I J = some (q, I1, J1) → WX D cz A L S Rf s.heap I J H locs → lv_has ls 7 [(0, .ref b), (2, .int x2), (4, .int x4), (5, .int x5), (6, .int x6)] →
    (∀ (H : Heap) (locs : List Loc) (ls : Array Slot), WX D cz A L S Rf s.heap I1 J1 H locs → lv_has ls 7 [(5, .int q)] → W p l e (rmX 4 97) s m args below meth c H locs 0 0 Q (F0 m 100 ls [])) →
    W p l e (rmX 4 97) s m args below meth c H locs 0 0 Q (F0 m 73 ls []) := by
  have hx := X.1
  have hb := X.2.1
  intro n
  induction n with
  | zero =>
    intro x5 x6 I J q I1 J1 H locs ls hf
    rw [f11_down_L73] at hf
    cases hf
  | succ n ih =>
    intro x5 x6 I J q I1 J1 H locs ls hf hw hl hexit
    rw [f11_down_L73] at hf
    refine lv_iload hx hb dX11_down_73 (lv_at hl 4 rfl) ?_
    refine lv_iload_n hx hb dX11_down_75 rfl (lv_at hl 1 rfl) ?_
    refine lv_icmp_gt (tgt := 100) hx hb dX11_down_76 (by decide) (fun c_20 => ?_) (fun c_20 => ?_)
    · have hf := yb_pos c_20 hf
      obtain ⟨rfl, rfl, rfl⟩ := yb_inj hf
      exact hexit _ _ _ hw (lv_sub hl [3] rfl)
    · have hf := yb_neg c_20 hf
      refine lv_aload_n hx hb dX11_down_79 rfl (lv_at hl 0 rfl) ?_
      refine lv_iload hx hb dX11_down_80 (lv_at hl 3 rfl) ?_
      refine lv_iload hx hb dX11_down_82 (lv_at hl 2 rfl) ?_
      refine lv_iload hx hb dX11_down_84 (lv_at hl 4 rfl) ?_
      refine lv_isub hx hb dX11_down_86 ?_
      refine lv_iconst (v := (1 : Int32)) hx hb dX11_down_87 (by decide) ?_
      refine lv_iadd hx hb dX11_down_88 ?_
      obtain ⟨r_21, I_22, J_23, hq_24, hf⟩ := yb_b3_some hf
      refine x_calli X hK hw (c11_firstBelow l D cz ev hC hq_24) (cw_mem0 hC) (cw_S0 hC) cpX11.1 vw_X11_274 ⟨Nat.le_of_ble_eq_true rfl, Nat.le_of_ble_eq_true rfl⟩ rfl rfl (Nat.le_of_ble_eq_true rfl) hl.1 ⟨Nat.le_refl _, Nat.le_refl _⟩ dX11_down_89 (fun H locs hw => ?_)
      refine lv_istore (lv' := [(5, .int r_21), (0, .ref b), (2, .int x2), (4, .int x4), (6, .int x6)]) hx hb dX11_down_92 hl (by decide) rfl (fun ls hl => ?_)
      obtain ⟨x6_25, ex6_25, hf⟩ := yb_let_ex hf
      refine lv_iinc (v := x6_25) (lv' := [(6, .int x6_25), (5, .int r_21), (0, .ref b), (2, .int x2), (4, .int x4)]) hx hb dX11_down_94 hl (k := 4) rfl (by rw [ex6_25]; rfl) (by decide) rfl (fun ls hl => ?_)
      refine lv_goto (tgt := 73) hx hb dX11_down_97 (by decide) ?_
      exact ih _ _ _ _ _ _ _ _ _ _ hf hw (lv_sub hl [2, 3, 4, 1, 0] rfl) hexit
set_option maxHeartbeats 4000000 in
set_option maxRecDepth 100000 in
theorem c11_down (l : Launch) (D : va_G) (cz : Nat → ClassId) (ev : Nat × Nat × Nat) {b : Nat} {L : List Nat} {S : ST} {Rf : RT} (hC : CW b L S Rf) {N : Nat} {x1 : Int32} {x2 : Int32} {I : IT} {J : JT} {r : Int32} {I1 : IT} {J1 : JT} (hf : f11_down N b S Rf x1 x2 I J = some (r, I1, J1)) : MTi l D cz ev yX11_down cX11_down 7 (some .int) 4 97 [.ref b, .int x1, .int x2] L S Rf I J r I1 J1 := by
  unfold f11_down at hf
  refine MTi_of (by decide) (Nat.le_of_ble_eq_true rfl) ?_
  intro p e s m args below meth c Q ls X hK hw hl hfin
  have X : CallFix p m c cX11_down 7 s args gw RX11 := X
  have hx := X.1
  have hb := X.2.1
  have hl : lv_has ls 7 [(0, .ref b), (1, .int x1), (2, .int x2)] := hl
  refine lv_aload_n hx hb dX11_down_0 rfl (lv_at hl 0 rfl) ?_
  refine x_getR X hK hw (cw_mem0 hC) (cw_S0 hC) cpX11 3 (by decide) rfl (cw_R hC 0 3 (by decide) rfl) tw_562 dX11_down_1 ?_
  refine x_getR X hK hw (cw_now hC).1.1 (cw_now hC).1.2 cpX8 0 (by decide) rfl (cw_now hC).2.1.1 tw_346 dX11_down_4 ?_
  refine lv_iload_n hx hb dX11_down_7 rfl (lv_at hl 1 rfl) ?_
  obtain ⟨r_1, I_2, J_3, hq_4, hf⟩ := yb_b3_some hf
  refine x_calli X hK hw (c9_hasCase l D cz ev hC (st_town (cw_now hC)) hq_4) (st_town (cw_now hC)).1.1 (st_town (cw_now hC)).1.2 cpX9.1 vw_X11_186 ⟨Nat.le_of_ble_eq_true rfl, Nat.le_of_ble_eq_true rfl⟩ rfl rfl (Nat.le_of_ble_eq_true rfl) hl.1 ⟨Nat.le_refl _, Nat.le_refl _⟩ dX11_down_8 (fun H locs hw => ?_)
  refine lv_if_eq (tgt := 24) hx hb dX11_down_11 (by decide) (fun c_5 => ?_) (fun c_5 => ?_)
  · have hf := yb_pos c_5 hf
    refine lv_iconst (v := (-1 : Int32)) hx hb dX11_down_24 (by decide) ?_
    exact yb_reti hfin hf hw dX11_down_25
  · have hf := yb_neg c_5 hf
    refine lv_iload_n hx hb dX11_down_14 rfl (lv_at hl 2 rfl) ?_
    refine lv_if_lt (tgt := 24) hx hb dX11_down_15 (by decide) (fun c_6 => ?_) (fun c_6 => ?_)
    · have hf := yb_pos c_6 hf
      refine lv_iconst (v := (-1 : Int32)) hx hb dX11_down_24 (by decide) ?_
      exact yb_reti hfin hf hw dX11_down_25
    · have hf := yb_neg c_6 hf
      refine lv_iload_n hx hb dX11_down_18 rfl (lv_at hl 2 rfl) ?_
      refine lv_bipush (v := (7 : Int32)) hx hb dX11_down_19 (by decide) ?_
      refine lv_icmp_le (tgt := 26) hx hb dX11_down_21 (by decide) (fun c_7 => ?_) (fun c_7 => ?_)
      · have hf := yb_pos c_7 hf
        refine lv_aload_n hx hb dX11_down_26 rfl (lv_at hl 0 rfl) ?_
        refine lv_iload_n hx hb dX11_down_27 rfl (lv_at hl 1 rfl) ?_
        obtain ⟨r_8, I_9, J_10, hq_11, hf⟩ := yb_b3_some hf
        refine x_callv X hK hw (c11_measureChains l D cz ev hC hq_11) (cw_mem0 hC) (cw_S0 hC) cpX11.1 vw_X11_268 ⟨Nat.le_of_ble_eq_true rfl, Nat.le_of_ble_eq_true rfl⟩ rfl rfl (Nat.le_of_ble_eq_true rfl) hl.1 ⟨Nat.le_refl _, Nat.le_refl _⟩ dX11_down_28 (fun H locs hw => ?_)
        refine lv_aload_n hx hb dX11_down_31 rfl (lv_at hl 0 rfl) ?_
        refine x_getR X hK hw (cw_mem0 hC) (cw_S0 hC) cpX11 3 (by decide) rfl (cw_R hC 0 3 (by decide) rfl) tw_562 dX11_down_32 ?_
        refine x_getR X hK hw (cw_now hC).1.1 (cw_now hC).1.2 cpX8 1 (by decide) rfl (cw_now hC).2.2.1.1 tw_351 dX11_down_35 ?_
        refine x_getR X hK hw (st_course (cw_now hC)).1.1 (st_course (cw_now hC)).1.2 cpX0 5 (by decide) rfl (ca_R (st_course (cw_now hC)) 5 (by decide)) tw_308 dX11_down_38 ?_
        refine lv_iload_n hx hb dX11_down_41 rfl (lv_at hl 1 rfl) ?_
        obtain ⟨hi_12, hf⟩ := yb_ck_some hf
        refine x_iald X hK hw (ca_mem (st_course (cw_now hC)) 5 (by decide)) (ca_S (st_course (cw_now hC)) 5 rfl) hi_12 rfl dX11_down_42 ?_
        refine lv_topi (fun x3_13 ex3_13 => ?_)
        have hf := yb_let_to ex3_13 hf
        refine lv_istore_n (lv' := [(3, .int x3_13), (0, .ref b), (1, .int x1), (2, .int x2)]) hx hb dX11_down_43 rfl hl (by decide) rfl (fun ls hl => ?_)
        refine lv_aload_n hx hb dX11_down_44 rfl (lv_at hl 1 rfl) ?_
        refine lv_iload_n hx hb dX11_down_45 rfl (lv_at hl 0 rfl) ?_
        obtain ⟨r_14, I_15, J_16, hq_17, hf⟩ := yb_b3_some hf
        refine x_calli X hK hw (c11_longestBelow l D cz ev hC hq_17) (cw_mem0 hC) (cw_S0 hC) cpX11.1 vw_X11_271 ⟨Nat.le_of_ble_eq_true rfl, Nat.le_of_ble_eq_true rfl⟩ rfl rfl (Nat.le_of_ble_eq_true rfl) hl.1 ⟨Nat.le_refl _, Nat.le_refl _⟩ dX11_down_46 (fun H locs hw => ?_)
        refine lv_istore (lv' := [(4, .int r_14), (3, .int x3_13), (0, .ref b), (1, .int x1), (2, .int x2)]) hx hb dX11_down_49 hl (by decide) rfl (fun ls hl => ?_)
        refine lv_iload_n hx hb dX11_down_51 rfl (lv_at hl 4 rfl) ?_
        refine lv_if_ne (tgt := 58) hx hb dX11_down_52 (by decide) (fun c_18 => ?_) (fun c_18 => ?_)
        · have hf := yb_neg c_18 hf
          refine lv_iload_n hx hb dX11_down_58 rfl (lv_at hl 4 rfl) ?_
          refine lv_iload hx hb dX11_down_59 (lv_at hl 0 rfl) ?_
          refine lv_icmp_le (tgt := 67) hx hb dX11_down_61 (by decide) (fun c_19 => ?_) (fun c_19 => ?_)
          · have hf := yb_pos c_19 hf
            refine lv_iload_n hx hb dX11_down_67 rfl (lv_at hl 1 rfl) ?_
            refine lv_istore (lv' := [(5, .int x3_13), (4, .int r_14), (3, .int x3_13), (0, .ref b), (1, .int x1), (2, .int x2)]) hx hb dX11_down_68 hl (by decide) rfl (fun ls hl => ?_)
            refine lv_iconst (v := (1 : Int32)) hx hb dX11_down_70 (by decide) ?_
            refine lv_istore (lv' := [(6, .int (1 : Int32)), (5, .int x3_13), (4, .int r_14), (3, .int x3_13), (0, .ref b), (1, .int x1), (2, .int x2)]) hx hb dX11_down_71 hl (by decide) rfl (fun ls hl => ?_)
            obtain ⟨q_26, I_27, J_28, hq_29, hf⟩ := yb_b3_some hf
            refine w11_down_L73 hC X hK _ _ _ _ _ _ _ _ _ _ _ hq_29 hw (lv_sub hl [4, 6, 2, 1, 0] rfl) (fun H locs ls hw hl => ?_)
            refine lv_iload hx hb dX11_down_100 (lv_at hl 0 rfl) ?_
            exact yb_reti hfin hf hw dX11_down_102
          · have hf := yb_neg c_19 hf
            refine lv_bipush (v := (-2 : Int32)) hx hb dX11_down_64 (by decide) ?_
            exact yb_reti hfin hf hw dX11_down_66
        · have hf := yb_pos c_18 hf
          refine lv_iload hx hb dX11_down_55 (lv_at hl 0 rfl) ?_
          exact yb_reti hfin hf hw dX11_down_57
      · have hf := yb_neg c_7 hf
        refine lv_iconst (v := (-1 : Int32)) hx hb dX11_down_24 (by decide) ?_
        exact yb_reti hfin hf hw dX11_down_25
set_option maxHeartbeats 4000000 in
set_option maxRecDepth 100000 in
theorem c11_isDigit (l : Launch) (D : va_G) (cz : Nat → ClassId) (ev : Nat × Nat × Nat) {b : Nat} {L : List Nat} {S : ST} {Rf : RT} (hC : CW b L S Rf) {x0 : Int32} {I : IT} {J : JT} {r : Int32} {I1 : IT} {J1 : JT} (hf : f11_isDigit b S Rf x0 I J = some (r, I1, J1)) : MTi l D cz ev yX11_isDigit cX11_isDigit 1 (some .boolean) 0 0 [.int x0] L S Rf I J r I1 J1 := by
  unfold f11_isDigit at hf
  refine MTz_of (by decide) (Nat.le_of_ble_eq_true rfl) ?_
  intro p e s m args below meth c Q ls X hK hw hl hfin
  have X : CallFix p m c cX11_isDigit 1 s args gw RX11 := X
  have hx := X.1
  have hb := X.2.1
  have hl : lv_has ls 1 [(0, .int x0)] := hl
  refine lv_iload_n hx hb dX11_isDigit_0 rfl (lv_at hl 0 rfl) ?_
  refine lv_iconst (v := (1 : Int32)) hx hb dX11_isDigit_1 (by decide) ?_
  refine lv_icmp_lt (tgt := 15) hx hb dX11_isDigit_2 (by decide) (fun c_1 => ?_) (fun c_1 => ?_)
  · have hf := yb_pos c_1 hf
    refine lv_iconst (v := (0 : Int32)) hx hb dX11_isDigit_15 (by decide) ?_
    exact yb_retz hfin (by decide) hf hw dX11_isDigit_16
  · have hf := yb_neg c_1 hf
    refine lv_iload_n hx hb dX11_isDigit_5 rfl (lv_at hl 0 rfl) ?_
    refine lv_bipush (v := (9 : Int32)) hx hb dX11_isDigit_6 (by decide) ?_
    refine lv_icmp_gt (tgt := 15) hx hb dX11_isDigit_8 (by decide) (fun c_2 => ?_) (fun c_2 => ?_)
    · have hf := yb_pos c_2 hf
      refine lv_iconst (v := (0 : Int32)) hx hb dX11_isDigit_15 (by decide) ?_
      exact yb_retz hfin (by decide) hf hw dX11_isDigit_16
    · have hf := yb_neg c_2 hf
      refine lv_iconst (v := (1 : Int32)) hx hb dX11_isDigit_11 (by decide) ?_
      refine lv_goto (tgt := 16) hx hb dX11_isDigit_12 (by decide) ?_
      exact yb_retz hfin (by decide) hf hw dX11_isDigit_16
set_option maxHeartbeats 4000000 in
set_option maxRecDepth 100000 in
theorem w11_mostRight_L6 {p : Program} {l : Launch} {e : Env} {s : State} {m : MethodId} {args : Array Value} {below : List Frame} {meth : Method} {c : Code} {Q : State → Prop} {D : va_G} {cz : Nat → ClassId} {A : Nat → Prop} {ev : Nat × Nat × Nat} {b : Nat} {L : List Nat} {S : ST} {Rf : RT} (hC : CW b L S Rf) (X : CallFix p m c cX11_mostRight 6 s args gw RX11) (hK : KX D cz ev A s) {N : Nat} {x1 : Int32} {x2 : Int32} {x3 : Int32} :
    ∀ (n : Nat) (x4 : Int32) (x5 : Int32) (I : IT) (J : JT) (q : (Int32)) (I1 : IT) (J1 : JT) (H : Heap) (locs : List Loc) (ls : Array Slot), f11_mostRight_L6 N b S Rf x1 x2 x3 n x4 x5 I J = some (q, I1, J1) → WX D cz A L S Rf s.heap I J H locs → lv_has ls 6 [(0, .ref b), (1, .int x1), (2, .int x2), (3, .int x3), (4, .int x4), (5, .int x5)] →
    (∀ (H : Heap) (locs : List Loc) (ls : Array Slot), WX D cz A L S Rf s.heap I1 J1 H locs → lv_has ls 6 [(4, .int q)] → W p l e (rmX 3 77) s m args below meth c H locs 0 0 Q (F0 m 72 ls [])) →
    W p l e (rmX 3 77) s m args below meth c H locs 0 0 Q (F0 m 6 ls []) := by
  have hx := X.1
  have hb := X.2.1
  intro n
  induction n with
  | zero =>
    intro x4 x5 I J q I1 J1 H locs ls hf
    rw [f11_mostRight_L6] at hf
    cases hf
  | succ n ih =>
    intro x4 x5 I J q I1 J1 H locs ls hf hw hl hexit
    rw [f11_mostRight_L6] at hf
    refine lv_iload hx hb dX11_mostRight_6 (lv_at hl 5 rfl) ?_
    refine lv_aload_n hx hb dX11_mostRight_8 rfl (lv_at hl 0 rfl) ?_
    refine x_getR X hK hw (cw_mem0 hC) (cw_S0 hC) cpX11 3 (by decide) rfl (cw_R hC 0 3 (by decide) rfl) tw_562 dX11_mostRight_9 ?_
    refine x_getR X hK hw (cw_now hC).1.1 (cw_now hC).1.2 cpX8 0 (by decide) rfl (cw_now hC).2.1.1 tw_346 dX11_mostRight_12 ?_
    refine x_getI X hK hw (st_town (cw_now hC)).1.1 (st_town (cw_now hC)).1.2 cpX9 13 (by decide) rfl tw_243 dX11_mostRight_15 ?_
    refine lv_icmp_ge (tgt := 72) hx hb dX11_mostRight_18 (by decide) (fun c_1 => ?_) (fun c_1 => ?_)
    · have hf := yb_pos c_1 hf
      obtain ⟨rfl, rfl, rfl⟩ := yb_inj hf
      exact hexit _ _ _ hw (lv_sub hl [4] rfl)
    · have hf := yb_neg c_1 hf
      refine lv_aload_n hx hb dX11_mostRight_21 rfl (lv_at hl 0 rfl) ?_
      refine x_getR X hK hw (cw_mem0 hC) (cw_S0 hC) cpX11 6 (by decide) rfl (cw_R hC 0 6 (by decide) rfl) tw_565 dX11_mostRight_22 ?_
      refine lv_iload hx hb dX11_mostRight_25 (lv_at hl 5 rfl) ?_
      refine lv_iload_n hx hb dX11_mostRight_27 rfl (lv_at hl 1 rfl) ?_
      refine lv_iload_n hx hb dX11_mostRight_28 rfl (lv_at hl 2 rfl) ?_
      refine lv_iload_n hx hb dX11_mostRight_29 rfl (lv_at hl 3 rfl) ?_
      obtain ⟨r_2, I_3, J_4, hq_5, hf⟩ := yb_b3_some hf
      refine x_calli X hK hw (c1_canSit l D cz ev hC hq_5) (cw_mem hC 30 (by decide)) (cw_S hC 30 rfl) cpX1.1 vw_X11_299 ⟨Nat.le_of_ble_eq_true rfl, Nat.le_of_ble_eq_true rfl⟩ rfl rfl (Nat.le_of_ble_eq_true rfl) hl.1 ⟨Nat.le_refl _, Nat.le_refl _⟩ dX11_mostRight_30 (fun H locs hw => ?_)
      refine lv_if_eq (tgt := 66) hx hb dX11_mostRight_33 (by decide) (fun c_6 => ?_) (fun c_6 => ?_)
      · have hf := yb_pos c_6 hf
        obtain ⟨x5_7, ex5_7, hf⟩ := yb_let_ex hf
        refine lv_iinc (v := x5_7) (lv' := [(5, .int x5_7), (0, .ref b), (1, .int x1), (2, .int x2), (3, .int x3), (4, .int x4)]) hx hb dX11_mostRight_66 hl (k := 5) rfl (by rw [ex5_7]; rfl) (by decide) rfl (fun ls hl => ?_)
        refine lv_goto (tgt := 6) hx hb dX11_mostRight_69 (by decide) ?_
        exact ih _ _ _ _ _ _ _ _ _ _ hf hw (lv_sub hl [1, 2, 3, 4, 5, 0] rfl) hexit
      · have hf := yb_neg c_6 hf
        refine lv_iload hx hb dX11_mostRight_36 (lv_at hl 4 rfl) ?_
        refine lv_aload_n hx hb dX11_mostRight_38 rfl (lv_at hl 0 rfl) ?_
        refine x_getR X hK hw (cw_mem0 hC) (cw_S0 hC) cpX11 6 (by decide) rfl (cw_R hC 0 6 (by decide) rfl) tw_565 dX11_mostRight_39 ?_
        refine lv_iload hx hb dX11_mostRight_42 (lv_at hl 5 rfl) ?_
        refine lv_iload_n hx hb dX11_mostRight_44 rfl (lv_at hl 3 rfl) ?_
        refine lv_aload_n hx hb dX11_mostRight_45 rfl (lv_at hl 0 rfl) ?_
        refine x_getR X hK hw (cw_mem0 hC) (cw_S0 hC) cpX11 3 (by decide) rfl (cw_R hC 0 3 (by decide) rfl) tw_562 dX11_mostRight_46 ?_
        refine x_getR X hK hw (cw_now hC).1.1 (cw_now hC).1.2 cpX8 1 (by decide) rfl (cw_now hC).2.2.1.1 tw_351 dX11_mostRight_49 ?_
        refine x_getR X hK hw (st_course (cw_now hC)).1.1 (st_course (cw_now hC)).1.2 cpX0 1 (by decide) rfl (ca_R (st_course (cw_now hC)) 1 (by decide)) tw_294 dX11_mostRight_52 ?_
        refine lv_iload hx hb dX11_mostRight_55 (lv_at hl 5 rfl) ?_
        obtain ⟨hi_8, hf⟩ := yb_ck_some hf
        refine x_iald X hK hw (ca_mem (st_course (cw_now hC)) 1 (by decide)) (ca_S (st_course (cw_now hC)) 1 rfl) hi_8 rfl dX11_mostRight_57 ?_
        obtain ⟨r_9, I_10, J_11, hq_12, hf⟩ := yb_b3_some hf
        refine x_calli X hK hw (c1_rightOf l D cz ev hC hq_12) (cw_mem hC 30 (by decide)) (cw_S hC 30 rfl) cpX1.1 vw_X11_303 ⟨Nat.le_of_ble_eq_true rfl, Nat.le_of_ble_eq_true rfl⟩ rfl rfl (Nat.le_of_ble_eq_true rfl) hl.1 ⟨Nat.le_refl _, Nat.le_refl _⟩ dX11_mostRight_58 (fun H locs hw => ?_)
        refine va_mmax hx hb (X.2.2.1.trans hl.1.symm) X.2.2.2.1 (X.2.2.2.2 _ tw_1115) (X.2.2.2.2 _ tw_1096) (X.2.2.2.2 _ tw_131) (X.2.2.2.2 _ tw_1097) (Nat.le_of_ble_eq_true rfl) (Nat.le_of_ble_eq_true rfl) (Nat.le_refl _) (Nat.le_refl _) dX11_mostRight_61 ?_
        refine lv_topi (fun x4_13 ex4_13 => ?_)
        have hf := yb_let_to ex4_13 hf
        refine lv_istore (lv' := [(4, .int x4_13), (0, .ref b), (1, .int x1), (2, .int x2), (3, .int x3), (5, .int x5)]) hx hb dX11_mostRight_64 hl (by decide) rfl (fun ls hl => ?_)
        obtain ⟨x5_14, ex5_14, hf⟩ := yb_let_ex hf
        refine lv_iinc (v := x5_14) (lv' := [(5, .int x5_14), (4, .int x4_13), (0, .ref b), (1, .int x1), (2, .int x2), (3, .int x3)]) hx hb dX11_mostRight_66 hl (k := 5) rfl (by rw [ex5_14]; rfl) (by decide) rfl (fun ls hl => ?_)
        refine lv_goto (tgt := 6) hx hb dX11_mostRight_69 (by decide) ?_
        exact ih _ _ _ _ _ _ _ _ _ _ hf hw (lv_sub hl [2, 3, 4, 5, 1, 0] rfl) hexit
set_option maxHeartbeats 4000000 in
set_option maxRecDepth 100000 in
theorem c11_mostRight (l : Launch) (D : va_G) (cz : Nat → ClassId) (ev : Nat × Nat × Nat) {b : Nat} {L : List Nat} {S : ST} {Rf : RT} (hC : CW b L S Rf) {N : Nat} {x1 : Int32} {x2 : Int32} {x3 : Int32} {I : IT} {J : JT} {r : Int32} {I1 : IT} {J1 : JT} (hf : f11_mostRight N b S Rf x1 x2 x3 I J = some (r, I1, J1)) : MTi l D cz ev yX11_mostRight cX11_mostRight 6 (some .int) 3 77 [.ref b, .int x1, .int x2, .int x3] L S Rf I J r I1 J1 := by
  unfold f11_mostRight at hf
  refine MTi_of (by decide) (Nat.le_of_ble_eq_true rfl) ?_
  intro p e s m args below meth c Q ls X hK hw hl hfin
  have X : CallFix p m c cX11_mostRight 6 s args gw RX11 := X
  have hx := X.1
  have hb := X.2.1
  have hl : lv_has ls 6 [(0, .ref b), (1, .int x1), (2, .int x2), (3, .int x3)] := hl
  refine lv_iconst (v := (0 : Int32)) hx hb dX11_mostRight_0 (by decide) ?_
  refine lv_istore (lv' := [(4, .int (0 : Int32)), (0, .ref b), (1, .int x1), (2, .int x2), (3, .int x3)]) hx hb dX11_mostRight_1 hl (by decide) rfl (fun ls hl => ?_)
  refine lv_iconst (v := (0 : Int32)) hx hb dX11_mostRight_3 (by decide) ?_
  refine lv_istore (lv' := [(5, .int (0 : Int32)), (4, .int (0 : Int32)), (0, .ref b), (1, .int x1), (2, .int x2), (3, .int x3)]) hx hb dX11_mostRight_4 hl (by decide) rfl (fun ls hl => ?_)
  obtain ⟨q_15, I_16, J_17, hq_18, hf⟩ := yb_b3_some hf
  refine w11_mostRight_L6 hC X hK _ _ _ _ _ _ _ _ _ _ _ hq_18 hw (lv_sub hl [2, 3, 4, 5, 1, 0] rfl) (fun H locs ls hw hl => ?_)
  refine lv_iload hx hb dX11_mostRight_72 (lv_at hl 0 rfl) ?_
  exact yb_reti hfin hf hw dX11_mostRight_74
set_option maxHeartbeats 4000000 in
set_option maxRecDepth 100000 in
theorem w11_commit_L101 {p : Program} {l : Launch} {e : Env} {s : State} {m : MethodId} {args : Array Value} {below : List Frame} {meth : Method} {c : Code} {Q : State → Prop} {D : va_G} {cz : Nat → ClassId} {A : Nat → Prop} {ev : Nat × Nat × Nat} {b : Nat} {L : List Nat} {S : ST} {Rf : RT} (hC : CW b L S Rf) (X : CallFix p m c cX11_commit 12 s args gw RX11) (hK : KX D cz ev A s) {N : Nat} {x1 : Int32} {x3 : Int32} {x4 : Int32} {x5 : Int32} {x7 : Int32} :
    ∀ (n : Nat) (x8 : Int32) (x9 : Int32) (x10 : Int32) (I : IT) (J : JT) (q : (Int32 × Int32)) (I1 : IT) (J1 : JT) (H : Heap) (locs : List Loc) (ls : Array Slot), f11_commit_L101 N b S Rf x1 x3 x4 x5 x7 n x8 x9 x10 I J = some (q, I1, J1) → WX D cz A L S Rf s.heap I J H locs → lv_has ls 12 [(0, .ref b), (1, .int x1), (3, .int x3), (4, .int x4), (5, .int x5), (7, .int x7), (8, .int x8), (9, .int x9), (10, .int x10)] →
    (∀ (H : Heap) (locs : List Loc) (ls : Array Slot), WX D cz A L S Rf s.heap I1 J1 H locs → lv_has ls 12 [(5, .int x5), (8, .int q.1), (9, .int q.2)] → W p l e (rmX 4 102) s m args below meth c H locs 0 0 Q (F0 m 142 ls [])) →
    W p l e (rmX 4 102) s m args below meth c H locs 0 0 Q (F0 m 101 ls []) := by
  have hx := X.1
  have hb := X.2.1
  intro n
  induction n with
  | zero =>
    intro x8 x9 x10 I J q I1 J1 H locs ls hf
    rw [f11_commit_L101] at hf
    cases hf
  | succ n ih =>
    intro x8 x9 x10 I J q I1 J1 H locs ls hf hw hl hexit
    rw [f11_commit_L101] at hf
    refine lv_iload hx hb dX11_commit_101 (lv_at hl 8 rfl) ?_
    refine lv_iload hx hb dX11_commit_103 (lv_at hl 5 rfl) ?_
    refine lv_iload hx hb dX11_commit_105 (lv_at hl 3 rfl) ?_
    refine lv_iadd hx hb dX11_commit_107 ?_
    refine lv_icmp_ge (tgt := 142) hx hb dX11_commit_108 (by decide) (fun c_29 => ?_) (fun c_29 => ?_)
    · have hf := yb_pos c_29 hf
      obtain ⟨rfl, rfl, rfl⟩ := yb_inj hf
      exact hexit _ _ _ hw (lv_sub hl [4, 6, 7] rfl)
    · have hf := yb_neg c_29 hf
      refine lv_aload_n hx hb dX11_commit_111 rfl (lv_at hl 0 rfl) ?_
      refine lv_iload_n hx hb dX11_commit_112 rfl (lv_at hl 1 rfl) ?_
      refine lv_iload_n hx hb dX11_commit_113 rfl (lv_at hl 2 rfl) ?_
      refine lv_iload hx hb dX11_commit_114 (lv_at hl 8 rfl) ?_
      obtain ⟨r_30, I_31, J_32, hq_33, hf⟩ := yb_b3_some hf
      refine x_calli X hK hw (c11_mostRight l D cz ev hC hq_33) (cw_mem0 hC) (cw_S0 hC) cpX11.1 vw_X11_295 ⟨Nat.le_of_ble_eq_true rfl, Nat.le_of_ble_eq_true rfl⟩ rfl rfl (Nat.le_of_ble_eq_true rfl) hl.1 ⟨Nat.le_refl _, Nat.le_refl _⟩ dX11_commit_116 (fun H locs hw => ?_)
      refine lv_istore (lv' := [(11, .int r_30), (0, .ref b), (1, .int x1), (3, .int x3), (4, .int x4), (5, .int x5), (7, .int x7), (8, .int x8), (9, .int x9), (10, .int x10)]) hx hb dX11_commit_119 hl (by decide) rfl (fun ls hl => ?_)
      refine lv_iload hx hb dX11_commit_121 (lv_at hl 0 rfl) ?_
      refine lv_iload hx hb dX11_commit_123 (lv_at hl 8 rfl) ?_
      refine lv_icmp_ge (tgt := 136) hx hb dX11_commit_125 (by decide) (fun c_34 => ?_) (fun c_34 => ?_)
      · have hf := yb_pos c_34 hf
        obtain ⟨x10_35, ex10_35, hf⟩ := yb_let_ex hf
        refine lv_iinc (v := x10_35) (lv' := [(10, .int x10_35), (11, .int r_30), (0, .ref b), (1, .int x1), (3, .int x3), (4, .int x4), (5, .int x5), (7, .int x7), (8, .int x8), (9, .int x9)]) hx hb dX11_commit_136 hl (k := 9) rfl (by rw [ex10_35]; rfl) (by decide) rfl (fun ls hl => ?_)
        refine lv_goto (tgt := 101) hx hb dX11_commit_139 (by decide) ?_
        exact ih _ _ _ _ _ _ _ _ _ _ _ hf hw (lv_sub hl [2, 3, 4, 5, 6, 7, 8, 9, 0] rfl) hexit
      · have hf := yb_neg c_34 hf
        refine lv_iload hx hb dX11_commit_128 (lv_at hl 0 rfl) ?_
        refine lv_istore (lv' := [(9, .int r_30), (11, .int r_30), (0, .ref b), (1, .int x1), (3, .int x3), (4, .int x4), (5, .int x5), (7, .int x7), (8, .int x8), (10, .int x10)]) hx hb dX11_commit_130 hl (by decide) rfl (fun ls hl => ?_)
        refine lv_iload hx hb dX11_commit_132 (lv_at hl 9 rfl) ?_
        refine lv_istore (lv' := [(8, .int x10), (9, .int r_30), (11, .int r_30), (0, .ref b), (1, .int x1), (3, .int x3), (4, .int x4), (5, .int x5), (7, .int x7), (10, .int x10)]) hx hb dX11_commit_134 hl (by decide) rfl (fun ls hl => ?_)
        obtain ⟨x10_36, ex10_36, hf⟩ := yb_let_ex hf
        refine lv_iinc (v := x10_36) (lv' := [(10, .int x10_36), (8, .int x10), (9, .int r_30), (11, .int r_30), (0, .ref b), (1, .int x1), (3, .int x3), (4, .int x4), (5, .int x5), (7, .int x7)]) hx hb dX11_commit_136 hl (k := 9) rfl (by rw [ex10_36]; rfl) (by decide) rfl (fun ls hl => ?_)
        refine lv_goto (tgt := 101) hx hb dX11_commit_139 (by decide) ?_
        exact ih _ _ _ _ _ _ _ _ _ _ _ hf hw (lv_sub hl [4, 5, 6, 7, 8, 9, 1, 2, 0] rfl) hexit
set_option maxHeartbeats 4000000 in
set_option maxRecDepth 100000 in
theorem c11_commit (l : Launch) (D : va_G) (cz : Nat → ClassId) (ev : Nat × Nat × Nat) {b : Nat} {L : List Nat} {S : ST} {Rf : RT} (hC : CW b L S Rf) {N : Nat} {x1 : Int32} {x2 : Int32} {x3 : Int32} {x4 : Int32} {x5 : Int32} {I : IT} {J : JT} {r : Int32} {I1 : IT} {J1 : JT} (hf : f11_commit N b S Rf x1 x2 x3 x4 x5 I J = some (r, I1, J1)) : MTi l D cz ev yX11_commit cX11_commit 12 (some .int) 4 102 [.ref b, .int x1, .int x2, .int x3, .int x4, .int x5] L S Rf I J r I1 J1 := by
  unfold f11_commit at hf
  refine MTi_of (by decide) (Nat.le_of_ble_eq_true rfl) ?_
  intro p e s m args below meth c Q ls X hK hw hl hfin
  have X : CallFix p m c cX11_commit 12 s args gw RX11 := X
  have hx := X.1
  have hb := X.2.1
  have hl : lv_has ls 12 [(0, .ref b), (1, .int x1), (2, .int x2), (3, .int x3), (4, .int x4), (5, .int x5)] := hl
  refine lv_aload_n hx hb dX11_commit_0 rfl (lv_at hl 0 rfl) ?_
  refine x_getR X hK hw (cw_mem0 hC) (cw_S0 hC) cpX11 3 (by decide) rfl (cw_R hC 0 3 (by decide) rfl) tw_562 dX11_commit_1 ?_
  refine x_getR X hK hw (cw_now hC).1.1 (cw_now hC).1.2 cpX8 0 (by decide) rfl (cw_now hC).2.1.1 tw_346 dX11_commit_4 ?_
  refine lv_iload_n hx hb dX11_commit_7 rfl (lv_at hl 1 rfl) ?_
  obtain ⟨r_1, I_2, J_3, hq_4, hf⟩ := yb_b3_some hf
  refine x_calli X hK hw (c9_hasPerson l D cz ev hC (st_town (cw_now hC)) hq_4) (st_town (cw_now hC)).1.1 (st_town (cw_now hC)).1.2 cpX9.1 vw_X11_151 ⟨Nat.le_of_ble_eq_true rfl, Nat.le_of_ble_eq_true rfl⟩ rfl rfl (Nat.le_of_ble_eq_true rfl) hl.1 ⟨Nat.le_refl _, Nat.le_refl _⟩ dX11_commit_8 (fun H locs hw => ?_)
  refine lv_if_eq (tgt := 32) hx hb dX11_commit_11 (by decide) (fun c_5 => ?_) (fun c_5 => ?_)
  · have hf := yb_pos c_5 hf
    refine lv_iconst (v := (0 : Int32)) hx hb dX11_commit_32 (by decide) ?_
    refine lv_istore (lv' := [(6, .int (0 : Int32)), (0, .ref b), (1, .int x1), (2, .int x2), (3, .int x3), (4, .int x4), (5, .int x5)]) hx hb dX11_commit_33 hl (by decide) rfl (fun ls hl => ?_)
    refine lv_iload hx hb dX11_commit_35 (lv_at hl 0 rfl) ?_
    refine lv_if_eq (tgt := 64) hx hb dX11_commit_37 (by decide) (fun _ => ?_) (fun c_6 => absurd (by decide) c_6)
    refine lv_iconst (v := (-1 : Int32)) hx hb dX11_commit_64 (by decide) ?_
    exact yb_reti hfin hf hw dX11_commit_65
  · have hf := yb_neg c_5 hf
    refine lv_iload_n hx hb dX11_commit_14 rfl (lv_at hl 2 rfl) ?_
    obtain ⟨r_7, I_8, J_9, hq_10, hf⟩ := yb_b3_some hf
    refine x_callsi X hK hw (c11_isDigit l D cz ev hC hq_10) sw_X11_288 ⟨Nat.le_of_ble_eq_true rfl, Nat.le_of_ble_eq_true rfl⟩ rfl rfl (Nat.le_of_ble_eq_true rfl) hl.1 ⟨Nat.le_refl _, Nat.le_refl _⟩ dX11_commit_15 (fun H locs hw => ?_)
    refine lv_if_eq (tgt := 32) hx hb dX11_commit_18 (by decide) (fun c_11 => ?_) (fun c_11 => ?_)
    · have hf := yb_pos c_11 hf
      refine lv_iconst (v := (0 : Int32)) hx hb dX11_commit_32 (by decide) ?_
      refine lv_istore (lv' := [(6, .int (0 : Int32)), (0, .ref b), (1, .int x1), (2, .int x2), (3, .int x3), (4, .int x4), (5, .int x5)]) hx hb dX11_commit_33 hl (by decide) rfl (fun ls hl => ?_)
      refine lv_iload hx hb dX11_commit_35 (lv_at hl 0 rfl) ?_
      refine lv_if_eq (tgt := 64) hx hb dX11_commit_37 (by decide) (fun _ => ?_) (fun c_12 => absurd (by decide) c_12)
      refine lv_iconst (v := (-1 : Int32)) hx hb dX11_commit_64 (by decide) ?_
      exact yb_reti hfin hf hw dX11_commit_65
    · have hf := yb_neg c_11 hf
      refine lv_iload_n hx hb dX11_commit_21 rfl (lv_at hl 3 rfl) ?_
      obtain ⟨r_13, I_14, J_15, hq_16, hf⟩ := yb_b3_some hf
      refine x_callsi X hK hw (c11_isDigit l D cz ev hC hq_16) sw_X11_288 ⟨Nat.le_of_ble_eq_true rfl, Nat.le_of_ble_eq_true rfl⟩ rfl rfl (Nat.le_of_ble_eq_true rfl) hl.1 ⟨Nat.le_refl _, Nat.le_refl _⟩ dX11_commit_22 (fun H locs hw => ?_)
      refine lv_if_eq (tgt := 32) hx hb dX11_commit_25 (by decide) (fun c_17 => ?_) (fun c_17 => ?_)
      · have hf := yb_pos c_17 hf
        refine lv_iconst (v := (0 : Int32)) hx hb dX11_commit_32 (by decide) ?_
        refine lv_istore (lv' := [(6, .int (0 : Int32)), (0, .ref b), (1, .int x1), (2, .int x2), (3, .int x3), (4, .int x4), (5, .int x5)]) hx hb dX11_commit_33 hl (by decide) rfl (fun ls hl => ?_)
        refine lv_iload hx hb dX11_commit_35 (lv_at hl 0 rfl) ?_
        refine lv_if_eq (tgt := 64) hx hb dX11_commit_37 (by decide) (fun _ => ?_) (fun c_18 => absurd (by decide) c_18)
        refine lv_iconst (v := (-1 : Int32)) hx hb dX11_commit_64 (by decide) ?_
        exact yb_reti hfin hf hw dX11_commit_65
      · have hf := yb_neg c_17 hf
        refine lv_iconst (v := (1 : Int32)) hx hb dX11_commit_28 (by decide) ?_
        refine lv_goto (tgt := 33) hx hb dX11_commit_29 (by decide) ?_
        refine lv_istore (lv' := [(6, .int (1 : Int32)), (0, .ref b), (1, .int x1), (2, .int x2), (3, .int x3), (4, .int x4), (5, .int x5)]) hx hb dX11_commit_33 hl (by decide) rfl (fun ls hl => ?_)
        refine lv_iload hx hb dX11_commit_35 (lv_at hl 0 rfl) ?_
        refine lv_if_eq (tgt := 64) hx hb dX11_commit_37 (by decide) (fun c_19 => absurd c_19 (by decide)) (fun _ => ?_)
        refine lv_iload hx hb dX11_commit_40 (lv_at hl 5 rfl) ?_
        refine lv_iconst (v := (1 : Int32)) hx hb dX11_commit_42 (by decide) ?_
        refine lv_icmp_lt (tgt := 64) hx hb dX11_commit_43 (by decide) (fun c_20 => ?_) (fun c_20 => ?_)
        · have hf := yb_pos c_20 hf
          refine lv_iconst (v := (-1 : Int32)) hx hb dX11_commit_64 (by decide) ?_
          exact yb_reti hfin hf hw dX11_commit_65
        · have hf := yb_neg c_20 hf
          refine lv_iload hx hb dX11_commit_46 (lv_at hl 5 rfl) ?_
          refine lv_bipush (v := (60 : Int32)) hx hb dX11_commit_48 (by decide) ?_
          refine lv_icmp_gt (tgt := 64) hx hb dX11_commit_50 (by decide) (fun c_21 => ?_) (fun c_21 => ?_)
          · have hf := yb_pos c_21 hf
            refine lv_iconst (v := (-1 : Int32)) hx hb dX11_commit_64 (by decide) ?_
            exact yb_reti hfin hf hw dX11_commit_65
          · have hf := yb_neg c_21 hf
            refine lv_iload hx hb dX11_commit_53 (lv_at hl 6 rfl) ?_
            refine lv_if_lt (tgt := 64) hx hb dX11_commit_55 (by decide) (fun c_22 => ?_) (fun c_22 => ?_)
            · have hf := yb_pos c_22 hf
              refine lv_iconst (v := (-1 : Int32)) hx hb dX11_commit_64 (by decide) ?_
              exact yb_reti hfin hf hw dX11_commit_65
            · have hf := yb_neg c_22 hf
              refine lv_iload hx hb dX11_commit_58 (lv_at hl 6 rfl) ?_
              refine lv_iconst (v := (1 : Int32)) hx hb dX11_commit_60 (by decide) ?_
              refine lv_icmp_le (tgt := 66) hx hb dX11_commit_61 (by decide) (fun c_23 => ?_) (fun c_23 => ?_)
              · have hf := yb_pos c_23 hf
                refine lv_aload_n hx hb dX11_commit_66 rfl (lv_at hl 1 rfl) ?_
                refine x_getR X hK hw (cw_mem0 hC) (cw_S0 hC) cpX11 6 (by decide) rfl (cw_R hC 0 6 (by decide) rfl) tw_565 dX11_commit_67 ?_
                refine lv_iload_n hx hb dX11_commit_70 rfl (lv_at hl 2 rfl) ?_
                refine lv_iload_n hx hb dX11_commit_71 rfl (lv_at hl 3 rfl) ?_
                refine lv_iload_n hx hb dX11_commit_72 rfl (lv_at hl 4 rfl) ?_
                refine lv_iconst (v := (0 : Int32)) hx hb dX11_commit_73 (by decide) ?_
                obtain ⟨r_24, I_25, J_26, hq_27, hf⟩ := yb_b3_some hf
                refine x_callv X hK hw (c1_charge l D cz ev hC hq_27) (cw_mem hC 30 (by decide)) (cw_S hC 30 rfl) cpX1.1 vw_X11_291 ⟨Nat.le_of_ble_eq_true rfl, Nat.le_of_ble_eq_true rfl⟩ rfl rfl (Nat.le_of_ble_eq_true rfl) hl.1 ⟨Nat.le_refl _, Nat.le_refl _⟩ dX11_commit_74 (fun H locs hw => ?_)
                refine lv_aload_n hx hb dX11_commit_77 rfl (lv_at hl 1 rfl) ?_
                refine x_getR X hK hw (cw_mem0 hC) (cw_S0 hC) cpX11 3 (by decide) rfl (cw_R hC 0 3 (by decide) rfl) tw_562 dX11_commit_78 ?_
                refine x_getR X hK hw (cw_now hC).1.1 (cw_now hC).1.2 cpX8 1 (by decide) rfl (cw_now hC).2.2.1.1 tw_351 dX11_commit_81 ?_
                refine x_getI X hK hw (st_course (cw_now hC)).1.1 (st_course (cw_now hC)).1.2 cpX0 9 (by decide) rfl tw_320 dX11_commit_84 ?_
                refine lv_topi (fun x7_28 ex7_28 => ?_)
                have hf := yb_let_to ex7_28 hf
                refine lv_istore (lv' := [(7, .int x7_28), (6, .int (1 : Int32)), (0, .ref b), (1, .int x1), (2, .int x2), (3, .int x3), (4, .int x4), (5, .int x5)]) hx hb dX11_commit_87 hl (by decide) rfl (fun ls hl => ?_)
                refine lv_iload hx hb dX11_commit_89 (lv_at hl 0 rfl) ?_
                refine lv_istore (lv' := [(8, .int x7_28), (7, .int x7_28), (6, .int (1 : Int32)), (0, .ref b), (1, .int x1), (2, .int x2), (3, .int x3), (4, .int x4), (5, .int x5)]) hx hb dX11_commit_91 hl (by decide) rfl (fun ls hl => ?_)
                refine lv_bipush (v := (101 : Int32)) hx hb dX11_commit_93 (by decide) ?_
                refine lv_istore (lv' := [(9, .int (101 : Int32)), (8, .int x7_28), (7, .int x7_28), (6, .int (1 : Int32)), (0, .ref b), (1, .int x1), (2, .int x2), (3, .int x3), (4, .int x4), (5, .int x5)]) hx hb dX11_commit_95 hl (by decide) rfl (fun ls hl => ?_)
                refine lv_iload hx hb dX11_commit_97 (lv_at hl 2 rfl) ?_
                refine lv_istore (lv' := [(10, .int x7_28), (9, .int (101 : Int32)), (8, .int x7_28), (7, .int x7_28), (6, .int (1 : Int32)), (0, .ref b), (1, .int x1), (2, .int x2), (3, .int x3), (4, .int x4), (5, .int x5)]) hx hb dX11_commit_99 hl (by decide) rfl (fun ls hl => ?_)
                obtain ⟨q_37, I_38, J_39, hq_40, hf⟩ := yb_b3_some hf
                refine w11_commit_L101 hC X hK _ _ _ _ _ _ _ _ _ _ _ _ hq_40 hw (lv_sub hl [5, 6, 8, 9, 10, 3, 2, 1, 0] rfl) (fun H locs ls hw hl => ?_)
                refine lv_iload hx hb dX11_commit_142 (lv_at hl 0 rfl) ?_
                refine lv_if_ne (tgt := 152) hx hb dX11_commit_144 (by decide) (fun c_41 => ?_) (fun c_41 => ?_)
                · have hf := yb_neg c_41 hf
                  refine lv_iload hx hb dX11_commit_152 (lv_at hl 2 rfl) ?_
                  exact yb_reti hfin hf hw dX11_commit_154
                · have hf := yb_pos c_41 hf
                  refine lv_iload hx hb dX11_commit_147 (lv_at hl 1 rfl) ?_
                  refine lv_goto (tgt := 154) hx hb dX11_commit_149 (by decide) ?_
                  exact yb_reti hfin hf hw dX11_commit_154
              · have hf := yb_neg c_23 hf
                refine lv_iconst (v := (-1 : Int32)) hx hb dX11_commit_64 (by decide) ?_
                exact yb_reti hfin hf hw dX11_commit_65
set_option maxHeartbeats 4000000 in
set_option maxRecDepth 100000 in
theorem w11_isTriable_L32 {p : Program} {l : Launch} {e : Env} {s : State} {m : MethodId} {args : Array Value} {below : List Frame} {meth : Method} {c : Code} {Q : State → Prop} {D : va_G} {cz : Nat → ClassId} {A : Nat → Prop} {ev : Nat × Nat × Nat} {b : Nat} {L : List Nat} {S : ST} {Rf : RT} (hC : CW b L S Rf) (X : CallFix p m c cX11_isTriable 6 s args gw RX11) (hK : KX D cz ev A s) {N : Nat} {x1 : Int32} {x2 : Int32} {x3 : Int32} {x4 : Int32} {rM : Int32} {IM : IT} {JM : JT} :
    ∀ (n : Nat) (x5 : Int32) (I : IT) (J : JT) (q : (Int32 ⊕ (Unit))) (I1 : IT) (J1 : JT) (H : Heap) (locs : List Loc) (ls : Array Slot), f11_isTriable_L32 N b S Rf x1 x2 x3 x4 n x5 I J = some (q, I1, J1) → WX D cz A L S Rf s.heap I J H locs → lv_has ls 6 [(0, .ref b), (1, .int x1), (2, .int x2), (3, .int x3), (4, .int x4), (5, .int x5)] →
    (∀ v, q = .inl v → some (v, I1, J1) = some (rM, IM, JM)) → (∀ (H : Heap) (locs : List Loc) (ls : Array Slot) (pc : Nat), bz rM = true → WX D cz A L S Rf s.heap IM JM H locs → decode cX11_isTriable pc = .ok (.ireturn, 1) → W p l e (rmX 2 49) s m args below meth c H locs 0 0 Q (F0 m pc ls [.int rM])) →
    (∀ xq, q = .inr xq → ∀ (H : Heap) (locs : List Loc) (ls : Array Slot), WX D cz A L S Rf s.heap I1 J1 H locs → lv_has ls 6 [(0, .ref b), (1, .int x1), (2, .int x2), (3, .int x3), (4, .int x4)] → W p l e (rmX 2 49) s m args below meth c H locs 0 0 Q (F0 m 64 ls [])) →
    W p l e (rmX 2 49) s m args below meth c H locs 0 0 Q (F0 m 32 ls []) := by
  have hx := X.1
  have hb := X.2.1
  intro n
  induction n with
  | zero =>
    intro x5 I J q I1 J1 H locs ls hf
    rw [f11_isTriable_L32] at hf
    cases hf
  | succ n ih =>
    intro x5 I J q I1 J1 H locs ls hf hw hl hret hfin hexit
    rw [f11_isTriable_L32] at hf
    refine lv_iload hx hb dX11_isTriable_32 (lv_at hl 5 rfl) ?_
    refine lv_iload_n hx hb dX11_isTriable_34 rfl (lv_at hl 3 rfl) ?_
    refine lv_iload_n hx hb dX11_isTriable_35 rfl (lv_at hl 2 rfl) ?_
    refine lv_iadd hx hb dX11_isTriable_36 ?_
    refine lv_icmp_ge (tgt := 64) hx hb dX11_isTriable_37 (by decide) (fun c_3 => ?_) (fun c_3 => ?_)
    · have hf := yb_pos c_3 hf
      obtain ⟨rfl, rfl, rfl⟩ := yb_inj hf
      exact hexit _ rfl _ _ _ hw (lv_sub hl [0, 1, 2, 3, 4] rfl)
    · have hf := yb_neg c_3 hf
      refine lv_aload_n hx hb dX11_isTriable_40 rfl (lv_at hl 0 rfl) ?_
      refine x_getR X hK hw (cw_mem0 hC) (cw_S0 hC) cpX11 6 (by decide) rfl (cw_R hC 0 6 (by decide) rfl) tw_565 dX11_isTriable_41 ?_
      refine lv_iload hx hb dX11_isTriable_44 (lv_at hl 4 rfl) ?_
      refine lv_iload_n hx hb dX11_isTriable_46 rfl (lv_at hl 1 rfl) ?_
      refine lv_iconst (v := (1 : Int32)) hx hb dX11_isTriable_47 (by decide) ?_
      refine lv_iload hx hb dX11_isTriable_48 (lv_at hl 5 rfl) ?_
      obtain ⟨r_4, I_5, J_6, hq_7, hf⟩ := yb_b3_some hf
      refine x_calli X hK hw (c1_canSit l D cz ev hC hq_7) (cw_mem hC 30 (by decide)) (cw_S hC 30 rfl) cpX1.1 vw_X11_299 ⟨Nat.le_of_ble_eq_true rfl, Nat.le_of_ble_eq_true rfl⟩ rfl rfl (Nat.le_of_ble_eq_true rfl) hl.1 ⟨Nat.le_refl _, Nat.le_refl _⟩ dX11_isTriable_50 (fun H locs hw => ?_)
      refine lv_if_eq (tgt := 58) hx hb dX11_isTriable_53 (by decide) (fun c_8 => ?_) (fun c_8 => ?_)
      · have hf := yb_pos c_8 hf
        obtain ⟨x5_9, ex5_9, hf⟩ := yb_let_ex hf
        refine lv_iinc (v := x5_9) (lv' := [(5, .int x5_9), (0, .ref b), (1, .int x1), (2, .int x2), (3, .int x3), (4, .int x4)]) hx hb dX11_isTriable_58 hl (k := 5) rfl (by rw [ex5_9]; rfl) (by decide) rfl (fun ls hl => ?_)
        refine lv_goto (tgt := 32) hx hb dX11_isTriable_61 (by decide) ?_
        exact ih _ _ _ _ _ _ _ _ _ hf hw (lv_sub hl [1, 2, 3, 4, 5, 0] rfl) hret hfin hexit
      · have hf := yb_neg c_8 hf
        refine lv_iconst (v := (1 : Int32)) hx hb dX11_isTriable_56 (by decide) ?_
        exact yb_retz hfin (by decide) (yb_inl hret hf) hw dX11_isTriable_57
set_option maxHeartbeats 4000000 in
set_option maxRecDepth 100000 in
theorem w11_isTriable_L14 {p : Program} {l : Launch} {e : Env} {s : State} {m : MethodId} {args : Array Value} {below : List Frame} {meth : Method} {c : Code} {Q : State → Prop} {D : va_G} {cz : Nat → ClassId} {A : Nat → Prop} {ev : Nat × Nat × Nat} {b : Nat} {L : List Nat} {S : ST} {Rf : RT} (hC : CW b L S Rf) (X : CallFix p m c cX11_isTriable 6 s args gw RX11) (hK : KX D cz ev A s) {N : Nat} {x1 : Int32} {x2 : Int32} {x3 : Int32} {rM : Int32} {IM : IT} {JM : JT} :
    ∀ (n : Nat) (x4 : Int32) (I : IT) (J : JT) (q : (Int32 ⊕ (Unit))) (I1 : IT) (J1 : JT) (H : Heap) (locs : List Loc) (ls : Array Slot), f11_isTriable_L14 N b S Rf x1 x2 x3 n x4 I J = some (q, I1, J1) → WX D cz A L S Rf s.heap I J H locs → lv_has ls 6 [(0, .ref b), (1, .int x1), (2, .int x2), (3, .int x3), (4, .int x4)] →
    (∀ v, q = .inl v → some (v, I1, J1) = some (rM, IM, JM)) → (∀ (H : Heap) (locs : List Loc) (ls : Array Slot) (pc : Nat), bz rM = true → WX D cz A L S Rf s.heap IM JM H locs → decode cX11_isTriable pc = .ok (.ireturn, 1) → W p l e (rmX 2 49) s m args below meth c H locs 0 0 Q (F0 m pc ls [.int rM])) →
    (∀ xq, q = .inr xq → ∀ (H : Heap) (locs : List Loc) (ls : Array Slot), WX D cz A L S Rf s.heap I1 J1 H locs → lv_has ls 6 [] → W p l e (rmX 2 49) s m args below meth c H locs 0 0 Q (F0 m 70 ls [])) →
    W p l e (rmX 2 49) s m args below meth c H locs 0 0 Q (F0 m 14 ls []) := by
  have hx := X.1
  have hb := X.2.1
  intro n
  induction n with
  | zero =>
    intro x4 I J q I1 J1 H locs ls hf
    rw [f11_isTriable_L14] at hf
    cases hf
  | succ n ih =>
    intro x4 I J q I1 J1 H locs ls hf hw hl hret hfin hexit
    rw [f11_isTriable_L14] at hf
    refine lv_iload hx hb dX11_isTriable_14 (lv_at hl 4 rfl) ?_
    refine lv_aload_n hx hb dX11_isTriable_16 rfl (lv_at hl 0 rfl) ?_
    refine x_getR X hK hw (cw_mem0 hC) (cw_S0 hC) cpX11 3 (by decide) rfl (cw_R hC 0 3 (by decide) rfl) tw_562 dX11_isTriable_17 ?_
    refine x_getR X hK hw (cw_now hC).1.1 (cw_now hC).1.2 cpX8 0 (by decide) rfl (cw_now hC).2.1.1 tw_346 dX11_isTriable_20 ?_
    refine x_getI X hK hw (st_town (cw_now hC)).1.1 (st_town (cw_now hC)).1.2 cpX9 13 (by decide) rfl tw_243 dX11_isTriable_23 ?_
    refine lv_icmp_ge (tgt := 70) hx hb dX11_isTriable_26 (by decide) (fun c_2 => ?_) (fun c_2 => ?_)
    · have hf := yb_pos c_2 hf
      obtain ⟨rfl, rfl, rfl⟩ := yb_inj hf
      exact hexit _ rfl _ _ _ hw (lv_sub hl [] rfl)
    · have hf := yb_neg c_2 hf
      refine lv_iload_n hx hb dX11_isTriable_29 rfl (lv_at hl 3 rfl) ?_
      refine lv_istore (lv' := [(5, .int x3), (0, .ref b), (1, .int x1), (2, .int x2), (3, .int x3), (4, .int x4)]) hx hb dX11_isTriable_30 hl (by decide) rfl (fun ls hl => ?_)
      obtain ⟨q_10, I_11, J_12, hq_13, hf⟩ := yb_b3_some hf
      refine w11_isTriable_L32 hC X hK _ _ _ _ _ _ _ _ _ _ hq_13 hw (lv_sub hl [1, 2, 3, 4, 5, 0] rfl) (fun v hv => yb_inl hret (by rw [hv] at hf; exact hf)) hfin (fun x_15 hx1 H locs ls hw hl => ?_)
      rw [hx1] at hf
      have hf := yb_sm_r hf
      obtain ⟨x4_16, ex4_16, hf⟩ := yb_let_ex hf
      refine lv_iinc (v := x4_16) (lv' := [(4, .int x4_16), (0, .ref b), (1, .int x1), (2, .int x2), (3, .int x3)]) hx hb dX11_isTriable_64 hl (k := 4) rfl (by rw [ex4_16]; rfl) (by decide) rfl (fun ls hl => ?_)
      refine lv_goto (tgt := 14) hx hb dX11_isTriable_67 (by decide) ?_
      exact ih _ _ _ _ _ _ _ _ _ hf hw (lv_sub hl [1, 2, 3, 4, 0] rfl) hret hfin hexit
set_option maxHeartbeats 4000000 in
set_option maxRecDepth 100000 in
theorem c11_isTriable (l : Launch) (D : va_G) (cz : Nat → ClassId) (ev : Nat × Nat × Nat) {b : Nat} {L : List Nat} {S : ST} {Rf : RT} (hC : CW b L S Rf) {N : Nat} {x1 : Int32} {x2 : Int32} {I : IT} {J : JT} {r : Int32} {I1 : IT} {J1 : JT} (hf : f11_isTriable N b S Rf x1 x2 I J = some (r, I1, J1)) : MTi l D cz ev yX11_isTriable cX11_isTriable 6 (some .boolean) 2 49 [.ref b, .int x1, .int x2] L S Rf I J r I1 J1 := by
  unfold f11_isTriable at hf
  refine MTz_of (by decide) (Nat.le_of_ble_eq_true rfl) ?_
  intro p e s m args below meth c Q ls X hK hw hl hfin
  have X : CallFix p m c cX11_isTriable 6 s args gw RX11 := X
  have hx := X.1
  have hb := X.2.1
  have hl : lv_has ls 6 [(0, .ref b), (1, .int x1), (2, .int x2)] := hl
  refine lv_aload_n hx hb dX11_isTriable_0 rfl (lv_at hl 0 rfl) ?_
  refine x_getR X hK hw (cw_mem0 hC) (cw_S0 hC) cpX11 3 (by decide) rfl (cw_R hC 0 3 (by decide) rfl) tw_562 dX11_isTriable_1 ?_
  refine x_getR X hK hw (cw_now hC).1.1 (cw_now hC).1.2 cpX8 1 (by decide) rfl (cw_now hC).2.2.1.1 tw_351 dX11_isTriable_4 ?_
  refine x_getI X hK hw (st_course (cw_now hC)).1.1 (st_course (cw_now hC)).1.2 cpX0 9 (by decide) rfl tw_320 dX11_isTriable_7 ?_
  refine lv_topi (fun x3_1 ex3_1 => ?_)
  have hf := yb_let_to ex3_1 hf
  refine lv_istore_n (lv' := [(3, .int x3_1), (0, .ref b), (1, .int x1), (2, .int x2)]) hx hb dX11_isTriable_10 rfl hl (by decide) rfl (fun ls hl => ?_)
  refine lv_iconst (v := (0 : Int32)) hx hb dX11_isTriable_11 (by decide) ?_
  refine lv_istore (lv' := [(4, .int (0 : Int32)), (3, .int x3_1), (0, .ref b), (1, .int x1), (2, .int x2)]) hx hb dX11_isTriable_12 hl (by decide) rfl (fun ls hl => ?_)
  obtain ⟨q_17, I_18, J_19, hq_20, hf⟩ := yb_b3_some hf
  refine w11_isTriable_L14 hC X hK _ _ _ _ _ _ _ _ _ _ hq_20 hw (lv_sub hl [2, 3, 4, 1, 0] rfl) (fun v hv => by rw [hv] at hf; exact hf) hfin (fun x_22 hx1 H locs ls hw hl => ?_)
  rw [hx1] at hf
  have hf := yb_sm_r hf
  refine lv_iconst (v := (0 : Int32)) hx hb dX11_isTriable_70 (by decide) ?_
  exact yb_retz hfin (by decide) hf hw dX11_isTriable_71
set_option maxHeartbeats 4000000 in
set_option maxRecDepth 100000 in
theorem w11_above_L30 {p : Program} {l : Launch} {e : Env} {s : State} {m : MethodId} {args : Array Value} {below : List Frame} {meth : Method} {c : Code} {Q : State → Prop} {D : va_G} {cz : Nat → ClassId} {A : Nat → Prop} {ev : Nat × Nat × Nat} {b : Nat} {L : List Nat} {S : ST} {Rf : RT} (hC : CW b L S Rf) (X : CallFix p m c cX11_above 4 s args gw RX11) (hK : KX D cz ev A s) {N : Nat} {x1 : Int32} :
    ∀ (n : Nat) (x2 : Int32) (x3 : Int32) (I : IT) (J : JT) (q : (Int32)) (I1 : IT) (J1 : JT) (H : Heap) (locs : List Loc) (ls : Array Slot), f11_above_L30 N b S Rf x1 n x2 x3 I J = some (q, I1, J1) → WX D cz A L S Rf s.heap I J H locs → lv_has ls 4 [(0, .ref b), (1, .int x1), (2, .int x2), (3, .int x3)] →
    (∀ (H : Heap) (locs : List Loc) (ls : Array Slot), WX D cz A L S Rf s.heap I1 J1 H locs → lv_has ls 4 [(2, .int q)] → W p l e (rmX 3 74) s m args below meth c H locs 0 0 Q (F0 m 65 ls [])) →
    W p l e (rmX 3 74) s m args below meth c H locs 0 0 Q (F0 m 30 ls []) := by
  have hx := X.1
  have hb := X.2.1
  intro n
  induction n with
  | zero =>
    intro x2 x3 I J q I1 J1 H locs ls hf
    rw [f11_above_L30] at hf
    cases hf
  | succ n ih =>
    intro x2 x3 I J q I1 J1 H locs ls hf hw hl hexit
    rw [f11_above_L30] at hf
    refine lv_iload_n hx hb dX11_above_30 rfl (lv_at hl 3 rfl) ?_
    refine lv_aload_n hx hb dX11_above_31 rfl (lv_at hl 0 rfl) ?_
    refine x_getR X hK hw (cw_mem0 hC) (cw_S0 hC) cpX11 3 (by decide) rfl (cw_R hC 0 3 (by decide) rfl) tw_562 dX11_above_32 ?_
    refine x_getR X hK hw (cw_now hC).1.1 (cw_now hC).1.2 cpX8 0 (by decide) rfl (cw_now hC).2.1.1 tw_346 dX11_above_35 ?_
    refine x_getI X hK hw (st_town (cw_now hC)).1.1 (st_town (cw_now hC)).1.2 cpX9 13 (by decide) rfl tw_243 dX11_above_38 ?_
    refine lv_icmp_ge (tgt := 65) hx hb dX11_above_41 (by decide) (fun c_4 => ?_) (fun c_4 => ?_)
    · have hf := yb_pos c_4 hf
      obtain ⟨rfl, rfl, rfl⟩ := yb_inj hf
      exact hexit _ _ _ hw (lv_sub hl [2] rfl)
    · have hf := yb_neg c_4 hf
      refine lv_aload_n hx hb dX11_above_44 rfl (lv_at hl 0 rfl) ?_
      refine lv_iload_n hx hb dX11_above_45 rfl (lv_at hl 3 rfl) ?_
      refine lv_iload_n hx hb dX11_above_46 rfl (lv_at hl 1 rfl) ?_
      obtain ⟨r_5, I_6, J_7, hq_8, hf⟩ := yb_b3_some hf
      refine x_calli X hK hw (c11_isTriable l D cz ev hC hq_8) (cw_mem0 hC) (cw_S0 hC) cpX11.1 vw_X11_306 ⟨Nat.le_of_ble_eq_true rfl, Nat.le_of_ble_eq_true rfl⟩ rfl rfl (Nat.le_of_ble_eq_true rfl) hl.1 ⟨Nat.le_refl _, Nat.le_refl _⟩ dX11_above_47 (fun H locs hw => ?_)
      refine lv_if_ne (tgt := 59) hx hb dX11_above_50 (by decide) (fun c_9 => ?_) (fun c_9 => ?_)
      · have hf := yb_neg c_9 hf
        obtain ⟨x3_10, ex3_10, hf⟩ := yb_let_ex hf
        refine lv_iinc (v := x3_10) (lv' := [(3, .int x3_10), (0, .ref b), (1, .int x1), (2, .int x2)]) hx hb dX11_above_59 hl (k := 3) rfl (by rw [ex3_10]; rfl) (by decide) rfl (fun ls hl => ?_)
        refine lv_goto (tgt := 30) hx hb dX11_above_62 (by decide) ?_
        exact ih _ _ _ _ _ _ _ _ _ _ hf hw (lv_sub hl [1, 2, 3, 0] rfl) hexit
      · have hf := yb_pos c_9 hf
        refine lv_iload_n hx hb dX11_above_53 rfl (lv_at hl 2 rfl) ?_
        refine lv_iconst (v := (1 : Int32)) hx hb dX11_above_54 (by decide) ?_
        refine lv_iload_n hx hb dX11_above_55 rfl (lv_at hl 3 rfl) ?_
        refine lv_ishl hx hb dX11_above_56 ?_
        refine lv_ior hx hb dX11_above_57 ?_
        refine lv_topi (fun x2_11 ex2_11 => ?_)
        have hf := yb_let_to ex2_11 hf
        refine lv_istore_n (lv' := [(2, .int x2_11), (0, .ref b), (1, .int x1), (3, .int x3)]) hx hb dX11_above_58 rfl hl (by decide) rfl (fun ls hl => ?_)
        obtain ⟨x3_12, ex3_12, hf⟩ := yb_let_ex hf
        refine lv_iinc (v := x3_12) (lv' := [(3, .int x3_12), (2, .int x2_11), (0, .ref b), (1, .int x1)]) hx hb dX11_above_59 hl (k := 3) rfl (by rw [ex3_12]; rfl) (by decide) rfl (fun ls hl => ?_)
        refine lv_goto (tgt := 30) hx hb dX11_above_62 (by decide) ?_
        exact ih _ _ _ _ _ _ _ _ _ _ hf hw (lv_sub hl [2, 3, 1, 0] rfl) hexit
set_option maxHeartbeats 4000000 in
set_option maxRecDepth 100000 in
theorem c11_above (l : Launch) (D : va_G) (cz : Nat → ClassId) (ev : Nat × Nat × Nat) {b : Nat} {L : List Nat} {S : ST} {Rf : RT} (hC : CW b L S Rf) {N : Nat} {x1 : Int32} {I : IT} {J : JT} {r : Int32} {I1 : IT} {J1 : JT} (hf : f11_above N b S Rf x1 I J = some (r, I1, J1)) : MTi l D cz ev yX11_above cX11_above 4 (some .int) 3 74 [.ref b, .int x1] L S Rf I J r I1 J1 := by
  unfold f11_above at hf
  refine MTi_of (by decide) (Nat.le_of_ble_eq_true rfl) ?_
  intro p e s m args below meth c Q ls X hK hw hl hfin
  have X : CallFix p m c cX11_above 4 s args gw RX11 := X
  have hx := X.1
  have hb := X.2.1
  have hl : lv_has ls 4 [(0, .ref b), (1, .int x1)] := hl
  refine lv_aload_n hx hb dX11_above_0 rfl (lv_at hl 0 rfl) ?_
  refine x_getR X hK hw (cw_mem0 hC) (cw_S0 hC) cpX11 3 (by decide) rfl (cw_R hC 0 3 (by decide) rfl) tw_562 dX11_above_1 ?_
  refine x_getR X hK hw (cw_now hC).1.1 (cw_now hC).1.2 cpX8 0 (by decide) rfl (cw_now hC).2.1.1 tw_346 dX11_above_4 ?_
  refine x_getI X hK hw (st_town (cw_now hC)).1.1 (st_town (cw_now hC)).1.2 cpX9 8 (by decide) rfl tw_225 dX11_above_7 ?_
  refine lv_if_eq (tgt := 24) hx hb dX11_above_10 (by decide) (fun c_1 => ?_) (fun c_1 => ?_)
  · have hf := yb_pos c_1 hf
    refine lv_iconst (v := (-1 : Int32)) hx hb dX11_above_24 (by decide) ?_
    exact yb_reti hfin hf hw dX11_above_25
  · have hf := yb_neg c_1 hf
    refine lv_iload_n hx hb dX11_above_13 rfl (lv_at hl 1 rfl) ?_
    refine lv_iconst (v := (1 : Int32)) hx hb dX11_above_14 (by decide) ?_
    refine lv_icmp_lt (tgt := 24) hx hb dX11_above_15 (by decide) (fun c_2 => ?_) (fun c_2 => ?_)
    · have hf := yb_pos c_2 hf
      refine lv_iconst (v := (-1 : Int32)) hx hb dX11_above_24 (by decide) ?_
      exact yb_reti hfin hf hw dX11_above_25
    · have hf := yb_neg c_2 hf
      refine lv_iload_n hx hb dX11_above_18 rfl (lv_at hl 1 rfl) ?_
      refine lv_bipush (v := (60 : Int32)) hx hb dX11_above_19 (by decide) ?_
      refine lv_icmp_le (tgt := 26) hx hb dX11_above_21 (by decide) (fun c_3 => ?_) (fun c_3 => ?_)
      · have hf := yb_pos c_3 hf
        refine lv_iconst (v := (0 : Int32)) hx hb dX11_above_26 (by decide) ?_
        refine lv_istore_n (lv' := [(2, .int (0 : Int32)), (0, .ref b), (1, .int x1)]) hx hb dX11_above_27 rfl hl (by decide) rfl (fun ls hl => ?_)
        refine lv_iconst (v := (0 : Int32)) hx hb dX11_above_28 (by decide) ?_
        refine lv_istore_n (lv' := [(3, .int (0 : Int32)), (2, .int (0 : Int32)), (0, .ref b), (1, .int x1)]) hx hb dX11_above_29 rfl hl (by decide) rfl (fun ls hl => ?_)
        obtain ⟨q_13, I_14, J_15, hq_16, hf⟩ := yb_b3_some hf
        refine w11_above_L30 hC X hK _ _ _ _ _ _ _ _ _ _ _ hq_16 hw (lv_sub hl [2, 3, 1, 0] rfl) (fun H locs ls hw hl => ?_)
        refine lv_iload_n hx hb dX11_above_65 rfl (lv_at hl 0 rfl) ?_
        exact yb_reti hfin hf hw dX11_above_66
      · have hf := yb_neg c_3 hf
        refine lv_iconst (v := (-1 : Int32)) hx hb dX11_above_24 (by decide) ?_
        exact yb_reti hfin hf hw dX11_above_25
set_option maxHeartbeats 4000000 in
set_option maxRecDepth 100000 in
theorem w11_clement_L47 {p : Program} {l : Launch} {e : Env} {s : State} {m : MethodId} {args : Array Value} {below : List Frame} {meth : Method} {c : Code} {Q : State → Prop} {D : va_G} {cz : Nat → ClassId} {A : Nat → Prop} {ev : Nat × Nat × Nat} {b : Nat} {L : List Nat} {S : ST} {Rf : RT} (hC : CW b L S Rf) (X : CallFix p m c cX11_clement 8 s args gw RX11) (hK : KX D cz ev A s) {N : Nat} {x1 : Int32} {x2 : Int32} {x3 : Int32} :
    ∀ (n : Nat) (x4 : Int32) (x5 : Int32) (x6 : Int32) (I : IT) (J : JT) (q : (Int32 × Int32)) (I1 : IT) (J1 : JT) (H : Heap) (locs : List Loc) (ls : Array Slot), f11_clement_L47 N b S Rf x1 x2 x3 n x4 x5 x6 I J = some (q, I1, J1) → WX D cz A L S Rf s.heap I J H locs → lv_has ls 8 [(0, .ref b), (1, .int x1), (2, .int x2), (3, .int x3), (4, .int x4), (5, .int x5), (6, .int x6)] →
    (∀ (H : Heap) (locs : List Loc) (ls : Array Slot), WX D cz A L S Rf s.heap I1 J1 H locs → lv_has ls 8 [(2, .int x2), (4, .int q.1), (5, .int q.2)] → W p l e (rmX 4 99) s m args below meth c H locs 0 0 Q (F0 m 137 ls [])) →
    W p l e (rmX 4 99) s m args below meth c H locs 0 0 Q (F0 m 47 ls []) := by
  have hx := X.1
  have hb := X.2.1
  intro n
  induction n with
  | zero =>
    intro x4 x5 x6 I J q I1 J1 H locs ls hf
    rw [f11_clement_L47] at hf
    cases hf
  | succ n ih =>
    intro x4 x5 x6 I J q I1 J1 H locs ls hf hw hl hexit
    rw [f11_clement_L47] at hf
    refine lv_iload hx hb dX11_clement_47 (lv_at hl 6 rfl) ?_
    refine lv_aload_n hx hb dX11_clement_49 rfl (lv_at hl 0 rfl) ?_
    refine x_getR X hK hw (cw_mem0 hC) (cw_S0 hC) cpX11 3 (by decide) rfl (cw_R hC 0 3 (by decide) rfl) tw_562 dX11_clement_50 ?_
    refine x_getR X hK hw (cw_now hC).1.1 (cw_now hC).1.2 cpX8 0 (by decide) rfl (cw_now hC).2.1.1 tw_346 dX11_clement_53 ?_
    refine x_getI X hK hw (st_town (cw_now hC)).1.1 (st_town (cw_now hC)).1.2 cpX9 13 (by decide) rfl tw_243 dX11_clement_56 ?_
    refine lv_icmp_ge (tgt := 137) hx hb dX11_clement_59 (by decide) (fun c_9 => ?_) (fun c_9 => ?_)
    · have hf := yb_pos c_9 hf
      obtain ⟨rfl, rfl, rfl⟩ := yb_inj hf
      exact hexit _ _ _ hw (lv_sub hl [2, 4, 5] rfl)
    · have hf := yb_neg c_9 hf
      refine lv_aload_n hx hb dX11_clement_62 rfl (lv_at hl 0 rfl) ?_
      refine x_getR X hK hw (cw_mem0 hC) (cw_S0 hC) cpX11 6 (by decide) rfl (cw_R hC 0 6 (by decide) rfl) tw_565 dX11_clement_63 ?_
      refine lv_iload_n hx hb dX11_clement_66 rfl (lv_at hl 1 rfl) ?_
      refine lv_iload hx hb dX11_clement_67 (lv_at hl 6 rfl) ?_
      refine lv_aload_n hx hb dX11_clement_69 rfl (lv_at hl 0 rfl) ?_
      refine x_getR X hK hw (cw_mem0 hC) (cw_S0 hC) cpX11 3 (by decide) rfl (cw_R hC 0 3 (by decide) rfl) tw_562 dX11_clement_70 ?_
      refine x_getR X hK hw (cw_now hC).1.1 (cw_now hC).1.2 cpX8 1 (by decide) rfl (cw_now hC).2.2.1.1 tw_351 dX11_clement_73 ?_
      refine x_getI X hK hw (st_course (cw_now hC)).1.1 (st_course (cw_now hC)).1.2 cpX0 9 (by decide) rfl tw_320 dX11_clement_76 ?_
      obtain ⟨r_10, I_11, J_12, hq_13, hf⟩ := yb_b3_some hf
      refine x_calli X hK hw (c1_canHear l D cz ev hC hq_13) (cw_mem hC 30 (by decide)) (cw_S hC 30 rfl) cpX1.1 vw_X11_223 ⟨Nat.le_of_ble_eq_true rfl, Nat.le_of_ble_eq_true rfl⟩ rfl rfl (Nat.le_of_ble_eq_true rfl) hl.1 ⟨Nat.le_refl _, Nat.le_refl _⟩ dX11_clement_79 (fun H locs hw => ?_)
      refine lv_if_eq (tgt := 131) hx hb dX11_clement_82 (by decide) (fun c_14 => ?_) (fun c_14 => ?_)
      · have hf := yb_pos c_14 hf
        obtain ⟨x6_15, ex6_15, hf⟩ := yb_let_ex hf
        refine lv_iinc (v := x6_15) (lv' := [(6, .int x6_15), (0, .ref b), (1, .int x1), (2, .int x2), (3, .int x3), (4, .int x4), (5, .int x5)]) hx hb dX11_clement_131 hl (k := 6) rfl (by rw [ex6_15]; rfl) (by decide) rfl (fun ls hl => ?_)
        refine lv_goto (tgt := 47) hx hb dX11_clement_134 (by decide) ?_
        exact ih _ _ _ _ _ _ _ _ _ _ _ hf hw (lv_sub hl [1, 2, 3, 4, 5, 6, 0] rfl) hexit
      · have hf := yb_neg c_14 hf
        refine lv_aload_n hx hb dX11_clement_85 rfl (lv_at hl 0 rfl) ?_
        refine x_getR X hK hw (cw_mem0 hC) (cw_S0 hC) cpX11 6 (by decide) rfl (cw_R hC 0 6 (by decide) rfl) tw_565 dX11_clement_86 ?_
        refine lv_iload_n hx hb dX11_clement_89 rfl (lv_at hl 1 rfl) ?_
        refine lv_iload hx hb dX11_clement_90 (lv_at hl 6 rfl) ?_
        obtain ⟨r_16, I_17, J_18, hq_19, hf⟩ := yb_b3_some hf
        refine x_calli X hK hw (c1_rightNow l D cz ev hC hq_19) (cw_mem hC 30 (by decide)) (cw_S hC 30 rfl) cpX1.1 vw_X11_227 ⟨Nat.le_of_ble_eq_true rfl, Nat.le_of_ble_eq_true rfl⟩ rfl rfl (Nat.le_of_ble_eq_true rfl) hl.1 ⟨Nat.le_refl _, Nat.le_refl _⟩ dX11_clement_92 (fun H locs hw => ?_)
        refine lv_istore (lv' := [(7, .int r_16), (0, .ref b), (1, .int x1), (2, .int x2), (3, .int x3), (4, .int x4), (5, .int x5), (6, .int x6)]) hx hb dX11_clement_95 hl (by decide) rfl (fun ls hl => ?_)
        refine lv_iload hx hb dX11_clement_97 (lv_at hl 5 rfl) ?_
        refine lv_if_lt (tgt := 123) hx hb dX11_clement_99 (by decide) (fun c_20 => ?_) (fun c_20 => ?_)
        · have hf := yb_pos c_20 hf
          refine lv_iload hx hb dX11_clement_123 (lv_at hl 7 rfl) ?_
          refine lv_istore (lv' := [(4, .int x6), (7, .int r_16), (0, .ref b), (1, .int x1), (2, .int x2), (3, .int x3), (5, .int x5), (6, .int x6)]) hx hb dX11_clement_125 hl (by decide) rfl (fun ls hl => ?_)
          refine lv_iload hx hb dX11_clement_127 (lv_at hl 1 rfl) ?_
          refine lv_istore (lv' := [(5, .int r_16), (4, .int x6), (7, .int r_16), (0, .ref b), (1, .int x1), (2, .int x2), (3, .int x3), (6, .int x6)]) hx hb dX11_clement_129 hl (by decide) rfl (fun ls hl => ?_)
          obtain ⟨x6_21, ex6_21, hf⟩ := yb_let_ex hf
          refine lv_iinc (v := x6_21) (lv' := [(6, .int x6_21), (5, .int r_16), (4, .int x6), (7, .int r_16), (0, .ref b), (1, .int x1), (2, .int x2), (3, .int x3)]) hx hb dX11_clement_131 hl (k := 7) rfl (by rw [ex6_21]; rfl) (by decide) rfl (fun ls hl => ?_)
          refine lv_goto (tgt := 47) hx hb dX11_clement_134 (by decide) ?_
          exact ih _ _ _ _ _ _ _ _ _ _ _ hf hw (lv_sub hl [4, 5, 6, 7, 2, 1, 0] rfl) hexit
        · have hf := yb_neg c_20 hf
          refine lv_iload_n hx hb dX11_clement_102 rfl (lv_at hl 4 rfl) ?_
          refine lv_if_eq (tgt := 116) hx hb dX11_clement_103 (by decide) (fun c_22 => ?_) (fun c_22 => ?_)
          · have hf := yb_pos c_22 hf
            refine lv_iload hx hb dX11_clement_116 (lv_at hl 0 rfl) ?_
            refine lv_iload hx hb dX11_clement_118 (lv_at hl 6 rfl) ?_
            refine lv_icmp_le (tgt := 131) hx hb dX11_clement_120 (by decide) (fun c_23 => ?_) (fun c_23 => ?_)
            · have hf := yb_pos c_23 hf
              obtain ⟨x6_24, ex6_24, hf⟩ := yb_let_ex hf
              refine lv_iinc (v := x6_24) (lv' := [(6, .int x6_24), (7, .int r_16), (0, .ref b), (1, .int x1), (2, .int x2), (3, .int x3), (4, .int x4), (5, .int x5)]) hx hb dX11_clement_131 hl (k := 7) rfl (by rw [ex6_24]; rfl) (by decide) rfl (fun ls hl => ?_)
              refine lv_goto (tgt := 47) hx hb dX11_clement_134 (by decide) ?_
              exact ih _ _ _ _ _ _ _ _ _ _ _ hf hw (lv_sub hl [2, 3, 4, 5, 6, 7, 0] rfl) hexit
            · have hf := yb_neg c_23 hf
              refine lv_iload hx hb dX11_clement_123 (lv_at hl 7 rfl) ?_
              refine lv_istore (lv' := [(4, .int x6), (7, .int r_16), (0, .ref b), (1, .int x1), (2, .int x2), (3, .int x3), (5, .int x5), (6, .int x6)]) hx hb dX11_clement_125 hl (by decide) rfl (fun ls hl => ?_)
              refine lv_iload hx hb dX11_clement_127 (lv_at hl 1 rfl) ?_
              refine lv_istore (lv' := [(5, .int r_16), (4, .int x6), (7, .int r_16), (0, .ref b), (1, .int x1), (2, .int x2), (3, .int x3), (6, .int x6)]) hx hb dX11_clement_129 hl (by decide) rfl (fun ls hl => ?_)
              obtain ⟨x6_25, ex6_25, hf⟩ := yb_let_ex hf
              refine lv_iinc (v := x6_25) (lv' := [(6, .int x6_25), (5, .int r_16), (4, .int x6), (7, .int r_16), (0, .ref b), (1, .int x1), (2, .int x2), (3, .int x3)]) hx hb dX11_clement_131 hl (k := 7) rfl (by rw [ex6_25]; rfl) (by decide) rfl (fun ls hl => ?_)
              refine lv_goto (tgt := 47) hx hb dX11_clement_134 (by decide) ?_
              exact ih _ _ _ _ _ _ _ _ _ _ _ hf hw (lv_sub hl [4, 5, 6, 7, 2, 1, 0] rfl) hexit
          · have hf := yb_neg c_22 hf
            refine lv_iload hx hb dX11_clement_106 (lv_at hl 0 rfl) ?_
            refine lv_iload hx hb dX11_clement_108 (lv_at hl 6 rfl) ?_
            refine lv_icmp_ge (tgt := 131) hx hb dX11_clement_110 (by decide) (fun c_26 => ?_) (fun c_26 => ?_)
            · have hf := yb_pos c_26 hf
              obtain ⟨x6_27, ex6_27, hf⟩ := yb_let_ex hf
              refine lv_iinc (v := x6_27) (lv' := [(6, .int x6_27), (7, .int r_16), (0, .ref b), (1, .int x1), (2, .int x2), (3, .int x3), (4, .int x4), (5, .int x5)]) hx hb dX11_clement_131 hl (k := 7) rfl (by rw [ex6_27]; rfl) (by decide) rfl (fun ls hl => ?_)
              refine lv_goto (tgt := 47) hx hb dX11_clement_134 (by decide) ?_
              exact ih _ _ _ _ _ _ _ _ _ _ _ hf hw (lv_sub hl [2, 3, 4, 5, 6, 7, 0] rfl) hexit
            · have hf := yb_neg c_26 hf
              refine lv_goto (tgt := 123) hx hb dX11_clement_113 (by decide) ?_
              refine lv_iload hx hb dX11_clement_123 (lv_at hl 7 rfl) ?_
              refine lv_istore (lv' := [(4, .int x6), (7, .int r_16), (0, .ref b), (1, .int x1), (2, .int x2), (3, .int x3), (5, .int x5), (6, .int x6)]) hx hb dX11_clement_125 hl (by decide) rfl (fun ls hl => ?_)
              refine lv_iload hx hb dX11_clement_127 (lv_at hl 1 rfl) ?_
              refine lv_istore (lv' := [(5, .int r_16), (4, .int x6), (7, .int r_16), (0, .ref b), (1, .int x1), (2, .int x2), (3, .int x3), (6, .int x6)]) hx hb dX11_clement_129 hl (by decide) rfl (fun ls hl => ?_)
              obtain ⟨x6_28, ex6_28, hf⟩ := yb_let_ex hf
              refine lv_iinc (v := x6_28) (lv' := [(6, .int x6_28), (5, .int r_16), (4, .int x6), (7, .int r_16), (0, .ref b), (1, .int x1), (2, .int x2), (3, .int x3)]) hx hb dX11_clement_131 hl (k := 7) rfl (by rw [ex6_28]; rfl) (by decide) rfl (fun ls hl => ?_)
              refine lv_goto (tgt := 47) hx hb dX11_clement_134 (by decide) ?_
              exact ih _ _ _ _ _ _ _ _ _ _ _ hf hw (lv_sub hl [4, 5, 6, 7, 2, 1, 0] rfl) hexit
set_option maxHeartbeats 4000000 in
set_option maxRecDepth 100000 in
theorem c11_clement (l : Launch) (D : va_G) (cz : Nat → ClassId) (ev : Nat × Nat × Nat) {b : Nat} {L : List Nat} {S : ST} {Rf : RT} (hC : CW b L S Rf) {N : Nat} {x1 : Int32} {x2 : Int32} {I : IT} {J : JT} {r : Int32} {I1 : IT} {J1 : JT} (hf : f11_clement N b S Rf x1 x2 I J = some (r, I1, J1)) : MTi l D cz ev yX11_clement cX11_clement 8 (some .int) 4 99 [.ref b, .int x1, .int x2] L S Rf I J r I1 J1 := by
  unfold f11_clement at hf
  refine MTi_of (by decide) (Nat.le_of_ble_eq_true rfl) ?_
  intro p e s m args below meth c Q ls X hK hw hl hfin
  have X : CallFix p m c cX11_clement 8 s args gw RX11 := X
  have hx := X.1
  have hb := X.2.1
  have hl : lv_has ls 8 [(0, .ref b), (1, .int x1), (2, .int x2)] := hl
  refine lv_aload_n hx hb dX11_clement_0 rfl (lv_at hl 0 rfl) ?_
  refine x_getR X hK hw (cw_mem0 hC) (cw_S0 hC) cpX11 3 (by decide) rfl (cw_R hC 0 3 (by decide) rfl) tw_562 dX11_clement_1 ?_
  refine x_getR X hK hw (cw_now hC).1.1 (cw_now hC).1.2 cpX8 0 (by decide) rfl (cw_now hC).2.1.1 tw_346 dX11_clement_4 ?_
  refine lv_iload_n hx hb dX11_clement_7 rfl (lv_at hl 1 rfl) ?_
  obtain ⟨r_1, I_2, J_3, hq_4, hf⟩ := yb_b3_some hf
  refine x_calli X hK hw (c9_hasCase l D cz ev hC (st_town (cw_now hC)) hq_4) (st_town (cw_now hC)).1.1 (st_town (cw_now hC)).1.2 cpX9.1 vw_X11_186 ⟨Nat.le_of_ble_eq_true rfl, Nat.le_of_ble_eq_true rfl⟩ rfl rfl (Nat.le_of_ble_eq_true rfl) hl.1 ⟨Nat.le_refl _, Nat.le_refl _⟩ dX11_clement_8 (fun H locs hw => ?_)
  refine lv_if_eq (tgt := 23) hx hb dX11_clement_11 (by decide) (fun c_5 => ?_) (fun c_5 => ?_)
  · have hf := yb_pos c_5 hf
    refine lv_iconst (v := (-1 : Int32)) hx hb dX11_clement_23 (by decide) ?_
    exact yb_reti hfin hf hw dX11_clement_24
  · have hf := yb_neg c_5 hf
    refine lv_iload_n hx hb dX11_clement_14 rfl (lv_at hl 2 rfl) ?_
    refine lv_if_lt (tgt := 23) hx hb dX11_clement_15 (by decide) (fun c_6 => ?_) (fun c_6 => ?_)
    · have hf := yb_pos c_6 hf
      refine lv_iconst (v := (-1 : Int32)) hx hb dX11_clement_23 (by decide) ?_
      exact yb_reti hfin hf hw dX11_clement_24
    · have hf := yb_neg c_6 hf
      refine lv_iload_n hx hb dX11_clement_18 rfl (lv_at hl 2 rfl) ?_
      refine lv_iconst (v := (3 : Int32)) hx hb dX11_clement_19 (by decide) ?_
      refine lv_icmp_le (tgt := 25) hx hb dX11_clement_20 (by decide) (fun c_7 => ?_) (fun c_7 => ?_)
      · have hf := yb_pos c_7 hf
        refine lv_iload_n hx hb dX11_clement_25 rfl (lv_at hl 2 rfl) ?_
        refine lv_iconst (v := (2 : Int32)) hx hb dX11_clement_26 (by decide) ?_
        refine lv_icmp_ge (tgt := 34) hx hb dX11_clement_27 (by decide) (fun c_8 => ?_) (fun c_8 => ?_)
        · have hf := yb_pos c_8 hf
          refine lv_iconst (v := (0 : Int32)) hx hb dX11_clement_34 (by decide) ?_
          refine lv_istore_n (lv' := [(3, .int (0 : Int32)), (0, .ref b), (1, .int x1), (2, .int x2)]) hx hb dX11_clement_35 rfl hl (by decide) rfl (fun ls hl => ?_)
          refine lv_bipush (v := (-2 : Int32)) hx hb dX11_clement_36 (by decide) ?_
          refine lv_istore (lv' := [(4, .int (-2 : Int32)), (3, .int (0 : Int32)), (0, .ref b), (1, .int x1), (2, .int x2)]) hx hb dX11_clement_38 hl (by decide) rfl (fun ls hl => ?_)
          refine lv_bipush (v := (-2 : Int32)) hx hb dX11_clement_40 (by decide) ?_
          refine lv_istore (lv' := [(5, .int (-2 : Int32)), (4, .int (-2 : Int32)), (3, .int (0 : Int32)), (0, .ref b), (1, .int x1), (2, .int x2)]) hx hb dX11_clement_42 hl (by decide) rfl (fun ls hl => ?_)
          refine lv_iconst (v := (0 : Int32)) hx hb dX11_clement_44 (by decide) ?_
          refine lv_istore (lv' := [(6, .int (0 : Int32)), (5, .int (-2 : Int32)), (4, .int (-2 : Int32)), (3, .int (0 : Int32)), (0, .ref b), (1, .int x1), (2, .int x2)]) hx hb dX11_clement_45 hl (by decide) rfl (fun ls hl => ?_)
          obtain ⟨q_29, I_30, J_31, hq_32, hf⟩ := yb_b3_some hf
          refine w11_clement_L47 hC X hK _ _ _ _ _ _ _ _ _ _ _ _ hq_32 hw (lv_sub hl [4, 5, 6, 3, 2, 1, 0] rfl) (fun H locs ls hw hl => ?_)
          refine lv_iload_n hx hb dX11_clement_137 rfl (lv_at hl 0 rfl) ?_
          refine lv_iconst (v := (1 : Int32)) hx hb dX11_clement_138 (by decide) ?_
          refine lv_iand hx hb dX11_clement_139 ?_
          refine lv_if_ne (tgt := 148) hx hb dX11_clement_140 (by decide) (fun c_33 => ?_) (fun c_33 => ?_)
          · have hf := yb_neg c_33 hf
            refine lv_iload hx hb dX11_clement_148 (lv_at hl 2 rfl) ?_
            exact yb_reti hfin hf hw dX11_clement_150
          · have hf := yb_pos c_33 hf
            refine lv_iload hx hb dX11_clement_143 (lv_at hl 1 rfl) ?_
            refine lv_goto (tgt := 150) hx hb dX11_clement_145 (by decide) ?_
            exact yb_reti hfin hf hw dX11_clement_150
        · have hf := yb_neg c_8 hf
          refine lv_iconst (v := (1 : Int32)) hx hb dX11_clement_30 (by decide) ?_
          refine lv_goto (tgt := 35) hx hb dX11_clement_31 (by decide) ?_
          refine lv_istore_n (lv' := [(3, .int (1 : Int32)), (0, .ref b), (1, .int x1), (2, .int x2)]) hx hb dX11_clement_35 rfl hl (by decide) rfl (fun ls hl => ?_)
          refine lv_bipush (v := (-2 : Int32)) hx hb dX11_clement_36 (by decide) ?_
          refine lv_istore (lv' := [(4, .int (-2 : Int32)), (3, .int (1 : Int32)), (0, .ref b), (1, .int x1), (2, .int x2)]) hx hb dX11_clement_38 hl (by decide) rfl (fun ls hl => ?_)
          refine lv_bipush (v := (-2 : Int32)) hx hb dX11_clement_40 (by decide) ?_
          refine lv_istore (lv' := [(5, .int (-2 : Int32)), (4, .int (-2 : Int32)), (3, .int (1 : Int32)), (0, .ref b), (1, .int x1), (2, .int x2)]) hx hb dX11_clement_42 hl (by decide) rfl (fun ls hl => ?_)
          refine lv_iconst (v := (0 : Int32)) hx hb dX11_clement_44 (by decide) ?_
          refine lv_istore (lv' := [(6, .int (0 : Int32)), (5, .int (-2 : Int32)), (4, .int (-2 : Int32)), (3, .int (1 : Int32)), (0, .ref b), (1, .int x1), (2, .int x2)]) hx hb dX11_clement_45 hl (by decide) rfl (fun ls hl => ?_)
          obtain ⟨q_34, I_35, J_36, hq_37, hf⟩ := yb_b3_some hf
          refine w11_clement_L47 hC X hK _ _ _ _ _ _ _ _ _ _ _ _ hq_37 hw (lv_sub hl [4, 5, 6, 3, 2, 1, 0] rfl) (fun H locs ls hw hl => ?_)
          refine lv_iload_n hx hb dX11_clement_137 rfl (lv_at hl 0 rfl) ?_
          refine lv_iconst (v := (1 : Int32)) hx hb dX11_clement_138 (by decide) ?_
          refine lv_iand hx hb dX11_clement_139 ?_
          refine lv_if_ne (tgt := 148) hx hb dX11_clement_140 (by decide) (fun c_38 => ?_) (fun c_38 => ?_)
          · have hf := yb_neg c_38 hf
            refine lv_iload hx hb dX11_clement_148 (lv_at hl 2 rfl) ?_
            exact yb_reti hfin hf hw dX11_clement_150
          · have hf := yb_pos c_38 hf
            refine lv_iload hx hb dX11_clement_143 (lv_at hl 1 rfl) ?_
            refine lv_goto (tgt := 150) hx hb dX11_clement_145 (by decide) ?_
            exact yb_reti hfin hf hw dX11_clement_150
      · have hf := yb_neg c_7 hf
        refine lv_iconst (v := (-1 : Int32)) hx hb dX11_clement_23 (by decide) ?_
        exact yb_reti hfin hf hw dX11_clement_24
