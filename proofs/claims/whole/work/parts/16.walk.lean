set_option maxHeartbeats 4000000 in
set_option maxRecDepth 100000 in
theorem cJ_bitCount_0f7a4 (l : Launch) (D : va_G) (cz : Nat → ClassId) (ev : Nat × Nat × Nat) {L : List Nat} {S : ST} {Rf : RT} {x0 : Int32} {I : IT} {J : JT} {r : Int32} {I1 : IT} {J1 : JT} (hf : fJ_bitCount_0f7a4  x0 I J = some (r, I1, J1)) : MTi l D cz ev yJ6_bitCount_0f7a4 cJ6_bitCount_0f7a4 1 (some .int) 0 0 [.int x0] L S Rf I J r I1 J1 := by
  unfold fJ_bitCount_0f7a4 at hf
  refine MTi_of (by decide) (Nat.le_of_ble_eq_true rfl) ?_
  intro p e s m args below meth c Q ls X hK hw hl hfin
  have X : CallFix p m c cJ6_bitCount_0f7a4 1 s args gw RJ6 := X
  have hx := X.1
  have hb := X.2.1
  have hl : lv_has ls 1 [(0, .int x0)] := hl
  refine lv_iload_n hx hb dJ6_bitCount_0f7a4_0 rfl (lv_at hl 0 rfl) ?_
  refine lv_iload_n hx hb dJ6_bitCount_0f7a4_1 rfl (lv_at hl 0 rfl) ?_
  refine lv_iconst (v := (1 : Int32)) hx hb dJ6_bitCount_0f7a4_2 (by decide) ?_
  refine lv_iushr hx hb dJ6_bitCount_0f7a4_3 rfl ?_
  refine lv_ldcw (v := (1431655765 : Int32)) hx hb X.2.2.2.1 (X.2.2.2.2 _ tw_1012) dJ6_bitCount_0f7a4_4 ?_
  refine lv_iand hx hb dJ6_bitCount_0f7a4_7 ?_
  refine lv_isub hx hb dJ6_bitCount_0f7a4_8 ?_
  refine lv_topi (fun x0_1 ex0_1 => ?_)
  have hf := yb_let_to ex0_1 hf
  refine lv_istore_n (lv' := [(0, .int x0_1)]) hx hb dJ6_bitCount_0f7a4_9 rfl hl (by decide) rfl (fun ls hl => ?_)
  refine lv_iload_n hx hb dJ6_bitCount_0f7a4_10 rfl (lv_at hl 0 rfl) ?_
  refine lv_ldcw (v := (858993459 : Int32)) hx hb X.2.2.2.1 (X.2.2.2.2 _ tw_1013) dJ6_bitCount_0f7a4_11 ?_
  refine lv_iand hx hb dJ6_bitCount_0f7a4_14 ?_
  refine lv_iload_n hx hb dJ6_bitCount_0f7a4_15 rfl (lv_at hl 0 rfl) ?_
  refine lv_iconst (v := (2 : Int32)) hx hb dJ6_bitCount_0f7a4_16 (by decide) ?_
  refine lv_iushr hx hb dJ6_bitCount_0f7a4_17 rfl ?_
  refine lv_ldcw (v := (858993459 : Int32)) hx hb X.2.2.2.1 (X.2.2.2.2 _ tw_1013) dJ6_bitCount_0f7a4_18 ?_
  refine lv_iand hx hb dJ6_bitCount_0f7a4_21 ?_
  refine lv_iadd hx hb dJ6_bitCount_0f7a4_22 ?_
  refine lv_topi (fun x0_2 ex0_2 => ?_)
  have hf := yb_let_to ex0_2 hf
  refine lv_istore_n (lv' := [(0, .int x0_2)]) hx hb dJ6_bitCount_0f7a4_23 rfl hl (by decide) rfl (fun ls hl => ?_)
  refine lv_iload_n hx hb dJ6_bitCount_0f7a4_24 rfl (lv_at hl 0 rfl) ?_
  refine lv_iload_n hx hb dJ6_bitCount_0f7a4_25 rfl (lv_at hl 0 rfl) ?_
  refine lv_iconst (v := (4 : Int32)) hx hb dJ6_bitCount_0f7a4_26 (by decide) ?_
  refine lv_iushr hx hb dJ6_bitCount_0f7a4_27 rfl ?_
  refine lv_iadd hx hb dJ6_bitCount_0f7a4_28 ?_
  refine lv_ldcw (v := (252645135 : Int32)) hx hb X.2.2.2.1 (X.2.2.2.2 _ tw_1014) dJ6_bitCount_0f7a4_29 ?_
  refine lv_iand hx hb dJ6_bitCount_0f7a4_32 ?_
  refine lv_topi (fun x0_3 ex0_3 => ?_)
  have hf := yb_let_to ex0_3 hf
  refine lv_istore_n (lv' := [(0, .int x0_3)]) hx hb dJ6_bitCount_0f7a4_33 rfl hl (by decide) rfl (fun ls hl => ?_)
  refine lv_iload_n hx hb dJ6_bitCount_0f7a4_34 rfl (lv_at hl 0 rfl) ?_
  refine lv_iload_n hx hb dJ6_bitCount_0f7a4_35 rfl (lv_at hl 0 rfl) ?_
  refine lv_bipush (v := (8 : Int32)) hx hb dJ6_bitCount_0f7a4_36 (by decide) ?_
  refine lv_iushr hx hb dJ6_bitCount_0f7a4_38 rfl ?_
  refine lv_iadd hx hb dJ6_bitCount_0f7a4_39 ?_
  refine lv_topi (fun x0_4 ex0_4 => ?_)
  have hf := yb_let_to ex0_4 hf
  refine lv_istore_n (lv' := [(0, .int x0_4)]) hx hb dJ6_bitCount_0f7a4_40 rfl hl (by decide) rfl (fun ls hl => ?_)
  refine lv_iload_n hx hb dJ6_bitCount_0f7a4_41 rfl (lv_at hl 0 rfl) ?_
  refine lv_iload_n hx hb dJ6_bitCount_0f7a4_42 rfl (lv_at hl 0 rfl) ?_
  refine lv_bipush (v := (16 : Int32)) hx hb dJ6_bitCount_0f7a4_43 (by decide) ?_
  refine lv_iushr hx hb dJ6_bitCount_0f7a4_45 rfl ?_
  refine lv_iadd hx hb dJ6_bitCount_0f7a4_46 ?_
  refine lv_topi (fun x0_5 ex0_5 => ?_)
  have hf := yb_let_to ex0_5 hf
  refine lv_istore_n (lv' := [(0, .int x0_5)]) hx hb dJ6_bitCount_0f7a4_47 rfl hl (by decide) rfl (fun ls hl => ?_)
  refine lv_iload_n hx hb dJ6_bitCount_0f7a4_48 rfl (lv_at hl 0 rfl) ?_
  refine lv_bipush (v := (63 : Int32)) hx hb dJ6_bitCount_0f7a4_49 (by decide) ?_
  refine lv_iand hx hb dJ6_bitCount_0f7a4_51 ?_
  exact yb_reti hfin hf hw dJ6_bitCount_0f7a4_52
set_option maxHeartbeats 4000000 in
set_option maxRecDepth 100000 in
theorem wJ_fill_53178_L5 {p : Program} {l : Launch} {e : Env} {s : State} {m : MethodId} {args : Array Value} {below : List Frame} {meth : Method} {c : Code} {Q : State → Prop} {D : va_G} {cz : Nat → ClassId} {A : Nat → Prop} {ev : Nat × Nat × Nat} {L : List Nat} {S : ST} {Rf : RT} {t0 n0 : Nat} (ha : t0 ∈ L) (hS : S t0 = (0, n0)) (X : CallFix p m c cJ7_fill_53178 4 s args gw RJ7) (hK : KX D cz ev A s) {N : Nat} {x1 : Int32} {x3 : Int32} :
    ∀ (n : Nat) (x2 : Int32) (I : IT) (J : JT) (q : (Unit)) (I1 : IT) (J1 : JT) (H : Heap) (locs : List Loc) (ls : Array Slot), fJ_fill_53178_L5 N t0 n0 x1 x3 n x2 I J = some (q, I1, J1) → WX D cz A L S Rf s.heap I J H locs → lv_has ls 4 [(0, .ref t0), (1, .int x1), (2, .int x2), (3, .int x3)] →
    (∀ (H : Heap) (locs : List Loc) (ls : Array Slot), WX D cz A L S Rf s.heap I1 J1 H locs → lv_has ls 4 [] → W p l e (rmX 0 0) s m args below meth c H locs 0 0 Q (F0 m 20 ls [])) →
    W p l e (rmX 0 0) s m args below meth c H locs 0 0 Q (F0 m 5 ls []) := by
  have hx := X.1
  have hb := X.2.1
  intro n
  induction n with
  | zero =>
    intro x2 I J q I1 J1 H locs ls hf
    rw [fJ_fill_53178_L5] at hf
    cases hf
  | succ n ih =>
    intro x2 I J q I1 J1 H locs ls hf hw hl hexit
    rw [fJ_fill_53178_L5] at hf
    refine lv_iload_n hx hb dJ7_fill_53178_5 rfl (lv_at hl 2 rfl) ?_
    refine lv_iload_n hx hb dJ7_fill_53178_6 rfl (lv_at hl 3 rfl) ?_
    refine lv_icmp_ge (tgt := 20) hx hb dJ7_fill_53178_7 (by decide) (fun c_2 => ?_) (fun c_2 => ?_)
    · have hf := yb_pos c_2 hf
      obtain ⟨rfl, rfl, rfl⟩ := yb_inj hf
      exact hexit _ _ _ hw (lv_sub hl [] rfl)
    · have hf := yb_neg c_2 hf
      refine lv_aload_n hx hb dJ7_fill_53178_10 rfl (lv_at hl 0 rfl) ?_
      refine lv_iload_n hx hb dJ7_fill_53178_11 rfl (lv_at hl 2 rfl) ?_
      refine lv_iload_n hx hb dJ7_fill_53178_12 rfl (lv_at hl 1 rfl) ?_
      obtain ⟨hi_3, hf⟩ := yb_ck_some hf
      refine x_iast X hK hw ha hS hi_3 rfl dJ7_fill_53178_13 (fun H locs hw => ?_)
      obtain ⟨I_4, eI_4, hf⟩ := yb_let_ex hf
      have hw := yb_wI eI_4 hw
      obtain ⟨x2_5, ex2_5, hf⟩ := yb_let_ex hf
      refine lv_iinc (v := x2_5) (lv' := [(2, .int x2_5), (0, .ref t0), (1, .int x1), (3, .int x3)]) hx hb dJ7_fill_53178_14 hl (k := 2) rfl (by rw [ex2_5]; rfl) (by decide) rfl (fun ls hl => ?_)
      refine lv_goto (tgt := 5) hx hb dJ7_fill_53178_17 (by decide) ?_
      exact ih _ _ _ _ _ _ _ _ _ hf hw (lv_sub hl [1, 2, 0, 3] rfl) hexit
set_option maxHeartbeats 4000000 in
set_option maxRecDepth 100000 in
theorem cJ_fill_53178 (l : Launch) (D : va_G) (cz : Nat → ClassId) (ev : Nat × Nat × Nat) {L : List Nat} {S : ST} {Rf : RT} {t0 n0 : Nat} (ha : t0 ∈ L) (hS : S t0 = (0, n0)) {N : Nat} {x1 : Int32} {I : IT} {J : JT} {r : Unit} {I1 : IT} {J1 : JT} (hf : fJ_fill_53178 N t0 n0 x1 I J = some (r, I1, J1)) : MTv l D cz ev yJ7_fill_53178 cJ7_fill_53178 4 (none) 0 0 [.ref t0, .int x1] L S Rf I J r I1 J1 := by
  unfold fJ_fill_53178 at hf
  refine MTv_of (by decide) (Nat.le_of_ble_eq_true rfl) ?_
  intro p e s m args below meth c Q ls X hK hw hl hfin
  have X : CallFix p m c cJ7_fill_53178 4 s args gw RJ7 := X
  have hx := X.1
  have hb := X.2.1
  have hl : lv_has ls 4 [(0, .ref t0), (1, .int x1)] := hl
  refine lv_iconst (v := (0 : Int32)) hx hb dJ7_fill_53178_0 (by decide) ?_
  refine lv_istore_n (lv' := [(2, .int (0 : Int32)), (0, .ref t0), (1, .int x1)]) hx hb dJ7_fill_53178_1 rfl hl (by decide) rfl (fun ls hl => ?_)
  refine lv_aload_n hx hb dJ7_fill_53178_2 rfl (lv_at hl 1 rfl) ?_
  refine x_alen X hK hw ha hS dJ7_fill_53178_3 ?_
  refine lv_topi (fun x3_1 ex3_1 => ?_)
  have hf := yb_let_to ex3_1 hf
  refine lv_istore_n (lv' := [(3, .int x3_1), (2, .int (0 : Int32)), (0, .ref t0), (1, .int x1)]) hx hb dJ7_fill_53178_4 rfl hl (by decide) rfl (fun ls hl => ?_)
  obtain ⟨q_6, I_7, J_8, hq_9, hf⟩ := yb_b3_some hf
  refine wJ_fill_53178_L5 ha hS X hK _ _ _ _ _ _ _ _ _ _ hq_9 hw (lv_sub hl [2, 3, 1, 0] rfl) (fun H locs ls hw hl => ?_)
  exact yb_retv hfin hf hw dJ7_fill_53178_20
set_option maxHeartbeats 4000000 in
set_option maxRecDepth 100000 in
theorem c0_start (l : Launch) (D : va_G) (cz : Nat → ClassId) (ev : Nat × Nat × Nat) {b : Nat} {L : List Nat} {S : ST} {Rf : RT} (hC : CW b L S Rf) {t0 : Nat} (h0 : CourseAt L S Rf t0) {t1 : Nat} (h1 : TownAt L S Rf t1) {N : Nat} {I : IT} {J : JT} {r : Unit} {I1 : IT} {J1 : JT} (hf : f0_start N b S Rf t0 t1 I J = some (r, I1, J1)) : MTv l D cz ev yX0_start cX0_start 2 (none) 1 100 [.ref t0, .ref t1] L S Rf I J r I1 J1 := by
  unfold f0_start at hf
  refine MTv_of (by decide) (Nat.le_of_ble_eq_true rfl) ?_
  intro p e s m args below meth c Q ls X hK hw hl hfin
  have X : CallFix p m c cX0_start 2 s args gw RX0 := X
  have hx := X.1
  have hb := X.2.1
  have hl : lv_has ls 2 [(0, .ref t0), (1, .ref t1)] := hl
  refine lv_aload_n hx hb dX0_start_0 rfl (lv_at hl 0 rfl) ?_
  refine lv_iconst (v := (0 : Int32)) hx hb dX0_start_1 (by decide) ?_
  refine x_putI X hK hw h0.1.1 h0.1.2 cpX0 9 (by decide) rfl rfl rfl tw_317 dX0_start_2 (fun H locs hw => ?_)
  obtain ⟨I_1, eI_1, hf⟩ := yb_let_ex hf
  have hw := yb_wI eI_1 hw
  refine lv_aload_n hx hb dX0_start_5 rfl (lv_at hl 1 rfl) ?_
  refine x_getR X hK hw h1.1.1 h1.1.2 cpX9 1 (by decide) rfl (ta_R h1 1 (by decide)) tw_197 dX0_start_6 ?_
  refine lv_iconst (v := (0 : Int32)) hx hb dX0_start_9 (by decide) ?_
  refine lv_aload_n hx hb dX0_start_10 rfl (lv_at hl 0 rfl) ?_
  refine x_getR X hK hw h0.1.1 h0.1.2 cpX0 0 (by decide) rfl (ca_R h0 0 (by decide)) tw_286 dX0_start_11 ?_
  refine lv_iconst (v := (0 : Int32)) hx hb dX0_start_14 (by decide) ?_
  refine lv_bipush (v := (7 : Int32)) hx hb dX0_start_15 (by decide) ?_
  refine x_acopy X hK hw (ta_mem h1 1 (by decide)) (ta_S h1 1 rfl) (ca_mem h0 0 (by decide)) (ca_S h0 0 rfl) (k := 7) rfl (by decide) (by decide) (by decide) (Nat.le_of_ble_eq_true rfl) (by decide) tw_771 hl.1 dX0_start_17 (fun H locs hw => ?_)
  obtain ⟨I_2, eI_2, hf⟩ := yb_let_ex hf
  have hw := yb_wI eI_2 hw
  refine lv_aload_n hx hb dX0_start_20 rfl (lv_at hl 0 rfl) ?_
  refine x_getR X hK hw h0.1.1 h0.1.2 cpX0 1 (by decide) rfl (ca_R h0 1 (by decide)) tw_291 dX0_start_21 ?_
  refine lv_iconst (v := (0 : Int32)) hx hb dX0_start_24 (by decide) ?_
  obtain ⟨r_6, I_3, J_4, hq_5, hf⟩ := yb_b3_some hf
  refine x_callsv X hK hw (cJ_fill_53178 l D cz ev (ca_mem h0 1 (by decide)) (ca_S h0 1 rfl) hq_5) sw_X0_52 ⟨Nat.le_of_ble_eq_true rfl, Nat.le_of_ble_eq_true rfl⟩ rfl rfl (Nat.le_of_ble_eq_true rfl) hl.1 ⟨Nat.le_refl _, Nat.le_refl _⟩ dX0_start_25 (fun H locs hw => ?_)
  refine lv_aload_n hx hb dX0_start_28 rfl (lv_at hl 0 rfl) ?_
  refine x_getR X hK hw h0.1.1 h0.1.2 cpX0 2 (by decide) rfl (ca_R h0 2 (by decide)) tw_295 dX0_start_29 ?_
  refine lv_iconst (v := (-1 : Int32)) hx hb dX0_start_32 (by decide) ?_
  obtain ⟨r_10, I_7, J_8, hq_9, hf⟩ := yb_b3_some hf
  refine x_callsv X hK hw (cJ_fill_53178 l D cz ev (ca_mem h0 2 (by decide)) (ca_S h0 2 rfl) hq_9) sw_X0_52 ⟨Nat.le_of_ble_eq_true rfl, Nat.le_of_ble_eq_true rfl⟩ rfl rfl (Nat.le_of_ble_eq_true rfl) hl.1 ⟨Nat.le_refl _, Nat.le_refl _⟩ dX0_start_33 (fun H locs hw => ?_)
  refine lv_aload_n hx hb dX0_start_36 rfl (lv_at hl 0 rfl) ?_
  refine x_getR X hK hw h0.1.1 h0.1.2 cpX0 3 (by decide) rfl (ca_R h0 3 (by decide)) tw_299 dX0_start_37 ?_
  refine lv_iconst (v := (0 : Int32)) hx hb dX0_start_40 (by decide) ?_
  obtain ⟨r_14, I_11, J_12, hq_13, hf⟩ := yb_b3_some hf
  refine x_callsv X hK hw (cJ_fill_53178 l D cz ev (ca_mem h0 3 (by decide)) (ca_S h0 3 rfl) hq_13) sw_X0_52 ⟨Nat.le_of_ble_eq_true rfl, Nat.le_of_ble_eq_true rfl⟩ rfl rfl (Nat.le_of_ble_eq_true rfl) hl.1 ⟨Nat.le_refl _, Nat.le_refl _⟩ dX0_start_41 (fun H locs hw => ?_)
  refine lv_aload_n hx hb dX0_start_44 rfl (lv_at hl 0 rfl) ?_
  refine x_getR X hK hw h0.1.1 h0.1.2 cpX0 4 (by decide) rfl (ca_R h0 4 (by decide)) tw_303 dX0_start_45 ?_
  refine lv_iconst (v := (-1 : Int32)) hx hb dX0_start_48 (by decide) ?_
  obtain ⟨r_18, I_15, J_16, hq_17, hf⟩ := yb_b3_some hf
  refine x_callsv X hK hw (cJ_fill_53178 l D cz ev (ca_mem h0 4 (by decide)) (ca_S h0 4 rfl) hq_17) sw_X0_52 ⟨Nat.le_of_ble_eq_true rfl, Nat.le_of_ble_eq_true rfl⟩ rfl rfl (Nat.le_of_ble_eq_true rfl) hl.1 ⟨Nat.le_refl _, Nat.le_refl _⟩ dX0_start_49 (fun H locs hw => ?_)
  refine lv_aload_n hx hb dX0_start_52 rfl (lv_at hl 0 rfl) ?_
  refine x_getR X hK hw h0.1.1 h0.1.2 cpX0 5 (by decide) rfl (ca_R h0 5 (by decide)) tw_306 dX0_start_53 ?_
  refine lv_iconst (v := (-1 : Int32)) hx hb dX0_start_56 (by decide) ?_
  obtain ⟨r_22, I_19, J_20, hq_21, hf⟩ := yb_b3_some hf
  refine x_callsv X hK hw (cJ_fill_53178 l D cz ev (ca_mem h0 5 (by decide)) (ca_S h0 5 rfl) hq_21) sw_X0_52 ⟨Nat.le_of_ble_eq_true rfl, Nat.le_of_ble_eq_true rfl⟩ rfl rfl (Nat.le_of_ble_eq_true rfl) hl.1 ⟨Nat.le_refl _, Nat.le_refl _⟩ dX0_start_57 (fun H locs hw => ?_)
  refine lv_aload_n hx hb dX0_start_60 rfl (lv_at hl 0 rfl) ?_
  refine x_getR X hK hw h0.1.1 h0.1.2 cpX0 6 (by decide) rfl (ca_R h0 6 (by decide)) tw_309 dX0_start_61 ?_
  refine lv_iconst (v := (-1 : Int32)) hx hb dX0_start_64 (by decide) ?_
  obtain ⟨r_26, I_23, J_24, hq_25, hf⟩ := yb_b3_some hf
  refine x_callsv X hK hw (cJ_fill_53178 l D cz ev (ca_mem h0 6 (by decide)) (ca_S h0 6 rfl) hq_25) sw_X0_52 ⟨Nat.le_of_ble_eq_true rfl, Nat.le_of_ble_eq_true rfl⟩ rfl rfl (Nat.le_of_ble_eq_true rfl) hl.1 ⟨Nat.le_refl _, Nat.le_refl _⟩ dX0_start_65 (fun H locs hw => ?_)
  refine lv_aload_n hx hb dX0_start_68 rfl (lv_at hl 0 rfl) ?_
  refine x_getR X hK hw h0.1.1 h0.1.2 cpX0 7 (by decide) rfl (ca_R h0 7 (by decide)) tw_311 dX0_start_69 ?_
  refine lv_iconst (v := (-1 : Int32)) hx hb dX0_start_72 (by decide) ?_
  obtain ⟨r_30, I_27, J_28, hq_29, hf⟩ := yb_b3_some hf
  refine x_callsv X hK hw (cJ_fill_53178 l D cz ev (ca_mem h0 7 (by decide)) (ca_S h0 7 rfl) hq_29) sw_X0_52 ⟨Nat.le_of_ble_eq_true rfl, Nat.le_of_ble_eq_true rfl⟩ rfl rfl (Nat.le_of_ble_eq_true rfl) hl.1 ⟨Nat.le_refl _, Nat.le_refl _⟩ dX0_start_73 (fun H locs hw => ?_)
  refine lv_aload_n hx hb dX0_start_76 rfl (lv_at hl 0 rfl) ?_
  refine x_getR X hK hw h0.1.1 h0.1.2 cpX0 8 (by decide) rfl (ca_R h0 8 (by decide)) tw_313 dX0_start_77 ?_
  refine lv_iconst (v := (0 : Int32)) hx hb dX0_start_80 (by decide) ?_
  obtain ⟨r_34, I_31, J_32, hq_33, hf⟩ := yb_b3_some hf
  refine x_callsv X hK hw (cJ_fill_53178 l D cz ev (ca_mem h0 8 (by decide)) (ca_S h0 8 rfl) hq_33) sw_X0_52 ⟨Nat.le_of_ble_eq_true rfl, Nat.le_of_ble_eq_true rfl⟩ rfl rfl (Nat.le_of_ble_eq_true rfl) hl.1 ⟨Nat.le_refl _, Nat.le_refl _⟩ dX0_start_81 (fun H locs hw => ?_)
  exact yb_retv hfin hf hw dX0_start_84
set_option maxHeartbeats 4000000 in
set_option maxRecDepth 100000 in
theorem c0_copy (l : Launch) (D : va_G) (cz : Nat → ClassId) (ev : Nat × Nat × Nat) {b : Nat} {L : List Nat} {S : ST} {Rf : RT} (hC : CW b L S Rf) {t0 : Nat} (h0 : CourseAt L S Rf t0) {t1 : Nat} (h1 : CourseAt L S Rf t1) {I : IT} {J : JT} {r : Unit} {I1 : IT} {J1 : JT} (hf : f0_copy b S Rf t0 t1 I J = some (r, I1, J1)) : MTv l D cz ev yX0_copy cX0_copy 2 (none) 1 100 [.ref t0, .ref t1] L S Rf I J r I1 J1 := by
  unfold f0_copy at hf
  refine MTv_of (by decide) (Nat.le_of_ble_eq_true rfl) ?_
  intro p e s m args below meth c Q ls X hK hw hl hfin
  have X : CallFix p m c cX0_copy 2 s args gw RX0 := X
  have hx := X.1
  have hb := X.2.1
  have hl : lv_has ls 2 [(0, .ref t0), (1, .ref t1)] := hl
  refine lv_aload_n hx hb dX0_copy_0 rfl (lv_at hl 0 rfl) ?_
  refine lv_aload_n hx hb dX0_copy_1 rfl (lv_at hl 1 rfl) ?_
  refine x_getI X hK hw h1.1.1 h1.1.2 cpX0 9 (by decide) rfl tw_317 dX0_copy_2 ?_
  refine x_putI X hK hw h0.1.1 h0.1.2 cpX0 9 (by decide) rfl rfl rfl tw_317 dX0_copy_5 (fun H locs hw => ?_)
  obtain ⟨I_1, eI_1, hf⟩ := yb_let_ex hf
  have hw := yb_wI eI_1 hw
  refine lv_aload_n hx hb dX0_copy_8 rfl (lv_at hl 1 rfl) ?_
  refine x_getR X hK hw h1.1.1 h1.1.2 cpX0 0 (by decide) rfl (ca_R h1 0 (by decide)) tw_286 dX0_copy_9 ?_
  refine lv_iconst (v := (0 : Int32)) hx hb dX0_copy_12 (by decide) ?_
  refine lv_aload_n hx hb dX0_copy_13 rfl (lv_at hl 0 rfl) ?_
  refine x_getR X hK hw h0.1.1 h0.1.2 cpX0 0 (by decide) rfl (ca_R h0 0 (by decide)) tw_286 dX0_copy_14 ?_
  refine lv_iconst (v := (0 : Int32)) hx hb dX0_copy_17 (by decide) ?_
  refine lv_bipush (v := (7 : Int32)) hx hb dX0_copy_18 (by decide) ?_
  refine x_acopy X hK hw (ca_mem h1 0 (by decide)) (ca_S h1 0 rfl) (ca_mem h0 0 (by decide)) (ca_S h0 0 rfl) (k := 7) rfl (by decide) (by decide) (by decide) (Nat.le_of_ble_eq_true rfl) (by decide) tw_771 hl.1 dX0_copy_20 (fun H locs hw => ?_)
  obtain ⟨I_2, eI_2, hf⟩ := yb_let_ex hf
  have hw := yb_wI eI_2 hw
  refine lv_aload_n hx hb dX0_copy_23 rfl (lv_at hl 1 rfl) ?_
  refine x_getR X hK hw h1.1.1 h1.1.2 cpX0 1 (by decide) rfl (ca_R h1 1 (by decide)) tw_291 dX0_copy_24 ?_
  refine lv_iconst (v := (0 : Int32)) hx hb dX0_copy_27 (by decide) ?_
  refine lv_aload_n hx hb dX0_copy_28 rfl (lv_at hl 0 rfl) ?_
  refine x_getR X hK hw h0.1.1 h0.1.2 cpX0 1 (by decide) rfl (ca_R h0 1 (by decide)) tw_291 dX0_copy_29 ?_
  refine lv_iconst (v := (0 : Int32)) hx hb dX0_copy_32 (by decide) ?_
  refine lv_bipush (v := (7 : Int32)) hx hb dX0_copy_33 (by decide) ?_
  refine x_acopy X hK hw (ca_mem h1 1 (by decide)) (ca_S h1 1 rfl) (ca_mem h0 1 (by decide)) (ca_S h0 1 rfl) (k := 7) rfl (by decide) (by decide) (by decide) (Nat.le_of_ble_eq_true rfl) (by decide) tw_771 hl.1 dX0_copy_35 (fun H locs hw => ?_)
  obtain ⟨I_3, eI_3, hf⟩ := yb_let_ex hf
  have hw := yb_wI eI_3 hw
  refine lv_aload_n hx hb dX0_copy_38 rfl (lv_at hl 1 rfl) ?_
  refine x_getR X hK hw h1.1.1 h1.1.2 cpX0 2 (by decide) rfl (ca_R h1 2 (by decide)) tw_295 dX0_copy_39 ?_
  refine lv_iconst (v := (0 : Int32)) hx hb dX0_copy_42 (by decide) ?_
  refine lv_aload_n hx hb dX0_copy_43 rfl (lv_at hl 0 rfl) ?_
  refine x_getR X hK hw h0.1.1 h0.1.2 cpX0 2 (by decide) rfl (ca_R h0 2 (by decide)) tw_295 dX0_copy_44 ?_
  refine lv_iconst (v := (0 : Int32)) hx hb dX0_copy_47 (by decide) ?_
  refine lv_bipush (v := (6 : Int32)) hx hb dX0_copy_48 (by decide) ?_
  refine x_acopy X hK hw (ca_mem h1 2 (by decide)) (ca_S h1 2 rfl) (ca_mem h0 2 (by decide)) (ca_S h0 2 rfl) (k := 6) rfl (by decide) (by decide) (by decide) (Nat.le_of_ble_eq_true rfl) (by decide) tw_771 hl.1 dX0_copy_50 (fun H locs hw => ?_)
  obtain ⟨I_4, eI_4, hf⟩ := yb_let_ex hf
  have hw := yb_wI eI_4 hw
  refine lv_aload_n hx hb dX0_copy_53 rfl (lv_at hl 1 rfl) ?_
  refine x_getR X hK hw h1.1.1 h1.1.2 cpX0 3 (by decide) rfl (ca_R h1 3 (by decide)) tw_299 dX0_copy_54 ?_
  refine lv_iconst (v := (0 : Int32)) hx hb dX0_copy_57 (by decide) ?_
  refine lv_aload_n hx hb dX0_copy_58 rfl (lv_at hl 0 rfl) ?_
  refine x_getR X hK hw h0.1.1 h0.1.2 cpX0 3 (by decide) rfl (ca_R h0 3 (by decide)) tw_299 dX0_copy_59 ?_
  refine lv_iconst (v := (0 : Int32)) hx hb dX0_copy_62 (by decide) ?_
  refine lv_bipush (v := (6 : Int32)) hx hb dX0_copy_63 (by decide) ?_
  refine x_acopy X hK hw (ca_mem h1 3 (by decide)) (ca_S h1 3 rfl) (ca_mem h0 3 (by decide)) (ca_S h0 3 rfl) (k := 6) rfl (by decide) (by decide) (by decide) (Nat.le_of_ble_eq_true rfl) (by decide) tw_771 hl.1 dX0_copy_65 (fun H locs hw => ?_)
  obtain ⟨I_5, eI_5, hf⟩ := yb_let_ex hf
  have hw := yb_wI eI_5 hw
  refine lv_aload_n hx hb dX0_copy_68 rfl (lv_at hl 1 rfl) ?_
  refine x_getR X hK hw h1.1.1 h1.1.2 cpX0 4 (by decide) rfl (ca_R h1 4 (by decide)) tw_303 dX0_copy_69 ?_
  refine lv_iconst (v := (0 : Int32)) hx hb dX0_copy_72 (by decide) ?_
  refine lv_aload_n hx hb dX0_copy_73 rfl (lv_at hl 0 rfl) ?_
  refine x_getR X hK hw h0.1.1 h0.1.2 cpX0 4 (by decide) rfl (ca_R h0 4 (by decide)) tw_303 dX0_copy_74 ?_
  refine lv_iconst (v := (0 : Int32)) hx hb dX0_copy_77 (by decide) ?_
  refine lv_bipush (v := (6 : Int32)) hx hb dX0_copy_78 (by decide) ?_
  refine x_acopy X hK hw (ca_mem h1 4 (by decide)) (ca_S h1 4 rfl) (ca_mem h0 4 (by decide)) (ca_S h0 4 rfl) (k := 6) rfl (by decide) (by decide) (by decide) (Nat.le_of_ble_eq_true rfl) (by decide) tw_771 hl.1 dX0_copy_80 (fun H locs hw => ?_)
  obtain ⟨I_6, eI_6, hf⟩ := yb_let_ex hf
  have hw := yb_wI eI_6 hw
  refine lv_aload_n hx hb dX0_copy_83 rfl (lv_at hl 1 rfl) ?_
  refine x_getR X hK hw h1.1.1 h1.1.2 cpX0 5 (by decide) rfl (ca_R h1 5 (by decide)) tw_306 dX0_copy_84 ?_
  refine lv_iconst (v := (0 : Int32)) hx hb dX0_copy_87 (by decide) ?_
  refine lv_aload_n hx hb dX0_copy_88 rfl (lv_at hl 0 rfl) ?_
  refine x_getR X hK hw h0.1.1 h0.1.2 cpX0 5 (by decide) rfl (ca_R h0 5 (by decide)) tw_306 dX0_copy_89 ?_
  refine lv_iconst (v := (0 : Int32)) hx hb dX0_copy_92 (by decide) ?_
  refine lv_bipush (v := (6 : Int32)) hx hb dX0_copy_93 (by decide) ?_
  refine x_acopy X hK hw (ca_mem h1 5 (by decide)) (ca_S h1 5 rfl) (ca_mem h0 5 (by decide)) (ca_S h0 5 rfl) (k := 6) rfl (by decide) (by decide) (by decide) (Nat.le_of_ble_eq_true rfl) (by decide) tw_771 hl.1 dX0_copy_95 (fun H locs hw => ?_)
  obtain ⟨I_7, eI_7, hf⟩ := yb_let_ex hf
  have hw := yb_wI eI_7 hw
  refine lv_aload_n hx hb dX0_copy_98 rfl (lv_at hl 1 rfl) ?_
  refine x_getR X hK hw h1.1.1 h1.1.2 cpX0 6 (by decide) rfl (ca_R h1 6 (by decide)) tw_309 dX0_copy_99 ?_
  refine lv_iconst (v := (0 : Int32)) hx hb dX0_copy_102 (by decide) ?_
  refine lv_aload_n hx hb dX0_copy_103 rfl (lv_at hl 0 rfl) ?_
  refine x_getR X hK hw h0.1.1 h0.1.2 cpX0 6 (by decide) rfl (ca_R h0 6 (by decide)) tw_309 dX0_copy_104 ?_
  refine lv_iconst (v := (0 : Int32)) hx hb dX0_copy_107 (by decide) ?_
  refine lv_bipush (v := (6 : Int32)) hx hb dX0_copy_108 (by decide) ?_
  refine x_acopy X hK hw (ca_mem h1 6 (by decide)) (ca_S h1 6 rfl) (ca_mem h0 6 (by decide)) (ca_S h0 6 rfl) (k := 6) rfl (by decide) (by decide) (by decide) (Nat.le_of_ble_eq_true rfl) (by decide) tw_771 hl.1 dX0_copy_110 (fun H locs hw => ?_)
  obtain ⟨I_8, eI_8, hf⟩ := yb_let_ex hf
  have hw := yb_wI eI_8 hw
  refine lv_aload_n hx hb dX0_copy_113 rfl (lv_at hl 1 rfl) ?_
  refine x_getR X hK hw h1.1.1 h1.1.2 cpX0 7 (by decide) rfl (ca_R h1 7 (by decide)) tw_311 dX0_copy_114 ?_
  refine lv_iconst (v := (0 : Int32)) hx hb dX0_copy_117 (by decide) ?_
  refine lv_aload_n hx hb dX0_copy_118 rfl (lv_at hl 0 rfl) ?_
  refine x_getR X hK hw h0.1.1 h0.1.2 cpX0 7 (by decide) rfl (ca_R h0 7 (by decide)) tw_311 dX0_copy_119 ?_
  refine lv_iconst (v := (0 : Int32)) hx hb dX0_copy_122 (by decide) ?_
  refine lv_bipush (v := (6 : Int32)) hx hb dX0_copy_123 (by decide) ?_
  refine x_acopy X hK hw (ca_mem h1 7 (by decide)) (ca_S h1 7 rfl) (ca_mem h0 7 (by decide)) (ca_S h0 7 rfl) (k := 6) rfl (by decide) (by decide) (by decide) (Nat.le_of_ble_eq_true rfl) (by decide) tw_771 hl.1 dX0_copy_125 (fun H locs hw => ?_)
  obtain ⟨I_9, eI_9, hf⟩ := yb_let_ex hf
  have hw := yb_wI eI_9 hw
  refine lv_aload_n hx hb dX0_copy_128 rfl (lv_at hl 1 rfl) ?_
  refine x_getR X hK hw h1.1.1 h1.1.2 cpX0 8 (by decide) rfl (ca_R h1 8 (by decide)) tw_313 dX0_copy_129 ?_
  refine lv_iconst (v := (0 : Int32)) hx hb dX0_copy_132 (by decide) ?_
  refine lv_aload_n hx hb dX0_copy_133 rfl (lv_at hl 0 rfl) ?_
  refine x_getR X hK hw h0.1.1 h0.1.2 cpX0 8 (by decide) rfl (ca_R h0 8 (by decide)) tw_313 dX0_copy_134 ?_
  refine lv_iconst (v := (0 : Int32)) hx hb dX0_copy_137 (by decide) ?_
  refine lv_bipush (v := (6 : Int32)) hx hb dX0_copy_138 (by decide) ?_
  refine x_acopy X hK hw (ca_mem h1 8 (by decide)) (ca_S h1 8 rfl) (ca_mem h0 8 (by decide)) (ca_S h0 8 rfl) (k := 6) rfl (by decide) (by decide) (by decide) (Nat.le_of_ble_eq_true rfl) (by decide) tw_771 hl.1 dX0_copy_140 (fun H locs hw => ?_)
  obtain ⟨I_10, eI_10, hf⟩ := yb_let_ex hf
  have hw := yb_wI eI_10 hw
  exact yb_retv hfin hf hw dX0_copy_143
set_option maxHeartbeats 4000000 in
set_option maxRecDepth 100000 in
theorem w0_heardBy_L2 {p : Program} {l : Launch} {e : Env} {s : State} {m : MethodId} {args : Array Value} {below : List Frame} {meth : Method} {c : Code} {Q : State → Prop} {D : va_G} {cz : Nat → ClassId} {A : Nat → Prop} {ev : Nat × Nat × Nat} {b : Nat} {L : List Nat} {S : ST} {Rf : RT} (hC : CW b L S Rf) {t0 : Nat} (h0 : CourseAt L S Rf t0) (X : CallFix p m c cX0_heardBy 3 s args gw RX0) (hK : KX D cz ev A s) {N : Nat} {x1 : Int32} {rM : Int32} {IM : IT} {JM : JT} :
    ∀ (n : Nat) (x2 : Int32) (I : IT) (J : JT) (q : (Int32 ⊕ (Unit))) (I1 : IT) (J1 : JT) (H : Heap) (locs : List Loc) (ls : Array Slot), f0_heardBy_L2 N b S Rf t0 x1 n x2 I J = some (q, I1, J1) → WX D cz A L S Rf s.heap I J H locs → lv_has ls 3 [(0, .ref t0), (1, .int x1), (2, .int x2)] →
    (∀ v, q = .inl v → some (v, I1, J1) = some (rM, IM, JM)) → (∀ (H : Heap) (locs : List Loc) (ls : Array Slot) (pc : Nat), WX D cz A L S Rf s.heap IM JM H locs → decode cX0_heardBy pc = .ok (.ireturn, 1) → W p l e (rmX 0 0) s m args below meth c H locs 0 0 Q (F0 m pc ls [.int rM])) →
    (∀ xq, q = .inr xq → ∀ (H : Heap) (locs : List Loc) (ls : Array Slot), WX D cz A L S Rf s.heap I1 J1 H locs → lv_has ls 3 [] → W p l e (rmX 0 0) s m args below meth c H locs 0 0 Q (F0 m 26 ls [])) →
    W p l e (rmX 0 0) s m args below meth c H locs 0 0 Q (F0 m 2 ls []) := by
  have hx := X.1
  have hb := X.2.1
  intro n
  induction n with
  | zero =>
    intro x2 I J q I1 J1 H locs ls hf
    rw [f0_heardBy_L2] at hf
    cases hf
  | succ n ih =>
    intro x2 I J q I1 J1 H locs ls hf hw hl hret hfin hexit
    rw [f0_heardBy_L2] at hf
    refine lv_iload_n hx hb dX0_heardBy_2 rfl (lv_at hl 2 rfl) ?_
    refine lv_bipush (v := (6 : Int32)) hx hb dX0_heardBy_3 (by decide) ?_
    refine lv_icmp_ge (tgt := 26) hx hb dX0_heardBy_5 (by decide) (fun c_1 => ?_) (fun c_1 => ?_)
    · have hf := yb_pos c_1 hf
      obtain ⟨rfl, rfl, rfl⟩ := yb_inj hf
      exact hexit _ rfl _ _ _ hw (lv_sub hl [] rfl)
    · have hf := yb_neg c_1 hf
      refine lv_aload_n hx hb dX0_heardBy_8 rfl (lv_at hl 0 rfl) ?_
      refine x_getR X hK hw h0.1.1 h0.1.2 cpX0 2 (by decide) rfl (ca_R h0 2 (by decide)) tw_295 dX0_heardBy_9 ?_
      refine lv_iload_n hx hb dX0_heardBy_12 rfl (lv_at hl 2 rfl) ?_
      obtain ⟨hi_2, hf⟩ := yb_ck_some hf
      refine x_iald X hK hw (ca_mem h0 2 (by decide)) (ca_S h0 2 rfl) hi_2 rfl dX0_heardBy_13 ?_
      refine lv_iload_n hx hb dX0_heardBy_14 rfl (lv_at hl 1 rfl) ?_
      refine lv_icmp_ne (tgt := 20) hx hb dX0_heardBy_15 (by decide) (fun c_3 => ?_) (fun c_3 => ?_)
      · have hf := yb_neg c_3 hf
        obtain ⟨x2_4, ex2_4, hf⟩ := yb_let_ex hf
        refine lv_iinc (v := x2_4) (lv' := [(2, .int x2_4), (0, .ref t0), (1, .int x1)]) hx hb dX0_heardBy_20 hl (k := 2) rfl (by rw [ex2_4]; rfl) (by decide) rfl (fun ls hl => ?_)
        refine lv_goto (tgt := 2) hx hb dX0_heardBy_23 (by decide) ?_
        exact ih _ _ _ _ _ _ _ _ _ hf hw (lv_sub hl [1, 2, 0] rfl) hret hfin hexit
      · have hf := yb_pos c_3 hf
        refine lv_iload_n hx hb dX0_heardBy_18 rfl (lv_at hl 2 rfl) ?_
        exact yb_reti hfin (yb_inl hret hf) hw dX0_heardBy_19
set_option maxHeartbeats 4000000 in
set_option maxRecDepth 100000 in
theorem c0_heardBy (l : Launch) (D : va_G) (cz : Nat → ClassId) (ev : Nat × Nat × Nat) {b : Nat} {L : List Nat} {S : ST} {Rf : RT} (hC : CW b L S Rf) {t0 : Nat} (h0 : CourseAt L S Rf t0) {N : Nat} {x1 : Int32} {I : IT} {J : JT} {r : Int32} {I1 : IT} {J1 : JT} (hf : f0_heardBy N b S Rf t0 x1 I J = some (r, I1, J1)) : MTi l D cz ev yX0_heardBy cX0_heardBy 3 (some .int) 0 0 [.ref t0, .int x1] L S Rf I J r I1 J1 := by
  unfold f0_heardBy at hf
  refine MTi_of (by decide) (Nat.le_of_ble_eq_true rfl) ?_
  intro p e s m args below meth c Q ls X hK hw hl hfin
  have X : CallFix p m c cX0_heardBy 3 s args gw RX0 := X
  have hx := X.1
  have hb := X.2.1
  have hl : lv_has ls 3 [(0, .ref t0), (1, .int x1)] := hl
  refine lv_iconst (v := (0 : Int32)) hx hb dX0_heardBy_0 (by decide) ?_
  refine lv_istore_n (lv' := [(2, .int (0 : Int32)), (0, .ref t0), (1, .int x1)]) hx hb dX0_heardBy_1 rfl hl (by decide) rfl (fun ls hl => ?_)
  obtain ⟨q_5, I_6, J_7, hq_8, hf⟩ := yb_b3_some hf
  refine w0_heardBy_L2 hC h0 X hK _ _ _ _ _ _ _ _ _ _ hq_8 hw (lv_sub hl [1, 2, 0] rfl) (fun v hv => by rw [hv] at hf; exact hf) hfin (fun x_10 hx1 H locs ls hw hl => ?_)
  rw [hx1] at hf
  have hf := yb_sm_r hf
  refine lv_iconst (v := (-1 : Int32)) hx hb dX0_heardBy_26 (by decide) ?_
  exact yb_reti hfin hf hw dX0_heardBy_27
set_option maxHeartbeats 4000000 in
set_option maxRecDepth 100000 in
theorem c0_settleCase (l : Launch) (D : va_G) (cz : Nat → ClassId) (ev : Nat × Nat × Nat) {b : Nat} {L : List Nat} {S : ST} {Rf : RT} (hC : CW b L S Rf) {t0 : Nat} (h0 : CourseAt L S Rf t0) {t2 : Nat} (h2 : TownAt L S Rf t2) {x1 : Int32} {I : IT} {J : JT} {r : Unit} {I1 : IT} {J1 : JT} (hf : f0_settleCase b S Rf t0 t2 x1 I J = some (r, I1, J1)) : MTv l D cz ev yX0_settleCase cX0_settleCase 4 (none) 0 0 [.ref t0, .int x1, .ref t2] L S Rf I J r I1 J1 := by
  unfold f0_settleCase at hf
  refine MTv_of (by decide) (Nat.le_of_ble_eq_true rfl) ?_
  intro p e s m args below meth c Q ls X hK hw hl hfin
  have X : CallFix p m c cX0_settleCase 4 s args gw RX0 := X
  have hx := X.1
  have hb := X.2.1
  have hl : lv_has ls 4 [(0, .ref t0), (1, .int x1), (2, .ref t2)] := hl
  refine lv_aload_n hx hb dX0_settleCase_0 rfl (lv_at hl 0 rfl) ?_
  refine x_getR X hK hw h0.1.1 h0.1.2 cpX0 2 (by decide) rfl (ca_R h0 2 (by decide)) tw_295 dX0_settleCase_1 ?_
  refine lv_iload_n hx hb dX0_settleCase_4 rfl (lv_at hl 1 rfl) ?_
  obtain ⟨hi_1, hf⟩ := yb_ck_some hf
  refine x_iald X hK hw (ca_mem h0 2 (by decide)) (ca_S h0 2 rfl) hi_1 rfl dX0_settleCase_5 ?_
  refine lv_topi (fun x3_2 ex3_2 => ?_)
  have hf := yb_let_to ex3_2 hf
  refine lv_istore_n (lv' := [(3, .int x3_2), (0, .ref t0), (1, .int x1), (2, .ref t2)]) hx hb dX0_settleCase_6 rfl hl (by decide) rfl (fun ls hl => ?_)
  refine lv_aload_n hx hb dX0_settleCase_7 rfl (lv_at hl 1 rfl) ?_
  refine x_getR X hK hw h0.1.1 h0.1.2 cpX0 5 (by decide) rfl (ca_R h0 5 (by decide)) tw_306 dX0_settleCase_8 ?_
  refine lv_iload_n hx hb dX0_settleCase_11 rfl (lv_at hl 2 rfl) ?_
  refine lv_iload_n hx hb dX0_settleCase_12 rfl (lv_at hl 0 rfl) ?_
  refine x_iast X hK hw (ca_mem h0 5 (by decide)) (ca_S h0 5 rfl) hi_1 rfl dX0_settleCase_13 (fun H locs hw => ?_)
  obtain ⟨I_3, eI_3, hf⟩ := yb_let_ex hf
  have hw := yb_wI eI_3 hw
  refine lv_aload_n hx hb dX0_settleCase_14 rfl (lv_at hl 1 rfl) ?_
  refine x_getR X hK hw h0.1.1 h0.1.2 cpX0 6 (by decide) rfl (ca_R h0 6 (by decide)) tw_309 dX0_settleCase_15 ?_
  refine lv_iload_n hx hb dX0_settleCase_18 rfl (lv_at hl 2 rfl) ?_
  refine lv_aload_n hx hb dX0_settleCase_19 rfl (lv_at hl 1 rfl) ?_
  refine x_getR X hK hw h0.1.1 h0.1.2 cpX0 4 (by decide) rfl (ca_R h0 4 (by decide)) tw_303 dX0_settleCase_20 ?_
  refine lv_iload_n hx hb dX0_settleCase_23 rfl (lv_at hl 2 rfl) ?_
  refine x_iald X hK hw (ca_mem h0 4 (by decide)) (ca_S h0 4 rfl) hi_1 rfl dX0_settleCase_24 ?_
  refine x_iast X hK hw (ca_mem h0 6 (by decide)) (ca_S h0 6 rfl) hi_1 rfl dX0_settleCase_25 (fun H locs hw => ?_)
  obtain ⟨I_4, eI_4, hf⟩ := yb_let_ex hf
  have hw := yb_wI eI_4 hw
  refine lv_aload_n hx hb dX0_settleCase_26 rfl (lv_at hl 1 rfl) ?_
  refine x_getR X hK hw h0.1.1 h0.1.2 cpX0 7 (by decide) rfl (ca_R h0 7 (by decide)) tw_311 dX0_settleCase_27 ?_
  refine lv_iload_n hx hb dX0_settleCase_30 rfl (lv_at hl 2 rfl) ?_
  refine lv_aload_n hx hb dX0_settleCase_31 rfl (lv_at hl 3 rfl) ?_
  refine x_getR X hK hw h2.1.1 h2.1.2 cpX9 0 (by decide) rfl (ta_R h2 0 (by decide)) tw_193 dX0_settleCase_32 ?_
  refine lv_iload_n hx hb dX0_settleCase_35 rfl (lv_at hl 0 rfl) ?_
  obtain ⟨hi_5, hf⟩ := yb_ck_some hf
  refine x_iald X hK hw (ta_mem h2 0 (by decide)) (ta_S h2 0 rfl) hi_5 rfl dX0_settleCase_36 ?_
  refine lv_aload_n hx hb dX0_settleCase_37 rfl (lv_at hl 1 rfl) ?_
  refine x_getI X hK hw h0.1.1 h0.1.2 cpX0 9 (by decide) rfl tw_317 dX0_settleCase_38 ?_
  refine lv_iadd hx hb dX0_settleCase_41 ?_
  refine x_iast X hK hw (ca_mem h0 7 (by decide)) (ca_S h0 7 rfl) hi_1 rfl dX0_settleCase_42 (fun H locs hw => ?_)
  obtain ⟨I_6, eI_6, hf⟩ := yb_let_ex hf
  have hw := yb_wI eI_6 hw
  refine lv_aload_n hx hb dX0_settleCase_43 rfl (lv_at hl 1 rfl) ?_
  refine x_getR X hK hw h0.1.1 h0.1.2 cpX0 8 (by decide) rfl (ca_R h0 8 (by decide)) tw_313 dX0_settleCase_44 ?_
  refine lv_iload_n hx hb dX0_settleCase_47 rfl (lv_at hl 2 rfl) ?_
  refine lv_dup2_11 hx hb dX0_settleCase_48 rfl rfl ?_
  refine x_iald X hK hw (ca_mem h0 8 (by decide)) (ca_S h0 8 rfl) hi_1 rfl dX0_settleCase_49 ?_
  refine lv_iconst (v := (1 : Int32)) hx hb dX0_settleCase_50 (by decide) ?_
  refine lv_iadd hx hb dX0_settleCase_51 ?_
  refine x_iast X hK hw (ca_mem h0 8 (by decide)) (ca_S h0 8 rfl) hi_1 rfl dX0_settleCase_52 (fun H locs hw => ?_)
  obtain ⟨I_7, eI_7, hf⟩ := yb_let_ex hf
  have hw := yb_wI eI_7 hw
  refine lv_aload_n hx hb dX0_settleCase_53 rfl (lv_at hl 1 rfl) ?_
  refine x_getR X hK hw h0.1.1 h0.1.2 cpX0 1 (by decide) rfl (ca_R h0 1 (by decide)) tw_291 dX0_settleCase_54 ?_
  refine lv_iload_n hx hb dX0_settleCase_57 rfl (lv_at hl 0 rfl) ?_
  refine lv_dup2_11 hx hb dX0_settleCase_58 rfl rfl ?_
  refine x_iald X hK hw (ca_mem h0 1 (by decide)) (ca_S h0 1 rfl) hi_5 rfl dX0_settleCase_59 ?_
  refine lv_iconst (v := (1 : Int32)) hx hb dX0_settleCase_60 (by decide) ?_
  refine lv_iadd hx hb dX0_settleCase_61 ?_
  refine x_iast X hK hw (ca_mem h0 1 (by decide)) (ca_S h0 1 rfl) hi_5 rfl dX0_settleCase_62 (fun H locs hw => ?_)
  obtain ⟨I_8, eI_8, hf⟩ := yb_let_ex hf
  have hw := yb_wI eI_8 hw
  refine lv_aload_n hx hb dX0_settleCase_63 rfl (lv_at hl 1 rfl) ?_
  refine x_getR X hK hw h0.1.1 h0.1.2 cpX0 2 (by decide) rfl (ca_R h0 2 (by decide)) tw_295 dX0_settleCase_64 ?_
  refine lv_iload_n hx hb dX0_settleCase_67 rfl (lv_at hl 2 rfl) ?_
  refine lv_iconst (v := (-1 : Int32)) hx hb dX0_settleCase_68 (by decide) ?_
  refine x_iast X hK hw (ca_mem h0 2 (by decide)) (ca_S h0 2 rfl) hi_1 rfl dX0_settleCase_69 (fun H locs hw => ?_)
  obtain ⟨I_9, eI_9, hf⟩ := yb_let_ex hf
  have hw := yb_wI eI_9 hw
  refine lv_aload_n hx hb dX0_settleCase_70 rfl (lv_at hl 1 rfl) ?_
  refine x_getR X hK hw h0.1.1 h0.1.2 cpX0 3 (by decide) rfl (ca_R h0 3 (by decide)) tw_299 dX0_settleCase_71 ?_
  refine lv_iload_n hx hb dX0_settleCase_74 rfl (lv_at hl 2 rfl) ?_
  refine lv_iconst (v := (0 : Int32)) hx hb dX0_settleCase_75 (by decide) ?_
  refine x_iast X hK hw (ca_mem h0 3 (by decide)) (ca_S h0 3 rfl) hi_1 rfl dX0_settleCase_76 (fun H locs hw => ?_)
  obtain ⟨I_10, eI_10, hf⟩ := yb_let_ex hf
  have hw := yb_wI eI_10 hw
  exact yb_retv hfin hf hw dX0_settleCase_77
set_option maxHeartbeats 4000000 in
set_option maxRecDepth 100000 in
theorem w0_pass_L4 {p : Program} {l : Launch} {e : Env} {s : State} {m : MethodId} {args : Array Value} {below : List Frame} {meth : Method} {c : Code} {Q : State → Prop} {D : va_G} {cz : Nat → ClassId} {A : Nat → Prop} {ev : Nat × Nat × Nat} {b : Nat} {L : List Nat} {S : ST} {Rf : RT} (hC : CW b L S Rf) {t0 : Nat} (h0 : CourseAt L S Rf t0) {t1 : Nat} (h1 : TownAt L S Rf t1) (X : CallFix p m c cX0_pass 4 s args gw RX0) (hK : KX D cz ev A s) {N : Nat} :
    ∀ (n : Nat) (x2 : Int32) (x3 : Int32) (I : IT) (J : JT) (q : (Int32)) (I1 : IT) (J1 : JT) (H : Heap) (locs : List Loc) (ls : Array Slot), f0_pass_L4 N b S Rf t0 t1 n x2 x3 I J = some (q, I1, J1) → WX D cz A L S Rf s.heap I J H locs → lv_has ls 4 [(0, .ref t0), (1, .ref t1), (2, .int x2), (3, .int x3)] →
    (∀ (H : Heap) (locs : List Loc) (ls : Array Slot), WX D cz A L S Rf s.heap I1 J1 H locs → lv_has ls 4 [(0, .ref t0), (2, .int q)] → W p l e (rmX 1 23) s m args below meth c H locs 0 0 Q (F0 m 58 ls [])) →
    W p l e (rmX 1 23) s m args below meth c H locs 0 0 Q (F0 m 4 ls []) := by
  have hx := X.1
  have hb := X.2.1
  intro n
  induction n with
  | zero =>
    intro x2 x3 I J q I1 J1 H locs ls hf
    rw [f0_pass_L4] at hf
    cases hf
  | succ n ih =>
    intro x2 x3 I J q I1 J1 H locs ls hf hw hl hexit
    rw [f0_pass_L4] at hf
    refine lv_iload_n hx hb dX0_pass_4 rfl (lv_at hl 3 rfl) ?_
    refine lv_aload_n hx hb dX0_pass_5 rfl (lv_at hl 1 rfl) ?_
    refine x_getI X hK hw h1.1.1 h1.1.2 cpX9 14 (by decide) rfl tw_247 dX0_pass_6 ?_
    refine lv_icmp_ge (tgt := 58) hx hb dX0_pass_9 (by decide) (fun c_1 => ?_) (fun c_1 => ?_)
    · have hf := yb_pos c_1 hf
      obtain ⟨rfl, rfl, rfl⟩ := yb_inj hf
      exact hexit _ _ _ hw (lv_sub hl [0, 2] rfl)
    · have hf := yb_neg c_1 hf
      refine lv_aload_n hx hb dX0_pass_12 rfl (lv_at hl 0 rfl) ?_
      refine x_getR X hK hw h0.1.1 h0.1.2 cpX0 2 (by decide) rfl (ca_R h0 2 (by decide)) tw_295 dX0_pass_13 ?_
      refine lv_iload_n hx hb dX0_pass_16 rfl (lv_at hl 3 rfl) ?_
      obtain ⟨hi_2, hf⟩ := yb_ck_some hf
      refine x_iald X hK hw (ca_mem h0 2 (by decide)) (ca_S h0 2 rfl) hi_2 rfl dX0_pass_17 ?_
      refine lv_if_lt (tgt := 52) hx hb dX0_pass_18 (by decide) (fun c_3 => ?_) (fun c_3 => ?_)
      · have hf := yb_pos c_3 hf
        obtain ⟨x3_4, ex3_4, hf⟩ := yb_let_ex hf
        refine lv_iinc (v := x3_4) (lv' := [(3, .int x3_4), (0, .ref t0), (1, .ref t1), (2, .int x2)]) hx hb dX0_pass_52 hl (k := 3) rfl (by rw [ex3_4]; rfl) (by decide) rfl (fun ls hl => ?_)
        refine lv_goto (tgt := 4) hx hb dX0_pass_55 (by decide) ?_
        exact ih _ _ _ _ _ _ _ _ _ _ hf hw (lv_sub hl [1, 2, 3, 0] rfl) hexit
      · have hf := yb_neg c_3 hf
        refine lv_aload_n hx hb dX0_pass_21 rfl (lv_at hl 0 rfl) ?_
        refine x_getR X hK hw h0.1.1 h0.1.2 cpX0 3 (by decide) rfl (ca_R h0 3 (by decide)) tw_299 dX0_pass_22 ?_
        refine lv_iload_n hx hb dX0_pass_25 rfl (lv_at hl 3 rfl) ?_
        refine lv_dup2_11 hx hb dX0_pass_26 rfl rfl ?_
        refine x_iald X hK hw (ca_mem h0 3 (by decide)) (ca_S h0 3 rfl) hi_2 rfl dX0_pass_27 ?_
        refine lv_iconst (v := (1 : Int32)) hx hb dX0_pass_28 (by decide) ?_
        refine lv_isub hx hb dX0_pass_29 ?_
        refine x_iast X hK hw (ca_mem h0 3 (by decide)) (ca_S h0 3 rfl) hi_2 rfl dX0_pass_30 (fun H locs hw => ?_)
        obtain ⟨I_5, eI_5, hf⟩ := yb_let_ex hf
        have hw := yb_wI eI_5 hw
        refine lv_aload_n hx hb dX0_pass_31 rfl (lv_at hl 0 rfl) ?_
        refine x_getR X hK hw h0.1.1 h0.1.2 cpX0 3 (by decide) rfl (ca_R h0 3 (by decide)) tw_299 dX0_pass_32 ?_
        refine lv_iload_n hx hb dX0_pass_35 rfl (lv_at hl 3 rfl) ?_
        refine x_iald X hK hw (ca_mem h0 3 (by decide)) (ca_S h0 3 rfl) hi_2 rfl dX0_pass_36 ?_
        refine lv_if_gt (tgt := 52) hx hb dX0_pass_37 (by decide) (fun c_6 => ?_) (fun c_6 => ?_)
        · have hf := yb_pos c_6 hf
          obtain ⟨x3_7, ex3_7, hf⟩ := yb_let_ex hf
          refine lv_iinc (v := x3_7) (lv' := [(3, .int x3_7), (0, .ref t0), (1, .ref t1), (2, .int x2)]) hx hb dX0_pass_52 hl (k := 3) rfl (by rw [ex3_7]; rfl) (by decide) rfl (fun ls hl => ?_)
          refine lv_goto (tgt := 4) hx hb dX0_pass_55 (by decide) ?_
          exact ih _ _ _ _ _ _ _ _ _ _ hf hw (lv_sub hl [1, 2, 3, 0] rfl) hexit
        · have hf := yb_neg c_6 hf
          refine lv_aload_n hx hb dX0_pass_40 rfl (lv_at hl 0 rfl) ?_
          refine lv_iload_n hx hb dX0_pass_41 rfl (lv_at hl 3 rfl) ?_
          refine lv_aload_n hx hb dX0_pass_42 rfl (lv_at hl 1 rfl) ?_
          obtain ⟨r_8, I_9, J_10, hq_11, hf⟩ := yb_b3_some hf
          refine x_callv X hK hw (c0_settleCase l D cz ev hC h0 h1 hq_11) h0.1.1 h0.1.2 cpX0.1 vw_X0_61 ⟨Nat.le_of_ble_eq_true rfl, Nat.le_of_ble_eq_true rfl⟩ rfl rfl (Nat.le_of_ble_eq_true rfl) hl.1 ⟨Nat.le_refl _, Nat.le_refl _⟩ dX0_pass_43 (fun H locs hw => ?_)
          refine lv_iload_n hx hb dX0_pass_46 rfl (lv_at hl 2 rfl) ?_
          refine lv_iconst (v := (1 : Int32)) hx hb dX0_pass_47 (by decide) ?_
          refine lv_iload_n hx hb dX0_pass_48 rfl (lv_at hl 3 rfl) ?_
          refine lv_ishl hx hb dX0_pass_49 ?_
          refine lv_ior hx hb dX0_pass_50 ?_
          refine lv_topi (fun x2_12 ex2_12 => ?_)
          have hf := yb_let_to ex2_12 hf
          refine lv_istore_n (lv' := [(2, .int x2_12), (0, .ref t0), (1, .ref t1), (3, .int x3)]) hx hb dX0_pass_51 rfl hl (by decide) rfl (fun ls hl => ?_)
          obtain ⟨x3_13, ex3_13, hf⟩ := yb_let_ex hf
          refine lv_iinc (v := x3_13) (lv' := [(3, .int x3_13), (2, .int x2_12), (0, .ref t0), (1, .ref t1)]) hx hb dX0_pass_52 hl (k := 3) rfl (by rw [ex3_13]; rfl) (by decide) rfl (fun ls hl => ?_)
          refine lv_goto (tgt := 4) hx hb dX0_pass_55 (by decide) ?_
          exact ih _ _ _ _ _ _ _ _ _ _ hf hw (lv_sub hl [2, 3, 1, 0] rfl) hexit
set_option maxHeartbeats 4000000 in
set_option maxRecDepth 100000 in
theorem c0_pass (l : Launch) (D : va_G) (cz : Nat → ClassId) (ev : Nat × Nat × Nat) {b : Nat} {L : List Nat} {S : ST} {Rf : RT} (hC : CW b L S Rf) {t0 : Nat} (h0 : CourseAt L S Rf t0) {t1 : Nat} (h1 : TownAt L S Rf t1) {N : Nat} {I : IT} {J : JT} {r : Int32} {I1 : IT} {J1 : JT} (hf : f0_pass N b S Rf t0 t1 I J = some (r, I1, J1)) : MTi l D cz ev yX0_pass cX0_pass 4 (some .int) 1 23 [.ref t0, .ref t1] L S Rf I J r I1 J1 := by
  unfold f0_pass at hf
  refine MTi_of (by decide) (Nat.le_of_ble_eq_true rfl) ?_
  intro p e s m args below meth c Q ls X hK hw hl hfin
  have X : CallFix p m c cX0_pass 4 s args gw RX0 := X
  have hx := X.1
  have hb := X.2.1
  have hl : lv_has ls 4 [(0, .ref t0), (1, .ref t1)] := hl
  refine lv_iconst (v := (0 : Int32)) hx hb dX0_pass_0 (by decide) ?_
  refine lv_istore_n (lv' := [(2, .int (0 : Int32)), (0, .ref t0), (1, .ref t1)]) hx hb dX0_pass_1 rfl hl (by decide) rfl (fun ls hl => ?_)
  refine lv_iconst (v := (0 : Int32)) hx hb dX0_pass_2 (by decide) ?_
  refine lv_istore_n (lv' := [(3, .int (0 : Int32)), (2, .int (0 : Int32)), (0, .ref t0), (1, .ref t1)]) hx hb dX0_pass_3 rfl hl (by decide) rfl (fun ls hl => ?_)
  obtain ⟨q_14, I_15, J_16, hq_17, hf⟩ := yb_b3_some hf
  refine w0_pass_L4 hC h0 h1 X hK _ _ _ _ _ _ _ _ _ _ _ hq_17 hw (lv_sub hl [2, 3, 1, 0] rfl) (fun H locs ls hw hl => ?_)
  refine lv_aload_n hx hb dX0_pass_58 rfl (lv_at hl 0 rfl) ?_
  refine lv_dup hx hb dX0_pass_59 rfl ?_
  refine x_getI X hK hw h0.1.1 h0.1.2 cpX0 9 (by decide) rfl tw_317 dX0_pass_60 ?_
  refine lv_iconst (v := (1 : Int32)) hx hb dX0_pass_63 (by decide) ?_
  refine lv_iadd hx hb dX0_pass_64 ?_
  refine x_putI X hK hw h0.1.1 h0.1.2 cpX0 9 (by decide) rfl rfl rfl tw_317 dX0_pass_65 (fun H locs hw => ?_)
  obtain ⟨I_18, eI_18, hf⟩ := yb_let_ex hf
  have hw := yb_wI eI_18 hw
  refine lv_iload_n hx hb dX0_pass_68 rfl (lv_at hl 1 rfl) ?_
  exact yb_reti hfin hf hw dX0_pass_69
set_option maxHeartbeats 4000000 in
set_option maxRecDepth 100000 in
theorem w0_heardBits_L4 {p : Program} {l : Launch} {e : Env} {s : State} {m : MethodId} {args : Array Value} {below : List Frame} {meth : Method} {c : Code} {Q : State → Prop} {D : va_G} {cz : Nat → ClassId} {A : Nat → Prop} {ev : Nat × Nat × Nat} {b : Nat} {L : List Nat} {S : ST} {Rf : RT} (hC : CW b L S Rf) {t0 : Nat} (h0 : CourseAt L S Rf t0) (X : CallFix p m c cX0_heardBits 4 s args gw RX0) (hK : KX D cz ev A s) {N : Nat} {x1 : Int32} :
    ∀ (n : Nat) (x2 : Int32) (x3 : Int32) (I : IT) (J : JT) (q : (Int32)) (I1 : IT) (J1 : JT) (H : Heap) (locs : List Loc) (ls : Array Slot), f0_heardBits_L4 N b S Rf t0 x1 n x2 x3 I J = some (q, I1, J1) → WX D cz A L S Rf s.heap I J H locs → lv_has ls 4 [(0, .ref t0), (1, .int x1), (2, .int x2), (3, .int x3)] →
    (∀ (H : Heap) (locs : List Loc) (ls : Array Slot), WX D cz A L S Rf s.heap I1 J1 H locs → lv_has ls 4 [(2, .int q)] → W p l e (rmX 0 0) s m args below meth c H locs 0 0 Q (F0 m 30 ls [])) →
    W p l e (rmX 0 0) s m args below meth c H locs 0 0 Q (F0 m 4 ls []) := by
  have hx := X.1
  have hb := X.2.1
  intro n
  induction n with
  | zero =>
    intro x2 x3 I J q I1 J1 H locs ls hf
    rw [f0_heardBits_L4] at hf
    cases hf
  | succ n ih =>
    intro x2 x3 I J q I1 J1 H locs ls hf hw hl hexit
    rw [f0_heardBits_L4] at hf
    refine lv_iload_n hx hb dX0_heardBits_4 rfl (lv_at hl 3 rfl) ?_
    refine lv_iload_n hx hb dX0_heardBits_5 rfl (lv_at hl 1 rfl) ?_
    refine lv_icmp_ge (tgt := 30) hx hb dX0_heardBits_6 (by decide) (fun c_1 => ?_) (fun c_1 => ?_)
    · have hf := yb_pos c_1 hf
      obtain ⟨rfl, rfl, rfl⟩ := yb_inj hf
      exact hexit _ _ _ hw (lv_sub hl [2] rfl)
    · have hf := yb_neg c_1 hf
      refine lv_aload_n hx hb dX0_heardBits_9 rfl (lv_at hl 0 rfl) ?_
      refine x_getR X hK hw h0.1.1 h0.1.2 cpX0 2 (by decide) rfl (ca_R h0 2 (by decide)) tw_295 dX0_heardBits_10 ?_
      refine lv_iload_n hx hb dX0_heardBits_13 rfl (lv_at hl 3 rfl) ?_
      obtain ⟨hi_2, hf⟩ := yb_ck_some hf
      refine x_iald X hK hw (ca_mem h0 2 (by decide)) (ca_S h0 2 rfl) hi_2 rfl dX0_heardBits_14 ?_
      refine lv_if_lt (tgt := 24) hx hb dX0_heardBits_15 (by decide) (fun c_3 => ?_) (fun c_3 => ?_)
      · have hf := yb_pos c_3 hf
        obtain ⟨x3_4, ex3_4, hf⟩ := yb_let_ex hf
        refine lv_iinc (v := x3_4) (lv' := [(3, .int x3_4), (0, .ref t0), (1, .int x1), (2, .int x2)]) hx hb dX0_heardBits_24 hl (k := 3) rfl (by rw [ex3_4]; rfl) (by decide) rfl (fun ls hl => ?_)
        refine lv_goto (tgt := 4) hx hb dX0_heardBits_27 (by decide) ?_
        exact ih _ _ _ _ _ _ _ _ _ _ hf hw (lv_sub hl [1, 2, 3, 0] rfl) hexit
      · have hf := yb_neg c_3 hf
        refine lv_iload_n hx hb dX0_heardBits_18 rfl (lv_at hl 2 rfl) ?_
        refine lv_iconst (v := (1 : Int32)) hx hb dX0_heardBits_19 (by decide) ?_
        refine lv_iload_n hx hb dX0_heardBits_20 rfl (lv_at hl 3 rfl) ?_
        refine lv_ishl hx hb dX0_heardBits_21 ?_
        refine lv_ior hx hb dX0_heardBits_22 ?_
        refine lv_topi (fun x2_5 ex2_5 => ?_)
        have hf := yb_let_to ex2_5 hf
        refine lv_istore_n (lv' := [(2, .int x2_5), (0, .ref t0), (1, .int x1), (3, .int x3)]) hx hb dX0_heardBits_23 rfl hl (by decide) rfl (fun ls hl => ?_)
        obtain ⟨x3_6, ex3_6, hf⟩ := yb_let_ex hf
        refine lv_iinc (v := x3_6) (lv' := [(3, .int x3_6), (2, .int x2_5), (0, .ref t0), (1, .int x1)]) hx hb dX0_heardBits_24 hl (k := 3) rfl (by rw [ex3_6]; rfl) (by decide) rfl (fun ls hl => ?_)
        refine lv_goto (tgt := 4) hx hb dX0_heardBits_27 (by decide) ?_
        exact ih _ _ _ _ _ _ _ _ _ _ hf hw (lv_sub hl [2, 3, 1, 0] rfl) hexit
set_option maxHeartbeats 4000000 in
set_option maxRecDepth 100000 in
theorem c0_heardBits (l : Launch) (D : va_G) (cz : Nat → ClassId) (ev : Nat × Nat × Nat) {b : Nat} {L : List Nat} {S : ST} {Rf : RT} (hC : CW b L S Rf) {t0 : Nat} (h0 : CourseAt L S Rf t0) {N : Nat} {x1 : Int32} {I : IT} {J : JT} {r : Int32} {I1 : IT} {J1 : JT} (hf : f0_heardBits N b S Rf t0 x1 I J = some (r, I1, J1)) : MTi l D cz ev yX0_heardBits cX0_heardBits 4 (some .int) 0 0 [.ref t0, .int x1] L S Rf I J r I1 J1 := by
  unfold f0_heardBits at hf
  refine MTi_of (by decide) (Nat.le_of_ble_eq_true rfl) ?_
  intro p e s m args below meth c Q ls X hK hw hl hfin
  have X : CallFix p m c cX0_heardBits 4 s args gw RX0 := X
  have hx := X.1
  have hb := X.2.1
  have hl : lv_has ls 4 [(0, .ref t0), (1, .int x1)] := hl
  refine lv_iconst (v := (0 : Int32)) hx hb dX0_heardBits_0 (by decide) ?_
  refine lv_istore_n (lv' := [(2, .int (0 : Int32)), (0, .ref t0), (1, .int x1)]) hx hb dX0_heardBits_1 rfl hl (by decide) rfl (fun ls hl => ?_)
  refine lv_iconst (v := (0 : Int32)) hx hb dX0_heardBits_2 (by decide) ?_
  refine lv_istore_n (lv' := [(3, .int (0 : Int32)), (2, .int (0 : Int32)), (0, .ref t0), (1, .int x1)]) hx hb dX0_heardBits_3 rfl hl (by decide) rfl (fun ls hl => ?_)
  obtain ⟨q_7, I_8, J_9, hq_10, hf⟩ := yb_b3_some hf
  refine w0_heardBits_L4 hC h0 X hK _ _ _ _ _ _ _ _ _ _ _ hq_10 hw (lv_sub hl [2, 3, 1, 0] rfl) (fun H locs ls hw hl => ?_)
  refine lv_iload_n hx hb dX0_heardBits_30 rfl (lv_at hl 0 rfl) ?_
  exact yb_reti hfin hf hw dX0_heardBits_31
set_option maxHeartbeats 4000000 in
set_option maxRecDepth 100000 in
theorem w0_ruledBits_L4 {p : Program} {l : Launch} {e : Env} {s : State} {m : MethodId} {args : Array Value} {below : List Frame} {meth : Method} {c : Code} {Q : State → Prop} {D : va_G} {cz : Nat → ClassId} {A : Nat → Prop} {ev : Nat × Nat × Nat} {b : Nat} {L : List Nat} {S : ST} {Rf : RT} (hC : CW b L S Rf) {t0 : Nat} (h0 : CourseAt L S Rf t0) (X : CallFix p m c cX0_ruledBits 4 s args gw RX0) (hK : KX D cz ev A s) {N : Nat} {x1 : Int32} :
    ∀ (n : Nat) (x2 : Int32) (x3 : Int32) (I : IT) (J : JT) (q : (Int32)) (I1 : IT) (J1 : JT) (H : Heap) (locs : List Loc) (ls : Array Slot), f0_ruledBits_L4 N b S Rf t0 x1 n x2 x3 I J = some (q, I1, J1) → WX D cz A L S Rf s.heap I J H locs → lv_has ls 4 [(0, .ref t0), (1, .int x1), (2, .int x2), (3, .int x3)] →
    (∀ (H : Heap) (locs : List Loc) (ls : Array Slot), WX D cz A L S Rf s.heap I1 J1 H locs → lv_has ls 4 [(2, .int q)] → W p l e (rmX 0 0) s m args below meth c H locs 0 0 Q (F0 m 30 ls [])) →
    W p l e (rmX 0 0) s m args below meth c H locs 0 0 Q (F0 m 4 ls []) := by
  have hx := X.1
  have hb := X.2.1
  intro n
  induction n with
  | zero =>
    intro x2 x3 I J q I1 J1 H locs ls hf
    rw [f0_ruledBits_L4] at hf
    cases hf
  | succ n ih =>
    intro x2 x3 I J q I1 J1 H locs ls hf hw hl hexit
    rw [f0_ruledBits_L4] at hf
    refine lv_iload_n hx hb dX0_ruledBits_4 rfl (lv_at hl 3 rfl) ?_
    refine lv_iload_n hx hb dX0_ruledBits_5 rfl (lv_at hl 1 rfl) ?_
    refine lv_icmp_ge (tgt := 30) hx hb dX0_ruledBits_6 (by decide) (fun c_1 => ?_) (fun c_1 => ?_)
    · have hf := yb_pos c_1 hf
      obtain ⟨rfl, rfl, rfl⟩ := yb_inj hf
      exact hexit _ _ _ hw (lv_sub hl [2] rfl)
    · have hf := yb_neg c_1 hf
      refine lv_aload_n hx hb dX0_ruledBits_9 rfl (lv_at hl 0 rfl) ?_
      refine x_getR X hK hw h0.1.1 h0.1.2 cpX0 8 (by decide) rfl (ca_R h0 8 (by decide)) tw_313 dX0_ruledBits_10 ?_
      refine lv_iload_n hx hb dX0_ruledBits_13 rfl (lv_at hl 3 rfl) ?_
      obtain ⟨hi_2, hf⟩ := yb_ck_some hf
      refine x_iald X hK hw (ca_mem h0 8 (by decide)) (ca_S h0 8 rfl) hi_2 rfl dX0_ruledBits_14 ?_
      refine lv_if_le (tgt := 24) hx hb dX0_ruledBits_15 (by decide) (fun c_3 => ?_) (fun c_3 => ?_)
      · have hf := yb_pos c_3 hf
        obtain ⟨x3_4, ex3_4, hf⟩ := yb_let_ex hf
        refine lv_iinc (v := x3_4) (lv' := [(3, .int x3_4), (0, .ref t0), (1, .int x1), (2, .int x2)]) hx hb dX0_ruledBits_24 hl (k := 3) rfl (by rw [ex3_4]; rfl) (by decide) rfl (fun ls hl => ?_)
        refine lv_goto (tgt := 4) hx hb dX0_ruledBits_27 (by decide) ?_
        exact ih _ _ _ _ _ _ _ _ _ _ hf hw (lv_sub hl [1, 2, 3, 0] rfl) hexit
      · have hf := yb_neg c_3 hf
        refine lv_iload_n hx hb dX0_ruledBits_18 rfl (lv_at hl 2 rfl) ?_
        refine lv_iconst (v := (1 : Int32)) hx hb dX0_ruledBits_19 (by decide) ?_
        refine lv_iload_n hx hb dX0_ruledBits_20 rfl (lv_at hl 3 rfl) ?_
        refine lv_ishl hx hb dX0_ruledBits_21 ?_
        refine lv_ior hx hb dX0_ruledBits_22 ?_
        refine lv_topi (fun x2_5 ex2_5 => ?_)
        have hf := yb_let_to ex2_5 hf
        refine lv_istore_n (lv' := [(2, .int x2_5), (0, .ref t0), (1, .int x1), (3, .int x3)]) hx hb dX0_ruledBits_23 rfl hl (by decide) rfl (fun ls hl => ?_)
        obtain ⟨x3_6, ex3_6, hf⟩ := yb_let_ex hf
        refine lv_iinc (v := x3_6) (lv' := [(3, .int x3_6), (2, .int x2_5), (0, .ref t0), (1, .int x1)]) hx hb dX0_ruledBits_24 hl (k := 3) rfl (by rw [ex3_6]; rfl) (by decide) rfl (fun ls hl => ?_)
        refine lv_goto (tgt := 4) hx hb dX0_ruledBits_27 (by decide) ?_
        exact ih _ _ _ _ _ _ _ _ _ _ hf hw (lv_sub hl [2, 3, 1, 0] rfl) hexit
set_option maxHeartbeats 4000000 in
set_option maxRecDepth 100000 in
theorem c0_ruledBits (l : Launch) (D : va_G) (cz : Nat → ClassId) (ev : Nat × Nat × Nat) {b : Nat} {L : List Nat} {S : ST} {Rf : RT} (hC : CW b L S Rf) {t0 : Nat} (h0 : CourseAt L S Rf t0) {N : Nat} {x1 : Int32} {I : IT} {J : JT} {r : Int32} {I1 : IT} {J1 : JT} (hf : f0_ruledBits N b S Rf t0 x1 I J = some (r, I1, J1)) : MTi l D cz ev yX0_ruledBits cX0_ruledBits 4 (some .int) 0 0 [.ref t0, .int x1] L S Rf I J r I1 J1 := by
  unfold f0_ruledBits at hf
  refine MTi_of (by decide) (Nat.le_of_ble_eq_true rfl) ?_
  intro p e s m args below meth c Q ls X hK hw hl hfin
  have X : CallFix p m c cX0_ruledBits 4 s args gw RX0 := X
  have hx := X.1
  have hb := X.2.1
  have hl : lv_has ls 4 [(0, .ref t0), (1, .int x1)] := hl
  refine lv_iconst (v := (0 : Int32)) hx hb dX0_ruledBits_0 (by decide) ?_
  refine lv_istore_n (lv' := [(2, .int (0 : Int32)), (0, .ref t0), (1, .int x1)]) hx hb dX0_ruledBits_1 rfl hl (by decide) rfl (fun ls hl => ?_)
  refine lv_iconst (v := (0 : Int32)) hx hb dX0_ruledBits_2 (by decide) ?_
  refine lv_istore_n (lv' := [(3, .int (0 : Int32)), (2, .int (0 : Int32)), (0, .ref t0), (1, .int x1)]) hx hb dX0_ruledBits_3 rfl hl (by decide) rfl (fun ls hl => ?_)
  obtain ⟨q_7, I_8, J_9, hq_10, hf⟩ := yb_b3_some hf
  refine w0_ruledBits_L4 hC h0 X hK _ _ _ _ _ _ _ _ _ _ _ hq_10 hw (lv_sub hl [2, 3, 1, 0] rfl) (fun H locs ls hw hl => ?_)
  refine lv_iload_n hx hb dX0_ruledBits_30 rfl (lv_at hl 0 rfl) ?_
  exact yb_reti hfin hf hw dX0_ruledBits_31
set_option maxHeartbeats 4000000 in
set_option maxRecDepth 100000 in
theorem c9_isYounger (l : Launch) (D : va_G) (cz : Nat → ClassId) (ev : Nat × Nat × Nat) {b : Nat} {L : List Nat} {S : ST} {Rf : RT} (hC : CW b L S Rf) {t0 : Nat} (h0 : TownAt L S Rf t0) {x1 : Int32} {x2 : Int32} {I : IT} {J : JT} {r : Int32} {I1 : IT} {J1 : JT} (hf : f9_isYounger b S Rf t0 x1 x2 I J = some (r, I1, J1)) : MTi l D cz ev yX9_isYounger cX9_isYounger 3 (some .boolean) 0 0 [.ref t0, .int x1, .int x2] L S Rf I J r I1 J1 := by
  unfold f9_isYounger at hf
  refine MTz_of (by decide) (Nat.le_of_ble_eq_true rfl) ?_
  intro p e s m args below meth c Q ls X hK hw hl hfin
  have X : CallFix p m c cX9_isYounger 3 s args gw RX9 := X
  have hx := X.1
  have hb := X.2.1
  have hl : lv_has ls 3 [(0, .ref t0), (1, .int x1), (2, .int x2)] := hl
  refine lv_aload_n hx hb dX9_isYounger_0 rfl (lv_at hl 0 rfl) ?_
  refine x_getR X hK hw h0.1.1 h0.1.2 cpX9 0 (by decide) rfl (ta_R h0 0 (by decide)) tw_190 dX9_isYounger_1 ?_
  refine lv_iload_n hx hb dX9_isYounger_4 rfl (lv_at hl 2 rfl) ?_
  obtain ⟨hi_1, hf⟩ := yb_ck_some hf
  refine x_iald X hK hw (ta_mem h0 0 (by decide)) (ta_S h0 0 rfl) hi_1 rfl dX9_isYounger_5 ?_
  refine lv_aload_n hx hb dX9_isYounger_6 rfl (lv_at hl 0 rfl) ?_
  refine x_getR X hK hw h0.1.1 h0.1.2 cpX9 0 (by decide) rfl (ta_R h0 0 (by decide)) tw_190 dX9_isYounger_7 ?_
  refine lv_iload_n hx hb dX9_isYounger_10 rfl (lv_at hl 1 rfl) ?_
  obtain ⟨hi_2, hf⟩ := yb_ck_some hf
  refine x_iald X hK hw (ta_mem h0 0 (by decide)) (ta_S h0 0 rfl) hi_2 rfl dX9_isYounger_11 ?_
  refine lv_isub hx hb dX9_isYounger_12 ?_
  refine lv_aload_n hx hb dX9_isYounger_13 rfl (lv_at hl 0 rfl) ?_
  refine x_getI X hK hw h0.1.1 h0.1.2 cpX9 9 (by decide) rfl tw_226 dX9_isYounger_14 ?_
  refine lv_icmp_lt (tgt := 24) hx hb dX9_isYounger_17 (by decide) (fun c_3 => ?_) (fun c_3 => ?_)
  · have hf := yb_pos c_3 hf
    refine lv_iconst (v := (0 : Int32)) hx hb dX9_isYounger_24 (by decide) ?_
    exact yb_retz hfin (by decide) hf hw dX9_isYounger_25
  · have hf := yb_neg c_3 hf
    refine lv_iconst (v := (1 : Int32)) hx hb dX9_isYounger_20 (by decide) ?_
    refine lv_goto (tgt := 25) hx hb dX9_isYounger_21 (by decide) ?_
    exact yb_retz hfin (by decide) hf hw dX9_isYounger_25
set_option maxHeartbeats 4000000 in
set_option maxRecDepth 100000 in
theorem c9_areTwins (l : Launch) (D : va_G) (cz : Nat → ClassId) (ev : Nat × Nat × Nat) {b : Nat} {L : List Nat} {S : ST} {Rf : RT} (hC : CW b L S Rf) {t0 : Nat} (h0 : TownAt L S Rf t0) {x1 : Int32} {x2 : Int32} {I : IT} {J : JT} {r : Int32} {I1 : IT} {J1 : JT} (hf : f9_areTwins b S Rf t0 x1 x2 I J = some (r, I1, J1)) : MTi l D cz ev yX9_areTwins cX9_areTwins 3 (some .boolean) 0 0 [.ref t0, .int x1, .int x2] L S Rf I J r I1 J1 := by
  unfold f9_areTwins at hf
  refine MTz_of (by decide) (Nat.le_of_ble_eq_true rfl) ?_
  intro p e s m args below meth c Q ls X hK hw hl hfin
  have X : CallFix p m c cX9_areTwins 3 s args gw RX9 := X
  have hx := X.1
  have hb := X.2.1
  have hl : lv_has ls 3 [(0, .ref t0), (1, .int x1), (2, .int x2)] := hl
  refine lv_aload_n hx hb dX9_areTwins_0 rfl (lv_at hl 0 rfl) ?_
  refine x_getR X hK hw h0.1.1 h0.1.2 cpX9 3 (by decide) rfl (ta_R h0 3 (by decide)) tw_203 dX9_areTwins_1 ?_
  refine lv_iload_n hx hb dX9_areTwins_4 rfl (lv_at hl 1 rfl) ?_
  obtain ⟨hi_1, hf⟩ := yb_ck_some hf
  refine x_iald X hK hw (ta_mem h0 3 (by decide)) (ta_S h0 3 rfl) hi_1 rfl dX9_areTwins_5 ?_
  refine lv_iload_n hx hb dX9_areTwins_6 rfl (lv_at hl 2 rfl) ?_
  refine lv_ishr hx hb dX9_areTwins_7 ?_
  refine lv_iconst (v := (1 : Int32)) hx hb dX9_areTwins_8 (by decide) ?_
  refine lv_iand hx hb dX9_areTwins_9 ?_
  refine lv_if_eq (tgt := 17) hx hb dX9_areTwins_10 (by decide) (fun c_2 => ?_) (fun c_2 => ?_)
  · have hf := yb_pos c_2 hf
    refine lv_iconst (v := (0 : Int32)) hx hb dX9_areTwins_17 (by decide) ?_
    exact yb_retz hfin (by decide) hf hw dX9_areTwins_18
  · have hf := yb_neg c_2 hf
    refine lv_iconst (v := (1 : Int32)) hx hb dX9_areTwins_13 (by decide) ?_
    refine lv_goto (tgt := 18) hx hb dX9_areTwins_14 (by decide) ?_
    exact yb_retz hfin (by decide) hf hw dX9_areTwins_18
set_option maxHeartbeats 4000000 in
set_option maxRecDepth 100000 in
theorem c9_tillBirthday (l : Launch) (D : va_G) (cz : Nat → ClassId) (ev : Nat × Nat × Nat) {b : Nat} {L : List Nat} {S : ST} {Rf : RT} (hC : CW b L S Rf) {t0 : Nat} (h0 : TownAt L S Rf t0) {x1 : Int32} {I : IT} {J : JT} {r : Int32} {I1 : IT} {J1 : JT} (hf : f9_tillBirthday b S Rf t0 x1 I J = some (r, I1, J1)) : MTi l D cz ev yX9_tillBirthday cX9_tillBirthday 2 (some .int) 0 0 [.ref t0, .int x1] L S Rf I J r I1 J1 := by
  unfold f9_tillBirthday at hf
  refine MTi_of (by decide) (Nat.le_of_ble_eq_true rfl) ?_
  intro p e s m args below meth c Q ls X hK hw hl hfin
  have X : CallFix p m c cX9_tillBirthday 2 s args gw RX9 := X
  have hx := X.1
  have hb := X.2.1
  have hl : lv_has ls 2 [(0, .ref t0), (1, .int x1)] := hl
  refine lv_aload_n hx hb dX9_tillBirthday_0 rfl (lv_at hl 0 rfl) ?_
  refine x_getI X hK hw h0.1.1 h0.1.2 cpX9 10 (by decide) rfl tw_229 dX9_tillBirthday_1 ?_
  refine lv_if_le (tgt := 21) hx hb dX9_tillBirthday_4 (by decide) (fun c_1 => ?_) (fun c_1 => ?_)
  · have hf := yb_pos c_1 hf
    refine lv_iconst (v := (0 : Int32)) hx hb dX9_tillBirthday_21 (by decide) ?_
    exact yb_reti hfin hf hw dX9_tillBirthday_22
  · have hf := yb_neg c_1 hf
    refine lv_aload_n hx hb dX9_tillBirthday_7 rfl (lv_at hl 0 rfl) ?_
    refine x_getI X hK hw h0.1.1 h0.1.2 cpX9 10 (by decide) rfl tw_229 dX9_tillBirthday_8 ?_
    refine lv_iload_n hx hb dX9_tillBirthday_11 rfl (lv_at hl 1 rfl) ?_
    refine lv_aload_n hx hb dX9_tillBirthday_12 rfl (lv_at hl 0 rfl) ?_
    refine x_getI X hK hw h0.1.1 h0.1.2 cpX9 10 (by decide) rfl tw_229 dX9_tillBirthday_13 ?_
    obtain ⟨h_2, hf⟩ := yb_nz hf
    refine lv_irem hx hb dX9_tillBirthday_16 h_2 ?_
    refine lv_isub hx hb dX9_tillBirthday_17 ?_
    refine lv_goto (tgt := 22) hx hb dX9_tillBirthday_18 (by decide) ?_
    exact yb_reti hfin hf hw dX9_tillBirthday_22
set_option maxHeartbeats 4000000 in
set_option maxRecDepth 100000 in
theorem c9_sits (l : Launch) (D : va_G) (cz : Nat → ClassId) (ev : Nat × Nat × Nat) {b : Nat} {L : List Nat} {S : ST} {Rf : RT} (hC : CW b L S Rf) {t0 : Nat} (h0 : TownAt L S Rf t0) {x1 : Int32} {I : IT} {J : JT} {r : Int32} {I1 : IT} {J1 : JT} (hf : f9_sits b S Rf t0 x1 I J = some (r, I1, J1)) : MTi l D cz ev yX9_sits cX9_sits 2 (some .boolean) 0 0 [.ref t0, .int x1] L S Rf I J r I1 J1 := by
  unfold f9_sits at hf
  refine MTz_of (by decide) (Nat.le_of_ble_eq_true rfl) ?_
  intro p e s m args below meth c Q ls X hK hw hl hfin
  have X : CallFix p m c cX9_sits 2 s args gw RX9 := X
  have hx := X.1
  have hb := X.2.1
  have hl : lv_has ls 2 [(0, .ref t0), (1, .int x1)] := hl
  refine lv_iload_n hx hb dX9_sits_0 rfl (lv_at hl 1 rfl) ?_
  refine lv_aload_n hx hb dX9_sits_1 rfl (lv_at hl 0 rfl) ?_
  refine x_getI X hK hw h0.1.1 h0.1.2 cpX9 11 (by decide) rfl tw_233 dX9_sits_2 ?_
  refine lv_icmp_lt (tgt := 20) hx hb dX9_sits_5 (by decide) (fun c_1 => ?_) (fun c_1 => ?_)
  · have hf := yb_pos c_1 hf
    refine lv_iconst (v := (0 : Int32)) hx hb dX9_sits_20 (by decide) ?_
    exact yb_retz hfin (by decide) hf hw dX9_sits_21
  · have hf := yb_neg c_1 hf
    refine lv_iload_n hx hb dX9_sits_8 rfl (lv_at hl 1 rfl) ?_
    refine lv_aload_n hx hb dX9_sits_9 rfl (lv_at hl 0 rfl) ?_
    refine x_getI X hK hw h0.1.1 h0.1.2 cpX9 12 (by decide) rfl tw_236 dX9_sits_10 ?_
    refine lv_icmp_gt (tgt := 20) hx hb dX9_sits_13 (by decide) (fun c_2 => ?_) (fun c_2 => ?_)
    · have hf := yb_pos c_2 hf
      refine lv_iconst (v := (0 : Int32)) hx hb dX9_sits_20 (by decide) ?_
      exact yb_retz hfin (by decide) hf hw dX9_sits_21
    · have hf := yb_neg c_2 hf
      refine lv_iconst (v := (1 : Int32)) hx hb dX9_sits_16 (by decide) ?_
      refine lv_goto (tgt := 21) hx hb dX9_sits_17 (by decide) ?_
      exact yb_retz hfin (by decide) hf hw dX9_sits_21
set_option maxHeartbeats 4000000 in
set_option maxRecDepth 100000 in
theorem c1_canSit (l : Launch) (D : va_G) (cz : Nat → ClassId) (ev : Nat × Nat × Nat) {b : Nat} {L : List Nat} {S : ST} {Rf : RT} (hC : CW b L S Rf) {x1 : Int32} {x2 : Int32} {x3 : Int32} {x4 : Int32} {I : IT} {J : JT} {r : Int32} {I1 : IT} {J1 : JT} (hf : f1_canSit b S Rf x1 x2 x3 x4 I J = some (r, I1, J1)) : MTi l D cz ev yX1_canSit cX1_canSit 8 (some .boolean) 1 22 [.ref (b + 30), .int x1, .int x2, .int x3, .int x4] L S Rf I J r I1 J1 := by
  unfold f1_canSit at hf
  refine MTz_of (by decide) (Nat.le_of_ble_eq_true rfl) ?_
  intro p e s m args below meth c Q ls X hK hw hl hfin
  have X : CallFix p m c cX1_canSit 8 s args gw RX1 := X
  have hx := X.1
  have hb := X.2.1
  have hl : lv_has ls 8 [(0, .ref (b + 30)), (1, .int x1), (2, .int x2), (3, .int x3), (4, .int x4)] := hl
  refine lv_aload_n hx hb dX1_canSit_0 rfl (lv_at hl 0 rfl) ?_
  refine x_getR X hK hw (cw_mem hC 30 (by decide)) (cw_S hC 30 rfl) cpX1 0 (by decide) rfl (cw_R hC 30 0 (by decide) rfl) tw_405 dX1_canSit_1 ?_
  refine x_getR X hK hw (cw_now hC).1.1 (cw_now hC).1.2 cpX8 0 (by decide) rfl (cw_now hC).2.1.1 tw_343 dX1_canSit_4 ?_
  refine lv_astore (lv' := [(5, .ref (b + 5)), (0, .ref (b + 30)), (1, .int x1), (2, .int x2), (3, .int x3), (4, .int x4)]) hx hb dX1_canSit_7 hl (by decide) rfl (fun ls hl => ?_)
  refine lv_aload hx hb dX1_canSit_9 (lv_at hl 0 rfl) ?_
  refine lv_iload_n hx hb dX1_canSit_11 rfl (lv_at hl 2 rfl) ?_
  refine lv_iload_n hx hb dX1_canSit_12 rfl (lv_at hl 3 rfl) ?_
  obtain ⟨r_1, I_2, J_3, hq_4, hf⟩ := yb_b3_some hf
  refine x_calli X hK hw (c9_isYounger l D cz ev hC (st_town (cw_now hC)) hq_4) (st_town (cw_now hC)).1.1 (st_town (cw_now hC)).1.2 cpX9.1 vw_X1_32 ⟨Nat.le_of_ble_eq_true rfl, Nat.le_of_ble_eq_true rfl⟩ rfl rfl (Nat.le_of_ble_eq_true rfl) hl.1 ⟨Nat.le_refl _, Nat.le_refl _⟩ dX1_canSit_13 (fun H locs hw => ?_)
  refine lv_if_eq (tgt := 29) hx hb dX1_canSit_16 (by decide) (fun c_5 => ?_) (fun c_5 => ?_)
  · have hf := yb_pos c_5 hf
    refine lv_iconst (v := (0 : Int32)) hx hb dX1_canSit_29 (by decide) ?_
    exact yb_retz hfin (by decide) hf hw dX1_canSit_30
  · have hf := yb_neg c_5 hf
    refine lv_aload hx hb dX1_canSit_19 (lv_at hl 0 rfl) ?_
    refine lv_iload_n hx hb dX1_canSit_21 rfl (lv_at hl 2 rfl) ?_
    refine lv_iload_n hx hb dX1_canSit_22 rfl (lv_at hl 3 rfl) ?_
    obtain ⟨r_6, I_7, J_8, hq_9, hf⟩ := yb_b3_some hf
    refine x_calli X hK hw (c9_areTwins l D cz ev hC (st_town (cw_now hC)) hq_9) (st_town (cw_now hC)).1.1 (st_town (cw_now hC)).1.2 cpX9.1 vw_X1_38 ⟨Nat.le_of_ble_eq_true rfl, Nat.le_of_ble_eq_true rfl⟩ rfl rfl (Nat.le_of_ble_eq_true rfl) hl.1 ⟨Nat.le_refl _, Nat.le_refl _⟩ dX1_canSit_23 (fun H locs hw => ?_)
    refine lv_if_eq (tgt := 31) hx hb dX1_canSit_26 (by decide) (fun c_10 => ?_) (fun c_10 => ?_)
    · have hf := yb_pos c_10 hf
      refine lv_aload hx hb dX1_canSit_31 (lv_at hl 0 rfl) ?_
      refine x_getR X hK hw (st_town (cw_now hC)).1.1 (st_town (cw_now hC)).1.2 cpX9 0 (by decide) rfl (ta_R (st_town (cw_now hC)) 0 (by decide)) tw_191 dX1_canSit_33 ?_
      refine lv_iload_n hx hb dX1_canSit_36 rfl (lv_at hl 2 rfl) ?_
      obtain ⟨hi_11, hf⟩ := yb_ck_some hf
      refine x_iald X hK hw (ta_mem (st_town (cw_now hC)) 0 (by decide)) (ta_S (st_town (cw_now hC)) 0 rfl) hi_11 rfl dX1_canSit_37 ?_
      refine lv_iload hx hb dX1_canSit_38 (lv_at hl 5 rfl) ?_
      refine lv_iadd hx hb dX1_canSit_40 ?_
      refine lv_topi (fun x6_12 ex6_12 => ?_)
      have hf := yb_let_to ex6_12 hf
      refine lv_istore (lv' := [(6, .int x6_12), (5, .ref (b + 5)), (0, .ref (b + 30)), (1, .int x1), (2, .int x2), (3, .int x3), (4, .int x4)]) hx hb dX1_canSit_41 hl (by decide) rfl (fun ls hl => ?_)
      refine lv_aload hx hb dX1_canSit_43 (lv_at hl 1 rfl) ?_
      refine lv_iload hx hb dX1_canSit_45 (lv_at hl 0 rfl) ?_
      obtain ⟨r_13, I_14, J_15, hq_16, hf⟩ := yb_b3_some hf
      refine x_calli X hK hw (c9_tillBirthday l D cz ev hC (st_town (cw_now hC)) hq_16) (st_town (cw_now hC)).1.1 (st_town (cw_now hC)).1.2 cpX9.1 vw_X1_45 ⟨Nat.le_of_ble_eq_true rfl, Nat.le_of_ble_eq_true rfl⟩ rfl rfl (Nat.le_of_ble_eq_true rfl) hl.1 ⟨Nat.le_refl _, Nat.le_refl _⟩ dX1_canSit_47 (fun H locs hw => ?_)
      refine lv_istore (lv' := [(7, .int r_13), (6, .int x6_12), (5, .ref (b + 5)), (0, .ref (b + 30)), (1, .int x1), (2, .int x2), (3, .int x3), (4, .int x4)]) hx hb dX1_canSit_50 hl (by decide) rfl (fun ls hl => ?_)
      refine lv_aload hx hb dX1_canSit_52 (lv_at hl 2 rfl) ?_
      refine lv_iload hx hb dX1_canSit_54 (lv_at hl 1 rfl) ?_
      obtain ⟨r_17, I_18, J_19, hq_20, hf⟩ := yb_b3_some hf
      refine x_calli X hK hw (c9_sits l D cz ev hC (st_town (cw_now hC)) hq_20) (st_town (cw_now hC)).1.1 (st_town (cw_now hC)).1.2 cpX9.1 vw_X1_49 ⟨Nat.le_of_ble_eq_true rfl, Nat.le_of_ble_eq_true rfl⟩ rfl rfl (Nat.le_of_ble_eq_true rfl) hl.1 ⟨Nat.le_refl _, Nat.le_refl _⟩ dX1_canSit_56 (fun H locs hw => ?_)
      refine lv_if_eq (tgt := 96) hx hb dX1_canSit_59 (by decide) (fun c_21 => ?_) (fun c_21 => ?_)
      · have hf := yb_pos c_21 hf
        refine lv_iconst (v := (0 : Int32)) hx hb dX1_canSit_96 (by decide) ?_
        exact yb_retz hfin (by decide) hf hw dX1_canSit_97
      · have hf := yb_neg c_21 hf
        refine lv_aload hx hb dX1_canSit_62 (lv_at hl 2 rfl) ?_
        refine lv_iload hx hb dX1_canSit_64 (lv_at hl 1 rfl) ?_
        refine lv_iload_n hx hb dX1_canSit_66 rfl (lv_at hl 6 rfl) ?_
        refine lv_iadd hx hb dX1_canSit_67 ?_
        refine lv_iconst (v := (1 : Int32)) hx hb dX1_canSit_68 (by decide) ?_
        refine lv_isub hx hb dX1_canSit_69 ?_
        obtain ⟨r_22, I_23, J_24, hq_25, hf⟩ := yb_b3_some hf
        refine x_calli X hK hw (c9_sits l D cz ev hC (st_town (cw_now hC)) hq_25) (st_town (cw_now hC)).1.1 (st_town (cw_now hC)).1.2 cpX9.1 vw_X1_49 ⟨Nat.le_of_ble_eq_true rfl, Nat.le_of_ble_eq_true rfl⟩ rfl rfl (Nat.le_of_ble_eq_true rfl) hl.1 ⟨Nat.le_refl _, Nat.le_refl _⟩ dX1_canSit_70 (fun H locs hw => ?_)
        refine lv_if_eq (tgt := 96) hx hb dX1_canSit_73 (by decide) (fun c_26 => ?_) (fun c_26 => ?_)
        · have hf := yb_pos c_26 hf
          refine lv_iconst (v := (0 : Int32)) hx hb dX1_canSit_96 (by decide) ?_
          exact yb_retz hfin (by decide) hf hw dX1_canSit_97
        · have hf := yb_neg c_26 hf
          refine lv_iload hx hb dX1_canSit_76 (lv_at hl 0 rfl) ?_
          refine lv_aload hx hb dX1_canSit_78 (lv_at hl 2 rfl) ?_
          refine x_getI X hK hw (st_town (cw_now hC)).1.1 (st_town (cw_now hC)).1.2 cpX9 10 (by decide) rfl tw_230 dX1_canSit_80 ?_
          refine lv_icmp_ge (tgt := 96) hx hb dX1_canSit_83 (by decide) (fun c_27 => ?_) (fun c_27 => ?_)
          · have hf := yb_pos c_27 hf
            refine lv_iconst (v := (0 : Int32)) hx hb dX1_canSit_96 (by decide) ?_
            exact yb_retz hfin (by decide) hf hw dX1_canSit_97
          · have hf := yb_neg c_27 hf
            refine lv_iload hx hb dX1_canSit_86 (lv_at hl 0 rfl) ?_
            refine lv_iload_n hx hb dX1_canSit_88 rfl (lv_at hl 6 rfl) ?_
            refine lv_icmp_lt (tgt := 96) hx hb dX1_canSit_89 (by decide) (fun c_28 => ?_) (fun c_28 => ?_)
            · have hf := yb_pos c_28 hf
              refine lv_iconst (v := (0 : Int32)) hx hb dX1_canSit_96 (by decide) ?_
              exact yb_retz hfin (by decide) hf hw dX1_canSit_97
            · have hf := yb_neg c_28 hf
              refine lv_iconst (v := (1 : Int32)) hx hb dX1_canSit_92 (by decide) ?_
              refine lv_goto (tgt := 97) hx hb dX1_canSit_93 (by decide) ?_
              exact yb_retz hfin (by decide) hf hw dX1_canSit_97
    · have hf := yb_neg c_10 hf
      refine lv_iconst (v := (0 : Int32)) hx hb dX1_canSit_29 (by decide) ?_
      exact yb_retz hfin (by decide) hf hw dX1_canSit_30
set_option maxHeartbeats 4000000 in
set_option maxRecDepth 100000 in
theorem c1_canHear (l : Launch) (D : va_G) (cz : Nat → ClassId) (ev : Nat × Nat × Nat) {b : Nat} {L : List Nat} {S : ST} {Rf : RT} (hC : CW b L S Rf) {x1 : Int32} {x2 : Int32} {x3 : Int32} {I : IT} {J : JT} {r : Int32} {I1 : IT} {J1 : JT} (hf : f1_canHear b S Rf x1 x2 x3 I J = some (r, I1, J1)) : MTi l D cz ev yX1_canHear cX1_canHear 5 (some .boolean) 2 49 [.ref (b + 30), .int x1, .int x2, .int x3] L S Rf I J r I1 J1 := by
  unfold f1_canHear at hf
  refine MTz_of (by decide) (Nat.le_of_ble_eq_true rfl) ?_
  intro p e s m args below meth c Q ls X hK hw hl hfin
  have X : CallFix p m c cX1_canHear 5 s args gw RX1 := X
  have hx := X.1
  have hb := X.2.1
  have hl : lv_has ls 5 [(0, .ref (b + 30)), (1, .int x1), (2, .int x2), (3, .int x3)] := hl
  refine lv_aload_n hx hb dX1_canHear_0 rfl (lv_at hl 0 rfl) ?_
  refine x_getR X hK hw (cw_mem hC 30 (by decide)) (cw_S hC 30 rfl) cpX1 0 (by decide) rfl (cw_R hC 30 0 (by decide) rfl) tw_405 dX1_canHear_1 ?_
  refine x_getR X hK hw (cw_now hC).1.1 (cw_now hC).1.2 cpX8 0 (by decide) rfl (cw_now hC).2.1.1 tw_343 dX1_canHear_4 ?_
  refine lv_astore (lv' := [(4, .ref (b + 5)), (0, .ref (b + 30)), (1, .int x1), (2, .int x2), (3, .int x3)]) hx hb dX1_canHear_7 hl (by decide) rfl (fun ls hl => ?_)
  refine lv_iload_n hx hb dX1_canHear_9 rfl (lv_at hl 4 rfl) ?_
  refine lv_aload hx hb dX1_canHear_10 (lv_at hl 0 rfl) ?_
  refine x_getR X hK hw (st_town (cw_now hC)).1.1 (st_town (cw_now hC)).1.2 cpX9 7 (by decide) rfl (ta_R (st_town (cw_now hC)) 7 (by decide)) tw_220 dX1_canHear_12 ?_
  refine lv_iload_n hx hb dX1_canHear_15 rfl (lv_at hl 2 rfl) ?_
  obtain ⟨hi_1, hf⟩ := yb_ck_some hf
  refine x_iald X hK hw (ta_mem (st_town (cw_now hC)) 7 (by decide)) (ta_S (st_town (cw_now hC)) 7 rfl) hi_1 rfl dX1_canHear_16 ?_
  refine lv_icmp_lt (tgt := 47) hx hb dX1_canHear_17 (by decide) (fun c_2 => ?_) (fun c_2 => ?_)
  · have hf := yb_pos c_2 hf
    refine lv_iconst (v := (0 : Int32)) hx hb dX1_canHear_47 (by decide) ?_
    exact yb_retz hfin (by decide) hf hw dX1_canHear_48
  · have hf := yb_neg c_2 hf
    refine lv_aload_n hx hb dX1_canHear_20 rfl (lv_at hl 1 rfl) ?_
    refine lv_iload_n hx hb dX1_canHear_21 rfl (lv_at hl 3 rfl) ?_
    refine lv_aload hx hb dX1_canHear_22 (lv_at hl 0 rfl) ?_
    refine x_getR X hK hw (st_town (cw_now hC)).1.1 (st_town (cw_now hC)).1.2 cpX9 4 (by decide) rfl (ta_R (st_town (cw_now hC)) 4 (by decide)) tw_207 dX1_canHear_24 ?_
    refine lv_iload_n hx hb dX1_canHear_27 rfl (lv_at hl 2 rfl) ?_
    refine x_iald X hK hw (ta_mem (st_town (cw_now hC)) 4 (by decide)) (ta_S (st_town (cw_now hC)) 4 rfl) hi_1 rfl dX1_canHear_28 ?_
    refine lv_aload hx hb dX1_canHear_29 (lv_at hl 0 rfl) ?_
    refine x_getR X hK hw (st_town (cw_now hC)).1.1 (st_town (cw_now hC)).1.2 cpX9 6 (by decide) rfl (ta_R (st_town (cw_now hC)) 6 (by decide)) tw_215 dX1_canHear_31 ?_
    refine lv_iload_n hx hb dX1_canHear_34 rfl (lv_at hl 2 rfl) ?_
    refine x_iald X hK hw (ta_mem (st_town (cw_now hC)) 6 (by decide)) (ta_S (st_town (cw_now hC)) 6 rfl) hi_1 rfl dX1_canHear_35 ?_
    refine lv_iload_n hx hb dX1_canHear_36 rfl (lv_at hl 4 rfl) ?_
    obtain ⟨r_3, I_4, J_5, hq_6, hf⟩ := yb_b3_some hf
    refine x_calli X hK hw (c1_canSit l D cz ev hC hq_6) (cw_mem hC 30 (by decide)) (cw_S hC 30 rfl) cpX1.1 vw_X1_66 ⟨Nat.le_of_ble_eq_true rfl, Nat.le_of_ble_eq_true rfl⟩ rfl rfl (Nat.le_of_ble_eq_true rfl) hl.1 ⟨Nat.le_refl _, Nat.le_refl _⟩ dX1_canHear_37 (fun H locs hw => ?_)
    refine lv_if_eq (tgt := 47) hx hb dX1_canHear_40 (by decide) (fun c_7 => ?_) (fun c_7 => ?_)
    · have hf := yb_pos c_7 hf
      refine lv_iconst (v := (0 : Int32)) hx hb dX1_canHear_47 (by decide) ?_
      exact yb_retz hfin (by decide) hf hw dX1_canHear_48
    · have hf := yb_neg c_7 hf
      refine lv_iconst (v := (1 : Int32)) hx hb dX1_canHear_43 (by decide) ?_
      refine lv_goto (tgt := 48) hx hb dX1_canHear_44 (by decide) ?_
      exact yb_retz hfin (by decide) hf hw dX1_canHear_48
set_option maxHeartbeats 4000000 in
set_option maxRecDepth 100000 in
theorem c1_mayHear (l : Launch) (D : va_G) (cz : Nat → ClassId) (ev : Nat × Nat × Nat) {b : Nat} {L : List Nat} {S : ST} {Rf : RT} (hC : CW b L S Rf) {N : Nat} {x1 : Int32} {x2 : Int32} {I : IT} {J : JT} {r : Int32} {I1 : IT} {J1 : JT} (hf : f1_mayHear N b S Rf x1 x2 I J = some (r, I1, J1)) : MTi l D cz ev yX1_mayHear cX1_mayHear 5 (some .boolean) 3 73 [.ref (b + 30), .int x1, .int x2] L S Rf I J r I1 J1 := by
  unfold f1_mayHear at hf
  refine MTz_of (by decide) (Nat.le_of_ble_eq_true rfl) ?_
  intro p e s m args below meth c Q ls X hK hw hl hfin
  have X : CallFix p m c cX1_mayHear 5 s args gw RX1 := X
  have hx := X.1
  have hb := X.2.1
  have hl : lv_has ls 5 [(0, .ref (b + 30)), (1, .int x1), (2, .int x2)] := hl
  refine lv_aload_n hx hb dX1_mayHear_0 rfl (lv_at hl 0 rfl) ?_
  refine x_getR X hK hw (cw_mem hC 30 (by decide)) (cw_S hC 30 rfl) cpX1 0 (by decide) rfl (cw_R hC 30 0 (by decide) rfl) tw_405 dX1_mayHear_1 ?_
  refine x_getR X hK hw (cw_now hC).1.1 (cw_now hC).1.2 cpX8 1 (by decide) rfl (cw_now hC).2.2.1.1 tw_350 dX1_mayHear_4 ?_
  refine lv_astore_n (lv' := [(3, .ref (b + 14)), (0, .ref (b + 30)), (1, .int x1), (2, .int x2)]) hx hb dX1_mayHear_7 rfl hl (by decide) rfl (fun ls hl => ?_)
  refine lv_aload_n hx hb dX1_mayHear_8 rfl (lv_at hl 0 rfl) ?_
  refine x_getR X hK hw (st_course (cw_now hC)).1.1 (st_course (cw_now hC)).1.2 cpX0 2 (by decide) rfl (ca_R (st_course (cw_now hC)) 2 (by decide)) tw_296 dX1_mayHear_9 ?_
  refine lv_iload_n hx hb dX1_mayHear_12 rfl (lv_at hl 2 rfl) ?_
  obtain ⟨hi_1, hf⟩ := yb_ck_some hf
  refine x_iald X hK hw (ca_mem (st_course (cw_now hC)) 2 (by decide)) (ca_S (st_course (cw_now hC)) 2 rfl) hi_1 rfl dX1_mayHear_13 ?_
  refine lv_if_ge (tgt := 38) hx hb dX1_mayHear_14 (by decide) (fun c_2 => ?_) (fun c_2 => ?_)
  · have hf := yb_pos c_2 hf
    refine lv_iconst (v := (0 : Int32)) hx hb dX1_mayHear_38 (by decide) ?_
    exact yb_retz hfin (by decide) hf hw dX1_mayHear_39
  · have hf := yb_neg c_2 hf
    refine lv_aload_n hx hb dX1_mayHear_17 rfl (lv_at hl 0 rfl) ?_
    refine lv_iload_n hx hb dX1_mayHear_18 rfl (lv_at hl 3 rfl) ?_
    obtain ⟨r_3, I_4, J_5, hq_6, hf⟩ := yb_b3_some hf
    refine x_calli X hK hw (c0_heardBy l D cz ev hC (st_course (cw_now hC)) hq_6) (st_course (cw_now hC)).1.1 (st_course (cw_now hC)).1.2 cpX0.1 vw_X1_79 ⟨Nat.le_of_ble_eq_true rfl, Nat.le_of_ble_eq_true rfl⟩ rfl rfl (Nat.le_of_ble_eq_true rfl) hl.1 ⟨Nat.le_refl _, Nat.le_refl _⟩ dX1_mayHear_19 (fun H locs hw => ?_)
    refine lv_if_ge (tgt := 38) hx hb dX1_mayHear_22 (by decide) (fun c_7 => ?_) (fun c_7 => ?_)
    · have hf := yb_pos c_7 hf
      refine lv_iconst (v := (0 : Int32)) hx hb dX1_mayHear_38 (by decide) ?_
      exact yb_retz hfin (by decide) hf hw dX1_mayHear_39
    · have hf := yb_neg c_7 hf
      refine lv_aload_n hx hb dX1_mayHear_25 rfl (lv_at hl 1 rfl) ?_
      refine lv_iload_n hx hb dX1_mayHear_26 rfl (lv_at hl 2 rfl) ?_
      refine lv_iload_n hx hb dX1_mayHear_27 rfl (lv_at hl 3 rfl) ?_
      refine lv_aload_n hx hb dX1_mayHear_28 rfl (lv_at hl 0 rfl) ?_
      refine x_getI X hK hw (st_course (cw_now hC)).1.1 (st_course (cw_now hC)).1.2 cpX0 9 (by decide) rfl tw_318 dX1_mayHear_29 ?_
      obtain ⟨r_8, I_9, J_10, hq_11, hf⟩ := yb_b3_some hf
      refine x_calli X hK hw (c1_canHear l D cz ev hC hq_11) (cw_mem hC 30 (by decide)) (cw_S hC 30 rfl) cpX1.1 vw_X1_85 ⟨Nat.le_of_ble_eq_true rfl, Nat.le_of_ble_eq_true rfl⟩ rfl rfl (Nat.le_of_ble_eq_true rfl) hl.1 ⟨Nat.le_refl _, Nat.le_refl _⟩ dX1_mayHear_32 (fun H locs hw => ?_)
      refine lv_if_ne (tgt := 40) hx hb dX1_mayHear_35 (by decide) (fun c_12 => ?_) (fun c_12 => ?_)
      · have hf := yb_neg c_12 hf
        refine lv_aload_n hx hb dX1_mayHear_40 rfl (lv_at hl 0 rfl) ?_
        refine x_getR X hK hw (st_course (cw_now hC)).1.1 (st_course (cw_now hC)).1.2 cpX0 5 (by decide) rfl (ca_R (st_course (cw_now hC)) 5 (by decide)) tw_307 dX1_mayHear_41 ?_
        refine lv_iload_n hx hb dX1_mayHear_44 rfl (lv_at hl 2 rfl) ?_
        refine x_iald X hK hw (ca_mem (st_course (cw_now hC)) 5 (by decide)) (ca_S (st_course (cw_now hC)) 5 rfl) hi_1 rfl dX1_mayHear_45 ?_
        refine lv_topi (fun x4_13 ex4_13 => ?_)
        have hf := yb_let_to ex4_13 hf
        refine lv_istore (lv' := [(4, .int x4_13), (3, .ref (b + 14)), (0, .ref (b + 30)), (1, .int x1), (2, .int x2)]) hx hb dX1_mayHear_46 hl (by decide) rfl (fun ls hl => ?_)
        refine lv_iload hx hb dX1_mayHear_48 (lv_at hl 0 rfl) ?_
        refine lv_if_lt (tgt := 69) hx hb dX1_mayHear_50 (by decide) (fun c_14 => ?_) (fun c_14 => ?_)
        · have hf := yb_pos c_14 hf
          refine lv_iconst (v := (1 : Int32)) hx hb dX1_mayHear_69 (by decide) ?_
          refine lv_goto (tgt := 74) hx hb dX1_mayHear_70 (by decide) ?_
          exact yb_retz hfin (by decide) hf hw dX1_mayHear_74
        · have hf := yb_neg c_14 hf
          refine lv_aload_n hx hb dX1_mayHear_53 rfl (lv_at hl 2 rfl) ?_
          refine x_getR X hK hw (cw_mem hC 30 (by decide)) (cw_S hC 30 rfl) cpX1 0 (by decide) rfl (cw_R hC 30 0 (by decide) rfl) tw_405 dX1_mayHear_54 ?_
          refine x_getR X hK hw (cw_now hC).1.1 (cw_now hC).1.2 cpX8 0 (by decide) rfl (cw_now hC).2.1.1 tw_343 dX1_mayHear_57 ?_
          refine lv_iload_n hx hb dX1_mayHear_60 rfl (lv_at hl 4 rfl) ?_
          refine lv_iload hx hb dX1_mayHear_61 (lv_at hl 0 rfl) ?_
          obtain ⟨r_15, I_16, J_17, hq_18, hf⟩ := yb_b3_some hf
          refine x_calli X hK hw (c9_isYounger l D cz ev hC (st_town (cw_now hC)) hq_18) (st_town (cw_now hC)).1.1 (st_town (cw_now hC)).1.2 cpX9.1 vw_X1_32 ⟨Nat.le_of_ble_eq_true rfl, Nat.le_of_ble_eq_true rfl⟩ rfl rfl (Nat.le_of_ble_eq_true rfl) hl.1 ⟨Nat.le_refl _, Nat.le_refl _⟩ dX1_mayHear_63 (fun H locs hw => ?_)
          refine lv_if_eq (tgt := 73) hx hb dX1_mayHear_66 (by decide) (fun c_19 => ?_) (fun c_19 => ?_)
          · have hf := yb_pos c_19 hf
            refine lv_iconst (v := (0 : Int32)) hx hb dX1_mayHear_73 (by decide) ?_
            exact yb_retz hfin (by decide) hf hw dX1_mayHear_74
          · have hf := yb_neg c_19 hf
            refine lv_iconst (v := (1 : Int32)) hx hb dX1_mayHear_69 (by decide) ?_
            refine lv_goto (tgt := 74) hx hb dX1_mayHear_70 (by decide) ?_
            exact yb_retz hfin (by decide) hf hw dX1_mayHear_74
      · have hf := yb_pos c_12 hf
        refine lv_iconst (v := (0 : Int32)) hx hb dX1_mayHear_38 (by decide) ?_
        exact yb_retz hfin (by decide) hf hw dX1_mayHear_39
set_option maxHeartbeats 4000000 in
set_option maxRecDepth 100000 in
theorem c1_charge (l : Launch) (D : va_G) (cz : Nat → ClassId) (ev : Nat × Nat × Nat) {b : Nat} {L : List Nat} {S : ST} {Rf : RT} (hC : CW b L S Rf) {x1 : Int32} {x2 : Int32} {x3 : Int32} {x4 : Int32} {I : IT} {J : JT} {r : Unit} {I1 : IT} {J1 : JT} (hf : f1_charge b S Rf x1 x2 x3 x4 I J = some (r, I1, J1)) : MTv l D cz ev yX1_charge cX1_charge 5 (none) 0 0 [.ref (b + 30), .int x1, .int x2, .int x3, .int x4] L S Rf I J r I1 J1 := by
  unfold f1_charge at hf
  refine MTv_of (by decide) (Nat.le_of_ble_eq_true rfl) ?_
  intro p e s m args below meth c Q ls X hK hw hl hfin
  have X : CallFix p m c cX1_charge 5 s args gw RX1 := X
  have hx := X.1
  have hb := X.2.1
  have hl : lv_has ls 5 [(0, .ref (b + 30)), (1, .int x1), (2, .int x2), (3, .int x3), (4, .int x4)] := hl
  refine lv_aload_n hx hb dX1_charge_0 rfl (lv_at hl 0 rfl) ?_
  refine x_getR X hK hw (cw_mem hC 30 (by decide)) (cw_S hC 30 rfl) cpX1 2 (by decide) rfl (cw_R hC 30 2 (by decide) rfl) tw_409 dX1_charge_1 ?_
  refine lv_iconst (v := (4 : Int32)) hx hb dX1_charge_4 (by decide) ?_
  refine lv_iload_n hx hb dX1_charge_5 rfl (lv_at hl 1 rfl) ?_
  refine lv_i2l hx hb dX1_charge_6 rfl ?_
  refine x_last X hK hw (cw_mem hC 31 (by decide)) (cw_S hC 31 rfl) (by decide) rfl dX1_charge_7 (fun H locs hw => ?_)
  obtain ⟨J_1, eJ_1, hf⟩ := yb_let_ex hf
  have hw := yb_wJ eJ_1 hw
  refine lv_aload_n hx hb dX1_charge_8 rfl (lv_at hl 0 rfl) ?_
  refine x_getR X hK hw (cw_mem hC 30 (by decide)) (cw_S hC 30 rfl) cpX1 2 (by decide) rfl (cw_R hC 30 2 (by decide) rfl) tw_409 dX1_charge_9 ?_
  refine lv_iconst (v := (5 : Int32)) hx hb dX1_charge_12 (by decide) ?_
  refine lv_iload_n hx hb dX1_charge_13 rfl (lv_at hl 2 rfl) ?_
  refine lv_i2l hx hb dX1_charge_14 rfl ?_
  refine x_last X hK hw (cw_mem hC 31 (by decide)) (cw_S hC 31 rfl) (by decide) rfl dX1_charge_15 (fun H locs hw => ?_)
  obtain ⟨J_2, eJ_2, hf⟩ := yb_let_ex hf
  have hw := yb_wJ eJ_2 hw
  refine lv_aload_n hx hb dX1_charge_16 rfl (lv_at hl 0 rfl) ?_
  refine x_getR X hK hw (cw_mem hC 30 (by decide)) (cw_S hC 30 rfl) cpX1 2 (by decide) rfl (cw_R hC 30 2 (by decide) rfl) tw_409 dX1_charge_17 ?_
  refine lv_bipush (v := (6 : Int32)) hx hb dX1_charge_20 (by decide) ?_
  refine lv_iload_n hx hb dX1_charge_22 rfl (lv_at hl 3 rfl) ?_
  refine lv_i2l hx hb dX1_charge_23 rfl ?_
  refine x_last X hK hw (cw_mem hC 31 (by decide)) (cw_S hC 31 rfl) (by decide) rfl dX1_charge_24 (fun H locs hw => ?_)
  obtain ⟨J_3, eJ_3, hf⟩ := yb_let_ex hf
  have hw := yb_wJ eJ_3 hw
  refine lv_aload_n hx hb dX1_charge_25 rfl (lv_at hl 0 rfl) ?_
  refine x_getR X hK hw (cw_mem hC 30 (by decide)) (cw_S hC 30 rfl) cpX1 2 (by decide) rfl (cw_R hC 30 2 (by decide) rfl) tw_409 dX1_charge_26 ?_
  refine lv_bipush (v := (10 : Int32)) hx hb dX1_charge_29 (by decide) ?_
  refine lv_iload hx hb dX1_charge_31 (lv_at hl 4 rfl) ?_
  refine lv_i2l hx hb dX1_charge_33 rfl ?_
  refine x_last X hK hw (cw_mem hC 31 (by decide)) (cw_S hC 31 rfl) (by decide) rfl dX1_charge_34 (fun H locs hw => ?_)
  obtain ⟨J_4, eJ_4, hf⟩ := yb_let_ex hf
  have hw := yb_wJ eJ_4 hw
  exact yb_retv hfin hf hw dX1_charge_35
set_option maxHeartbeats 4000000 in
set_option maxRecDepth 100000 in
theorem c1_chargeOf (l : Launch) (D : va_G) (cz : Nat → ClassId) (ev : Nat × Nat × Nat) {b : Nat} {L : List Nat} {S : ST} {Rf : RT} (hC : CW b L S Rf) {x1 : Int32} {x2 : Int32} {I : IT} {J : JT} {r : Unit} {I1 : IT} {J1 : JT} (hf : f1_chargeOf b S Rf x1 x2 I J = some (r, I1, J1)) : MTv l D cz ev yX1_chargeOf cX1_chargeOf 4 (none) 1 24 [.ref (b + 30), .int x1, .int x2] L S Rf I J r I1 J1 := by
  unfold f1_chargeOf at hf
  refine MTv_of (by decide) (Nat.le_of_ble_eq_true rfl) ?_
  intro p e s m args below meth c Q ls X hK hw hl hfin
  have X : CallFix p m c cX1_chargeOf 4 s args gw RX1 := X
  have hx := X.1
  have hb := X.2.1
  have hl : lv_has ls 4 [(0, .ref (b + 30)), (1, .int x1), (2, .int x2)] := hl
  refine lv_aload_n hx hb dX1_chargeOf_0 rfl (lv_at hl 0 rfl) ?_
  refine x_getR X hK hw (cw_mem hC 30 (by decide)) (cw_S hC 30 rfl) cpX1 0 (by decide) rfl (cw_R hC 30 0 (by decide) rfl) tw_405 dX1_chargeOf_1 ?_
  refine x_getR X hK hw (cw_now hC).1.1 (cw_now hC).1.2 cpX8 0 (by decide) rfl (cw_now hC).2.1.1 tw_343 dX1_chargeOf_4 ?_
  refine lv_astore_n (lv' := [(3, .ref (b + 5)), (0, .ref (b + 30)), (1, .int x1), (2, .int x2)]) hx hb dX1_chargeOf_7 rfl hl (by decide) rfl (fun ls hl => ?_)
  refine lv_aload_n hx hb dX1_chargeOf_8 rfl (lv_at hl 1 rfl) ?_
  refine lv_aload_n hx hb dX1_chargeOf_9 rfl (lv_at hl 0 rfl) ?_
  refine x_getR X hK hw (st_town (cw_now hC)).1.1 (st_town (cw_now hC)).1.2 cpX9 4 (by decide) rfl (ta_R (st_town (cw_now hC)) 4 (by decide)) tw_207 dX1_chargeOf_10 ?_
  refine lv_iload_n hx hb dX1_chargeOf_13 rfl (lv_at hl 2 rfl) ?_
  obtain ⟨hi_1, hf⟩ := yb_ck_some hf
  refine x_iald X hK hw (ta_mem (st_town (cw_now hC)) 4 (by decide)) (ta_S (st_town (cw_now hC)) 4 rfl) hi_1 rfl dX1_chargeOf_14 ?_
  refine lv_aload_n hx hb dX1_chargeOf_15 rfl (lv_at hl 0 rfl) ?_
  refine x_getR X hK hw (st_town (cw_now hC)).1.1 (st_town (cw_now hC)).1.2 cpX9 5 (by decide) rfl (ta_R (st_town (cw_now hC)) 5 (by decide)) tw_211 dX1_chargeOf_16 ?_
  refine lv_iload_n hx hb dX1_chargeOf_19 rfl (lv_at hl 2 rfl) ?_
  refine x_iald X hK hw (ta_mem (st_town (cw_now hC)) 5 (by decide)) (ta_S (st_town (cw_now hC)) 5 rfl) hi_1 rfl dX1_chargeOf_20 ?_
  refine lv_aload_n hx hb dX1_chargeOf_21 rfl (lv_at hl 0 rfl) ?_
  refine x_getR X hK hw (st_town (cw_now hC)).1.1 (st_town (cw_now hC)).1.2 cpX9 6 (by decide) rfl (ta_R (st_town (cw_now hC)) 6 (by decide)) tw_215 dX1_chargeOf_22 ?_
  refine lv_iload_n hx hb dX1_chargeOf_25 rfl (lv_at hl 2 rfl) ?_
  refine x_iald X hK hw (ta_mem (st_town (cw_now hC)) 6 (by decide)) (ta_S (st_town (cw_now hC)) 6 rfl) hi_1 rfl dX1_chargeOf_26 ?_
  refine lv_iload_n hx hb dX1_chargeOf_27 rfl (lv_at hl 3 rfl) ?_
  obtain ⟨r_2, I_3, J_4, hq_5, hf⟩ := yb_b3_some hf
  refine x_callv X hK hw (c1_charge l D cz ev hC hq_5) (cw_mem hC 30 (by decide)) (cw_S hC 30 rfl) cpX1.1 vw_X1_105 ⟨Nat.le_of_ble_eq_true rfl, Nat.le_of_ble_eq_true rfl⟩ rfl rfl (Nat.le_of_ble_eq_true rfl) hl.1 ⟨Nat.le_refl _, Nat.le_refl _⟩ dX1_chargeOf_28 (fun H locs hw => ?_)
  exact yb_retv hfin hf hw dX1_chargeOf_31
set_option maxHeartbeats 4000000 in
set_option maxRecDepth 100000 in
theorem c9_hasPerson (l : Launch) (D : va_G) (cz : Nat → ClassId) (ev : Nat × Nat × Nat) {b : Nat} {L : List Nat} {S : ST} {Rf : RT} (hC : CW b L S Rf) {t0 : Nat} (h0 : TownAt L S Rf t0) {x1 : Int32} {I : IT} {J : JT} {r : Int32} {I1 : IT} {J1 : JT} (hf : f9_hasPerson b S Rf t0 x1 I J = some (r, I1, J1)) : MTi l D cz ev yX9_hasPerson cX9_hasPerson 2 (some .boolean) 0 0 [.ref t0, .int x1] L S Rf I J r I1 J1 := by
  unfold f9_hasPerson at hf
  refine MTz_of (by decide) (Nat.le_of_ble_eq_true rfl) ?_
  intro p e s m args below meth c Q ls X hK hw hl hfin
  have X : CallFix p m c cX9_hasPerson 2 s args gw RX9 := X
  have hx := X.1
  have hb := X.2.1
  have hl : lv_has ls 2 [(0, .ref t0), (1, .int x1)] := hl
  refine lv_iload_n hx hb dX9_hasPerson_0 rfl (lv_at hl 1 rfl) ?_
  refine lv_if_lt (tgt := 16) hx hb dX9_hasPerson_1 (by decide) (fun c_1 => ?_) (fun c_1 => ?_)
  · have hf := yb_pos c_1 hf
    refine lv_iconst (v := (0 : Int32)) hx hb dX9_hasPerson_16 (by decide) ?_
    exact yb_retz hfin (by decide) hf hw dX9_hasPerson_17
  · have hf := yb_neg c_1 hf
    refine lv_iload_n hx hb dX9_hasPerson_4 rfl (lv_at hl 1 rfl) ?_
    refine lv_aload_n hx hb dX9_hasPerson_5 rfl (lv_at hl 0 rfl) ?_
    refine x_getI X hK hw h0.1.1 h0.1.2 cpX9 13 (by decide) rfl tw_239 dX9_hasPerson_6 ?_
    refine lv_icmp_ge (tgt := 16) hx hb dX9_hasPerson_9 (by decide) (fun c_2 => ?_) (fun c_2 => ?_)
    · have hf := yb_pos c_2 hf
      refine lv_iconst (v := (0 : Int32)) hx hb dX9_hasPerson_16 (by decide) ?_
      exact yb_retz hfin (by decide) hf hw dX9_hasPerson_17
    · have hf := yb_neg c_2 hf
      refine lv_iconst (v := (1 : Int32)) hx hb dX9_hasPerson_12 (by decide) ?_
      refine lv_goto (tgt := 17) hx hb dX9_hasPerson_13 (by decide) ?_
      exact yb_retz hfin (by decide) hf hw dX9_hasPerson_17
set_option maxHeartbeats 4000000 in
set_option maxRecDepth 100000 in
theorem c1_nameJudge (l : Launch) (D : va_G) (cz : Nat → ClassId) (ev : Nat × Nat × Nat) {b : Nat} {L : List Nat} {S : ST} {Rf : RT} (hC : CW b L S Rf) {x1 : Int32} {x2 : Int32} {x3 : Int32} {I : IT} {J : JT} {r : Unit} {I1 : IT} {J1 : JT} (hf : f1_nameJudge b S Rf x1 x2 x3 I J = some (r, I1, J1)) : MTv l D cz ev yX1_nameJudge cX1_nameJudge 7 (none) 1 21 [.ref (b + 30), .int x1, .int x2, .int x3] L S Rf I J r I1 J1 := by
  unfold f1_nameJudge at hf
  refine MTv_of (by decide) (Nat.le_of_ble_eq_true rfl) ?_
  intro p e s m args below meth c Q ls X hK hw hl hfin
  have X : CallFix p m c cX1_nameJudge 7 s args gw RX1 := X
  have hx := X.1
  have hb := X.2.1
  have hl : lv_has ls 7 [(0, .ref (b + 30)), (1, .int x1), (2, .int x2), (3, .int x3)] := hl
  refine lv_aload_n hx hb dX1_nameJudge_0 rfl (lv_at hl 0 rfl) ?_
  refine x_getR X hK hw (cw_mem hC 30 (by decide)) (cw_S hC 30 rfl) cpX1 0 (by decide) rfl (cw_R hC 30 0 (by decide) rfl) tw_405 dX1_nameJudge_1 ?_
  refine x_getR X hK hw (cw_now hC).1.1 (cw_now hC).1.2 cpX8 0 (by decide) rfl (cw_now hC).2.1.1 tw_343 dX1_nameJudge_4 ?_
  refine lv_astore (lv' := [(4, .ref (b + 5)), (0, .ref (b + 30)), (1, .int x1), (2, .int x2), (3, .int x3)]) hx hb dX1_nameJudge_7 hl (by decide) rfl (fun ls hl => ?_)
  refine lv_aload hx hb dX1_nameJudge_9 (lv_at hl 0 rfl) ?_
  refine x_getR X hK hw (st_town (cw_now hC)).1.1 (st_town (cw_now hC)).1.2 cpX9 0 (by decide) rfl (ta_R (st_town (cw_now hC)) 0 (by decide)) tw_191 dX1_nameJudge_11 ?_
  refine lv_iload_n hx hb dX1_nameJudge_14 rfl (lv_at hl 2 rfl) ?_
  obtain ⟨hi_1, hf⟩ := yb_ck_some hf
  refine x_iald X hK hw (ta_mem (st_town (cw_now hC)) 0 (by decide)) (ta_S (st_town (cw_now hC)) 0 rfl) hi_1 rfl dX1_nameJudge_15 ?_
  refine lv_iload_n hx hb dX1_nameJudge_16 rfl (lv_at hl 3 rfl) ?_
  refine lv_iadd hx hb dX1_nameJudge_17 ?_
  refine lv_topi (fun x5_2 ex5_2 => ?_)
  have hf := yb_let_to ex5_2 hf
  refine lv_istore (lv' := [(5, .int x5_2), (4, .ref (b + 5)), (0, .ref (b + 30)), (1, .int x1), (2, .int x2), (3, .int x3)]) hx hb dX1_nameJudge_18 hl (by decide) rfl (fun ls hl => ?_)
  refine lv_aload_n hx hb dX1_nameJudge_20 rfl (lv_at hl 2 rfl) ?_
  refine x_getR X hK hw (cw_mem hC 30 (by decide)) (cw_S hC 30 rfl) cpX1 2 (by decide) rfl (cw_R hC 30 2 (by decide) rfl) tw_409 dX1_nameJudge_21 ?_
  refine lv_iconst (v := (4 : Int32)) hx hb dX1_nameJudge_24 (by decide) ?_
  refine x_lald X hK hw (cw_mem hC 31 (by decide)) (cw_S hC 31 rfl) (by decide) rfl dX1_nameJudge_25 ?_
  refine lv_l2i hx hb dX1_nameJudge_26 rfl ?_
  refine lv_topi (fun x6_3 ex6_3 => ?_)
  have hf := yb_let_to ex6_3 hf
  refine lv_istore (lv' := [(6, .int x6_3), (5, .int x5_2), (4, .ref (b + 5)), (0, .ref (b + 30)), (1, .int x1), (2, .int x2), (3, .int x3)]) hx hb dX1_nameJudge_27 hl (by decide) rfl (fun ls hl => ?_)
  refine lv_aload_n hx hb dX1_nameJudge_29 rfl (lv_at hl 3 rfl) ?_
  refine x_getR X hK hw (cw_mem hC 30 (by decide)) (cw_S hC 30 rfl) cpX1 2 (by decide) rfl (cw_R hC 30 2 (by decide) rfl) tw_409 dX1_nameJudge_30 ?_
  refine lv_iconst (v := (0 : Int32)) hx hb dX1_nameJudge_33 (by decide) ?_
  refine lv_iload_n hx hb dX1_nameJudge_34 rfl (lv_at hl 4 rfl) ?_
  refine lv_i2l hx hb dX1_nameJudge_35 rfl ?_
  refine x_last X hK hw (cw_mem hC 31 (by decide)) (cw_S hC 31 rfl) (by decide) rfl dX1_nameJudge_36 (fun H locs hw => ?_)
  obtain ⟨J_4, eJ_4, hf⟩ := yb_let_ex hf
  have hw := yb_wJ eJ_4 hw
  refine lv_aload_n hx hb dX1_nameJudge_37 rfl (lv_at hl 3 rfl) ?_
  refine x_getR X hK hw (cw_mem hC 30 (by decide)) (cw_S hC 30 rfl) cpX1 2 (by decide) rfl (cw_R hC 30 2 (by decide) rfl) tw_409 dX1_nameJudge_38 ?_
  refine lv_iconst (v := (1 : Int32)) hx hb dX1_nameJudge_41 (by decide) ?_
  refine lv_aload_n hx hb dX1_nameJudge_42 rfl (lv_at hl 3 rfl) ?_
  refine x_getR X hK hw (cw_mem hC 30 (by decide)) (cw_S hC 30 rfl) cpX1 0 (by decide) rfl (cw_R hC 30 0 (by decide) rfl) tw_405 dX1_nameJudge_43 ?_
  refine x_getR X hK hw (cw_now hC).1.1 (cw_now hC).1.2 cpX8 1 (by decide) rfl (cw_now hC).2.2.1.1 tw_350 dX1_nameJudge_46 ?_
  refine x_getR X hK hw (st_course (cw_now hC)).1.1 (st_course (cw_now hC)).1.2 cpX0 0 (by decide) rfl (ca_R (st_course (cw_now hC)) 0 (by decide)) tw_289 dX1_nameJudge_49 ?_
  refine lv_iload_n hx hb dX1_nameJudge_52 rfl (lv_at hl 4 rfl) ?_
  refine x_iald X hK hw (ca_mem (st_course (cw_now hC)) 0 (by decide)) (ca_S (st_course (cw_now hC)) 0 rfl) hi_1 rfl dX1_nameJudge_53 ?_
  refine lv_i2l hx hb dX1_nameJudge_54 rfl ?_
  refine x_last X hK hw (cw_mem hC 31 (by decide)) (cw_S hC 31 rfl) (by decide) rfl dX1_nameJudge_55 (fun H locs hw => ?_)
  obtain ⟨J_5, eJ_5, hf⟩ := yb_let_ex hf
  have hw := yb_wJ eJ_5 hw
  refine lv_aload_n hx hb dX1_nameJudge_56 rfl (lv_at hl 3 rfl) ?_
  refine x_getR X hK hw (cw_mem hC 30 (by decide)) (cw_S hC 30 rfl) cpX1 2 (by decide) rfl (cw_R hC 30 2 (by decide) rfl) tw_409 dX1_nameJudge_57 ?_
  refine lv_iconst (v := (2 : Int32)) hx hb dX1_nameJudge_60 (by decide) ?_
  refine lv_iload hx hb dX1_nameJudge_61 (lv_at hl 1 rfl) ?_
  refine lv_i2l hx hb dX1_nameJudge_63 rfl ?_
  refine x_last X hK hw (cw_mem hC 31 (by decide)) (cw_S hC 31 rfl) (by decide) rfl dX1_nameJudge_64 (fun H locs hw => ?_)
  obtain ⟨J_6, eJ_6, hf⟩ := yb_let_ex hf
  have hw := yb_wJ eJ_6 hw
  refine lv_aload_n hx hb dX1_nameJudge_65 rfl (lv_at hl 3 rfl) ?_
  refine x_getR X hK hw (cw_mem hC 30 (by decide)) (cw_S hC 30 rfl) cpX1 2 (by decide) rfl (cw_R hC 30 2 (by decide) rfl) tw_409 dX1_nameJudge_66 ?_
  refine lv_iconst (v := (3 : Int32)) hx hb dX1_nameJudge_69 (by decide) ?_
  refine lv_aload hx hb dX1_nameJudge_70 (lv_at hl 2 rfl) ?_
  refine x_getR X hK hw (st_town (cw_now hC)).1.1 (st_town (cw_now hC)).1.2 cpX9 2 (by decide) rfl (ta_R (st_town (cw_now hC)) 2 (by decide)) tw_201 dX1_nameJudge_72 ?_
  refine lv_iload_n hx hb dX1_nameJudge_75 rfl (lv_at hl 4 rfl) ?_
  refine x_iald X hK hw (ta_mem (st_town (cw_now hC)) 2 (by decide)) (ta_S (st_town (cw_now hC)) 2 rfl) hi_1 rfl dX1_nameJudge_76 ?_
  refine lv_i2l hx hb dX1_nameJudge_77 rfl ?_
  refine x_last X hK hw (cw_mem hC 31 (by decide)) (cw_S hC 31 rfl) (by decide) rfl dX1_nameJudge_78 (fun H locs hw => ?_)
  obtain ⟨J_7, eJ_7, hf⟩ := yb_let_ex hf
  have hw := yb_wJ eJ_7 hw
  refine lv_aload_n hx hb dX1_nameJudge_79 rfl (lv_at hl 3 rfl) ?_
  refine x_getR X hK hw (cw_mem hC 30 (by decide)) (cw_S hC 30 rfl) cpX1 2 (by decide) rfl (cw_R hC 30 2 (by decide) rfl) tw_409 dX1_nameJudge_80 ?_
  refine lv_bipush (v := (7 : Int32)) hx hb dX1_nameJudge_83 (by decide) ?_
  refine lv_aload hx hb dX1_nameJudge_85 (lv_at hl 2 rfl) ?_
  refine lv_iload hx hb dX1_nameJudge_87 (lv_at hl 0 rfl) ?_
  obtain ⟨r_8, I_9, J_10, hq_11, hf⟩ := yb_b3_some hf
  refine x_calli X hK hw (c9_hasPerson l D cz ev hC (st_town (cw_now hC)) hq_11) (st_town (cw_now hC)).1.1 (st_town (cw_now hC)).1.2 cpX9.1 vw_X1_161 ⟨Nat.le_of_ble_eq_true rfl, Nat.le_of_ble_eq_true rfl⟩ rfl rfl (Nat.le_of_ble_eq_true rfl) hl.1 ⟨Nat.le_refl _, Nat.le_refl _⟩ dX1_nameJudge_89 (fun H locs hw => ?_)
  refine lv_if_eq (tgt := 115) hx hb dX1_nameJudge_92 (by decide) (fun c_12 => ?_) (fun c_12 => ?_)
  · have hf := yb_pos c_12 hf
    refine lv_lconst (v := (0 : Int64)) hx hb dX1_nameJudge_115 (by decide) ?_
    refine x_last X hK hw (cw_mem hC 31 (by decide)) (cw_S hC 31 rfl) (by decide) rfl dX1_nameJudge_116 (fun H locs hw => ?_)
    obtain ⟨J_13, eJ_13, hf⟩ := yb_let_ex hf
    have hw := yb_wJ eJ_13 hw
    refine lv_aload_n hx hb dX1_nameJudge_117 rfl (lv_at hl 3 rfl) ?_
    refine x_getR X hK hw (cw_mem hC 30 (by decide)) (cw_S hC 30 rfl) cpX1 2 (by decide) rfl (cw_R hC 30 2 (by decide) rfl) tw_409 dX1_nameJudge_118 ?_
    refine lv_bipush (v := (8 : Int32)) hx hb dX1_nameJudge_121 (by decide) ?_
    refine lv_iload_n hx hb dX1_nameJudge_123 rfl (lv_at hl 5 rfl) ?_
    refine lv_i2l hx hb dX1_nameJudge_124 rfl ?_
    refine x_last X hK hw (cw_mem hC 31 (by decide)) (cw_S hC 31 rfl) (by decide) rfl dX1_nameJudge_125 (fun H locs hw => ?_)
    obtain ⟨J_14, eJ_14, hf⟩ := yb_let_ex hf
    have hw := yb_wJ eJ_14 hw
    refine lv_aload_n hx hb dX1_nameJudge_126 rfl (lv_at hl 3 rfl) ?_
    refine x_getR X hK hw (cw_mem hC 30 (by decide)) (cw_S hC 30 rfl) cpX1 2 (by decide) rfl (cw_R hC 30 2 (by decide) rfl) tw_409 dX1_nameJudge_127 ?_
    refine lv_bipush (v := (9 : Int32)) hx hb dX1_nameJudge_130 (by decide) ?_
    refine lv_iload_n hx hb dX1_nameJudge_132 rfl (lv_at hl 6 rfl) ?_
    refine lv_i2l hx hb dX1_nameJudge_133 rfl ?_
    refine x_last X hK hw (cw_mem hC 31 (by decide)) (cw_S hC 31 rfl) (by decide) rfl dX1_nameJudge_134 (fun H locs hw => ?_)
    obtain ⟨J_15, eJ_15, hf⟩ := yb_let_ex hf
    have hw := yb_wJ eJ_15 hw
    refine lv_aload_n hx hb dX1_nameJudge_135 rfl (lv_at hl 3 rfl) ?_
    refine x_getR X hK hw (cw_mem hC 30 (by decide)) (cw_S hC 30 rfl) cpX1 2 (by decide) rfl (cw_R hC 30 2 (by decide) rfl) tw_409 dX1_nameJudge_136 ?_
    refine lv_bipush (v := (11 : Int32)) hx hb dX1_nameJudge_139 (by decide) ?_
    refine lv_aload hx hb dX1_nameJudge_141 (lv_at hl 2 rfl) ?_
    refine lv_iload hx hb dX1_nameJudge_143 (lv_at hl 1 rfl) ?_
    obtain ⟨r_16, I_17, J_18, hq_19, hf⟩ := yb_b3_some hf
    refine x_calli X hK hw (c9_tillBirthday l D cz ev hC (st_town (cw_now hC)) hq_19) (st_town (cw_now hC)).1.1 (st_town (cw_now hC)).1.2 cpX9.1 vw_X1_45 ⟨Nat.le_of_ble_eq_true rfl, Nat.le_of_ble_eq_true rfl⟩ rfl rfl (Nat.le_of_ble_eq_true rfl) hl.1 ⟨Nat.le_refl _, Nat.le_refl _⟩ dX1_nameJudge_145 (fun H locs hw => ?_)
    refine lv_i2l hx hb dX1_nameJudge_148 rfl ?_
    refine x_last X hK hw (cw_mem hC 31 (by decide)) (cw_S hC 31 rfl) (by decide) rfl dX1_nameJudge_149 (fun H locs hw => ?_)
    obtain ⟨J_20, eJ_20, hf⟩ := yb_let_ex hf
    have hw := yb_wJ eJ_20 hw
    exact yb_retv hfin hf hw dX1_nameJudge_150
  · have hf := yb_neg c_12 hf
    refine lv_aload hx hb dX1_nameJudge_95 (lv_at hl 2 rfl) ?_
    refine x_getR X hK hw (st_town (cw_now hC)).1.1 (st_town (cw_now hC)).1.2 cpX9 0 (by decide) rfl (ta_R (st_town (cw_now hC)) 0 (by decide)) tw_191 dX1_nameJudge_97 ?_
    refine lv_iload hx hb dX1_nameJudge_100 (lv_at hl 0 rfl) ?_
    obtain ⟨hi_21, hf⟩ := yb_ck_some hf
    refine x_iald X hK hw (ta_mem (st_town (cw_now hC)) 0 (by decide)) (ta_S (st_town (cw_now hC)) 0 rfl) hi_21 rfl dX1_nameJudge_102 ?_
    refine lv_aload hx hb dX1_nameJudge_103 (lv_at hl 2 rfl) ?_
    refine x_getR X hK hw (st_town (cw_now hC)).1.1 (st_town (cw_now hC)).1.2 cpX9 0 (by decide) rfl (ta_R (st_town (cw_now hC)) 0 (by decide)) tw_191 dX1_nameJudge_105 ?_
    refine lv_iload_n hx hb dX1_nameJudge_108 rfl (lv_at hl 4 rfl) ?_
    refine x_iald X hK hw (ta_mem (st_town (cw_now hC)) 0 (by decide)) (ta_S (st_town (cw_now hC)) 0 rfl) hi_1 rfl dX1_nameJudge_109 ?_
    refine lv_isub hx hb dX1_nameJudge_110 ?_
    refine lv_i2l hx hb dX1_nameJudge_111 rfl ?_
    refine lv_goto (tgt := 116) hx hb dX1_nameJudge_112 (by decide) ?_
    refine x_last X hK hw (cw_mem hC 31 (by decide)) (cw_S hC 31 rfl) (by decide) rfl dX1_nameJudge_116 (fun H locs hw => ?_)
    obtain ⟨J_22, eJ_22, hf⟩ := yb_let_ex hf
    have hw := yb_wJ eJ_22 hw
    refine lv_aload_n hx hb dX1_nameJudge_117 rfl (lv_at hl 3 rfl) ?_
    refine x_getR X hK hw (cw_mem hC 30 (by decide)) (cw_S hC 30 rfl) cpX1 2 (by decide) rfl (cw_R hC 30 2 (by decide) rfl) tw_409 dX1_nameJudge_118 ?_
    refine lv_bipush (v := (8 : Int32)) hx hb dX1_nameJudge_121 (by decide) ?_
    refine lv_iload_n hx hb dX1_nameJudge_123 rfl (lv_at hl 5 rfl) ?_
    refine lv_i2l hx hb dX1_nameJudge_124 rfl ?_
    refine x_last X hK hw (cw_mem hC 31 (by decide)) (cw_S hC 31 rfl) (by decide) rfl dX1_nameJudge_125 (fun H locs hw => ?_)
    obtain ⟨J_23, eJ_23, hf⟩ := yb_let_ex hf
    have hw := yb_wJ eJ_23 hw
    refine lv_aload_n hx hb dX1_nameJudge_126 rfl (lv_at hl 3 rfl) ?_
    refine x_getR X hK hw (cw_mem hC 30 (by decide)) (cw_S hC 30 rfl) cpX1 2 (by decide) rfl (cw_R hC 30 2 (by decide) rfl) tw_409 dX1_nameJudge_127 ?_
    refine lv_bipush (v := (9 : Int32)) hx hb dX1_nameJudge_130 (by decide) ?_
    refine lv_iload_n hx hb dX1_nameJudge_132 rfl (lv_at hl 6 rfl) ?_
    refine lv_i2l hx hb dX1_nameJudge_133 rfl ?_
    refine x_last X hK hw (cw_mem hC 31 (by decide)) (cw_S hC 31 rfl) (by decide) rfl dX1_nameJudge_134 (fun H locs hw => ?_)
    obtain ⟨J_24, eJ_24, hf⟩ := yb_let_ex hf
    have hw := yb_wJ eJ_24 hw
    refine lv_aload_n hx hb dX1_nameJudge_135 rfl (lv_at hl 3 rfl) ?_
    refine x_getR X hK hw (cw_mem hC 30 (by decide)) (cw_S hC 30 rfl) cpX1 2 (by decide) rfl (cw_R hC 30 2 (by decide) rfl) tw_409 dX1_nameJudge_136 ?_
    refine lv_bipush (v := (11 : Int32)) hx hb dX1_nameJudge_139 (by decide) ?_
    refine lv_aload hx hb dX1_nameJudge_141 (lv_at hl 2 rfl) ?_
    refine lv_iload hx hb dX1_nameJudge_143 (lv_at hl 1 rfl) ?_
    obtain ⟨r_25, I_26, J_27, hq_28, hf⟩ := yb_b3_some hf
    refine x_calli X hK hw (c9_tillBirthday l D cz ev hC (st_town (cw_now hC)) hq_28) (st_town (cw_now hC)).1.1 (st_town (cw_now hC)).1.2 cpX9.1 vw_X1_45 ⟨Nat.le_of_ble_eq_true rfl, Nat.le_of_ble_eq_true rfl⟩ rfl rfl (Nat.le_of_ble_eq_true rfl) hl.1 ⟨Nat.le_refl _, Nat.le_refl _⟩ dX1_nameJudge_145 (fun H locs hw => ?_)
    refine lv_i2l hx hb dX1_nameJudge_148 rfl ?_
    refine x_last X hK hw (cw_mem hC 31 (by decide)) (cw_S hC 31 rfl) (by decide) rfl dX1_nameJudge_149 (fun H locs hw => ?_)
    obtain ⟨J_29, eJ_29, hf⟩ := yb_let_ex hf
    have hw := yb_wJ eJ_29 hw
    exact yb_retv hfin hf hw dX1_nameJudge_150
set_option maxHeartbeats 4000000 in
set_option maxRecDepth 100000 in
theorem c5_valueOf (l : Launch) (D : va_G) (cz : Nat → ClassId) (ev : Nat × Nat × Nat) {b : Nat} {L : List Nat} {S : ST} {Rf : RT} (hC : CW b L S Rf) {x0 : Int32} {I : IT} {J : JT} {r : Int64} {I1 : IT} {J1 : JT} (hf : f5_valueOf b S Rf x0 I J = some (r, I1, J1)) : MTl l D cz ev yX5_valueOf cX5_valueOf 3 (some .long) 0 0 [.int x0, .ref (b + 31)] L S Rf I J r I1 J1 := by
  unfold f5_valueOf at hf
  refine MTl_of (by decide) (Nat.le_of_ble_eq_true rfl) ?_
  intro p e s m args below meth c Q ls X hK hw hl hfin
  have X : CallFix p m c cX5_valueOf 3 s args gw RX5 := X
  have hx := X.1
  have hb := X.2.1
  have hl : lv_has ls 3 [(0, .int x0), (1, .ref (b + 31))] := hl
  refine lv_iload_n hx hb dX5_valueOf_0 rfl (lv_at hl 0 rfl) ?_
  refine lv_ldc (v := (100000 : Int32)) hx hb X.2.2.2.1 (X.2.2.2.2 _ tw_973) dX5_valueOf_1 ?_
  refine lv_icmp_ge (tgt := 9) hx hb dX5_valueOf_3 (by decide) (fun c_1 => ?_) (fun c_1 => ?_)
  · have hf := yb_pos c_1 hf
    refine lv_iload_n hx hb dX5_valueOf_9 rfl (lv_at hl 0 rfl) ?_
    refine lv_ldc (v := (100000 : Int32)) hx hb X.2.2.2.1 (X.2.2.2.2 _ tw_973) dX5_valueOf_10 ?_
    refine lv_isub hx hb dX5_valueOf_12 ?_
    refine lv_topi (fun x2_2 ex2_2 => ?_)
    have hf := yb_let_to ex2_2 hf
    refine lv_istore_n (lv' := [(2, .int x2_2), (0, .int x0), (1, .ref (b + 31))]) hx hb dX5_valueOf_13 rfl hl (by decide) rfl (fun ls hl => ?_)
    refine lv_iload_n hx hb dX5_valueOf_14 rfl (lv_at hl 0 rfl) ?_
    refine lv_aload_n hx hb dX5_valueOf_15 rfl (lv_at hl 2 rfl) ?_
    refine x_alenl X hK hw (cw_mem hC 31 (by decide)) (cw_S hC 31 rfl) dX5_valueOf_16 ?_
    refine lv_icmp_ge (tgt := 26) hx hb dX5_valueOf_17 (by decide) (fun c_3 => ?_) (fun c_3 => ?_)
    · have hf := yb_pos c_3 hf
      refine lv_lconst (v := (0 : Int64)) hx hb dX5_valueOf_26 (by decide) ?_
      exact yb_retl hfin hf hw dX5_valueOf_27
    · have hf := yb_neg c_3 hf
      refine lv_aload_n hx hb dX5_valueOf_20 rfl (lv_at hl 2 rfl) ?_
      refine lv_iload_n hx hb dX5_valueOf_21 rfl (lv_at hl 0 rfl) ?_
      obtain ⟨hi_4, hf⟩ := yb_ck_some hf
      refine x_lald X hK hw (cw_mem hC 31 (by decide)) (cw_S hC 31 rfl) hi_4 rfl dX5_valueOf_22 ?_
      refine lv_goto (tgt := 27) hx hb dX5_valueOf_23 (by decide) ?_
      exact yb_retl hfin hf hw dX5_valueOf_27
  · have hf := yb_neg c_1 hf
    refine lv_iload_n hx hb dX5_valueOf_6 rfl (lv_at hl 0 rfl) ?_
    refine lv_i2l hx hb dX5_valueOf_7 rfl ?_
    exact yb_retl hfin hf hw dX5_valueOf_8
set_option maxHeartbeats 4000000 in
set_option maxRecDepth 100000 in
theorem c5_joined (l : Launch) (D : va_G) (cz : Nat → ClassId) (ev : Nat × Nat × Nat) {b : Nat} {L : List Nat} {S : ST} {Rf : RT} (hC : CW b L S Rf) {x0 : Int32} {x1 : Int64} {x3 : Int64} {I : IT} {J : JT} {r : Int64} {I1 : IT} {J1 : JT} (hf : f5_joined b S Rf x0 x1 x3 I J = some (r, I1, J1)) : MTl l D cz ev yX5_joined cX5_joined 5 (some .long) 0 0 [.int x0, .long x1, .long x3] L S Rf I J r I1 J1 := by
  unfold f5_joined at hf
  refine MTl_of (by decide) (Nat.le_of_ble_eq_true rfl) ?_
  intro p e s m args below meth c Q ls X hK hw hl hfin
  have X : CallFix p m c cX5_joined 5 s args gw RX5 := X
  have hx := X.1
  have hb := X.2.1
  have hl : lv_has ls 5 [(0, .int x0), (1, .long x1), (3, .long x3)] := hl
  refine lv_iload_n hx hb dX5_joined_0 rfl (lv_at hl 0 rfl) ?_
  by_cases c_1 : x0 = (200000 : Int32)
  · have hf := yb_pos c_1 hf
    refine lv_tableIn (off := 59) (tgt := 60) hx hb dX5_joined_1 (by rw [c_1]; decide) (by rw [c_1]; decide) (by rw [c_1]; rfl) (by decide) ?_
    refine lv_lload_n hx hb dX5_joined_60 rfl (lv_at hl 1 rfl) ?_
    refine lv_lload_n hx hb dX5_joined_61 rfl (lv_at hl 2 rfl) ?_
    refine lv_ladd hx hb dX5_joined_62 ?_
    exact yb_retl hfin hf hw dX5_joined_63
  have hf := yb_neg c_1 hf
  by_cases c_2 : x0 = (200001 : Int32)
  · have hf := yb_pos c_2 hf
    refine lv_tableIn (off := 63) (tgt := 64) hx hb dX5_joined_1 (by rw [c_2]; decide) (by rw [c_2]; decide) (by rw [c_2]; rfl) (by decide) ?_
    refine lv_lload_n hx hb dX5_joined_64 rfl (lv_at hl 1 rfl) ?_
    refine lv_lload_n hx hb dX5_joined_65 rfl (lv_at hl 2 rfl) ?_
    refine lv_lsub hx hb dX5_joined_66 ?_
    exact yb_retl hfin hf hw dX5_joined_67
  have hf := yb_neg c_2 hf
  by_cases c_3 : x0 = (200002 : Int32)
  · have hf := yb_pos c_3 hf
    refine lv_tableIn (off := 67) (tgt := 68) hx hb dX5_joined_1 (by rw [c_3]; decide) (by rw [c_3]; decide) (by rw [c_3]; rfl) (by decide) ?_
    refine lv_lload_n hx hb dX5_joined_68 rfl (lv_at hl 1 rfl) ?_
    refine lv_lload_n hx hb dX5_joined_69 rfl (lv_at hl 2 rfl) ?_
    refine lv_lmul hx hb dX5_joined_70 ?_
    exact yb_retl hfin hf hw dX5_joined_71
  have hf := yb_neg c_3 hf
  by_cases c_4 : x0 = (200003 : Int32)
  · have hf := yb_pos c_4 hf
    refine lv_tableIn (off := 71) (tgt := 72) hx hb dX5_joined_1 (by rw [c_4]; decide) (by rw [c_4]; decide) (by rw [c_4]; rfl) (by decide) ?_
    refine lv_lload_n hx hb dX5_joined_72 rfl (lv_at hl 2 rfl) ?_
    refine lv_lconst (v := (0 : Int64)) hx hb dX5_joined_73 (by decide) ?_
    refine W.lcmp hx hb dX5_joined_74 ?_
    refine lv_if_ne (tgt := 82) hx hb dX5_joined_75 (by decide) (fun c_5 => ?_) (fun c_5 => ?_)
    · have hf := yb_neg c_5 hf
      refine lv_lload_n hx hb dX5_joined_82 rfl (lv_at hl 1 rfl) ?_
      refine lv_lload_n hx hb dX5_joined_83 rfl (lv_at hl 2 rfl) ?_
      obtain ⟨h_6, hf⟩ := yb_nzl hf
      refine lv_ldiv hx hb dX5_joined_84 h_6 ?_
      exact yb_retl hfin hf hw dX5_joined_85
    · have hf := yb_pos c_5 hf
      refine lv_lconst (v := (0 : Int64)) hx hb dX5_joined_78 (by decide) ?_
      refine lv_goto (tgt := 85) hx hb dX5_joined_79 (by decide) ?_
      exact yb_retl hfin hf hw dX5_joined_85
  have hf := yb_neg c_4 hf
  by_cases c_7 : x0 = (200004 : Int32)
  · have hf := yb_pos c_7 hf
    refine lv_tableIn (off := 85) (tgt := 86) hx hb dX5_joined_1 (by rw [c_7]; decide) (by rw [c_7]; decide) (by rw [c_7]; rfl) (by decide) ?_
    refine lv_lload_n hx hb dX5_joined_86 rfl (lv_at hl 2 rfl) ?_
    refine lv_lconst (v := (0 : Int64)) hx hb dX5_joined_87 (by decide) ?_
    refine W.lcmp hx hb dX5_joined_88 ?_
    refine lv_if_ne (tgt := 96) hx hb dX5_joined_89 (by decide) (fun c_8 => ?_) (fun c_8 => ?_)
    · have hf := yb_neg c_8 hf
      refine lv_lload_n hx hb dX5_joined_96 rfl (lv_at hl 1 rfl) ?_
      refine lv_lload_n hx hb dX5_joined_97 rfl (lv_at hl 2 rfl) ?_
      obtain ⟨h_9, hf⟩ := yb_nzl hf
      refine lv_lrem hx hb dX5_joined_98 h_9 ?_
      exact yb_retl hfin hf hw dX5_joined_99
    · have hf := yb_pos c_8 hf
      refine lv_lconst (v := (0 : Int64)) hx hb dX5_joined_92 (by decide) ?_
      refine lv_goto (tgt := 99) hx hb dX5_joined_93 (by decide) ?_
      exact yb_retl hfin hf hw dX5_joined_99
  have hf := yb_neg c_7 hf
  by_cases c_10 : x0 = (200005 : Int32)
  · have hf := yb_pos c_10 hf
    refine lv_tableIn (off := 99) (tgt := 100) hx hb dX5_joined_1 (by rw [c_10]; decide) (by rw [c_10]; decide) (by rw [c_10]; rfl) (by decide) ?_
    refine lv_lload_n hx hb dX5_joined_100 rfl (lv_at hl 1 rfl) ?_
    refine lv_lload_n hx hb dX5_joined_101 rfl (lv_at hl 2 rfl) ?_
    refine W.lcmp hx hb dX5_joined_102 ?_
    refine lv_if_ge (tgt := 110) hx hb dX5_joined_103 (by decide) (fun c_11 => ?_) (fun c_11 => ?_)
    · have hf := yb_pos c_11 hf
      refine lv_lconst (v := (0 : Int64)) hx hb dX5_joined_110 (by decide) ?_
      exact yb_retl hfin hf hw dX5_joined_111
    · have hf := yb_neg c_11 hf
      refine lv_lconst (v := (1 : Int64)) hx hb dX5_joined_106 (by decide) ?_
      refine lv_goto (tgt := 111) hx hb dX5_joined_107 (by decide) ?_
      exact yb_retl hfin hf hw dX5_joined_111
  have hf := yb_neg c_10 hf
  by_cases c_12 : x0 = (200006 : Int32)
  · have hf := yb_pos c_12 hf
    refine lv_tableIn (off := 111) (tgt := 112) hx hb dX5_joined_1 (by rw [c_12]; decide) (by rw [c_12]; decide) (by rw [c_12]; rfl) (by decide) ?_
    refine lv_lload_n hx hb dX5_joined_112 rfl (lv_at hl 1 rfl) ?_
    refine lv_lload_n hx hb dX5_joined_113 rfl (lv_at hl 2 rfl) ?_
    refine W.lcmp hx hb dX5_joined_114 ?_
    refine lv_if_gt (tgt := 122) hx hb dX5_joined_115 (by decide) (fun c_13 => ?_) (fun c_13 => ?_)
    · have hf := yb_pos c_13 hf
      refine lv_lconst (v := (0 : Int64)) hx hb dX5_joined_122 (by decide) ?_
      exact yb_retl hfin hf hw dX5_joined_123
    · have hf := yb_neg c_13 hf
      refine lv_lconst (v := (1 : Int64)) hx hb dX5_joined_118 (by decide) ?_
      refine lv_goto (tgt := 123) hx hb dX5_joined_119 (by decide) ?_
      exact yb_retl hfin hf hw dX5_joined_123
  have hf := yb_neg c_12 hf
  by_cases c_14 : x0 = (200007 : Int32)
  · have hf := yb_pos c_14 hf
    refine lv_tableIn (off := 123) (tgt := 124) hx hb dX5_joined_1 (by rw [c_14]; decide) (by rw [c_14]; decide) (by rw [c_14]; rfl) (by decide) ?_
    refine lv_lload_n hx hb dX5_joined_124 rfl (lv_at hl 1 rfl) ?_
    refine lv_lload_n hx hb dX5_joined_125 rfl (lv_at hl 2 rfl) ?_
    refine W.lcmp hx hb dX5_joined_126 ?_
    refine lv_if_ne (tgt := 134) hx hb dX5_joined_127 (by decide) (fun c_15 => ?_) (fun c_15 => ?_)
    · have hf := yb_neg c_15 hf
      refine lv_lconst (v := (0 : Int64)) hx hb dX5_joined_134 (by decide) ?_
      exact yb_retl hfin hf hw dX5_joined_135
    · have hf := yb_pos c_15 hf
      refine lv_lconst (v := (1 : Int64)) hx hb dX5_joined_130 (by decide) ?_
      refine lv_goto (tgt := 135) hx hb dX5_joined_131 (by decide) ?_
      exact yb_retl hfin hf hw dX5_joined_135
  have hf := yb_neg c_14 hf
  by_cases c_16 : x0 = (200008 : Int32)
  · have hf := yb_pos c_16 hf
    refine lv_tableIn (off := 135) (tgt := 136) hx hb dX5_joined_1 (by rw [c_16]; decide) (by rw [c_16]; decide) (by rw [c_16]; rfl) (by decide) ?_
    refine lv_lload_n hx hb dX5_joined_136 rfl (lv_at hl 1 rfl) ?_
    refine lv_lload_n hx hb dX5_joined_137 rfl (lv_at hl 2 rfl) ?_
    refine W.lcmp hx hb dX5_joined_138 ?_
    refine lv_if_lt (tgt := 146) hx hb dX5_joined_139 (by decide) (fun c_17 => ?_) (fun c_17 => ?_)
    · have hf := yb_pos c_17 hf
      refine lv_lconst (v := (0 : Int64)) hx hb dX5_joined_146 (by decide) ?_
      exact yb_retl hfin hf hw dX5_joined_147
    · have hf := yb_neg c_17 hf
      refine lv_lconst (v := (1 : Int64)) hx hb dX5_joined_142 (by decide) ?_
      refine lv_goto (tgt := 147) hx hb dX5_joined_143 (by decide) ?_
      exact yb_retl hfin hf hw dX5_joined_147
  have hf := yb_neg c_16 hf
  by_cases c_18 : x0 = (200009 : Int32)
  · have hf := yb_pos c_18 hf
    refine lv_tableIn (off := 147) (tgt := 148) hx hb dX5_joined_1 (by rw [c_18]; decide) (by rw [c_18]; decide) (by rw [c_18]; rfl) (by decide) ?_
    refine lv_lload_n hx hb dX5_joined_148 rfl (lv_at hl 1 rfl) ?_
    refine lv_lload_n hx hb dX5_joined_149 rfl (lv_at hl 2 rfl) ?_
    refine W.lcmp hx hb dX5_joined_150 ?_
    refine lv_if_le (tgt := 158) hx hb dX5_joined_151 (by decide) (fun c_19 => ?_) (fun c_19 => ?_)
    · have hf := yb_pos c_19 hf
      refine lv_lconst (v := (0 : Int64)) hx hb dX5_joined_158 (by decide) ?_
      exact yb_retl hfin hf hw dX5_joined_159
    · have hf := yb_neg c_19 hf
      refine lv_lconst (v := (1 : Int64)) hx hb dX5_joined_154 (by decide) ?_
      refine lv_goto (tgt := 159) hx hb dX5_joined_155 (by decide) ?_
      exact yb_retl hfin hf hw dX5_joined_159
  have hf := yb_neg c_18 hf
  by_cases c_20 : x0 = (200010 : Int32)
  · have hf := yb_pos c_20 hf
    refine lv_tableIn (off := 159) (tgt := 160) hx hb dX5_joined_1 (by rw [c_20]; decide) (by rw [c_20]; decide) (by rw [c_20]; rfl) (by decide) ?_
    refine lv_lload_n hx hb dX5_joined_160 rfl (lv_at hl 1 rfl) ?_
    refine lv_lload_n hx hb dX5_joined_161 rfl (lv_at hl 2 rfl) ?_
    refine lv_land hx hb dX5_joined_162 ?_
    exact yb_retl hfin hf hw dX5_joined_163
  have hf := yb_neg c_20 hf
  refine lv_tableOut (tgt := 164) hx hb dX5_joined_1 (by
      rcases Int.lt_or_le (x0).toInt 200000 with g1 | g1
      · exact Or.inl g1
      · rcases Int.lt_or_le 200010 (x0).toInt with g2 | g2
        · exact Or.inr g2
        · exfalso
          have g3 : (x0).toInt = 200000 ∨ (x0).toInt = 200001 ∨ (x0).toInt = 200002 ∨ (x0).toInt = 200003 ∨ (x0).toInt = 200004 ∨ (x0).toInt = 200005 ∨ (x0).toInt = 200006 ∨ (x0).toInt = 200007 ∨ (x0).toInt = 200008 ∨ (x0).toInt = 200009 ∨ (x0).toInt = 200010 := by omega
          rcases g3 with g3 | g3 | g3 | g3 | g3 | g3 | g3 | g3 | g3 | g3 | g3
          · exact c_1 (yb_sw (200000 : Int32) g3 rfl)
          · exact c_2 (yb_sw (200001 : Int32) g3 rfl)
          · exact c_3 (yb_sw (200002 : Int32) g3 rfl)
          · exact c_4 (yb_sw (200003 : Int32) g3 rfl)
          · exact c_7 (yb_sw (200004 : Int32) g3 rfl)
          · exact c_10 (yb_sw (200005 : Int32) g3 rfl)
          · exact c_12 (yb_sw (200006 : Int32) g3 rfl)
          · exact c_14 (yb_sw (200007 : Int32) g3 rfl)
          · exact c_16 (yb_sw (200008 : Int32) g3 rfl)
          · exact c_18 (yb_sw (200009 : Int32) g3 rfl)
          · exact c_20 (yb_sw (200010 : Int32) g3 rfl)) (by decide) ?_
  refine lv_lload_n hx hb dX5_joined_164 rfl (lv_at hl 1 rfl) ?_
  refine lv_lload_n hx hb dX5_joined_165 rfl (lv_at hl 2 rfl) ?_
  refine lv_lor hx hb dX5_joined_166 ?_
  exact yb_retl hfin hf hw dX5_joined_167
set_option maxHeartbeats 4000000 in
set_option maxRecDepth 100000 in
theorem w5_sum_L5 {p : Program} {l : Launch} {e : Env} {s : State} {m : MethodId} {args : Array Value} {below : List Frame} {meth : Method} {c : Code} {Q : State → Prop} {D : va_G} {cz : Nat → ClassId} {A : Nat → Prop} {ev : Nat × Nat × Nat} {b : Nat} {L : List Nat} {S : ST} {Rf : RT} (hC : CW b L S Rf) {t0 : Nat} (h0 : RuleAt L S Rf t0) (X : CallFix p m c cX5_sum 6 s args gw RX5) (hK : KX D cz ev A s) {N : Nat} {rM : Int64} {IM : IT} {JM : JT} :
    ∀ (n : Nat) (x3 : Int32) (x4 : Int32) (I : IT) (J : JT) (q : (Int64 ⊕ (Unit))) (I1 : IT) (J1 : JT) (H : Heap) (locs : List Loc) (ls : Array Slot), f5_sum_L5 N b S Rf t0 n x3 x4 I J = some (q, I1, J1) → WX D cz A L S Rf s.heap I J H locs → lv_has ls 6 [(0, .ref t0), (1, .ref (b + 31)), (2, .ref (b + 32)), (3, .int x3), (4, .int x4)] →
    (∀ v, q = .inl v → some (v, I1, J1) = some (rM, IM, JM)) → (∀ (H : Heap) (locs : List Loc) (ls : Array Slot) (pc : Nat), WX D cz A L S Rf s.heap IM JM H locs → decode cX5_sum pc = .ok (.lreturn, 1) → W p l e (rmX 1 24) s m args below meth c H locs 0 0 Q (F0 m pc ls [.long rM])) →
    (∀ xq, q = .inr xq → ∀ (H : Heap) (locs : List Loc) (ls : Array Slot), WX D cz A L S Rf s.heap I1 J1 H locs → lv_has ls 6 [] → W p l e (rmX 1 24) s m args below meth c H locs 0 0 Q (F0 m 175 ls [])) →
    W p l e (rmX 1 24) s m args below meth c H locs 0 0 Q (F0 m 5 ls []) := by
  have hx := X.1
  have hb := X.2.1
  intro n
  induction n with
  | zero =>
    intro x3 x4 I J q I1 J1 H locs ls hf
    rw [f5_sum_L5] at hf
    cases hf
  | succ n ih =>
    intro x3 x4 I J q I1 J1 H locs ls hf hw hl hret hfin hexit
    rw [f5_sum_L5] at hf
    refine lv_iload hx hb dX5_sum_5 (lv_at hl 4 rfl) ?_
    refine lv_aload_n hx hb dX5_sum_7 rfl (lv_at hl 0 rfl) ?_
    refine x_getR X hK hw h0.1.1 h0.1.2 cpX5 0 (by decide) rfl h0.2.1 tw_874 dX5_sum_8 ?_
    refine x_alen X hK hw h0.2.2.1 (ru_S h0) dX5_sum_11 ?_
    refine lv_icmp_ge (tgt := 175) hx hb dX5_sum_12 (by decide) (fun c_1 => ?_) (fun c_1 => ?_)
    · have hf := yb_pos c_1 hf
      obtain ⟨rfl, rfl, rfl⟩ := yb_inj hf
      exact hexit _ rfl _ _ _ hw (lv_sub hl [] rfl)
    · have hf := yb_neg c_1 hf
      refine lv_aload_n hx hb dX5_sum_15 rfl (lv_at hl 0 rfl) ?_
      refine x_getR X hK hw h0.1.1 h0.1.2 cpX5 0 (by decide) rfl h0.2.1 tw_874 dX5_sum_16 ?_
      refine lv_iload hx hb dX5_sum_19 (lv_at hl 4 rfl) ?_
      obtain ⟨hi_2, hf⟩ := yb_ck_some hf
      refine x_iald X hK hw h0.2.2.1 (ru_S h0) hi_2 rfl dX5_sum_21 ?_
      refine lv_topi (fun x5_3 ex5_3 => ?_)
      have hf := yb_let_to ex5_3 hf
      refine lv_istore (lv' := [(5, .int x5_3), (0, .ref t0), (1, .ref (b + 31)), (2, .ref (b + 32)), (3, .int x3), (4, .int x4)]) hx hb dX5_sum_22 hl (by decide) rfl (fun ls hl => ?_)
      refine lv_iload hx hb dX5_sum_24 (lv_at hl 0 rfl) ?_
      refine lv_ldc (v := (200000 : Int32)) hx hb X.2.2.2.1 (X.2.2.2.2 _ tw_969) dX5_sum_26 ?_
      refine lv_icmp_ge (tgt := 54) hx hb dX5_sum_28 (by decide) (fun c_4 => ?_) (fun c_4 => ?_)
      · have hf := yb_pos c_4 hf
        refine lv_iload hx hb dX5_sum_54 (lv_at hl 0 rfl) ?_
        refine lv_ldc (v := (200011 : Int32)) hx hb X.2.2.2.1 (X.2.2.2.2 _ tw_974) dX5_sum_56 ?_
        refine lv_icmp_gt (tgt := 92) hx hb dX5_sum_58 (by decide) (fun c_5 => ?_) (fun c_5 => ?_)
        · have hf := yb_pos c_5 hf
          refine lv_iload hx hb dX5_sum_92 (lv_at hl 0 rfl) ?_
          refine lv_ldc (v := (200012 : Int32)) hx hb X.2.2.2.1 (X.2.2.2.2 _ tw_978) dX5_sum_94 ?_
          refine lv_icmp_ne (tgt := 121) hx hb dX5_sum_96 (by decide) (fun c_6 => ?_) (fun c_6 => ?_)
          · have hf := yb_neg c_6 hf
            refine lv_iload hx hb dX5_sum_121 (lv_at hl 0 rfl) ?_
            refine lv_ldc (v := (200013 : Int32)) hx hb X.2.2.2.1 (X.2.2.2.2 _ tw_979) dX5_sum_123 ?_
            refine lv_icmp_ne (tgt := 143) hx hb dX5_sum_125 (by decide) (fun c_7 => ?_) (fun c_7 => ?_)
            · have hf := yb_neg c_7 hf
              refine lv_iload_n hx hb dX5_sum_143 rfl (lv_at hl 4 rfl) ?_
              refine lv_iconst (v := (2 : Int32)) hx hb dX5_sum_144 (by decide) ?_
              refine lv_icmp_ge (tgt := 150) hx hb dX5_sum_145 (by decide) (fun c_8 => ?_) (fun c_8 => ?_)
              · have hf := yb_pos c_8 hf
                refine lv_aload_n hx hb dX5_sum_150 rfl (lv_at hl 3 rfl) ?_
                refine lv_iload_n hx hb dX5_sum_151 rfl (lv_at hl 4 rfl) ?_
                refine lv_iconst (v := (1 : Int32)) hx hb dX5_sum_152 (by decide) ?_
                refine lv_isub hx hb dX5_sum_153 ?_
                obtain ⟨hi_9, hf⟩ := yb_ck_some hf
                refine x_lald X hK hw (cw_mem hC 32 (by decide)) (cw_S hC 32 rfl) hi_9 rfl dX5_sum_154 ?_
                refine lv_lconst (v := (0 : Int64)) hx hb dX5_sum_155 (by decide) ?_
                refine W.lcmp hx hb dX5_sum_156 ?_
                refine lv_if_eq (tgt := 166) hx hb dX5_sum_157 (by decide) (fun c_10 => ?_) (fun c_10 => ?_)
                · have hf := yb_pos c_10 hf
                  obtain ⟨x3_11, ex3_11, hf⟩ := yb_let_ex hf
                  refine lv_iinc (v := x3_11) (lv' := [(3, .int x3_11), (5, .int x5_3), (0, .ref t0), (1, .ref (b + 31)), (2, .ref (b + 32)), (4, .int x4)]) hx hb dX5_sum_166 hl (k := 4) rfl (by rw [ex3_11]; rfl) (by decide) rfl (fun ls hl => ?_)
                  obtain ⟨x4_12, ex4_12, hf⟩ := yb_let_ex hf
                  refine lv_iinc (v := x4_12) (lv' := [(4, .int x4_12), (3, .int x3_11), (5, .int x5_3), (0, .ref t0), (1, .ref (b + 31)), (2, .ref (b + 32))]) hx hb dX5_sum_169 hl (k := 5) rfl (by rw [ex4_12]; rfl) (by decide) rfl (fun ls hl => ?_)
                  refine lv_goto (tgt := 5) hx hb dX5_sum_172 (by decide) ?_
                  exact ih _ _ _ _ _ _ _ _ _ _ hf hw (lv_sub hl [3, 4, 5, 1, 0] rfl) hret hfin hexit
                · have hf := yb_neg c_10 hf
                  refine lv_aload_n hx hb dX5_sum_160 rfl (lv_at hl 3 rfl) ?_
                  refine lv_iload_n hx hb dX5_sum_161 rfl (lv_at hl 4 rfl) ?_
                  refine lv_iconst (v := (2 : Int32)) hx hb dX5_sum_162 (by decide) ?_
                  refine lv_isub hx hb dX5_sum_163 ?_
                  obtain ⟨hi_13, hf⟩ := yb_ck_some hf
                  refine x_lald X hK hw (cw_mem hC 32 (by decide)) (cw_S hC 32 rfl) hi_13 rfl dX5_sum_164 ?_
                  exact yb_retl hfin (yb_inl hret hf) hw dX5_sum_165
              · have hf := yb_neg c_8 hf
                refine lv_lconst (v := (0 : Int64)) hx hb dX5_sum_148 (by decide) ?_
                exact yb_retl hfin (yb_inl hret hf) hw dX5_sum_149
            · have hf := yb_pos c_7 hf
              refine lv_iload_n hx hb dX5_sum_128 rfl (lv_at hl 4 rfl) ?_
              refine lv_iconst (v := (1 : Int32)) hx hb dX5_sum_129 (by decide) ?_
              refine lv_icmp_ge (tgt := 137) hx hb dX5_sum_130 (by decide) (fun c_14 => ?_) (fun c_14 => ?_)
              · have hf := yb_pos c_14 hf
                refine lv_aload_n hx hb dX5_sum_137 rfl (lv_at hl 3 rfl) ?_
                refine lv_iload_n hx hb dX5_sum_138 rfl (lv_at hl 4 rfl) ?_
                refine lv_iconst (v := (1 : Int32)) hx hb dX5_sum_139 (by decide) ?_
                refine lv_isub hx hb dX5_sum_140 ?_
                obtain ⟨hi_15, hf⟩ := yb_ck_some hf
                refine x_lald X hK hw (cw_mem hC 32 (by decide)) (cw_S hC 32 rfl) hi_15 rfl dX5_sum_141 ?_
                exact yb_retl hfin (yb_inl hret hf) hw dX5_sum_142
              · have hf := yb_neg c_14 hf
                refine lv_lconst (v := (0 : Int64)) hx hb dX5_sum_133 (by decide) ?_
                refine lv_goto (tgt := 142) hx hb dX5_sum_134 (by decide) ?_
                exact yb_retl hfin (yb_inl hret hf) hw dX5_sum_142
          · have hf := yb_pos c_6 hf
            refine lv_iload_n hx hb dX5_sum_99 rfl (lv_at hl 4 rfl) ?_
            refine lv_iconst (v := (1 : Int32)) hx hb dX5_sum_100 (by decide) ?_
            refine lv_icmp_ge (tgt := 106) hx hb dX5_sum_101 (by decide) (fun c_16 => ?_) (fun c_16 => ?_)
            · have hf := yb_pos c_16 hf
              refine lv_aload_n hx hb dX5_sum_106 rfl (lv_at hl 3 rfl) ?_
              refine lv_iload_n hx hb dX5_sum_107 rfl (lv_at hl 4 rfl) ?_
              refine lv_iconst (v := (1 : Int32)) hx hb dX5_sum_108 (by decide) ?_
              refine lv_isub hx hb dX5_sum_109 ?_
              refine lv_lconst (v := (1 : Int64)) hx hb dX5_sum_110 (by decide) ?_
              refine lv_aload_n hx hb dX5_sum_111 rfl (lv_at hl 3 rfl) ?_
              refine lv_iload_n hx hb dX5_sum_112 rfl (lv_at hl 4 rfl) ?_
              refine lv_iconst (v := (1 : Int32)) hx hb dX5_sum_113 (by decide) ?_
              refine lv_isub hx hb dX5_sum_114 ?_
              obtain ⟨hi_17, hf⟩ := yb_ck_some hf
              refine x_lald X hK hw (cw_mem hC 32 (by decide)) (cw_S hC 32 rfl) hi_17 rfl dX5_sum_115 ?_
              refine lv_lsub hx hb dX5_sum_116 ?_
              refine x_last X hK hw (cw_mem hC 32 (by decide)) (cw_S hC 32 rfl) hi_17 rfl dX5_sum_117 (fun H locs hw => ?_)
              obtain ⟨J_18, eJ_18, hf⟩ := yb_let_ex hf
              have hw := yb_wJ eJ_18 hw
              refine lv_goto (tgt := 169) hx hb dX5_sum_118 (by decide) ?_
              obtain ⟨x4_19, ex4_19, hf⟩ := yb_let_ex hf
              refine lv_iinc (v := x4_19) (lv' := [(4, .int x4_19), (5, .int x5_3), (0, .ref t0), (1, .ref (b + 31)), (2, .ref (b + 32)), (3, .int x3)]) hx hb dX5_sum_169 hl (k := 5) rfl (by rw [ex4_19]; rfl) (by decide) rfl (fun ls hl => ?_)
              refine lv_goto (tgt := 5) hx hb dX5_sum_172 (by decide) ?_
              exact ih _ _ _ _ _ _ _ _ _ _ hf hw (lv_sub hl [2, 3, 4, 5, 0] rfl) hret hfin hexit
            · have hf := yb_neg c_16 hf
              refine lv_lconst (v := (0 : Int64)) hx hb dX5_sum_104 (by decide) ?_
              exact yb_retl hfin (yb_inl hret hf) hw dX5_sum_105
        · have hf := yb_neg c_5 hf
          refine lv_iload_n hx hb dX5_sum_61 rfl (lv_at hl 4 rfl) ?_
          refine lv_iconst (v := (2 : Int32)) hx hb dX5_sum_62 (by decide) ?_
          refine lv_icmp_ge (tgt := 68) hx hb dX5_sum_63 (by decide) (fun c_20 => ?_) (fun c_20 => ?_)
          · have hf := yb_pos c_20 hf
            obtain ⟨x3_21, ex3_21, hf⟩ := yb_let_ex hf
            refine lv_iinc (v := x3_21) (lv' := [(3, .int x3_21), (5, .int x5_3), (0, .ref t0), (1, .ref (b + 31)), (2, .ref (b + 32)), (4, .int x4)]) hx hb dX5_sum_68 hl (k := 4) rfl (by rw [ex3_21]; rfl) (by decide) rfl (fun ls hl => ?_)
            refine lv_aload_n hx hb dX5_sum_71 rfl (lv_at hl 4 rfl) ?_
            refine lv_iload_n hx hb dX5_sum_72 rfl (lv_at hl 0 rfl) ?_
            refine lv_iconst (v := (1 : Int32)) hx hb dX5_sum_73 (by decide) ?_
            refine lv_isub hx hb dX5_sum_74 ?_
            refine lv_iload hx hb dX5_sum_75 (lv_at hl 1 rfl) ?_
            refine lv_aload_n hx hb dX5_sum_77 rfl (lv_at hl 4 rfl) ?_
            refine lv_iload_n hx hb dX5_sum_78 rfl (lv_at hl 0 rfl) ?_
            refine lv_iconst (v := (1 : Int32)) hx hb dX5_sum_79 (by decide) ?_
            refine lv_isub hx hb dX5_sum_80 ?_
            obtain ⟨hi_22, hf⟩ := yb_ck_some hf
            refine x_lald X hK hw (cw_mem hC 32 (by decide)) (cw_S hC 32 rfl) hi_22 rfl dX5_sum_81 ?_
            refine lv_aload_n hx hb dX5_sum_82 rfl (lv_at hl 4 rfl) ?_
            refine lv_iload_n hx hb dX5_sum_83 rfl (lv_at hl 0 rfl) ?_
            obtain ⟨hi_23, hf⟩ := yb_ck_some hf
            refine x_lald X hK hw (cw_mem hC 32 (by decide)) (cw_S hC 32 rfl) hi_23 rfl dX5_sum_84 ?_
            obtain ⟨r_24, I_25, J_26, hq_27, hf⟩ := yb_b3_some hf
            refine x_callsl X hK hw (c5_joined l D cz ev hC hq_27) sw_X5_19 ⟨Nat.le_of_ble_eq_true rfl, Nat.le_of_ble_eq_true rfl⟩ rfl rfl (Nat.le_of_ble_eq_true rfl) hl.1 ⟨Nat.le_refl _, Nat.le_refl _⟩ dX5_sum_85 (fun H locs hw => ?_)
            refine x_last X hK hw (cw_mem hC 32 (by decide)) (cw_S hC 32 rfl) hi_22 rfl dX5_sum_88 (fun H locs hw => ?_)
            obtain ⟨J_28, eJ_28, hf⟩ := yb_let_ex hf
            have hw := yb_wJ eJ_28 hw
            refine lv_goto (tgt := 169) hx hb dX5_sum_89 (by decide) ?_
            obtain ⟨x4_29, ex4_29, hf⟩ := yb_let_ex hf
            refine lv_iinc (v := x4_29) (lv' := [(4, .int x4_29), (3, .int x3_21), (5, .int x5_3), (0, .ref t0), (1, .ref (b + 31)), (2, .ref (b + 32))]) hx hb dX5_sum_169 hl (k := 5) rfl (by rw [ex4_29]; rfl) (by decide) rfl (fun ls hl => ?_)
            refine lv_goto (tgt := 5) hx hb dX5_sum_172 (by decide) ?_
            exact ih _ _ _ _ _ _ _ _ _ _ hf hw (lv_sub hl [3, 4, 5, 1, 0] rfl) hret hfin hexit
          · have hf := yb_neg c_20 hf
            refine lv_lconst (v := (0 : Int64)) hx hb dX5_sum_66 (by decide) ?_
            exact yb_retl hfin (yb_inl hret hf) hw dX5_sum_67
      · have hf := yb_neg c_4 hf
        refine lv_iload_n hx hb dX5_sum_31 rfl (lv_at hl 4 rfl) ?_
        refine lv_aload_n hx hb dX5_sum_32 rfl (lv_at hl 3 rfl) ?_
        refine x_alenl X hK hw (cw_mem hC 32 (by decide)) (cw_S hC 32 rfl) dX5_sum_33 ?_
        refine lv_icmp_lt (tgt := 39) hx hb dX5_sum_34 (by decide) (fun c_30 => ?_) (fun c_30 => ?_)
        · have hf := yb_pos c_30 hf
          refine lv_aload_n hx hb dX5_sum_39 rfl (lv_at hl 3 rfl) ?_
          refine lv_iload_n hx hb dX5_sum_40 rfl (lv_at hl 4 rfl) ?_
          refine lv_iload hx hb dX5_sum_41 (lv_at hl 0 rfl) ?_
          refine lv_aload_n hx hb dX5_sum_43 rfl (lv_at hl 2 rfl) ?_
          obtain ⟨r_31, I_32, J_33, hq_34, hf⟩ := yb_b3_some hf
          refine x_callsl X hK hw (c5_valueOf l D cz ev hC hq_34) sw_X5_14 ⟨Nat.le_of_ble_eq_true rfl, Nat.le_of_ble_eq_true rfl⟩ rfl rfl (Nat.le_of_ble_eq_true rfl) hl.1 ⟨Nat.le_refl _, Nat.le_refl _⟩ dX5_sum_44 (fun H locs hw => ?_)
          obtain ⟨hi_35, hf⟩ := yb_ck_some hf
          refine x_last X hK hw (cw_mem hC 32 (by decide)) (cw_S hC 32 rfl) hi_35 rfl dX5_sum_47 (fun H locs hw => ?_)
          obtain ⟨J_36, eJ_36, hf⟩ := yb_let_ex hf
          have hw := yb_wJ eJ_36 hw
          obtain ⟨x3_37, ex3_37, hf⟩ := yb_let_ex hf
          refine lv_iinc (v := x3_37) (lv' := [(3, .int x3_37), (5, .int x5_3), (0, .ref t0), (1, .ref (b + 31)), (2, .ref (b + 32)), (4, .int x4)]) hx hb dX5_sum_48 hl (k := 4) rfl (by rw [ex3_37]; rfl) (by decide) rfl (fun ls hl => ?_)
          refine lv_goto (tgt := 169) hx hb dX5_sum_51 (by decide) ?_
          obtain ⟨x4_38, ex4_38, hf⟩ := yb_let_ex hf
          refine lv_iinc (v := x4_38) (lv' := [(4, .int x4_38), (3, .int x3_37), (5, .int x5_3), (0, .ref t0), (1, .ref (b + 31)), (2, .ref (b + 32))]) hx hb dX5_sum_169 hl (k := 5) rfl (by rw [ex4_38]; rfl) (by decide) rfl (fun ls hl => ?_)
          refine lv_goto (tgt := 5) hx hb dX5_sum_172 (by decide) ?_
          exact ih _ _ _ _ _ _ _ _ _ _ hf hw (lv_sub hl [3, 4, 5, 1, 0] rfl) hret hfin hexit
        · have hf := yb_neg c_30 hf
          refine lv_lconst (v := (0 : Int64)) hx hb dX5_sum_37 (by decide) ?_
          exact yb_retl hfin (yb_inl hret hf) hw dX5_sum_38
set_option maxHeartbeats 4000000 in
set_option maxRecDepth 100000 in
theorem c5_sum (l : Launch) (D : va_G) (cz : Nat → ClassId) (ev : Nat × Nat × Nat) {b : Nat} {L : List Nat} {S : ST} {Rf : RT} (hC : CW b L S Rf) {t0 : Nat} (h0 : RuleAt L S Rf t0) {N : Nat} {I : IT} {J : JT} {r : Int64} {I1 : IT} {J1 : JT} (hf : f5_sum N b S Rf t0 I J = some (r, I1, J1)) : MTl l D cz ev yX5_sum cX5_sum 6 (some .long) 1 24 [.ref t0, .ref (b + 31), .ref (b + 32)] L S Rf I J r I1 J1 := by
  unfold f5_sum at hf
  refine MTl_of (by decide) (Nat.le_of_ble_eq_true rfl) ?_
  intro p e s m args below meth c Q ls X hK hw hl hfin
  have X : CallFix p m c cX5_sum 6 s args gw RX5 := X
  have hx := X.1
  have hb := X.2.1
  have hl : lv_has ls 6 [(0, .ref t0), (1, .ref (b + 31)), (2, .ref (b + 32))] := hl
  refine lv_iconst (v := (0 : Int32)) hx hb dX5_sum_0 (by decide) ?_
  refine lv_istore_n (lv' := [(3, .int (0 : Int32)), (0, .ref t0), (1, .ref (b + 31)), (2, .ref (b + 32))]) hx hb dX5_sum_1 rfl hl (by decide) rfl (fun ls hl => ?_)
  refine lv_iconst (v := (0 : Int32)) hx hb dX5_sum_2 (by decide) ?_
  refine lv_istore (lv' := [(4, .int (0 : Int32)), (3, .int (0 : Int32)), (0, .ref t0), (1, .ref (b + 31)), (2, .ref (b + 32))]) hx hb dX5_sum_3 hl (by decide) rfl (fun ls hl => ?_)
  obtain ⟨q_39, I_40, J_41, hq_42, hf⟩ := yb_b3_some hf
  refine w5_sum_L5 hC h0 X hK _ _ _ _ _ _ _ _ _ _ _ hq_42 hw (lv_sub hl [2, 3, 4, 1, 0] rfl) (fun v hv => by rw [hv] at hf; exact hf) hfin (fun x_44 hx1 H locs ls hw hl => ?_)
  rw [hx1] at hf
  have hf := yb_sm_r hf
  refine lv_lconst (v := (0 : Int64)) hx hb dX5_sum_175 (by decide) ?_
  exact yb_retl hfin hf hw dX5_sum_176
set_option maxHeartbeats 4000000 in
set_option maxRecDepth 100000 in
theorem c1_rightOf (l : Launch) (D : va_G) (cz : Nat → ClassId) (ev : Nat × Nat × Nat) {b : Nat} {L : List Nat} {S : ST} {Rf : RT} (hC : CW b L S Rf) {N : Nat} {x1 : Int32} {x2 : Int32} {x3 : Int32} {I : IT} {J : JT} {r : Int32} {I1 : IT} {J1 : JT} (hf : f1_rightOf N b S Rf x1 x2 x3 I J = some (r, I1, J1)) : MTi l D cz ev yX1_rightOf cX1_rightOf 9 (some .int) 2 49 [.ref (b + 30), .int x1, .int x2, .int x3] L S Rf I J r I1 J1 := by
  unfold f1_rightOf at hf
  refine MTi_of (by decide) (Nat.le_of_ble_eq_true rfl) ?_
  intro p e s m args below meth c Q ls X hK hw hl hfin
  have X : CallFix p m c cX1_rightOf 9 s args gw RX1 := X
  have hx := X.1
  have hb := X.2.1
  have hl : lv_has ls 9 [(0, .ref (b + 30)), (1, .int x1), (2, .int x2), (3, .int x3)] := hl
  refine lv_aload_n hx hb dX1_rightOf_0 rfl (lv_at hl 0 rfl) ?_
  refine x_getR X hK hw (cw_mem hC 30 (by decide)) (cw_S hC 30 rfl) cpX1 0 (by decide) rfl (cw_R hC 30 0 (by decide) rfl) tw_405 dX1_rightOf_1 ?_
  refine x_getI X hK hw (cw_now hC).1.1 (cw_now hC).1.2 cpX8 6 (by decide) rfl tw_359 dX1_rightOf_4 ?_
  refine lv_topi (fun x4_1 ex4_1 => ?_)
  have hf := yb_let_to ex4_1 hf
  refine lv_istore (lv' := [(4, .int x4_1), (0, .ref (b + 30)), (1, .int x1), (2, .int x2), (3, .int x3)]) hx hb dX1_rightOf_7 hl (by decide) rfl (fun ls hl => ?_)
  refine lv_iload hx hb dX1_rightOf_9 (lv_at hl 0 rfl) ?_
  refine lv_if_lt (tgt := 31) hx hb dX1_rightOf_11 (by decide) (fun c_2 => ?_) (fun c_2 => ?_)
  · have hf := yb_pos c_2 hf
    refine lv_aload_n hx hb dX1_rightOf_31 rfl (lv_at hl 1 rfl) ?_
    refine x_getR X hK hw (cw_mem hC 30 (by decide)) (cw_S hC 30 rfl) cpX1 2 (by decide) rfl (cw_R hC 30 2 (by decide) rfl) tw_409 dX1_rightOf_32 ?_
    refine lv_iconst (v := (5 : Int32)) hx hb dX1_rightOf_35 (by decide) ?_
    refine x_lald X hK hw (cw_mem hC 31 (by decide)) (cw_S hC 31 rfl) (by decide) rfl dX1_rightOf_36 ?_
    refine lv_topl (fun x7_3 ex7_3 => ?_)
    have hf := yb_let_to ex7_3 hf
    refine lv_lstore (lv' := [(7, .long x7_3), (4, .int x4_1), (0, .ref (b + 30)), (1, .int x1), (2, .int x2), (3, .int x3)]) hx hb dX1_rightOf_37 hl (by decide) rfl (fun ls hl => ?_)
    refine lv_ldc2 (v := (50 : Int64)) hx hb X.2.2.2.1 (X.2.2.2.2 _ tw_956) dX1_rightOf_39 ?_
    refine lv_ldc2 (v := (5 : Int64)) hx hb X.2.2.2.1 (X.2.2.2.2 _ tw_957) dX1_rightOf_42 ?_
    refine lv_aload_n hx hb dX1_rightOf_45 rfl (lv_at hl 2 rfl) ?_
    refine x_getR X hK hw (cw_mem hC 30 (by decide)) (cw_S hC 30 rfl) cpX1 0 (by decide) rfl (cw_R hC 30 0 (by decide) rfl) tw_405 dX1_rightOf_46 ?_
    refine x_getR X hK hw (cw_now hC).1.1 (cw_now hC).1.2 cpX8 1 (by decide) rfl (cw_now hC).2.2.1.1 tw_350 dX1_rightOf_49 ?_
    refine x_getR X hK hw (st_course (cw_now hC)).1.1 (st_course (cw_now hC)).1.2 cpX0 0 (by decide) rfl (ca_R (st_course (cw_now hC)) 0 (by decide)) tw_289 dX1_rightOf_52 ?_
    refine lv_iload_n hx hb dX1_rightOf_55 rfl (lv_at hl 3 rfl) ?_
    obtain ⟨hi_4, hf⟩ := yb_ck_some hf
    refine x_iald X hK hw (ca_mem (st_course (cw_now hC)) 0 (by decide)) (ca_S (st_course (cw_now hC)) 0 rfl) hi_4 rfl dX1_rightOf_56 ?_
    refine lv_i2l hx hb dX1_rightOf_57 rfl ?_
    refine lv_lmul hx hb dX1_rightOf_58 ?_
    refine lv_ladd hx hb dX1_rightOf_59 ?_
    refine lv_ldc2 (v := (4 : Int64)) hx hb X.2.2.2.1 (X.2.2.2.2 _ tw_958) dX1_rightOf_60 ?_
    refine lv_lload hx hb dX1_rightOf_63 (lv_at hl 0 rfl) ?_
    refine lv_lmul hx hb dX1_rightOf_65 ?_
    refine lv_lsub hx hb dX1_rightOf_66 ?_
    refine lv_ldc2 (v := (3 : Int64)) hx hb X.2.2.2.1 (X.2.2.2.2 _ tw_959) dX1_rightOf_67 ?_
    refine lv_aload_n hx hb dX1_rightOf_70 rfl (lv_at hl 2 rfl) ?_
    refine x_getR X hK hw (cw_mem hC 30 (by decide)) (cw_S hC 30 rfl) cpX1 0 (by decide) rfl (cw_R hC 30 0 (by decide) rfl) tw_405 dX1_rightOf_71 ?_
    refine x_getR X hK hw (cw_now hC).1.1 (cw_now hC).1.2 cpX8 0 (by decide) rfl (cw_now hC).2.1.1 tw_343 dX1_rightOf_74 ?_
    refine x_getR X hK hw (st_town (cw_now hC)).1.1 (st_town (cw_now hC)).1.2 cpX9 2 (by decide) rfl (ta_R (st_town (cw_now hC)) 2 (by decide)) tw_201 dX1_rightOf_77 ?_
    refine lv_iload_n hx hb dX1_rightOf_80 rfl (lv_at hl 3 rfl) ?_
    refine x_iald X hK hw (ta_mem (st_town (cw_now hC)) 2 (by decide)) (ta_S (st_town (cw_now hC)) 2 rfl) hi_4 rfl dX1_rightOf_81 ?_
    refine lv_i2l hx hb dX1_rightOf_82 rfl ?_
    refine lv_lmul hx hb dX1_rightOf_83 ?_
    refine lv_lsub hx hb dX1_rightOf_84 ?_
    refine lv_topl (fun x5_5 ex5_5 => ?_)
    have hf := yb_let_to ex5_5 hf
    refine lv_lstore (lv' := [(5, .long x5_5), (7, .long x7_3), (4, .int x4_1), (0, .ref (b + 30)), (1, .int x1), (2, .int x2), (3, .int x3)]) hx hb dX1_rightOf_85 hl (by decide) rfl (fun ls hl => ?_)
    refine lv_goto (tgt := 117) hx hb dX1_rightOf_87 (by decide) ?_
    refine lv_lconst (v := (0 : Int64)) hx hb dX1_rightOf_117 (by decide) ?_
    refine lv_ldc2 (v := (100 : Int64)) hx hb X.2.2.2.1 (X.2.2.2.2 _ tw_980) dX1_rightOf_118 ?_
    refine lv_lload hx hb dX1_rightOf_121 (lv_at hl 0 rfl) ?_
    refine va_mmin_long hx hb (X.2.2.1.trans hl.1.symm) X.2.2.2.1 (X.2.2.2.2 _ tw_981) (X.2.2.2.2 _ tw_982) (X.2.2.2.2 _ tw_131) (X.2.2.2.2 _ tw_983) (Nat.le_of_ble_eq_true rfl) (Nat.le_of_ble_eq_true rfl) (Nat.le_refl _) (Nat.le_refl _) dX1_rightOf_123 ?_
    refine va_mmax_long hx hb (X.2.2.1.trans hl.1.symm) X.2.2.2.1 (X.2.2.2.2 _ tw_984) (X.2.2.2.2 _ tw_985) (X.2.2.2.2 _ tw_131) (X.2.2.2.2 _ tw_986) (Nat.le_of_ble_eq_true rfl) (Nat.le_of_ble_eq_true rfl) (Nat.le_refl _) (Nat.le_refl _) dX1_rightOf_126 ?_
    refine lv_l2i hx hb dX1_rightOf_129 rfl ?_
    exact yb_reti hfin hf hw dX1_rightOf_130
  · have hf := yb_neg c_2 hf
    refine lv_iload hx hb dX1_rightOf_14 (lv_at hl 0 rfl) ?_
    refine lv_bipush (v := (6 : Int32)) hx hb dX1_rightOf_16 (by decide) ?_
    refine lv_icmp_ge (tgt := 31) hx hb dX1_rightOf_18 (by decide) (fun c_6 => ?_) (fun c_6 => ?_)
    · have hf := yb_pos c_6 hf
      refine lv_aload_n hx hb dX1_rightOf_31 rfl (lv_at hl 1 rfl) ?_
      refine x_getR X hK hw (cw_mem hC 30 (by decide)) (cw_S hC 30 rfl) cpX1 2 (by decide) rfl (cw_R hC 30 2 (by decide) rfl) tw_409 dX1_rightOf_32 ?_
      refine lv_iconst (v := (5 : Int32)) hx hb dX1_rightOf_35 (by decide) ?_
      refine x_lald X hK hw (cw_mem hC 31 (by decide)) (cw_S hC 31 rfl) (by decide) rfl dX1_rightOf_36 ?_
      refine lv_topl (fun x7_7 ex7_7 => ?_)
      have hf := yb_let_to ex7_7 hf
      refine lv_lstore (lv' := [(7, .long x7_7), (4, .int x4_1), (0, .ref (b + 30)), (1, .int x1), (2, .int x2), (3, .int x3)]) hx hb dX1_rightOf_37 hl (by decide) rfl (fun ls hl => ?_)
      refine lv_ldc2 (v := (50 : Int64)) hx hb X.2.2.2.1 (X.2.2.2.2 _ tw_956) dX1_rightOf_39 ?_
      refine lv_ldc2 (v := (5 : Int64)) hx hb X.2.2.2.1 (X.2.2.2.2 _ tw_957) dX1_rightOf_42 ?_
      refine lv_aload_n hx hb dX1_rightOf_45 rfl (lv_at hl 2 rfl) ?_
      refine x_getR X hK hw (cw_mem hC 30 (by decide)) (cw_S hC 30 rfl) cpX1 0 (by decide) rfl (cw_R hC 30 0 (by decide) rfl) tw_405 dX1_rightOf_46 ?_
      refine x_getR X hK hw (cw_now hC).1.1 (cw_now hC).1.2 cpX8 1 (by decide) rfl (cw_now hC).2.2.1.1 tw_350 dX1_rightOf_49 ?_
      refine x_getR X hK hw (st_course (cw_now hC)).1.1 (st_course (cw_now hC)).1.2 cpX0 0 (by decide) rfl (ca_R (st_course (cw_now hC)) 0 (by decide)) tw_289 dX1_rightOf_52 ?_
      refine lv_iload_n hx hb dX1_rightOf_55 rfl (lv_at hl 3 rfl) ?_
      obtain ⟨hi_8, hf⟩ := yb_ck_some hf
      refine x_iald X hK hw (ca_mem (st_course (cw_now hC)) 0 (by decide)) (ca_S (st_course (cw_now hC)) 0 rfl) hi_8 rfl dX1_rightOf_56 ?_
      refine lv_i2l hx hb dX1_rightOf_57 rfl ?_
      refine lv_lmul hx hb dX1_rightOf_58 ?_
      refine lv_ladd hx hb dX1_rightOf_59 ?_
      refine lv_ldc2 (v := (4 : Int64)) hx hb X.2.2.2.1 (X.2.2.2.2 _ tw_958) dX1_rightOf_60 ?_
      refine lv_lload hx hb dX1_rightOf_63 (lv_at hl 0 rfl) ?_
      refine lv_lmul hx hb dX1_rightOf_65 ?_
      refine lv_lsub hx hb dX1_rightOf_66 ?_
      refine lv_ldc2 (v := (3 : Int64)) hx hb X.2.2.2.1 (X.2.2.2.2 _ tw_959) dX1_rightOf_67 ?_
      refine lv_aload_n hx hb dX1_rightOf_70 rfl (lv_at hl 2 rfl) ?_
      refine x_getR X hK hw (cw_mem hC 30 (by decide)) (cw_S hC 30 rfl) cpX1 0 (by decide) rfl (cw_R hC 30 0 (by decide) rfl) tw_405 dX1_rightOf_71 ?_
      refine x_getR X hK hw (cw_now hC).1.1 (cw_now hC).1.2 cpX8 0 (by decide) rfl (cw_now hC).2.1.1 tw_343 dX1_rightOf_74 ?_
      refine x_getR X hK hw (st_town (cw_now hC)).1.1 (st_town (cw_now hC)).1.2 cpX9 2 (by decide) rfl (ta_R (st_town (cw_now hC)) 2 (by decide)) tw_201 dX1_rightOf_77 ?_
      refine lv_iload_n hx hb dX1_rightOf_80 rfl (lv_at hl 3 rfl) ?_
      refine x_iald X hK hw (ta_mem (st_town (cw_now hC)) 2 (by decide)) (ta_S (st_town (cw_now hC)) 2 rfl) hi_8 rfl dX1_rightOf_81 ?_
      refine lv_i2l hx hb dX1_rightOf_82 rfl ?_
      refine lv_lmul hx hb dX1_rightOf_83 ?_
      refine lv_lsub hx hb dX1_rightOf_84 ?_
      refine lv_topl (fun x5_9 ex5_9 => ?_)
      have hf := yb_let_to ex5_9 hf
      refine lv_lstore (lv' := [(5, .long x5_9), (7, .long x7_7), (4, .int x4_1), (0, .ref (b + 30)), (1, .int x1), (2, .int x2), (3, .int x3)]) hx hb dX1_rightOf_85 hl (by decide) rfl (fun ls hl => ?_)
      refine lv_goto (tgt := 117) hx hb dX1_rightOf_87 (by decide) ?_
      refine lv_lconst (v := (0 : Int64)) hx hb dX1_rightOf_117 (by decide) ?_
      refine lv_ldc2 (v := (100 : Int64)) hx hb X.2.2.2.1 (X.2.2.2.2 _ tw_980) dX1_rightOf_118 ?_
      refine lv_lload hx hb dX1_rightOf_121 (lv_at hl 0 rfl) ?_
      refine va_mmin_long hx hb (X.2.2.1.trans hl.1.symm) X.2.2.2.1 (X.2.2.2.2 _ tw_981) (X.2.2.2.2 _ tw_982) (X.2.2.2.2 _ tw_131) (X.2.2.2.2 _ tw_983) (Nat.le_of_ble_eq_true rfl) (Nat.le_of_ble_eq_true rfl) (Nat.le_refl _) (Nat.le_refl _) dX1_rightOf_123 ?_
      refine va_mmax_long hx hb (X.2.2.1.trans hl.1.symm) X.2.2.2.1 (X.2.2.2.2 _ tw_984) (X.2.2.2.2 _ tw_985) (X.2.2.2.2 _ tw_131) (X.2.2.2.2 _ tw_986) (Nat.le_of_ble_eq_true rfl) (Nat.le_of_ble_eq_true rfl) (Nat.le_refl _) (Nat.le_refl _) dX1_rightOf_126 ?_
      refine lv_l2i hx hb dX1_rightOf_129 rfl ?_
      exact yb_reti hfin hf hw dX1_rightOf_130
    · have hf := yb_neg c_6 hf
      refine lv_aload_n hx hb dX1_rightOf_21 rfl (lv_at hl 1 rfl) ?_
      refine x_getR X hK hw (cw_mem hC 30 (by decide)) (cw_S hC 30 rfl) cpX1 1 (by decide) rfl (cw_R hC 30 1 (by decide) rfl) tw_408 dX1_rightOf_22 ?_
      refine lv_iload hx hb dX1_rightOf_25 (lv_at hl 0 rfl) ?_
      obtain ⟨hi_10, hf⟩ := yb_ck_some hf
      rcases ho_12 : Rf (b + 3) x4_1.toNatClampNeg with _ | t_11
      · rw [ho_12] at hf
        have hf := yb_op_n hf
        refine x_aaldN_4 X hK hw (cw_mem hC 3 (by decide)) (cw_S hC 3 rfl) hi_10 rfl ho_12 dX1_rightOf_27 ?_
        refine lv_ifnonnullN hx hb dX1_rightOf_28 ?_
        refine lv_aload_n hx hb dX1_rightOf_31 rfl (lv_at hl 1 rfl) ?_
        refine x_getR X hK hw (cw_mem hC 30 (by decide)) (cw_S hC 30 rfl) cpX1 2 (by decide) rfl (cw_R hC 30 2 (by decide) rfl) tw_409 dX1_rightOf_32 ?_
        refine lv_iconst (v := (5 : Int32)) hx hb dX1_rightOf_35 (by decide) ?_
        refine x_lald X hK hw (cw_mem hC 31 (by decide)) (cw_S hC 31 rfl) (by decide) rfl dX1_rightOf_36 ?_
        refine lv_topl (fun x7_13 ex7_13 => ?_)
        have hf := yb_let_to ex7_13 hf
        refine lv_lstore (lv' := [(7, .long x7_13), (4, .int x4_1), (0, .ref (b + 30)), (1, .int x1), (2, .int x2), (3, .int x3)]) hx hb dX1_rightOf_37 hl (by decide) rfl (fun ls hl => ?_)
        refine lv_ldc2 (v := (50 : Int64)) hx hb X.2.2.2.1 (X.2.2.2.2 _ tw_956) dX1_rightOf_39 ?_
        refine lv_ldc2 (v := (5 : Int64)) hx hb X.2.2.2.1 (X.2.2.2.2 _ tw_957) dX1_rightOf_42 ?_
        refine lv_aload_n hx hb dX1_rightOf_45 rfl (lv_at hl 2 rfl) ?_
        refine x_getR X hK hw (cw_mem hC 30 (by decide)) (cw_S hC 30 rfl) cpX1 0 (by decide) rfl (cw_R hC 30 0 (by decide) rfl) tw_405 dX1_rightOf_46 ?_
        refine x_getR X hK hw (cw_now hC).1.1 (cw_now hC).1.2 cpX8 1 (by decide) rfl (cw_now hC).2.2.1.1 tw_350 dX1_rightOf_49 ?_
        refine x_getR X hK hw (st_course (cw_now hC)).1.1 (st_course (cw_now hC)).1.2 cpX0 0 (by decide) rfl (ca_R (st_course (cw_now hC)) 0 (by decide)) tw_289 dX1_rightOf_52 ?_
        refine lv_iload_n hx hb dX1_rightOf_55 rfl (lv_at hl 3 rfl) ?_
        obtain ⟨hi_14, hf⟩ := yb_ck_some hf
        refine x_iald X hK hw (ca_mem (st_course (cw_now hC)) 0 (by decide)) (ca_S (st_course (cw_now hC)) 0 rfl) hi_14 rfl dX1_rightOf_56 ?_
        refine lv_i2l hx hb dX1_rightOf_57 rfl ?_
        refine lv_lmul hx hb dX1_rightOf_58 ?_
        refine lv_ladd hx hb dX1_rightOf_59 ?_
        refine lv_ldc2 (v := (4 : Int64)) hx hb X.2.2.2.1 (X.2.2.2.2 _ tw_958) dX1_rightOf_60 ?_
        refine lv_lload hx hb dX1_rightOf_63 (lv_at hl 0 rfl) ?_
        refine lv_lmul hx hb dX1_rightOf_65 ?_
        refine lv_lsub hx hb dX1_rightOf_66 ?_
        refine lv_ldc2 (v := (3 : Int64)) hx hb X.2.2.2.1 (X.2.2.2.2 _ tw_959) dX1_rightOf_67 ?_
        refine lv_aload_n hx hb dX1_rightOf_70 rfl (lv_at hl 2 rfl) ?_
        refine x_getR X hK hw (cw_mem hC 30 (by decide)) (cw_S hC 30 rfl) cpX1 0 (by decide) rfl (cw_R hC 30 0 (by decide) rfl) tw_405 dX1_rightOf_71 ?_
        refine x_getR X hK hw (cw_now hC).1.1 (cw_now hC).1.2 cpX8 0 (by decide) rfl (cw_now hC).2.1.1 tw_343 dX1_rightOf_74 ?_
        refine x_getR X hK hw (st_town (cw_now hC)).1.1 (st_town (cw_now hC)).1.2 cpX9 2 (by decide) rfl (ta_R (st_town (cw_now hC)) 2 (by decide)) tw_201 dX1_rightOf_77 ?_
        refine lv_iload_n hx hb dX1_rightOf_80 rfl (lv_at hl 3 rfl) ?_
        refine x_iald X hK hw (ta_mem (st_town (cw_now hC)) 2 (by decide)) (ta_S (st_town (cw_now hC)) 2 rfl) hi_14 rfl dX1_rightOf_81 ?_
        refine lv_i2l hx hb dX1_rightOf_82 rfl ?_
        refine lv_lmul hx hb dX1_rightOf_83 ?_
        refine lv_lsub hx hb dX1_rightOf_84 ?_
        refine lv_topl (fun x5_15 ex5_15 => ?_)
        have hf := yb_let_to ex5_15 hf
        refine lv_lstore (lv' := [(5, .long x5_15), (7, .long x7_13), (4, .int x4_1), (0, .ref (b + 30)), (1, .int x1), (2, .int x2), (3, .int x3)]) hx hb dX1_rightOf_85 hl (by decide) rfl (fun ls hl => ?_)
        refine lv_goto (tgt := 117) hx hb dX1_rightOf_87 (by decide) ?_
        refine lv_lconst (v := (0 : Int64)) hx hb dX1_rightOf_117 (by decide) ?_
        refine lv_ldc2 (v := (100 : Int64)) hx hb X.2.2.2.1 (X.2.2.2.2 _ tw_980) dX1_rightOf_118 ?_
        refine lv_lload hx hb dX1_rightOf_121 (lv_at hl 0 rfl) ?_
        refine va_mmin_long hx hb (X.2.2.1.trans hl.1.symm) X.2.2.2.1 (X.2.2.2.2 _ tw_981) (X.2.2.2.2 _ tw_982) (X.2.2.2.2 _ tw_131) (X.2.2.2.2 _ tw_983) (Nat.le_of_ble_eq_true rfl) (Nat.le_of_ble_eq_true rfl) (Nat.le_refl _) (Nat.le_refl _) dX1_rightOf_123 ?_
        refine va_mmax_long hx hb (X.2.2.1.trans hl.1.symm) X.2.2.2.1 (X.2.2.2.2 _ tw_984) (X.2.2.2.2 _ tw_985) (X.2.2.2.2 _ tw_131) (X.2.2.2.2 _ tw_986) (Nat.le_of_ble_eq_true rfl) (Nat.le_of_ble_eq_true rfl) (Nat.le_refl _) (Nat.le_refl _) dX1_rightOf_126 ?_
        refine lv_l2i hx hb dX1_rightOf_129 rfl ?_
        exact yb_reti hfin hf hw dX1_rightOf_130
      · rw [ho_12] at hf
        have hf := yb_op_s hf
        refine x_aaldS_4 X hK hw (cw_mem hC 3 (by decide)) (cw_S hC 3 rfl) hi_10 rfl ho_12 dX1_rightOf_27 ?_
        refine lv_ifnonnull (tgt := 90) hx hb dX1_rightOf_28 (by decide) ?_
        refine lv_aload_n hx hb dX1_rightOf_90 rfl (lv_at hl 1 rfl) ?_
        refine lv_iload_n hx hb dX1_rightOf_91 rfl (lv_at hl 2 rfl) ?_
        refine lv_iload_n hx hb dX1_rightOf_92 rfl (lv_at hl 3 rfl) ?_
        refine lv_iload_n hx hb dX1_rightOf_93 rfl (lv_at hl 4 rfl) ?_
        obtain ⟨r_16, I_17, J_18, hq_19, hf⟩ := yb_b3_some hf
        refine x_callv X hK hw (c1_nameJudge l D cz ev hC hq_19) (cw_mem hC 30 (by decide)) (cw_S hC 30 rfl) cpX1.1 vw_X1_140 ⟨Nat.le_of_ble_eq_true rfl, Nat.le_of_ble_eq_true rfl⟩ rfl rfl (Nat.le_of_ble_eq_true rfl) hl.1 ⟨Nat.le_refl _, Nat.le_refl _⟩ dX1_rightOf_94 (fun H locs hw => ?_)
        refine lv_aload_n hx hb dX1_rightOf_97 rfl (lv_at hl 1 rfl) ?_
        refine x_getR X hK hw (cw_mem hC 30 (by decide)) (cw_S hC 30 rfl) cpX1 1 (by decide) rfl (cw_R hC 30 1 (by decide) rfl) tw_408 dX1_rightOf_98 ?_
        refine lv_iload hx hb dX1_rightOf_101 (lv_at hl 0 rfl) ?_
        refine x_aaldS_4 X hK hw (cw_mem hC 3 (by decide)) (cw_S hC 3 rfl) hi_10 rfl ho_12 dX1_rightOf_103 ?_
        refine lv_aload_n hx hb dX1_rightOf_104 rfl (lv_at hl 1 rfl) ?_
        refine x_getR X hK hw (cw_mem hC 30 (by decide)) (cw_S hC 30 rfl) cpX1 2 (by decide) rfl (cw_R hC 30 2 (by decide) rfl) tw_409 dX1_rightOf_105 ?_
        refine lv_aload_n hx hb dX1_rightOf_108 rfl (lv_at hl 1 rfl) ?_
        refine x_getR X hK hw (cw_mem hC 30 (by decide)) (cw_S hC 30 rfl) cpX1 3 (by decide) rfl (cw_R hC 30 3 (by decide) rfl) tw_410 dX1_rightOf_109 ?_
        obtain ⟨r_20, I_21, J_22, hq_23, hf⟩ := yb_b3_some hf
        refine x_calll X hK hw (c5_sum l D cz ev hC (cw_rule hC ho_12) hq_23) (cw_rule hC ho_12).1.1 (cw_rule hC ho_12).1.2 cpX5.1 vw_X1_144 ⟨Nat.le_of_ble_eq_true rfl, Nat.le_of_ble_eq_true rfl⟩ rfl rfl (Nat.le_of_ble_eq_true rfl) hl.1 ⟨Nat.le_refl _, Nat.le_refl _⟩ dX1_rightOf_112 (fun H locs hw => ?_)
        refine lv_lstore (lv' := [(5, .long r_20), (4, .int x4_1), (0, .ref (b + 30)), (1, .int x1), (2, .int x2), (3, .int x3)]) hx hb dX1_rightOf_115 hl (by decide) rfl (fun ls hl => ?_)
        refine lv_lconst (v := (0 : Int64)) hx hb dX1_rightOf_117 (by decide) ?_
        refine lv_ldc2 (v := (100 : Int64)) hx hb X.2.2.2.1 (X.2.2.2.2 _ tw_980) dX1_rightOf_118 ?_
        refine lv_lload hx hb dX1_rightOf_121 (lv_at hl 0 rfl) ?_
        refine va_mmin_long hx hb (X.2.2.1.trans hl.1.symm) X.2.2.2.1 (X.2.2.2.2 _ tw_981) (X.2.2.2.2 _ tw_982) (X.2.2.2.2 _ tw_131) (X.2.2.2.2 _ tw_983) (Nat.le_of_ble_eq_true rfl) (Nat.le_of_ble_eq_true rfl) (Nat.le_refl _) (Nat.le_refl _) dX1_rightOf_123 ?_
        refine va_mmax_long hx hb (X.2.2.1.trans hl.1.symm) X.2.2.2.1 (X.2.2.2.2 _ tw_984) (X.2.2.2.2 _ tw_985) (X.2.2.2.2 _ tw_131) (X.2.2.2.2 _ tw_986) (Nat.le_of_ble_eq_true rfl) (Nat.le_of_ble_eq_true rfl) (Nat.le_refl _) (Nat.le_refl _) dX1_rightOf_126 ?_
        refine lv_l2i hx hb dX1_rightOf_129 rfl ?_
        exact yb_reti hfin hf hw dX1_rightOf_130
set_option maxHeartbeats 4000000 in
set_option maxRecDepth 100000 in
theorem c1_rightNow (l : Launch) (D : va_G) (cz : Nat → ClassId) (ev : Nat × Nat × Nat) {b : Nat} {L : List Nat} {S : ST} {Rf : RT} (hC : CW b L S Rf) {N : Nat} {x1 : Int32} {x2 : Int32} {I : IT} {J : JT} {r : Int32} {I1 : IT} {J1 : JT} (hf : f1_rightNow N b S Rf x1 x2 I J = some (r, I1, J1)) : MTi l D cz ev yX1_rightNow cX1_rightNow 3 (some .int) 3 77 [.ref (b + 30), .int x1, .int x2] L S Rf I J r I1 J1 := by
  unfold f1_rightNow at hf
  refine MTi_of (by decide) (Nat.le_of_ble_eq_true rfl) ?_
  intro p e s m args below meth c Q ls X hK hw hl hfin
  have X : CallFix p m c cX1_rightNow 3 s args gw RX1 := X
  have hx := X.1
  have hb := X.2.1
  have hl : lv_has ls 3 [(0, .ref (b + 30)), (1, .int x1), (2, .int x2)] := hl
  refine lv_aload_n hx hb dX1_rightNow_0 rfl (lv_at hl 0 rfl) ?_
  refine lv_iload_n hx hb dX1_rightNow_1 rfl (lv_at hl 1 rfl) ?_
  refine lv_aload_n hx hb dX1_rightNow_2 rfl (lv_at hl 0 rfl) ?_
  refine x_getR X hK hw (cw_mem hC 30 (by decide)) (cw_S hC 30 rfl) cpX1 0 (by decide) rfl (cw_R hC 30 0 (by decide) rfl) tw_405 dX1_rightNow_3 ?_
  refine x_getR X hK hw (cw_now hC).1.1 (cw_now hC).1.2 cpX8 1 (by decide) rfl (cw_now hC).2.2.1.1 tw_350 dX1_rightNow_6 ?_
  refine x_getR X hK hw (st_course (cw_now hC)).1.1 (st_course (cw_now hC)).1.2 cpX0 8 (by decide) rfl (ca_R (st_course (cw_now hC)) 8 (by decide)) tw_315 dX1_rightNow_9 ?_
  refine lv_iload_n hx hb dX1_rightNow_12 rfl (lv_at hl 1 rfl) ?_
  obtain ⟨hi_1, hf⟩ := yb_ck_some hf
  refine x_iald X hK hw (ca_mem (st_course (cw_now hC)) 8 (by decide)) (ca_S (st_course (cw_now hC)) 8 rfl) hi_1 rfl dX1_rightNow_13 ?_
  obtain ⟨r_2, I_3, J_4, hq_5, hf⟩ := yb_b3_some hf
  refine x_callv X hK hw (c1_chargeOf l D cz ev hC hq_5) (cw_mem hC 30 (by decide)) (cw_S hC 30 rfl) cpX1.1 vw_X1_112 ⟨Nat.le_of_ble_eq_true rfl, Nat.le_of_ble_eq_true rfl⟩ rfl rfl (Nat.le_of_ble_eq_true rfl) hl.1 ⟨Nat.le_refl _, Nat.le_refl _⟩ dX1_rightNow_14 (fun H locs hw => ?_)
  refine lv_aload_n hx hb dX1_rightNow_17 rfl (lv_at hl 0 rfl) ?_
  refine lv_iload_n hx hb dX1_rightNow_18 rfl (lv_at hl 2 rfl) ?_
  refine lv_aload_n hx hb dX1_rightNow_19 rfl (lv_at hl 0 rfl) ?_
  refine x_getR X hK hw (cw_mem hC 30 (by decide)) (cw_S hC 30 rfl) cpX1 0 (by decide) rfl (cw_R hC 30 0 (by decide) rfl) tw_405 dX1_rightNow_20 ?_
  refine x_getR X hK hw (cw_now hC).1.1 (cw_now hC).1.2 cpX8 1 (by decide) rfl (cw_now hC).2.2.1.1 tw_350 dX1_rightNow_23 ?_
  refine x_getI X hK hw (st_course (cw_now hC)).1.1 (st_course (cw_now hC)).1.2 cpX0 9 (by decide) rfl tw_318 dX1_rightNow_26 ?_
  refine lv_aload_n hx hb dX1_rightNow_29 rfl (lv_at hl 0 rfl) ?_
  refine x_getR X hK hw (cw_mem hC 30 (by decide)) (cw_S hC 30 rfl) cpX1 0 (by decide) rfl (cw_R hC 30 0 (by decide) rfl) tw_405 dX1_rightNow_30 ?_
  refine x_getR X hK hw (cw_now hC).1.1 (cw_now hC).1.2 cpX8 1 (by decide) rfl (cw_now hC).2.2.1.1 tw_350 dX1_rightNow_33 ?_
  refine x_getR X hK hw (st_course (cw_now hC)).1.1 (st_course (cw_now hC)).1.2 cpX0 1 (by decide) rfl (ca_R (st_course (cw_now hC)) 1 (by decide)) tw_293 dX1_rightNow_36 ?_
  refine lv_iload_n hx hb dX1_rightNow_39 rfl (lv_at hl 2 rfl) ?_
  obtain ⟨hi_6, hf⟩ := yb_ck_some hf
  refine x_iald X hK hw (ca_mem (st_course (cw_now hC)) 1 (by decide)) (ca_S (st_course (cw_now hC)) 1 rfl) hi_6 rfl dX1_rightNow_40 ?_
  obtain ⟨r_7, I_8, J_9, hq_10, hf⟩ := yb_b3_some hf
  refine x_calli X hK hw (c1_rightOf l D cz ev hC hq_10) (cw_mem hC 30 (by decide)) (cw_S hC 30 rfl) cpX1.1 vw_X1_119 ⟨Nat.le_of_ble_eq_true rfl, Nat.le_of_ble_eq_true rfl⟩ rfl rfl (Nat.le_of_ble_eq_true rfl) hl.1 ⟨Nat.le_refl _, Nat.le_refl _⟩ dX1_rightNow_41 (fun H locs hw => ?_)
  exact yb_reti hfin hf hw dX1_rightNow_44
set_option maxHeartbeats 4000000 in
set_option maxRecDepth 100000 in
theorem c1_begin (l : Launch) (D : va_G) (cz : Nat → ClassId) (ev : Nat × Nat × Nat) {b : Nat} {L : List Nat} {S : ST} {Rf : RT} (hC : CW b L S Rf) {N : Nat} {x1 : Int32} {x2 : Int32} {I : IT} {J : JT} {r : Unit} {I1 : IT} {J1 : JT} (hf : f1_begin N b S Rf x1 x2 I J = some (r, I1, J1)) : MTv l D cz ev yX1_begin cX1_begin 4 (none) 4 99 [.ref (b + 30), .int x1, .int x2] L S Rf I J r I1 J1 := by
  unfold f1_begin at hf
  refine MTv_of (by decide) (Nat.le_of_ble_eq_true rfl) ?_
  intro p e s m args below meth c Q ls X hK hw hl hfin
  have X : CallFix p m c cX1_begin 4 s args gw RX1 := X
  have hx := X.1
  have hb := X.2.1
  have hl : lv_has ls 4 [(0, .ref (b + 30)), (1, .int x1), (2, .int x2)] := hl
  refine lv_aload_n hx hb dX1_begin_0 rfl (lv_at hl 0 rfl) ?_
  refine x_getR X hK hw (cw_mem hC 30 (by decide)) (cw_S hC 30 rfl) cpX1 0 (by decide) rfl (cw_R hC 30 0 (by decide) rfl) tw_405 dX1_begin_1 ?_
  refine x_getR X hK hw (cw_now hC).1.1 (cw_now hC).1.2 cpX8 1 (by decide) rfl (cw_now hC).2.2.1.1 tw_350 dX1_begin_4 ?_
  refine lv_astore_n (lv' := [(3, .ref (b + 14)), (0, .ref (b + 30)), (1, .int x1), (2, .int x2)]) hx hb dX1_begin_7 rfl hl (by decide) rfl (fun ls hl => ?_)
  refine lv_aload_n hx hb dX1_begin_8 rfl (lv_at hl 0 rfl) ?_
  refine x_getR X hK hw (st_course (cw_now hC)).1.1 (st_course (cw_now hC)).1.2 cpX0 4 (by decide) rfl (ca_R (st_course (cw_now hC)) 4 (by decide)) tw_304 dX1_begin_9 ?_
  refine lv_iload_n hx hb dX1_begin_12 rfl (lv_at hl 2 rfl) ?_
  refine lv_aload_n hx hb dX1_begin_13 rfl (lv_at hl 1 rfl) ?_
  refine lv_iload_n hx hb dX1_begin_14 rfl (lv_at hl 2 rfl) ?_
  refine lv_iload_n hx hb dX1_begin_15 rfl (lv_at hl 3 rfl) ?_
  obtain ⟨r_1, I_2, J_3, hq_4, hf⟩ := yb_b3_some hf
  refine x_calli X hK hw (c1_rightNow l D cz ev hC hq_4) (cw_mem hC 30 (by decide)) (cw_S hC 30 rfl) cpX1.1 vw_X1_95 ⟨Nat.le_of_ble_eq_true rfl, Nat.le_of_ble_eq_true rfl⟩ rfl rfl (Nat.le_of_ble_eq_true rfl) hl.1 ⟨Nat.le_refl _, Nat.le_refl _⟩ dX1_begin_16 (fun H locs hw => ?_)
  obtain ⟨hi_5, hf⟩ := yb_ck_some hf
  refine x_iast X hK hw (ca_mem (st_course (cw_now hC)) 4 (by decide)) (ca_S (st_course (cw_now hC)) 4 rfl) hi_5 rfl dX1_begin_19 (fun H locs hw => ?_)
  obtain ⟨I_6, eI_6, hf⟩ := yb_let_ex hf
  have hw := yb_wI eI_6 hw
  refine lv_aload_n hx hb dX1_begin_20 rfl (lv_at hl 0 rfl) ?_
  refine x_getR X hK hw (st_course (cw_now hC)).1.1 (st_course (cw_now hC)).1.2 cpX0 2 (by decide) rfl (ca_R (st_course (cw_now hC)) 2 (by decide)) tw_296 dX1_begin_21 ?_
  refine lv_iload_n hx hb dX1_begin_24 rfl (lv_at hl 2 rfl) ?_
  refine lv_iload_n hx hb dX1_begin_25 rfl (lv_at hl 3 rfl) ?_
  refine x_iast X hK hw (ca_mem (st_course (cw_now hC)) 2 (by decide)) (ca_S (st_course (cw_now hC)) 2 rfl) hi_5 rfl dX1_begin_26 (fun H locs hw => ?_)
  obtain ⟨I_7, eI_7, hf⟩ := yb_let_ex hf
  have hw := yb_wI eI_7 hw
  refine lv_aload_n hx hb dX1_begin_27 rfl (lv_at hl 0 rfl) ?_
  refine x_getR X hK hw (st_course (cw_now hC)).1.1 (st_course (cw_now hC)).1.2 cpX0 3 (by decide) rfl (ca_R (st_course (cw_now hC)) 3 (by decide)) tw_300 dX1_begin_28 ?_
  refine lv_iload_n hx hb dX1_begin_31 rfl (lv_at hl 2 rfl) ?_
  refine lv_aload_n hx hb dX1_begin_32 rfl (lv_at hl 1 rfl) ?_
  refine x_getR X hK hw (cw_mem hC 30 (by decide)) (cw_S hC 30 rfl) cpX1 0 (by decide) rfl (cw_R hC 30 0 (by decide) rfl) tw_405 dX1_begin_33 ?_
  refine x_getR X hK hw (cw_now hC).1.1 (cw_now hC).1.2 cpX8 0 (by decide) rfl (cw_now hC).2.1.1 tw_343 dX1_begin_36 ?_
  refine x_getR X hK hw (st_town (cw_now hC)).1.1 (st_town (cw_now hC)).1.2 cpX9 6 (by decide) rfl (ta_R (st_town (cw_now hC)) 6 (by decide)) tw_215 dX1_begin_39 ?_
  refine lv_iload_n hx hb dX1_begin_42 rfl (lv_at hl 2 rfl) ?_
  refine x_iald X hK hw (ta_mem (st_town (cw_now hC)) 6 (by decide)) (ta_S (st_town (cw_now hC)) 6 rfl) hi_5 rfl dX1_begin_43 ?_
  refine x_iast X hK hw (ca_mem (st_course (cw_now hC)) 3 (by decide)) (ca_S (st_course (cw_now hC)) 3 rfl) hi_5 rfl dX1_begin_44 (fun H locs hw => ?_)
  obtain ⟨I_8, eI_8, hf⟩ := yb_let_ex hf
  have hw := yb_wI eI_8 hw
  exact yb_retv hfin hf hw dX1_begin_45
set_option maxHeartbeats 4000000 in
set_option maxRecDepth 100000 in
theorem c2_forget (l : Launch) (D : va_G) (cz : Nat → ClassId) (ev : Nat × Nat × Nat) {b : Nat} {L : List Nat} {S : ST} {Rf : RT} (hC : CW b L S Rf) {I : IT} {J : JT} {r : Unit} {I1 : IT} {J1 : JT} (hf : f2_forget b S Rf I J = some (r, I1, J1)) : MTv l D cz ev yX2_forget cX2_forget 1 (none) 0 0 [.ref (b + 28)] L S Rf I J r I1 J1 := by
  unfold f2_forget at hf
  refine MTv_of (by decide) (Nat.le_of_ble_eq_true rfl) ?_
  intro p e s m args below meth c Q ls X hK hw hl hfin
  have X : CallFix p m c cX2_forget 1 s args gw RX2 := X
  have hx := X.1
  have hb := X.2.1
  have hl : lv_has ls 1 [(0, .ref (b + 28))] := hl
  refine lv_aload_n hx hb dX2_forget_0 rfl (lv_at hl 0 rfl) ?_
  refine lv_iconst (v := (0 : Int32)) hx hb dX2_forget_1 (by decide) ?_
  refine x_putI X hK hw (cw_mem hC 28 (by decide)) (cw_S hC 28 rfl) cpX2 2 (by decide) rfl rfl rfl tw_390 dX2_forget_2 (fun H locs hw => ?_)
  obtain ⟨I_1, eI_1, hf⟩ := yb_let_ex hf
  have hw := yb_wI eI_1 hw
  exact yb_retv hfin hf hw dX2_forget_5
set_option maxHeartbeats 4000000 in
set_option maxRecDepth 100000 in
theorem c2_takeBack (l : Launch) (D : va_G) (cz : Nat → ClassId) (ev : Nat × Nat × Nat) {b : Nat} {L : List Nat} {S : ST} {Rf : RT} (hC : CW b L S Rf) {t1 : Nat} (h1 : CourseAt L S Rf t1) {I : IT} {J : JT} {r : Int32} {I1 : IT} {J1 : JT} (hf : f2_takeBack b S Rf t1 I J = some (r, I1, J1)) : MTi l D cz ev yX2_takeBack cX2_takeBack 3 (some .boolean) 2 121 [.ref (b + 28), .ref t1] L S Rf I J r I1 J1 := by
  unfold f2_takeBack at hf
  refine MTz_of (by decide) (Nat.le_of_ble_eq_true rfl) ?_
  intro p e s m args below meth c Q ls X hK hw hl hfin
  have X : CallFix p m c cX2_takeBack 3 s args gw RX2 := X
  have hx := X.1
  have hb := X.2.1
  have hl : lv_has ls 3 [(0, .ref (b + 28)), (1, .ref t1)] := hl
  refine lv_aload_n hx hb dX2_takeBack_0 rfl (lv_at hl 0 rfl) ?_
  refine x_getI X hK hw (cw_mem hC 28 (by decide)) (cw_S hC 28 rfl) cpX2 1 (by decide) rfl tw_389 dX2_takeBack_1 ?_
  refine lv_if_le (tgt := 16) hx hb dX2_takeBack_4 (by decide) (fun c_1 => ?_) (fun c_1 => ?_)
  · have hf := yb_pos c_1 hf
    refine lv_bipush (v := (19 : Int32)) hx hb dX2_takeBack_16 (by decide) ?_
    refine lv_istore_n (lv' := [(2, .int (19 : Int32)), (0, .ref (b + 28)), (1, .ref t1)]) hx hb dX2_takeBack_18 rfl hl (by decide) rfl (fun ls hl => ?_)
    refine lv_aload_n hx hb dX2_takeBack_19 rfl (lv_at hl 1 rfl) ?_
    refine x_getI X hK hw (cw_mem hC 28 (by decide)) (cw_S hC 28 rfl) cpX2 2 (by decide) rfl tw_390 dX2_takeBack_20 ?_
    refine lv_if_le (tgt := 35) hx hb dX2_takeBack_23 (by decide) (fun c_2 => ?_) (fun c_2 => ?_)
    · have hf := yb_pos c_2 hf
      refine lv_iconst (v := (0 : Int32)) hx hb dX2_takeBack_35 (by decide) ?_
      exact yb_retz hfin (by decide) hf hw dX2_takeBack_36
    · have hf := yb_neg c_2 hf
      refine lv_aload_n hx hb dX2_takeBack_26 rfl (lv_at hl 1 rfl) ?_
      refine x_getR X hK hw (cw_mem hC 28 (by decide)) (cw_S hC 28 rfl) cpX2 0 (by decide) rfl (cw_R hC 28 0 (by decide) rfl) tw_388 dX2_takeBack_27 ?_
      refine lv_iload_n hx hb dX2_takeBack_30 rfl (lv_at hl 0 rfl) ?_
      rcases ho_4 : Rf (b + 29) 19 with _ | t_3
      · rw [ho_4] at hf
        have hf := yb_op_n hf
        refine x_aaldN_6 X hK hw (cw_mem hC 29 (by decide)) (cw_S hC 29 rfl) (by decide) rfl ho_4 dX2_takeBack_31 ?_
        refine lv_ifnonnullN hx hb dX2_takeBack_32 ?_
        refine lv_iconst (v := (0 : Int32)) hx hb dX2_takeBack_35 (by decide) ?_
        exact yb_retz hfin (by decide) hf hw dX2_takeBack_36
      · rw [ho_4] at hf
        have hf := yb_op_s hf
        refine x_aaldS_6 X hK hw (cw_mem hC 29 (by decide)) (cw_S hC 29 rfl) (by decide) rfl ho_4 dX2_takeBack_31 ?_
        refine lv_ifnonnull (tgt := 37) hx hb dX2_takeBack_32 (by decide) ?_
        refine lv_aload_n hx hb dX2_takeBack_37 rfl (lv_at hl 2 rfl) ?_
        refine lv_aload_n hx hb dX2_takeBack_38 rfl (lv_at hl 1 rfl) ?_
        refine x_getR X hK hw (cw_mem hC 28 (by decide)) (cw_S hC 28 rfl) cpX2 0 (by decide) rfl (cw_R hC 28 0 (by decide) rfl) tw_388 dX2_takeBack_39 ?_
        refine lv_iload_n hx hb dX2_takeBack_42 rfl (lv_at hl 0 rfl) ?_
        refine x_aaldS_6 X hK hw (cw_mem hC 29 (by decide)) (cw_S hC 29 rfl) (by decide) rfl ho_4 dX2_takeBack_43 ?_
        obtain ⟨r_5, I_6, J_7, hq_8, hf⟩ := yb_b3_some hf
        refine x_callv X hK hw (c0_copy l D cz ev hC h1 (cw_ring hC ho_4) hq_8) h1.1.1 h1.1.2 cpX0.1 vw_X2_25 ⟨Nat.le_of_ble_eq_true rfl, Nat.le_of_ble_eq_true rfl⟩ rfl rfl (Nat.le_of_ble_eq_true rfl) hl.1 ⟨Nat.le_refl _, Nat.le_refl _⟩ dX2_takeBack_44 (fun H locs hw => ?_)
        refine lv_aload_n hx hb dX2_takeBack_47 rfl (lv_at hl 1 rfl) ?_
        refine lv_iload_n hx hb dX2_takeBack_48 rfl (lv_at hl 0 rfl) ?_
        refine x_putI X hK hw (cw_mem hC 28 (by decide)) (cw_S hC 28 rfl) cpX2 1 (by decide) rfl rfl rfl tw_389 dX2_takeBack_49 (fun H locs hw => ?_)
        obtain ⟨I_9, eI_9, hf⟩ := yb_let_ex hf
        have hw := yb_wI eI_9 hw
        refine lv_aload_n hx hb dX2_takeBack_52 rfl (lv_at hl 1 rfl) ?_
        refine lv_dup hx hb dX2_takeBack_53 rfl ?_
        refine x_getI X hK hw (cw_mem hC 28 (by decide)) (cw_S hC 28 rfl) cpX2 2 (by decide) rfl tw_390 dX2_takeBack_54 ?_
        refine lv_iconst (v := (1 : Int32)) hx hb dX2_takeBack_57 (by decide) ?_
        refine lv_isub hx hb dX2_takeBack_58 ?_
        refine x_putI X hK hw (cw_mem hC 28 (by decide)) (cw_S hC 28 rfl) cpX2 2 (by decide) rfl rfl rfl tw_390 dX2_takeBack_59 (fun H locs hw => ?_)
        obtain ⟨I_10, eI_10, hf⟩ := yb_let_ex hf
        have hw := yb_wI eI_10 hw
        refine lv_iconst (v := (1 : Int32)) hx hb dX2_takeBack_62 (by decide) ?_
        exact yb_retz hfin (by decide) hf hw dX2_takeBack_63
  · have hf := yb_neg c_1 hf
    refine lv_aload_n hx hb dX2_takeBack_7 rfl (lv_at hl 0 rfl) ?_
    refine x_getI X hK hw (cw_mem hC 28 (by decide)) (cw_S hC 28 rfl) cpX2 1 (by decide) rfl tw_389 dX2_takeBack_8 ?_
    refine lv_iconst (v := (1 : Int32)) hx hb dX2_takeBack_11 (by decide) ?_
    refine lv_isub hx hb dX2_takeBack_12 ?_
    refine lv_goto (tgt := 18) hx hb dX2_takeBack_13 (by decide) ?_
    refine lv_topi (fun x2_11 ex2_11 => ?_)
    have hf := yb_let_to ex2_11 hf
    refine lv_istore_n (lv' := [(2, .int x2_11), (0, .ref (b + 28)), (1, .ref t1)]) hx hb dX2_takeBack_18 rfl hl (by decide) rfl (fun ls hl => ?_)
    refine lv_aload_n hx hb dX2_takeBack_19 rfl (lv_at hl 1 rfl) ?_
    refine x_getI X hK hw (cw_mem hC 28 (by decide)) (cw_S hC 28 rfl) cpX2 2 (by decide) rfl tw_390 dX2_takeBack_20 ?_
    refine lv_if_le (tgt := 35) hx hb dX2_takeBack_23 (by decide) (fun c_12 => ?_) (fun c_12 => ?_)
    · have hf := yb_pos c_12 hf
      refine lv_iconst (v := (0 : Int32)) hx hb dX2_takeBack_35 (by decide) ?_
      exact yb_retz hfin (by decide) hf hw dX2_takeBack_36
    · have hf := yb_neg c_12 hf
      refine lv_aload_n hx hb dX2_takeBack_26 rfl (lv_at hl 1 rfl) ?_
      refine x_getR X hK hw (cw_mem hC 28 (by decide)) (cw_S hC 28 rfl) cpX2 0 (by decide) rfl (cw_R hC 28 0 (by decide) rfl) tw_388 dX2_takeBack_27 ?_
      refine lv_iload_n hx hb dX2_takeBack_30 rfl (lv_at hl 0 rfl) ?_
      obtain ⟨hi_13, hf⟩ := yb_ck_some hf
      rcases ho_15 : Rf (b + 29) x2_11.toNatClampNeg with _ | t_14
      · rw [ho_15] at hf
        have hf := yb_op_n hf
        refine x_aaldN_6 X hK hw (cw_mem hC 29 (by decide)) (cw_S hC 29 rfl) hi_13 rfl ho_15 dX2_takeBack_31 ?_
        refine lv_ifnonnullN hx hb dX2_takeBack_32 ?_
        refine lv_iconst (v := (0 : Int32)) hx hb dX2_takeBack_35 (by decide) ?_
        exact yb_retz hfin (by decide) hf hw dX2_takeBack_36
      · rw [ho_15] at hf
        have hf := yb_op_s hf
        refine x_aaldS_6 X hK hw (cw_mem hC 29 (by decide)) (cw_S hC 29 rfl) hi_13 rfl ho_15 dX2_takeBack_31 ?_
        refine lv_ifnonnull (tgt := 37) hx hb dX2_takeBack_32 (by decide) ?_
        refine lv_aload_n hx hb dX2_takeBack_37 rfl (lv_at hl 2 rfl) ?_
        refine lv_aload_n hx hb dX2_takeBack_38 rfl (lv_at hl 1 rfl) ?_
        refine x_getR X hK hw (cw_mem hC 28 (by decide)) (cw_S hC 28 rfl) cpX2 0 (by decide) rfl (cw_R hC 28 0 (by decide) rfl) tw_388 dX2_takeBack_39 ?_
        refine lv_iload_n hx hb dX2_takeBack_42 rfl (lv_at hl 0 rfl) ?_
        refine x_aaldS_6 X hK hw (cw_mem hC 29 (by decide)) (cw_S hC 29 rfl) hi_13 rfl ho_15 dX2_takeBack_43 ?_
        obtain ⟨r_16, I_17, J_18, hq_19, hf⟩ := yb_b3_some hf
        refine x_callv X hK hw (c0_copy l D cz ev hC h1 (cw_ring hC ho_15) hq_19) h1.1.1 h1.1.2 cpX0.1 vw_X2_25 ⟨Nat.le_of_ble_eq_true rfl, Nat.le_of_ble_eq_true rfl⟩ rfl rfl (Nat.le_of_ble_eq_true rfl) hl.1 ⟨Nat.le_refl _, Nat.le_refl _⟩ dX2_takeBack_44 (fun H locs hw => ?_)
        refine lv_aload_n hx hb dX2_takeBack_47 rfl (lv_at hl 1 rfl) ?_
        refine lv_iload_n hx hb dX2_takeBack_48 rfl (lv_at hl 0 rfl) ?_
        refine x_putI X hK hw (cw_mem hC 28 (by decide)) (cw_S hC 28 rfl) cpX2 1 (by decide) rfl rfl rfl tw_389 dX2_takeBack_49 (fun H locs hw => ?_)
        obtain ⟨I_20, eI_20, hf⟩ := yb_let_ex hf
        have hw := yb_wI eI_20 hw
        refine lv_aload_n hx hb dX2_takeBack_52 rfl (lv_at hl 1 rfl) ?_
        refine lv_dup hx hb dX2_takeBack_53 rfl ?_
        refine x_getI X hK hw (cw_mem hC 28 (by decide)) (cw_S hC 28 rfl) cpX2 2 (by decide) rfl tw_390 dX2_takeBack_54 ?_
        refine lv_iconst (v := (1 : Int32)) hx hb dX2_takeBack_57 (by decide) ?_
        refine lv_isub hx hb dX2_takeBack_58 ?_
        refine x_putI X hK hw (cw_mem hC 28 (by decide)) (cw_S hC 28 rfl) cpX2 2 (by decide) rfl rfl rfl tw_390 dX2_takeBack_59 (fun H locs hw => ?_)
        obtain ⟨I_21, eI_21, hf⟩ := yb_let_ex hf
        have hw := yb_wI eI_21 hw
        refine lv_iconst (v := (1 : Int32)) hx hb dX2_takeBack_62 (by decide) ?_
        exact yb_retz hfin (by decide) hf hw dX2_takeBack_63
set_option maxHeartbeats 4000000 in
set_option maxRecDepth 100000 in
theorem w3_moveTo_L5 {p : Program} {l : Launch} {e : Env} {s : State} {m : MethodId} {args : Array Value} {below : List Frame} {meth : Method} {c : Code} {Q : State → Prop} {D : va_G} {cz : Nat → ClassId} {A : Nat → Prop} {ev : Nat × Nat × Nat} {b : Nat} {L : List Nat} {S : ST} {Rf : RT} (hC : CW b L S Rf) (X : CallFix p m c cX3_moveTo 2 s args gw RX3) (hK : KX D cz ev A s) {N : Nat} :
    ∀ (n : Nat) (I : IT) (J : JT) (q : (Unit)) (I1 : IT) (J1 : JT) (H : Heap) (locs : List Loc) (ls : Array Slot), f3_moveTo_L5 N b S Rf n I J = some (q, I1, J1) → WX D cz A L S Rf s.heap I J H locs → lv_has ls 2 [(0, .ref (b + 2))] →
    (∀ (H : Heap) (locs : List Loc) (ls : Array Slot), WX D cz A L S Rf s.heap I1 J1 H locs → lv_has ls 2 [] → W p l e (rmX 0 0) s m args below meth c H locs 0 0 Q (F0 m 43 ls [])) →
    W p l e (rmX 0 0) s m args below meth c H locs 0 0 Q (F0 m 5 ls []) := by
  have hx := X.1
  have hb := X.2.1
  intro n
  induction n with
  | zero =>
    intro  I J q I1 J1 H locs ls hf
    rw [f3_moveTo_L5] at hf
    cases hf
  | succ n ih =>
    intro  I J q I1 J1 H locs ls hf hw hl hexit
    rw [f3_moveTo_L5] at hf
    refine lv_aload_n hx hb dX3_moveTo_5 rfl (lv_at hl 0 rfl) ?_
    refine x_getI X hK hw (cw_mem hC 2 (by decide)) (cw_S hC 2 rfl) cpX3 2 (by decide) rfl tw_158 dX3_moveTo_6 ?_
    refine lv_aload_n hx hb dX3_moveTo_9 rfl (lv_at hl 0 rfl) ?_
    refine x_getI X hK hw (cw_mem hC 2 (by decide)) (cw_S hC 2 rfl) cpX3 1 (by decide) rfl tw_156 dX3_moveTo_10 ?_
    refine lv_icmp_ge (tgt := 43) hx hb dX3_moveTo_13 (by decide) (fun c_2 => ?_) (fun c_2 => ?_)
    · have hf := yb_pos c_2 hf
      obtain ⟨rfl, rfl, rfl⟩ := yb_inj hf
      exact hexit _ _ _ hw (lv_sub hl [] rfl)
    · have hf := yb_neg c_2 hf
      refine lv_aload_n hx hb dX3_moveTo_16 rfl (lv_at hl 0 rfl) ?_
      refine x_getR X hK hw (cw_mem hC 2 (by decide)) (cw_S hC 2 rfl) cpX3 0 (by decide) rfl (cw_R hC 2 0 (by decide) rfl) tw_154 dX3_moveTo_17 ?_
      refine lv_aload_n hx hb dX3_moveTo_20 rfl (lv_at hl 0 rfl) ?_
      refine x_getI X hK hw (cw_mem hC 2 (by decide)) (cw_S hC 2 rfl) cpX3 2 (by decide) rfl tw_158 dX3_moveTo_21 ?_
      obtain ⟨hi_3, hf⟩ := yb_ck_some hf
      refine x_iald X hK hw (cw_mem hC 1 (by decide)) (cw_S hC 1 rfl) hi_3 rfl dX3_moveTo_24 ?_
      refine lv_bipush (v := (32 : Int32)) hx hb dX3_moveTo_25 (by decide) ?_
      refine lv_icmp_ne (tgt := 43) hx hb dX3_moveTo_27 (by decide) (fun c_4 => ?_) (fun c_4 => ?_)
      · have hf := yb_neg c_4 hf
        obtain ⟨rfl, rfl, rfl⟩ := yb_inj hf
        exact hexit _ _ _ hw (lv_sub hl [] rfl)
      · have hf := yb_pos c_4 hf
        refine lv_aload_n hx hb dX3_moveTo_30 rfl (lv_at hl 0 rfl) ?_
        refine lv_dup hx hb dX3_moveTo_31 rfl ?_
        refine x_getI X hK hw (cw_mem hC 2 (by decide)) (cw_S hC 2 rfl) cpX3 2 (by decide) rfl tw_158 dX3_moveTo_32 ?_
        refine lv_iconst (v := (1 : Int32)) hx hb dX3_moveTo_35 (by decide) ?_
        refine lv_iadd hx hb dX3_moveTo_36 ?_
        refine x_putI X hK hw (cw_mem hC 2 (by decide)) (cw_S hC 2 rfl) cpX3 2 (by decide) rfl rfl rfl tw_158 dX3_moveTo_37 (fun H locs hw => ?_)
        obtain ⟨I_5, eI_5, hf⟩ := yb_let_ex hf
        have hw := yb_wI eI_5 hw
        refine lv_goto (tgt := 5) hx hb dX3_moveTo_40 (by decide) ?_
        exact ih  _ _ _ _ _ _ _ _ hf hw (lv_sub hl [0] rfl) hexit
set_option maxHeartbeats 4000000 in
set_option maxRecDepth 100000 in
theorem c3_moveTo (l : Launch) (D : va_G) (cz : Nat → ClassId) (ev : Nat × Nat × Nat) {b : Nat} {L : List Nat} {S : ST} {Rf : RT} (hC : CW b L S Rf) {N : Nat} {x1 : Int32} {I : IT} {J : JT} {r : Unit} {I1 : IT} {J1 : JT} (hf : f3_moveTo N b S Rf x1 I J = some (r, I1, J1)) : MTv l D cz ev yX3_moveTo cX3_moveTo 2 (none) 0 0 [.ref (b + 2), .int x1] L S Rf I J r I1 J1 := by
  unfold f3_moveTo at hf
  refine MTv_of (by decide) (Nat.le_of_ble_eq_true rfl) ?_
  intro p e s m args below meth c Q ls X hK hw hl hfin
  have X : CallFix p m c cX3_moveTo 2 s args gw RX3 := X
  have hx := X.1
  have hb := X.2.1
  have hl : lv_has ls 2 [(0, .ref (b + 2)), (1, .int x1)] := hl
  refine lv_aload_n hx hb dX3_moveTo_0 rfl (lv_at hl 0 rfl) ?_
  refine lv_iload_n hx hb dX3_moveTo_1 rfl (lv_at hl 1 rfl) ?_
  refine x_putI X hK hw (cw_mem hC 2 (by decide)) (cw_S hC 2 rfl) cpX3 2 (by decide) rfl rfl rfl tw_158 dX3_moveTo_2 (fun H locs hw => ?_)
  obtain ⟨I_1, eI_1, hf⟩ := yb_let_ex hf
  have hw := yb_wI eI_1 hw
  obtain ⟨q_6, I_7, J_8, hq_9, hf⟩ := yb_b3_some hf
  refine w3_moveTo_L5 hC X hK _  _ _ _ _ _ _ _ _ hq_9 hw (lv_sub hl [0] rfl) (fun H locs ls hw hl => ?_)
  exact yb_retv hfin hf hw dX3_moveTo_43
set_option maxHeartbeats 4000000 in
set_option maxRecDepth 100000 in
theorem c3_open (l : Launch) (D : va_G) (cz : Nat → ClassId) (ev : Nat × Nat × Nat) {b : Nat} {L : List Nat} {S : ST} {Rf : RT} (hC : CW b L S Rf) {N : Nat} {x1 : Int32} {I : IT} {J : JT} {r : Unit} {I1 : IT} {J1 : JT} (hf : f3_open N b S Rf x1 I J = some (r, I1, J1)) : MTv l D cz ev yX3_open cX3_open 2 (none) 1 40 [.ref (b + 2), .int x1] L S Rf I J r I1 J1 := by
  unfold f3_open at hf
  refine MTv_of (by decide) (Nat.le_of_ble_eq_true rfl) ?_
  intro p e s m args below meth c Q ls X hK hw hl hfin
  have X : CallFix p m c cX3_open 2 s args gw RX3 := X
  have hx := X.1
  have hb := X.2.1
  have hl : lv_has ls 2 [(0, .ref (b + 2)), (1, .int x1)] := hl
  refine lv_aload_n hx hb dX3_open_0 rfl (lv_at hl 0 rfl) ?_
  refine lv_iload_n hx hb dX3_open_1 rfl (lv_at hl 1 rfl) ?_
  refine lv_aload_n hx hb dX3_open_2 rfl (lv_at hl 0 rfl) ?_
  refine x_getR X hK hw (cw_mem hC 2 (by decide)) (cw_S hC 2 rfl) cpX3 0 (by decide) rfl (cw_R hC 2 0 (by decide) rfl) tw_154 dX3_open_3 ?_
  refine x_alen X hK hw (cw_mem hC 1 (by decide)) (cw_S hC 1 rfl) dX3_open_6 ?_
  refine va_mmin hx hb (X.2.2.1.trans hl.1.symm) X.2.2.2.1 (X.2.2.2.2 _ tw_632) (X.2.2.2.2 _ tw_633) (X.2.2.2.2 _ tw_131) (X.2.2.2.2 _ tw_634) (Nat.le_of_ble_eq_true rfl) (Nat.le_of_ble_eq_true rfl) (Nat.le_refl _) (Nat.le_refl _) dX3_open_7 ?_
  refine x_putI X hK hw (cw_mem hC 2 (by decide)) (cw_S hC 2 rfl) cpX3 1 (by decide) rfl rfl rfl tw_156 dX3_open_10 (fun H locs hw => ?_)
  obtain ⟨I_1, eI_1, hf⟩ := yb_let_ex hf
  have hw := yb_wI eI_1 hw
  refine lv_aload_n hx hb dX3_open_13 rfl (lv_at hl 0 rfl) ?_
  refine lv_iconst (v := (0 : Int32)) hx hb dX3_open_14 (by decide) ?_
  refine x_putI X hK hw (cw_mem hC 2 (by decide)) (cw_S hC 2 rfl) cpX3 4 (by decide) rfl rfl rfl tw_162 dX3_open_15 (fun H locs hw => ?_)
  obtain ⟨I_2, eI_2, hf⟩ := yb_let_ex hf
  have hw := yb_wI eI_2 hw
  refine lv_aload_n hx hb dX3_open_18 rfl (lv_at hl 0 rfl) ?_
  refine lv_iconst (v := (0 : Int32)) hx hb dX3_open_19 (by decide) ?_
  obtain ⟨r_3, I_4, J_5, hq_6, hf⟩ := yb_b3_some hf
  refine x_callv X hK hw (c3_moveTo l D cz ev hC hq_6) (cw_mem hC 2 (by decide)) (cw_S hC 2 rfl) cpX3.1 vw_X3_28 ⟨Nat.le_of_ble_eq_true rfl, Nat.le_of_ble_eq_true rfl⟩ rfl rfl (Nat.le_of_ble_eq_true rfl) hl.1 ⟨Nat.le_refl _, Nat.le_refl _⟩ dX3_open_20 (fun H locs hw => ?_)
  exact yb_retv hfin hf hw dX3_open_23
set_option maxHeartbeats 4000000 in
set_option maxRecDepth 100000 in
theorem c3_passSign (l : Launch) (D : va_G) (cz : Nat → ClassId) (ev : Nat × Nat × Nat) {b : Nat} {L : List Nat} {S : ST} {Rf : RT} (hC : CW b L S Rf) {N : Nat} {I : IT} {J : JT} {r : Unit} {I1 : IT} {J1 : JT} (hf : f3_passSign N b S Rf I J = some (r, I1, J1)) : MTv l D cz ev yX3_passSign cX3_passSign 1 (none) 1 21 [.ref (b + 2)] L S Rf I J r I1 J1 := by
  unfold f3_passSign at hf
  refine MTv_of (by decide) (Nat.le_of_ble_eq_true rfl) ?_
  intro p e s m args below meth c Q ls X hK hw hl hfin
  have X : CallFix p m c cX3_passSign 1 s args gw RX3 := X
  have hx := X.1
  have hb := X.2.1
  have hl : lv_has ls 1 [(0, .ref (b + 2))] := hl
  refine lv_aload_n hx hb dX3_passSign_0 rfl (lv_at hl 0 rfl) ?_
  refine lv_aload_n hx hb dX3_passSign_1 rfl (lv_at hl 0 rfl) ?_
  refine x_getI X hK hw (cw_mem hC 2 (by decide)) (cw_S hC 2 rfl) cpX3 2 (by decide) rfl tw_158 dX3_passSign_2 ?_
  refine lv_iconst (v := (1 : Int32)) hx hb dX3_passSign_5 (by decide) ?_
  refine lv_iadd hx hb dX3_passSign_6 ?_
  obtain ⟨r_1, I_2, J_3, hq_4, hf⟩ := yb_b3_some hf
  refine x_callv X hK hw (c3_moveTo l D cz ev hC hq_4) (cw_mem hC 2 (by decide)) (cw_S hC 2 rfl) cpX3.1 vw_X3_28 ⟨Nat.le_of_ble_eq_true rfl, Nat.le_of_ble_eq_true rfl⟩ rfl rfl (Nat.le_of_ble_eq_true rfl) hl.1 ⟨Nat.le_refl _, Nat.le_refl _⟩ dX3_passSign_7 (fun H locs hw => ?_)
  exact yb_retv hfin hf hw dX3_passSign_10
set_option maxHeartbeats 4000000 in
set_option maxRecDepth 100000 in
theorem c3_passWord (l : Launch) (D : va_G) (cz : Nat → ClassId) (ev : Nat × Nat × Nat) {b : Nat} {L : List Nat} {S : ST} {Rf : RT} (hC : CW b L S Rf) {N : Nat} {I : IT} {J : JT} {r : Unit} {I1 : IT} {J1 : JT} (hf : f3_passWord N b S Rf I J = some (r, I1, J1)) : MTv l D cz ev yX3_passWord cX3_passWord 1 (none) 1 21 [.ref (b + 2)] L S Rf I J r I1 J1 := by
  unfold f3_passWord at hf
  refine MTv_of (by decide) (Nat.le_of_ble_eq_true rfl) ?_
  intro p e s m args below meth c Q ls X hK hw hl hfin
  have X : CallFix p m c cX3_passWord 1 s args gw RX3 := X
  have hx := X.1
  have hb := X.2.1
  have hl : lv_has ls 1 [(0, .ref (b + 2))] := hl
  refine lv_aload_n hx hb dX3_passWord_0 rfl (lv_at hl 0 rfl) ?_
  refine lv_aload_n hx hb dX3_passWord_1 rfl (lv_at hl 0 rfl) ?_
  refine x_getI X hK hw (cw_mem hC 2 (by decide)) (cw_S hC 2 rfl) cpX3 3 (by decide) rfl tw_161 dX3_passWord_2 ?_
  obtain ⟨r_1, I_2, J_3, hq_4, hf⟩ := yb_b3_some hf
  refine x_callv X hK hw (c3_moveTo l D cz ev hC hq_4) (cw_mem hC 2 (by decide)) (cw_S hC 2 rfl) cpX3.1 vw_X3_28 ⟨Nat.le_of_ble_eq_true rfl, Nat.le_of_ble_eq_true rfl⟩ rfl rfl (Nat.le_of_ble_eq_true rfl) hl.1 ⟨Nat.le_refl _, Nat.le_refl _⟩ dX3_passWord_5 (fun H locs hw => ?_)
  exact yb_retv hfin hf hw dX3_passWord_8
set_option maxHeartbeats 4000000 in
set_option maxRecDepth 100000 in
theorem c3_sign (l : Launch) (D : va_G) (cz : Nat → ClassId) (ev : Nat × Nat × Nat) {b : Nat} {L : List Nat} {S : ST} {Rf : RT} (hC : CW b L S Rf) {I : IT} {J : JT} {r : Int32} {I1 : IT} {J1 : JT} (hf : f3_sign b S Rf I J = some (r, I1, J1)) : MTi l D cz ev yX3_sign cX3_sign 1 (some .int) 0 0 [.ref (b + 2)] L S Rf I J r I1 J1 := by
  unfold f3_sign at hf
  refine MTi_of (by decide) (Nat.le_of_ble_eq_true rfl) ?_
  intro p e s m args below meth c Q ls X hK hw hl hfin
  have X : CallFix p m c cX3_sign 1 s args gw RX3 := X
  have hx := X.1
  have hb := X.2.1
  have hl : lv_has ls 1 [(0, .ref (b + 2))] := hl
  refine lv_aload_n hx hb dX3_sign_0 rfl (lv_at hl 0 rfl) ?_
  refine x_getI X hK hw (cw_mem hC 2 (by decide)) (cw_S hC 2 rfl) cpX3 2 (by decide) rfl tw_158 dX3_sign_1 ?_
  refine lv_aload_n hx hb dX3_sign_4 rfl (lv_at hl 0 rfl) ?_
  refine x_getI X hK hw (cw_mem hC 2 (by decide)) (cw_S hC 2 rfl) cpX3 1 (by decide) rfl tw_156 dX3_sign_5 ?_
  refine lv_icmp_ge (tgt := 23) hx hb dX3_sign_8 (by decide) (fun c_1 => ?_) (fun c_1 => ?_)
  · have hf := yb_pos c_1 hf
    refine lv_iconst (v := (-1 : Int32)) hx hb dX3_sign_23 (by decide) ?_
    exact yb_reti hfin hf hw dX3_sign_24
  · have hf := yb_neg c_1 hf
    refine lv_aload_n hx hb dX3_sign_11 rfl (lv_at hl 0 rfl) ?_
    refine x_getR X hK hw (cw_mem hC 2 (by decide)) (cw_S hC 2 rfl) cpX3 0 (by decide) rfl (cw_R hC 2 0 (by decide) rfl) tw_154 dX3_sign_12 ?_
    refine lv_aload_n hx hb dX3_sign_15 rfl (lv_at hl 0 rfl) ?_
    refine x_getI X hK hw (cw_mem hC 2 (by decide)) (cw_S hC 2 rfl) cpX3 2 (by decide) rfl tw_158 dX3_sign_16 ?_
    obtain ⟨hi_2, hf⟩ := yb_ck_some hf
    refine x_iald X hK hw (cw_mem hC 1 (by decide)) (cw_S hC 1 rfl) hi_2 rfl dX3_sign_19 ?_
    refine lv_goto (tgt := 24) hx hb dX3_sign_20 (by decide) ?_
    exact yb_reti hfin hf hw dX3_sign_24
set_option maxHeartbeats 4000000 in
set_option maxRecDepth 100000 in
theorem c3_failAt (l : Launch) (D : va_G) (cz : Nat → ClassId) (ev : Nat × Nat × Nat) {b : Nat} {L : List Nat} {S : ST} {Rf : RT} (hC : CW b L S Rf) {x1 : Int32} {x2 : Int32} {I : IT} {J : JT} {r : Int32} {I1 : IT} {J1 : JT} (hf : f3_failAt b S Rf x1 x2 I J = some (r, I1, J1)) : MTi l D cz ev yX3_failAt cX3_failAt 3 (some .boolean) 0 0 [.ref (b + 2), .int x1, .int x2] L S Rf I J r I1 J1 := by
  unfold f3_failAt at hf
  refine MTz_of (by decide) (Nat.le_of_ble_eq_true rfl) ?_
  intro p e s m args below meth c Q ls X hK hw hl hfin
  have X : CallFix p m c cX3_failAt 3 s args gw RX3 := X
  have hx := X.1
  have hb := X.2.1
  have hl : lv_has ls 3 [(0, .ref (b + 2)), (1, .int x1), (2, .int x2)] := hl
  refine lv_aload_n hx hb dX3_failAt_0 rfl (lv_at hl 0 rfl) ?_
  refine lv_iconst (v := (1 : Int32)) hx hb dX3_failAt_1 (by decide) ?_
  refine lv_bipush (v := (8 : Int32)) hx hb dX3_failAt_2 (by decide) ?_
  refine lv_iload_n hx hb dX3_failAt_4 rfl (lv_at hl 1 rfl) ?_
  refine lv_imul hx hb dX3_failAt_5 ?_
  refine lv_iadd hx hb dX3_failAt_6 ?_
  refine lv_iload_n hx hb dX3_failAt_7 rfl (lv_at hl 2 rfl) ?_
  refine lv_iadd hx hb dX3_failAt_8 ?_
  refine x_putI X hK hw (cw_mem hC 2 (by decide)) (cw_S hC 2 rfl) cpX3 4 (by decide) rfl rfl rfl tw_162 dX3_failAt_9 (fun H locs hw => ?_)
  obtain ⟨I_1, eI_1, hf⟩ := yb_let_ex hf
  have hw := yb_wI eI_1 hw
  refine lv_iconst (v := (0 : Int32)) hx hb dX3_failAt_12 (by decide) ?_
  exact yb_retz hfin (by decide) hf hw dX3_failAt_13
set_option maxHeartbeats 4000000 in
set_option maxRecDepth 100000 in
theorem c3_fail (l : Launch) (D : va_G) (cz : Nat → ClassId) (ev : Nat × Nat × Nat) {b : Nat} {L : List Nat} {S : ST} {Rf : RT} (hC : CW b L S Rf) {x1 : Int32} {I : IT} {J : JT} {r : Int32} {I1 : IT} {J1 : JT} (hf : f3_fail b S Rf x1 I J = some (r, I1, J1)) : MTi l D cz ev yX3_fail cX3_fail 2 (some .boolean) 1 22 [.ref (b + 2), .int x1] L S Rf I J r I1 J1 := by
  unfold f3_fail at hf
  refine MTz_of (by decide) (Nat.le_of_ble_eq_true rfl) ?_
  intro p e s m args below meth c Q ls X hK hw hl hfin
  have X : CallFix p m c cX3_fail 2 s args gw RX3 := X
  have hx := X.1
  have hb := X.2.1
  have hl : lv_has ls 2 [(0, .ref (b + 2)), (1, .int x1)] := hl
  refine lv_aload_n hx hb dX3_fail_0 rfl (lv_at hl 0 rfl) ?_
  refine lv_aload_n hx hb dX3_fail_1 rfl (lv_at hl 0 rfl) ?_
  refine x_getI X hK hw (cw_mem hC 2 (by decide)) (cw_S hC 2 rfl) cpX3 2 (by decide) rfl tw_158 dX3_fail_2 ?_
  refine lv_iload_n hx hb dX3_fail_5 rfl (lv_at hl 1 rfl) ?_
  obtain ⟨r_1, I_2, J_3, hq_4, hf⟩ := yb_b3_some hf
  refine x_calli X hK hw (c3_failAt l D cz ev hC hq_4) (cw_mem hC 2 (by decide)) (cw_S hC 2 rfl) cpX3.1 vw_X3_38 ⟨Nat.le_of_ble_eq_true rfl, Nat.le_of_ble_eq_true rfl⟩ rfl rfl (Nat.le_of_ble_eq_true rfl) hl.1 ⟨Nat.le_refl _, Nat.le_refl _⟩ dX3_fail_6 (fun H locs hw => ?_)
  obtain ⟨hz_5, hf⟩ := yb_ck_some hf
  exact yb_retz hfin hz_5 hf hw dX3_fail_9
set_option maxHeartbeats 4000000 in
set_option maxRecDepth 100000 in
theorem c3_atDigit (l : Launch) (D : va_G) (cz : Nat → ClassId) (ev : Nat × Nat × Nat) {b : Nat} {L : List Nat} {S : ST} {Rf : RT} (hC : CW b L S Rf) {I : IT} {J : JT} {r : Int32} {I1 : IT} {J1 : JT} (hf : f3_atDigit b S Rf I J = some (r, I1, J1)) : MTi l D cz ev yX3_atDigit cX3_atDigit 1 (some .boolean) 1 20 [.ref (b + 2)] L S Rf I J r I1 J1 := by
  unfold f3_atDigit at hf
  refine MTz_of (by decide) (Nat.le_of_ble_eq_true rfl) ?_
  intro p e s m args below meth c Q ls X hK hw hl hfin
  have X : CallFix p m c cX3_atDigit 1 s args gw RX3 := X
  have hx := X.1
  have hb := X.2.1
  have hl : lv_has ls 1 [(0, .ref (b + 2))] := hl
  refine lv_aload_n hx hb dX3_atDigit_0 rfl (lv_at hl 0 rfl) ?_
  obtain ⟨r_1, I_2, J_3, hq_4, hf⟩ := yb_b3_some hf
  refine x_calli X hK hw (c3_sign l D cz ev hC hq_4) (cw_mem hC 2 (by decide)) (cw_S hC 2 rfl) cpX3.1 vw_X3_42 ⟨Nat.le_of_ble_eq_true rfl, Nat.le_of_ble_eq_true rfl⟩ rfl rfl (Nat.le_of_ble_eq_true rfl) hl.1 ⟨Nat.le_refl _, Nat.le_refl _⟩ dX3_atDigit_1 (fun H locs hw => ?_)
  refine lv_bipush (v := (48 : Int32)) hx hb dX3_atDigit_4 (by decide) ?_
  refine lv_icmp_lt (tgt := 22) hx hb dX3_atDigit_6 (by decide) (fun c_5 => ?_) (fun c_5 => ?_)
  · have hf := yb_pos c_5 hf
    refine lv_iconst (v := (0 : Int32)) hx hb dX3_atDigit_22 (by decide) ?_
    exact yb_retz hfin (by decide) hf hw dX3_atDigit_23
  · have hf := yb_neg c_5 hf
    refine lv_aload_n hx hb dX3_atDigit_9 rfl (lv_at hl 0 rfl) ?_
    obtain ⟨r_6, I_7, J_8, hq_9, hf⟩ := yb_b3_some hf
    refine x_calli X hK hw (c3_sign l D cz ev hC hq_9) (cw_mem hC 2 (by decide)) (cw_S hC 2 rfl) cpX3.1 vw_X3_42 ⟨Nat.le_of_ble_eq_true rfl, Nat.le_of_ble_eq_true rfl⟩ rfl rfl (Nat.le_of_ble_eq_true rfl) hl.1 ⟨Nat.le_refl _, Nat.le_refl _⟩ dX3_atDigit_10 (fun H locs hw => ?_)
    refine lv_bipush (v := (57 : Int32)) hx hb dX3_atDigit_13 (by decide) ?_
    refine lv_icmp_gt (tgt := 22) hx hb dX3_atDigit_15 (by decide) (fun c_10 => ?_) (fun c_10 => ?_)
    · have hf := yb_pos c_10 hf
      refine lv_iconst (v := (0 : Int32)) hx hb dX3_atDigit_22 (by decide) ?_
      exact yb_retz hfin (by decide) hf hw dX3_atDigit_23
    · have hf := yb_neg c_10 hf
      refine lv_iconst (v := (1 : Int32)) hx hb dX3_atDigit_18 (by decide) ?_
      refine lv_goto (tgt := 23) hx hb dX3_atDigit_19 (by decide) ?_
      exact yb_retz hfin (by decide) hf hw dX3_atDigit_23
set_option maxHeartbeats 4000000 in
set_option maxRecDepth 100000 in
theorem w3_word_L8 {p : Program} {l : Launch} {e : Env} {s : State} {m : MethodId} {args : Array Value} {below : List Frame} {meth : Method} {c : Code} {Q : State → Prop} {D : va_G} {cz : Nat → ClassId} {A : Nat → Prop} {ev : Nat × Nat × Nat} {b : Nat} {L : List Nat} {S : ST} {Rf : RT} (hC : CW b L S Rf) (X : CallFix p m c cX3_word 6 s args gw RX3) (hK : KX D cz ev A s) {N : Nat} :
    ∀ (n : Nat) (I : IT) (J : JT) (q : (Unit)) (I1 : IT) (J1 : JT) (H : Heap) (locs : List Loc) (ls : Array Slot), f3_word_L8 N b S Rf n I J = some (q, I1, J1) → WX D cz A L S Rf s.heap I J H locs → lv_has ls 6 [(0, .ref (b + 2))] →
    (∀ (H : Heap) (locs : List Loc) (ls : Array Slot), WX D cz A L S Rf s.heap I1 J1 H locs → lv_has ls 6 [(0, .ref (b + 2))] → W p l e (rmX 4 85) s m args below meth c H locs 0 0 Q (F0 m 60 ls [])) →
    W p l e (rmX 4 85) s m args below meth c H locs 0 0 Q (F0 m 8 ls []) := by
  have hx := X.1
  have hb := X.2.1
  intro n
  induction n with
  | zero =>
    intro  I J q I1 J1 H locs ls hf
    rw [f3_word_L8] at hf
    cases hf
  | succ n ih =>
    intro  I J q I1 J1 H locs ls hf hw hl hexit
    rw [f3_word_L8] at hf
    refine lv_aload_n hx hb dX3_word_8 rfl (lv_at hl 0 rfl) ?_
    refine x_getI X hK hw (cw_mem hC 2 (by decide)) (cw_S hC 2 rfl) cpX3 3 (by decide) rfl tw_161 dX3_word_9 ?_
    refine lv_aload_n hx hb dX3_word_12 rfl (lv_at hl 0 rfl) ?_
    refine x_getI X hK hw (cw_mem hC 2 (by decide)) (cw_S hC 2 rfl) cpX3 1 (by decide) rfl tw_156 dX3_word_13 ?_
    refine lv_icmp_ge (tgt := 60) hx hb dX3_word_16 (by decide) (fun c_2 => ?_) (fun c_2 => ?_)
    · have hf := yb_pos c_2 hf
      obtain ⟨rfl, rfl, rfl⟩ := yb_inj hf
      exact hexit _ _ _ hw (lv_sub hl [0] rfl)
    · have hf := yb_neg c_2 hf
      refine lv_aload_n hx hb dX3_word_19 rfl (lv_at hl 0 rfl) ?_
      refine x_getR X hK hw (cw_mem hC 2 (by decide)) (cw_S hC 2 rfl) cpX3 0 (by decide) rfl (cw_R hC 2 0 (by decide) rfl) tw_154 dX3_word_20 ?_
      refine lv_aload_n hx hb dX3_word_23 rfl (lv_at hl 0 rfl) ?_
      refine x_getI X hK hw (cw_mem hC 2 (by decide)) (cw_S hC 2 rfl) cpX3 3 (by decide) rfl tw_161 dX3_word_24 ?_
      obtain ⟨hi_3, hf⟩ := yb_ck_some hf
      refine x_iald X hK hw (cw_mem hC 1 (by decide)) (cw_S hC 1 rfl) hi_3 rfl dX3_word_27 ?_
      refine lv_bipush (v := (97 : Int32)) hx hb dX3_word_28 (by decide) ?_
      refine lv_icmp_lt (tgt := 60) hx hb dX3_word_30 (by decide) (fun c_4 => ?_) (fun c_4 => ?_)
      · have hf := yb_pos c_4 hf
        obtain ⟨rfl, rfl, rfl⟩ := yb_inj hf
        exact hexit _ _ _ hw (lv_sub hl [0] rfl)
      · have hf := yb_neg c_4 hf
        refine lv_aload_n hx hb dX3_word_33 rfl (lv_at hl 0 rfl) ?_
        refine x_getR X hK hw (cw_mem hC 2 (by decide)) (cw_S hC 2 rfl) cpX3 0 (by decide) rfl (cw_R hC 2 0 (by decide) rfl) tw_154 dX3_word_34 ?_
        refine lv_aload_n hx hb dX3_word_37 rfl (lv_at hl 0 rfl) ?_
        refine x_getI X hK hw (cw_mem hC 2 (by decide)) (cw_S hC 2 rfl) cpX3 3 (by decide) rfl tw_161 dX3_word_38 ?_
        refine x_iald X hK hw (cw_mem hC 1 (by decide)) (cw_S hC 1 rfl) hi_3 rfl dX3_word_41 ?_
        refine lv_bipush (v := (122 : Int32)) hx hb dX3_word_42 (by decide) ?_
        refine lv_icmp_gt (tgt := 60) hx hb dX3_word_44 (by decide) (fun c_5 => ?_) (fun c_5 => ?_)
        · have hf := yb_pos c_5 hf
          obtain ⟨rfl, rfl, rfl⟩ := yb_inj hf
          exact hexit _ _ _ hw (lv_sub hl [0] rfl)
        · have hf := yb_neg c_5 hf
          refine lv_aload_n hx hb dX3_word_47 rfl (lv_at hl 0 rfl) ?_
          refine lv_dup hx hb dX3_word_48 rfl ?_
          refine x_getI X hK hw (cw_mem hC 2 (by decide)) (cw_S hC 2 rfl) cpX3 3 (by decide) rfl tw_161 dX3_word_49 ?_
          refine lv_iconst (v := (1 : Int32)) hx hb dX3_word_52 (by decide) ?_
          refine lv_iadd hx hb dX3_word_53 ?_
          refine x_putI X hK hw (cw_mem hC 2 (by decide)) (cw_S hC 2 rfl) cpX3 3 (by decide) rfl rfl rfl tw_161 dX3_word_54 (fun H locs hw => ?_)
          obtain ⟨I_6, eI_6, hf⟩ := yb_let_ex hf
          have hw := yb_wI eI_6 hw
          refine lv_goto (tgt := 8) hx hb dX3_word_57 (by decide) ?_
          exact ih  _ _ _ _ _ _ _ _ hf hw (lv_sub hl [0] rfl) hexit
set_option maxHeartbeats 4000000 in
set_option maxRecDepth 100000 in
theorem w3_word_L72 {p : Program} {l : Launch} {e : Env} {s : State} {m : MethodId} {args : Array Value} {below : List Frame} {meth : Method} {c : Code} {Q : State → Prop} {D : va_G} {cz : Nat → ClassId} {A : Nat → Prop} {ev : Nat × Nat × Nat} {b : Nat} {L : List Nat} {S : ST} {Rf : RT} (hC : CW b L S Rf) (X : CallFix p m c cX3_word 6 s args gw RX3) (hK : KX D cz ev A s) {N : Nat} {rM : Int32} {IM : IT} {JM : JT} :
    ∀ (n : Nat) (x1 : Int32) (x2 : Int32) (x3 : Int32) (x4 : Int32) (I : IT) (J : JT) (q : (Int32 ⊕ (Unit))) (I1 : IT) (J1 : JT) (H : Heap) (locs : List Loc) (ls : Array Slot), f3_word_L72 N b S Rf n x1 x2 x3 x4 I J = some (q, I1, J1) → WX D cz A L S Rf s.heap I J H locs → lv_has ls 6 [(0, .ref (b + 2)), (1, .int x1), (2, .int x2), (3, .int x3), (4, .int x4)] →
    (∀ v, q = .inl v → some (v, I1, J1) = some (rM, IM, JM)) → (∀ (H : Heap) (locs : List Loc) (ls : Array Slot) (pc : Nat), WX D cz A L S Rf s.heap IM JM H locs → decode cX3_word pc = .ok (.ireturn, 1) → W p l e (rmX 4 85) s m args below meth c H locs 0 0 Q (F0 m pc ls [.int rM])) →
    (∀ xq, q = .inr xq → ∀ (H : Heap) (locs : List Loc) (ls : Array Slot), WX D cz A L S Rf s.heap I1 J1 H locs → lv_has ls 6 [] → W p l e (rmX 4 85) s m args below meth c H locs 0 0 Q (F0 m 162 ls [])) →
    W p l e (rmX 4 85) s m args below meth c H locs 0 0 Q (F0 m 72 ls []) := by
  have hx := X.1
  have hb := X.2.1
  intro n
  induction n with
  | zero =>
    intro x1 x2 x3 x4 I J q I1 J1 H locs ls hf
    rw [f3_word_L72] at hf
    cases hf
  | succ n ih =>
    intro x1 x2 x3 x4 I J q I1 J1 H locs ls hf hw hl hret hfin hexit
    rw [f3_word_L72] at hf
    refine lv_iload hx hb dX3_word_72 (lv_at hl 4 rfl) ?_
    refine va_ldcS hx hb X.2.2.2.1 hK.2.1.2.2.1 dX3_word_74 ?_
    refine x_calliS X hK hw (cS_length l D cz ev) rfl vw_X3_48 ⟨Nat.le_of_ble_eq_true rfl, Nat.le_of_ble_eq_true rfl⟩ rfl rfl (Nat.le_of_ble_eq_true rfl) hl.1 ⟨Nat.le_refl _, Nat.le_refl _⟩ dX3_word_76 (fun H locs hw => ?_)
    refine lv_icmp_ge (tgt := 162) hx hb dX3_word_79 (by decide) (fun c_12 => ?_) (fun c_12 => ?_)
    · have hf := yb_pos c_12 hf
      obtain ⟨rfl, rfl, rfl⟩ := yb_inj hf
      exact hexit _ rfl _ _ _ hw (lv_sub hl [] rfl)
    · have hf := yb_neg c_12 hf
      refine va_ldcS hx hb X.2.2.2.1 hK.2.1.2.2.1 dX3_word_82 ?_
      refine lv_iload hx hb dX3_word_84 (lv_at hl 4 rfl) ?_
      obtain ⟨hi_13, hf⟩ := yb_ck_some hf
      refine x_calliS X hK hw (cS_charAt l D cz ev hi_13) rfl vw_X3_52 ⟨Nat.le_of_ble_eq_true rfl, Nat.le_of_ble_eq_true rfl⟩ rfl rfl (Nat.le_of_ble_eq_true rfl) hl.1 ⟨Nat.le_refl _, Nat.le_refl _⟩ dX3_word_86 (fun H locs hw => ?_)
      refine lv_topi (fun x5_14 ex5_14 => ?_)
      have hf := yb_let_to ex5_14 hf
      refine lv_istore (lv' := [(5, .int x5_14), (0, .ref (b + 2)), (1, .int x1), (2, .int x2), (3, .int x3), (4, .int x4)]) hx hb dX3_word_89 hl (by decide) rfl (fun ls hl => ?_)
      refine lv_iload hx hb dX3_word_91 (lv_at hl 0 rfl) ?_
      refine lv_bipush (v := (32 : Int32)) hx hb dX3_word_93 (by decide) ?_
      refine lv_icmp_ne (tgt := 125) hx hb dX3_word_95 (by decide) (fun c_15 => ?_) (fun c_15 => ?_)
      · have hf := yb_neg c_15 hf
        refine lv_iload_n hx hb dX3_word_125 rfl (lv_at hl 4 rfl) ?_
        refine lv_if_eq (tgt := 154) hx hb dX3_word_126 (by decide) (fun c_16 => ?_) (fun c_16 => ?_)
        · have hf := yb_pos c_16 hf
          refine lv_iconst (v := (0 : Int32)) hx hb dX3_word_154 (by decide) ?_
          refine lv_istore_n (lv' := [(3, .int (0 : Int32)), (5, .int x5_14), (0, .ref (b + 2)), (1, .int x1), (2, .int x2), (4, .int x4)]) hx hb dX3_word_155 rfl hl (by decide) rfl (fun ls hl => ?_)
          obtain ⟨x4_17, ex4_17, hf⟩ := yb_let_ex hf
          refine lv_iinc (v := x4_17) (lv' := [(4, .int x4_17), (3, .int (0 : Int32)), (5, .int x5_14), (0, .ref (b + 2)), (1, .int x1), (2, .int x2)]) hx hb dX3_word_156 hl (k := 5) rfl (by rw [ex4_17]; rfl) (by decide) rfl (fun ls hl => ?_)
          refine lv_goto (tgt := 72) hx hb dX3_word_159 (by decide) ?_
          exact ih _ _ _ _ _ _ _ _ _ _ _ _ hf hw (lv_sub hl [3, 4, 5, 1, 0] rfl) hret hfin hexit
        · have hf := yb_neg c_16 hf
          refine lv_iload_n hx hb dX3_word_129 rfl (lv_at hl 3 rfl) ?_
          refine lv_aload_n hx hb dX3_word_130 rfl (lv_at hl 1 rfl) ?_
          refine x_getI X hK hw (cw_mem hC 2 (by decide)) (cw_S hC 2 rfl) cpX3 3 (by decide) rfl tw_161 dX3_word_131 ?_
          refine lv_icmp_ge (tgt := 154) hx hb dX3_word_134 (by decide) (fun c_18 => ?_) (fun c_18 => ?_)
          · have hf := yb_pos c_18 hf
            refine lv_iconst (v := (0 : Int32)) hx hb dX3_word_154 (by decide) ?_
            refine lv_istore_n (lv' := [(3, .int (0 : Int32)), (5, .int x5_14), (0, .ref (b + 2)), (1, .int x1), (2, .int x2), (4, .int x4)]) hx hb dX3_word_155 rfl hl (by decide) rfl (fun ls hl => ?_)
            obtain ⟨x4_19, ex4_19, hf⟩ := yb_let_ex hf
            refine lv_iinc (v := x4_19) (lv' := [(4, .int x4_19), (3, .int (0 : Int32)), (5, .int x5_14), (0, .ref (b + 2)), (1, .int x1), (2, .int x2)]) hx hb dX3_word_156 hl (k := 5) rfl (by rw [ex4_19]; rfl) (by decide) rfl (fun ls hl => ?_)
            refine lv_goto (tgt := 72) hx hb dX3_word_159 (by decide) ?_
            exact ih _ _ _ _ _ _ _ _ _ _ _ _ hf hw (lv_sub hl [3, 4, 5, 1, 0] rfl) hret hfin hexit
          · have hf := yb_neg c_18 hf
            refine lv_aload_n hx hb dX3_word_137 rfl (lv_at hl 1 rfl) ?_
            refine x_getR X hK hw (cw_mem hC 2 (by decide)) (cw_S hC 2 rfl) cpX3 0 (by decide) rfl (cw_R hC 2 0 (by decide) rfl) tw_154 dX3_word_138 ?_
            refine lv_iload_n hx hb dX3_word_141 rfl (lv_at hl 3 rfl) ?_
            obtain ⟨hi_20, hf⟩ := yb_ck_some hf
            refine x_iald X hK hw (cw_mem hC 1 (by decide)) (cw_S hC 1 rfl) hi_20 rfl dX3_word_142 ?_
            refine lv_iload hx hb dX3_word_143 (lv_at hl 0 rfl) ?_
            refine lv_icmp_ne (tgt := 154) hx hb dX3_word_145 (by decide) (fun c_21 => ?_) (fun c_21 => ?_)
            · have hf := yb_neg c_21 hf
              refine lv_iconst (v := (0 : Int32)) hx hb dX3_word_154 (by decide) ?_
              refine lv_istore_n (lv' := [(3, .int (0 : Int32)), (5, .int x5_14), (0, .ref (b + 2)), (1, .int x1), (2, .int x2), (4, .int x4)]) hx hb dX3_word_155 rfl hl (by decide) rfl (fun ls hl => ?_)
              obtain ⟨x4_22, ex4_22, hf⟩ := yb_let_ex hf
              refine lv_iinc (v := x4_22) (lv' := [(4, .int x4_22), (3, .int (0 : Int32)), (5, .int x5_14), (0, .ref (b + 2)), (1, .int x1), (2, .int x2)]) hx hb dX3_word_156 hl (k := 5) rfl (by rw [ex4_22]; rfl) (by decide) rfl (fun ls hl => ?_)
              refine lv_goto (tgt := 72) hx hb dX3_word_159 (by decide) ?_
              exact ih _ _ _ _ _ _ _ _ _ _ _ _ hf hw (lv_sub hl [3, 4, 5, 1, 0] rfl) hret hfin hexit
            · have hf := yb_pos c_21 hf
              obtain ⟨x2_23, ex2_23, hf⟩ := yb_let_ex hf
              refine lv_iinc (v := x2_23) (lv' := [(2, .int x2_23), (5, .int x5_14), (0, .ref (b + 2)), (1, .int x1), (3, .int x3), (4, .int x4)]) hx hb dX3_word_148 hl (k := 3) rfl (by rw [ex2_23]; rfl) (by decide) rfl (fun ls hl => ?_)
              refine lv_goto (tgt := 156) hx hb dX3_word_151 (by decide) ?_
              obtain ⟨x4_24, ex4_24, hf⟩ := yb_let_ex hf
              refine lv_iinc (v := x4_24) (lv' := [(4, .int x4_24), (2, .int x2_23), (5, .int x5_14), (0, .ref (b + 2)), (1, .int x1), (3, .int x3)]) hx hb dX3_word_156 hl (k := 5) rfl (by rw [ex4_24]; rfl) (by decide) rfl (fun ls hl => ?_)
              refine lv_goto (tgt := 72) hx hb dX3_word_159 (by decide) ?_
              exact ih _ _ _ _ _ _ _ _ _ _ _ _ hf hw (lv_sub hl [3, 4, 1, 5, 0] rfl) hret hfin hexit
      · have hf := yb_pos c_15 hf
        refine lv_iload_n hx hb dX3_word_98 rfl (lv_at hl 4 rfl) ?_
        refine lv_if_eq (tgt := 112) hx hb dX3_word_99 (by decide) (fun c_25 => ?_) (fun c_25 => ?_)
        · have hf := yb_pos c_25 hf
          obtain ⟨x1_26, ex1_26, hf⟩ := yb_let_ex hf
          refine lv_iinc (v := x1_26) (lv' := [(1, .int x1_26), (5, .int x5_14), (0, .ref (b + 2)), (2, .int x2), (3, .int x3), (4, .int x4)]) hx hb dX3_word_112 hl (k := 2) rfl (by rw [ex1_26]; rfl) (by decide) rfl (fun ls hl => ?_)
          refine lv_aload_n hx hb dX3_word_115 rfl (lv_at hl 2 rfl) ?_
          refine x_getI X hK hw (cw_mem hC 2 (by decide)) (cw_S hC 2 rfl) cpX3 2 (by decide) rfl tw_158 dX3_word_116 ?_
          refine lv_topi (fun x2_27 ex2_27 => ?_)
          have hf := yb_let_to ex2_27 hf
          refine lv_istore_n (lv' := [(2, .int x2_27), (1, .int x1_26), (5, .int x5_14), (0, .ref (b + 2)), (3, .int x3), (4, .int x4)]) hx hb dX3_word_119 rfl hl (by decide) rfl (fun ls hl => ?_)
          refine lv_iconst (v := (1 : Int32)) hx hb dX3_word_120 (by decide) ?_
          refine lv_istore_n (lv' := [(3, .int (1 : Int32)), (2, .int x2_27), (1, .int x1_26), (5, .int x5_14), (0, .ref (b + 2)), (4, .int x4)]) hx hb dX3_word_121 rfl hl (by decide) rfl (fun ls hl => ?_)
          refine lv_goto (tgt := 156) hx hb dX3_word_122 (by decide) ?_
          obtain ⟨x4_28, ex4_28, hf⟩ := yb_let_ex hf
          refine lv_iinc (v := x4_28) (lv' := [(4, .int x4_28), (3, .int (1 : Int32)), (2, .int x2_27), (1, .int x1_26), (5, .int x5_14), (0, .ref (b + 2))]) hx hb dX3_word_156 hl (k := 5) rfl (by rw [ex4_28]; rfl) (by decide) rfl (fun ls hl => ?_)
          refine lv_goto (tgt := 72) hx hb dX3_word_159 (by decide) ?_
          exact ih _ _ _ _ _ _ _ _ _ _ _ _ hf hw (lv_sub hl [5, 3, 2, 1, 0] rfl) hret hfin hexit
        · have hf := yb_neg c_25 hf
          refine lv_iload_n hx hb dX3_word_102 rfl (lv_at hl 3 rfl) ?_
          refine lv_aload_n hx hb dX3_word_103 rfl (lv_at hl 1 rfl) ?_
          refine x_getI X hK hw (cw_mem hC 2 (by decide)) (cw_S hC 2 rfl) cpX3 3 (by decide) rfl tw_161 dX3_word_104 ?_
          refine lv_icmp_ne (tgt := 112) hx hb dX3_word_107 (by decide) (fun c_29 => ?_) (fun c_29 => ?_)
          · have hf := yb_neg c_29 hf
            obtain ⟨x1_30, ex1_30, hf⟩ := yb_let_ex hf
            refine lv_iinc (v := x1_30) (lv' := [(1, .int x1_30), (5, .int x5_14), (0, .ref (b + 2)), (2, .int x2), (3, .int x3), (4, .int x4)]) hx hb dX3_word_112 hl (k := 2) rfl (by rw [ex1_30]; rfl) (by decide) rfl (fun ls hl => ?_)
            refine lv_aload_n hx hb dX3_word_115 rfl (lv_at hl 2 rfl) ?_
            refine x_getI X hK hw (cw_mem hC 2 (by decide)) (cw_S hC 2 rfl) cpX3 2 (by decide) rfl tw_158 dX3_word_116 ?_
            refine lv_topi (fun x2_31 ex2_31 => ?_)
            have hf := yb_let_to ex2_31 hf
            refine lv_istore_n (lv' := [(2, .int x2_31), (1, .int x1_30), (5, .int x5_14), (0, .ref (b + 2)), (3, .int x3), (4, .int x4)]) hx hb dX3_word_119 rfl hl (by decide) rfl (fun ls hl => ?_)
            refine lv_iconst (v := (1 : Int32)) hx hb dX3_word_120 (by decide) ?_
            refine lv_istore_n (lv' := [(3, .int (1 : Int32)), (2, .int x2_31), (1, .int x1_30), (5, .int x5_14), (0, .ref (b + 2)), (4, .int x4)]) hx hb dX3_word_121 rfl hl (by decide) rfl (fun ls hl => ?_)
            refine lv_goto (tgt := 156) hx hb dX3_word_122 (by decide) ?_
            obtain ⟨x4_32, ex4_32, hf⟩ := yb_let_ex hf
            refine lv_iinc (v := x4_32) (lv' := [(4, .int x4_32), (3, .int (1 : Int32)), (2, .int x2_31), (1, .int x1_30), (5, .int x5_14), (0, .ref (b + 2))]) hx hb dX3_word_156 hl (k := 5) rfl (by rw [ex4_32]; rfl) (by decide) rfl (fun ls hl => ?_)
            refine lv_goto (tgt := 72) hx hb dX3_word_159 (by decide) ?_
            exact ih _ _ _ _ _ _ _ _ _ _ _ _ hf hw (lv_sub hl [5, 3, 2, 1, 0] rfl) hret hfin hexit
          · have hf := yb_pos c_29 hf
            refine lv_iload_n hx hb dX3_word_110 rfl (lv_at hl 2 rfl) ?_
            exact yb_reti hfin (yb_inl hret hf) hw dX3_word_111
set_option maxHeartbeats 4000000 in
set_option maxRecDepth 100000 in
theorem c3_word (l : Launch) (D : va_G) (cz : Nat → ClassId) (ev : Nat × Nat × Nat) {b : Nat} {L : List Nat} {S : ST} {Rf : RT} (hC : CW b L S Rf) {N : Nat} {I : IT} {J : JT} {r : Int32} {I1 : IT} {J1 : JT} (hf : f3_word N b S Rf I J = some (r, I1, J1)) : MTi l D cz ev yX3_word cX3_word 6 (some .int) 4 85 [.ref (b + 2)] L S Rf I J r I1 J1 := by
  unfold f3_word at hf
  refine MTi_of (by decide) (Nat.le_of_ble_eq_true rfl) ?_
  intro p e s m args below meth c Q ls X hK hw hl hfin
  have X : CallFix p m c cX3_word 6 s args gw RX3 := X
  have hx := X.1
  have hb := X.2.1
  have hl : lv_has ls 6 [(0, .ref (b + 2))] := hl
  refine lv_aload_n hx hb dX3_word_0 rfl (lv_at hl 0 rfl) ?_
  refine lv_aload_n hx hb dX3_word_1 rfl (lv_at hl 0 rfl) ?_
  refine x_getI X hK hw (cw_mem hC 2 (by decide)) (cw_S hC 2 rfl) cpX3 2 (by decide) rfl tw_158 dX3_word_2 ?_
  refine x_putI X hK hw (cw_mem hC 2 (by decide)) (cw_S hC 2 rfl) cpX3 3 (by decide) rfl rfl rfl tw_161 dX3_word_5 (fun H locs hw => ?_)
  obtain ⟨I_1, eI_1, hf⟩ := yb_let_ex hf
  have hw := yb_wI eI_1 hw
  obtain ⟨q_7, I_8, J_9, hq_10, hf⟩ := yb_b3_some hf
  refine w3_word_L8 hC X hK _  _ _ _ _ _ _ _ _ hq_10 hw (lv_sub hl [0] rfl) (fun H locs ls hw hl => ?_)
  refine lv_iconst (v := (0 : Int32)) hx hb dX3_word_60 (by decide) ?_
  refine lv_istore_n (lv' := [(1, .int (0 : Int32)), (0, .ref (b + 2))]) hx hb dX3_word_61 rfl hl (by decide) rfl (fun ls hl => ?_)
  refine lv_aload_n hx hb dX3_word_62 rfl (lv_at hl 1 rfl) ?_
  refine x_getI X hK hw (cw_mem hC 2 (by decide)) (cw_S hC 2 rfl) cpX3 2 (by decide) rfl tw_158 dX3_word_63 ?_
  refine lv_topi (fun x2_11 ex2_11 => ?_)
  have hf := yb_let_to ex2_11 hf
  refine lv_istore_n (lv' := [(2, .int x2_11), (1, .int (0 : Int32)), (0, .ref (b + 2))]) hx hb dX3_word_66 rfl hl (by decide) rfl (fun ls hl => ?_)
  refine lv_iconst (v := (1 : Int32)) hx hb dX3_word_67 (by decide) ?_
  refine lv_istore_n (lv' := [(3, .int (1 : Int32)), (2, .int x2_11), (1, .int (0 : Int32)), (0, .ref (b + 2))]) hx hb dX3_word_68 rfl hl (by decide) rfl (fun ls hl => ?_)
  refine lv_iconst (v := (0 : Int32)) hx hb dX3_word_69 (by decide) ?_
  refine lv_istore (lv' := [(4, .int (0 : Int32)), (3, .int (1 : Int32)), (2, .int x2_11), (1, .int (0 : Int32)), (0, .ref (b + 2))]) hx hb dX3_word_70 hl (by decide) rfl (fun ls hl => ?_)
  obtain ⟨q_33, I_34, J_35, hq_36, hf⟩ := yb_b3_some hf
  refine w3_word_L72 hC X hK _ _ _ _ _ _ _ _ _ _ _ _ _ hq_36 hw (lv_sub hl [4, 3, 2, 1, 0] rfl) (fun v hv => by rw [hv] at hf; exact hf) hfin (fun x_38 hx1 H locs ls hw hl => ?_)
  rw [hx1] at hf
  have hf := yb_sm_r hf
  refine lv_iconst (v := (-1 : Int32)) hx hb dX3_word_162 (by decide) ?_
  exact yb_reti hfin hf hw dX3_word_163
set_option maxHeartbeats 4000000 in
set_option maxRecDepth 100000 in
theorem w3_number_L8 {p : Program} {l : Launch} {e : Env} {s : State} {m : MethodId} {args : Array Value} {below : List Frame} {meth : Method} {c : Code} {Q : State → Prop} {D : va_G} {cz : Nat → ClassId} {A : Nat → Prop} {ev : Nat × Nat × Nat} {b : Nat} {L : List Nat} {S : ST} {Rf : RT} (hC : CW b L S Rf) (X : CallFix p m c cX3_number 5 s args gw RX3) (hK : KX D cz ev A s) {N : Nat} {x1 : Int32} {x2 : Int32} :
    ∀ (n : Nat) (x3 : Int32) (x4 : Int32) (I : IT) (J : JT) (q : (Int32 × Int32)) (I1 : IT) (J1 : JT) (H : Heap) (locs : List Loc) (ls : Array Slot), f3_number_L8 N b S Rf x1 x2 n x3 x4 I J = some (q, I1, J1) → WX D cz A L S Rf s.heap I J H locs → lv_has ls 5 [(0, .ref (b + 2)), (1, .int x1), (2, .int x2), (3, .int x3), (4, .int x4)] →
    (∀ (H : Heap) (locs : List Loc) (ls : Array Slot), WX D cz A L S Rf s.heap I1 J1 H locs → lv_has ls 5 [(0, .ref (b + 2)), (1, .int x1), (2, .int x2), (3, .int q.1), (4, .int q.2)] → W p l e (rmX 1 22) s m args below meth c H locs 0 0 Q (F0 m 71 ls [])) →
    W p l e (rmX 1 22) s m args below meth c H locs 0 0 Q (F0 m 8 ls []) := by
  have hx := X.1
  have hb := X.2.1
  intro n
  induction n with
  | zero =>
    intro x3 x4 I J q I1 J1 H locs ls hf
    rw [f3_number_L8] at hf
    cases hf
  | succ n ih =>
    intro x3 x4 I J q I1 J1 H locs ls hf hw hl hexit
    rw [f3_number_L8] at hf
    refine lv_iload_n hx hb dX3_number_8 rfl (lv_at hl 3 rfl) ?_
    refine lv_aload_n hx hb dX3_number_9 rfl (lv_at hl 0 rfl) ?_
    refine x_getI X hK hw (cw_mem hC 2 (by decide)) (cw_S hC 2 rfl) cpX3 1 (by decide) rfl tw_156 dX3_number_10 ?_
    refine lv_icmp_ge (tgt := 71) hx hb dX3_number_13 (by decide) (fun c_2 => ?_) (fun c_2 => ?_)
    · have hf := yb_pos c_2 hf
      obtain ⟨rfl, rfl, rfl⟩ := yb_inj hf
      exact hexit _ _ _ hw (lv_sub hl [0, 1, 2, 3, 4] rfl)
    · have hf := yb_neg c_2 hf
      refine lv_aload_n hx hb dX3_number_16 rfl (lv_at hl 0 rfl) ?_
      refine x_getR X hK hw (cw_mem hC 2 (by decide)) (cw_S hC 2 rfl) cpX3 0 (by decide) rfl (cw_R hC 2 0 (by decide) rfl) tw_154 dX3_number_17 ?_
      refine lv_iload_n hx hb dX3_number_20 rfl (lv_at hl 3 rfl) ?_
      obtain ⟨hi_3, hf⟩ := yb_ck_some hf
      refine x_iald X hK hw (cw_mem hC 1 (by decide)) (cw_S hC 1 rfl) hi_3 rfl dX3_number_21 ?_
      refine lv_bipush (v := (48 : Int32)) hx hb dX3_number_22 (by decide) ?_
      refine lv_icmp_lt (tgt := 71) hx hb dX3_number_24 (by decide) (fun c_4 => ?_) (fun c_4 => ?_)
      · have hf := yb_pos c_4 hf
        obtain ⟨rfl, rfl, rfl⟩ := yb_inj hf
        exact hexit _ _ _ hw (lv_sub hl [0, 1, 2, 3, 4] rfl)
      · have hf := yb_neg c_4 hf
        refine lv_aload_n hx hb dX3_number_27 rfl (lv_at hl 0 rfl) ?_
        refine x_getR X hK hw (cw_mem hC 2 (by decide)) (cw_S hC 2 rfl) cpX3 0 (by decide) rfl (cw_R hC 2 0 (by decide) rfl) tw_154 dX3_number_28 ?_
        refine lv_iload_n hx hb dX3_number_31 rfl (lv_at hl 3 rfl) ?_
        refine x_iald X hK hw (cw_mem hC 1 (by decide)) (cw_S hC 1 rfl) hi_3 rfl dX3_number_32 ?_
        refine lv_bipush (v := (57 : Int32)) hx hb dX3_number_33 (by decide) ?_
        refine lv_icmp_gt (tgt := 71) hx hb dX3_number_35 (by decide) (fun c_5 => ?_) (fun c_5 => ?_)
        · have hf := yb_pos c_5 hf
          obtain ⟨rfl, rfl, rfl⟩ := yb_inj hf
          exact hexit _ _ _ hw (lv_sub hl [0, 1, 2, 3, 4] rfl)
        · have hf := yb_neg c_5 hf
          refine lv_iload_n hx hb dX3_number_38 rfl (lv_at hl 3 rfl) ?_
          refine lv_aload_n hx hb dX3_number_39 rfl (lv_at hl 0 rfl) ?_
          refine x_getI X hK hw (cw_mem hC 2 (by decide)) (cw_S hC 2 rfl) cpX3 2 (by decide) rfl tw_158 dX3_number_40 ?_
          refine lv_isub hx hb dX3_number_43 ?_
          refine lv_iconst (v := (5 : Int32)) hx hb dX3_number_44 (by decide) ?_
          refine lv_icmp_ge (tgt := 65) hx hb dX3_number_45 (by decide) (fun c_6 => ?_) (fun c_6 => ?_)
          · have hf := yb_pos c_6 hf
            obtain ⟨x3_7, ex3_7, hf⟩ := yb_let_ex hf
            refine lv_iinc (v := x3_7) (lv' := [(3, .int x3_7), (0, .ref (b + 2)), (1, .int x1), (2, .int x2), (4, .int x4)]) hx hb dX3_number_65 hl (k := 3) rfl (by rw [ex3_7]; rfl) (by decide) rfl (fun ls hl => ?_)
            refine lv_goto (tgt := 8) hx hb dX3_number_68 (by decide) ?_
            exact ih _ _ _ _ _ _ _ _ _ _ hf hw (lv_sub hl [1, 2, 3, 0, 4] rfl) hexit
          · have hf := yb_neg c_6 hf
            refine lv_iload hx hb dX3_number_48 (lv_at hl 4 rfl) ?_
            refine lv_bipush (v := (10 : Int32)) hx hb dX3_number_50 (by decide) ?_
            refine lv_imul hx hb dX3_number_52 ?_
            refine lv_aload_n hx hb dX3_number_53 rfl (lv_at hl 0 rfl) ?_
            refine x_getR X hK hw (cw_mem hC 2 (by decide)) (cw_S hC 2 rfl) cpX3 0 (by decide) rfl (cw_R hC 2 0 (by decide) rfl) tw_154 dX3_number_54 ?_
            refine lv_iload_n hx hb dX3_number_57 rfl (lv_at hl 3 rfl) ?_
            refine x_iald X hK hw (cw_mem hC 1 (by decide)) (cw_S hC 1 rfl) hi_3 rfl dX3_number_58 ?_
            refine lv_iadd hx hb dX3_number_59 ?_
            refine lv_bipush (v := (48 : Int32)) hx hb dX3_number_60 (by decide) ?_
            refine lv_isub hx hb dX3_number_62 ?_
            refine lv_topi (fun x4_8 ex4_8 => ?_)
            have hf := yb_let_to ex4_8 hf
            refine lv_istore (lv' := [(4, .int x4_8), (0, .ref (b + 2)), (1, .int x1), (2, .int x2), (3, .int x3)]) hx hb dX3_number_63 hl (by decide) rfl (fun ls hl => ?_)
            obtain ⟨x3_9, ex3_9, hf⟩ := yb_let_ex hf
            refine lv_iinc (v := x3_9) (lv' := [(3, .int x3_9), (4, .int x4_8), (0, .ref (b + 2)), (1, .int x1), (2, .int x2)]) hx hb dX3_number_65 hl (k := 4) rfl (by rw [ex3_9]; rfl) (by decide) rfl (fun ls hl => ?_)
            refine lv_goto (tgt := 8) hx hb dX3_number_68 (by decide) ?_
            exact ih _ _ _ _ _ _ _ _ _ _ hf hw (lv_sub hl [2, 3, 4, 0, 1] rfl) hexit
set_option maxHeartbeats 4000000 in
set_option maxRecDepth 100000 in
theorem c3_number (l : Launch) (D : va_G) (cz : Nat → ClassId) (ev : Nat × Nat × Nat) {b : Nat} {L : List Nat} {S : ST} {Rf : RT} (hC : CW b L S Rf) {N : Nat} {x1 : Int32} {x2 : Int32} {I : IT} {J : JT} {r : Int32} {I1 : IT} {J1 : JT} (hf : f3_number N b S Rf x1 x2 I J = some (r, I1, J1)) : MTi l D cz ev yX3_number cX3_number 5 (some .int) 1 22 [.ref (b + 2), .int x1, .int x2] L S Rf I J r I1 J1 := by
  unfold f3_number at hf
  refine MTi_of (by decide) (Nat.le_of_ble_eq_true rfl) ?_
  intro p e s m args below meth c Q ls X hK hw hl hfin
  have X : CallFix p m c cX3_number 5 s args gw RX3 := X
  have hx := X.1
  have hb := X.2.1
  have hl : lv_has ls 5 [(0, .ref (b + 2)), (1, .int x1), (2, .int x2)] := hl
  refine lv_aload_n hx hb dX3_number_0 rfl (lv_at hl 0 rfl) ?_
  refine x_getI X hK hw (cw_mem hC 2 (by decide)) (cw_S hC 2 rfl) cpX3 2 (by decide) rfl tw_158 dX3_number_1 ?_
  refine lv_topi (fun x3_1 ex3_1 => ?_)
  have hf := yb_let_to ex3_1 hf
  refine lv_istore_n (lv' := [(3, .int x3_1), (0, .ref (b + 2)), (1, .int x1), (2, .int x2)]) hx hb dX3_number_4 rfl hl (by decide) rfl (fun ls hl => ?_)
  refine lv_iconst (v := (0 : Int32)) hx hb dX3_number_5 (by decide) ?_
  refine lv_istore (lv' := [(4, .int (0 : Int32)), (3, .int x3_1), (0, .ref (b + 2)), (1, .int x1), (2, .int x2)]) hx hb dX3_number_6 hl (by decide) rfl (fun ls hl => ?_)
  obtain ⟨q_10, I_11, J_12, hq_13, hf⟩ := yb_b3_some hf
  refine w3_number_L8 hC X hK _ _ _ _ _ _ _ _ _ _ _ hq_13 hw (lv_sub hl [2, 3, 4, 1, 0] rfl) (fun H locs ls hw hl => ?_)
  refine lv_iload_n hx hb dX3_number_71 rfl (lv_at hl 3 rfl) ?_
  refine lv_aload_n hx hb dX3_number_72 rfl (lv_at hl 0 rfl) ?_
  refine x_getI X hK hw (cw_mem hC 2 (by decide)) (cw_S hC 2 rfl) cpX3 2 (by decide) rfl tw_158 dX3_number_73 ?_
  refine lv_icmp_ne (tgt := 91) hx hb dX3_number_76 (by decide) (fun c_14 => ?_) (fun c_14 => ?_)
  · have hf := yb_neg c_14 hf
    refine lv_iload_n hx hb dX3_number_91 rfl (lv_at hl 3 rfl) ?_
    refine lv_aload_n hx hb dX3_number_92 rfl (lv_at hl 0 rfl) ?_
    refine x_getI X hK hw (cw_mem hC 2 (by decide)) (cw_S hC 2 rfl) cpX3 2 (by decide) rfl tw_158 dX3_number_93 ?_
    refine lv_isub hx hb dX3_number_96 ?_
    refine lv_iconst (v := (5 : Int32)) hx hb dX3_number_97 (by decide) ?_
    refine lv_icmp_gt (tgt := 113) hx hb dX3_number_98 (by decide) (fun c_15 => ?_) (fun c_15 => ?_)
    · have hf := yb_pos c_15 hf
      refine lv_aload_n hx hb dX3_number_113 rfl (lv_at hl 0 rfl) ?_
      refine lv_aload_n hx hb dX3_number_114 rfl (lv_at hl 0 rfl) ?_
      refine x_getI X hK hw (cw_mem hC 2 (by decide)) (cw_S hC 2 rfl) cpX3 2 (by decide) rfl tw_158 dX3_number_115 ?_
      refine lv_iconst (v := (1 : Int32)) hx hb dX3_number_118 (by decide) ?_
      obtain ⟨r_16, I_17, J_18, hq_19, hf⟩ := yb_b3_some hf
      refine x_calli X hK hw (c3_failAt l D cz ev hC hq_19) (cw_mem hC 2 (by decide)) (cw_S hC 2 rfl) cpX3.1 vw_X3_38 ⟨Nat.le_of_ble_eq_true rfl, Nat.le_of_ble_eq_true rfl⟩ rfl rfl (Nat.le_of_ble_eq_true rfl) hl.1 ⟨Nat.le_refl _, Nat.le_refl _⟩ dX3_number_119 (fun H locs hw => ?_)
      refine lv_pop hx hb dX3_number_122 rfl ?_
      refine lv_iconst (v := (-1 : Int32)) hx hb dX3_number_123 (by decide) ?_
      exact yb_reti hfin hf hw dX3_number_124
    · have hf := yb_neg c_15 hf
      refine lv_iload hx hb dX3_number_101 (lv_at hl 4 rfl) ?_
      refine lv_iload_n hx hb dX3_number_103 rfl (lv_at hl 1 rfl) ?_
      refine lv_icmp_lt (tgt := 113) hx hb dX3_number_104 (by decide) (fun c_20 => ?_) (fun c_20 => ?_)
      · have hf := yb_pos c_20 hf
        refine lv_aload_n hx hb dX3_number_113 rfl (lv_at hl 0 rfl) ?_
        refine lv_aload_n hx hb dX3_number_114 rfl (lv_at hl 0 rfl) ?_
        refine x_getI X hK hw (cw_mem hC 2 (by decide)) (cw_S hC 2 rfl) cpX3 2 (by decide) rfl tw_158 dX3_number_115 ?_
        refine lv_iconst (v := (1 : Int32)) hx hb dX3_number_118 (by decide) ?_
        obtain ⟨r_21, I_22, J_23, hq_24, hf⟩ := yb_b3_some hf
        refine x_calli X hK hw (c3_failAt l D cz ev hC hq_24) (cw_mem hC 2 (by decide)) (cw_S hC 2 rfl) cpX3.1 vw_X3_38 ⟨Nat.le_of_ble_eq_true rfl, Nat.le_of_ble_eq_true rfl⟩ rfl rfl (Nat.le_of_ble_eq_true rfl) hl.1 ⟨Nat.le_refl _, Nat.le_refl _⟩ dX3_number_119 (fun H locs hw => ?_)
        refine lv_pop hx hb dX3_number_122 rfl ?_
        refine lv_iconst (v := (-1 : Int32)) hx hb dX3_number_123 (by decide) ?_
        exact yb_reti hfin hf hw dX3_number_124
      · have hf := yb_neg c_20 hf
        refine lv_iload hx hb dX3_number_107 (lv_at hl 4 rfl) ?_
        refine lv_iload_n hx hb dX3_number_109 rfl (lv_at hl 2 rfl) ?_
        refine lv_icmp_le (tgt := 125) hx hb dX3_number_110 (by decide) (fun c_25 => ?_) (fun c_25 => ?_)
        · have hf := yb_pos c_25 hf
          refine lv_aload_n hx hb dX3_number_125 rfl (lv_at hl 0 rfl) ?_
          refine lv_iload_n hx hb dX3_number_126 rfl (lv_at hl 3 rfl) ?_
          obtain ⟨r_26, I_27, J_28, hq_29, hf⟩ := yb_b3_some hf
          refine x_callv X hK hw (c3_moveTo l D cz ev hC hq_29) (cw_mem hC 2 (by decide)) (cw_S hC 2 rfl) cpX3.1 vw_X3_28 ⟨Nat.le_of_ble_eq_true rfl, Nat.le_of_ble_eq_true rfl⟩ rfl rfl (Nat.le_of_ble_eq_true rfl) hl.1 ⟨Nat.le_refl _, Nat.le_refl _⟩ dX3_number_127 (fun H locs hw => ?_)
          refine lv_iload hx hb dX3_number_130 (lv_at hl 4 rfl) ?_
          exact yb_reti hfin hf hw dX3_number_132
        · have hf := yb_neg c_25 hf
          refine lv_aload_n hx hb dX3_number_113 rfl (lv_at hl 0 rfl) ?_
          refine lv_aload_n hx hb dX3_number_114 rfl (lv_at hl 0 rfl) ?_
          refine x_getI X hK hw (cw_mem hC 2 (by decide)) (cw_S hC 2 rfl) cpX3 2 (by decide) rfl tw_158 dX3_number_115 ?_
          refine lv_iconst (v := (1 : Int32)) hx hb dX3_number_118 (by decide) ?_
          obtain ⟨r_30, I_31, J_32, hq_33, hf⟩ := yb_b3_some hf
          refine x_calli X hK hw (c3_failAt l D cz ev hC hq_33) (cw_mem hC 2 (by decide)) (cw_S hC 2 rfl) cpX3.1 vw_X3_38 ⟨Nat.le_of_ble_eq_true rfl, Nat.le_of_ble_eq_true rfl⟩ rfl rfl (Nat.le_of_ble_eq_true rfl) hl.1 ⟨Nat.le_refl _, Nat.le_refl _⟩ dX3_number_119 (fun H locs hw => ?_)
          refine lv_pop hx hb dX3_number_122 rfl ?_
          refine lv_iconst (v := (-1 : Int32)) hx hb dX3_number_123 (by decide) ?_
          exact yb_reti hfin hf hw dX3_number_124
  · have hf := yb_pos c_14 hf
    refine lv_aload_n hx hb dX3_number_79 rfl (lv_at hl 0 rfl) ?_
    refine lv_aload_n hx hb dX3_number_80 rfl (lv_at hl 0 rfl) ?_
    refine x_getI X hK hw (cw_mem hC 2 (by decide)) (cw_S hC 2 rfl) cpX3 2 (by decide) rfl tw_158 dX3_number_81 ?_
    refine lv_iconst (v := (0 : Int32)) hx hb dX3_number_84 (by decide) ?_
    obtain ⟨r_34, I_35, J_36, hq_37, hf⟩ := yb_b3_some hf
    refine x_calli X hK hw (c3_failAt l D cz ev hC hq_37) (cw_mem hC 2 (by decide)) (cw_S hC 2 rfl) cpX3.1 vw_X3_38 ⟨Nat.le_of_ble_eq_true rfl, Nat.le_of_ble_eq_true rfl⟩ rfl rfl (Nat.le_of_ble_eq_true rfl) hl.1 ⟨Nat.le_refl _, Nat.le_refl _⟩ dX3_number_85 (fun H locs hw => ?_)
    refine lv_pop hx hb dX3_number_88 rfl ?_
    refine lv_iconst (v := (-1 : Int32)) hx hb dX3_number_89 (by decide) ?_
    exact yb_reti hfin hf hw dX3_number_90
