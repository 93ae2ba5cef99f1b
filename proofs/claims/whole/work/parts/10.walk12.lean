set_option maxHeartbeats 4000000 in
set_option maxRecDepth 100000 in
theorem c12_beginsPlace (l : Launch) (D : va_G) (cz : Nat → ClassId) (ev : Nat × Nat × Nat) (mb : Nat) {x1 : Int32} {I : IT} {J : JT} {r : Unit} {I1 : IT} {J1 : JT} (hf : f12_beginsPlace mb x1 I J = some (r, I1, J1)) : MTv l D cz ev yX12_beginsPlace cX12_beginsPlace 2 (none) 0 0 [.ref mb, .int x1] (mlL mb) (mlS mb) (mlR mb) I J r I1 J1 := by
  unfold f12_beginsPlace at hf
  refine MTv_of (by decide) (Nat.le_of_ble_eq_true rfl) ?_
  intro p e s m args below meth c Q ls X hK hw hl hfin
  have X : CallFix p m c cX12_beginsPlace 2 s args gw RX12 := X
  have hx := X.1
  have hb := X.2.1
  have hl : lv_has ls 2 [(0, .ref mb), (1, .int x1)] := hl
  refine lv_aload_n hx hb dX12_beginsPlace_0 rfl (lv_at hl 0 rfl) ?_
  refine x_getR X hK hw (ml_mem0 mb) (ml_S0 mb) cpX12 29 (by decide) rfl (ml_R mb 29 rfl) tw_1280 dX12_beginsPlace_1 ?_
  refine lv_iload_n hx hb dX12_beginsPlace_4 rfl (lv_at hl 1 rfl) ?_
  refine lv_iconst (v := (0 : Int32)) hx hb dX12_beginsPlace_5 (by decide) ?_
  obtain ⟨hi_1, hf⟩ := yb_ck_some hf
  refine x_iast X hK hw (ml_mem mb 15 (by decide)) (ml_S mb 15 rfl) hi_1 rfl dX12_beginsPlace_6 (fun H locs hw => ?_)
  obtain ⟨I_2, eI_2, hf⟩ := yb_let_ex hf
  have hw := yb_wI eI_2 hw
  refine lv_aload_n hx hb dX12_beginsPlace_7 rfl (lv_at hl 0 rfl) ?_
  refine x_getR X hK hw (ml_mem0 mb) (ml_S0 mb) cpX12 30 (by decide) rfl (ml_R mb 30 rfl) tw_1281 dX12_beginsPlace_8 ?_
  refine lv_iload_n hx hb dX12_beginsPlace_11 rfl (lv_at hl 1 rfl) ?_
  refine lv_iconst (v := (-1 : Int32)) hx hb dX12_beginsPlace_12 (by decide) ?_
  refine x_iast X hK hw (ml_mem mb 16 (by decide)) (ml_S mb 16 rfl) hi_1 rfl dX12_beginsPlace_13 (fun H locs hw => ?_)
  obtain ⟨I_3, eI_3, hf⟩ := yb_let_ex hf
  have hw := yb_wI eI_3 hw
  exact yb_retv hfin hf hw dX12_beginsPlace_14
set_option maxHeartbeats 4000000 in
set_option maxRecDepth 100000 in
theorem w12_findsBenches_L12 {p : Program} {l : Launch} {e : Env} {s : State} {m : MethodId} {args : Array Value} {below : List Frame} {meth : Method} {c : Code} {Q : State → Prop} {D : va_G} {cz : Nat → ClassId} {A : Nat → Prop} {ev : Nat × Nat × Nat} {mb : Nat} (X : CallFix p m c cX12_findsBenches 2 s args gw RX12) (hK : KX D cz ev A s) {N : Nat} :
    ∀ (n : Nat) (x1 : Int32) (I : IT) (J : JT) (q : (Unit)) (I1 : IT) (J1 : JT) (H : Heap) (locs : List Loc) (ls : Array Slot), f12_findsBenches_L12 N mb n x1 I J = some (q, I1, J1) → WX D cz A (mlL mb) (mlS mb) (mlR mb) s.heap I J H locs → lv_has ls 2 [(0, .ref mb), (1, .int x1)] →
    (∀ (H : Heap) (locs : List Loc) (ls : Array Slot), WX D cz A (mlL mb) (mlS mb) (mlR mb) s.heap I1 J1 H locs → lv_has ls 2 [(0, .ref mb)] → W p l e (rmX 5 117) s m args below meth c H locs 0 0 Q (F0 m 36 ls [])) →
    W p l e (rmX 5 117) s m args below meth c H locs 0 0 Q (F0 m 12 ls []) := by
  have hx := X.1
  have hb := X.2.1
  intro n
  induction n with
  | zero =>
    intro x1 I J q I1 J1 H locs ls hf
    rw [f12_findsBenches_L12] at hf
    cases hf
  | succ n ih =>
    intro x1 I J q I1 J1 H locs ls hf hw hl hexit
    rw [f12_findsBenches_L12] at hf
    refine lv_iload_n hx hb dX12_findsBenches_12 rfl (lv_at hl 1 rfl) ?_
    refine lv_aload_n hx hb dX12_findsBenches_13 rfl (lv_at hl 0 rfl) ?_
    refine x_getI X hK hw (ml_mem0 mb) (ml_S0 mb) cpX12 25 (by decide) rfl tw_1276 dX12_findsBenches_14 ?_
    refine lv_icmp_ge (tgt := 36) hx hb dX12_findsBenches_17 (by decide) (fun c_3 => ?_) (fun c_3 => ?_)
    · have hf := yb_pos c_3 hf
      obtain ⟨rfl, rfl, rfl⟩ := yb_inj hf
      exact hexit _ _ _ hw (lv_sub hl [0] rfl)
    · have hf := yb_neg c_3 hf
      refine lv_aload_n hx hb dX12_findsBenches_20 rfl (lv_at hl 0 rfl) ?_
      refine x_getR X hK hw (ml_mem0 mb) (ml_S0 mb) cpX12 32 (by decide) rfl (ml_R mb 32 rfl) tw_1283 dX12_findsBenches_21 ?_
      refine lv_iload_n hx hb dX12_findsBenches_24 rfl (lv_at hl 1 rfl) ?_
      refine lv_aload_n hx hb dX12_findsBenches_25 rfl (lv_at hl 0 rfl) ?_
      refine x_getI X hK hw (ml_mem0 mb) (ml_S0 mb) cpX12 25 (by decide) rfl tw_1276 dX12_findsBenches_26 ?_
      obtain ⟨hi_4, hf⟩ := yb_ck_some hf
      refine x_iast X hK hw (ml_mem mb 18 (by decide)) (ml_S mb 18 rfl) hi_4 rfl dX12_findsBenches_29 (fun H locs hw => ?_)
      obtain ⟨I_5, eI_5, hf⟩ := yb_let_ex hf
      have hw := yb_wI eI_5 hw
      obtain ⟨x1_6, ex1_6, hf⟩ := yb_let_ex hf
      refine lv_iinc (v := x1_6) (lv' := [(1, .int x1_6), (0, .ref mb)]) hx hb dX12_findsBenches_30 hl (k := 1) rfl (by rw [ex1_6]; rfl) (by decide) rfl (fun ls hl => ?_)
      refine lv_goto (tgt := 12) hx hb dX12_findsBenches_33 (by decide) ?_
      exact ih _ _ _ _ _ _ _ _ _ hf hw (lv_sub hl [1, 0] rfl) hexit
set_option maxHeartbeats 4000000 in
set_option maxRecDepth 100000 in
theorem w12_findsBenches_L43 {p : Program} {l : Launch} {e : Env} {s : State} {m : MethodId} {args : Array Value} {below : List Frame} {meth : Method} {c : Code} {Q : State → Prop} {D : va_G} {cz : Nat → ClassId} {A : Nat → Prop} {ev : Nat × Nat × Nat} {mb : Nat} (X : CallFix p m c cX12_findsBenches 2 s args gw RX12) (hK : KX D cz ev A s) {N : Nat} :
    ∀ (n : Nat) (x1 : Int32) (I : IT) (J : JT) (q : (Unit)) (I1 : IT) (J1 : JT) (H : Heap) (locs : List Loc) (ls : Array Slot), f12_findsBenches_L43 N mb n x1 I J = some (q, I1, J1) → WX D cz A (mlL mb) (mlS mb) (mlR mb) s.heap I J H locs → lv_has ls 2 [(0, .ref mb), (1, .int x1)] →
    (∀ (H : Heap) (locs : List Loc) (ls : Array Slot), WX D cz A (mlL mb) (mlS mb) (mlR mb) s.heap I1 J1 H locs → lv_has ls 2 [] → W p l e (rmX 5 117) s m args below meth c H locs 0 0 Q (F0 m 89 ls [])) →
    W p l e (rmX 5 117) s m args below meth c H locs 0 0 Q (F0 m 43 ls []) := by
  have hx := X.1
  have hb := X.2.1
  intro n
  induction n with
  | zero =>
    intro x1 I J q I1 J1 H locs ls hf
    rw [f12_findsBenches_L43] at hf
    cases hf
  | succ n ih =>
    intro x1 I J q I1 J1 H locs ls hf hw hl hexit
    rw [f12_findsBenches_L43] at hf
    refine lv_iload_n hx hb dX12_findsBenches_43 rfl (lv_at hl 1 rfl) ?_
    refine lv_if_lt (tgt := 89) hx hb dX12_findsBenches_44 (by decide) (fun c_15 => ?_) (fun c_15 => ?_)
    · have hf := yb_pos c_15 hf
      obtain ⟨rfl, rfl, rfl⟩ := yb_inj hf
      exact hexit _ _ _ hw (lv_sub hl [] rfl)
    · have hf := yb_neg c_15 hf
      refine lv_aload_n hx hb dX12_findsBenches_47 rfl (lv_at hl 0 rfl) ?_
      refine lv_iload_n hx hb dX12_findsBenches_48 rfl (lv_at hl 1 rfl) ?_
      obtain ⟨r_16, I_17, J_18, hq_19, hf⟩ := yb_b3_some hf
      refine x_calli X hK hw (c12_goesOnAt l D cz ev mb hq_19) (ml_mem0 mb) (ml_S0 mb) cpX12.1 vw_X12_425 ⟨Nat.le_of_ble_eq_true rfl, Nat.le_of_ble_eq_true rfl⟩ rfl rfl (Nat.le_of_ble_eq_true rfl) hl.1 ⟨Nat.le_refl _, Nat.le_refl _⟩ dX12_findsBenches_49 (fun H locs hw => ?_)
      refine lv_if_ne (tgt := 61) hx hb dX12_findsBenches_52 (by decide) (fun c_20 => ?_) (fun c_20 => ?_)
      · have hf := yb_neg c_20 hf
        refine lv_iload_n hx hb dX12_findsBenches_61 rfl (lv_at hl 1 rfl) ?_
        refine lv_aload_n hx hb dX12_findsBenches_62 rfl (lv_at hl 0 rfl) ?_
        refine x_getI X hK hw (ml_mem0 mb) (ml_S0 mb) cpX12 25 (by decide) rfl tw_1276 dX12_findsBenches_63 ?_
        refine lv_iconst (v := (1 : Int32)) hx hb dX12_findsBenches_66 (by decide) ?_
        refine lv_isub hx hb dX12_findsBenches_67 ?_
        refine lv_icmp_ne (tgt := 78) hx hb dX12_findsBenches_68 (by decide) (fun c_21 => ?_) (fun c_21 => ?_)
        · have hf := yb_neg c_21 hf
          obtain ⟨x1_22, ex1_22, hf⟩ := yb_let_ex hf
          refine lv_iinc (v := x1_22) (lv' := [(1, .int x1_22), (0, .ref mb)]) hx hb dX12_findsBenches_78 hl (k := 1) rfl (by rw [ex1_22]; rfl) (by decide) rfl (fun ls hl => ?_)
          refine lv_aload_n hx hb dX12_findsBenches_81 rfl (lv_at hl 1 rfl) ?_
          refine lv_iload_n hx hb dX12_findsBenches_82 rfl (lv_at hl 0 rfl) ?_
          obtain ⟨r_23, I_24, J_25, hq_26, hf⟩ := yb_b3_some hf
          refine x_callv X hK hw (c12_beginsPlace l D cz ev mb hq_26) (ml_mem0 mb) (ml_S0 mb) cpX12.1 vw_X12_422 ⟨Nat.le_of_ble_eq_true rfl, Nat.le_of_ble_eq_true rfl⟩ rfl rfl (Nat.le_of_ble_eq_true rfl) hl.1 ⟨Nat.le_refl _, Nat.le_refl _⟩ dX12_findsBenches_83 (fun H locs hw => ?_)
          refine lv_goto (tgt := 43) hx hb dX12_findsBenches_86 (by decide) ?_
          exact ih _ _ _ _ _ _ _ _ _ hf hw (lv_sub hl [1, 0] rfl) hexit
        · have hf := yb_pos c_21 hf
          refine lv_aload_n hx hb dX12_findsBenches_71 rfl (lv_at hl 0 rfl) ?_
          obtain ⟨r_27, I_28, J_29, hq_30, hf⟩ := yb_b3_some hf
          refine x_callv X hK hw (c12_countsRow l D cz ev mb hq_30) (ml_mem0 mb) (ml_S0 mb) cpX12.1 vw_X12_428 ⟨Nat.le_of_ble_eq_true rfl, Nat.le_of_ble_eq_true rfl⟩ rfl rfl (Nat.le_of_ble_eq_true rfl) hl.1 ⟨Nat.le_refl _, Nat.le_refl _⟩ dX12_findsBenches_72 (fun H locs hw => ?_)
          refine lv_goto (tgt := 43) hx hb dX12_findsBenches_75 (by decide) ?_
          exact ih _ _ _ _ _ _ _ _ _ hf hw (lv_sub hl [0, 1] rfl) hexit
      · have hf := yb_pos c_20 hf
        obtain ⟨x1_31, ex1_31, hf⟩ := yb_let_ex hf
        refine lv_iinc (v := x1_31) (lv' := [(1, .int x1_31), (0, .ref mb)]) hx hb dX12_findsBenches_55 hl (k := 1) rfl (by rw [ex1_31]; rfl) (by decide) rfl (fun ls hl => ?_)
        refine lv_goto (tgt := 43) hx hb dX12_findsBenches_58 (by decide) ?_
        exact ih _ _ _ _ _ _ _ _ _ hf hw (lv_sub hl [1, 0] rfl) hexit
set_option maxHeartbeats 4000000 in
set_option maxRecDepth 100000 in
theorem c12_findsBenches (l : Launch) (D : va_G) (cz : Nat → ClassId) (ev : Nat × Nat × Nat) (mb : Nat) {N : Nat} {I : IT} {J : JT} {r : Unit} {I1 : IT} {J1 : JT} (hf : f12_findsBenches N mb I J = some (r, I1, J1)) : MTv l D cz ev yX12_findsBenches cX12_findsBenches 2 (none) 5 117 [.ref mb] (mlL mb) (mlS mb) (mlR mb) I J r I1 J1 := by
  unfold f12_findsBenches at hf
  refine MTv_of (by decide) (Nat.le_of_ble_eq_true rfl) ?_
  intro p e s m args below meth c Q ls X hK hw hl hfin
  have X : CallFix p m c cX12_findsBenches 2 s args gw RX12 := X
  have hx := X.1
  have hb := X.2.1
  have hl : lv_has ls 2 [(0, .ref mb)] := hl
  refine lv_aload_n hx hb dX12_findsBenches_0 rfl (lv_at hl 0 rfl) ?_
  refine lv_iconst (v := (-1 : Int32)) hx hb dX12_findsBenches_1 (by decide) ?_
  refine x_putI X hK hw (ml_mem0 mb) (ml_S0 mb) cpX12 35 (by decide) rfl rfl rfl tw_1286 dX12_findsBenches_2 (fun H locs hw => ?_)
  obtain ⟨I_1, eI_1, hf⟩ := yb_let_ex hf
  have hw := yb_wI eI_1 hw
  refine lv_aload_n hx hb dX12_findsBenches_5 rfl (lv_at hl 0 rfl) ?_
  refine lv_iconst (v := (-1 : Int32)) hx hb dX12_findsBenches_6 (by decide) ?_
  refine x_putI X hK hw (ml_mem0 mb) (ml_S0 mb) cpX12 36 (by decide) rfl rfl rfl tw_1287 dX12_findsBenches_7 (fun H locs hw => ?_)
  obtain ⟨I_2, eI_2, hf⟩ := yb_let_ex hf
  have hw := yb_wI eI_2 hw
  refine lv_iconst (v := (0 : Int32)) hx hb dX12_findsBenches_10 (by decide) ?_
  refine lv_istore_n (lv' := [(1, .int (0 : Int32)), (0, .ref mb)]) hx hb dX12_findsBenches_11 rfl hl (by decide) rfl (fun ls hl => ?_)
  obtain ⟨q_7, I_8, J_9, hq_10, hf⟩ := yb_b3_some hf
  refine w12_findsBenches_L12 X hK _ _ _ _ _ _ _ _ _ _ hq_10 hw (lv_sub hl [1, 0] rfl) (fun H locs ls hw hl => ?_)
  refine lv_iconst (v := (0 : Int32)) hx hb dX12_findsBenches_36 (by decide) ?_
  refine lv_istore_n (lv' := [(1, .int (0 : Int32)), (0, .ref mb)]) hx hb dX12_findsBenches_37 rfl hl (by decide) rfl (fun ls hl => ?_)
  refine lv_aload_n hx hb dX12_findsBenches_38 rfl (lv_at hl 1 rfl) ?_
  refine lv_iconst (v := (0 : Int32)) hx hb dX12_findsBenches_39 (by decide) ?_
  obtain ⟨r_11, I_12, J_13, hq_14, hf⟩ := yb_b3_some hf
  refine x_callv X hK hw (c12_beginsPlace l D cz ev mb hq_14) (ml_mem0 mb) (ml_S0 mb) cpX12.1 vw_X12_422 ⟨Nat.le_of_ble_eq_true rfl, Nat.le_of_ble_eq_true rfl⟩ rfl rfl (Nat.le_of_ble_eq_true rfl) hl.1 ⟨Nat.le_refl _, Nat.le_refl _⟩ dX12_findsBenches_40 (fun H locs hw => ?_)
  obtain ⟨q_32, I_33, J_34, hq_35, hf⟩ := yb_b3_some hf
  refine w12_findsBenches_L43 X hK _ _ _ _ _ _ _ _ _ _ hq_35 hw (lv_sub hl [1, 0] rfl) (fun H locs ls hw hl => ?_)
  exact yb_retv hfin hf hw dX12_findsBenches_89
set_option maxHeartbeats 4000000 in
set_option maxRecDepth 100000 in
theorem c12_benchesNow (l : Launch) (D : va_G) (cz : Nat → ClassId) (ev : Nat × Nat × Nat) (mb : Nat) {N : Nat} {I : IT} {J : JT} {r : Int32} {I1 : IT} {J1 : JT} (hf : f12_benchesNow N mb I J = some (r, I1, J1)) : MTi l D cz ev yX12_benchesNow cX12_benchesNow 1 (some .int) 6 153 [.ref mb] (mlL mb) (mlS mb) (mlR mb) I J r I1 J1 := by
  unfold f12_benchesNow at hf
  refine MTi_of (by decide) (Nat.le_of_ble_eq_true rfl) ?_
  intro p e s m args below meth c Q ls X hK hw hl hfin
  have X : CallFix p m c cX12_benchesNow 1 s args gw RX12 := X
  have hx := X.1
  have hb := X.2.1
  have hl : lv_has ls 1 [(0, .ref mb)] := hl
  refine lv_aload_n hx hb dX12_benchesNow_0 rfl (lv_at hl 0 rfl) ?_
  obtain ⟨r_1, I_2, J_3, hq_4, hf⟩ := yb_b3_some hf
  refine x_callv X hK hw (c12_fillsOpen l D cz ev mb hq_4) (ml_mem0 mb) (ml_S0 mb) cpX12.1 vw_X12_431 ⟨Nat.le_of_ble_eq_true rfl, Nat.le_of_ble_eq_true rfl⟩ rfl rfl (Nat.le_of_ble_eq_true rfl) hl.1 ⟨Nat.le_refl _, Nat.le_refl _⟩ dX12_benchesNow_1 (fun H locs hw => ?_)
  refine lv_aload_n hx hb dX12_benchesNow_4 rfl (lv_at hl 0 rfl) ?_
  refine x_getI X hK hw (ml_mem0 mb) (ml_S0 mb) cpX12 25 (by decide) rfl tw_1276 dX12_benchesNow_5 ?_
  refine lv_iconst (v := (4 : Int32)) hx hb dX12_benchesNow_8 (by decide) ?_
  refine lv_icmp_le (tgt := 15) hx hb dX12_benchesNow_9 (by decide) (fun c_5 => ?_) (fun c_5 => ?_)
  · have hf := yb_pos c_5 hf
    refine lv_aload_n hx hb dX12_benchesNow_15 rfl (lv_at hl 0 rfl) ?_
    refine lv_iconst (v := (0 : Int32)) hx hb dX12_benchesNow_16 (by decide) ?_
    refine x_putI X hK hw (ml_mem0 mb) (ml_S0 mb) cpX12 35 (by decide) rfl rfl rfl tw_1286 dX12_benchesNow_17 (fun H locs hw => ?_)
    obtain ⟨I_6, eI_6, hf⟩ := yb_let_ex hf
    have hw := yb_wI eI_6 hw
    refine lv_aload_n hx hb dX12_benchesNow_20 rfl (lv_at hl 0 rfl) ?_
    refine lv_iconst (v := (-1 : Int32)) hx hb dX12_benchesNow_21 (by decide) ?_
    refine x_putI X hK hw (ml_mem0 mb) (ml_S0 mb) cpX12 36 (by decide) rfl rfl rfl tw_1287 dX12_benchesNow_22 (fun H locs hw => ?_)
    obtain ⟨I_7, eI_7, hf⟩ := yb_let_ex hf
    have hw := yb_wI eI_7 hw
    refine lv_aload_n hx hb dX12_benchesNow_25 rfl (lv_at hl 0 rfl) ?_
    refine x_getI X hK hw (ml_mem0 mb) (ml_S0 mb) cpX12 25 (by decide) rfl tw_1276 dX12_benchesNow_26 ?_
    refine lv_if_ne (tgt := 34) hx hb dX12_benchesNow_29 (by decide) (fun c_8 => ?_) (fun c_8 => ?_)
    · have hf := yb_neg c_8 hf
      refine lv_aload_n hx hb dX12_benchesNow_34 rfl (lv_at hl 0 rfl) ?_
      obtain ⟨r_9, I_10, J_11, hq_12, hf⟩ := yb_b3_some hf
      refine x_callv X hK hw (c12_fillsSpots l D cz ev mb hq_12) (ml_mem0 mb) (ml_S0 mb) cpX12.1 vw_X12_434 ⟨Nat.le_of_ble_eq_true rfl, Nat.le_of_ble_eq_true rfl⟩ rfl rfl (Nat.le_of_ble_eq_true rfl) hl.1 ⟨Nat.le_refl _, Nat.le_refl _⟩ dX12_benchesNow_35 (fun H locs hw => ?_)
      refine lv_aload_n hx hb dX12_benchesNow_38 rfl (lv_at hl 0 rfl) ?_
      obtain ⟨r_13, I_14, J_15, hq_16, hf⟩ := yb_b3_some hf
      refine x_callv X hK hw (c12_findsBenches l D cz ev mb hq_16) (ml_mem0 mb) (ml_S0 mb) cpX12.1 vw_X12_437 ⟨Nat.le_of_ble_eq_true rfl, Nat.le_of_ble_eq_true rfl⟩ rfl rfl (Nat.le_of_ble_eq_true rfl) hl.1 ⟨Nat.le_refl _, Nat.le_refl _⟩ dX12_benchesNow_39 (fun H locs hw => ?_)
      refine lv_aload_n hx hb dX12_benchesNow_42 rfl (lv_at hl 0 rfl) ?_
      refine x_getI X hK hw (ml_mem0 mb) (ml_S0 mb) cpX12 35 (by decide) rfl tw_1286 dX12_benchesNow_43 ?_
      refine lv_if_ge (tgt := 54) hx hb dX12_benchesNow_46 (by decide) (fun c_17 => ?_) (fun c_17 => ?_)
      · have hf := yb_pos c_17 hf
        refine lv_iconst (v := (0 : Int32)) hx hb dX12_benchesNow_54 (by decide) ?_
        exact yb_reti hfin hf hw dX12_benchesNow_55
      · have hf := yb_neg c_17 hf
        refine lv_bipush (v := (-2 : Int32)) hx hb dX12_benchesNow_49 (by decide) ?_
        refine lv_goto (tgt := 55) hx hb dX12_benchesNow_51 (by decide) ?_
        exact yb_reti hfin hf hw dX12_benchesNow_55
    · have hf := yb_pos c_8 hf
      refine lv_iconst (v := (0 : Int32)) hx hb dX12_benchesNow_32 (by decide) ?_
      exact yb_reti hfin hf hw dX12_benchesNow_33
  · have hf := yb_neg c_5 hf
    refine lv_bipush (v := (-3 : Int32)) hx hb dX12_benchesNow_12 (by decide) ?_
    exact yb_reti hfin hf hw dX12_benchesNow_14
set_option maxHeartbeats 4000000 in
set_option maxRecDepth 100000 in
theorem c12_benches (l : Launch) (D : va_G) (cz : Nat → ClassId) (ev : Nat × Nat × Nat) (mb : Nat) {N : Nat} {x1 : Int32} {I : IT} {J : JT} {r : Int32} {I1 : IT} {J1 : JT} (hf : f12_benches N mb x1 I J = some (r, I1, J1)) : MTi l D cz ev yX12_benches cX12_benches 4 (some .int) 7 173 [.ref mb, .int x1] (mlL mb) (mlS mb) (mlR mb) I J r I1 J1 := by
  unfold f12_benches at hf
  refine MTi_of (by decide) (Nat.le_of_ble_eq_true rfl) ?_
  intro p e s m args below meth c Q ls X hK hw hl hfin
  have X : CallFix p m c cX12_benches 4 s args gw RX12 := X
  have hx := X.1
  have hb := X.2.1
  have hl : lv_has ls 4 [(0, .ref mb), (1, .int x1)] := hl
  refine lv_aload_n hx hb dX12_benches_0 rfl (lv_at hl 0 rfl) ?_
  obtain ⟨r_1, I_2, J_3, hq_4, hf⟩ := yb_b3_some hf
  refine x_calli X hK hw (c12_isTown l D cz ev mb hq_4) (ml_mem0 mb) (ml_S0 mb) cpX12.1 vw_X12_380 ⟨Nat.le_of_ble_eq_true rfl, Nat.le_of_ble_eq_true rfl⟩ rfl rfl (Nat.le_of_ble_eq_true rfl) hl.1 ⟨Nat.le_refl _, Nat.le_refl _⟩ dX12_benches_1 (fun H locs hw => ?_)
  refine lv_if_eq (tgt := 19) hx hb dX12_benches_4 (by decide) (fun c_5 => ?_) (fun c_5 => ?_)
  · have hf := yb_pos c_5 hf
    refine lv_iconst (v := (-1 : Int32)) hx hb dX12_benches_19 (by decide) ?_
    exact yb_reti hfin hf hw dX12_benches_20
  · have hf := yb_neg c_5 hf
    refine lv_iload_n hx hb dX12_benches_7 rfl (lv_at hl 1 rfl) ?_
    refine lv_i2l hx hb dX12_benches_8 rfl ?_
    refine lv_lconst (v := (0 : Int64)) hx hb dX12_benches_9 (by decide) ?_
    refine lv_ldc2 (v := (13 : Int64)) hx hb X.2.2.2.1 (X.2.2.2.2 _ tw_1727) dX12_benches_10 ?_
    obtain ⟨r_6, I_7, J_8, hq_9, hf⟩ := yb_b3_some hf
    refine x_callsi X hK hw (c12_in l D cz ev mb hq_9) sw_X12_142 ⟨Nat.le_of_ble_eq_true rfl, Nat.le_of_ble_eq_true rfl⟩ rfl rfl (Nat.le_of_ble_eq_true rfl) hl.1 ⟨Nat.le_refl _, Nat.le_refl _⟩ dX12_benches_13 (fun H locs hw => ?_)
    refine lv_if_ne (tgt := 21) hx hb dX12_benches_16 (by decide) (fun c_10 => ?_) (fun c_10 => ?_)
    · have hf := yb_neg c_10 hf
      refine lv_aload_n hx hb dX12_benches_21 rfl (lv_at hl 0 rfl) ?_
      obtain ⟨r_11, I_12, J_13, hq_14, hf⟩ := yb_b3_some hf
      refine x_calli X hK hw (c12_benchesNow l D cz ev mb hq_14) (ml_mem0 mb) (ml_S0 mb) cpX12.1 vw_X12_442 ⟨Nat.le_of_ble_eq_true rfl, Nat.le_of_ble_eq_true rfl⟩ rfl rfl (Nat.le_of_ble_eq_true rfl) hl.1 ⟨Nat.le_refl _, Nat.le_refl _⟩ dX12_benches_22 (fun H locs hw => ?_)
      refine lv_istore_n (lv' := [(2, .int r_11), (0, .ref mb), (1, .int x1)]) hx hb dX12_benches_25 rfl hl (by decide) rfl (fun ls hl => ?_)
      refine lv_iload_n hx hb dX12_benches_26 rfl (lv_at hl 0 rfl) ?_
      refine lv_if_eq (tgt := 32) hx hb dX12_benches_27 (by decide) (fun c_15 => ?_) (fun c_15 => ?_)
      · have hf := yb_pos c_15 hf
        refine lv_iload_n hx hb dX12_benches_32 rfl (lv_at hl 2 rfl) ?_
        refine lv_if_ne (tgt := 41) hx hb dX12_benches_33 (by decide) (fun c_16 => ?_) (fun c_16 => ?_)
        · have hf := yb_neg c_16 hf
          refine lv_iload_n hx hb dX12_benches_41 rfl (lv_at hl 2 rfl) ?_
          refine lv_iconst (v := (1 : Int32)) hx hb dX12_benches_42 (by decide) ?_
          refine lv_icmp_ne (tgt := 69) hx hb dX12_benches_43 (by decide) (fun c_17 => ?_) (fun c_17 => ?_)
          · have hf := yb_neg c_17 hf
            refine lv_iload_n hx hb dX12_benches_69 rfl (lv_at hl 2 rfl) ?_
            refine lv_iconst (v := (2 : Int32)) hx hb dX12_benches_70 (by decide) ?_
            refine lv_isub hx hb dX12_benches_71 ?_
            refine lv_iconst (v := (4 : Int32)) hx hb dX12_benches_72 (by decide) ?_
            refine lv_irem hx hb dX12_benches_73 (by decide) ?_
            refine lv_topi (fun x3_18 ex3_18 => ?_)
            have hf := yb_let_to ex3_18 hf
            refine lv_istore_n (lv' := [(3, .int x3_18), (2, .int r_11), (0, .ref mb), (1, .int x1)]) hx hb dX12_benches_74 rfl hl (by decide) rfl (fun ls hl => ?_)
            refine lv_iload_n hx hb dX12_benches_75 rfl (lv_at hl 0 rfl) ?_
            refine lv_aload_n hx hb dX12_benches_76 rfl (lv_at hl 2 rfl) ?_
            refine x_getI X hK hw (ml_mem0 mb) (ml_S0 mb) cpX12 25 (by decide) rfl tw_1276 dX12_benches_77 ?_
            refine lv_icmp_lt (tgt := 86) hx hb dX12_benches_80 (by decide) (fun c_19 => ?_) (fun c_19 => ?_)
            · have hf := yb_pos c_19 hf
              refine lv_iload_n hx hb dX12_benches_86 rfl (lv_at hl 3 rfl) ?_
              refine lv_bipush (v := (6 : Int32)) hx hb dX12_benches_87 (by decide) ?_
              refine lv_icmp_ge (tgt := 106) hx hb dX12_benches_89 (by decide) (fun c_20 => ?_) (fun c_20 => ?_)
              · have hf := yb_pos c_20 hf
                refine lv_iload_n hx hb dX12_benches_106 rfl (lv_at hl 3 rfl) ?_
                refine lv_bipush (v := (10 : Int32)) hx hb dX12_benches_107 (by decide) ?_
                refine lv_icmp_ge (tgt := 121) hx hb dX12_benches_109 (by decide) (fun c_21 => ?_) (fun c_21 => ?_)
                · have hf := yb_pos c_21 hf
                  refine lv_aload_n hx hb dX12_benches_121 rfl (lv_at hl 2 rfl) ?_
                  refine x_getR X hK hw (ml_mem0 mb) (ml_S0 mb) cpX12 20 (by decide) rfl (ml_R mb 20 rfl) tw_1271 dX12_benches_122 ?_
                  refine lv_iconst (v := (4 : Int32)) hx hb dX12_benches_125 (by decide) ?_
                  refine x_iald X hK hw (ml_mem mb 10 (by decide)) (ml_S mb 10 rfl) (by decide) rfl dX12_benches_126 ?_
                  refine lv_aload_n hx hb dX12_benches_127 rfl (lv_at hl 2 rfl) ?_
                  refine x_getR X hK hw (ml_mem0 mb) (ml_S0 mb) cpX12 34 (by decide) rfl (ml_R mb 34 rfl) tw_1285 dX12_benches_128 ?_
                  refine lv_iload_n hx hb dX12_benches_131 rfl (lv_at hl 0 rfl) ?_
                  obtain ⟨hi_22, hf⟩ := yb_ck_some hf
                  refine x_iald X hK hw (ml_mem mb 20 (by decide)) (ml_S mb 20 rfl) hi_22 rfl dX12_benches_132 ?_
                  refine lv_iadd hx hb dX12_benches_133 ?_
                  exact yb_reti hfin hf hw dX12_benches_134
                · have hf := yb_neg c_21 hf
                  refine lv_aload_n hx hb dX12_benches_112 rfl (lv_at hl 2 rfl) ?_
                  refine x_getR X hK hw (ml_mem0 mb) (ml_S0 mb) cpX12 33 (by decide) rfl (ml_R mb 33 rfl) tw_1284 dX12_benches_113 ?_
                  refine lv_iload_n hx hb dX12_benches_116 rfl (lv_at hl 0 rfl) ?_
                  obtain ⟨hi_23, hf⟩ := yb_ck_some hf
                  refine x_iald X hK hw (ml_mem mb 19 (by decide)) (ml_S mb 19 rfl) hi_23 rfl dX12_benches_117 ?_
                  refine lv_goto (tgt := 134) hx hb dX12_benches_118 (by decide) ?_
                  exact yb_reti hfin hf hw dX12_benches_134
              · have hf := yb_neg c_20 hf
                refine lv_aload_n hx hb dX12_benches_92 rfl (lv_at hl 2 rfl) ?_
                refine x_getR X hK hw (ml_mem0 mb) (ml_S0 mb) cpX12 26 (by decide) rfl (ml_R mb 26 rfl) tw_1277 dX12_benches_93 ?_
                refine lv_aload_n hx hb dX12_benches_96 rfl (lv_at hl 2 rfl) ?_
                refine x_getR X hK hw (ml_mem0 mb) (ml_S0 mb) cpX12 32 (by decide) rfl (ml_R mb 32 rfl) tw_1283 dX12_benches_97 ?_
                refine lv_iload_n hx hb dX12_benches_100 rfl (lv_at hl 0 rfl) ?_
                obtain ⟨hi_24, hf⟩ := yb_ck_some hf
                refine x_iald X hK hw (ml_mem mb 18 (by decide)) (ml_S mb 18 rfl) hi_24 rfl dX12_benches_101 ?_
                obtain ⟨hi_25, hf⟩ := yb_ck_some hf
                refine x_iald X hK hw (ml_mem mb 12 (by decide)) (ml_S mb 12 rfl) hi_25 rfl dX12_benches_102 ?_
                refine lv_goto (tgt := 134) hx hb dX12_benches_103 (by decide) ?_
                exact yb_reti hfin hf hw dX12_benches_134
            · have hf := yb_neg c_19 hf
              refine lv_bipush (v := (-2 : Int32)) hx hb dX12_benches_83 (by decide) ?_
              exact yb_reti hfin hf hw dX12_benches_85
          · have hf := yb_pos c_17 hf
            refine lv_aload_n hx hb dX12_benches_46 rfl (lv_at hl 1 rfl) ?_
            refine x_getI X hK hw (ml_mem0 mb) (ml_S0 mb) cpX12 36 (by decide) rfl tw_1287 dX12_benches_47 ?_
            refine lv_if_ge (tgt := 57) hx hb dX12_benches_50 (by decide) (fun c_26 => ?_) (fun c_26 => ?_)
            · have hf := yb_pos c_26 hf
              refine lv_aload_n hx hb dX12_benches_57 rfl (lv_at hl 1 rfl) ?_
              refine x_getR X hK hw (ml_mem0 mb) (ml_S0 mb) cpX12 20 (by decide) rfl (ml_R mb 20 rfl) tw_1271 dX12_benches_58 ?_
              refine lv_iconst (v := (4 : Int32)) hx hb dX12_benches_61 (by decide) ?_
              refine x_iald X hK hw (ml_mem mb 10 (by decide)) (ml_S mb 10 rfl) (by decide) rfl dX12_benches_62 ?_
              refine lv_aload_n hx hb dX12_benches_63 rfl (lv_at hl 1 rfl) ?_
              refine x_getI X hK hw (ml_mem0 mb) (ml_S0 mb) cpX12 36 (by decide) rfl tw_1287 dX12_benches_64 ?_
              refine lv_iadd hx hb dX12_benches_67 ?_
              exact yb_reti hfin hf hw dX12_benches_68
            · have hf := yb_neg c_26 hf
              refine lv_iconst (v := (-1 : Int32)) hx hb dX12_benches_53 (by decide) ?_
              refine lv_goto (tgt := 68) hx hb dX12_benches_54 (by decide) ?_
              exact yb_reti hfin hf hw dX12_benches_68
        · have hf := yb_pos c_16 hf
          refine lv_aload_n hx hb dX12_benches_36 rfl (lv_at hl 1 rfl) ?_
          refine x_getI X hK hw (ml_mem0 mb) (ml_S0 mb) cpX12 35 (by decide) rfl tw_1286 dX12_benches_37 ?_
          exact yb_reti hfin hf hw dX12_benches_40
      · have hf := yb_neg c_15 hf
        refine lv_iload_n hx hb dX12_benches_30 rfl (lv_at hl 0 rfl) ?_
        exact yb_reti hfin hf hw dX12_benches_31
    · have hf := yb_pos c_10 hf
      refine lv_iconst (v := (-1 : Int32)) hx hb dX12_benches_19 (by decide) ?_
      exact yb_reti hfin hf hw dX12_benches_20
set_option maxHeartbeats 4000000 in
set_option maxRecDepth 100000 in
theorem w12_lesson_L28 {p : Program} {l : Launch} {e : Env} {s : State} {m : MethodId} {args : Array Value} {below : List Frame} {meth : Method} {c : Code} {Q : State → Prop} {D : va_G} {cz : Nat → ClassId} {A : Nat → Prop} {ev : Nat × Nat × Nat} {mb : Nat} (X : CallFix p m c cX12_lesson 7 s args gw RX12) (hK : KX D cz ev A s) {N : Nat} {x1 : Int32} :
    ∀ (n : Nat) (x2 : Int32) (x3 : Int32) (x4 : Int32) (I : IT) (J : JT) (q : (Int32 × Int32)) (I1 : IT) (J1 : JT) (H : Heap) (locs : List Loc) (ls : Array Slot), f12_lesson_L28 N mb x1 n x2 x3 x4 I J = some (q, I1, J1) → WX D cz A (mlL mb) (mlS mb) (mlR mb) s.heap I J H locs → lv_has ls 7 [(0, .ref mb), (1, .int x1), (2, .int x2), (3, .int x3), (4, .int x4)] →
    (∀ (H : Heap) (locs : List Loc) (ls : Array Slot), WX D cz A (mlL mb) (mlS mb) (mlR mb) s.heap I1 J1 H locs → lv_has ls 7 [(0, .ref mb), (1, .int x1), (2, .int q.1), (3, .int q.2)] → W p l e (rmX 7 173) s m args below meth c H locs 0 0 Q (F0 m 127 ls [])) →
    W p l e (rmX 7 173) s m args below meth c H locs 0 0 Q (F0 m 28 ls []) := by
  have hx := X.1
  have hb := X.2.1
  intro n
  induction n with
  | zero =>
    intro x2 x3 x4 I J q I1 J1 H locs ls hf
    rw [f12_lesson_L28] at hf
    cases hf
  | succ n ih =>
    intro x2 x3 x4 I J q I1 J1 H locs ls hf hw hl hexit
    rw [f12_lesson_L28] at hf
    refine lv_iload hx hb dX12_lesson_28 (lv_at hl 4 rfl) ?_
    refine lv_aload_n hx hb dX12_lesson_30 rfl (lv_at hl 0 rfl) ?_
    refine x_getR X hK hw (ml_mem0 mb) (ml_S0 mb) cpX12 20 (by decide) rfl (ml_R mb 20 rfl) tw_1271 dX12_lesson_31 ?_
    refine lv_iconst (v := (2 : Int32)) hx hb dX12_lesson_34 (by decide) ?_
    refine x_iald X hK hw (ml_mem mb 10 (by decide)) (ml_S mb 10 rfl) (by decide) rfl dX12_lesson_35 ?_
    refine lv_icmp_ge (tgt := 127) hx hb dX12_lesson_36 (by decide) (fun c_11 => ?_) (fun c_11 => ?_)
    · have hf := yb_pos c_11 hf
      obtain ⟨rfl, rfl, rfl⟩ := yb_inj hf
      exact hexit _ _ _ hw (lv_sub hl [0, 1, 2, 3] rfl)
    · have hf := yb_neg c_11 hf
      refine lv_bipush (v := (10 : Int32)) hx hb dX12_lesson_39 (by decide) ?_
      refine lv_iconst (v := (5 : Int32)) hx hb dX12_lesson_41 (by decide) ?_
      refine lv_iload hx hb dX12_lesson_42 (lv_at hl 4 rfl) ?_
      refine lv_imul hx hb dX12_lesson_44 ?_
      refine lv_iadd hx hb dX12_lesson_45 ?_
      refine lv_iconst (v := (1 : Int32)) hx hb dX12_lesson_46 (by decide) ?_
      refine lv_iadd hx hb dX12_lesson_47 ?_
      refine lv_topi (fun x5_12 ex5_12 => ?_)
      have hf := yb_let_to ex5_12 hf
      refine lv_istore (lv' := [(5, .int x5_12), (0, .ref mb), (1, .int x1), (2, .int x2), (3, .int x3), (4, .int x4)]) hx hb dX12_lesson_48 hl (by decide) rfl (fun ls hl => ?_)
      refine lv_aload_n hx hb dX12_lesson_50 rfl (lv_at hl 1 rfl) ?_
      refine x_getR X hK hw (ml_mem0 mb) (ml_S0 mb) cpX12 20 (by decide) rfl (ml_R mb 20 rfl) tw_1271 dX12_lesson_51 ?_
      refine lv_iload hx hb dX12_lesson_54 (lv_at hl 0 rfl) ?_
      obtain ⟨hi_13, hf⟩ := yb_ck_some hf
      refine x_iald X hK hw (ml_mem mb 10 (by decide)) (ml_S mb 10 rfl) hi_13 rfl dX12_lesson_56 ?_
      refine lv_bipush (v := (9 : Int32)) hx hb dX12_lesson_57 (by decide) ?_
      refine lv_icmp_ne (tgt := 65) hx hb dX12_lesson_59 (by decide) (fun c_14 => ?_) (fun c_14 => ?_)
      · have hf := yb_neg c_14 hf
        refine lv_aload_n hx hb dX12_lesson_65 rfl (lv_at hl 1 rfl) ?_
        refine x_getR X hK hw (ml_mem0 mb) (ml_S0 mb) cpX12 20 (by decide) rfl (ml_R mb 20 rfl) tw_1271 dX12_lesson_66 ?_
        refine lv_iload hx hb dX12_lesson_69 (lv_at hl 0 rfl) ?_
        refine lv_dup2_11 hx hb dX12_lesson_71 rfl rfl ?_
        refine x_iald X hK hw (ml_mem mb 10 (by decide)) (ml_S mb 10 rfl) hi_13 rfl dX12_lesson_72 ?_
        refine lv_iconst (v := (1 : Int32)) hx hb dX12_lesson_73 (by decide) ?_
        refine lv_iadd hx hb dX12_lesson_74 ?_
        refine x_iast X hK hw (ml_mem mb 10 (by decide)) (ml_S mb 10 rfl) hi_13 rfl dX12_lesson_75 (fun H locs hw => ?_)
        obtain ⟨I_15, eI_15, hf⟩ := yb_let_ex hf
        have hw := yb_wI eI_15 hw
        refine lv_aload_n hx hb dX12_lesson_76 rfl (lv_at hl 1 rfl) ?_
        obtain ⟨r_16, I_17, J_18, hq_19, hf⟩ := yb_b3_some hf
        refine x_calli X hK hw (c12_benchesNow l D cz ev mb hq_19) (ml_mem0 mb) (ml_S0 mb) cpX12.1 vw_X12_442 ⟨Nat.le_of_ble_eq_true rfl, Nat.le_of_ble_eq_true rfl⟩ rfl rfl (Nat.le_of_ble_eq_true rfl) hl.1 ⟨Nat.le_refl _, Nat.le_refl _⟩ dX12_lesson_77 (fun H locs hw => ?_)
        refine lv_istore (lv' := [(6, .int r_16), (5, .int x5_12), (0, .ref mb), (1, .int x1), (2, .int x2), (3, .int x3), (4, .int x4)]) hx hb dX12_lesson_80 hl (by decide) rfl (fun ls hl => ?_)
        refine lv_aload_n hx hb dX12_lesson_82 rfl (lv_at hl 2 rfl) ?_
        refine x_getR X hK hw (ml_mem0 mb) (ml_S0 mb) cpX12 20 (by decide) rfl (ml_R mb 20 rfl) tw_1271 dX12_lesson_83 ?_
        refine lv_iload hx hb dX12_lesson_86 (lv_at hl 1 rfl) ?_
        refine lv_dup2_11 hx hb dX12_lesson_88 rfl rfl ?_
        refine x_iald X hK hw (ml_mem mb 10 (by decide)) (ml_S mb 10 rfl) hi_13 rfl dX12_lesson_89 ?_
        refine lv_iconst (v := (1 : Int32)) hx hb dX12_lesson_90 (by decide) ?_
        refine lv_isub hx hb dX12_lesson_91 ?_
        refine x_iast X hK hw (ml_mem mb 10 (by decide)) (ml_S mb 10 rfl) hi_13 rfl dX12_lesson_92 (fun H locs hw => ?_)
        obtain ⟨I_20, eI_20, hf⟩ := yb_let_ex hf
        have hw := yb_wI eI_20 hw
        refine lv_iload hx hb dX12_lesson_93 (lv_at hl 0 rfl) ?_
        refine lv_if_ne (tgt := 121) hx hb dX12_lesson_95 (by decide) (fun c_21 => ?_) (fun c_21 => ?_)
        · have hf := yb_neg c_21 hf
          obtain ⟨x4_22, ex4_22, hf⟩ := yb_let_ex hf
          refine lv_iinc (v := x4_22) (lv' := [(4, .int x4_22), (6, .int r_16), (5, .int x5_12), (0, .ref mb), (1, .int x1), (2, .int x2), (3, .int x3)]) hx hb dX12_lesson_121 hl (k := 6) rfl (by rw [ex4_22]; rfl) (by decide) rfl (fun ls hl => ?_)
          refine lv_goto (tgt := 28) hx hb dX12_lesson_124 (by decide) ?_
          exact ih _ _ _ _ _ _ _ _ _ _ _ hf hw (lv_sub hl [3, 4, 5, 6, 0] rfl) hexit
        · have hf := yb_pos c_21 hf
          refine lv_iload_n hx hb dX12_lesson_98 rfl (lv_at hl 4 rfl) ?_
          refine lv_if_lt (tgt := 113) hx hb dX12_lesson_99 (by decide) (fun c_23 => ?_) (fun c_23 => ?_)
          · have hf := yb_pos c_23 hf
            refine lv_iload hx hb dX12_lesson_113 (lv_at hl 6 rfl) ?_
            refine lv_istore_n (lv' := [(2, .int x4), (6, .int r_16), (5, .int x5_12), (0, .ref mb), (1, .int x1), (3, .int x3), (4, .int x4)]) hx hb dX12_lesson_115 rfl hl (by decide) rfl (fun ls hl => ?_)
            refine lv_aload_n hx hb dX12_lesson_116 rfl (lv_at hl 3 rfl) ?_
            refine x_getI X hK hw (ml_mem0 mb) (ml_S0 mb) cpX12 35 (by decide) rfl tw_1286 dX12_lesson_117 ?_
            refine lv_topi (fun x3_24 ex3_24 => ?_)
            have hf := yb_let_to ex3_24 hf
            refine lv_istore_n (lv' := [(3, .int x3_24), (2, .int x4), (6, .int r_16), (5, .int x5_12), (0, .ref mb), (1, .int x1), (4, .int x4)]) hx hb dX12_lesson_120 rfl hl (by decide) rfl (fun ls hl => ?_)
            obtain ⟨x4_25, ex4_25, hf⟩ := yb_let_ex hf
            refine lv_iinc (v := x4_25) (lv' := [(4, .int x4_25), (3, .int x3_24), (2, .int x4), (6, .int r_16), (5, .int x5_12), (0, .ref mb), (1, .int x1)]) hx hb dX12_lesson_121 hl (k := 6) rfl (by rw [ex4_25]; rfl) (by decide) rfl (fun ls hl => ?_)
            refine lv_goto (tgt := 28) hx hb dX12_lesson_124 (by decide) ?_
            exact ih _ _ _ _ _ _ _ _ _ _ _ hf hw (lv_sub hl [5, 6, 2, 1, 0] rfl) hexit
          · have hf := yb_neg c_23 hf
            refine lv_aload_n hx hb dX12_lesson_102 rfl (lv_at hl 2 rfl) ?_
            refine x_getI X hK hw (ml_mem0 mb) (ml_S0 mb) cpX12 35 (by decide) rfl tw_1286 dX12_lesson_103 ?_
            refine lv_iload_n hx hb dX12_lesson_106 rfl (lv_at hl 5 rfl) ?_
            refine lv_icmp_gt (tgt := 113) hx hb dX12_lesson_107 (by decide) (fun c_26 => ?_) (fun c_26 => ?_)
            · have hf := yb_pos c_26 hf
              refine lv_iload hx hb dX12_lesson_113 (lv_at hl 6 rfl) ?_
              refine lv_istore_n (lv' := [(2, .int x4), (6, .int r_16), (5, .int x5_12), (0, .ref mb), (1, .int x1), (3, .int x3), (4, .int x4)]) hx hb dX12_lesson_115 rfl hl (by decide) rfl (fun ls hl => ?_)
              refine lv_aload_n hx hb dX12_lesson_116 rfl (lv_at hl 3 rfl) ?_
              refine x_getI X hK hw (ml_mem0 mb) (ml_S0 mb) cpX12 35 (by decide) rfl tw_1286 dX12_lesson_117 ?_
              refine lv_topi (fun x3_27 ex3_27 => ?_)
              have hf := yb_let_to ex3_27 hf
              refine lv_istore_n (lv' := [(3, .int x3_27), (2, .int x4), (6, .int r_16), (5, .int x5_12), (0, .ref mb), (1, .int x1), (4, .int x4)]) hx hb dX12_lesson_120 rfl hl (by decide) rfl (fun ls hl => ?_)
              obtain ⟨x4_28, ex4_28, hf⟩ := yb_let_ex hf
              refine lv_iinc (v := x4_28) (lv' := [(4, .int x4_28), (3, .int x3_27), (2, .int x4), (6, .int r_16), (5, .int x5_12), (0, .ref mb), (1, .int x1)]) hx hb dX12_lesson_121 hl (k := 6) rfl (by rw [ex4_28]; rfl) (by decide) rfl (fun ls hl => ?_)
              refine lv_goto (tgt := 28) hx hb dX12_lesson_124 (by decide) ?_
              exact ih _ _ _ _ _ _ _ _ _ _ _ hf hw (lv_sub hl [5, 6, 2, 1, 0] rfl) hexit
            · have hf := yb_neg c_26 hf
              refine lv_goto (tgt := 121) hx hb dX12_lesson_110 (by decide) ?_
              obtain ⟨x4_29, ex4_29, hf⟩ := yb_let_ex hf
              refine lv_iinc (v := x4_29) (lv' := [(4, .int x4_29), (6, .int r_16), (5, .int x5_12), (0, .ref mb), (1, .int x1), (2, .int x2), (3, .int x3)]) hx hb dX12_lesson_121 hl (k := 6) rfl (by rw [ex4_29]; rfl) (by decide) rfl (fun ls hl => ?_)
              refine lv_goto (tgt := 28) hx hb dX12_lesson_124 (by decide) ?_
              exact ih _ _ _ _ _ _ _ _ _ _ _ hf hw (lv_sub hl [3, 4, 5, 6, 0] rfl) hexit
      · have hf := yb_pos c_14 hf
        refine lv_goto (tgt := 121) hx hb dX12_lesson_62 (by decide) ?_
        obtain ⟨x4_30, ex4_30, hf⟩ := yb_let_ex hf
        refine lv_iinc (v := x4_30) (lv' := [(4, .int x4_30), (5, .int x5_12), (0, .ref mb), (1, .int x1), (2, .int x2), (3, .int x3)]) hx hb dX12_lesson_121 hl (k := 5) rfl (by rw [ex4_30]; rfl) (by decide) rfl (fun ls hl => ?_)
        refine lv_goto (tgt := 28) hx hb dX12_lesson_124 (by decide) ?_
        exact ih _ _ _ _ _ _ _ _ _ _ _ hf hw (lv_sub hl [2, 3, 4, 5, 0] rfl) hexit
set_option maxHeartbeats 4000000 in
set_option maxRecDepth 100000 in
theorem c12_lesson (l : Launch) (D : va_G) (cz : Nat → ClassId) (ev : Nat × Nat × Nat) (mb : Nat) {N : Nat} {x1 : Int32} {I : IT} {J : JT} {r : Int32} {I1 : IT} {J1 : JT} (hf : f12_lesson N mb x1 I J = some (r, I1, J1)) : MTi l D cz ev yX12_lesson cX12_lesson 7 (some .int) 7 173 [.ref mb, .int x1] (mlL mb) (mlS mb) (mlR mb) I J r I1 J1 := by
  unfold f12_lesson at hf
  refine MTi_of (by decide) (Nat.le_of_ble_eq_true rfl) ?_
  intro p e s m args below meth c Q ls X hK hw hl hfin
  have X : CallFix p m c cX12_lesson 7 s args gw RX12 := X
  have hx := X.1
  have hb := X.2.1
  have hl : lv_has ls 7 [(0, .ref mb), (1, .int x1)] := hl
  refine lv_aload_n hx hb dX12_lesson_0 rfl (lv_at hl 0 rfl) ?_
  obtain ⟨r_1, I_2, J_3, hq_4, hf⟩ := yb_b3_some hf
  refine x_calli X hK hw (c12_isTown l D cz ev mb hq_4) (ml_mem0 mb) (ml_S0 mb) cpX12.1 vw_X12_380 ⟨Nat.le_of_ble_eq_true rfl, Nat.le_of_ble_eq_true rfl⟩ rfl rfl (Nat.le_of_ble_eq_true rfl) hl.1 ⟨Nat.le_refl _, Nat.le_refl _⟩ dX12_lesson_1 (fun H locs hw => ?_)
  refine lv_if_eq (tgt := 17) hx hb dX12_lesson_4 (by decide) (fun c_5 => ?_) (fun c_5 => ?_)
  · have hf := yb_pos c_5 hf
    refine lv_iconst (v := (-1 : Int32)) hx hb dX12_lesson_17 (by decide) ?_
    exact yb_reti hfin hf hw dX12_lesson_18
  · have hf := yb_neg c_5 hf
    refine lv_iload_n hx hb dX12_lesson_7 rfl (lv_at hl 1 rfl) ?_
    refine lv_i2l hx hb dX12_lesson_8 rfl ?_
    refine lv_lconst (v := (0 : Int64)) hx hb dX12_lesson_9 (by decide) ?_
    refine lv_lconst (v := (1 : Int64)) hx hb dX12_lesson_10 (by decide) ?_
    obtain ⟨r_6, I_7, J_8, hq_9, hf⟩ := yb_b3_some hf
    refine x_callsi X hK hw (c12_in l D cz ev mb hq_9) sw_X12_142 ⟨Nat.le_of_ble_eq_true rfl, Nat.le_of_ble_eq_true rfl⟩ rfl rfl (Nat.le_of_ble_eq_true rfl) hl.1 ⟨Nat.le_refl _, Nat.le_refl _⟩ dX12_lesson_11 (fun H locs hw => ?_)
    refine lv_if_ne (tgt := 19) hx hb dX12_lesson_14 (by decide) (fun c_10 => ?_) (fun c_10 => ?_)
    · have hf := yb_neg c_10 hf
      refine lv_bipush (v := (-2 : Int32)) hx hb dX12_lesson_19 (by decide) ?_
      refine lv_istore_n (lv' := [(2, .int (-2 : Int32)), (0, .ref mb), (1, .int x1)]) hx hb dX12_lesson_21 rfl hl (by decide) rfl (fun ls hl => ?_)
      refine lv_bipush (v := (-2 : Int32)) hx hb dX12_lesson_22 (by decide) ?_
      refine lv_istore_n (lv' := [(3, .int (-2 : Int32)), (2, .int (-2 : Int32)), (0, .ref mb), (1, .int x1)]) hx hb dX12_lesson_24 rfl hl (by decide) rfl (fun ls hl => ?_)
      refine lv_iconst (v := (0 : Int32)) hx hb dX12_lesson_25 (by decide) ?_
      refine lv_istore (lv' := [(4, .int (0 : Int32)), (3, .int (-2 : Int32)), (2, .int (-2 : Int32)), (0, .ref mb), (1, .int x1)]) hx hb dX12_lesson_26 hl (by decide) rfl (fun ls hl => ?_)
      obtain ⟨q_31, I_32, J_33, hq_34, hf⟩ := yb_b3_some hf
      refine w12_lesson_L28 X hK _ _ _ _ _ _ _ _ _ _ _ _ hq_34 hw (lv_sub hl [3, 4, 2, 1, 0] rfl) (fun H locs ls hw hl => ?_)
      refine lv_aload_n hx hb dX12_lesson_127 rfl (lv_at hl 0 rfl) ?_
      obtain ⟨r_35, I_36, J_37, hq_38, hf⟩ := yb_b3_some hf
      refine x_callv X hK hw (c12_fillsOpen l D cz ev mb hq_38) (ml_mem0 mb) (ml_S0 mb) cpX12.1 vw_X12_431 ⟨Nat.le_of_ble_eq_true rfl, Nat.le_of_ble_eq_true rfl⟩ rfl rfl (Nat.le_of_ble_eq_true rfl) hl.1 ⟨Nat.le_refl _, Nat.le_refl _⟩ dX12_lesson_128 (fun H locs hw => ?_)
      refine lv_aload_n hx hb dX12_lesson_131 rfl (lv_at hl 0 rfl) ?_
      refine x_getI X hK hw (ml_mem0 mb) (ml_S0 mb) cpX12 25 (by decide) rfl tw_1276 dX12_lesson_132 ?_
      refine lv_iconst (v := (4 : Int32)) hx hb dX12_lesson_135 (by decide) ?_
      refine lv_icmp_le (tgt := 142) hx hb dX12_lesson_136 (by decide) (fun c_39 => ?_) (fun c_39 => ?_)
      · have hf := yb_pos c_39 hf
        refine lv_iload_n hx hb dX12_lesson_142 rfl (lv_at hl 1 rfl) ?_
        refine lv_if_ne (tgt := 150) hx hb dX12_lesson_143 (by decide) (fun c_40 => ?_) (fun c_40 => ?_)
        · have hf := yb_neg c_40 hf
          refine lv_iload_n hx hb dX12_lesson_150 rfl (lv_at hl 3 rfl) ?_
          exact yb_reti hfin hf hw dX12_lesson_151
        · have hf := yb_pos c_40 hf
          refine lv_iload_n hx hb dX12_lesson_146 rfl (lv_at hl 2 rfl) ?_
          refine lv_goto (tgt := 151) hx hb dX12_lesson_147 (by decide) ?_
          exact yb_reti hfin hf hw dX12_lesson_151
      · have hf := yb_neg c_39 hf
        refine lv_bipush (v := (-3 : Int32)) hx hb dX12_lesson_139 (by decide) ?_
        exact yb_reti hfin hf hw dX12_lesson_141
    · have hf := yb_pos c_10 hf
      refine lv_iconst (v := (-1 : Int32)) hx hb dX12_lesson_17 (by decide) ?_
      exact yb_reti hfin hf hw dX12_lesson_18
set_option maxHeartbeats 4000000 in
set_option maxRecDepth 100000 in
theorem c12_isNext (l : Launch) (D : va_G) (cz : Nat → ClassId) (ev : Nat × Nat × Nat) (mb : Nat) {N : Nat} {x1 : Int32} {x2 : Int32} {x3 : Int32} {I : IT} {J : JT} {r : Int32} {I1 : IT} {J1 : JT} (hf : f12_isNext N mb x1 x2 x3 I J = some (r, I1, J1)) : MTi l D cz ev yX12_isNext cX12_isNext 4 (some .boolean) 5 114 [.ref mb, .int x1, .int x2, .int x3] (mlL mb) (mlS mb) (mlR mb) I J r I1 J1 := by
  unfold f12_isNext at hf
  refine MTz_of (by decide) (Nat.le_of_ble_eq_true rfl) ?_
  intro p e s m args below meth c Q ls X hK hw hl hfin
  have X : CallFix p m c cX12_isNext 4 s args gw RX12 := X
  have hx := X.1
  have hb := X.2.1
  have hl : lv_has ls 4 [(0, .ref mb), (1, .int x1), (2, .int x2), (3, .int x3)] := hl
  refine lv_aload_n hx hb dX12_isNext_0 rfl (lv_at hl 0 rfl) ?_
  refine lv_iload_n hx hb dX12_isNext_1 rfl (lv_at hl 1 rfl) ?_
  refine lv_iload_n hx hb dX12_isNext_2 rfl (lv_at hl 2 rfl) ?_
  refine lv_aload_n hx hb dX12_isNext_3 rfl (lv_at hl 0 rfl) ?_
  refine x_getR X hK hw (ml_mem0 mb) (ml_S0 mb) cpX12 20 (by decide) rfl (ml_R mb 20 rfl) tw_1271 dX12_isNext_4 ?_
  refine lv_iconst (v := (4 : Int32)) hx hb dX12_isNext_7 (by decide) ?_
  refine x_iald X hK hw (ml_mem mb 10 (by decide)) (ml_S mb 10 rfl) (by decide) rfl dX12_isNext_8 ?_
  obtain ⟨r_1, I_2, J_3, hq_4, hf⟩ := yb_b3_some hf
  refine x_calli X hK hw (c12_canHear l D cz ev mb hq_4) (ml_mem0 mb) (ml_S0 mb) cpX12.1 vw_X12_354 ⟨Nat.le_of_ble_eq_true rfl, Nat.le_of_ble_eq_true rfl⟩ rfl rfl (Nat.le_of_ble_eq_true rfl) hl.1 ⟨Nat.le_refl _, Nat.le_refl _⟩ dX12_isNext_9 (fun H locs hw => ?_)
  refine lv_if_eq (tgt := 32) hx hb dX12_isNext_12 (by decide) (fun c_5 => ?_) (fun c_5 => ?_)
  · have hf := yb_pos c_5 hf
    refine lv_iconst (v := (0 : Int32)) hx hb dX12_isNext_32 (by decide) ?_
    exact yb_retz hfin (by decide) hf hw dX12_isNext_33
  · have hf := yb_neg c_5 hf
    refine lv_iload_n hx hb dX12_isNext_15 rfl (lv_at hl 3 rfl) ?_
    refine lv_if_lt (tgt := 28) hx hb dX12_isNext_16 (by decide) (fun c_6 => ?_) (fun c_6 => ?_)
    · have hf := yb_pos c_6 hf
      refine lv_iconst (v := (1 : Int32)) hx hb dX12_isNext_28 (by decide) ?_
      refine lv_goto (tgt := 33) hx hb dX12_isNext_29 (by decide) ?_
      exact yb_retz hfin (by decide) hf hw dX12_isNext_33
    · have hf := yb_neg c_6 hf
      refine lv_aload_n hx hb dX12_isNext_19 rfl (lv_at hl 0 rfl) ?_
      refine lv_iload_n hx hb dX12_isNext_20 rfl (lv_at hl 2 rfl) ?_
      refine lv_iload_n hx hb dX12_isNext_21 rfl (lv_at hl 3 rfl) ?_
      obtain ⟨r_7, I_8, J_9, hq_10, hf⟩ := yb_b3_some hf
      refine x_calli X hK hw (c12_isYounger l D cz ev mb hq_10) (ml_mem0 mb) (ml_S0 mb) cpX12.1 vw_X12_319 ⟨Nat.le_of_ble_eq_true rfl, Nat.le_of_ble_eq_true rfl⟩ rfl rfl (Nat.le_of_ble_eq_true rfl) hl.1 ⟨Nat.le_refl _, Nat.le_refl _⟩ dX12_isNext_22 (fun H locs hw => ?_)
      refine lv_if_eq (tgt := 32) hx hb dX12_isNext_25 (by decide) (fun c_11 => ?_) (fun c_11 => ?_)
      · have hf := yb_pos c_11 hf
        refine lv_iconst (v := (0 : Int32)) hx hb dX12_isNext_32 (by decide) ?_
        exact yb_retz hfin (by decide) hf hw dX12_isNext_33
      · have hf := yb_neg c_11 hf
        refine lv_iconst (v := (1 : Int32)) hx hb dX12_isNext_28 (by decide) ?_
        refine lv_goto (tgt := 33) hx hb dX12_isNext_29 (by decide) ?_
        exact yb_retz hfin (by decide) hf hw dX12_isNext_33
set_option maxHeartbeats 4000000 in
set_option maxRecDepth 100000 in
theorem w12_fillsChains_L2 {p : Program} {l : Launch} {e : Env} {s : State} {m : MethodId} {args : Array Value} {below : List Frame} {meth : Method} {c : Code} {Q : State → Prop} {D : va_G} {cz : Nat → ClassId} {A : Nat → Prop} {ev : Nat × Nat × Nat} {mb : Nat} (X : CallFix p m c cX12_fillsChains 5 s args gw RX12) (hK : KX D cz ev A s) {N : Nat} {x1 : Int32} :
    ∀ (n : Nat) (x2 : Int32) (I : IT) (J : JT) (q : (Unit)) (I1 : IT) (J1 : JT) (H : Heap) (locs : List Loc) (ls : Array Slot), f12_fillsChains_L2 N mb x1 n x2 I J = some (q, I1, J1) → WX D cz A (mlL mb) (mlS mb) (mlR mb) s.heap I J H locs → lv_has ls 5 [(0, .ref mb), (1, .int x1), (2, .int x2)] →
    (∀ (H : Heap) (locs : List Loc) (ls : Array Slot), WX D cz A (mlL mb) (mlS mb) (mlR mb) s.heap I1 J1 H locs → lv_has ls 5 [(0, .ref mb)] → W p l e (rmX 5 114) s m args below meth c H locs 0 0 Q (F0 m 44 ls [])) →
    W p l e (rmX 5 114) s m args below meth c H locs 0 0 Q (F0 m 2 ls []) := by
  have hx := X.1
  have hb := X.2.1
  intro n
  induction n with
  | zero =>
    intro x2 I J q I1 J1 H locs ls hf
    rw [f12_fillsChains_L2] at hf
    cases hf
  | succ n ih =>
    intro x2 I J q I1 J1 H locs ls hf hw hl hexit
    rw [f12_fillsChains_L2] at hf
    refine lv_iload_n hx hb dX12_fillsChains_2 rfl (lv_at hl 2 rfl) ?_
    refine lv_aload_n hx hb dX12_fillsChains_3 rfl (lv_at hl 0 rfl) ?_
    refine x_getR X hK hw (ml_mem0 mb) (ml_S0 mb) cpX12 20 (by decide) rfl (ml_R mb 20 rfl) tw_1271 dX12_fillsChains_4 ?_
    refine lv_iconst (v := (2 : Int32)) hx hb dX12_fillsChains_7 (by decide) ?_
    refine x_iald X hK hw (ml_mem mb 10 (by decide)) (ml_S mb 10 rfl) (by decide) rfl dX12_fillsChains_8 ?_
    refine lv_icmp_ge (tgt := 44) hx hb dX12_fillsChains_9 (by decide) (fun c_1 => ?_) (fun c_1 => ?_)
    · have hf := yb_pos c_1 hf
      obtain ⟨rfl, rfl, rfl⟩ := yb_inj hf
      exact hexit _ _ _ hw (lv_sub hl [0] rfl)
    · have hf := yb_neg c_1 hf
      refine lv_aload_n hx hb dX12_fillsChains_12 rfl (lv_at hl 0 rfl) ?_
      refine x_getR X hK hw (ml_mem0 mb) (ml_S0 mb) cpX12 37 (by decide) rfl (ml_R mb 37 rfl) tw_1288 dX12_fillsChains_13 ?_
      refine lv_iload_n hx hb dX12_fillsChains_16 rfl (lv_at hl 2 rfl) ?_
      refine lv_aload_n hx hb dX12_fillsChains_17 rfl (lv_at hl 0 rfl) ?_
      refine lv_iload_n hx hb dX12_fillsChains_18 rfl (lv_at hl 1 rfl) ?_
      refine lv_iload_n hx hb dX12_fillsChains_19 rfl (lv_at hl 2 rfl) ?_
      refine lv_aload_n hx hb dX12_fillsChains_20 rfl (lv_at hl 0 rfl) ?_
      refine x_getR X hK hw (ml_mem0 mb) (ml_S0 mb) cpX12 20 (by decide) rfl (ml_R mb 20 rfl) tw_1271 dX12_fillsChains_21 ?_
      refine lv_iconst (v := (4 : Int32)) hx hb dX12_fillsChains_24 (by decide) ?_
      refine x_iald X hK hw (ml_mem mb 10 (by decide)) (ml_S mb 10 rfl) (by decide) rfl dX12_fillsChains_25 ?_
      obtain ⟨r_2, I_3, J_4, hq_5, hf⟩ := yb_b3_some hf
      refine x_calli X hK hw (c12_canHear l D cz ev mb hq_5) (ml_mem0 mb) (ml_S0 mb) cpX12.1 vw_X12_354 ⟨Nat.le_of_ble_eq_true rfl, Nat.le_of_ble_eq_true rfl⟩ rfl rfl (Nat.le_of_ble_eq_true rfl) hl.1 ⟨Nat.le_refl _, Nat.le_refl _⟩ dX12_fillsChains_26 (fun H locs hw => ?_)
      refine lv_if_eq (tgt := 36) hx hb dX12_fillsChains_29 (by decide) (fun c_6 => ?_) (fun c_6 => ?_)
      · have hf := yb_pos c_6 hf
        refine lv_iconst (v := (0 : Int32)) hx hb dX12_fillsChains_36 (by decide) ?_
        obtain ⟨hi_7, hf⟩ := yb_ck_some hf
        refine x_iast X hK hw (ml_mem mb 21 (by decide)) (ml_S mb 21 rfl) hi_7 rfl dX12_fillsChains_37 (fun H locs hw => ?_)
        obtain ⟨I_8, eI_8, hf⟩ := yb_let_ex hf
        have hw := yb_wI eI_8 hw
        obtain ⟨x2_9, ex2_9, hf⟩ := yb_let_ex hf
        refine lv_iinc (v := x2_9) (lv' := [(2, .int x2_9), (0, .ref mb), (1, .int x1)]) hx hb dX12_fillsChains_38 hl (k := 2) rfl (by rw [ex2_9]; rfl) (by decide) rfl (fun ls hl => ?_)
        refine lv_goto (tgt := 2) hx hb dX12_fillsChains_41 (by decide) ?_
        exact ih _ _ _ _ _ _ _ _ _ hf hw (lv_sub hl [1, 2, 0] rfl) hexit
      · have hf := yb_neg c_6 hf
        refine lv_iconst (v := (1 : Int32)) hx hb dX12_fillsChains_32 (by decide) ?_
        refine lv_goto (tgt := 37) hx hb dX12_fillsChains_33 (by decide) ?_
        obtain ⟨hi_10, hf⟩ := yb_ck_some hf
        refine x_iast X hK hw (ml_mem mb 21 (by decide)) (ml_S mb 21 rfl) hi_10 rfl dX12_fillsChains_37 (fun H locs hw => ?_)
        obtain ⟨I_11, eI_11, hf⟩ := yb_let_ex hf
        have hw := yb_wI eI_11 hw
        obtain ⟨x2_12, ex2_12, hf⟩ := yb_let_ex hf
        refine lv_iinc (v := x2_12) (lv' := [(2, .int x2_12), (0, .ref mb), (1, .int x1)]) hx hb dX12_fillsChains_38 hl (k := 2) rfl (by rw [ex2_12]; rfl) (by decide) rfl (fun ls hl => ?_)
        refine lv_goto (tgt := 2) hx hb dX12_fillsChains_41 (by decide) ?_
        exact ih _ _ _ _ _ _ _ _ _ hf hw (lv_sub hl [1, 2, 0] rfl) hexit
set_option maxHeartbeats 4000000 in
set_option maxRecDepth 100000 in
theorem w12_fillsChains_L71 {p : Program} {l : Launch} {e : Env} {s : State} {m : MethodId} {args : Array Value} {below : List Frame} {meth : Method} {c : Code} {Q : State → Prop} {D : va_G} {cz : Nat → ClassId} {A : Nat → Prop} {ev : Nat × Nat × Nat} {mb : Nat} (X : CallFix p m c cX12_fillsChains 5 s args gw RX12) (hK : KX D cz ev A s) {N : Nat} {x2 : Int32} {x3 : Int32} :
    ∀ (n : Nat) (x4 : Int32) (I : IT) (J : JT) (q : (Unit)) (I1 : IT) (J1 : JT) (H : Heap) (locs : List Loc) (ls : Array Slot), f12_fillsChains_L71 N mb x2 x3 n x4 I J = some (q, I1, J1) → WX D cz A (mlL mb) (mlS mb) (mlR mb) s.heap I J H locs → lv_has ls 5 [(0, .ref mb), (2, .int x2), (3, .int x3), (4, .int x4)] →
    (∀ (H : Heap) (locs : List Loc) (ls : Array Slot), WX D cz A (mlL mb) (mlS mb) (mlR mb) s.heap I1 J1 H locs → lv_has ls 5 [(0, .ref mb), (2, .int x2), (3, .int x3)] → W p l e (rmX 5 114) s m args below meth c H locs 0 0 Q (F0 m 153 ls [])) →
    W p l e (rmX 5 114) s m args below meth c H locs 0 0 Q (F0 m 71 ls []) := by
  have hx := X.1
  have hb := X.2.1
  intro n
  induction n with
  | zero =>
    intro x4 I J q I1 J1 H locs ls hf
    rw [f12_fillsChains_L71] at hf
    cases hf
  | succ n ih =>
    intro x4 I J q I1 J1 H locs ls hf hw hl hexit
    rw [f12_fillsChains_L71] at hf
    refine lv_iload hx hb dX12_fillsChains_71 (lv_at hl 3 rfl) ?_
    refine lv_aload_n hx hb dX12_fillsChains_73 rfl (lv_at hl 0 rfl) ?_
    refine x_getR X hK hw (ml_mem0 mb) (ml_S0 mb) cpX12 20 (by decide) rfl (ml_R mb 20 rfl) tw_1271 dX12_fillsChains_74 ?_
    refine lv_iconst (v := (2 : Int32)) hx hb dX12_fillsChains_77 (by decide) ?_
    refine x_iald X hK hw (ml_mem mb 10 (by decide)) (ml_S mb 10 rfl) (by decide) rfl dX12_fillsChains_78 ?_
    refine lv_icmp_ge (tgt := 153) hx hb dX12_fillsChains_79 (by decide) (fun c_19 => ?_) (fun c_19 => ?_)
    · have hf := yb_pos c_19 hf
      obtain ⟨rfl, rfl, rfl⟩ := yb_inj hf
      exact hexit _ _ _ hw (lv_sub hl [0, 1, 2] rfl)
    · have hf := yb_neg c_19 hf
      refine lv_aload_n hx hb dX12_fillsChains_82 rfl (lv_at hl 0 rfl) ?_
      refine x_getR X hK hw (ml_mem0 mb) (ml_S0 mb) cpX12 37 (by decide) rfl (ml_R mb 37 rfl) tw_1288 dX12_fillsChains_83 ?_
      refine lv_iload_n hx hb dX12_fillsChains_86 rfl (lv_at hl 2 rfl) ?_
      obtain ⟨hi_20, hf⟩ := yb_ck_some hf
      refine x_iald X hK hw (ml_mem mb 21 (by decide)) (ml_S mb 21 rfl) hi_20 rfl dX12_fillsChains_87 ?_
      refine lv_if_eq (tgt := 147) hx hb dX12_fillsChains_88 (by decide) (fun c_21 => ?_) (fun c_21 => ?_)
      · have hf := yb_pos c_21 hf
        obtain ⟨x4_22, ex4_22, hf⟩ := yb_let_ex hf
        refine lv_iinc (v := x4_22) (lv' := [(4, .int x4_22), (0, .ref mb), (2, .int x2), (3, .int x3)]) hx hb dX12_fillsChains_147 hl (k := 3) rfl (by rw [ex4_22]; rfl) (by decide) rfl (fun ls hl => ?_)
        refine lv_goto (tgt := 71) hx hb dX12_fillsChains_150 (by decide) ?_
        exact ih _ _ _ _ _ _ _ _ _ hf hw (lv_sub hl [1, 2, 3, 0] rfl) hexit
      · have hf := yb_neg c_21 hf
        refine lv_aload_n hx hb dX12_fillsChains_91 rfl (lv_at hl 0 rfl) ?_
        refine x_getR X hK hw (ml_mem0 mb) (ml_S0 mb) cpX12 37 (by decide) rfl (ml_R mb 37 rfl) tw_1288 dX12_fillsChains_92 ?_
        refine lv_iload hx hb dX12_fillsChains_95 (lv_at hl 3 rfl) ?_
        obtain ⟨hi_23, hf⟩ := yb_ck_some hf
        refine x_iald X hK hw (ml_mem mb 21 (by decide)) (ml_S mb 21 rfl) hi_23 rfl dX12_fillsChains_97 ?_
        refine lv_if_eq (tgt := 147) hx hb dX12_fillsChains_98 (by decide) (fun c_24 => ?_) (fun c_24 => ?_)
        · have hf := yb_pos c_24 hf
          obtain ⟨x4_25, ex4_25, hf⟩ := yb_let_ex hf
          refine lv_iinc (v := x4_25) (lv' := [(4, .int x4_25), (0, .ref mb), (2, .int x2), (3, .int x3)]) hx hb dX12_fillsChains_147 hl (k := 3) rfl (by rw [ex4_25]; rfl) (by decide) rfl (fun ls hl => ?_)
          refine lv_goto (tgt := 71) hx hb dX12_fillsChains_150 (by decide) ?_
          exact ih _ _ _ _ _ _ _ _ _ hf hw (lv_sub hl [1, 2, 3, 0] rfl) hexit
        · have hf := yb_neg c_24 hf
          refine lv_aload_n hx hb dX12_fillsChains_101 rfl (lv_at hl 0 rfl) ?_
          refine lv_iload hx hb dX12_fillsChains_102 (lv_at hl 3 rfl) ?_
          refine lv_iload_n hx hb dX12_fillsChains_104 rfl (lv_at hl 2 rfl) ?_
          obtain ⟨r_26, I_27, J_28, hq_29, hf⟩ := yb_b3_some hf
          refine x_calli X hK hw (c12_isYounger l D cz ev mb hq_29) (ml_mem0 mb) (ml_S0 mb) cpX12.1 vw_X12_319 ⟨Nat.le_of_ble_eq_true rfl, Nat.le_of_ble_eq_true rfl⟩ rfl rfl (Nat.le_of_ble_eq_true rfl) hl.1 ⟨Nat.le_refl _, Nat.le_refl _⟩ dX12_fillsChains_105 (fun H locs hw => ?_)
          refine lv_if_ne (tgt := 114) hx hb dX12_fillsChains_108 (by decide) (fun c_30 => ?_) (fun c_30 => ?_)
          · have hf := yb_neg c_30 hf
            refine lv_aload_n hx hb dX12_fillsChains_114 rfl (lv_at hl 0 rfl) ?_
            refine x_getR X hK hw (ml_mem0 mb) (ml_S0 mb) cpX12 37 (by decide) rfl (ml_R mb 37 rfl) tw_1288 dX12_fillsChains_115 ?_
            refine lv_iload hx hb dX12_fillsChains_118 (lv_at hl 3 rfl) ?_
            refine x_iald X hK hw (ml_mem mb 21 (by decide)) (ml_S mb 21 rfl) hi_23 rfl dX12_fillsChains_120 ?_
            refine lv_iconst (v := (1 : Int32)) hx hb dX12_fillsChains_121 (by decide) ?_
            refine lv_iadd hx hb dX12_fillsChains_122 ?_
            refine lv_aload_n hx hb dX12_fillsChains_123 rfl (lv_at hl 0 rfl) ?_
            refine x_getR X hK hw (ml_mem0 mb) (ml_S0 mb) cpX12 37 (by decide) rfl (ml_R mb 37 rfl) tw_1288 dX12_fillsChains_124 ?_
            refine lv_iload_n hx hb dX12_fillsChains_127 rfl (lv_at hl 2 rfl) ?_
            refine x_iald X hK hw (ml_mem mb 21 (by decide)) (ml_S mb 21 rfl) hi_20 rfl dX12_fillsChains_128 ?_
            refine lv_icmp_le (tgt := 147) hx hb dX12_fillsChains_129 (by decide) (fun c_31 => ?_) (fun c_31 => ?_)
            · have hf := yb_pos c_31 hf
              obtain ⟨x4_32, ex4_32, hf⟩ := yb_let_ex hf
              refine lv_iinc (v := x4_32) (lv' := [(4, .int x4_32), (0, .ref mb), (2, .int x2), (3, .int x3)]) hx hb dX12_fillsChains_147 hl (k := 3) rfl (by rw [ex4_32]; rfl) (by decide) rfl (fun ls hl => ?_)
              refine lv_goto (tgt := 71) hx hb dX12_fillsChains_150 (by decide) ?_
              exact ih _ _ _ _ _ _ _ _ _ hf hw (lv_sub hl [1, 2, 3, 0] rfl) hexit
            · have hf := yb_neg c_31 hf
              refine lv_aload_n hx hb dX12_fillsChains_132 rfl (lv_at hl 0 rfl) ?_
              refine x_getR X hK hw (ml_mem0 mb) (ml_S0 mb) cpX12 37 (by decide) rfl (ml_R mb 37 rfl) tw_1288 dX12_fillsChains_133 ?_
              refine lv_iload_n hx hb dX12_fillsChains_136 rfl (lv_at hl 2 rfl) ?_
              refine lv_aload_n hx hb dX12_fillsChains_137 rfl (lv_at hl 0 rfl) ?_
              refine x_getR X hK hw (ml_mem0 mb) (ml_S0 mb) cpX12 37 (by decide) rfl (ml_R mb 37 rfl) tw_1288 dX12_fillsChains_138 ?_
              refine lv_iload hx hb dX12_fillsChains_141 (lv_at hl 3 rfl) ?_
              refine x_iald X hK hw (ml_mem mb 21 (by decide)) (ml_S mb 21 rfl) hi_23 rfl dX12_fillsChains_143 ?_
              refine lv_iconst (v := (1 : Int32)) hx hb dX12_fillsChains_144 (by decide) ?_
              refine lv_iadd hx hb dX12_fillsChains_145 ?_
              refine x_iast X hK hw (ml_mem mb 21 (by decide)) (ml_S mb 21 rfl) hi_20 rfl dX12_fillsChains_146 (fun H locs hw => ?_)
              obtain ⟨I_33, eI_33, hf⟩ := yb_let_ex hf
              have hw := yb_wI eI_33 hw
              obtain ⟨x4_34, ex4_34, hf⟩ := yb_let_ex hf
              refine lv_iinc (v := x4_34) (lv' := [(4, .int x4_34), (0, .ref mb), (2, .int x2), (3, .int x3)]) hx hb dX12_fillsChains_147 hl (k := 3) rfl (by rw [ex4_34]; rfl) (by decide) rfl (fun ls hl => ?_)
              refine lv_goto (tgt := 71) hx hb dX12_fillsChains_150 (by decide) ?_
              exact ih _ _ _ _ _ _ _ _ _ hf hw (lv_sub hl [1, 2, 3, 0] rfl) hexit
          · have hf := yb_pos c_30 hf
            refine lv_goto (tgt := 147) hx hb dX12_fillsChains_111 (by decide) ?_
            obtain ⟨x4_35, ex4_35, hf⟩ := yb_let_ex hf
            refine lv_iinc (v := x4_35) (lv' := [(4, .int x4_35), (0, .ref mb), (2, .int x2), (3, .int x3)]) hx hb dX12_fillsChains_147 hl (k := 3) rfl (by rw [ex4_35]; rfl) (by decide) rfl (fun ls hl => ?_)
            refine lv_goto (tgt := 71) hx hb dX12_fillsChains_150 (by decide) ?_
            exact ih _ _ _ _ _ _ _ _ _ hf hw (lv_sub hl [1, 2, 3, 0] rfl) hexit
set_option maxHeartbeats 4000000 in
set_option maxRecDepth 100000 in
theorem w12_fillsChains_L58 {p : Program} {l : Launch} {e : Env} {s : State} {m : MethodId} {args : Array Value} {below : List Frame} {meth : Method} {c : Code} {Q : State → Prop} {D : va_G} {cz : Nat → ClassId} {A : Nat → Prop} {ev : Nat × Nat × Nat} {mb : Nat} (X : CallFix p m c cX12_fillsChains 5 s args gw RX12) (hK : KX D cz ev A s) {N : Nat} {x2 : Int32} :
    ∀ (n : Nat) (x3 : Int32) (I : IT) (J : JT) (q : (Unit)) (I1 : IT) (J1 : JT) (H : Heap) (locs : List Loc) (ls : Array Slot), f12_fillsChains_L58 N mb x2 n x3 I J = some (q, I1, J1) → WX D cz A (mlL mb) (mlS mb) (mlR mb) s.heap I J H locs → lv_has ls 5 [(0, .ref mb), (2, .int x2), (3, .int x3)] →
    (∀ (H : Heap) (locs : List Loc) (ls : Array Slot), WX D cz A (mlL mb) (mlS mb) (mlR mb) s.heap I1 J1 H locs → lv_has ls 5 [(0, .ref mb), (2, .int x2)] → W p l e (rmX 5 114) s m args below meth c H locs 0 0 Q (F0 m 159 ls [])) →
    W p l e (rmX 5 114) s m args below meth c H locs 0 0 Q (F0 m 58 ls []) := by
  have hx := X.1
  have hb := X.2.1
  intro n
  induction n with
  | zero =>
    intro x3 I J q I1 J1 H locs ls hf
    rw [f12_fillsChains_L58] at hf
    cases hf
  | succ n ih =>
    intro x3 I J q I1 J1 H locs ls hf hw hl hexit
    rw [f12_fillsChains_L58] at hf
    refine lv_iload_n hx hb dX12_fillsChains_58 rfl (lv_at hl 2 rfl) ?_
    refine lv_aload_n hx hb dX12_fillsChains_59 rfl (lv_at hl 0 rfl) ?_
    refine x_getR X hK hw (ml_mem0 mb) (ml_S0 mb) cpX12 20 (by decide) rfl (ml_R mb 20 rfl) tw_1271 dX12_fillsChains_60 ?_
    refine lv_iconst (v := (2 : Int32)) hx hb dX12_fillsChains_63 (by decide) ?_
    refine x_iald X hK hw (ml_mem mb 10 (by decide)) (ml_S mb 10 rfl) (by decide) rfl dX12_fillsChains_64 ?_
    refine lv_icmp_ge (tgt := 159) hx hb dX12_fillsChains_65 (by decide) (fun c_18 => ?_) (fun c_18 => ?_)
    · have hf := yb_pos c_18 hf
      obtain ⟨rfl, rfl, rfl⟩ := yb_inj hf
      exact hexit _ _ _ hw (lv_sub hl [0, 1] rfl)
    · have hf := yb_neg c_18 hf
      refine lv_iconst (v := (0 : Int32)) hx hb dX12_fillsChains_68 (by decide) ?_
      refine lv_istore (lv' := [(4, .int (0 : Int32)), (0, .ref mb), (2, .int x2), (3, .int x3)]) hx hb dX12_fillsChains_69 hl (by decide) rfl (fun ls hl => ?_)
      obtain ⟨q_36, I_37, J_38, hq_39, hf⟩ := yb_b3_some hf
      refine w12_fillsChains_L71 X hK _ _ _ _ _ _ _ _ _ _ hq_39 hw (lv_sub hl [1, 2, 3, 0] rfl) (fun H locs ls hw hl => ?_)
      obtain ⟨x3_40, ex3_40, hf⟩ := yb_let_ex hf
      refine lv_iinc (v := x3_40) (lv' := [(3, .int x3_40), (0, .ref mb), (2, .int x2)]) hx hb dX12_fillsChains_153 hl (k := 2) rfl (by rw [ex3_40]; rfl) (by decide) rfl (fun ls hl => ?_)
      refine lv_goto (tgt := 58) hx hb dX12_fillsChains_156 (by decide) ?_
      exact ih _ _ _ _ _ _ _ _ _ hf hw (lv_sub hl [1, 2, 0] rfl) hexit
set_option maxHeartbeats 4000000 in
set_option maxRecDepth 100000 in
theorem w12_fillsChains_L46 {p : Program} {l : Launch} {e : Env} {s : State} {m : MethodId} {args : Array Value} {below : List Frame} {meth : Method} {c : Code} {Q : State → Prop} {D : va_G} {cz : Nat → ClassId} {A : Nat → Prop} {ev : Nat × Nat × Nat} {mb : Nat} (X : CallFix p m c cX12_fillsChains 5 s args gw RX12) (hK : KX D cz ev A s) {N : Nat} :
    ∀ (n : Nat) (x2 : Int32) (I : IT) (J : JT) (q : (Unit)) (I1 : IT) (J1 : JT) (H : Heap) (locs : List Loc) (ls : Array Slot), f12_fillsChains_L46 N mb n x2 I J = some (q, I1, J1) → WX D cz A (mlL mb) (mlS mb) (mlR mb) s.heap I J H locs → lv_has ls 5 [(0, .ref mb), (2, .int x2)] →
    (∀ (H : Heap) (locs : List Loc) (ls : Array Slot), WX D cz A (mlL mb) (mlS mb) (mlR mb) s.heap I1 J1 H locs → lv_has ls 5 [] → W p l e (rmX 5 114) s m args below meth c H locs 0 0 Q (F0 m 165 ls [])) →
    W p l e (rmX 5 114) s m args below meth c H locs 0 0 Q (F0 m 46 ls []) := by
  have hx := X.1
  have hb := X.2.1
  intro n
  induction n with
  | zero =>
    intro x2 I J q I1 J1 H locs ls hf
    rw [f12_fillsChains_L46] at hf
    cases hf
  | succ n ih =>
    intro x2 I J q I1 J1 H locs ls hf hw hl hexit
    rw [f12_fillsChains_L46] at hf
    refine lv_iload_n hx hb dX12_fillsChains_46 rfl (lv_at hl 1 rfl) ?_
    refine lv_aload_n hx hb dX12_fillsChains_47 rfl (lv_at hl 0 rfl) ?_
    refine x_getR X hK hw (ml_mem0 mb) (ml_S0 mb) cpX12 20 (by decide) rfl (ml_R mb 20 rfl) tw_1271 dX12_fillsChains_48 ?_
    refine lv_iconst (v := (2 : Int32)) hx hb dX12_fillsChains_51 (by decide) ?_
    refine x_iald X hK hw (ml_mem mb 10 (by decide)) (ml_S mb 10 rfl) (by decide) rfl dX12_fillsChains_52 ?_
    refine lv_icmp_ge (tgt := 165) hx hb dX12_fillsChains_53 (by decide) (fun c_17 => ?_) (fun c_17 => ?_)
    · have hf := yb_pos c_17 hf
      obtain ⟨rfl, rfl, rfl⟩ := yb_inj hf
      exact hexit _ _ _ hw (lv_sub hl [] rfl)
    · have hf := yb_neg c_17 hf
      refine lv_iconst (v := (0 : Int32)) hx hb dX12_fillsChains_56 (by decide) ?_
      refine lv_istore_n (lv' := [(3, .int (0 : Int32)), (0, .ref mb), (2, .int x2)]) hx hb dX12_fillsChains_57 rfl hl (by decide) rfl (fun ls hl => ?_)
      obtain ⟨q_41, I_42, J_43, hq_44, hf⟩ := yb_b3_some hf
      refine w12_fillsChains_L58 X hK _ _ _ _ _ _ _ _ _ _ hq_44 hw (lv_sub hl [1, 2, 0] rfl) (fun H locs ls hw hl => ?_)
      obtain ⟨x2_45, ex2_45, hf⟩ := yb_let_ex hf
      refine lv_iinc (v := x2_45) (lv' := [(2, .int x2_45), (0, .ref mb)]) hx hb dX12_fillsChains_159 hl (k := 1) rfl (by rw [ex2_45]; rfl) (by decide) rfl (fun ls hl => ?_)
      refine lv_goto (tgt := 46) hx hb dX12_fillsChains_162 (by decide) ?_
      exact ih _ _ _ _ _ _ _ _ _ hf hw (lv_sub hl [1, 0] rfl) hexit
set_option maxHeartbeats 4000000 in
set_option maxRecDepth 100000 in
theorem c12_fillsChains (l : Launch) (D : va_G) (cz : Nat → ClassId) (ev : Nat × Nat × Nat) (mb : Nat) {N : Nat} {x1 : Int32} {I : IT} {J : JT} {r : Unit} {I1 : IT} {J1 : JT} (hf : f12_fillsChains N mb x1 I J = some (r, I1, J1)) : MTv l D cz ev yX12_fillsChains cX12_fillsChains 5 (none) 5 114 [.ref mb, .int x1] (mlL mb) (mlS mb) (mlR mb) I J r I1 J1 := by
  unfold f12_fillsChains at hf
  refine MTv_of (by decide) (Nat.le_of_ble_eq_true rfl) ?_
  intro p e s m args below meth c Q ls X hK hw hl hfin
  have X : CallFix p m c cX12_fillsChains 5 s args gw RX12 := X
  have hx := X.1
  have hb := X.2.1
  have hl : lv_has ls 5 [(0, .ref mb), (1, .int x1)] := hl
  refine lv_iconst (v := (0 : Int32)) hx hb dX12_fillsChains_0 (by decide) ?_
  refine lv_istore_n (lv' := [(2, .int (0 : Int32)), (0, .ref mb), (1, .int x1)]) hx hb dX12_fillsChains_1 rfl hl (by decide) rfl (fun ls hl => ?_)
  obtain ⟨q_13, I_14, J_15, hq_16, hf⟩ := yb_b3_some hf
  refine w12_fillsChains_L2 X hK _ _ _ _ _ _ _ _ _ _ hq_16 hw (lv_sub hl [1, 2, 0] rfl) (fun H locs ls hw hl => ?_)
  refine lv_iconst (v := (0 : Int32)) hx hb dX12_fillsChains_44 (by decide) ?_
  refine lv_istore_n (lv' := [(2, .int (0 : Int32)), (0, .ref mb)]) hx hb dX12_fillsChains_45 rfl hl (by decide) rfl (fun ls hl => ?_)
  obtain ⟨q_46, I_47, J_48, hq_49, hf⟩ := yb_b3_some hf
  refine w12_fillsChains_L46 X hK _ _ _ _ _ _ _ _ _ _ hq_49 hw (lv_sub hl [1, 0] rfl) (fun H locs ls hw hl => ?_)
  exact yb_retv hfin hf hw dX12_fillsChains_165
set_option maxHeartbeats 4000000 in
set_option maxRecDepth 100000 in
theorem w12_down_L41 {p : Program} {l : Launch} {e : Env} {s : State} {m : MethodId} {args : Array Value} {below : List Frame} {meth : Method} {c : Code} {Q : State → Prop} {D : va_G} {cz : Nat → ClassId} {A : Nat → Prop} {ev : Nat × Nat × Nat} {mb : Nat} (X : CallFix p m c cX12_down 7 s args gw RX12) (hK : KX D cz ev A s) {N : Nat} {x1 : Int32} {x2 : Int32} {x3 : Int32} :
    ∀ (n : Nat) (x4 : Int32) (x5 : Int32) (I : IT) (J : JT) (q : (Int32)) (I1 : IT) (J1 : JT) (H : Heap) (locs : List Loc) (ls : Array Slot), f12_down_L41 N mb x1 x2 x3 n x4 x5 I J = some (q, I1, J1) → WX D cz A (mlL mb) (mlS mb) (mlR mb) s.heap I J H locs → lv_has ls 7 [(0, .ref mb), (1, .int x1), (2, .int x2), (3, .int x3), (4, .int x4), (5, .int x5)] →
    (∀ (H : Heap) (locs : List Loc) (ls : Array Slot), WX D cz A (mlL mb) (mlS mb) (mlR mb) s.heap I1 J1 H locs → lv_has ls 7 [(0, .ref mb), (1, .int x1), (2, .int x2), (3, .int x3), (4, .int q)] → W p l e (rmX 6 138) s m args below meth c H locs 0 0 Q (F0 m 90 ls [])) →
    W p l e (rmX 6 138) s m args below meth c H locs 0 0 Q (F0 m 41 ls []) := by
  have hx := X.1
  have hb := X.2.1
  intro n
  induction n with
  | zero =>
    intro x4 x5 I J q I1 J1 H locs ls hf
    rw [f12_down_L41] at hf
    cases hf
  | succ n ih =>
    intro x4 x5 I J q I1 J1 H locs ls hf hw hl hexit
    rw [f12_down_L41] at hf
    refine lv_iload hx hb dX12_down_41 (lv_at hl 5 rfl) ?_
    refine lv_aload_n hx hb dX12_down_43 rfl (lv_at hl 0 rfl) ?_
    refine x_getR X hK hw (ml_mem0 mb) (ml_S0 mb) cpX12 20 (by decide) rfl (ml_R mb 20 rfl) tw_1271 dX12_down_44 ?_
    refine lv_iconst (v := (2 : Int32)) hx hb dX12_down_47 (by decide) ?_
    refine x_iald X hK hw (ml_mem mb 10 (by decide)) (ml_S mb 10 rfl) (by decide) rfl dX12_down_48 ?_
    refine lv_icmp_ge (tgt := 90) hx hb dX12_down_49 (by decide) (fun c_19 => ?_) (fun c_19 => ?_)
    · have hf := yb_pos c_19 hf
      obtain ⟨rfl, rfl, rfl⟩ := yb_inj hf
      exact hexit _ _ _ hw (lv_sub hl [0, 1, 2, 3, 4] rfl)
    · have hf := yb_neg c_19 hf
      refine lv_aload_n hx hb dX12_down_52 rfl (lv_at hl 0 rfl) ?_
      refine lv_iload_n hx hb dX12_down_53 rfl (lv_at hl 1 rfl) ?_
      refine lv_iload hx hb dX12_down_54 (lv_at hl 5 rfl) ?_
      refine lv_iload_n hx hb dX12_down_56 rfl (lv_at hl 3 rfl) ?_
      obtain ⟨r_20, I_21, J_22, hq_23, hf⟩ := yb_b3_some hf
      refine x_calli X hK hw (c12_isNext l D cz ev mb hq_23) (ml_mem0 mb) (ml_S0 mb) cpX12.1 vw_X12_450 ⟨Nat.le_of_ble_eq_true rfl, Nat.le_of_ble_eq_true rfl⟩ rfl rfl (Nat.le_of_ble_eq_true rfl) hl.1 ⟨Nat.le_refl _, Nat.le_refl _⟩ dX12_down_57 (fun H locs hw => ?_)
      refine lv_if_eq (tgt := 84) hx hb dX12_down_60 (by decide) (fun c_24 => ?_) (fun c_24 => ?_)
      · have hf := yb_pos c_24 hf
        obtain ⟨x5_25, ex5_25, hf⟩ := yb_let_ex hf
        refine lv_iinc (v := x5_25) (lv' := [(5, .int x5_25), (0, .ref mb), (1, .int x1), (2, .int x2), (3, .int x3), (4, .int x4)]) hx hb dX12_down_84 hl (k := 5) rfl (by rw [ex5_25]; rfl) (by decide) rfl (fun ls hl => ?_)
        refine lv_goto (tgt := 41) hx hb dX12_down_87 (by decide) ?_
        exact ih _ _ _ _ _ _ _ _ _ _ hf hw (lv_sub hl [1, 2, 3, 4, 5, 0] rfl) hexit
      · have hf := yb_neg c_24 hf
        refine lv_aload_n hx hb dX12_down_63 rfl (lv_at hl 0 rfl) ?_
        refine x_getR X hK hw (ml_mem0 mb) (ml_S0 mb) cpX12 37 (by decide) rfl (ml_R mb 37 rfl) tw_1288 dX12_down_64 ?_
        refine lv_iload hx hb dX12_down_67 (lv_at hl 5 rfl) ?_
        obtain ⟨hi_26, hf⟩ := yb_ck_some hf
        refine x_iald X hK hw (ml_mem mb 21 (by decide)) (ml_S mb 21 rfl) hi_26 rfl dX12_down_69 ?_
        refine lv_iload hx hb dX12_down_70 (lv_at hl 4 rfl) ?_
        refine lv_icmp_le (tgt := 84) hx hb dX12_down_72 (by decide) (fun c_27 => ?_) (fun c_27 => ?_)
        · have hf := yb_pos c_27 hf
          obtain ⟨x5_28, ex5_28, hf⟩ := yb_let_ex hf
          refine lv_iinc (v := x5_28) (lv' := [(5, .int x5_28), (0, .ref mb), (1, .int x1), (2, .int x2), (3, .int x3), (4, .int x4)]) hx hb dX12_down_84 hl (k := 5) rfl (by rw [ex5_28]; rfl) (by decide) rfl (fun ls hl => ?_)
          refine lv_goto (tgt := 41) hx hb dX12_down_87 (by decide) ?_
          exact ih _ _ _ _ _ _ _ _ _ _ hf hw (lv_sub hl [1, 2, 3, 4, 5, 0] rfl) hexit
        · have hf := yb_neg c_27 hf
          refine lv_aload_n hx hb dX12_down_75 rfl (lv_at hl 0 rfl) ?_
          refine x_getR X hK hw (ml_mem0 mb) (ml_S0 mb) cpX12 37 (by decide) rfl (ml_R mb 37 rfl) tw_1288 dX12_down_76 ?_
          refine lv_iload hx hb dX12_down_79 (lv_at hl 5 rfl) ?_
          refine x_iald X hK hw (ml_mem mb 21 (by decide)) (ml_S mb 21 rfl) hi_26 rfl dX12_down_81 ?_
          refine lv_topi (fun x4_29 ex4_29 => ?_)
          have hf := yb_let_to ex4_29 hf
          refine lv_istore (lv' := [(4, .int x4_29), (0, .ref mb), (1, .int x1), (2, .int x2), (3, .int x3), (5, .int x5)]) hx hb dX12_down_82 hl (by decide) rfl (fun ls hl => ?_)
          obtain ⟨x5_30, ex5_30, hf⟩ := yb_let_ex hf
          refine lv_iinc (v := x5_30) (lv' := [(5, .int x5_30), (4, .int x4_29), (0, .ref mb), (1, .int x1), (2, .int x2), (3, .int x3)]) hx hb dX12_down_84 hl (k := 5) rfl (by rw [ex5_30]; rfl) (by decide) rfl (fun ls hl => ?_)
          refine lv_goto (tgt := 41) hx hb dX12_down_87 (by decide) ?_
          exact ih _ _ _ _ _ _ _ _ _ _ hf hw (lv_sub hl [2, 3, 4, 5, 1, 0] rfl) hexit
set_option maxHeartbeats 4000000 in
set_option maxRecDepth 100000 in
theorem w12_down_L118 {p : Program} {l : Launch} {e : Env} {s : State} {m : MethodId} {args : Array Value} {below : List Frame} {meth : Method} {c : Code} {Q : State → Prop} {D : va_G} {cz : Nat → ClassId} {A : Nat → Prop} {ev : Nat × Nat × Nat} {mb : Nat} (X : CallFix p m c cX12_down 7 s args gw RX12) (hK : KX D cz ev A s) {N : Nat} {x1 : Int32} {x2 : Int32} {x3 : Int32} {x4 : Int32} {x5 : Int32} :
    ∀ (n : Nat) (x6 : Int32) (I : IT) (J : JT) (q : (Int32)) (I1 : IT) (J1 : JT) (H : Heap) (locs : List Loc) (ls : Array Slot), f12_down_L118 N mb x1 x2 x3 x4 x5 n x6 I J = some (q, I1, J1) → WX D cz A (mlL mb) (mlS mb) (mlR mb) s.heap I J H locs → lv_has ls 7 [(0, .ref mb), (1, .int x1), (2, .int x2), (3, .int x3), (4, .int x4), (5, .int x5), (6, .int x6)] →
    (∀ (H : Heap) (locs : List Loc) (ls : Array Slot), WX D cz A (mlL mb) (mlS mb) (mlR mb) s.heap I1 J1 H locs → lv_has ls 7 [(0, .ref mb), (1, .int x1), (2, .int x2), (4, .int x4), (5, .int x5), (6, .int q)] → W p l e (rmX 6 138) s m args below meth c H locs 0 0 Q (F0 m 150 ls [])) →
    W p l e (rmX 6 138) s m args below meth c H locs 0 0 Q (F0 m 118 ls []) := by
  have hx := X.1
  have hb := X.2.1
  intro n
  induction n with
  | zero =>
    intro x6 I J q I1 J1 H locs ls hf
    rw [f12_down_L118] at hf
    cases hf
  | succ n ih =>
    intro x6 I J q I1 J1 H locs ls hf hw hl hexit
    rw [f12_down_L118] at hf
    refine lv_aload_n hx hb dX12_down_118 rfl (lv_at hl 0 rfl) ?_
    refine lv_iload_n hx hb dX12_down_119 rfl (lv_at hl 1 rfl) ?_
    refine lv_iload hx hb dX12_down_120 (lv_at hl 6 rfl) ?_
    refine lv_iload_n hx hb dX12_down_122 rfl (lv_at hl 3 rfl) ?_
    obtain ⟨r_38, I_39, J_40, hq_41, hf⟩ := yb_b3_some hf
    refine x_calli X hK hw (c12_isNext l D cz ev mb hq_41) (ml_mem0 mb) (ml_S0 mb) cpX12.1 vw_X12_450 ⟨Nat.le_of_ble_eq_true rfl, Nat.le_of_ble_eq_true rfl⟩ rfl rfl (Nat.le_of_ble_eq_true rfl) hl.1 ⟨Nat.le_refl _, Nat.le_refl _⟩ dX12_down_123 (fun H locs hw => ?_)
    refine lv_if_eq (tgt := 144) hx hb dX12_down_126 (by decide) (fun c_42 => ?_) (fun c_42 => ?_)
    · have hf := yb_pos c_42 hf
      obtain ⟨x6_43, ex6_43, hf⟩ := yb_let_ex hf
      refine lv_iinc (v := x6_43) (lv' := [(6, .int x6_43), (0, .ref mb), (1, .int x1), (2, .int x2), (3, .int x3), (4, .int x4), (5, .int x5)]) hx hb dX12_down_144 hl (k := 6) rfl (by rw [ex6_43]; rfl) (by decide) rfl (fun ls hl => ?_)
      refine lv_goto (tgt := 118) hx hb dX12_down_147 (by decide) ?_
      exact ih _ _ _ _ _ _ _ _ _ hf hw (lv_sub hl [1, 2, 3, 4, 5, 6, 0] rfl) hexit
    · have hf := yb_neg c_42 hf
      refine lv_aload_n hx hb dX12_down_129 rfl (lv_at hl 0 rfl) ?_
      refine x_getR X hK hw (ml_mem0 mb) (ml_S0 mb) cpX12 37 (by decide) rfl (ml_R mb 37 rfl) tw_1288 dX12_down_130 ?_
      refine lv_iload hx hb dX12_down_133 (lv_at hl 6 rfl) ?_
      obtain ⟨hi_44, hf⟩ := yb_ck_some hf
      refine x_iald X hK hw (ml_mem mb 21 (by decide)) (ml_S mb 21 rfl) hi_44 rfl dX12_down_135 ?_
      refine lv_iload hx hb dX12_down_136 (lv_at hl 4 rfl) ?_
      refine lv_iload hx hb dX12_down_138 (lv_at hl 5 rfl) ?_
      refine lv_isub hx hb dX12_down_140 ?_
      refine lv_icmp_eq (tgt := 150) hx hb dX12_down_141 (by decide) (fun c_45 => ?_) (fun c_45 => ?_)
      · have hf := yb_pos c_45 hf
        obtain ⟨rfl, rfl, rfl⟩ := yb_inj hf
        exact hexit _ _ _ hw (lv_sub hl [0, 1, 2, 4, 5, 6] rfl)
      · have hf := yb_neg c_45 hf
        obtain ⟨x6_46, ex6_46, hf⟩ := yb_let_ex hf
        refine lv_iinc (v := x6_46) (lv' := [(6, .int x6_46), (0, .ref mb), (1, .int x1), (2, .int x2), (3, .int x3), (4, .int x4), (5, .int x5)]) hx hb dX12_down_144 hl (k := 6) rfl (by rw [ex6_46]; rfl) (by decide) rfl (fun ls hl => ?_)
        refine lv_goto (tgt := 118) hx hb dX12_down_147 (by decide) ?_
        exact ih _ _ _ _ _ _ _ _ _ hf hw (lv_sub hl [1, 2, 3, 4, 5, 6, 0] rfl) hexit
set_option maxHeartbeats 4000000 in
set_option maxRecDepth 100000 in
theorem w12_down_L109 {p : Program} {l : Launch} {e : Env} {s : State} {m : MethodId} {args : Array Value} {below : List Frame} {meth : Method} {c : Code} {Q : State → Prop} {D : va_G} {cz : Nat → ClassId} {A : Nat → Prop} {ev : Nat × Nat × Nat} {mb : Nat} (X : CallFix p m c cX12_down 7 s args gw RX12) (hK : KX D cz ev A s) {N : Nat} {x1 : Int32} {x2 : Int32} {x4 : Int32} :
    ∀ (n : Nat) (x3 : Int32) (x5 : Int32) (I : IT) (J : JT) (q : (Int32)) (I1 : IT) (J1 : JT) (H : Heap) (locs : List Loc) (ls : Array Slot), f12_down_L109 N mb x1 x2 x4 n x3 x5 I J = some (q, I1, J1) → WX D cz A (mlL mb) (mlS mb) (mlR mb) s.heap I J H locs → lv_has ls 7 [(0, .ref mb), (1, .int x1), (2, .int x2), (3, .int x3), (4, .int x4), (5, .int x5)] →
    (∀ (H : Heap) (locs : List Loc) (ls : Array Slot), WX D cz A (mlL mb) (mlS mb) (mlR mb) s.heap I1 J1 H locs → lv_has ls 7 [(3, .int q)] → W p l e (rmX 6 138) s m args below meth c H locs 0 0 Q (F0 m 159 ls [])) →
    W p l e (rmX 6 138) s m args below meth c H locs 0 0 Q (F0 m 109 ls []) := by
  have hx := X.1
  have hb := X.2.1
  intro n
  induction n with
  | zero =>
    intro x3 x5 I J q I1 J1 H locs ls hf
    rw [f12_down_L109] at hf
    cases hf
  | succ n ih =>
    intro x3 x5 I J q I1 J1 H locs ls hf hw hl hexit
    rw [f12_down_L109] at hf
    refine lv_iload hx hb dX12_down_109 (lv_at hl 5 rfl) ?_
    refine lv_iload_n hx hb dX12_down_111 rfl (lv_at hl 2 rfl) ?_
    refine lv_icmp_ge (tgt := 159) hx hb dX12_down_112 (by decide) (fun c_37 => ?_) (fun c_37 => ?_)
    · have hf := yb_pos c_37 hf
      obtain ⟨rfl, rfl, rfl⟩ := yb_inj hf
      exact hexit _ _ _ hw (lv_sub hl [3] rfl)
    · have hf := yb_neg c_37 hf
      refine lv_iconst (v := (0 : Int32)) hx hb dX12_down_115 (by decide) ?_
      refine lv_istore (lv' := [(6, .int (0 : Int32)), (0, .ref mb), (1, .int x1), (2, .int x2), (3, .int x3), (4, .int x4), (5, .int x5)]) hx hb dX12_down_116 hl (by decide) rfl (fun ls hl => ?_)
      obtain ⟨q_47, I_48, J_49, hq_50, hf⟩ := yb_b3_some hf
      refine w12_down_L118 X hK _ _ _ _ _ _ _ _ _ _ hq_50 hw (lv_sub hl [1, 2, 3, 4, 5, 6, 0] rfl) (fun H locs ls hw hl => ?_)
      refine lv_iload hx hb dX12_down_150 (lv_at hl 5 rfl) ?_
      refine lv_istore_n (lv' := [(3, .int q_47), (0, .ref mb), (1, .int x1), (2, .int x2), (4, .int x4), (5, .int x5), (6, .int q_47)]) hx hb dX12_down_152 rfl hl (by decide) rfl (fun ls hl => ?_)
      obtain ⟨x5_51, ex5_51, hf⟩ := yb_let_ex hf
      refine lv_iinc (v := x5_51) (lv' := [(5, .int x5_51), (3, .int q_47), (0, .ref mb), (1, .int x1), (2, .int x2), (4, .int x4), (6, .int q_47)]) hx hb dX12_down_153 hl (k := 5) rfl (by rw [ex5_51]; rfl) (by decide) rfl (fun ls hl => ?_)
      refine lv_goto (tgt := 109) hx hb dX12_down_156 (by decide) ?_
      exact ih _ _ _ _ _ _ _ _ _ _ hf hw (lv_sub hl [2, 3, 4, 1, 5, 0] rfl) hexit
set_option maxHeartbeats 4000000 in
set_option maxRecDepth 100000 in
theorem c12_down (l : Launch) (D : va_G) (cz : Nat → ClassId) (ev : Nat × Nat × Nat) (mb : Nat) {N : Nat} {x1 : Int32} {x2 : Int32} {I : IT} {J : JT} {r : Int32} {I1 : IT} {J1 : JT} (hf : f12_down N mb x1 x2 I J = some (r, I1, J1)) : MTi l D cz ev yX12_down cX12_down 7 (some .int) 6 138 [.ref mb, .int x1, .int x2] (mlL mb) (mlS mb) (mlR mb) I J r I1 J1 := by
  unfold f12_down at hf
  refine MTi_of (by decide) (Nat.le_of_ble_eq_true rfl) ?_
  intro p e s m args below meth c Q ls X hK hw hl hfin
  have X : CallFix p m c cX12_down 7 s args gw RX12 := X
  have hx := X.1
  have hb := X.2.1
  have hl : lv_has ls 7 [(0, .ref mb), (1, .int x1), (2, .int x2)] := hl
  refine lv_aload_n hx hb dX12_down_0 rfl (lv_at hl 0 rfl) ?_
  refine lv_iload_n hx hb dX12_down_1 rfl (lv_at hl 1 rfl) ?_
  obtain ⟨r_1, I_2, J_3, hq_4, hf⟩ := yb_b3_some hf
  refine x_calli X hK hw (c12_isCase l D cz ev mb hq_4) (ml_mem0 mb) (ml_S0 mb) cpX12.1 vw_X12_347 ⟨Nat.le_of_ble_eq_true rfl, Nat.le_of_ble_eq_true rfl⟩ rfl rfl (Nat.le_of_ble_eq_true rfl) hl.1 ⟨Nat.le_refl _, Nat.le_refl _⟩ dX12_down_2 (fun H locs hw => ?_)
  refine lv_if_eq (tgt := 20) hx hb dX12_down_5 (by decide) (fun c_5 => ?_) (fun c_5 => ?_)
  · have hf := yb_pos c_5 hf
    refine lv_iconst (v := (-1 : Int32)) hx hb dX12_down_20 (by decide) ?_
    exact yb_reti hfin hf hw dX12_down_21
  · have hf := yb_neg c_5 hf
    refine lv_iload_n hx hb dX12_down_8 rfl (lv_at hl 2 rfl) ?_
    refine lv_i2l hx hb dX12_down_9 rfl ?_
    refine lv_lconst (v := (0 : Int64)) hx hb dX12_down_10 (by decide) ?_
    refine lv_ldc2 (v := (7 : Int64)) hx hb X.2.2.2.1 (X.2.2.2.2 _ tw_1783) dX12_down_11 ?_
    obtain ⟨r_6, I_7, J_8, hq_9, hf⟩ := yb_b3_some hf
    refine x_callsi X hK hw (c12_in l D cz ev mb hq_9) sw_X12_142 ⟨Nat.le_of_ble_eq_true rfl, Nat.le_of_ble_eq_true rfl⟩ rfl rfl (Nat.le_of_ble_eq_true rfl) hl.1 ⟨Nat.le_refl _, Nat.le_refl _⟩ dX12_down_14 (fun H locs hw => ?_)
    refine lv_if_ne (tgt := 22) hx hb dX12_down_17 (by decide) (fun c_10 => ?_) (fun c_10 => ?_)
    · have hf := yb_neg c_10 hf
      refine lv_aload_n hx hb dX12_down_22 rfl (lv_at hl 0 rfl) ?_
      refine lv_iload_n hx hb dX12_down_23 rfl (lv_at hl 1 rfl) ?_
      obtain ⟨r_11, I_12, J_13, hq_14, hf⟩ := yb_b3_some hf
      refine x_callv X hK hw (c12_fillsChains l D cz ev mb hq_14) (ml_mem0 mb) (ml_S0 mb) cpX12.1 vw_X12_447 ⟨Nat.le_of_ble_eq_true rfl, Nat.le_of_ble_eq_true rfl⟩ rfl rfl (Nat.le_of_ble_eq_true rfl) hl.1 ⟨Nat.le_refl _, Nat.le_refl _⟩ dX12_down_24 (fun H locs hw => ?_)
      refine lv_aload_n hx hb dX12_down_27 rfl (lv_at hl 0 rfl) ?_
      refine lv_iload_n hx hb dX12_down_28 rfl (lv_at hl 1 rfl) ?_
      refine lv_bipush (v := (6 : Int32)) hx hb dX12_down_29 (by decide) ?_
      obtain ⟨r_15, I_16, J_17, hq_18, hf⟩ := yb_b3_some hf
      refine x_calli X hK hw (c12_caseOf l D cz ev mb hq_18) (ml_mem0 mb) (ml_S0 mb) cpX12.1 vw_X12_331 ⟨Nat.le_of_ble_eq_true rfl, Nat.le_of_ble_eq_true rfl⟩ rfl rfl (Nat.le_of_ble_eq_true rfl) hl.1 ⟨Nat.le_refl _, Nat.le_refl _⟩ dX12_down_31 (fun H locs hw => ?_)
      refine lv_istore_n (lv' := [(3, .int r_15), (0, .ref mb), (1, .int x1), (2, .int x2)]) hx hb dX12_down_34 rfl hl (by decide) rfl (fun ls hl => ?_)
      refine lv_iconst (v := (0 : Int32)) hx hb dX12_down_35 (by decide) ?_
      refine lv_istore (lv' := [(4, .int (0 : Int32)), (3, .int r_15), (0, .ref mb), (1, .int x1), (2, .int x2)]) hx hb dX12_down_36 hl (by decide) rfl (fun ls hl => ?_)
      refine lv_iconst (v := (0 : Int32)) hx hb dX12_down_38 (by decide) ?_
      refine lv_istore (lv' := [(5, .int (0 : Int32)), (4, .int (0 : Int32)), (3, .int r_15), (0, .ref mb), (1, .int x1), (2, .int x2)]) hx hb dX12_down_39 hl (by decide) rfl (fun ls hl => ?_)
      obtain ⟨q_31, I_32, J_33, hq_34, hf⟩ := yb_b3_some hf
      refine w12_down_L41 X hK _ _ _ _ _ _ _ _ _ _ _ hq_34 hw (lv_sub hl [3, 4, 5, 2, 1, 0] rfl) (fun H locs ls hw hl => ?_)
      refine lv_iload_n hx hb dX12_down_90 rfl (lv_at hl 2 rfl) ?_
      refine lv_if_ne (tgt := 97) hx hb dX12_down_91 (by decide) (fun c_35 => ?_) (fun c_35 => ?_)
      · have hf := yb_neg c_35 hf
        refine lv_iload_n hx hb dX12_down_97 rfl (lv_at hl 2 rfl) ?_
        refine lv_iload hx hb dX12_down_98 (lv_at hl 4 rfl) ?_
        refine lv_icmp_le (tgt := 106) hx hb dX12_down_100 (by decide) (fun c_36 => ?_) (fun c_36 => ?_)
        · have hf := yb_pos c_36 hf
          refine lv_iconst (v := (0 : Int32)) hx hb dX12_down_106 (by decide) ?_
          refine lv_istore (lv' := [(5, .int (0 : Int32)), (0, .ref mb), (1, .int x1), (2, .int x2), (3, .int r_15), (4, .int q_31)]) hx hb dX12_down_107 hl (by decide) rfl (fun ls hl => ?_)
          obtain ⟨q_52, I_53, J_54, hq_55, hf⟩ := yb_b3_some hf
          refine w12_down_L109 X hK _ _ _ _ _ _ _ _ _ _ _ hq_55 hw (lv_sub hl [1, 2, 3, 4, 5, 0] rfl) (fun H locs ls hw hl => ?_)
          refine lv_iload_n hx hb dX12_down_159 rfl (lv_at hl 0 rfl) ?_
          exact yb_reti hfin hf hw dX12_down_160
        · have hf := yb_neg c_36 hf
          refine lv_bipush (v := (-2 : Int32)) hx hb dX12_down_103 (by decide) ?_
          exact yb_reti hfin hf hw dX12_down_105
      · have hf := yb_pos c_35 hf
        refine lv_iload hx hb dX12_down_94 (lv_at hl 4 rfl) ?_
        exact yb_reti hfin hf hw dX12_down_96
    · have hf := yb_pos c_10 hf
      refine lv_iconst (v := (-1 : Int32)) hx hb dX12_down_20 (by decide) ?_
      exact yb_reti hfin hf hw dX12_down_21
set_option maxHeartbeats 4000000 in
set_option maxRecDepth 100000 in
theorem w12_mostRight_L6 {p : Program} {l : Launch} {e : Env} {s : State} {m : MethodId} {args : Array Value} {below : List Frame} {meth : Method} {c : Code} {Q : State → Prop} {D : va_G} {cz : Nat → ClassId} {A : Nat → Prop} {ev : Nat × Nat × Nat} {mb : Nat} (X : CallFix p m c cX12_mostRight 8 s args gw RX12) (hK : KX D cz ev A s) {N : Nat} {x1 : Int32} {x2 : Int32} {x3 : Int32} {x4 : Int32} :
    ∀ (n : Nat) (x5 : Int32) (x6 : Int32) (I : IT) (J : JT) (q : (Int32)) (I1 : IT) (J1 : JT) (H : Heap) (locs : List Loc) (ls : Array Slot), f12_mostRight_L6 N mb x1 x2 x3 x4 n x5 x6 I J = some (q, I1, J1) → WX D cz A (mlL mb) (mlS mb) (mlR mb) s.heap I J H locs → lv_has ls 8 [(0, .ref mb), (1, .int x1), (2, .int x2), (3, .int x3), (4, .int x4), (5, .int x5), (6, .int x6)] →
    (∀ (H : Heap) (locs : List Loc) (ls : Array Slot), WX D cz A (mlL mb) (mlS mb) (mlR mb) s.heap I1 J1 H locs → lv_has ls 8 [(5, .int q)] → W p l e (rmX 4 106) s m args below meth c H locs 0 0 Q (F0 m 76 ls [])) →
    W p l e (rmX 4 106) s m args below meth c H locs 0 0 Q (F0 m 6 ls []) := by
  have hx := X.1
  have hb := X.2.1
  intro n
  induction n with
  | zero =>
    intro x5 x6 I J q I1 J1 H locs ls hf
    rw [f12_mostRight_L6] at hf
    cases hf
  | succ n ih =>
    intro x5 x6 I J q I1 J1 H locs ls hf hw hl hexit
    rw [f12_mostRight_L6] at hf
    refine lv_iload hx hb dX12_mostRight_6 (lv_at hl 6 rfl) ?_
    refine lv_aload_n hx hb dX12_mostRight_8 rfl (lv_at hl 0 rfl) ?_
    refine x_getR X hK hw (ml_mem0 mb) (ml_S0 mb) cpX12 20 (by decide) rfl (ml_R mb 20 rfl) tw_1271 dX12_mostRight_9 ?_
    refine lv_iconst (v := (2 : Int32)) hx hb dX12_mostRight_12 (by decide) ?_
    refine x_iald X hK hw (ml_mem mb 10 (by decide)) (ml_S mb 10 rfl) (by decide) rfl dX12_mostRight_13 ?_
    refine lv_icmp_ge (tgt := 76) hx hb dX12_mostRight_14 (by decide) (fun c_1 => ?_) (fun c_1 => ?_)
    · have hf := yb_pos c_1 hf
      obtain ⟨rfl, rfl, rfl⟩ := yb_inj hf
      exact hexit _ _ _ hw (lv_sub hl [5] rfl)
    · have hf := yb_neg c_1 hf
      refine lv_aload_n hx hb dX12_mostRight_17 rfl (lv_at hl 0 rfl) ?_
      refine lv_iload hx hb dX12_mostRight_18 (lv_at hl 6 rfl) ?_
      refine lv_iload_n hx hb dX12_mostRight_20 rfl (lv_at hl 1 rfl) ?_
      refine lv_iload_n hx hb dX12_mostRight_21 rfl (lv_at hl 3 rfl) ?_
      refine lv_iload hx hb dX12_mostRight_22 (lv_at hl 4 rfl) ?_
      obtain ⟨r_2, I_3, J_4, hq_5, hf⟩ := yb_b3_some hf
      refine x_calli X hK hw (c12_canSit l D cz ev mb hq_5) (ml_mem0 mb) (ml_S0 mb) cpX12.1 vw_X12_334 ⟨Nat.le_of_ble_eq_true rfl, Nat.le_of_ble_eq_true rfl⟩ rfl rfl (Nat.le_of_ble_eq_true rfl) hl.1 ⟨Nat.le_refl _, Nat.le_refl _⟩ dX12_mostRight_24 (fun H locs hw => ?_)
      refine lv_if_ne (tgt := 33) hx hb dX12_mostRight_27 (by decide) (fun c_6 => ?_) (fun c_6 => ?_)
      · have hf := yb_neg c_6 hf
        refine lv_aload_n hx hb dX12_mostRight_33 rfl (lv_at hl 0 rfl) ?_
        refine lv_iload hx hb dX12_mostRight_34 (lv_at hl 6 rfl) ?_
        refine lv_iload_n hx hb dX12_mostRight_36 rfl (lv_at hl 1 rfl) ?_
        refine lv_iload_n hx hb dX12_mostRight_37 rfl (lv_at hl 2 rfl) ?_
        refine lv_iload_n hx hb dX12_mostRight_38 rfl (lv_at hl 3 rfl) ?_
        refine lv_iload hx hb dX12_mostRight_39 (lv_at hl 4 rfl) ?_
        refine lv_aload_n hx hb dX12_mostRight_41 rfl (lv_at hl 0 rfl) ?_
        refine lv_iload hx hb dX12_mostRight_42 (lv_at hl 6 rfl) ?_
        refine lv_iconst (v := (4 : Int32)) hx hb dX12_mostRight_44 (by decide) ?_
        obtain ⟨r_7, I_8, J_9, hq_10, hf⟩ := yb_b3_some hf
        refine x_calli X hK hw (c12_personOf l D cz ev mb hq_10) (ml_mem0 mb) (ml_S0 mb) cpX12.1 vw_X12_312 ⟨Nat.le_of_ble_eq_true rfl, Nat.le_of_ble_eq_true rfl⟩ rfl rfl (Nat.le_of_ble_eq_true rfl) hl.1 ⟨Nat.le_refl _, Nat.le_refl _⟩ dX12_mostRight_45 (fun H locs hw => ?_)
        refine lv_iconst (v := (0 : Int32)) hx hb dX12_mostRight_48 (by decide) ?_
        obtain ⟨r_11, I_12, J_13, hq_14, hf⟩ := yb_b3_some hf
        refine x_calli X hK hw (c12_rightIn l D cz ev mb hq_14) (ml_mem0 mb) (ml_S0 mb) cpX12.1 vw_X12_369 ⟨Nat.le_of_ble_eq_true rfl, Nat.le_of_ble_eq_true rfl⟩ rfl rfl (Nat.le_of_ble_eq_true rfl) hl.1 ⟨Nat.le_refl _, Nat.le_refl _⟩ dX12_mostRight_49 (fun H locs hw => ?_)
        refine lv_istore (lv' := [(7, .int r_11), (0, .ref mb), (1, .int x1), (2, .int x2), (3, .int x3), (4, .int x4), (5, .int x5), (6, .int x6)]) hx hb dX12_mostRight_52 hl (by decide) rfl (fun ls hl => ?_)
        refine lv_iload hx hb dX12_mostRight_54 (lv_at hl 0 rfl) ?_
        refine lv_iload hx hb dX12_mostRight_56 (lv_at hl 6 rfl) ?_
        refine lv_icmp_le (tgt := 66) hx hb dX12_mostRight_58 (by decide) (fun c_15 => ?_) (fun c_15 => ?_)
        · have hf := yb_pos c_15 hf
          refine lv_iload hx hb dX12_mostRight_66 (lv_at hl 6 rfl) ?_
          refine lv_istore (lv' := [(5, .int x5), (7, .int r_11), (0, .ref mb), (1, .int x1), (2, .int x2), (3, .int x3), (4, .int x4), (6, .int x6)]) hx hb dX12_mostRight_68 hl (by decide) rfl (fun ls hl => ?_)
          obtain ⟨x6_16, ex6_16, hf⟩ := yb_let_ex hf
          refine lv_iinc (v := x6_16) (lv' := [(6, .int x6_16), (5, .int x5), (7, .int r_11), (0, .ref mb), (1, .int x1), (2, .int x2), (3, .int x3), (4, .int x4)]) hx hb dX12_mostRight_70 hl (k := 7) rfl (by rw [ex6_16]; rfl) (by decide) rfl (fun ls hl => ?_)
          refine lv_goto (tgt := 6) hx hb dX12_mostRight_73 (by decide) ?_
          exact ih _ _ _ _ _ _ _ _ _ _ hf hw (lv_sub hl [3, 4, 5, 6, 7, 1, 0] rfl) hexit
        · have hf := yb_neg c_15 hf
          refine lv_iload hx hb dX12_mostRight_61 (lv_at hl 0 rfl) ?_
          refine lv_goto (tgt := 68) hx hb dX12_mostRight_63 (by decide) ?_
          refine lv_istore (lv' := [(5, .int r_11), (7, .int r_11), (0, .ref mb), (1, .int x1), (2, .int x2), (3, .int x3), (4, .int x4), (6, .int x6)]) hx hb dX12_mostRight_68 hl (by decide) rfl (fun ls hl => ?_)
          obtain ⟨x6_17, ex6_17, hf⟩ := yb_let_ex hf
          refine lv_iinc (v := x6_17) (lv' := [(6, .int x6_17), (5, .int r_11), (7, .int r_11), (0, .ref mb), (1, .int x1), (2, .int x2), (3, .int x3), (4, .int x4)]) hx hb dX12_mostRight_70 hl (k := 7) rfl (by rw [ex6_17]; rfl) (by decide) rfl (fun ls hl => ?_)
          refine lv_goto (tgt := 6) hx hb dX12_mostRight_73 (by decide) ?_
          exact ih _ _ _ _ _ _ _ _ _ _ hf hw (lv_sub hl [3, 4, 5, 6, 7, 1, 0] rfl) hexit
      · have hf := yb_pos c_6 hf
        refine lv_goto (tgt := 70) hx hb dX12_mostRight_30 (by decide) ?_
        obtain ⟨x6_18, ex6_18, hf⟩ := yb_let_ex hf
        refine lv_iinc (v := x6_18) (lv' := [(6, .int x6_18), (0, .ref mb), (1, .int x1), (2, .int x2), (3, .int x3), (4, .int x4), (5, .int x5)]) hx hb dX12_mostRight_70 hl (k := 6) rfl (by rw [ex6_18]; rfl) (by decide) rfl (fun ls hl => ?_)
        refine lv_goto (tgt := 6) hx hb dX12_mostRight_73 (by decide) ?_
        exact ih _ _ _ _ _ _ _ _ _ _ hf hw (lv_sub hl [1, 2, 3, 4, 5, 6, 0] rfl) hexit
set_option maxHeartbeats 4000000 in
set_option maxRecDepth 100000 in
theorem c12_mostRight (l : Launch) (D : va_G) (cz : Nat → ClassId) (ev : Nat × Nat × Nat) (mb : Nat) {N : Nat} {x1 : Int32} {x2 : Int32} {x3 : Int32} {x4 : Int32} {I : IT} {J : JT} {r : Int32} {I1 : IT} {J1 : JT} (hf : f12_mostRight N mb x1 x2 x3 x4 I J = some (r, I1, J1)) : MTi l D cz ev yX12_mostRight cX12_mostRight 8 (some .int) 4 106 [.ref mb, .int x1, .int x2, .int x3, .int x4] (mlL mb) (mlS mb) (mlR mb) I J r I1 J1 := by
  unfold f12_mostRight at hf
  refine MTi_of (by decide) (Nat.le_of_ble_eq_true rfl) ?_
  intro p e s m args below meth c Q ls X hK hw hl hfin
  have X : CallFix p m c cX12_mostRight 8 s args gw RX12 := X
  have hx := X.1
  have hb := X.2.1
  have hl : lv_has ls 8 [(0, .ref mb), (1, .int x1), (2, .int x2), (3, .int x3), (4, .int x4)] := hl
  refine lv_iconst (v := (0 : Int32)) hx hb dX12_mostRight_0 (by decide) ?_
  refine lv_istore (lv' := [(5, .int (0 : Int32)), (0, .ref mb), (1, .int x1), (2, .int x2), (3, .int x3), (4, .int x4)]) hx hb dX12_mostRight_1 hl (by decide) rfl (fun ls hl => ?_)
  refine lv_iconst (v := (0 : Int32)) hx hb dX12_mostRight_3 (by decide) ?_
  refine lv_istore (lv' := [(6, .int (0 : Int32)), (5, .int (0 : Int32)), (0, .ref mb), (1, .int x1), (2, .int x2), (3, .int x3), (4, .int x4)]) hx hb dX12_mostRight_4 hl (by decide) rfl (fun ls hl => ?_)
  obtain ⟨q_19, I_20, J_21, hq_22, hf⟩ := yb_b3_some hf
  refine w12_mostRight_L6 X hK _ _ _ _ _ _ _ _ _ _ _ hq_22 hw (lv_sub hl [2, 3, 4, 5, 6, 1, 0] rfl) (fun H locs ls hw hl => ?_)
  refine lv_iload hx hb dX12_mostRight_76 (lv_at hl 0 rfl) ?_
  exact yb_reti hfin hf hw dX12_mostRight_78
set_option maxHeartbeats 4000000 in
set_option maxRecDepth 100000 in
theorem w12_commit_L72 {p : Program} {l : Launch} {e : Env} {s : State} {m : MethodId} {args : Array Value} {below : List Frame} {meth : Method} {c : Code} {Q : State → Prop} {D : va_G} {cz : Nat → ClassId} {A : Nat → Prop} {ev : Nat × Nat × Nat} {mb : Nat} (X : CallFix p m c cX12_commit 10 s args gw RX12) (hK : KX D cz ev A s) {N : Nat} {x1 : Int32} {x2 : Int32} {x3 : Int32} {x4 : Int32} {x5 : Int32} :
    ∀ (n : Nat) (x6 : Int32) (x7 : Int32) (x8 : Int32) (I : IT) (J : JT) (q : (Int32 × Int32)) (I1 : IT) (J1 : JT) (H : Heap) (locs : List Loc) (ls : Array Slot), f12_commit_L72 N mb x1 x2 x3 x4 x5 n x6 x7 x8 I J = some (q, I1, J1) → WX D cz A (mlL mb) (mlS mb) (mlR mb) s.heap I J H locs → lv_has ls 10 [(0, .ref mb), (1, .int x1), (2, .int x2), (3, .int x3), (4, .int x4), (5, .int x5), (6, .int x6), (7, .int x7), (8, .int x8)] →
    (∀ (H : Heap) (locs : List Loc) (ls : Array Slot), WX D cz A (mlL mb) (mlS mb) (mlR mb) s.heap I1 J1 H locs → lv_has ls 10 [(5, .int x5), (6, .int q.1), (7, .int q.2)] → W p l e (rmX 5 133) s m args below meth c H locs 0 0 Q (F0 m 126 ls [])) →
    W p l e (rmX 5 133) s m args below meth c H locs 0 0 Q (F0 m 72 ls []) := by
  have hx := X.1
  have hb := X.2.1
  intro n
  induction n with
  | zero =>
    intro x6 x7 x8 I J q I1 J1 H locs ls hf
    rw [f12_commit_L72] at hf
    cases hf
  | succ n ih =>
    intro x6 x7 x8 I J q I1 J1 H locs ls hf hw hl hexit
    rw [f12_commit_L72] at hf
    refine lv_iload hx hb dX12_commit_72 (lv_at hl 8 rfl) ?_
    refine lv_aload_n hx hb dX12_commit_74 rfl (lv_at hl 0 rfl) ?_
    refine x_getR X hK hw (ml_mem0 mb) (ml_S0 mb) cpX12 20 (by decide) rfl (ml_R mb 20 rfl) tw_1271 dX12_commit_75 ?_
    refine lv_iconst (v := (4 : Int32)) hx hb dX12_commit_78 (by decide) ?_
    refine x_iald X hK hw (ml_mem mb 10 (by decide)) (ml_S mb 10 rfl) (by decide) rfl dX12_commit_79 ?_
    refine lv_iload hx hb dX12_commit_80 (lv_at hl 4 rfl) ?_
    refine lv_iadd hx hb dX12_commit_82 ?_
    refine lv_icmp_ge (tgt := 126) hx hb dX12_commit_83 (by decide) (fun c_27 => ?_) (fun c_27 => ?_)
    · have hf := yb_pos c_27 hf
      obtain ⟨rfl, rfl, rfl⟩ := yb_inj hf
      exact hexit _ _ _ hw (lv_sub hl [5, 6, 7] rfl)
    · have hf := yb_neg c_27 hf
      refine lv_aload_n hx hb dX12_commit_86 rfl (lv_at hl 0 rfl) ?_
      refine lv_iload_n hx hb dX12_commit_87 rfl (lv_at hl 1 rfl) ?_
      refine lv_iload_n hx hb dX12_commit_88 rfl (lv_at hl 2 rfl) ?_
      refine lv_iload_n hx hb dX12_commit_89 rfl (lv_at hl 3 rfl) ?_
      refine lv_iload hx hb dX12_commit_90 (lv_at hl 8 rfl) ?_
      obtain ⟨r_28, I_29, J_30, hq_31, hf⟩ := yb_b3_some hf
      refine x_calli X hK hw (c12_mostRight l D cz ev mb hq_31) (ml_mem0 mb) (ml_S0 mb) cpX12.1 vw_X12_455 ⟨Nat.le_of_ble_eq_true rfl, Nat.le_of_ble_eq_true rfl⟩ rfl rfl (Nat.le_of_ble_eq_true rfl) hl.1 ⟨Nat.le_refl _, Nat.le_refl _⟩ dX12_commit_92 (fun H locs hw => ?_)
      refine lv_istore (lv' := [(9, .int r_28), (0, .ref mb), (1, .int x1), (2, .int x2), (3, .int x3), (4, .int x4), (5, .int x5), (6, .int x6), (7, .int x7), (8, .int x8)]) hx hb dX12_commit_95 hl (by decide) rfl (fun ls hl => ?_)
      refine lv_iload hx hb dX12_commit_97 (lv_at hl 7 rfl) ?_
      refine lv_if_lt (tgt := 112) hx hb dX12_commit_99 (by decide) (fun c_32 => ?_) (fun c_32 => ?_)
      · have hf := yb_pos c_32 hf
        refine lv_iload hx hb dX12_commit_112 (lv_at hl 9 rfl) ?_
        refine lv_istore (lv' := [(6, .int x8), (9, .int r_28), (0, .ref mb), (1, .int x1), (2, .int x2), (3, .int x3), (4, .int x4), (5, .int x5), (7, .int x7), (8, .int x8)]) hx hb dX12_commit_114 hl (by decide) rfl (fun ls hl => ?_)
        refine lv_iload hx hb dX12_commit_116 (lv_at hl 1 rfl) ?_
        refine lv_istore (lv' := [(7, .int r_28), (6, .int x8), (9, .int r_28), (0, .ref mb), (1, .int x1), (2, .int x2), (3, .int x3), (4, .int x4), (5, .int x5), (8, .int x8)]) hx hb dX12_commit_118 hl (by decide) rfl (fun ls hl => ?_)
        obtain ⟨x8_33, ex8_33, hf⟩ := yb_let_ex hf
        refine lv_iinc (v := x8_33) (lv' := [(8, .int x8_33), (7, .int r_28), (6, .int x8), (9, .int r_28), (0, .ref mb), (1, .int x1), (2, .int x2), (3, .int x3), (4, .int x4), (5, .int x5)]) hx hb dX12_commit_120 hl (k := 9) rfl (by rw [ex8_33]; rfl) (by decide) rfl (fun ls hl => ?_)
        refine lv_goto (tgt := 72) hx hb dX12_commit_123 (by decide) ?_
        exact ih _ _ _ _ _ _ _ _ _ _ _ hf hw (lv_sub hl [4, 5, 6, 7, 8, 9, 2, 1, 0] rfl) hexit
      · have hf := yb_neg c_32 hf
        refine lv_iload hx hb dX12_commit_102 (lv_at hl 0 rfl) ?_
        refine lv_iload hx hb dX12_commit_104 (lv_at hl 8 rfl) ?_
        refine lv_icmp_lt (tgt := 112) hx hb dX12_commit_106 (by decide) (fun c_34 => ?_) (fun c_34 => ?_)
        · have hf := yb_pos c_34 hf
          refine lv_iload hx hb dX12_commit_112 (lv_at hl 9 rfl) ?_
          refine lv_istore (lv' := [(6, .int x8), (9, .int r_28), (0, .ref mb), (1, .int x1), (2, .int x2), (3, .int x3), (4, .int x4), (5, .int x5), (7, .int x7), (8, .int x8)]) hx hb dX12_commit_114 hl (by decide) rfl (fun ls hl => ?_)
          refine lv_iload hx hb dX12_commit_116 (lv_at hl 1 rfl) ?_
          refine lv_istore (lv' := [(7, .int r_28), (6, .int x8), (9, .int r_28), (0, .ref mb), (1, .int x1), (2, .int x2), (3, .int x3), (4, .int x4), (5, .int x5), (8, .int x8)]) hx hb dX12_commit_118 hl (by decide) rfl (fun ls hl => ?_)
          obtain ⟨x8_35, ex8_35, hf⟩ := yb_let_ex hf
          refine lv_iinc (v := x8_35) (lv' := [(8, .int x8_35), (7, .int r_28), (6, .int x8), (9, .int r_28), (0, .ref mb), (1, .int x1), (2, .int x2), (3, .int x3), (4, .int x4), (5, .int x5)]) hx hb dX12_commit_120 hl (k := 9) rfl (by rw [ex8_35]; rfl) (by decide) rfl (fun ls hl => ?_)
          refine lv_goto (tgt := 72) hx hb dX12_commit_123 (by decide) ?_
          exact ih _ _ _ _ _ _ _ _ _ _ _ hf hw (lv_sub hl [4, 5, 6, 7, 8, 9, 2, 1, 0] rfl) hexit
        · have hf := yb_neg c_34 hf
          refine lv_goto (tgt := 120) hx hb dX12_commit_109 (by decide) ?_
          obtain ⟨x8_36, ex8_36, hf⟩ := yb_let_ex hf
          refine lv_iinc (v := x8_36) (lv' := [(8, .int x8_36), (9, .int r_28), (0, .ref mb), (1, .int x1), (2, .int x2), (3, .int x3), (4, .int x4), (5, .int x5), (6, .int x6), (7, .int x7)]) hx hb dX12_commit_120 hl (k := 9) rfl (by rw [ex8_36]; rfl) (by decide) rfl (fun ls hl => ?_)
          refine lv_goto (tgt := 72) hx hb dX12_commit_123 (by decide) ?_
          exact ih _ _ _ _ _ _ _ _ _ _ _ hf hw (lv_sub hl [2, 3, 4, 5, 6, 7, 8, 9, 0] rfl) hexit
set_option maxHeartbeats 4000000 in
set_option maxRecDepth 100000 in
theorem c12_commit (l : Launch) (D : va_G) (cz : Nat → ClassId) (ev : Nat × Nat × Nat) (mb : Nat) {N : Nat} {x1 : Int32} {x2 : Int32} {x3 : Int32} {x4 : Int32} {x5 : Int32} {I : IT} {J : JT} {r : Int32} {I1 : IT} {J1 : JT} (hf : f12_commit N mb x1 x2 x3 x4 x5 I J = some (r, I1, J1)) : MTi l D cz ev yX12_commit cX12_commit 10 (some .int) 5 133 [.ref mb, .int x1, .int x2, .int x3, .int x4, .int x5] (mlL mb) (mlS mb) (mlR mb) I J r I1 J1 := by
  unfold f12_commit at hf
  refine MTi_of (by decide) (Nat.le_of_ble_eq_true rfl) ?_
  intro p e s m args below meth c Q ls X hK hw hl hfin
  have X : CallFix p m c cX12_commit 10 s args gw RX12 := X
  have hx := X.1
  have hb := X.2.1
  have hl : lv_has ls 10 [(0, .ref mb), (1, .int x1), (2, .int x2), (3, .int x3), (4, .int x4), (5, .int x5)] := hl
  refine lv_aload_n hx hb dX12_commit_0 rfl (lv_at hl 0 rfl) ?_
  refine lv_iload_n hx hb dX12_commit_1 rfl (lv_at hl 1 rfl) ?_
  obtain ⟨r_1, I_2, J_3, hq_4, hf⟩ := yb_b3_some hf
  refine x_calli X hK hw (c12_isPerson l D cz ev mb hq_4) (ml_mem0 mb) (ml_S0 mb) cpX12.1 vw_X12_341 ⟨Nat.le_of_ble_eq_true rfl, Nat.le_of_ble_eq_true rfl⟩ rfl rfl (Nat.le_of_ble_eq_true rfl) hl.1 ⟨Nat.le_refl _, Nat.le_refl _⟩ dX12_commit_2 (fun H locs hw => ?_)
  refine lv_if_eq (tgt := 56) hx hb dX12_commit_5 (by decide) (fun c_5 => ?_) (fun c_5 => ?_)
  · have hf := yb_pos c_5 hf
    refine lv_iconst (v := (-1 : Int32)) hx hb dX12_commit_56 (by decide) ?_
    exact yb_reti hfin hf hw dX12_commit_57
  · have hf := yb_neg c_5 hf
    refine lv_iload_n hx hb dX12_commit_8 rfl (lv_at hl 2 rfl) ?_
    refine lv_i2l hx hb dX12_commit_9 rfl ?_
    refine lv_lconst (v := (1 : Int64)) hx hb dX12_commit_10 (by decide) ?_
    refine lv_ldc2 (v := (9 : Int64)) hx hb X.2.2.2.1 (X.2.2.2.2 _ tw_1622) dX12_commit_11 ?_
    obtain ⟨r_6, I_7, J_8, hq_9, hf⟩ := yb_b3_some hf
    refine x_callsi X hK hw (c12_in l D cz ev mb hq_9) sw_X12_142 ⟨Nat.le_of_ble_eq_true rfl, Nat.le_of_ble_eq_true rfl⟩ rfl rfl (Nat.le_of_ble_eq_true rfl) hl.1 ⟨Nat.le_refl _, Nat.le_refl _⟩ dX12_commit_14 (fun H locs hw => ?_)
    refine lv_if_eq (tgt := 56) hx hb dX12_commit_17 (by decide) (fun c_10 => ?_) (fun c_10 => ?_)
    · have hf := yb_pos c_10 hf
      refine lv_iconst (v := (-1 : Int32)) hx hb dX12_commit_56 (by decide) ?_
      exact yb_reti hfin hf hw dX12_commit_57
    · have hf := yb_neg c_10 hf
      refine lv_iload_n hx hb dX12_commit_20 rfl (lv_at hl 3 rfl) ?_
      refine lv_i2l hx hb dX12_commit_21 rfl ?_
      refine lv_lconst (v := (1 : Int64)) hx hb dX12_commit_22 (by decide) ?_
      refine lv_ldc2 (v := (9 : Int64)) hx hb X.2.2.2.1 (X.2.2.2.2 _ tw_1622) dX12_commit_23 ?_
      obtain ⟨r_11, I_12, J_13, hq_14, hf⟩ := yb_b3_some hf
      refine x_callsi X hK hw (c12_in l D cz ev mb hq_14) sw_X12_142 ⟨Nat.le_of_ble_eq_true rfl, Nat.le_of_ble_eq_true rfl⟩ rfl rfl (Nat.le_of_ble_eq_true rfl) hl.1 ⟨Nat.le_refl _, Nat.le_refl _⟩ dX12_commit_26 (fun H locs hw => ?_)
      refine lv_if_eq (tgt := 56) hx hb dX12_commit_29 (by decide) (fun c_15 => ?_) (fun c_15 => ?_)
      · have hf := yb_pos c_15 hf
        refine lv_iconst (v := (-1 : Int32)) hx hb dX12_commit_56 (by decide) ?_
        exact yb_reti hfin hf hw dX12_commit_57
      · have hf := yb_neg c_15 hf
        refine lv_iload hx hb dX12_commit_32 (lv_at hl 4 rfl) ?_
        refine lv_i2l hx hb dX12_commit_34 rfl ?_
        refine lv_lconst (v := (1 : Int64)) hx hb dX12_commit_35 (by decide) ?_
        refine lv_ldc2 (v := (60 : Int64)) hx hb X.2.2.2.1 (X.2.2.2.2 _ tw_1796) dX12_commit_36 ?_
        obtain ⟨r_16, I_17, J_18, hq_19, hf⟩ := yb_b3_some hf
        refine x_callsi X hK hw (c12_in l D cz ev mb hq_19) sw_X12_142 ⟨Nat.le_of_ble_eq_true rfl, Nat.le_of_ble_eq_true rfl⟩ rfl rfl (Nat.le_of_ble_eq_true rfl) hl.1 ⟨Nat.le_refl _, Nat.le_refl _⟩ dX12_commit_39 (fun H locs hw => ?_)
        refine lv_if_eq (tgt := 56) hx hb dX12_commit_42 (by decide) (fun c_20 => ?_) (fun c_20 => ?_)
        · have hf := yb_pos c_20 hf
          refine lv_iconst (v := (-1 : Int32)) hx hb dX12_commit_56 (by decide) ?_
          exact yb_reti hfin hf hw dX12_commit_57
        · have hf := yb_neg c_20 hf
          refine lv_iload hx hb dX12_commit_45 (lv_at hl 5 rfl) ?_
          refine lv_i2l hx hb dX12_commit_47 rfl ?_
          refine lv_lconst (v := (0 : Int64)) hx hb dX12_commit_48 (by decide) ?_
          refine lv_lconst (v := (1 : Int64)) hx hb dX12_commit_49 (by decide) ?_
          obtain ⟨r_21, I_22, J_23, hq_24, hf⟩ := yb_b3_some hf
          refine x_callsi X hK hw (c12_in l D cz ev mb hq_24) sw_X12_142 ⟨Nat.le_of_ble_eq_true rfl, Nat.le_of_ble_eq_true rfl⟩ rfl rfl (Nat.le_of_ble_eq_true rfl) hl.1 ⟨Nat.le_refl _, Nat.le_refl _⟩ dX12_commit_50 (fun H locs hw => ?_)
          refine lv_if_ne (tgt := 58) hx hb dX12_commit_53 (by decide) (fun c_25 => ?_) (fun c_25 => ?_)
          · have hf := yb_neg c_25 hf
            refine lv_iconst (v := (-1 : Int32)) hx hb dX12_commit_58 (by decide) ?_
            refine lv_istore (lv' := [(6, .int (-1 : Int32)), (0, .ref mb), (1, .int x1), (2, .int x2), (3, .int x3), (4, .int x4), (5, .int x5)]) hx hb dX12_commit_59 hl (by decide) rfl (fun ls hl => ?_)
            refine lv_iconst (v := (0 : Int32)) hx hb dX12_commit_61 (by decide) ?_
            refine lv_istore (lv' := [(7, .int (0 : Int32)), (6, .int (-1 : Int32)), (0, .ref mb), (1, .int x1), (2, .int x2), (3, .int x3), (4, .int x4), (5, .int x5)]) hx hb dX12_commit_62 hl (by decide) rfl (fun ls hl => ?_)
            refine lv_aload_n hx hb dX12_commit_64 rfl (lv_at hl 2 rfl) ?_
            refine x_getR X hK hw (ml_mem0 mb) (ml_S0 mb) cpX12 20 (by decide) rfl (ml_R mb 20 rfl) tw_1271 dX12_commit_65 ?_
            refine lv_iconst (v := (4 : Int32)) hx hb dX12_commit_68 (by decide) ?_
            refine x_iald X hK hw (ml_mem mb 10 (by decide)) (ml_S mb 10 rfl) (by decide) rfl dX12_commit_69 ?_
            refine lv_topi (fun x8_26 ex8_26 => ?_)
            have hf := yb_let_to ex8_26 hf
            refine lv_istore (lv' := [(8, .int x8_26), (7, .int (0 : Int32)), (6, .int (-1 : Int32)), (0, .ref mb), (1, .int x1), (2, .int x2), (3, .int x3), (4, .int x4), (5, .int x5)]) hx hb dX12_commit_70 hl (by decide) rfl (fun ls hl => ?_)
            obtain ⟨q_37, I_38, J_39, hq_40, hf⟩ := yb_b3_some hf
            refine w12_commit_L72 X hK _ _ _ _ _ _ _ _ _ _ _ _ hq_40 hw (lv_sub hl [3, 4, 5, 6, 7, 8, 2, 1, 0] rfl) (fun H locs ls hw hl => ?_)
            refine lv_iload hx hb dX12_commit_126 (lv_at hl 0 rfl) ?_
            refine lv_if_ne (tgt := 136) hx hb dX12_commit_128 (by decide) (fun c_41 => ?_) (fun c_41 => ?_)
            · have hf := yb_neg c_41 hf
              refine lv_iload hx hb dX12_commit_136 (lv_at hl 2 rfl) ?_
              exact yb_reti hfin hf hw dX12_commit_138
            · have hf := yb_pos c_41 hf
              refine lv_iload hx hb dX12_commit_131 (lv_at hl 1 rfl) ?_
              refine lv_goto (tgt := 138) hx hb dX12_commit_133 (by decide) ?_
              exact yb_reti hfin hf hw dX12_commit_138
          · have hf := yb_pos c_25 hf
            refine lv_iconst (v := (-1 : Int32)) hx hb dX12_commit_56 (by decide) ?_
            exact yb_reti hfin hf hw dX12_commit_57
set_option maxHeartbeats 4000000 in
set_option maxRecDepth 100000 in
theorem w12_isTried_L22 {p : Program} {l : Launch} {e : Env} {s : State} {m : MethodId} {args : Array Value} {below : List Frame} {meth : Method} {c : Code} {Q : State → Prop} {D : va_G} {cz : Nat → ClassId} {A : Nat → Prop} {ev : Nat × Nat × Nat} {mb : Nat} (X : CallFix p m c cX12_isTried 5 s args gw RX12) (hK : KX D cz ev A s) {N : Nat} {x1 : Int32} {x2 : Int32} {x3 : Int32} {rM : Int32} {IM : IT} {JM : JT} :
    ∀ (n : Nat) (x4 : Int32) (I : IT) (J : JT) (q : (Int32 ⊕ (Unit))) (I1 : IT) (J1 : JT) (H : Heap) (locs : List Loc) (ls : Array Slot), f12_isTried_L22 N mb x1 x2 x3 n x4 I J = some (q, I1, J1) → WX D cz A (mlL mb) (mlS mb) (mlR mb) s.heap I J H locs → lv_has ls 5 [(0, .ref mb), (1, .int x1), (2, .int x2), (3, .int x3), (4, .int x4)] →
    (∀ v, q = .inl v → some (v, I1, J1) = some (rM, IM, JM)) → (∀ (H : Heap) (locs : List Loc) (ls : Array Slot) (pc : Nat), bz rM = true → WX D cz A (mlL mb) (mlS mb) (mlR mb) s.heap IM JM H locs → decode cX12_isTried pc = .ok (.ireturn, 1) → W p l e (rmX 4 91) s m args below meth c H locs 0 0 Q (F0 m pc ls [.int rM])) →
    (∀ xq, q = .inr xq → ∀ (H : Heap) (locs : List Loc) (ls : Array Slot), WX D cz A (mlL mb) (mlS mb) (mlR mb) s.heap I1 J1 H locs → lv_has ls 5 [(0, .ref mb), (1, .int x1), (2, .int x2), (3, .int x3)] → W p l e (rmX 4 91) s m args below meth c H locs 0 0 Q (F0 m 53 ls [])) →
    W p l e (rmX 4 91) s m args below meth c H locs 0 0 Q (F0 m 22 ls []) := by
  have hx := X.1
  have hb := X.2.1
  intro n
  induction n with
  | zero =>
    intro x4 I J q I1 J1 H locs ls hf
    rw [f12_isTried_L22] at hf
    cases hf
  | succ n ih =>
    intro x4 I J q I1 J1 H locs ls hf hw hl hret hfin hexit
    rw [f12_isTried_L22] at hf
    refine lv_iload hx hb dX12_isTried_22 (lv_at hl 4 rfl) ?_
    refine lv_aload_n hx hb dX12_isTried_24 rfl (lv_at hl 0 rfl) ?_
    refine x_getR X hK hw (ml_mem0 mb) (ml_S0 mb) cpX12 20 (by decide) rfl (ml_R mb 20 rfl) tw_1271 dX12_isTried_25 ?_
    refine lv_iconst (v := (2 : Int32)) hx hb dX12_isTried_28 (by decide) ?_
    refine x_iald X hK hw (ml_mem mb 10 (by decide)) (ml_S mb 10 rfl) (by decide) rfl dX12_isTried_29 ?_
    refine lv_icmp_ge (tgt := 53) hx hb dX12_isTried_30 (by decide) (fun c_3 => ?_) (fun c_3 => ?_)
    · have hf := yb_pos c_3 hf
      obtain ⟨rfl, rfl, rfl⟩ := yb_inj hf
      exact hexit _ rfl _ _ _ hw (lv_sub hl [0, 1, 2, 3] rfl)
    · have hf := yb_neg c_3 hf
      refine lv_aload_n hx hb dX12_isTried_33 rfl (lv_at hl 0 rfl) ?_
      refine lv_iload hx hb dX12_isTried_34 (lv_at hl 4 rfl) ?_
      refine lv_iload_n hx hb dX12_isTried_36 rfl (lv_at hl 1 rfl) ?_
      refine lv_iconst (v := (1 : Int32)) hx hb dX12_isTried_37 (by decide) ?_
      refine lv_iload_n hx hb dX12_isTried_38 rfl (lv_at hl 3 rfl) ?_
      obtain ⟨r_4, I_5, J_6, hq_7, hf⟩ := yb_b3_some hf
      refine x_calli X hK hw (c12_canSit l D cz ev mb hq_7) (ml_mem0 mb) (ml_S0 mb) cpX12.1 vw_X12_334 ⟨Nat.le_of_ble_eq_true rfl, Nat.le_of_ble_eq_true rfl⟩ rfl rfl (Nat.le_of_ble_eq_true rfl) hl.1 ⟨Nat.le_refl _, Nat.le_refl _⟩ dX12_isTried_39 (fun H locs hw => ?_)
      refine lv_if_eq (tgt := 47) hx hb dX12_isTried_42 (by decide) (fun c_8 => ?_) (fun c_8 => ?_)
      · have hf := yb_pos c_8 hf
        obtain ⟨x4_9, ex4_9, hf⟩ := yb_let_ex hf
        refine lv_iinc (v := x4_9) (lv' := [(4, .int x4_9), (0, .ref mb), (1, .int x1), (2, .int x2), (3, .int x3)]) hx hb dX12_isTried_47 hl (k := 4) rfl (by rw [ex4_9]; rfl) (by decide) rfl (fun ls hl => ?_)
        refine lv_goto (tgt := 22) hx hb dX12_isTried_50 (by decide) ?_
        exact ih _ _ _ _ _ _ _ _ _ hf hw (lv_sub hl [1, 2, 3, 4, 0] rfl) hret hfin hexit
      · have hf := yb_neg c_8 hf
        refine lv_iconst (v := (1 : Int32)) hx hb dX12_isTried_45 (by decide) ?_
        exact yb_retz hfin (by decide) (yb_inl hret hf) hw dX12_isTried_46
set_option maxHeartbeats 4000000 in
set_option maxRecDepth 100000 in
theorem w12_isTried_L7 {p : Program} {l : Launch} {e : Env} {s : State} {m : MethodId} {args : Array Value} {below : List Frame} {meth : Method} {c : Code} {Q : State → Prop} {D : va_G} {cz : Nat → ClassId} {A : Nat → Prop} {ev : Nat × Nat × Nat} {mb : Nat} (X : CallFix p m c cX12_isTried 5 s args gw RX12) (hK : KX D cz ev A s) {N : Nat} {x1 : Int32} {x2 : Int32} {rM : Int32} {IM : IT} {JM : JT} :
    ∀ (n : Nat) (x3 : Int32) (I : IT) (J : JT) (q : (Int32 ⊕ (Unit))) (I1 : IT) (J1 : JT) (H : Heap) (locs : List Loc) (ls : Array Slot), f12_isTried_L7 N mb x1 x2 n x3 I J = some (q, I1, J1) → WX D cz A (mlL mb) (mlS mb) (mlR mb) s.heap I J H locs → lv_has ls 5 [(0, .ref mb), (1, .int x1), (2, .int x2), (3, .int x3)] →
    (∀ v, q = .inl v → some (v, I1, J1) = some (rM, IM, JM)) → (∀ (H : Heap) (locs : List Loc) (ls : Array Slot) (pc : Nat), bz rM = true → WX D cz A (mlL mb) (mlS mb) (mlR mb) s.heap IM JM H locs → decode cX12_isTried pc = .ok (.ireturn, 1) → W p l e (rmX 4 91) s m args below meth c H locs 0 0 Q (F0 m pc ls [.int rM])) →
    (∀ xq, q = .inr xq → ∀ (H : Heap) (locs : List Loc) (ls : Array Slot), WX D cz A (mlL mb) (mlS mb) (mlR mb) s.heap I1 J1 H locs → lv_has ls 5 [] → W p l e (rmX 4 91) s m args below meth c H locs 0 0 Q (F0 m 59 ls [])) →
    W p l e (rmX 4 91) s m args below meth c H locs 0 0 Q (F0 m 7 ls []) := by
  have hx := X.1
  have hb := X.2.1
  intro n
  induction n with
  | zero =>
    intro x3 I J q I1 J1 H locs ls hf
    rw [f12_isTried_L7] at hf
    cases hf
  | succ n ih =>
    intro x3 I J q I1 J1 H locs ls hf hw hl hret hfin hexit
    rw [f12_isTried_L7] at hf
    refine lv_iload_n hx hb dX12_isTried_7 rfl (lv_at hl 3 rfl) ?_
    refine lv_aload_n hx hb dX12_isTried_8 rfl (lv_at hl 0 rfl) ?_
    refine x_getR X hK hw (ml_mem0 mb) (ml_S0 mb) cpX12 20 (by decide) rfl (ml_R mb 20 rfl) tw_1271 dX12_isTried_9 ?_
    refine lv_iconst (v := (4 : Int32)) hx hb dX12_isTried_12 (by decide) ?_
    refine x_iald X hK hw (ml_mem mb 10 (by decide)) (ml_S mb 10 rfl) (by decide) rfl dX12_isTried_13 ?_
    refine lv_iload_n hx hb dX12_isTried_14 rfl (lv_at hl 2 rfl) ?_
    refine lv_iadd hx hb dX12_isTried_15 ?_
    refine lv_icmp_ge (tgt := 59) hx hb dX12_isTried_16 (by decide) (fun c_2 => ?_) (fun c_2 => ?_)
    · have hf := yb_pos c_2 hf
      obtain ⟨rfl, rfl, rfl⟩ := yb_inj hf
      exact hexit _ rfl _ _ _ hw (lv_sub hl [] rfl)
    · have hf := yb_neg c_2 hf
      refine lv_iconst (v := (0 : Int32)) hx hb dX12_isTried_19 (by decide) ?_
      refine lv_istore (lv' := [(4, .int (0 : Int32)), (0, .ref mb), (1, .int x1), (2, .int x2), (3, .int x3)]) hx hb dX12_isTried_20 hl (by decide) rfl (fun ls hl => ?_)
      obtain ⟨q_10, I_11, J_12, hq_13, hf⟩ := yb_b3_some hf
      refine w12_isTried_L22 X hK _ _ _ _ _ _ _ _ _ _ hq_13 hw (lv_sub hl [1, 2, 3, 4, 0] rfl) (fun v hv => yb_inl hret (by rw [hv] at hf; exact hf)) hfin (fun x_15 hx1 H locs ls hw hl => ?_)
      rw [hx1] at hf
      have hf := yb_sm_r hf
      obtain ⟨x3_16, ex3_16, hf⟩ := yb_let_ex hf
      refine lv_iinc (v := x3_16) (lv' := [(3, .int x3_16), (0, .ref mb), (1, .int x1), (2, .int x2)]) hx hb dX12_isTried_53 hl (k := 3) rfl (by rw [ex3_16]; rfl) (by decide) rfl (fun ls hl => ?_)
      refine lv_goto (tgt := 7) hx hb dX12_isTried_56 (by decide) ?_
      exact ih _ _ _ _ _ _ _ _ _ hf hw (lv_sub hl [1, 2, 3, 0] rfl) hret hfin hexit
set_option maxHeartbeats 4000000 in
set_option maxRecDepth 100000 in
theorem c12_isTried (l : Launch) (D : va_G) (cz : Nat → ClassId) (ev : Nat × Nat × Nat) (mb : Nat) {N : Nat} {x1 : Int32} {x2 : Int32} {I : IT} {J : JT} {r : Int32} {I1 : IT} {J1 : JT} (hf : f12_isTried N mb x1 x2 I J = some (r, I1, J1)) : MTi l D cz ev yX12_isTried cX12_isTried 5 (some .boolean) 4 91 [.ref mb, .int x1, .int x2] (mlL mb) (mlS mb) (mlR mb) I J r I1 J1 := by
  unfold f12_isTried at hf
  refine MTz_of (by decide) (Nat.le_of_ble_eq_true rfl) ?_
  intro p e s m args below meth c Q ls X hK hw hl hfin
  have X : CallFix p m c cX12_isTried 5 s args gw RX12 := X
  have hx := X.1
  have hb := X.2.1
  have hl : lv_has ls 5 [(0, .ref mb), (1, .int x1), (2, .int x2)] := hl
  refine lv_aload_n hx hb dX12_isTried_0 rfl (lv_at hl 0 rfl) ?_
  refine x_getR X hK hw (ml_mem0 mb) (ml_S0 mb) cpX12 20 (by decide) rfl (ml_R mb 20 rfl) tw_1271 dX12_isTried_1 ?_
  refine lv_iconst (v := (4 : Int32)) hx hb dX12_isTried_4 (by decide) ?_
  refine x_iald X hK hw (ml_mem mb 10 (by decide)) (ml_S mb 10 rfl) (by decide) rfl dX12_isTried_5 ?_
  refine lv_topi (fun x3_1 ex3_1 => ?_)
  have hf := yb_let_to ex3_1 hf
  refine lv_istore_n (lv' := [(3, .int x3_1), (0, .ref mb), (1, .int x1), (2, .int x2)]) hx hb dX12_isTried_6 rfl hl (by decide) rfl (fun ls hl => ?_)
  obtain ⟨q_17, I_18, J_19, hq_20, hf⟩ := yb_b3_some hf
  refine w12_isTried_L7 X hK _ _ _ _ _ _ _ _ _ _ hq_20 hw (lv_sub hl [1, 2, 3, 0] rfl) (fun v hv => by rw [hv] at hf; exact hf) hfin (fun x_22 hx1 H locs ls hw hl => ?_)
  rw [hx1] at hf
  have hf := yb_sm_r hf
  refine lv_iconst (v := (0 : Int32)) hx hb dX12_isTried_59 (by decide) ?_
  exact yb_retz hfin (by decide) hf hw dX12_isTried_60
set_option maxHeartbeats 4000000 in
set_option maxRecDepth 100000 in
theorem w12_above_L25 {p : Program} {l : Launch} {e : Env} {s : State} {m : MethodId} {args : Array Value} {below : List Frame} {meth : Method} {c : Code} {Q : State → Prop} {D : va_G} {cz : Nat → ClassId} {A : Nat → Prop} {ev : Nat × Nat × Nat} {mb : Nat} (X : CallFix p m c cX12_above 4 s args gw RX12) (hK : KX D cz ev A s) {N : Nat} {x1 : Int32} :
    ∀ (n : Nat) (x2 : Int32) (x3 : Int32) (I : IT) (J : JT) (q : (Int32)) (I1 : IT) (J1 : JT) (H : Heap) (locs : List Loc) (ls : Array Slot), f12_above_L25 N mb x1 n x2 x3 I J = some (q, I1, J1) → WX D cz A (mlL mb) (mlS mb) (mlR mb) s.heap I J H locs → lv_has ls 4 [(0, .ref mb), (1, .int x1), (2, .int x2), (3, .int x3)] →
    (∀ (H : Heap) (locs : List Loc) (ls : Array Slot), WX D cz A (mlL mb) (mlS mb) (mlR mb) s.heap I1 J1 H locs → lv_has ls 4 [(2, .int q)] → W p l e (rmX 5 115) s m args below meth c H locs 0 0 Q (F0 m 60 ls [])) →
    W p l e (rmX 5 115) s m args below meth c H locs 0 0 Q (F0 m 25 ls []) := by
  have hx := X.1
  have hb := X.2.1
  intro n
  induction n with
  | zero =>
    intro x2 x3 I J q I1 J1 H locs ls hf
    rw [f12_above_L25] at hf
    cases hf
  | succ n ih =>
    intro x2 x3 I J q I1 J1 H locs ls hf hw hl hexit
    rw [f12_above_L25] at hf
    refine lv_iload_n hx hb dX12_above_25 rfl (lv_at hl 3 rfl) ?_
    refine lv_aload_n hx hb dX12_above_26 rfl (lv_at hl 0 rfl) ?_
    refine x_getR X hK hw (ml_mem0 mb) (ml_S0 mb) cpX12 20 (by decide) rfl (ml_R mb 20 rfl) tw_1271 dX12_above_27 ?_
    refine lv_iconst (v := (2 : Int32)) hx hb dX12_above_30 (by decide) ?_
    refine x_iald X hK hw (ml_mem mb 10 (by decide)) (ml_S mb 10 rfl) (by decide) rfl dX12_above_31 ?_
    refine lv_icmp_ge (tgt := 60) hx hb dX12_above_32 (by decide) (fun c_11 => ?_) (fun c_11 => ?_)
    · have hf := yb_pos c_11 hf
      obtain ⟨rfl, rfl, rfl⟩ := yb_inj hf
      exact hexit _ _ _ hw (lv_sub hl [2] rfl)
    · have hf := yb_neg c_11 hf
      refine lv_iload_n hx hb dX12_above_35 rfl (lv_at hl 2 rfl) ?_
      refine lv_aload_n hx hb dX12_above_36 rfl (lv_at hl 0 rfl) ?_
      refine lv_iload_n hx hb dX12_above_37 rfl (lv_at hl 3 rfl) ?_
      refine lv_iload_n hx hb dX12_above_38 rfl (lv_at hl 1 rfl) ?_
      obtain ⟨r_12, I_13, J_14, hq_15, hf⟩ := yb_b3_some hf
      refine x_calli X hK hw (c12_isTried l D cz ev mb hq_15) (ml_mem0 mb) (ml_S0 mb) cpX12.1 vw_X12_459 ⟨Nat.le_of_ble_eq_true rfl, Nat.le_of_ble_eq_true rfl⟩ rfl rfl (Nat.le_of_ble_eq_true rfl) hl.1 ⟨Nat.le_refl _, Nat.le_refl _⟩ dX12_above_39 (fun H locs hw => ?_)
      refine lv_if_eq (tgt := 49) hx hb dX12_above_42 (by decide) (fun c_16 => ?_) (fun c_16 => ?_)
      · have hf := yb_pos c_16 hf
        refine lv_iconst (v := (1 : Int32)) hx hb dX12_above_49 (by decide) ?_
        refine lv_iload_n hx hb dX12_above_50 rfl (lv_at hl 3 rfl) ?_
        refine lv_ishl hx hb dX12_above_51 ?_
        refine lv_ior hx hb dX12_above_52 ?_
        refine lv_topi (fun x2_17 ex2_17 => ?_)
        have hf := yb_let_to ex2_17 hf
        refine lv_istore_n (lv' := [(2, .int x2_17), (0, .ref mb), (1, .int x1), (3, .int x3)]) hx hb dX12_above_53 rfl hl (by decide) rfl (fun ls hl => ?_)
        obtain ⟨x3_18, ex3_18, hf⟩ := yb_let_ex hf
        refine lv_iinc (v := x3_18) (lv' := [(3, .int x3_18), (2, .int x2_17), (0, .ref mb), (1, .int x1)]) hx hb dX12_above_54 hl (k := 3) rfl (by rw [ex3_18]; rfl) (by decide) rfl (fun ls hl => ?_)
        refine lv_goto (tgt := 25) hx hb dX12_above_57 (by decide) ?_
        exact ih _ _ _ _ _ _ _ _ _ _ hf hw (lv_sub hl [2, 3, 1, 0] rfl) hexit
      · have hf := yb_neg c_16 hf
        refine lv_iconst (v := (0 : Int32)) hx hb dX12_above_45 (by decide) ?_
        refine lv_goto (tgt := 52) hx hb dX12_above_46 (by decide) ?_
        refine lv_ior hx hb dX12_above_52 ?_
        refine lv_topi (fun x2_19 ex2_19 => ?_)
        have hf := yb_let_to ex2_19 hf
        refine lv_istore_n (lv' := [(2, .int x2_19), (0, .ref mb), (1, .int x1), (3, .int x3)]) hx hb dX12_above_53 rfl hl (by decide) rfl (fun ls hl => ?_)
        obtain ⟨x3_20, ex3_20, hf⟩ := yb_let_ex hf
        refine lv_iinc (v := x3_20) (lv' := [(3, .int x3_20), (2, .int x2_19), (0, .ref mb), (1, .int x1)]) hx hb dX12_above_54 hl (k := 3) rfl (by rw [ex3_20]; rfl) (by decide) rfl (fun ls hl => ?_)
        refine lv_goto (tgt := 25) hx hb dX12_above_57 (by decide) ?_
        exact ih _ _ _ _ _ _ _ _ _ _ hf hw (lv_sub hl [2, 3, 1, 0] rfl) hexit
set_option maxHeartbeats 4000000 in
set_option maxRecDepth 100000 in
theorem c12_above (l : Launch) (D : va_G) (cz : Nat → ClassId) (ev : Nat × Nat × Nat) (mb : Nat) {N : Nat} {x1 : Int32} {I : IT} {J : JT} {r : Int32} {I1 : IT} {J1 : JT} (hf : f12_above N mb x1 I J = some (r, I1, J1)) : MTi l D cz ev yX12_above cX12_above 4 (some .int) 5 115 [.ref mb, .int x1] (mlL mb) (mlS mb) (mlR mb) I J r I1 J1 := by
  unfold f12_above at hf
  refine MTi_of (by decide) (Nat.le_of_ble_eq_true rfl) ?_
  intro p e s m args below meth c Q ls X hK hw hl hfin
  have X : CallFix p m c cX12_above 4 s args gw RX12 := X
  have hx := X.1
  have hb := X.2.1
  have hl : lv_has ls 4 [(0, .ref mb), (1, .int x1)] := hl
  refine lv_aload_n hx hb dX12_above_0 rfl (lv_at hl 0 rfl) ?_
  obtain ⟨r_1, I_2, J_3, hq_4, hf⟩ := yb_b3_some hf
  refine x_calli X hK hw (c12_isTown l D cz ev mb hq_4) (ml_mem0 mb) (ml_S0 mb) cpX12.1 vw_X12_380 ⟨Nat.le_of_ble_eq_true rfl, Nat.le_of_ble_eq_true rfl⟩ rfl rfl (Nat.le_of_ble_eq_true rfl) hl.1 ⟨Nat.le_refl _, Nat.le_refl _⟩ dX12_above_1 (fun H locs hw => ?_)
  refine lv_if_eq (tgt := 19) hx hb dX12_above_4 (by decide) (fun c_5 => ?_) (fun c_5 => ?_)
  · have hf := yb_pos c_5 hf
    refine lv_iconst (v := (-1 : Int32)) hx hb dX12_above_19 (by decide) ?_
    exact yb_reti hfin hf hw dX12_above_20
  · have hf := yb_neg c_5 hf
    refine lv_iload_n hx hb dX12_above_7 rfl (lv_at hl 1 rfl) ?_
    refine lv_i2l hx hb dX12_above_8 rfl ?_
    refine lv_lconst (v := (1 : Int64)) hx hb dX12_above_9 (by decide) ?_
    refine lv_ldc2 (v := (60 : Int64)) hx hb X.2.2.2.1 (X.2.2.2.2 _ tw_1796) dX12_above_10 ?_
    obtain ⟨r_6, I_7, J_8, hq_9, hf⟩ := yb_b3_some hf
    refine x_callsi X hK hw (c12_in l D cz ev mb hq_9) sw_X12_142 ⟨Nat.le_of_ble_eq_true rfl, Nat.le_of_ble_eq_true rfl⟩ rfl rfl (Nat.le_of_ble_eq_true rfl) hl.1 ⟨Nat.le_refl _, Nat.le_refl _⟩ dX12_above_13 (fun H locs hw => ?_)
    refine lv_if_ne (tgt := 21) hx hb dX12_above_16 (by decide) (fun c_10 => ?_) (fun c_10 => ?_)
    · have hf := yb_neg c_10 hf
      refine lv_iconst (v := (0 : Int32)) hx hb dX12_above_21 (by decide) ?_
      refine lv_istore_n (lv' := [(2, .int (0 : Int32)), (0, .ref mb), (1, .int x1)]) hx hb dX12_above_22 rfl hl (by decide) rfl (fun ls hl => ?_)
      refine lv_iconst (v := (0 : Int32)) hx hb dX12_above_23 (by decide) ?_
      refine lv_istore_n (lv' := [(3, .int (0 : Int32)), (2, .int (0 : Int32)), (0, .ref mb), (1, .int x1)]) hx hb dX12_above_24 rfl hl (by decide) rfl (fun ls hl => ?_)
      obtain ⟨q_21, I_22, J_23, hq_24, hf⟩ := yb_b3_some hf
      refine w12_above_L25 X hK _ _ _ _ _ _ _ _ _ _ _ hq_24 hw (lv_sub hl [2, 3, 1, 0] rfl) (fun H locs ls hw hl => ?_)
      refine lv_iload_n hx hb dX12_above_60 rfl (lv_at hl 0 rfl) ?_
      exact yb_reti hfin hf hw dX12_above_61
    · have hf := yb_pos c_10 hf
      refine lv_iconst (v := (-1 : Int32)) hx hb dX12_above_19 (by decide) ?_
      exact yb_reti hfin hf hw dX12_above_20
set_option maxHeartbeats 4000000 in
set_option maxRecDepth 100000 in
theorem w12_clement_L32 {p : Program} {l : Launch} {e : Env} {s : State} {m : MethodId} {args : Array Value} {below : List Frame} {meth : Method} {c : Code} {Q : State → Prop} {D : va_G} {cz : Nat → ClassId} {A : Nat → Prop} {ev : Nat × Nat × Nat} {mb : Nat} (X : CallFix p m c cX12_clement 7 s args gw RX12) (hK : KX D cz ev A s) {N : Nat} {x1 : Int32} {x2 : Int32} :
    ∀ (n : Nat) (x3 : Int32) (x4 : Int32) (x5 : Int32) (I : IT) (J : JT) (q : (Int32 × Int32)) (I1 : IT) (J1 : JT) (H : Heap) (locs : List Loc) (ls : Array Slot), f12_clement_L32 N mb x1 x2 n x3 x4 x5 I J = some (q, I1, J1) → WX D cz A (mlL mb) (mlS mb) (mlR mb) s.heap I J H locs → lv_has ls 7 [(0, .ref mb), (1, .int x1), (2, .int x2), (3, .int x3), (4, .int x4), (5, .int x5)] →
    (∀ (H : Heap) (locs : List Loc) (ls : Array Slot), WX D cz A (mlL mb) (mlS mb) (mlR mb) s.heap I1 J1 H locs → lv_has ls 7 [(0, .ref mb), (1, .int x1), (2, .int x2), (3, .int q.1), (4, .int q.2)] → W p l e (rmX 5 129) s m args below meth c H locs 0 0 Q (F0 m 134 ls [])) →
    W p l e (rmX 5 129) s m args below meth c H locs 0 0 Q (F0 m 32 ls []) := by
  have hx := X.1
  have hb := X.2.1
  intro n
  induction n with
  | zero =>
    intro x3 x4 x5 I J q I1 J1 H locs ls hf
    rw [f12_clement_L32] at hf
    cases hf
  | succ n ih =>
    intro x3 x4 x5 I J q I1 J1 H locs ls hf hw hl hexit
    rw [f12_clement_L32] at hf
    refine lv_iload hx hb dX12_clement_32 (lv_at hl 5 rfl) ?_
    refine lv_aload_n hx hb dX12_clement_34 rfl (lv_at hl 0 rfl) ?_
    refine x_getR X hK hw (ml_mem0 mb) (ml_S0 mb) cpX12 20 (by decide) rfl (ml_R mb 20 rfl) tw_1271 dX12_clement_35 ?_
    refine lv_iconst (v := (2 : Int32)) hx hb dX12_clement_38 (by decide) ?_
    refine x_iald X hK hw (ml_mem mb 10 (by decide)) (ml_S mb 10 rfl) (by decide) rfl dX12_clement_39 ?_
    refine lv_icmp_ge (tgt := 134) hx hb dX12_clement_40 (by decide) (fun c_11 => ?_) (fun c_11 => ?_)
    · have hf := yb_pos c_11 hf
      obtain ⟨rfl, rfl, rfl⟩ := yb_inj hf
      exact hexit _ _ _ hw (lv_sub hl [0, 1, 2, 3, 4] rfl)
    · have hf := yb_neg c_11 hf
      refine lv_aload_n hx hb dX12_clement_43 rfl (lv_at hl 0 rfl) ?_
      refine lv_iload_n hx hb dX12_clement_44 rfl (lv_at hl 1 rfl) ?_
      refine lv_iload hx hb dX12_clement_45 (lv_at hl 5 rfl) ?_
      refine lv_aload_n hx hb dX12_clement_47 rfl (lv_at hl 0 rfl) ?_
      refine x_getR X hK hw (ml_mem0 mb) (ml_S0 mb) cpX12 20 (by decide) rfl (ml_R mb 20 rfl) tw_1271 dX12_clement_48 ?_
      refine lv_iconst (v := (4 : Int32)) hx hb dX12_clement_51 (by decide) ?_
      refine x_iald X hK hw (ml_mem mb 10 (by decide)) (ml_S mb 10 rfl) (by decide) rfl dX12_clement_52 ?_
      obtain ⟨r_12, I_13, J_14, hq_15, hf⟩ := yb_b3_some hf
      refine x_calli X hK hw (c12_canHear l D cz ev mb hq_15) (ml_mem0 mb) (ml_S0 mb) cpX12.1 vw_X12_354 ⟨Nat.le_of_ble_eq_true rfl, Nat.le_of_ble_eq_true rfl⟩ rfl rfl (Nat.le_of_ble_eq_true rfl) hl.1 ⟨Nat.le_refl _, Nat.le_refl _⟩ dX12_clement_53 (fun H locs hw => ?_)
      refine lv_if_ne (tgt := 62) hx hb dX12_clement_56 (by decide) (fun c_16 => ?_) (fun c_16 => ?_)
      · have hf := yb_neg c_16 hf
        refine lv_aload_n hx hb dX12_clement_62 rfl (lv_at hl 0 rfl) ?_
        refine lv_iload_n hx hb dX12_clement_63 rfl (lv_at hl 1 rfl) ?_
        refine lv_iload hx hb dX12_clement_64 (lv_at hl 5 rfl) ?_
        refine lv_aload_n hx hb dX12_clement_66 rfl (lv_at hl 0 rfl) ?_
        refine x_getR X hK hw (ml_mem0 mb) (ml_S0 mb) cpX12 20 (by decide) rfl (ml_R mb 20 rfl) tw_1271 dX12_clement_67 ?_
        refine lv_iconst (v := (4 : Int32)) hx hb dX12_clement_70 (by decide) ?_
        refine x_iald X hK hw (ml_mem mb 10 (by decide)) (ml_S mb 10 rfl) (by decide) rfl dX12_clement_71 ?_
        obtain ⟨r_17, I_18, J_19, hq_20, hf⟩ := yb_b3_some hf
        refine x_calli X hK hw (c12_rightOf l D cz ev mb hq_20) (ml_mem0 mb) (ml_S0 mb) cpX12.1 vw_X12_373 ⟨Nat.le_of_ble_eq_true rfl, Nat.le_of_ble_eq_true rfl⟩ rfl rfl (Nat.le_of_ble_eq_true rfl) hl.1 ⟨Nat.le_refl _, Nat.le_refl _⟩ dX12_clement_72 (fun H locs hw => ?_)
        refine lv_istore (lv' := [(6, .int r_17), (0, .ref mb), (1, .int x1), (2, .int x2), (3, .int x3), (4, .int x4), (5, .int x5)]) hx hb dX12_clement_75 hl (by decide) rfl (fun ls hl => ?_)
        refine lv_iload_n hx hb dX12_clement_77 rfl (lv_at hl 4 rfl) ?_
        refine lv_if_lt (tgt := 98) hx hb dX12_clement_78 (by decide) (fun c_21 => ?_) (fun c_21 => ?_)
        · have hf := yb_pos c_21 hf
          refine lv_iload hx hb dX12_clement_98 (lv_at hl 6 rfl) ?_
          refine lv_istore_n (lv' := [(3, .int x5), (6, .int r_17), (0, .ref mb), (1, .int x1), (2, .int x2), (4, .int x4), (5, .int x5)]) hx hb dX12_clement_100 rfl hl (by decide) rfl (fun ls hl => ?_)
          refine lv_iload hx hb dX12_clement_101 (lv_at hl 5 rfl) ?_
          refine lv_if_lt (tgt := 124) hx hb dX12_clement_103 (by decide) (fun c_22 => ?_) (fun c_22 => ?_)
          · have hf := yb_pos c_22 hf
            refine lv_iload hx hb dX12_clement_124 (lv_at hl 6 rfl) ?_
            refine lv_istore (lv' := [(4, .int x5), (3, .int x5), (6, .int r_17), (0, .ref mb), (1, .int x1), (2, .int x2), (5, .int x5)]) hx hb dX12_clement_126 hl (by decide) rfl (fun ls hl => ?_)
            obtain ⟨x5_23, ex5_23, hf⟩ := yb_let_ex hf
            refine lv_iinc (v := x5_23) (lv' := [(5, .int x5_23), (4, .int x5), (3, .int x5), (6, .int r_17), (0, .ref mb), (1, .int x1), (2, .int x2)]) hx hb dX12_clement_128 hl (k := 6) rfl (by rw [ex5_23]; rfl) (by decide) rfl (fun ls hl => ?_)
            refine lv_goto (tgt := 32) hx hb dX12_clement_131 (by decide) ?_
            exact ih _ _ _ _ _ _ _ _ _ _ _ hf hw (lv_sub hl [4, 5, 6, 2, 1, 0] rfl) hexit
          · have hf := yb_neg c_22 hf
            refine lv_iload hx hb dX12_clement_106 (lv_at hl 1 rfl) ?_
            refine lv_aload_n hx hb dX12_clement_108 rfl (lv_at hl 2 rfl) ?_
            refine lv_iload_n hx hb dX12_clement_109 rfl (lv_at hl 3 rfl) ?_
            refine lv_iload hx hb dX12_clement_110 (lv_at hl 5 rfl) ?_
            refine lv_aload_n hx hb dX12_clement_112 rfl (lv_at hl 2 rfl) ?_
            refine x_getR X hK hw (ml_mem0 mb) (ml_S0 mb) cpX12 20 (by decide) rfl (ml_R mb 20 rfl) tw_1271 dX12_clement_113 ?_
            refine lv_iconst (v := (4 : Int32)) hx hb dX12_clement_116 (by decide) ?_
            refine x_iald X hK hw (ml_mem mb 10 (by decide)) (ml_S mb 10 rfl) (by decide) rfl dX12_clement_117 ?_
            obtain ⟨r_24, I_25, J_26, hq_27, hf⟩ := yb_b3_some hf
            refine x_calli X hK hw (c12_rightOf l D cz ev mb hq_27) (ml_mem0 mb) (ml_S0 mb) cpX12.1 vw_X12_373 ⟨Nat.le_of_ble_eq_true rfl, Nat.le_of_ble_eq_true rfl⟩ rfl rfl (Nat.le_of_ble_eq_true rfl) hl.1 ⟨Nat.le_refl _, Nat.le_refl _⟩ dX12_clement_118 (fun H locs hw => ?_)
            refine lv_icmp_le (tgt := 128) hx hb dX12_clement_121 (by decide) (fun c_28 => ?_) (fun c_28 => ?_)
            · have hf := yb_pos c_28 hf
              obtain ⟨x5_29, ex5_29, hf⟩ := yb_let_ex hf
              refine lv_iinc (v := x5_29) (lv' := [(5, .int x5_29), (3, .int x5), (6, .int r_17), (0, .ref mb), (1, .int x1), (2, .int x2), (4, .int x4)]) hx hb dX12_clement_128 hl (k := 6) rfl (by rw [ex5_29]; rfl) (by decide) rfl (fun ls hl => ?_)
              refine lv_goto (tgt := 32) hx hb dX12_clement_131 (by decide) ?_
              exact ih _ _ _ _ _ _ _ _ _ _ _ hf hw (lv_sub hl [3, 4, 5, 1, 6, 0] rfl) hexit
            · have hf := yb_neg c_28 hf
              refine lv_iload hx hb dX12_clement_124 (lv_at hl 6 rfl) ?_
              refine lv_istore (lv' := [(4, .int x5), (3, .int x5), (6, .int r_17), (0, .ref mb), (1, .int x1), (2, .int x2), (5, .int x5)]) hx hb dX12_clement_126 hl (by decide) rfl (fun ls hl => ?_)
              obtain ⟨x5_30, ex5_30, hf⟩ := yb_let_ex hf
              refine lv_iinc (v := x5_30) (lv' := [(5, .int x5_30), (4, .int x5), (3, .int x5), (6, .int r_17), (0, .ref mb), (1, .int x1), (2, .int x2)]) hx hb dX12_clement_128 hl (k := 6) rfl (by rw [ex5_30]; rfl) (by decide) rfl (fun ls hl => ?_)
              refine lv_goto (tgt := 32) hx hb dX12_clement_131 (by decide) ?_
              exact ih _ _ _ _ _ _ _ _ _ _ _ hf hw (lv_sub hl [4, 5, 6, 2, 1, 0] rfl) hexit
        · have hf := yb_neg c_21 hf
          refine lv_iload hx hb dX12_clement_81 (lv_at hl 0 rfl) ?_
          refine lv_aload_n hx hb dX12_clement_83 rfl (lv_at hl 1 rfl) ?_
          refine lv_iload_n hx hb dX12_clement_84 rfl (lv_at hl 2 rfl) ?_
          refine lv_iload_n hx hb dX12_clement_85 rfl (lv_at hl 4 rfl) ?_
          refine lv_aload_n hx hb dX12_clement_86 rfl (lv_at hl 1 rfl) ?_
          refine x_getR X hK hw (ml_mem0 mb) (ml_S0 mb) cpX12 20 (by decide) rfl (ml_R mb 20 rfl) tw_1271 dX12_clement_87 ?_
          refine lv_iconst (v := (4 : Int32)) hx hb dX12_clement_90 (by decide) ?_
          refine x_iald X hK hw (ml_mem mb 10 (by decide)) (ml_S mb 10 rfl) (by decide) rfl dX12_clement_91 ?_
          obtain ⟨r_31, I_32, J_33, hq_34, hf⟩ := yb_b3_some hf
          refine x_calli X hK hw (c12_rightOf l D cz ev mb hq_34) (ml_mem0 mb) (ml_S0 mb) cpX12.1 vw_X12_373 ⟨Nat.le_of_ble_eq_true rfl, Nat.le_of_ble_eq_true rfl⟩ rfl rfl (Nat.le_of_ble_eq_true rfl) hl.1 ⟨Nat.le_refl _, Nat.le_refl _⟩ dX12_clement_92 (fun H locs hw => ?_)
          refine lv_icmp_ge (tgt := 101) hx hb dX12_clement_95 (by decide) (fun c_35 => ?_) (fun c_35 => ?_)
          · have hf := yb_pos c_35 hf
            refine lv_iload hx hb dX12_clement_101 (lv_at hl 5 rfl) ?_
            refine lv_if_lt (tgt := 124) hx hb dX12_clement_103 (by decide) (fun c_36 => ?_) (fun c_36 => ?_)
            · have hf := yb_pos c_36 hf
              refine lv_iload hx hb dX12_clement_124 (lv_at hl 6 rfl) ?_
              refine lv_istore (lv' := [(4, .int x5), (6, .int r_17), (0, .ref mb), (1, .int x1), (2, .int x2), (3, .int x3), (5, .int x5)]) hx hb dX12_clement_126 hl (by decide) rfl (fun ls hl => ?_)
              obtain ⟨x5_37, ex5_37, hf⟩ := yb_let_ex hf
              refine lv_iinc (v := x5_37) (lv' := [(5, .int x5_37), (4, .int x5), (6, .int r_17), (0, .ref mb), (1, .int x1), (2, .int x2), (3, .int x3)]) hx hb dX12_clement_128 hl (k := 6) rfl (by rw [ex5_37]; rfl) (by decide) rfl (fun ls hl => ?_)
              refine lv_goto (tgt := 32) hx hb dX12_clement_131 (by decide) ?_
              exact ih _ _ _ _ _ _ _ _ _ _ _ hf hw (lv_sub hl [3, 4, 5, 6, 1, 0] rfl) hexit
            · have hf := yb_neg c_36 hf
              refine lv_iload hx hb dX12_clement_106 (lv_at hl 0 rfl) ?_
              refine lv_aload_n hx hb dX12_clement_108 rfl (lv_at hl 1 rfl) ?_
              refine lv_iload_n hx hb dX12_clement_109 rfl (lv_at hl 2 rfl) ?_
              refine lv_iload hx hb dX12_clement_110 (lv_at hl 5 rfl) ?_
              refine lv_aload_n hx hb dX12_clement_112 rfl (lv_at hl 1 rfl) ?_
              refine x_getR X hK hw (ml_mem0 mb) (ml_S0 mb) cpX12 20 (by decide) rfl (ml_R mb 20 rfl) tw_1271 dX12_clement_113 ?_
              refine lv_iconst (v := (4 : Int32)) hx hb dX12_clement_116 (by decide) ?_
              refine x_iald X hK hw (ml_mem mb 10 (by decide)) (ml_S mb 10 rfl) (by decide) rfl dX12_clement_117 ?_
              obtain ⟨r_38, I_39, J_40, hq_41, hf⟩ := yb_b3_some hf
              refine x_calli X hK hw (c12_rightOf l D cz ev mb hq_41) (ml_mem0 mb) (ml_S0 mb) cpX12.1 vw_X12_373 ⟨Nat.le_of_ble_eq_true rfl, Nat.le_of_ble_eq_true rfl⟩ rfl rfl (Nat.le_of_ble_eq_true rfl) hl.1 ⟨Nat.le_refl _, Nat.le_refl _⟩ dX12_clement_118 (fun H locs hw => ?_)
              refine lv_icmp_le (tgt := 128) hx hb dX12_clement_121 (by decide) (fun c_42 => ?_) (fun c_42 => ?_)
              · have hf := yb_pos c_42 hf
                obtain ⟨x5_43, ex5_43, hf⟩ := yb_let_ex hf
                refine lv_iinc (v := x5_43) (lv' := [(5, .int x5_43), (6, .int r_17), (0, .ref mb), (1, .int x1), (2, .int x2), (3, .int x3), (4, .int x4)]) hx hb dX12_clement_128 hl (k := 6) rfl (by rw [ex5_43]; rfl) (by decide) rfl (fun ls hl => ?_)
                refine lv_goto (tgt := 32) hx hb dX12_clement_131 (by decide) ?_
                exact ih _ _ _ _ _ _ _ _ _ _ _ hf hw (lv_sub hl [2, 3, 4, 5, 6, 0] rfl) hexit
              · have hf := yb_neg c_42 hf
                refine lv_iload hx hb dX12_clement_124 (lv_at hl 6 rfl) ?_
                refine lv_istore (lv' := [(4, .int x5), (6, .int r_17), (0, .ref mb), (1, .int x1), (2, .int x2), (3, .int x3), (5, .int x5)]) hx hb dX12_clement_126 hl (by decide) rfl (fun ls hl => ?_)
                obtain ⟨x5_44, ex5_44, hf⟩ := yb_let_ex hf
                refine lv_iinc (v := x5_44) (lv' := [(5, .int x5_44), (4, .int x5), (6, .int r_17), (0, .ref mb), (1, .int x1), (2, .int x2), (3, .int x3)]) hx hb dX12_clement_128 hl (k := 6) rfl (by rw [ex5_44]; rfl) (by decide) rfl (fun ls hl => ?_)
                refine lv_goto (tgt := 32) hx hb dX12_clement_131 (by decide) ?_
                exact ih _ _ _ _ _ _ _ _ _ _ _ hf hw (lv_sub hl [3, 4, 5, 6, 1, 0] rfl) hexit
          · have hf := yb_neg c_35 hf
            refine lv_iload hx hb dX12_clement_98 (lv_at hl 6 rfl) ?_
            refine lv_istore_n (lv' := [(3, .int x5), (6, .int r_17), (0, .ref mb), (1, .int x1), (2, .int x2), (4, .int x4), (5, .int x5)]) hx hb dX12_clement_100 rfl hl (by decide) rfl (fun ls hl => ?_)
            refine lv_iload hx hb dX12_clement_101 (lv_at hl 5 rfl) ?_
            refine lv_if_lt (tgt := 124) hx hb dX12_clement_103 (by decide) (fun c_45 => ?_) (fun c_45 => ?_)
            · have hf := yb_pos c_45 hf
              refine lv_iload hx hb dX12_clement_124 (lv_at hl 6 rfl) ?_
              refine lv_istore (lv' := [(4, .int x5), (3, .int x5), (6, .int r_17), (0, .ref mb), (1, .int x1), (2, .int x2), (5, .int x5)]) hx hb dX12_clement_126 hl (by decide) rfl (fun ls hl => ?_)
              obtain ⟨x5_46, ex5_46, hf⟩ := yb_let_ex hf
              refine lv_iinc (v := x5_46) (lv' := [(5, .int x5_46), (4, .int x5), (3, .int x5), (6, .int r_17), (0, .ref mb), (1, .int x1), (2, .int x2)]) hx hb dX12_clement_128 hl (k := 6) rfl (by rw [ex5_46]; rfl) (by decide) rfl (fun ls hl => ?_)
              refine lv_goto (tgt := 32) hx hb dX12_clement_131 (by decide) ?_
              exact ih _ _ _ _ _ _ _ _ _ _ _ hf hw (lv_sub hl [4, 5, 6, 2, 1, 0] rfl) hexit
            · have hf := yb_neg c_45 hf
              refine lv_iload hx hb dX12_clement_106 (lv_at hl 1 rfl) ?_
              refine lv_aload_n hx hb dX12_clement_108 rfl (lv_at hl 2 rfl) ?_
              refine lv_iload_n hx hb dX12_clement_109 rfl (lv_at hl 3 rfl) ?_
              refine lv_iload hx hb dX12_clement_110 (lv_at hl 5 rfl) ?_
              refine lv_aload_n hx hb dX12_clement_112 rfl (lv_at hl 2 rfl) ?_
              refine x_getR X hK hw (ml_mem0 mb) (ml_S0 mb) cpX12 20 (by decide) rfl (ml_R mb 20 rfl) tw_1271 dX12_clement_113 ?_
              refine lv_iconst (v := (4 : Int32)) hx hb dX12_clement_116 (by decide) ?_
              refine x_iald X hK hw (ml_mem mb 10 (by decide)) (ml_S mb 10 rfl) (by decide) rfl dX12_clement_117 ?_
              obtain ⟨r_47, I_48, J_49, hq_50, hf⟩ := yb_b3_some hf
              refine x_calli X hK hw (c12_rightOf l D cz ev mb hq_50) (ml_mem0 mb) (ml_S0 mb) cpX12.1 vw_X12_373 ⟨Nat.le_of_ble_eq_true rfl, Nat.le_of_ble_eq_true rfl⟩ rfl rfl (Nat.le_of_ble_eq_true rfl) hl.1 ⟨Nat.le_refl _, Nat.le_refl _⟩ dX12_clement_118 (fun H locs hw => ?_)
              refine lv_icmp_le (tgt := 128) hx hb dX12_clement_121 (by decide) (fun c_51 => ?_) (fun c_51 => ?_)
              · have hf := yb_pos c_51 hf
                obtain ⟨x5_52, ex5_52, hf⟩ := yb_let_ex hf
                refine lv_iinc (v := x5_52) (lv' := [(5, .int x5_52), (3, .int x5), (6, .int r_17), (0, .ref mb), (1, .int x1), (2, .int x2), (4, .int x4)]) hx hb dX12_clement_128 hl (k := 6) rfl (by rw [ex5_52]; rfl) (by decide) rfl (fun ls hl => ?_)
                refine lv_goto (tgt := 32) hx hb dX12_clement_131 (by decide) ?_
                exact ih _ _ _ _ _ _ _ _ _ _ _ hf hw (lv_sub hl [3, 4, 5, 1, 6, 0] rfl) hexit
              · have hf := yb_neg c_51 hf
                refine lv_iload hx hb dX12_clement_124 (lv_at hl 6 rfl) ?_
                refine lv_istore (lv' := [(4, .int x5), (3, .int x5), (6, .int r_17), (0, .ref mb), (1, .int x1), (2, .int x2), (5, .int x5)]) hx hb dX12_clement_126 hl (by decide) rfl (fun ls hl => ?_)
                obtain ⟨x5_53, ex5_53, hf⟩ := yb_let_ex hf
                refine lv_iinc (v := x5_53) (lv' := [(5, .int x5_53), (4, .int x5), (3, .int x5), (6, .int r_17), (0, .ref mb), (1, .int x1), (2, .int x2)]) hx hb dX12_clement_128 hl (k := 6) rfl (by rw [ex5_53]; rfl) (by decide) rfl (fun ls hl => ?_)
                refine lv_goto (tgt := 32) hx hb dX12_clement_131 (by decide) ?_
                exact ih _ _ _ _ _ _ _ _ _ _ _ hf hw (lv_sub hl [4, 5, 6, 2, 1, 0] rfl) hexit
      · have hf := yb_pos c_16 hf
        refine lv_goto (tgt := 128) hx hb dX12_clement_59 (by decide) ?_
        obtain ⟨x5_54, ex5_54, hf⟩ := yb_let_ex hf
        refine lv_iinc (v := x5_54) (lv' := [(5, .int x5_54), (0, .ref mb), (1, .int x1), (2, .int x2), (3, .int x3), (4, .int x4)]) hx hb dX12_clement_128 hl (k := 5) rfl (by rw [ex5_54]; rfl) (by decide) rfl (fun ls hl => ?_)
        refine lv_goto (tgt := 32) hx hb dX12_clement_131 (by decide) ?_
        exact ih _ _ _ _ _ _ _ _ _ _ _ hf hw (lv_sub hl [1, 2, 3, 4, 5, 0] rfl) hexit
set_option maxHeartbeats 4000000 in
set_option maxRecDepth 100000 in
theorem c12_clement (l : Launch) (D : va_G) (cz : Nat → ClassId) (ev : Nat × Nat × Nat) (mb : Nat) {N : Nat} {x1 : Int32} {x2 : Int32} {I : IT} {J : JT} {r : Int32} {I1 : IT} {J1 : JT} (hf : f12_clement N mb x1 x2 I J = some (r, I1, J1)) : MTi l D cz ev yX12_clement cX12_clement 7 (some .int) 5 129 [.ref mb, .int x1, .int x2] (mlL mb) (mlS mb) (mlR mb) I J r I1 J1 := by
  unfold f12_clement at hf
  refine MTi_of (by decide) (Nat.le_of_ble_eq_true rfl) ?_
  intro p e s m args below meth c Q ls X hK hw hl hfin
  have X : CallFix p m c cX12_clement 7 s args gw RX12 := X
  have hx := X.1
  have hb := X.2.1
  have hl : lv_has ls 7 [(0, .ref mb), (1, .int x1), (2, .int x2)] := hl
  refine lv_aload_n hx hb dX12_clement_0 rfl (lv_at hl 0 rfl) ?_
  refine lv_iload_n hx hb dX12_clement_1 rfl (lv_at hl 1 rfl) ?_
  obtain ⟨r_1, I_2, J_3, hq_4, hf⟩ := yb_b3_some hf
  refine x_calli X hK hw (c12_isCase l D cz ev mb hq_4) (ml_mem0 mb) (ml_S0 mb) cpX12.1 vw_X12_347 ⟨Nat.le_of_ble_eq_true rfl, Nat.le_of_ble_eq_true rfl⟩ rfl rfl (Nat.le_of_ble_eq_true rfl) hl.1 ⟨Nat.le_refl _, Nat.le_refl _⟩ dX12_clement_2 (fun H locs hw => ?_)
  refine lv_if_eq (tgt := 20) hx hb dX12_clement_5 (by decide) (fun c_5 => ?_) (fun c_5 => ?_)
  · have hf := yb_pos c_5 hf
    refine lv_iconst (v := (-1 : Int32)) hx hb dX12_clement_20 (by decide) ?_
    exact yb_reti hfin hf hw dX12_clement_21
  · have hf := yb_neg c_5 hf
    refine lv_iload_n hx hb dX12_clement_8 rfl (lv_at hl 2 rfl) ?_
    refine lv_i2l hx hb dX12_clement_9 rfl ?_
    refine lv_lconst (v := (0 : Int64)) hx hb dX12_clement_10 (by decide) ?_
    refine lv_ldc2 (v := (3 : Int64)) hx hb X.2.2.2.1 (X.2.2.2.2 _ tw_1813) dX12_clement_11 ?_
    obtain ⟨r_6, I_7, J_8, hq_9, hf⟩ := yb_b3_some hf
    refine x_callsi X hK hw (c12_in l D cz ev mb hq_9) sw_X12_142 ⟨Nat.le_of_ble_eq_true rfl, Nat.le_of_ble_eq_true rfl⟩ rfl rfl (Nat.le_of_ble_eq_true rfl) hl.1 ⟨Nat.le_refl _, Nat.le_refl _⟩ dX12_clement_14 (fun H locs hw => ?_)
    refine lv_if_ne (tgt := 22) hx hb dX12_clement_17 (by decide) (fun c_10 => ?_) (fun c_10 => ?_)
    · have hf := yb_neg c_10 hf
      refine lv_bipush (v := (-2 : Int32)) hx hb dX12_clement_22 (by decide) ?_
      refine lv_istore_n (lv' := [(3, .int (-2 : Int32)), (0, .ref mb), (1, .int x1), (2, .int x2)]) hx hb dX12_clement_24 rfl hl (by decide) rfl (fun ls hl => ?_)
      refine lv_bipush (v := (-2 : Int32)) hx hb dX12_clement_25 (by decide) ?_
      refine lv_istore (lv' := [(4, .int (-2 : Int32)), (3, .int (-2 : Int32)), (0, .ref mb), (1, .int x1), (2, .int x2)]) hx hb dX12_clement_27 hl (by decide) rfl (fun ls hl => ?_)
      refine lv_iconst (v := (0 : Int32)) hx hb dX12_clement_29 (by decide) ?_
      refine lv_istore (lv' := [(5, .int (0 : Int32)), (4, .int (-2 : Int32)), (3, .int (-2 : Int32)), (0, .ref mb), (1, .int x1), (2, .int x2)]) hx hb dX12_clement_30 hl (by decide) rfl (fun ls hl => ?_)
      obtain ⟨q_55, I_56, J_57, hq_58, hf⟩ := yb_b3_some hf
      refine w12_clement_L32 X hK _ _ _ _ _ _ _ _ _ _ _ _ hq_58 hw (lv_sub hl [3, 4, 5, 2, 1, 0] rfl) (fun H locs ls hw hl => ?_)
      refine lv_iload_n hx hb dX12_clement_134 rfl (lv_at hl 3 rfl) ?_
      refine lv_if_lt (tgt := 142) hx hb dX12_clement_135 (by decide) (fun c_59 => ?_) (fun c_59 => ?_)
      · have hf := yb_pos c_59 hf
        refine lv_iload_n hx hb dX12_clement_142 rfl (lv_at hl 3 rfl) ?_
        exact yb_reti hfin hf hw dX12_clement_143
      · have hf := yb_neg c_59 hf
        refine lv_iload_n hx hb dX12_clement_138 rfl (lv_at hl 2 rfl) ?_
        refine lv_if_ne (tgt := 144) hx hb dX12_clement_139 (by decide) (fun c_60 => ?_) (fun c_60 => ?_)
        · have hf := yb_neg c_60 hf
          refine lv_iload_n hx hb dX12_clement_144 rfl (lv_at hl 2 rfl) ?_
          refine lv_iconst (v := (1 : Int32)) hx hb dX12_clement_145 (by decide) ?_
          refine lv_icmp_ne (tgt := 164) hx hb dX12_clement_146 (by decide) (fun c_61 => ?_) (fun c_61 => ?_)
          · have hf := yb_neg c_61 hf
            refine lv_iload_n hx hb dX12_clement_164 rfl (lv_at hl 2 rfl) ?_
            refine lv_iconst (v := (2 : Int32)) hx hb dX12_clement_165 (by decide) ?_
            refine lv_icmp_ne (tgt := 174) hx hb dX12_clement_166 (by decide) (fun c_62 => ?_) (fun c_62 => ?_)
            · have hf := yb_neg c_62 hf
              refine lv_aload_n hx hb dX12_clement_174 rfl (lv_at hl 0 rfl) ?_
              refine lv_iload_n hx hb dX12_clement_175 rfl (lv_at hl 1 rfl) ?_
              refine lv_iload hx hb dX12_clement_176 (lv_at hl 4 rfl) ?_
              refine lv_aload_n hx hb dX12_clement_178 rfl (lv_at hl 0 rfl) ?_
              refine x_getR X hK hw (ml_mem0 mb) (ml_S0 mb) cpX12 20 (by decide) rfl (ml_R mb 20 rfl) tw_1271 dX12_clement_179 ?_
              refine lv_iconst (v := (4 : Int32)) hx hb dX12_clement_182 (by decide) ?_
              refine x_iald X hK hw (ml_mem mb 10 (by decide)) (ml_S mb 10 rfl) (by decide) rfl dX12_clement_183 ?_
              obtain ⟨r_63, I_64, J_65, hq_66, hf⟩ := yb_b3_some hf
              refine x_calli X hK hw (c12_rightOf l D cz ev mb hq_66) (ml_mem0 mb) (ml_S0 mb) cpX12.1 vw_X12_373 ⟨Nat.le_of_ble_eq_true rfl, Nat.le_of_ble_eq_true rfl⟩ rfl rfl (Nat.le_of_ble_eq_true rfl) hl.1 ⟨Nat.le_refl _, Nat.le_refl _⟩ dX12_clement_184 (fun H locs hw => ?_)
              exact yb_reti hfin hf hw dX12_clement_187
            · have hf := yb_pos c_62 hf
              refine lv_iload hx hb dX12_clement_169 (lv_at hl 4 rfl) ?_
              refine lv_goto (tgt := 187) hx hb dX12_clement_171 (by decide) ?_
              exact yb_reti hfin hf hw dX12_clement_187
          · have hf := yb_pos c_61 hf
            refine lv_aload_n hx hb dX12_clement_149 rfl (lv_at hl 0 rfl) ?_
            refine lv_iload_n hx hb dX12_clement_150 rfl (lv_at hl 1 rfl) ?_
            refine lv_iload_n hx hb dX12_clement_151 rfl (lv_at hl 3 rfl) ?_
            refine lv_aload_n hx hb dX12_clement_152 rfl (lv_at hl 0 rfl) ?_
            refine x_getR X hK hw (ml_mem0 mb) (ml_S0 mb) cpX12 20 (by decide) rfl (ml_R mb 20 rfl) tw_1271 dX12_clement_153 ?_
            refine lv_iconst (v := (4 : Int32)) hx hb dX12_clement_156 (by decide) ?_
            refine x_iald X hK hw (ml_mem mb 10 (by decide)) (ml_S mb 10 rfl) (by decide) rfl dX12_clement_157 ?_
            obtain ⟨r_67, I_68, J_69, hq_70, hf⟩ := yb_b3_some hf
            refine x_calli X hK hw (c12_rightOf l D cz ev mb hq_70) (ml_mem0 mb) (ml_S0 mb) cpX12.1 vw_X12_373 ⟨Nat.le_of_ble_eq_true rfl, Nat.le_of_ble_eq_true rfl⟩ rfl rfl (Nat.le_of_ble_eq_true rfl) hl.1 ⟨Nat.le_refl _, Nat.le_refl _⟩ dX12_clement_158 (fun H locs hw => ?_)
            refine lv_goto (tgt := 187) hx hb dX12_clement_161 (by decide) ?_
            exact yb_reti hfin hf hw dX12_clement_187
        · have hf := yb_pos c_60 hf
          refine lv_iload_n hx hb dX12_clement_142 rfl (lv_at hl 3 rfl) ?_
          exact yb_reti hfin hf hw dX12_clement_143
    · have hf := yb_pos c_10 hf
      refine lv_iconst (v := (-1 : Int32)) hx hb dX12_clement_20 (by decide) ?_
      exact yb_reti hfin hf hw dX12_clement_21
set_option maxHeartbeats 4000000 in
set_option maxRecDepth 100000 in
theorem c12_fact_ (l : Launch) (D : va_G) (cz : Nat → ClassId) (ev : Nat × Nat × Nat) (mb : Nat) {x1 : Int32} {x2 : Int32} {x3 : Int32} {I : IT} {J : JT} {r : Int32} {I1 : IT} {J1 : JT} (hf : f12_fact_ mb x1 x2 x3 I J = some (r, I1, J1)) : MTi l D cz ev yX12_fact_ cX12_fact_ 5 (some .int) 1 25 [.ref mb, .int x1, .int x2, .int x3] (mlL mb) (mlS mb) (mlR mb) I J r I1 J1 := by
  unfold f12_fact_ at hf
  refine MTi_of (by decide) (Nat.le_of_ble_eq_true rfl) ?_
  intro p e s m args below meth c Q ls X hK hw hl hfin
  have X : CallFix p m c cX12_fact_ 5 s args gw RX12 := X
  have hx := X.1
  have hb := X.2.1
  have hl : lv_has ls 5 [(0, .ref mb), (1, .int x1), (2, .int x2), (3, .int x3)] := hl
  refine lv_iload_n hx hb dX12_fact__0 rfl (lv_at hl 1 rfl) ?_
  refine lv_iconst (v := (-1 : Int32)) hx hb dX12_fact__1 (by decide) ?_
  refine lv_icmp_ne (tgt := 16) hx hb dX12_fact__2 (by decide) (fun c_1 => ?_) (fun c_1 => ?_)
  · have hf := yb_neg c_1 hf
    refine lv_aload_n hx hb dX12_fact__16 rfl (lv_at hl 0 rfl) ?_
    refine lv_iload_n hx hb dX12_fact__17 rfl (lv_at hl 1 rfl) ?_
    obtain ⟨r_2, I_3, J_4, hq_5, hf⟩ := yb_b3_some hf
    refine x_calli X hK hw (c12_isCase l D cz ev mb hq_5) (ml_mem0 mb) (ml_S0 mb) cpX12.1 vw_X12_347 ⟨Nat.le_of_ble_eq_true rfl, Nat.le_of_ble_eq_true rfl⟩ rfl rfl (Nat.le_of_ble_eq_true rfl) hl.1 ⟨Nat.le_refl _, Nat.le_refl _⟩ dX12_fact__18 (fun H locs hw => ?_)
    refine lv_if_eq (tgt := 61) hx hb dX12_fact__21 (by decide) (fun c_6 => ?_) (fun c_6 => ?_)
    · have hf := yb_pos c_6 hf
      refine lv_bipush (v := (-2 : Int32)) hx hb dX12_fact__61 (by decide) ?_
      exact yb_reti hfin hf hw dX12_fact__63
    · have hf := yb_neg c_6 hf
      refine lv_iload_n hx hb dX12_fact__24 rfl (lv_at hl 2 rfl) ?_
      refine lv_i2l hx hb dX12_fact__25 rfl ?_
      refine lv_lconst (v := (0 : Int64)) hx hb dX12_fact__26 (by decide) ?_
      refine lv_ldc2 (v := (7 : Int64)) hx hb X.2.2.2.1 (X.2.2.2.2 _ tw_1783) dX12_fact__27 ?_
      obtain ⟨r_7, I_8, J_9, hq_10, hf⟩ := yb_b3_some hf
      refine x_callsi X hK hw (c12_in l D cz ev mb hq_10) sw_X12_142 ⟨Nat.le_of_ble_eq_true rfl, Nat.le_of_ble_eq_true rfl⟩ rfl rfl (Nat.le_of_ble_eq_true rfl) hl.1 ⟨Nat.le_refl _, Nat.le_refl _⟩ dX12_fact__30 (fun H locs hw => ?_)
      refine lv_if_eq (tgt := 61) hx hb dX12_fact__33 (by decide) (fun c_11 => ?_) (fun c_11 => ?_)
      · have hf := yb_pos c_11 hf
        refine lv_bipush (v := (-2 : Int32)) hx hb dX12_fact__61 (by decide) ?_
        exact yb_reti hfin hf hw dX12_fact__63
      · have hf := yb_neg c_11 hf
        refine lv_iload_n hx hb dX12_fact__36 rfl (lv_at hl 3 rfl) ?_
        refine lv_i2l hx hb dX12_fact__37 rfl ?_
        refine lv_lconst (v := (0 : Int64)) hx hb dX12_fact__38 (by decide) ?_
        refine lv_ldc2 (v := (9999 : Int64)) hx hb X.2.2.2.1 (X.2.2.2.2 _ tw_1818) dX12_fact__39 ?_
        obtain ⟨r_12, I_13, J_14, hq_15, hf⟩ := yb_b3_some hf
        refine x_callsi X hK hw (c12_in l D cz ev mb hq_15) sw_X12_142 ⟨Nat.le_of_ble_eq_true rfl, Nat.le_of_ble_eq_true rfl⟩ rfl rfl (Nat.le_of_ble_eq_true rfl) hl.1 ⟨Nat.le_refl _, Nat.le_refl _⟩ dX12_fact__42 (fun H locs hw => ?_)
        refine lv_if_eq (tgt := 61) hx hb dX12_fact__45 (by decide) (fun c_16 => ?_) (fun c_16 => ?_)
        · have hf := yb_pos c_16 hf
          refine lv_bipush (v := (-2 : Int32)) hx hb dX12_fact__61 (by decide) ?_
          exact yb_reti hfin hf hw dX12_fact__63
        · have hf := yb_neg c_16 hf
          refine lv_aload_n hx hb dX12_fact__48 rfl (lv_at hl 0 rfl) ?_
          refine x_getR X hK hw (ml_mem0 mb) (ml_S0 mb) cpX12 20 (by decide) rfl (ml_R mb 20 rfl) tw_1271 dX12_fact__49 ?_
          refine lv_sipush (v := (141 : Int32)) hx hb dX12_fact__52 (by decide) ?_
          refine x_iald X hK hw (ml_mem mb 10 (by decide)) (ml_S mb 10 rfl) (by decide) rfl dX12_fact__55 ?_
          refine lv_bipush (v := (10 : Int32)) hx hb dX12_fact__56 (by decide) ?_
          refine lv_icmp_ne (tgt := 64) hx hb dX12_fact__58 (by decide) (fun c_17 => ?_) (fun c_17 => ?_)
          · have hf := yb_neg c_17 hf
            refine lv_bipush (v := (111 : Int32)) hx hb dX12_fact__64 (by decide) ?_
            refine lv_iconst (v := (3 : Int32)) hx hb dX12_fact__66 (by decide) ?_
            refine lv_aload_n hx hb dX12_fact__67 rfl (lv_at hl 0 rfl) ?_
            refine x_getR X hK hw (ml_mem0 mb) (ml_S0 mb) cpX12 20 (by decide) rfl (ml_R mb 20 rfl) tw_1271 dX12_fact__68 ?_
            refine lv_sipush (v := (141 : Int32)) hx hb dX12_fact__71 (by decide) ?_
            refine x_iald X hK hw (ml_mem mb 10 (by decide)) (ml_S mb 10 rfl) (by decide) rfl dX12_fact__74 ?_
            refine lv_imul hx hb dX12_fact__75 ?_
            refine lv_iadd hx hb dX12_fact__76 ?_
            refine lv_topi (fun x4_18 ex4_18 => ?_)
            have hf := yb_let_to ex4_18 hf
            refine lv_istore (lv' := [(4, .int x4_18), (0, .ref mb), (1, .int x1), (2, .int x2), (3, .int x3)]) hx hb dX12_fact__77 hl (by decide) rfl (fun ls hl => ?_)
            refine lv_aload_n hx hb dX12_fact__79 rfl (lv_at hl 1 rfl) ?_
            refine x_getR X hK hw (ml_mem0 mb) (ml_S0 mb) cpX12 20 (by decide) rfl (ml_R mb 20 rfl) tw_1271 dX12_fact__80 ?_
            refine lv_iload hx hb dX12_fact__83 (lv_at hl 0 rfl) ?_
            refine lv_iload_n hx hb dX12_fact__85 rfl (lv_at hl 2 rfl) ?_
            obtain ⟨hi_19, hf⟩ := yb_ck_some hf
            refine x_iast X hK hw (ml_mem mb 10 (by decide)) (ml_S mb 10 rfl) hi_19 rfl dX12_fact__86 (fun H locs hw => ?_)
            obtain ⟨I_20, eI_20, hf⟩ := yb_let_ex hf
            have hw := yb_wI eI_20 hw
            refine lv_aload_n hx hb dX12_fact__87 rfl (lv_at hl 1 rfl) ?_
            refine x_getR X hK hw (ml_mem0 mb) (ml_S0 mb) cpX12 20 (by decide) rfl (ml_R mb 20 rfl) tw_1271 dX12_fact__88 ?_
            refine lv_iload hx hb dX12_fact__91 (lv_at hl 0 rfl) ?_
            refine lv_iconst (v := (1 : Int32)) hx hb dX12_fact__93 (by decide) ?_
            refine lv_iadd hx hb dX12_fact__94 ?_
            refine lv_iload_n hx hb dX12_fact__95 rfl (lv_at hl 3 rfl) ?_
            obtain ⟨hi_21, hf⟩ := yb_ck_some hf
            refine x_iast X hK hw (ml_mem mb 10 (by decide)) (ml_S mb 10 rfl) hi_21 rfl dX12_fact__96 (fun H locs hw => ?_)
            obtain ⟨I_22, eI_22, hf⟩ := yb_let_ex hf
            have hw := yb_wI eI_22 hw
            refine lv_aload_n hx hb dX12_fact__97 rfl (lv_at hl 1 rfl) ?_
            refine x_getR X hK hw (ml_mem0 mb) (ml_S0 mb) cpX12 20 (by decide) rfl (ml_R mb 20 rfl) tw_1271 dX12_fact__98 ?_
            refine lv_iload hx hb dX12_fact__101 (lv_at hl 0 rfl) ?_
            refine lv_iconst (v := (2 : Int32)) hx hb dX12_fact__103 (by decide) ?_
            refine lv_iadd hx hb dX12_fact__104 ?_
            refine lv_iload_n hx hb dX12_fact__105 rfl (lv_at hl 4 rfl) ?_
            obtain ⟨hi_23, hf⟩ := yb_ck_some hf
            refine x_iast X hK hw (ml_mem mb 10 (by decide)) (ml_S mb 10 rfl) hi_23 rfl dX12_fact__106 (fun H locs hw => ?_)
            obtain ⟨I_24, eI_24, hf⟩ := yb_let_ex hf
            have hw := yb_wI eI_24 hw
            refine lv_aload_n hx hb dX12_fact__107 rfl (lv_at hl 1 rfl) ?_
            refine x_getR X hK hw (ml_mem0 mb) (ml_S0 mb) cpX12 20 (by decide) rfl (ml_R mb 20 rfl) tw_1271 dX12_fact__108 ?_
            refine lv_sipush (v := (141 : Int32)) hx hb dX12_fact__111 (by decide) ?_
            refine lv_dup2_11 hx hb dX12_fact__114 rfl rfl ?_
            refine x_iald X hK hw (ml_mem mb 10 (by decide)) (ml_S mb 10 rfl) (by decide) rfl dX12_fact__115 ?_
            refine lv_iconst (v := (1 : Int32)) hx hb dX12_fact__116 (by decide) ?_
            refine lv_iadd hx hb dX12_fact__117 ?_
            refine x_iast X hK hw (ml_mem mb 10 (by decide)) (ml_S mb 10 rfl) (by decide) rfl dX12_fact__118 (fun H locs hw => ?_)
            obtain ⟨I_25, eI_25, hf⟩ := yb_let_ex hf
            have hw := yb_wI eI_25 hw
            refine lv_aload_n hx hb dX12_fact__119 rfl (lv_at hl 1 rfl) ?_
            refine x_getR X hK hw (ml_mem0 mb) (ml_S0 mb) cpX12 20 (by decide) rfl (ml_R mb 20 rfl) tw_1271 dX12_fact__120 ?_
            refine lv_sipush (v := (141 : Int32)) hx hb dX12_fact__123 (by decide) ?_
            refine x_iald X hK hw (ml_mem mb 10 (by decide)) (ml_S mb 10 rfl) (by decide) rfl dX12_fact__126 ?_
            exact yb_reti hfin hf hw dX12_fact__127
          · have hf := yb_pos c_17 hf
            refine lv_bipush (v := (-2 : Int32)) hx hb dX12_fact__61 (by decide) ?_
            exact yb_reti hfin hf hw dX12_fact__63
  · have hf := yb_pos c_1 hf
    refine lv_aload_n hx hb dX12_fact__5 rfl (lv_at hl 0 rfl) ?_
    refine x_getR X hK hw (ml_mem0 mb) (ml_S0 mb) cpX12 20 (by decide) rfl (ml_R mb 20 rfl) tw_1271 dX12_fact__6 ?_
    refine lv_sipush (v := (141 : Int32)) hx hb dX12_fact__9 (by decide) ?_
    refine lv_iconst (v := (0 : Int32)) hx hb dX12_fact__12 (by decide) ?_
    refine x_iast X hK hw (ml_mem mb 10 (by decide)) (ml_S mb 10 rfl) (by decide) rfl dX12_fact__13 (fun H locs hw => ?_)
    obtain ⟨I_26, eI_26, hf⟩ := yb_let_ex hf
    have hw := yb_wI eI_26 hw
    refine lv_iconst (v := (0 : Int32)) hx hb dX12_fact__14 (by decide) ?_
    exact yb_reti hfin hf hw dX12_fact__15
set_option maxHeartbeats 4000000 in
set_option maxRecDepth 100000 in
theorem c12_rightThen (l : Launch) (D : va_G) (cz : Nat → ClassId) (ev : Nat × Nat × Nat) (mb : Nat) {N : Nat} {x1 : Int32} {x2 : Int32} {x3 : Int32} {I : IT} {J : JT} {r : Int32} {I1 : IT} {J1 : JT} (hf : f12_rightThen N mb x1 x2 x3 I J = some (r, I1, J1)) : MTi l D cz ev yX12_rightThen cX12_rightThen 4 (some .int) 4 106 [.ref mb, .int x1, .int x2, .int x3] (mlL mb) (mlS mb) (mlR mb) I J r I1 J1 := by
  unfold f12_rightThen at hf
  refine MTi_of (by decide) (Nat.le_of_ble_eq_true rfl) ?_
  intro p e s m args below meth c Q ls X hK hw hl hfin
  have X : CallFix p m c cX12_rightThen 4 s args gw RX12 := X
  have hx := X.1
  have hb := X.2.1
  have hl : lv_has ls 4 [(0, .ref mb), (1, .int x1), (2, .int x2), (3, .int x3)] := hl
  refine lv_aload_n hx hb dX12_rightThen_0 rfl (lv_at hl 0 rfl) ?_
  refine lv_iload_n hx hb dX12_rightThen_1 rfl (lv_at hl 2 rfl) ?_
  refine lv_aload_n hx hb dX12_rightThen_2 rfl (lv_at hl 0 rfl) ?_
  refine lv_iload_n hx hb dX12_rightThen_3 rfl (lv_at hl 1 rfl) ?_
  refine lv_iconst (v := (0 : Int32)) hx hb dX12_rightThen_4 (by decide) ?_
  obtain ⟨r_1, I_2, J_3, hq_4, hf⟩ := yb_b3_some hf
  refine x_calli X hK hw (c12_caseOf l D cz ev mb hq_4) (ml_mem0 mb) (ml_S0 mb) cpX12.1 vw_X12_331 ⟨Nat.le_of_ble_eq_true rfl, Nat.le_of_ble_eq_true rfl⟩ rfl rfl (Nat.le_of_ble_eq_true rfl) hl.1 ⟨Nat.le_refl _, Nat.le_refl _⟩ dX12_rightThen_5 (fun H locs hw => ?_)
  refine lv_aload_n hx hb dX12_rightThen_8 rfl (lv_at hl 0 rfl) ?_
  refine lv_iload_n hx hb dX12_rightThen_9 rfl (lv_at hl 1 rfl) ?_
  refine lv_iconst (v := (1 : Int32)) hx hb dX12_rightThen_10 (by decide) ?_
  obtain ⟨r_5, I_6, J_7, hq_8, hf⟩ := yb_b3_some hf
  refine x_calli X hK hw (c12_caseOf l D cz ev mb hq_8) (ml_mem0 mb) (ml_S0 mb) cpX12.1 vw_X12_331 ⟨Nat.le_of_ble_eq_true rfl, Nat.le_of_ble_eq_true rfl⟩ rfl rfl (Nat.le_of_ble_eq_true rfl) hl.1 ⟨Nat.le_refl _, Nat.le_refl _⟩ dX12_rightThen_11 (fun H locs hw => ?_)
  refine lv_aload_n hx hb dX12_rightThen_14 rfl (lv_at hl 0 rfl) ?_
  refine lv_iload_n hx hb dX12_rightThen_15 rfl (lv_at hl 1 rfl) ?_
  refine lv_iconst (v := (2 : Int32)) hx hb dX12_rightThen_16 (by decide) ?_
  obtain ⟨r_9, I_10, J_11, hq_12, hf⟩ := yb_b3_some hf
  refine x_calli X hK hw (c12_caseOf l D cz ev mb hq_12) (ml_mem0 mb) (ml_S0 mb) cpX12.1 vw_X12_331 ⟨Nat.le_of_ble_eq_true rfl, Nat.le_of_ble_eq_true rfl⟩ rfl rfl (Nat.le_of_ble_eq_true rfl) hl.1 ⟨Nat.le_refl _, Nat.le_refl _⟩ dX12_rightThen_17 (fun H locs hw => ?_)
  refine lv_iload_n hx hb dX12_rightThen_20 rfl (lv_at hl 3 rfl) ?_
  refine lv_iconst (v := (0 : Int32)) hx hb dX12_rightThen_21 (by decide) ?_
  refine lv_iconst (v := (0 : Int32)) hx hb dX12_rightThen_22 (by decide) ?_
  obtain ⟨r_13, I_14, J_15, hq_16, hf⟩ := yb_b3_some hf
  refine x_calli X hK hw (c12_rightIn l D cz ev mb hq_16) (ml_mem0 mb) (ml_S0 mb) cpX12.1 vw_X12_369 ⟨Nat.le_of_ble_eq_true rfl, Nat.le_of_ble_eq_true rfl⟩ rfl rfl (Nat.le_of_ble_eq_true rfl) hl.1 ⟨Nat.le_refl _, Nat.le_refl _⟩ dX12_rightThen_23 (fun H locs hw => ?_)
  exact yb_reti hfin hf hw dX12_rightThen_26
set_option maxHeartbeats 4000000 in
set_option maxRecDepth 100000 in
theorem c12_factValue (l : Launch) (D : va_G) (cz : Nat → ClassId) (ev : Nat × Nat × Nat) (mb : Nat) {N : Nat} {x1 : Int32} {x2 : Int32} {x3 : Int32} {x4 : Int32} {I : IT} {J : JT} {r : Int32} {I1 : IT} {J1 : JT} (hf : f12_factValue N mb x1 x2 x3 x4 I J = some (r, I1, J1)) : MTi l D cz ev yX12_factValue cX12_factValue 5 (some .int) 5 129 [.ref mb, .int x1, .int x2, .int x3, .int x4] (mlL mb) (mlS mb) (mlR mb) I J r I1 J1 := by
  unfold f12_factValue at hf
  refine MTi_of (by decide) (Nat.le_of_ble_eq_true rfl) ?_
  intro p e s m args below meth c Q ls X hK hw hl hfin
  have X : CallFix p m c cX12_factValue 5 s args gw RX12 := X
  have hx := X.1
  have hb := X.2.1
  have hl : lv_has ls 5 [(0, .ref mb), (1, .int x1), (2, .int x2), (3, .int x3), (4, .int x4)] := hl
  refine lv_iload_n hx hb dX12_factValue_0 rfl (lv_at hl 1 rfl) ?_
  refine lv_iconst (v := (2 : Int32)) hx hb dX12_factValue_1 (by decide) ?_
  refine lv_icmp_ge (tgt := 15) hx hb dX12_factValue_2 (by decide) (fun c_1 => ?_) (fun c_1 => ?_)
  · have hf := yb_pos c_1 hf
    refine lv_iload_n hx hb dX12_factValue_15 rfl (lv_at hl 1 rfl) ?_
    refine lv_iconst (v := (4 : Int32)) hx hb dX12_factValue_16 (by decide) ?_
    refine lv_icmp_ge (tgt := 29) hx hb dX12_factValue_17 (by decide) (fun c_2 => ?_) (fun c_2 => ?_)
    · have hf := yb_pos c_2 hf
      refine lv_iload_n hx hb dX12_factValue_29 rfl (lv_at hl 1 rfl) ?_
      refine lv_bipush (v := (6 : Int32)) hx hb dX12_factValue_30 (by decide) ?_
      refine lv_icmp_ge (tgt := 40) hx hb dX12_factValue_32 (by decide) (fun c_3 => ?_) (fun c_3 => ?_)
      · have hf := yb_pos c_3 hf
        refine lv_aload_n hx hb dX12_factValue_40 rfl (lv_at hl 0 rfl) ?_
        refine lv_iload_n hx hb dX12_factValue_41 rfl (lv_at hl 2 rfl) ?_
        refine lv_iload_n hx hb dX12_factValue_42 rfl (lv_at hl 3 rfl) ?_
        refine lv_iload hx hb dX12_factValue_43 (lv_at hl 4 rfl) ?_
        obtain ⟨r_4, I_5, J_6, hq_7, hf⟩ := yb_b3_some hf
        refine x_calli X hK hw (c12_rightThen l D cz ev mb hq_7) (ml_mem0 mb) (ml_S0 mb) cpX12.1 vw_X12_466 ⟨Nat.le_of_ble_eq_true rfl, Nat.le_of_ble_eq_true rfl⟩ rfl rfl (Nat.le_of_ble_eq_true rfl) hl.1 ⟨Nat.le_refl _, Nat.le_refl _⟩ dX12_factValue_45 (fun H locs hw => ?_)
        exact yb_reti hfin hf hw dX12_factValue_48
      · have hf := yb_neg c_3 hf
        refine lv_iload hx hb dX12_factValue_35 (lv_at hl 4 rfl) ?_
        refine lv_goto (tgt := 48) hx hb dX12_factValue_37 (by decide) ?_
        exact yb_reti hfin hf hw dX12_factValue_48
    · have hf := yb_neg c_2 hf
      refine lv_aload_n hx hb dX12_factValue_20 rfl (lv_at hl 0 rfl) ?_
      refine lv_iload_n hx hb dX12_factValue_21 rfl (lv_at hl 3 rfl) ?_
      refine lv_iconst (v := (1 : Int32)) hx hb dX12_factValue_22 (by decide) ?_
      obtain ⟨r_8, I_9, J_10, hq_11, hf⟩ := yb_b3_some hf
      refine x_calli X hK hw (c12_personOf l D cz ev mb hq_11) (ml_mem0 mb) (ml_S0 mb) cpX12.1 vw_X12_312 ⟨Nat.le_of_ble_eq_true rfl, Nat.le_of_ble_eq_true rfl⟩ rfl rfl (Nat.le_of_ble_eq_true rfl) hl.1 ⟨Nat.le_refl _, Nat.le_refl _⟩ dX12_factValue_23 (fun H locs hw => ?_)
      refine lv_goto (tgt := 48) hx hb dX12_factValue_26 (by decide) ?_
      exact yb_reti hfin hf hw dX12_factValue_48
  · have hf := yb_neg c_1 hf
    refine lv_aload_n hx hb dX12_factValue_5 rfl (lv_at hl 0 rfl) ?_
    refine lv_iload_n hx hb dX12_factValue_6 rfl (lv_at hl 3 rfl) ?_
    refine lv_iload hx hb dX12_factValue_7 (lv_at hl 4 rfl) ?_
    obtain ⟨r_12, I_13, J_14, hq_15, hf⟩ := yb_b3_some hf
    refine x_calli X hK hw (c12_ageOn l D cz ev mb hq_15) (ml_mem0 mb) (ml_S0 mb) cpX12.1 vw_X12_316 ⟨Nat.le_of_ble_eq_true rfl, Nat.le_of_ble_eq_true rfl⟩ rfl rfl (Nat.le_of_ble_eq_true rfl) hl.1 ⟨Nat.le_refl _, Nat.le_refl _⟩ dX12_factValue_9 (fun H locs hw => ?_)
    refine lv_goto (tgt := 48) hx hb dX12_factValue_12 (by decide) ?_
    exact yb_reti hfin hf hw dX12_factValue_48
set_option maxHeartbeats 4000000 in
set_option maxRecDepth 100000 in
theorem w12_areFactsSo_L3 {p : Program} {l : Launch} {e : Env} {s : State} {m : MethodId} {args : Array Value} {below : List Frame} {meth : Method} {c : Code} {Q : State → Prop} {D : va_G} {cz : Nat → ClassId} {A : Nat → Prop} {ev : Nat × Nat × Nat} {mb : Nat} (X : CallFix p m c cX12_areFactsSo 7 s args gw RX12) (hK : KX D cz ev A s) {N : Nat} {x1 : Int32} {x2 : Int32} {x3 : Int32} {rM : Int32} {IM : IT} {JM : JT} :
    ∀ (n : Nat) (x4 : Int32) (I : IT) (J : JT) (q : (Int32 ⊕ (Unit))) (I1 : IT) (J1 : JT) (H : Heap) (locs : List Loc) (ls : Array Slot), f12_areFactsSo_L3 N mb x1 x2 x3 n x4 I J = some (q, I1, J1) → WX D cz A (mlL mb) (mlS mb) (mlR mb) s.heap I J H locs → lv_has ls 7 [(0, .ref mb), (1, .int x1), (2, .int x2), (3, .int x3), (4, .int x4)] →
    (∀ v, q = .inl v → some (v, I1, J1) = some (rM, IM, JM)) → (∀ (H : Heap) (locs : List Loc) (ls : Array Slot) (pc : Nat), bz rM = true → WX D cz A (mlL mb) (mlS mb) (mlR mb) s.heap IM JM H locs → decode cX12_areFactsSo pc = .ok (.ireturn, 1) → W p l e (rmX 6 153) s m args below meth c H locs 0 0 Q (F0 m pc ls [.int rM])) →
    (∀ xq, q = .inr xq → ∀ (H : Heap) (locs : List Loc) (ls : Array Slot), WX D cz A (mlL mb) (mlS mb) (mlR mb) s.heap I1 J1 H locs → lv_has ls 7 [] → W p l e (rmX 6 153) s m args below meth c H locs 0 0 Q (F0 m 110 ls [])) →
    W p l e (rmX 6 153) s m args below meth c H locs 0 0 Q (F0 m 3 ls []) := by
  have hx := X.1
  have hb := X.2.1
  intro n
  induction n with
  | zero =>
    intro x4 I J q I1 J1 H locs ls hf
    rw [f12_areFactsSo_L3] at hf
    cases hf
  | succ n ih =>
    intro x4 I J q I1 J1 H locs ls hf hw hl hret hfin hexit
    rw [f12_areFactsSo_L3] at hf
    refine lv_iload hx hb dX12_areFactsSo_3 (lv_at hl 4 rfl) ?_
    refine lv_aload_n hx hb dX12_areFactsSo_5 rfl (lv_at hl 0 rfl) ?_
    refine x_getR X hK hw (ml_mem0 mb) (ml_S0 mb) cpX12 20 (by decide) rfl (ml_R mb 20 rfl) tw_1271 dX12_areFactsSo_6 ?_
    refine lv_sipush (v := (141 : Int32)) hx hb dX12_areFactsSo_9 (by decide) ?_
    refine x_iald X hK hw (ml_mem mb 10 (by decide)) (ml_S mb 10 rfl) (by decide) rfl dX12_areFactsSo_12 ?_
    refine lv_icmp_ge (tgt := 110) hx hb dX12_areFactsSo_13 (by decide) (fun c_1 => ?_) (fun c_1 => ?_)
    · have hf := yb_pos c_1 hf
      obtain ⟨rfl, rfl, rfl⟩ := yb_inj hf
      exact hexit _ rfl _ _ _ hw (lv_sub hl [] rfl)
    · have hf := yb_neg c_1 hf
      refine lv_bipush (v := (111 : Int32)) hx hb dX12_areFactsSo_16 (by decide) ?_
      refine lv_iconst (v := (3 : Int32)) hx hb dX12_areFactsSo_18 (by decide) ?_
      refine lv_iload hx hb dX12_areFactsSo_19 (lv_at hl 4 rfl) ?_
      refine lv_imul hx hb dX12_areFactsSo_21 ?_
      refine lv_iadd hx hb dX12_areFactsSo_22 ?_
      refine lv_topi (fun x5_2 ex5_2 => ?_)
      have hf := yb_let_to ex5_2 hf
      refine lv_istore (lv' := [(5, .int x5_2), (0, .ref mb), (1, .int x1), (2, .int x2), (3, .int x3), (4, .int x4)]) hx hb dX12_areFactsSo_23 hl (by decide) rfl (fun ls hl => ?_)
      refine lv_aload_n hx hb dX12_areFactsSo_25 rfl (lv_at hl 1 rfl) ?_
      refine x_getR X hK hw (ml_mem0 mb) (ml_S0 mb) cpX12 20 (by decide) rfl (ml_R mb 20 rfl) tw_1271 dX12_areFactsSo_26 ?_
      refine lv_iload hx hb dX12_areFactsSo_29 (lv_at hl 0 rfl) ?_
      obtain ⟨hi_3, hf⟩ := yb_ck_some hf
      refine x_iald X hK hw (ml_mem mb 10 (by decide)) (ml_S mb 10 rfl) hi_3 rfl dX12_areFactsSo_31 ?_
      refine lv_iload_n hx hb dX12_areFactsSo_32 rfl (lv_at hl 2 rfl) ?_
      refine lv_icmp_eq (tgt := 39) hx hb dX12_areFactsSo_33 (by decide) (fun c_4 => ?_) (fun c_4 => ?_)
      · have hf := yb_pos c_4 hf
        refine lv_aload_n hx hb dX12_areFactsSo_39 rfl (lv_at hl 1 rfl) ?_
        refine lv_aload_n hx hb dX12_areFactsSo_40 rfl (lv_at hl 1 rfl) ?_
        refine x_getR X hK hw (ml_mem0 mb) (ml_S0 mb) cpX12 20 (by decide) rfl (ml_R mb 20 rfl) tw_1271 dX12_areFactsSo_41 ?_
        refine lv_iload hx hb dX12_areFactsSo_44 (lv_at hl 0 rfl) ?_
        refine lv_iconst (v := (1 : Int32)) hx hb dX12_areFactsSo_46 (by decide) ?_
        refine lv_iadd hx hb dX12_areFactsSo_47 ?_
        obtain ⟨hi_5, hf⟩ := yb_ck_some hf
        refine x_iald X hK hw (ml_mem mb 10 (by decide)) (ml_S mb 10 rfl) hi_5 rfl dX12_areFactsSo_48 ?_
        refine lv_iload_n hx hb dX12_areFactsSo_49 rfl (lv_at hl 2 rfl) ?_
        refine lv_iload_n hx hb dX12_areFactsSo_50 rfl (lv_at hl 3 rfl) ?_
        refine lv_iload_n hx hb dX12_areFactsSo_51 rfl (lv_at hl 4 rfl) ?_
        obtain ⟨r_6, I_7, J_8, hq_9, hf⟩ := yb_b3_some hf
        refine x_calli X hK hw (c12_factValue l D cz ev mb hq_9) (ml_mem0 mb) (ml_S0 mb) cpX12.1 vw_X12_469 ⟨Nat.le_of_ble_eq_true rfl, Nat.le_of_ble_eq_true rfl⟩ rfl rfl (Nat.le_of_ble_eq_true rfl) hl.1 ⟨Nat.le_refl _, Nat.le_refl _⟩ dX12_areFactsSo_52 (fun H locs hw => ?_)
        refine lv_istore (lv' := [(6, .int r_6), (5, .int x5_2), (0, .ref mb), (1, .int x1), (2, .int x2), (3, .int x3), (4, .int x4)]) hx hb dX12_areFactsSo_55 hl (by decide) rfl (fun ls hl => ?_)
        refine lv_aload_n hx hb dX12_areFactsSo_57 rfl (lv_at hl 2 rfl) ?_
        refine x_getR X hK hw (ml_mem0 mb) (ml_S0 mb) cpX12 20 (by decide) rfl (ml_R mb 20 rfl) tw_1271 dX12_areFactsSo_58 ?_
        refine lv_iload hx hb dX12_areFactsSo_61 (lv_at hl 1 rfl) ?_
        refine lv_iconst (v := (1 : Int32)) hx hb dX12_areFactsSo_63 (by decide) ?_
        refine lv_iadd hx hb dX12_areFactsSo_64 ?_
        refine x_iald X hK hw (ml_mem mb 10 (by decide)) (ml_S mb 10 rfl) hi_5 rfl dX12_areFactsSo_65 ?_
        refine lv_iconst (v := (2 : Int32)) hx hb dX12_areFactsSo_66 (by decide) ?_
        refine lv_irem hx hb dX12_areFactsSo_67 (by decide) ?_
        refine lv_if_ne (tgt := 88) hx hb dX12_areFactsSo_68 (by decide) (fun c_10 => ?_) (fun c_10 => ?_)
        · have hf := yb_neg c_10 hf
          refine lv_iload hx hb dX12_areFactsSo_88 (lv_at hl 0 rfl) ?_
          refine lv_aload_n hx hb dX12_areFactsSo_90 rfl (lv_at hl 2 rfl) ?_
          refine x_getR X hK hw (ml_mem0 mb) (ml_S0 mb) cpX12 20 (by decide) rfl (ml_R mb 20 rfl) tw_1271 dX12_areFactsSo_91 ?_
          refine lv_iload hx hb dX12_areFactsSo_94 (lv_at hl 1 rfl) ?_
          refine lv_iconst (v := (2 : Int32)) hx hb dX12_areFactsSo_96 (by decide) ?_
          refine lv_iadd hx hb dX12_areFactsSo_97 ?_
          obtain ⟨hi_11, hf⟩ := yb_ck_some hf
          refine x_iald X hK hw (ml_mem mb 10 (by decide)) (ml_S mb 10 rfl) hi_11 rfl dX12_areFactsSo_98 ?_
          refine lv_icmp_le (tgt := 104) hx hb dX12_areFactsSo_99 (by decide) (fun c_12 => ?_) (fun c_12 => ?_)
          · have hf := yb_pos c_12 hf
            obtain ⟨x4_13, ex4_13, hf⟩ := yb_let_ex hf
            refine lv_iinc (v := x4_13) (lv' := [(4, .int x4_13), (6, .int r_6), (5, .int x5_2), (0, .ref mb), (1, .int x1), (2, .int x2), (3, .int x3)]) hx hb dX12_areFactsSo_104 hl (k := 6) rfl (by rw [ex4_13]; rfl) (by decide) rfl (fun ls hl => ?_)
            refine lv_goto (tgt := 3) hx hb dX12_areFactsSo_107 (by decide) ?_
            exact ih _ _ _ _ _ _ _ _ _ hf hw (lv_sub hl [3, 4, 5, 6, 0] rfl) hret hfin hexit
          · have hf := yb_neg c_12 hf
            refine lv_iconst (v := (0 : Int32)) hx hb dX12_areFactsSo_102 (by decide) ?_
            exact yb_retz hfin (by decide) (yb_inl hret hf) hw dX12_areFactsSo_103
        · have hf := yb_pos c_10 hf
          refine lv_iload hx hb dX12_areFactsSo_71 (lv_at hl 0 rfl) ?_
          refine lv_aload_n hx hb dX12_areFactsSo_73 rfl (lv_at hl 2 rfl) ?_
          refine x_getR X hK hw (ml_mem0 mb) (ml_S0 mb) cpX12 20 (by decide) rfl (ml_R mb 20 rfl) tw_1271 dX12_areFactsSo_74 ?_
          refine lv_iload hx hb dX12_areFactsSo_77 (lv_at hl 1 rfl) ?_
          refine lv_iconst (v := (2 : Int32)) hx hb dX12_areFactsSo_79 (by decide) ?_
          refine lv_iadd hx hb dX12_areFactsSo_80 ?_
          obtain ⟨hi_14, hf⟩ := yb_ck_some hf
          refine x_iald X hK hw (ml_mem mb 10 (by decide)) (ml_S mb 10 rfl) hi_14 rfl dX12_areFactsSo_81 ?_
          refine lv_icmp_ge (tgt := 104) hx hb dX12_areFactsSo_82 (by decide) (fun c_15 => ?_) (fun c_15 => ?_)
          · have hf := yb_pos c_15 hf
            obtain ⟨x4_16, ex4_16, hf⟩ := yb_let_ex hf
            refine lv_iinc (v := x4_16) (lv' := [(4, .int x4_16), (6, .int r_6), (5, .int x5_2), (0, .ref mb), (1, .int x1), (2, .int x2), (3, .int x3)]) hx hb dX12_areFactsSo_104 hl (k := 6) rfl (by rw [ex4_16]; rfl) (by decide) rfl (fun ls hl => ?_)
            refine lv_goto (tgt := 3) hx hb dX12_areFactsSo_107 (by decide) ?_
            exact ih _ _ _ _ _ _ _ _ _ hf hw (lv_sub hl [3, 4, 5, 6, 0] rfl) hret hfin hexit
          · have hf := yb_neg c_15 hf
            refine lv_goto (tgt := 102) hx hb dX12_areFactsSo_85 (by decide) ?_
            refine lv_iconst (v := (0 : Int32)) hx hb dX12_areFactsSo_102 (by decide) ?_
            exact yb_retz hfin (by decide) (yb_inl hret hf) hw dX12_areFactsSo_103
      · have hf := yb_neg c_4 hf
        refine lv_goto (tgt := 104) hx hb dX12_areFactsSo_36 (by decide) ?_
        obtain ⟨x4_17, ex4_17, hf⟩ := yb_let_ex hf
        refine lv_iinc (v := x4_17) (lv' := [(4, .int x4_17), (5, .int x5_2), (0, .ref mb), (1, .int x1), (2, .int x2), (3, .int x3)]) hx hb dX12_areFactsSo_104 hl (k := 5) rfl (by rw [ex4_17]; rfl) (by decide) rfl (fun ls hl => ?_)
        refine lv_goto (tgt := 3) hx hb dX12_areFactsSo_107 (by decide) ?_
        exact ih _ _ _ _ _ _ _ _ _ hf hw (lv_sub hl [2, 3, 4, 5, 0] rfl) hret hfin hexit
set_option maxHeartbeats 4000000 in
set_option maxRecDepth 100000 in
theorem c12_areFactsSo (l : Launch) (D : va_G) (cz : Nat → ClassId) (ev : Nat × Nat × Nat) (mb : Nat) {N : Nat} {x1 : Int32} {x2 : Int32} {x3 : Int32} {I : IT} {J : JT} {r : Int32} {I1 : IT} {J1 : JT} (hf : f12_areFactsSo N mb x1 x2 x3 I J = some (r, I1, J1)) : MTi l D cz ev yX12_areFactsSo cX12_areFactsSo 7 (some .boolean) 6 153 [.ref mb, .int x1, .int x2, .int x3] (mlL mb) (mlS mb) (mlR mb) I J r I1 J1 := by
  unfold f12_areFactsSo at hf
  refine MTz_of (by decide) (Nat.le_of_ble_eq_true rfl) ?_
  intro p e s m args below meth c Q ls X hK hw hl hfin
  have X : CallFix p m c cX12_areFactsSo 7 s args gw RX12 := X
  have hx := X.1
  have hb := X.2.1
  have hl : lv_has ls 7 [(0, .ref mb), (1, .int x1), (2, .int x2), (3, .int x3)] := hl
  refine lv_iconst (v := (0 : Int32)) hx hb dX12_areFactsSo_0 (by decide) ?_
  refine lv_istore (lv' := [(4, .int (0 : Int32)), (0, .ref mb), (1, .int x1), (2, .int x2), (3, .int x3)]) hx hb dX12_areFactsSo_1 hl (by decide) rfl (fun ls hl => ?_)
  obtain ⟨q_18, I_19, J_20, hq_21, hf⟩ := yb_b3_some hf
  refine w12_areFactsSo_L3 X hK _ _ _ _ _ _ _ _ _ _ hq_21 hw (lv_sub hl [1, 2, 3, 4, 0] rfl) (fun v hv => by rw [hv] at hf; exact hf) hfin (fun x_23 hx1 H locs ls hw hl => ?_)
  rw [hx1] at hf
  have hf := yb_sm_r hf
  refine lv_iconst (v := (1 : Int32)) hx hb dX12_areFactsSo_110 (by decide) ?_
  exact yb_retz hfin (by decide) hf hw dX12_areFactsSo_111
set_option maxHeartbeats 4000000 in
set_option maxRecDepth 100000 in
theorem w12_gathersWho_L19 {p : Program} {l : Launch} {e : Env} {s : State} {m : MethodId} {args : Array Value} {below : List Frame} {meth : Method} {c : Code} {Q : State → Prop} {D : va_G} {cz : Nat → ClassId} {A : Nat → Prop} {ev : Nat × Nat × Nat} {mb : Nat} (X : CallFix p m c cX12_gathersWho 4 s args gw RX12) (hK : KX D cz ev A s) {N : Nat} {x1 : Int32} {x2 : Int32} :
    ∀ (n : Nat) (x3 : Int32) (I : IT) (J : JT) (q : (Unit)) (I1 : IT) (J1 : JT) (H : Heap) (locs : List Loc) (ls : Array Slot), f12_gathersWho_L19 N mb x1 x2 n x3 I J = some (q, I1, J1) → WX D cz A (mlL mb) (mlS mb) (mlR mb) s.heap I J H locs → lv_has ls 4 [(0, .ref mb), (1, .int x1), (2, .int x2), (3, .int x3)] →
    (∀ (H : Heap) (locs : List Loc) (ls : Array Slot), WX D cz A (mlL mb) (mlS mb) (mlR mb) s.heap I1 J1 H locs → lv_has ls 4 [(0, .ref mb), (1, .int x1), (2, .int x2)] → W p l e (rmX 7 179) s m args below meth c H locs 0 0 Q (F0 m 84 ls [])) →
    W p l e (rmX 7 179) s m args below meth c H locs 0 0 Q (F0 m 19 ls []) := by
  have hx := X.1
  have hb := X.2.1
  intro n
  induction n with
  | zero =>
    intro x3 I J q I1 J1 H locs ls hf
    rw [f12_gathersWho_L19] at hf
    cases hf
  | succ n ih =>
    intro x3 I J q I1 J1 H locs ls hf hw hl hexit
    rw [f12_gathersWho_L19] at hf
    refine lv_iload_n hx hb dX12_gathersWho_19 rfl (lv_at hl 3 rfl) ?_
    refine lv_bipush (v := (60 : Int32)) hx hb dX12_gathersWho_20 (by decide) ?_
    refine lv_icmp_gt (tgt := 84) hx hb dX12_gathersWho_22 (by decide) (fun c_3 => ?_) (fun c_3 => ?_)
    · have hf := yb_pos c_3 hf
      obtain ⟨rfl, rfl, rfl⟩ := yb_inj hf
      exact hexit _ _ _ hw (lv_sub hl [0, 1, 2] rfl)
    · have hf := yb_neg c_3 hf
      refine lv_aload_n hx hb dX12_gathersWho_25 rfl (lv_at hl 0 rfl) ?_
      refine lv_iload_n hx hb dX12_gathersWho_26 rfl (lv_at hl 1 rfl) ?_
      refine lv_iload_n hx hb dX12_gathersWho_27 rfl (lv_at hl 2 rfl) ?_
      refine lv_iload_n hx hb dX12_gathersWho_28 rfl (lv_at hl 3 rfl) ?_
      obtain ⟨r_4, I_5, J_6, hq_7, hf⟩ := yb_b3_some hf
      refine x_calli X hK hw (c12_canHear l D cz ev mb hq_7) (ml_mem0 mb) (ml_S0 mb) cpX12.1 vw_X12_354 ⟨Nat.le_of_ble_eq_true rfl, Nat.le_of_ble_eq_true rfl⟩ rfl rfl (Nat.le_of_ble_eq_true rfl) hl.1 ⟨Nat.le_refl _, Nat.le_refl _⟩ dX12_gathersWho_29 (fun H locs hw => ?_)
      refine lv_if_eq (tgt := 78) hx hb dX12_gathersWho_32 (by decide) (fun c_8 => ?_) (fun c_8 => ?_)
      · have hf := yb_pos c_8 hf
        obtain ⟨x3_9, ex3_9, hf⟩ := yb_let_ex hf
        refine lv_iinc (v := x3_9) (lv' := [(3, .int x3_9), (0, .ref mb), (1, .int x1), (2, .int x2)]) hx hb dX12_gathersWho_78 hl (k := 3) rfl (by rw [ex3_9]; rfl) (by decide) rfl (fun ls hl => ?_)
        refine lv_goto (tgt := 19) hx hb dX12_gathersWho_81 (by decide) ?_
        exact ih _ _ _ _ _ _ _ _ _ hf hw (lv_sub hl [1, 2, 3, 0] rfl) hexit
      · have hf := yb_neg c_8 hf
        refine lv_aload_n hx hb dX12_gathersWho_35 rfl (lv_at hl 0 rfl) ?_
        refine lv_iload_n hx hb dX12_gathersWho_36 rfl (lv_at hl 1 rfl) ?_
        refine lv_iload_n hx hb dX12_gathersWho_37 rfl (lv_at hl 2 rfl) ?_
        refine lv_iload_n hx hb dX12_gathersWho_38 rfl (lv_at hl 3 rfl) ?_
        obtain ⟨r_10, I_11, J_12, hq_13, hf⟩ := yb_b3_some hf
        refine x_calli X hK hw (c12_areFactsSo l D cz ev mb hq_13) (ml_mem0 mb) (ml_S0 mb) cpX12.1 vw_X12_475 ⟨Nat.le_of_ble_eq_true rfl, Nat.le_of_ble_eq_true rfl⟩ rfl rfl (Nat.le_of_ble_eq_true rfl) hl.1 ⟨Nat.le_refl _, Nat.le_refl _⟩ dX12_gathersWho_39 (fun H locs hw => ?_)
        refine lv_if_ne (tgt := 48) hx hb dX12_gathersWho_42 (by decide) (fun c_14 => ?_) (fun c_14 => ?_)
        · have hf := yb_neg c_14 hf
          refine lv_aload_n hx hb dX12_gathersWho_48 rfl (lv_at hl 0 rfl) ?_
          refine x_getR X hK hw (ml_mem0 mb) (ml_S0 mb) cpX12 39 (by decide) rfl (ml_R mb 39 rfl) tw_1290 dX12_gathersWho_49 ?_
          refine lv_aload_n hx hb dX12_gathersWho_52 rfl (lv_at hl 0 rfl) ?_
          refine x_getI X hK hw (ml_mem0 mb) (ml_S0 mb) cpX12 38 (by decide) rfl tw_1289 dX12_gathersWho_53 ?_
          refine lv_iload_n hx hb dX12_gathersWho_56 rfl (lv_at hl 2 rfl) ?_
          obtain ⟨hi_15, hf⟩ := yb_ck_some hf
          refine x_iast X hK hw (ml_mem mb 22 (by decide)) (ml_S mb 22 rfl) hi_15 rfl dX12_gathersWho_57 (fun H locs hw => ?_)
          obtain ⟨I_16, eI_16, hf⟩ := yb_let_ex hf
          have hw := yb_wI eI_16 hw
          refine lv_aload_n hx hb dX12_gathersWho_58 rfl (lv_at hl 0 rfl) ?_
          refine x_getR X hK hw (ml_mem0 mb) (ml_S0 mb) cpX12 40 (by decide) rfl (ml_R mb 40 rfl) tw_1291 dX12_gathersWho_59 ?_
          refine lv_aload_n hx hb dX12_gathersWho_62 rfl (lv_at hl 0 rfl) ?_
          refine x_getI X hK hw (ml_mem0 mb) (ml_S0 mb) cpX12 38 (by decide) rfl tw_1289 dX12_gathersWho_63 ?_
          refine lv_iload_n hx hb dX12_gathersWho_66 rfl (lv_at hl 3 rfl) ?_
          obtain ⟨hi_17, hf⟩ := yb_ck_some hf
          refine x_iast X hK hw (ml_mem mb 23 (by decide)) (ml_S mb 23 rfl) hi_17 rfl dX12_gathersWho_67 (fun H locs hw => ?_)
          obtain ⟨I_18, eI_18, hf⟩ := yb_let_ex hf
          have hw := yb_wI eI_18 hw
          refine lv_aload_n hx hb dX12_gathersWho_68 rfl (lv_at hl 0 rfl) ?_
          refine lv_dup hx hb dX12_gathersWho_69 rfl ?_
          refine x_getI X hK hw (ml_mem0 mb) (ml_S0 mb) cpX12 38 (by decide) rfl tw_1289 dX12_gathersWho_70 ?_
          refine lv_iconst (v := (1 : Int32)) hx hb dX12_gathersWho_73 (by decide) ?_
          refine lv_iadd hx hb dX12_gathersWho_74 ?_
          refine x_putI X hK hw (ml_mem0 mb) (ml_S0 mb) cpX12 38 (by decide) rfl rfl rfl tw_1289 dX12_gathersWho_75 (fun H locs hw => ?_)
          obtain ⟨I_19, eI_19, hf⟩ := yb_let_ex hf
          have hw := yb_wI eI_19 hw
          obtain ⟨x3_20, ex3_20, hf⟩ := yb_let_ex hf
          refine lv_iinc (v := x3_20) (lv' := [(3, .int x3_20), (0, .ref mb), (1, .int x1), (2, .int x2)]) hx hb dX12_gathersWho_78 hl (k := 3) rfl (by rw [ex3_20]; rfl) (by decide) rfl (fun ls hl => ?_)
          refine lv_goto (tgt := 19) hx hb dX12_gathersWho_81 (by decide) ?_
          exact ih _ _ _ _ _ _ _ _ _ hf hw (lv_sub hl [1, 2, 3, 0] rfl) hexit
        · have hf := yb_pos c_14 hf
          refine lv_goto (tgt := 78) hx hb dX12_gathersWho_45 (by decide) ?_
          obtain ⟨x3_21, ex3_21, hf⟩ := yb_let_ex hf
          refine lv_iinc (v := x3_21) (lv' := [(3, .int x3_21), (0, .ref mb), (1, .int x1), (2, .int x2)]) hx hb dX12_gathersWho_78 hl (k := 3) rfl (by rw [ex3_21]; rfl) (by decide) rfl (fun ls hl => ?_)
          refine lv_goto (tgt := 19) hx hb dX12_gathersWho_81 (by decide) ?_
          exact ih _ _ _ _ _ _ _ _ _ hf hw (lv_sub hl [1, 2, 3, 0] rfl) hexit
set_option maxHeartbeats 4000000 in
set_option maxRecDepth 100000 in
theorem w12_gathersWho_L7 {p : Program} {l : Launch} {e : Env} {s : State} {m : MethodId} {args : Array Value} {below : List Frame} {meth : Method} {c : Code} {Q : State → Prop} {D : va_G} {cz : Nat → ClassId} {A : Nat → Prop} {ev : Nat × Nat × Nat} {mb : Nat} (X : CallFix p m c cX12_gathersWho 4 s args gw RX12) (hK : KX D cz ev A s) {N : Nat} {x1 : Int32} :
    ∀ (n : Nat) (x2 : Int32) (I : IT) (J : JT) (q : (Unit)) (I1 : IT) (J1 : JT) (H : Heap) (locs : List Loc) (ls : Array Slot), f12_gathersWho_L7 N mb x1 n x2 I J = some (q, I1, J1) → WX D cz A (mlL mb) (mlS mb) (mlR mb) s.heap I J H locs → lv_has ls 4 [(0, .ref mb), (1, .int x1), (2, .int x2)] →
    (∀ (H : Heap) (locs : List Loc) (ls : Array Slot), WX D cz A (mlL mb) (mlS mb) (mlR mb) s.heap I1 J1 H locs → lv_has ls 4 [] → W p l e (rmX 7 179) s m args below meth c H locs 0 0 Q (F0 m 90 ls [])) →
    W p l e (rmX 7 179) s m args below meth c H locs 0 0 Q (F0 m 7 ls []) := by
  have hx := X.1
  have hb := X.2.1
  intro n
  induction n with
  | zero =>
    intro x2 I J q I1 J1 H locs ls hf
    rw [f12_gathersWho_L7] at hf
    cases hf
  | succ n ih =>
    intro x2 I J q I1 J1 H locs ls hf hw hl hexit
    rw [f12_gathersWho_L7] at hf
    refine lv_iload_n hx hb dX12_gathersWho_7 rfl (lv_at hl 2 rfl) ?_
    refine lv_aload_n hx hb dX12_gathersWho_8 rfl (lv_at hl 0 rfl) ?_
    refine x_getR X hK hw (ml_mem0 mb) (ml_S0 mb) cpX12 20 (by decide) rfl (ml_R mb 20 rfl) tw_1271 dX12_gathersWho_9 ?_
    refine lv_iconst (v := (2 : Int32)) hx hb dX12_gathersWho_12 (by decide) ?_
    refine x_iald X hK hw (ml_mem mb 10 (by decide)) (ml_S mb 10 rfl) (by decide) rfl dX12_gathersWho_13 ?_
    refine lv_icmp_ge (tgt := 90) hx hb dX12_gathersWho_14 (by decide) (fun c_2 => ?_) (fun c_2 => ?_)
    · have hf := yb_pos c_2 hf
      obtain ⟨rfl, rfl, rfl⟩ := yb_inj hf
      exact hexit _ _ _ hw (lv_sub hl [] rfl)
    · have hf := yb_neg c_2 hf
      refine lv_iconst (v := (0 : Int32)) hx hb dX12_gathersWho_17 (by decide) ?_
      refine lv_istore_n (lv' := [(3, .int (0 : Int32)), (0, .ref mb), (1, .int x1), (2, .int x2)]) hx hb dX12_gathersWho_18 rfl hl (by decide) rfl (fun ls hl => ?_)
      obtain ⟨q_22, I_23, J_24, hq_25, hf⟩ := yb_b3_some hf
      refine w12_gathersWho_L19 X hK _ _ _ _ _ _ _ _ _ _ hq_25 hw (lv_sub hl [1, 2, 3, 0] rfl) (fun H locs ls hw hl => ?_)
      obtain ⟨x2_26, ex2_26, hf⟩ := yb_let_ex hf
      refine lv_iinc (v := x2_26) (lv' := [(2, .int x2_26), (0, .ref mb), (1, .int x1)]) hx hb dX12_gathersWho_84 hl (k := 2) rfl (by rw [ex2_26]; rfl) (by decide) rfl (fun ls hl => ?_)
      refine lv_goto (tgt := 7) hx hb dX12_gathersWho_87 (by decide) ?_
      exact ih _ _ _ _ _ _ _ _ _ hf hw (lv_sub hl [1, 2, 0] rfl) hexit
set_option maxHeartbeats 4000000 in
set_option maxRecDepth 100000 in
theorem c12_gathersWho (l : Launch) (D : va_G) (cz : Nat → ClassId) (ev : Nat × Nat × Nat) (mb : Nat) {N : Nat} {x1 : Int32} {I : IT} {J : JT} {r : Unit} {I1 : IT} {J1 : JT} (hf : f12_gathersWho N mb x1 I J = some (r, I1, J1)) : MTv l D cz ev yX12_gathersWho cX12_gathersWho 4 (none) 7 179 [.ref mb, .int x1] (mlL mb) (mlS mb) (mlR mb) I J r I1 J1 := by
  unfold f12_gathersWho at hf
  refine MTv_of (by decide) (Nat.le_of_ble_eq_true rfl) ?_
  intro p e s m args below meth c Q ls X hK hw hl hfin
  have X : CallFix p m c cX12_gathersWho 4 s args gw RX12 := X
  have hx := X.1
  have hb := X.2.1
  have hl : lv_has ls 4 [(0, .ref mb), (1, .int x1)] := hl
  refine lv_aload_n hx hb dX12_gathersWho_0 rfl (lv_at hl 0 rfl) ?_
  refine lv_iconst (v := (0 : Int32)) hx hb dX12_gathersWho_1 (by decide) ?_
  refine x_putI X hK hw (ml_mem0 mb) (ml_S0 mb) cpX12 38 (by decide) rfl rfl rfl tw_1289 dX12_gathersWho_2 (fun H locs hw => ?_)
  obtain ⟨I_1, eI_1, hf⟩ := yb_let_ex hf
  have hw := yb_wI eI_1 hw
  refine lv_iconst (v := (0 : Int32)) hx hb dX12_gathersWho_5 (by decide) ?_
  refine lv_istore_n (lv' := [(2, .int (0 : Int32)), (0, .ref mb), (1, .int x1)]) hx hb dX12_gathersWho_6 rfl hl (by decide) rfl (fun ls hl => ?_)
  obtain ⟨q_27, I_28, J_29, hq_30, hf⟩ := yb_b3_some hf
  refine w12_gathersWho_L7 X hK _ _ _ _ _ _ _ _ _ _ hq_30 hw (lv_sub hl [1, 2, 0] rfl) (fun H locs ls hw hl => ?_)
  exact yb_retv hfin hf hw dX12_gathersWho_90
set_option maxHeartbeats 4000000 in
set_option maxRecDepth 100000 in
theorem w12_who_L32 {p : Program} {l : Launch} {e : Env} {s : State} {m : MethodId} {args : Array Value} {below : List Frame} {meth : Method} {c : Code} {Q : State → Prop} {D : va_G} {cz : Nat → ClassId} {A : Nat → Prop} {ev : Nat × Nat × Nat} {mb : Nat} (X : CallFix p m c cX12_who 5 s args gw RX12) (hK : KX D cz ev A s) {N : Nat} {x2 : Int32} :
    ∀ (n : Nat) (x3 : Int32) (x4 : Int32) (I : IT) (J : JT) (q : (Int32)) (I1 : IT) (J1 : JT) (H : Heap) (locs : List Loc) (ls : Array Slot), f12_who_L32 N mb x2 n x3 x4 I J = some (q, I1, J1) → WX D cz A (mlL mb) (mlS mb) (mlR mb) s.heap I J H locs → lv_has ls 5 [(0, .ref mb), (2, .int x2), (3, .int x3), (4, .int x4)] →
    (∀ (H : Heap) (locs : List Loc) (ls : Array Slot), WX D cz A (mlL mb) (mlS mb) (mlR mb) s.heap I1 J1 H locs → lv_has ls 5 [(0, .ref mb), (2, .int x2), (3, .int q)] → W p l e (rmX 8 202) s m args below meth c H locs 0 0 Q (F0 m 59 ls [])) →
    W p l e (rmX 8 202) s m args below meth c H locs 0 0 Q (F0 m 32 ls []) := by
  have hx := X.1
  have hb := X.2.1
  intro n
  induction n with
  | zero =>
    intro x3 x4 I J q I1 J1 H locs ls hf
    rw [f12_who_L32] at hf
    cases hf
  | succ n ih =>
    intro x3 x4 I J q I1 J1 H locs ls hf hw hl hexit
    rw [f12_who_L32] at hf
    refine lv_iload hx hb dX12_who_32 (lv_at hl 3 rfl) ?_
    refine lv_aload_n hx hb dX12_who_34 rfl (lv_at hl 0 rfl) ?_
    refine x_getI X hK hw (ml_mem0 mb) (ml_S0 mb) cpX12 38 (by decide) rfl tw_1289 dX12_who_35 ?_
    refine lv_icmp_ge (tgt := 59) hx hb dX12_who_38 (by decide) (fun c_15 => ?_) (fun c_15 => ?_)
    · have hf := yb_pos c_15 hf
      obtain ⟨rfl, rfl, rfl⟩ := yb_inj hf
      exact hexit _ _ _ hw (lv_sub hl [0, 1, 2] rfl)
    · have hf := yb_neg c_15 hf
      refine lv_iload_n hx hb dX12_who_41 rfl (lv_at hl 2 rfl) ?_
      refine lv_iconst (v := (1 : Int32)) hx hb dX12_who_42 (by decide) ?_
      refine lv_aload_n hx hb dX12_who_43 rfl (lv_at hl 0 rfl) ?_
      refine x_getR X hK hw (ml_mem0 mb) (ml_S0 mb) cpX12 39 (by decide) rfl (ml_R mb 39 rfl) tw_1290 dX12_who_44 ?_
      refine lv_iload hx hb dX12_who_47 (lv_at hl 3 rfl) ?_
      obtain ⟨hi_16, hf⟩ := yb_ck_some hf
      refine x_iald X hK hw (ml_mem mb 22 (by decide)) (ml_S mb 22 rfl) hi_16 rfl dX12_who_49 ?_
      refine lv_ishl hx hb dX12_who_50 ?_
      refine lv_ior hx hb dX12_who_51 ?_
      refine lv_topi (fun x3_17 ex3_17 => ?_)
      have hf := yb_let_to ex3_17 hf
      refine lv_istore_n (lv' := [(3, .int x3_17), (0, .ref mb), (2, .int x2), (4, .int x4)]) hx hb dX12_who_52 rfl hl (by decide) rfl (fun ls hl => ?_)
      obtain ⟨x4_18, ex4_18, hf⟩ := yb_let_ex hf
      refine lv_iinc (v := x4_18) (lv' := [(4, .int x4_18), (3, .int x3_17), (0, .ref mb), (2, .int x2)]) hx hb dX12_who_53 hl (k := 3) rfl (by rw [ex4_18]; rfl) (by decide) rfl (fun ls hl => ?_)
      refine lv_goto (tgt := 32) hx hb dX12_who_56 (by decide) ?_
      exact ih _ _ _ _ _ _ _ _ _ _ hf hw (lv_sub hl [2, 3, 1, 0] rfl) hexit
set_option maxHeartbeats 4000000 in
set_option maxRecDepth 100000 in
theorem c12_who (l : Launch) (D : va_G) (cz : Nat → ClassId) (ev : Nat × Nat × Nat) (mb : Nat) {N : Nat} {x1 : Int32} {x2 : Int32} {I : IT} {J : JT} {r : Int32} {I1 : IT} {J1 : JT} (hf : f12_who N mb x1 x2 I J = some (r, I1, J1)) : MTi l D cz ev yX12_who cX12_who 5 (some .int) 8 202 [.ref mb, .int x1, .int x2] (mlL mb) (mlS mb) (mlR mb) I J r I1 J1 := by
  unfold f12_who at hf
  refine MTi_of (by decide) (Nat.le_of_ble_eq_true rfl) ?_
  intro p e s m args below meth c Q ls X hK hw hl hfin
  have X : CallFix p m c cX12_who 5 s args gw RX12 := X
  have hx := X.1
  have hb := X.2.1
  have hl : lv_has ls 5 [(0, .ref mb), (1, .int x1), (2, .int x2)] := hl
  refine lv_aload_n hx hb dX12_who_0 rfl (lv_at hl 0 rfl) ?_
  refine lv_iload_n hx hb dX12_who_1 rfl (lv_at hl 1 rfl) ?_
  obtain ⟨r_1, I_2, J_3, hq_4, hf⟩ := yb_b3_some hf
  refine x_calli X hK hw (c12_isCase l D cz ev mb hq_4) (ml_mem0 mb) (ml_S0 mb) cpX12.1 vw_X12_347 ⟨Nat.le_of_ble_eq_true rfl, Nat.le_of_ble_eq_true rfl⟩ rfl rfl (Nat.le_of_ble_eq_true rfl) hl.1 ⟨Nat.le_refl _, Nat.le_refl _⟩ dX12_who_2 (fun H locs hw => ?_)
  refine lv_if_eq (tgt := 20) hx hb dX12_who_5 (by decide) (fun c_5 => ?_) (fun c_5 => ?_)
  · have hf := yb_pos c_5 hf
    refine lv_iconst (v := (-1 : Int32)) hx hb dX12_who_20 (by decide) ?_
    exact yb_reti hfin hf hw dX12_who_21
  · have hf := yb_neg c_5 hf
    refine lv_iload_n hx hb dX12_who_8 rfl (lv_at hl 2 rfl) ?_
    refine lv_i2l hx hb dX12_who_9 rfl ?_
    refine lv_lconst (v := (0 : Int64)) hx hb dX12_who_10 (by decide) ?_
    refine lv_ldc2 (v := (3 : Int64)) hx hb X.2.2.2.1 (X.2.2.2.2 _ tw_1813) dX12_who_11 ?_
    obtain ⟨r_6, I_7, J_8, hq_9, hf⟩ := yb_b3_some hf
    refine x_callsi X hK hw (c12_in l D cz ev mb hq_9) sw_X12_142 ⟨Nat.le_of_ble_eq_true rfl, Nat.le_of_ble_eq_true rfl⟩ rfl rfl (Nat.le_of_ble_eq_true rfl) hl.1 ⟨Nat.le_refl _, Nat.le_refl _⟩ dX12_who_14 (fun H locs hw => ?_)
    refine lv_if_ne (tgt := 22) hx hb dX12_who_17 (by decide) (fun c_10 => ?_) (fun c_10 => ?_)
    · have hf := yb_neg c_10 hf
      refine lv_aload_n hx hb dX12_who_22 rfl (lv_at hl 0 rfl) ?_
      refine lv_iload_n hx hb dX12_who_23 rfl (lv_at hl 1 rfl) ?_
      obtain ⟨r_11, I_12, J_13, hq_14, hf⟩ := yb_b3_some hf
      refine x_callv X hK hw (c12_gathersWho l D cz ev mb hq_14) (ml_mem0 mb) (ml_S0 mb) cpX12.1 vw_X12_478 ⟨Nat.le_of_ble_eq_true rfl, Nat.le_of_ble_eq_true rfl⟩ rfl rfl (Nat.le_of_ble_eq_true rfl) hl.1 ⟨Nat.le_refl _, Nat.le_refl _⟩ dX12_who_24 (fun H locs hw => ?_)
      refine lv_iconst (v := (0 : Int32)) hx hb dX12_who_27 (by decide) ?_
      refine lv_istore_n (lv' := [(3, .int (0 : Int32)), (0, .ref mb), (1, .int x1), (2, .int x2)]) hx hb dX12_who_28 rfl hl (by decide) rfl (fun ls hl => ?_)
      refine lv_iconst (v := (0 : Int32)) hx hb dX12_who_29 (by decide) ?_
      refine lv_istore (lv' := [(4, .int (0 : Int32)), (3, .int (0 : Int32)), (0, .ref mb), (1, .int x1), (2, .int x2)]) hx hb dX12_who_30 hl (by decide) rfl (fun ls hl => ?_)
      obtain ⟨q_19, I_20, J_21, hq_22, hf⟩ := yb_b3_some hf
      refine w12_who_L32 X hK _ _ _ _ _ _ _ _ _ _ _ hq_22 hw (lv_sub hl [2, 4, 1, 0] rfl) (fun H locs ls hw hl => ?_)
      refine lv_iload_n hx hb dX12_who_59 rfl (lv_at hl 1 rfl) ?_
      refine lv_if_ne (tgt := 68) hx hb dX12_who_60 (by decide) (fun c_23 => ?_) (fun c_23 => ?_)
      · have hf := yb_neg c_23 hf
        refine lv_iload_n hx hb dX12_who_68 rfl (lv_at hl 1 rfl) ?_
        refine lv_iconst (v := (3 : Int32)) hx hb dX12_who_69 (by decide) ?_
        refine lv_icmp_ne (tgt := 75) hx hb dX12_who_70 (by decide) (fun c_24 => ?_) (fun c_24 => ?_)
        · have hf := yb_neg c_24 hf
          refine lv_aload_n hx hb dX12_who_75 rfl (lv_at hl 0 rfl) ?_
          refine x_getI X hK hw (ml_mem0 mb) (ml_S0 mb) cpX12 38 (by decide) rfl tw_1289 dX12_who_76 ?_
          refine lv_if_ne (tgt := 87) hx hb dX12_who_79 (by decide) (fun c_25 => ?_) (fun c_25 => ?_)
          · have hf := yb_neg c_25 hf
            refine lv_iload_n hx hb dX12_who_87 rfl (lv_at hl 1 rfl) ?_
            refine lv_iconst (v := (1 : Int32)) hx hb dX12_who_88 (by decide) ?_
            refine lv_icmp_ne (tgt := 101) hx hb dX12_who_89 (by decide) (fun c_26 => ?_) (fun c_26 => ?_)
            · have hf := yb_neg c_26 hf
              refine lv_aload_n hx hb dX12_who_101 rfl (lv_at hl 0 rfl) ?_
              refine x_getR X hK hw (ml_mem0 mb) (ml_S0 mb) cpX12 40 (by decide) rfl (ml_R mb 40 rfl) tw_1291 dX12_who_102 ?_
              refine lv_iconst (v := (0 : Int32)) hx hb dX12_who_105 (by decide) ?_
              refine x_iald X hK hw (ml_mem mb 23 (by decide)) (ml_S mb 23 rfl) (by decide) rfl dX12_who_106 ?_
              exact yb_reti hfin hf hw dX12_who_107
            · have hf := yb_pos c_26 hf
              refine lv_aload_n hx hb dX12_who_92 rfl (lv_at hl 0 rfl) ?_
              refine x_getR X hK hw (ml_mem0 mb) (ml_S0 mb) cpX12 39 (by decide) rfl (ml_R mb 39 rfl) tw_1290 dX12_who_93 ?_
              refine lv_iconst (v := (0 : Int32)) hx hb dX12_who_96 (by decide) ?_
              refine x_iald X hK hw (ml_mem mb 22 (by decide)) (ml_S mb 22 rfl) (by decide) rfl dX12_who_97 ?_
              refine lv_goto (tgt := 107) hx hb dX12_who_98 (by decide) ?_
              exact yb_reti hfin hf hw dX12_who_107
          · have hf := yb_pos c_25 hf
            refine lv_bipush (v := (-2 : Int32)) hx hb dX12_who_82 (by decide) ?_
            refine lv_goto (tgt := 107) hx hb dX12_who_84 (by decide) ?_
            exact yb_reti hfin hf hw dX12_who_107
        · have hf := yb_pos c_24 hf
          refine lv_iload_n hx hb dX12_who_73 rfl (lv_at hl 2 rfl) ?_
          exact yb_reti hfin hf hw dX12_who_74
      · have hf := yb_pos c_23 hf
        refine lv_aload_n hx hb dX12_who_63 rfl (lv_at hl 0 rfl) ?_
        refine x_getI X hK hw (ml_mem0 mb) (ml_S0 mb) cpX12 38 (by decide) rfl tw_1289 dX12_who_64 ?_
        exact yb_reti hfin hf hw dX12_who_67
    · have hf := yb_pos c_10 hf
      refine lv_iconst (v := (-1 : Int32)) hx hb dX12_who_20 (by decide) ?_
      exact yb_reti hfin hf hw dX12_who_21
set_option maxHeartbeats 4000000 in
set_option maxRecDepth 100000 in
theorem w12_alikeBy_L2 {p : Program} {l : Launch} {e : Env} {s : State} {m : MethodId} {args : Array Value} {below : List Frame} {meth : Method} {c : Code} {Q : State → Prop} {D : va_G} {cz : Nat → ClassId} {A : Nat → Prop} {ev : Nat × Nat × Nat} {mb : Nat} (X : CallFix p m c cX12_alikeBy 7 s args gw RX12) (hK : KX D cz ev A s) {N : Nat} {x1 : Int32} {x2 : Int32} :
    ∀ (n : Nat) (x3 : Int32) (I : IT) (J : JT) (q : (Unit)) (I1 : IT) (J1 : JT) (H : Heap) (locs : List Loc) (ls : Array Slot), f12_alikeBy_L2 N mb x1 x2 n x3 I J = some (q, I1, J1) → WX D cz A (mlL mb) (mlS mb) (mlR mb) s.heap I J H locs → lv_has ls 7 [(0, .ref mb), (1, .int x1), (2, .int x2), (3, .int x3)] →
    (∀ (H : Heap) (locs : List Loc) (ls : Array Slot), WX D cz A (mlL mb) (mlS mb) (mlR mb) s.heap I1 J1 H locs → lv_has ls 7 [(0, .ref mb)] → W p l e (rmX 5 129) s m args below meth c H locs 0 0 Q (F0 m 66 ls [])) →
    W p l e (rmX 5 129) s m args below meth c H locs 0 0 Q (F0 m 2 ls []) := by
  have hx := X.1
  have hb := X.2.1
  intro n
  induction n with
  | zero =>
    intro x3 I J q I1 J1 H locs ls hf
    rw [f12_alikeBy_L2] at hf
    cases hf
  | succ n ih =>
    intro x3 I J q I1 J1 H locs ls hf hw hl hexit
    rw [f12_alikeBy_L2] at hf
    refine lv_iload_n hx hb dX12_alikeBy_2 rfl (lv_at hl 3 rfl) ?_
    refine lv_aload_n hx hb dX12_alikeBy_3 rfl (lv_at hl 0 rfl) ?_
    refine x_getI X hK hw (ml_mem0 mb) (ml_S0 mb) cpX12 38 (by decide) rfl tw_1289 dX12_alikeBy_4 ?_
    refine lv_icmp_ge (tgt := 66) hx hb dX12_alikeBy_7 (by decide) (fun c_1 => ?_) (fun c_1 => ?_)
    · have hf := yb_pos c_1 hf
      obtain ⟨rfl, rfl, rfl⟩ := yb_inj hf
      exact hexit _ _ _ hw (lv_sub hl [0] rfl)
    · have hf := yb_neg c_1 hf
      refine lv_aload_n hx hb dX12_alikeBy_10 rfl (lv_at hl 0 rfl) ?_
      refine x_getR X hK hw (ml_mem0 mb) (ml_S0 mb) cpX12 41 (by decide) rfl (ml_R mb 41 rfl) tw_1292 dX12_alikeBy_11 ?_
      refine lv_iload_n hx hb dX12_alikeBy_14 rfl (lv_at hl 3 rfl) ?_
      refine lv_iload_n hx hb dX12_alikeBy_15 rfl (lv_at hl 2 rfl) ?_
      refine lv_if_ne (tgt := 28) hx hb dX12_alikeBy_16 (by decide) (fun c_2 => ?_) (fun c_2 => ?_)
      · have hf := yb_neg c_2 hf
        refine lv_iload_n hx hb dX12_alikeBy_28 rfl (lv_at hl 2 rfl) ?_
        refine lv_iconst (v := (1 : Int32)) hx hb dX12_alikeBy_29 (by decide) ?_
        refine lv_icmp_ne (tgt := 42) hx hb dX12_alikeBy_30 (by decide) (fun c_3 => ?_) (fun c_3 => ?_)
        · have hf := yb_neg c_3 hf
          refine lv_aload_n hx hb dX12_alikeBy_42 rfl (lv_at hl 0 rfl) ?_
          refine lv_iload_n hx hb dX12_alikeBy_43 rfl (lv_at hl 1 rfl) ?_
          refine lv_aload_n hx hb dX12_alikeBy_44 rfl (lv_at hl 0 rfl) ?_
          refine x_getR X hK hw (ml_mem0 mb) (ml_S0 mb) cpX12 39 (by decide) rfl (ml_R mb 39 rfl) tw_1290 dX12_alikeBy_45 ?_
          refine lv_iload_n hx hb dX12_alikeBy_48 rfl (lv_at hl 3 rfl) ?_
          obtain ⟨hi_4, hf⟩ := yb_ck_some hf
          refine x_iald X hK hw (ml_mem mb 22 (by decide)) (ml_S mb 22 rfl) hi_4 rfl dX12_alikeBy_49 ?_
          refine lv_aload_n hx hb dX12_alikeBy_50 rfl (lv_at hl 0 rfl) ?_
          refine x_getR X hK hw (ml_mem0 mb) (ml_S0 mb) cpX12 40 (by decide) rfl (ml_R mb 40 rfl) tw_1291 dX12_alikeBy_51 ?_
          refine lv_iload_n hx hb dX12_alikeBy_54 rfl (lv_at hl 3 rfl) ?_
          refine x_iald X hK hw (ml_mem mb 23 (by decide)) (ml_S mb 23 rfl) hi_4 rfl dX12_alikeBy_55 ?_
          obtain ⟨r_5, I_6, J_7, hq_8, hf⟩ := yb_b3_some hf
          refine x_calli X hK hw (c12_rightThen l D cz ev mb hq_8) (ml_mem0 mb) (ml_S0 mb) cpX12.1 vw_X12_466 ⟨Nat.le_of_ble_eq_true rfl, Nat.le_of_ble_eq_true rfl⟩ rfl rfl (Nat.le_of_ble_eq_true rfl) hl.1 ⟨Nat.le_refl _, Nat.le_refl _⟩ dX12_alikeBy_56 (fun H locs hw => ?_)
          refine x_iast X hK hw (ml_mem mb 24 (by decide)) (ml_S mb 24 rfl) hi_4 rfl dX12_alikeBy_59 (fun H locs hw => ?_)
          obtain ⟨I_9, eI_9, hf⟩ := yb_let_ex hf
          have hw := yb_wI eI_9 hw
          obtain ⟨x3_10, ex3_10, hf⟩ := yb_let_ex hf
          refine lv_iinc (v := x3_10) (lv' := [(3, .int x3_10), (0, .ref mb), (1, .int x1), (2, .int x2)]) hx hb dX12_alikeBy_60 hl (k := 3) rfl (by rw [ex3_10]; rfl) (by decide) rfl (fun ls hl => ?_)
          refine lv_goto (tgt := 2) hx hb dX12_alikeBy_63 (by decide) ?_
          exact ih _ _ _ _ _ _ _ _ _ hf hw (lv_sub hl [1, 2, 3, 0] rfl) hexit
        · have hf := yb_pos c_3 hf
          refine lv_aload_n hx hb dX12_alikeBy_33 rfl (lv_at hl 0 rfl) ?_
          refine x_getR X hK hw (ml_mem0 mb) (ml_S0 mb) cpX12 40 (by decide) rfl (ml_R mb 40 rfl) tw_1291 dX12_alikeBy_34 ?_
          refine lv_iload_n hx hb dX12_alikeBy_37 rfl (lv_at hl 3 rfl) ?_
          obtain ⟨hi_11, hf⟩ := yb_ck_some hf
          refine x_iald X hK hw (ml_mem mb 23 (by decide)) (ml_S mb 23 rfl) hi_11 rfl dX12_alikeBy_38 ?_
          refine lv_goto (tgt := 59) hx hb dX12_alikeBy_39 (by decide) ?_
          refine x_iast X hK hw (ml_mem mb 24 (by decide)) (ml_S mb 24 rfl) hi_11 rfl dX12_alikeBy_59 (fun H locs hw => ?_)
          obtain ⟨I_12, eI_12, hf⟩ := yb_let_ex hf
          have hw := yb_wI eI_12 hw
          obtain ⟨x3_13, ex3_13, hf⟩ := yb_let_ex hf
          refine lv_iinc (v := x3_13) (lv' := [(3, .int x3_13), (0, .ref mb), (1, .int x1), (2, .int x2)]) hx hb dX12_alikeBy_60 hl (k := 3) rfl (by rw [ex3_13]; rfl) (by decide) rfl (fun ls hl => ?_)
          refine lv_goto (tgt := 2) hx hb dX12_alikeBy_63 (by decide) ?_
          exact ih _ _ _ _ _ _ _ _ _ hf hw (lv_sub hl [1, 2, 3, 0] rfl) hexit
      · have hf := yb_pos c_2 hf
        refine lv_aload_n hx hb dX12_alikeBy_19 rfl (lv_at hl 0 rfl) ?_
        refine x_getR X hK hw (ml_mem0 mb) (ml_S0 mb) cpX12 39 (by decide) rfl (ml_R mb 39 rfl) tw_1290 dX12_alikeBy_20 ?_
        refine lv_iload_n hx hb dX12_alikeBy_23 rfl (lv_at hl 3 rfl) ?_
        obtain ⟨hi_14, hf⟩ := yb_ck_some hf
        refine x_iald X hK hw (ml_mem mb 22 (by decide)) (ml_S mb 22 rfl) hi_14 rfl dX12_alikeBy_24 ?_
        refine lv_goto (tgt := 59) hx hb dX12_alikeBy_25 (by decide) ?_
        refine x_iast X hK hw (ml_mem mb 24 (by decide)) (ml_S mb 24 rfl) hi_14 rfl dX12_alikeBy_59 (fun H locs hw => ?_)
        obtain ⟨I_15, eI_15, hf⟩ := yb_let_ex hf
        have hw := yb_wI eI_15 hw
        obtain ⟨x3_16, ex3_16, hf⟩ := yb_let_ex hf
        refine lv_iinc (v := x3_16) (lv' := [(3, .int x3_16), (0, .ref mb), (1, .int x1), (2, .int x2)]) hx hb dX12_alikeBy_60 hl (k := 3) rfl (by rw [ex3_16]; rfl) (by decide) rfl (fun ls hl => ?_)
        refine lv_goto (tgt := 2) hx hb dX12_alikeBy_63 (by decide) ?_
        exact ih _ _ _ _ _ _ _ _ _ hf hw (lv_sub hl [1, 2, 3, 0] rfl) hexit
set_option maxHeartbeats 4000000 in
set_option maxRecDepth 100000 in
theorem w12_alikeBy_L86 {p : Program} {l : Launch} {e : Env} {s : State} {m : MethodId} {args : Array Value} {below : List Frame} {meth : Method} {c : Code} {Q : State → Prop} {D : va_G} {cz : Nat → ClassId} {A : Nat → Prop} {ev : Nat × Nat × Nat} {mb : Nat} (X : CallFix p m c cX12_alikeBy 7 s args gw RX12) (hK : KX D cz ev A s) {N : Nat} {x3 : Int32} {x4 : Int32} :
    ∀ (n : Nat) (x5 : Int32) (x6 : Int32) (I : IT) (J : JT) (q : (Int32)) (I1 : IT) (J1 : JT) (H : Heap) (locs : List Loc) (ls : Array Slot), f12_alikeBy_L86 N mb x3 x4 n x5 x6 I J = some (q, I1, J1) → WX D cz A (mlL mb) (mlS mb) (mlR mb) s.heap I J H locs → lv_has ls 7 [(0, .ref mb), (3, .int x3), (4, .int x4), (5, .int x5), (6, .int x6)] →
    (∀ (H : Heap) (locs : List Loc) (ls : Array Slot), WX D cz A (mlL mb) (mlS mb) (mlR mb) s.heap I1 J1 H locs → lv_has ls 7 [(0, .ref mb), (3, .int x3), (4, .int x4), (5, .int q)] → W p l e (rmX 5 129) s m args below meth c H locs 0 0 Q (F0 m 128 ls [])) →
    W p l e (rmX 5 129) s m args below meth c H locs 0 0 Q (F0 m 86 ls []) := by
  have hx := X.1
  have hb := X.2.1
  intro n
  induction n with
  | zero =>
    intro x5 x6 I J q I1 J1 H locs ls hf
    rw [f12_alikeBy_L86] at hf
    cases hf
  | succ n ih =>
    intro x5 x6 I J q I1 J1 H locs ls hf hw hl hexit
    rw [f12_alikeBy_L86] at hf
    refine lv_iload hx hb dX12_alikeBy_86 (lv_at hl 4 rfl) ?_
    refine lv_aload_n hx hb dX12_alikeBy_88 rfl (lv_at hl 0 rfl) ?_
    refine x_getI X hK hw (ml_mem0 mb) (ml_S0 mb) cpX12 38 (by decide) rfl tw_1289 dX12_alikeBy_89 ?_
    refine lv_icmp_ge (tgt := 128) hx hb dX12_alikeBy_92 (by decide) (fun c_22 => ?_) (fun c_22 => ?_)
    · have hf := yb_pos c_22 hf
      obtain ⟨rfl, rfl, rfl⟩ := yb_inj hf
      exact hexit _ _ _ hw (lv_sub hl [0, 1, 2, 3] rfl)
    · have hf := yb_neg c_22 hf
      refine lv_iload hx hb dX12_alikeBy_95 (lv_at hl 3 rfl) ?_
      refine lv_aload_n hx hb dX12_alikeBy_97 rfl (lv_at hl 0 rfl) ?_
      refine x_getR X hK hw (ml_mem0 mb) (ml_S0 mb) cpX12 41 (by decide) rfl (ml_R mb 41 rfl) tw_1292 dX12_alikeBy_98 ?_
      refine lv_iload hx hb dX12_alikeBy_101 (lv_at hl 4 rfl) ?_
      obtain ⟨hi_23, hf⟩ := yb_ck_some hf
      refine x_iald X hK hw (ml_mem mb 24 (by decide)) (ml_S mb 24 rfl) hi_23 rfl dX12_alikeBy_103 ?_
      refine lv_aload_n hx hb dX12_alikeBy_104 rfl (lv_at hl 0 rfl) ?_
      refine x_getR X hK hw (ml_mem0 mb) (ml_S0 mb) cpX12 41 (by decide) rfl (ml_R mb 41 rfl) tw_1292 dX12_alikeBy_105 ?_
      refine lv_iload hx hb dX12_alikeBy_108 (lv_at hl 2 rfl) ?_
      obtain ⟨hi_24, hf⟩ := yb_ck_some hf
      refine x_iald X hK hw (ml_mem mb 24 (by decide)) (ml_S mb 24 rfl) hi_24 rfl dX12_alikeBy_110 ?_
      refine lv_icmp_ne (tgt := 118) hx hb dX12_alikeBy_111 (by decide) (fun c_25 => ?_) (fun c_25 => ?_)
      · have hf := yb_neg c_25 hf
        refine lv_iconst (v := (0 : Int32)) hx hb dX12_alikeBy_118 (by decide) ?_
        refine lv_iadd hx hb dX12_alikeBy_119 ?_
        refine lv_topi (fun x5_26 ex5_26 => ?_)
        have hf := yb_let_to ex5_26 hf
        refine lv_istore (lv' := [(5, .int x5_26), (0, .ref mb), (3, .int x3), (4, .int x4), (6, .int x6)]) hx hb dX12_alikeBy_120 hl (by decide) rfl (fun ls hl => ?_)
        obtain ⟨x6_27, ex6_27, hf⟩ := yb_let_ex hf
        refine lv_iinc (v := x6_27) (lv' := [(6, .int x6_27), (5, .int x5_26), (0, .ref mb), (3, .int x3), (4, .int x4)]) hx hb dX12_alikeBy_122 hl (k := 4) rfl (by rw [ex6_27]; rfl) (by decide) rfl (fun ls hl => ?_)
        refine lv_goto (tgt := 86) hx hb dX12_alikeBy_125 (by decide) ?_
        exact ih _ _ _ _ _ _ _ _ _ _ hf hw (lv_sub hl [2, 3, 4, 1, 0] rfl) hexit
      · have hf := yb_pos c_25 hf
        refine lv_iconst (v := (1 : Int32)) hx hb dX12_alikeBy_114 (by decide) ?_
        refine lv_goto (tgt := 119) hx hb dX12_alikeBy_115 (by decide) ?_
        refine lv_iadd hx hb dX12_alikeBy_119 ?_
        refine lv_topi (fun x5_28 ex5_28 => ?_)
        have hf := yb_let_to ex5_28 hf
        refine lv_istore (lv' := [(5, .int x5_28), (0, .ref mb), (3, .int x3), (4, .int x4), (6, .int x6)]) hx hb dX12_alikeBy_120 hl (by decide) rfl (fun ls hl => ?_)
        obtain ⟨x6_29, ex6_29, hf⟩ := yb_let_ex hf
        refine lv_iinc (v := x6_29) (lv' := [(6, .int x6_29), (5, .int x5_28), (0, .ref mb), (3, .int x3), (4, .int x4)]) hx hb dX12_alikeBy_122 hl (k := 4) rfl (by rw [ex6_29]; rfl) (by decide) rfl (fun ls hl => ?_)
        refine lv_goto (tgt := 86) hx hb dX12_alikeBy_125 (by decide) ?_
        exact ih _ _ _ _ _ _ _ _ _ _ hf hw (lv_sub hl [2, 3, 4, 1, 0] rfl) hexit
set_option maxHeartbeats 4000000 in
set_option maxRecDepth 100000 in
theorem w12_alikeBy_L71 {p : Program} {l : Launch} {e : Env} {s : State} {m : MethodId} {args : Array Value} {below : List Frame} {meth : Method} {c : Code} {Q : State → Prop} {D : va_G} {cz : Nat → ClassId} {A : Nat → Prop} {ev : Nat × Nat × Nat} {mb : Nat} (X : CallFix p m c cX12_alikeBy 7 s args gw RX12) (hK : KX D cz ev A s) {N : Nat} :
    ∀ (n : Nat) (x3 : Int32) (x4 : Int32) (I : IT) (J : JT) (q : (Int32)) (I1 : IT) (J1 : JT) (H : Heap) (locs : List Loc) (ls : Array Slot), f12_alikeBy_L71 N mb n x3 x4 I J = some (q, I1, J1) → WX D cz A (mlL mb) (mlS mb) (mlR mb) s.heap I J H locs → lv_has ls 7 [(0, .ref mb), (3, .int x3), (4, .int x4)] →
    (∀ (H : Heap) (locs : List Loc) (ls : Array Slot), WX D cz A (mlL mb) (mlS mb) (mlR mb) s.heap I1 J1 H locs → lv_has ls 7 [(3, .int q)] → W p l e (rmX 5 129) s m args below meth c H locs 0 0 Q (F0 m 147 ls [])) →
    W p l e (rmX 5 129) s m args below meth c H locs 0 0 Q (F0 m 71 ls []) := by
  have hx := X.1
  have hb := X.2.1
  intro n
  induction n with
  | zero =>
    intro x3 x4 I J q I1 J1 H locs ls hf
    rw [f12_alikeBy_L71] at hf
    cases hf
  | succ n ih =>
    intro x3 x4 I J q I1 J1 H locs ls hf hw hl hexit
    rw [f12_alikeBy_L71] at hf
    refine lv_iload hx hb dX12_alikeBy_71 (lv_at hl 2 rfl) ?_
    refine lv_aload_n hx hb dX12_alikeBy_73 rfl (lv_at hl 0 rfl) ?_
    refine x_getI X hK hw (ml_mem0 mb) (ml_S0 mb) cpX12 38 (by decide) rfl tw_1289 dX12_alikeBy_74 ?_
    refine lv_icmp_ge (tgt := 147) hx hb dX12_alikeBy_77 (by decide) (fun c_21 => ?_) (fun c_21 => ?_)
    · have hf := yb_pos c_21 hf
      obtain ⟨rfl, rfl, rfl⟩ := yb_inj hf
      exact hexit _ _ _ hw (lv_sub hl [1] rfl)
    · have hf := yb_neg c_21 hf
      refine lv_iconst (v := (0 : Int32)) hx hb dX12_alikeBy_80 (by decide) ?_
      refine lv_istore (lv' := [(5, .int (0 : Int32)), (0, .ref mb), (3, .int x3), (4, .int x4)]) hx hb dX12_alikeBy_81 hl (by decide) rfl (fun ls hl => ?_)
      refine lv_iconst (v := (0 : Int32)) hx hb dX12_alikeBy_83 (by decide) ?_
      refine lv_istore (lv' := [(6, .int (0 : Int32)), (5, .int (0 : Int32)), (0, .ref mb), (3, .int x3), (4, .int x4)]) hx hb dX12_alikeBy_84 hl (by decide) rfl (fun ls hl => ?_)
      obtain ⟨q_30, I_31, J_32, hq_33, hf⟩ := yb_b3_some hf
      refine w12_alikeBy_L86 X hK _ _ _ _ _ _ _ _ _ _ _ hq_33 hw (lv_sub hl [2, 3, 4, 1, 0] rfl) (fun H locs ls hw hl => ?_)
      refine lv_iload hx hb dX12_alikeBy_128 (lv_at hl 3 rfl) ?_
      refine lv_iload_n hx hb dX12_alikeBy_130 rfl (lv_at hl 1 rfl) ?_
      refine lv_icmp_le (tgt := 139) hx hb dX12_alikeBy_131 (by decide) (fun c_34 => ?_) (fun c_34 => ?_)
      · have hf := yb_pos c_34 hf
        refine lv_iload_n hx hb dX12_alikeBy_139 rfl (lv_at hl 1 rfl) ?_
        refine lv_istore_n (lv' := [(3, .int x3), (0, .ref mb), (4, .int x4), (5, .int q_30)]) hx hb dX12_alikeBy_140 rfl hl (by decide) rfl (fun ls hl => ?_)
        obtain ⟨x4_35, ex4_35, hf⟩ := yb_let_ex hf
        refine lv_iinc (v := x4_35) (lv' := [(4, .int x4_35), (3, .int x3), (0, .ref mb), (5, .int q_30)]) hx hb dX12_alikeBy_141 hl (k := 2) rfl (by rw [ex4_35]; rfl) (by decide) rfl (fun ls hl => ?_)
        refine lv_goto (tgt := 71) hx hb dX12_alikeBy_144 (by decide) ?_
        exact ih _ _ _ _ _ _ _ _ _ _ hf hw (lv_sub hl [2, 1, 0] rfl) hexit
      · have hf := yb_neg c_34 hf
        refine lv_iload hx hb dX12_alikeBy_134 (lv_at hl 3 rfl) ?_
        refine lv_goto (tgt := 140) hx hb dX12_alikeBy_136 (by decide) ?_
        refine lv_istore_n (lv' := [(3, .int q_30), (0, .ref mb), (4, .int x4), (5, .int q_30)]) hx hb dX12_alikeBy_140 rfl hl (by decide) rfl (fun ls hl => ?_)
        obtain ⟨x4_36, ex4_36, hf⟩ := yb_let_ex hf
        refine lv_iinc (v := x4_36) (lv' := [(4, .int x4_36), (3, .int q_30), (0, .ref mb), (5, .int q_30)]) hx hb dX12_alikeBy_141 hl (k := 2) rfl (by rw [ex4_36]; rfl) (by decide) rfl (fun ls hl => ?_)
        refine lv_goto (tgt := 71) hx hb dX12_alikeBy_144 (by decide) ?_
        exact ih _ _ _ _ _ _ _ _ _ _ hf hw (lv_sub hl [2, 1, 0] rfl) hexit
set_option maxHeartbeats 4000000 in
set_option maxRecDepth 100000 in
theorem c12_alikeBy (l : Launch) (D : va_G) (cz : Nat → ClassId) (ev : Nat × Nat × Nat) (mb : Nat) {N : Nat} {x1 : Int32} {x2 : Int32} {I : IT} {J : JT} {r : Int32} {I1 : IT} {J1 : JT} (hf : f12_alikeBy N mb x1 x2 I J = some (r, I1, J1)) : MTi l D cz ev yX12_alikeBy cX12_alikeBy 7 (some .int) 5 129 [.ref mb, .int x1, .int x2] (mlL mb) (mlS mb) (mlR mb) I J r I1 J1 := by
  unfold f12_alikeBy at hf
  refine MTi_of (by decide) (Nat.le_of_ble_eq_true rfl) ?_
  intro p e s m args below meth c Q ls X hK hw hl hfin
  have X : CallFix p m c cX12_alikeBy 7 s args gw RX12 := X
  have hx := X.1
  have hb := X.2.1
  have hl : lv_has ls 7 [(0, .ref mb), (1, .int x1), (2, .int x2)] := hl
  refine lv_iconst (v := (0 : Int32)) hx hb dX12_alikeBy_0 (by decide) ?_
  refine lv_istore_n (lv' := [(3, .int (0 : Int32)), (0, .ref mb), (1, .int x1), (2, .int x2)]) hx hb dX12_alikeBy_1 rfl hl (by decide) rfl (fun ls hl => ?_)
  obtain ⟨q_17, I_18, J_19, hq_20, hf⟩ := yb_b3_some hf
  refine w12_alikeBy_L2 X hK _ _ _ _ _ _ _ _ _ _ hq_20 hw (lv_sub hl [1, 2, 3, 0] rfl) (fun H locs ls hw hl => ?_)
  refine lv_iconst (v := (0 : Int32)) hx hb dX12_alikeBy_66 (by decide) ?_
  refine lv_istore_n (lv' := [(3, .int (0 : Int32)), (0, .ref mb)]) hx hb dX12_alikeBy_67 rfl hl (by decide) rfl (fun ls hl => ?_)
  refine lv_iconst (v := (0 : Int32)) hx hb dX12_alikeBy_68 (by decide) ?_
  refine lv_istore (lv' := [(4, .int (0 : Int32)), (3, .int (0 : Int32)), (0, .ref mb)]) hx hb dX12_alikeBy_69 hl (by decide) rfl (fun ls hl => ?_)
  obtain ⟨q_37, I_38, J_39, hq_40, hf⟩ := yb_b3_some hf
  refine w12_alikeBy_L71 X hK _ _ _ _ _ _ _ _ _ _ _ hq_40 hw (lv_sub hl [2, 1, 0] rfl) (fun H locs ls hw hl => ?_)
  refine lv_iload_n hx hb dX12_alikeBy_147 rfl (lv_at hl 0 rfl) ?_
  exact yb_reti hfin hf hw dX12_alikeBy_148
set_option maxHeartbeats 4000000 in
set_option maxRecDepth 100000 in
theorem w12_look_L40 {p : Program} {l : Launch} {e : Env} {s : State} {m : MethodId} {args : Array Value} {below : List Frame} {meth : Method} {c : Code} {Q : State → Prop} {D : va_G} {cz : Nat → ClassId} {A : Nat → Prop} {ev : Nat × Nat × Nat} {mb : Nat} (X : CallFix p m c cX12_look 5 s args gw RX12) (hK : KX D cz ev A s) {N : Nat} {x1 : Int32} {x2 : Int32} :
    ∀ (n : Nat) (x3 : Int32) (x4 : Int32) (I : IT) (J : JT) (q : (Int32)) (I1 : IT) (J1 : JT) (H : Heap) (locs : List Loc) (ls : Array Slot), f12_look_L40 N mb x1 x2 n x3 x4 I J = some (q, I1, J1) → WX D cz A (mlL mb) (mlS mb) (mlR mb) s.heap I J H locs → lv_has ls 5 [(0, .ref mb), (1, .int x1), (2, .int x2), (3, .int x3), (4, .int x4)] →
    (∀ (H : Heap) (locs : List Loc) (ls : Array Slot), WX D cz A (mlL mb) (mlS mb) (mlR mb) s.heap I1 J1 H locs → lv_has ls 5 [(0, .ref mb), (1, .int x1), (2, .int x2), (3, .int q)] → W p l e (rmX 8 202) s m args below meth c H locs 0 0 Q (F0 m 71 ls [])) →
    W p l e (rmX 8 202) s m args below meth c H locs 0 0 Q (F0 m 40 ls []) := by
  have hx := X.1
  have hb := X.2.1
  intro n
  induction n with
  | zero =>
    intro x3 x4 I J q I1 J1 H locs ls hf
    rw [f12_look_L40] at hf
    cases hf
  | succ n ih =>
    intro x3 x4 I J q I1 J1 H locs ls hf hw hl hexit
    rw [f12_look_L40] at hf
    refine lv_iload hx hb dX12_look_40 (lv_at hl 4 rfl) ?_
    refine lv_iconst (v := (3 : Int32)) hx hb dX12_look_42 (by decide) ?_
    refine lv_icmp_ge (tgt := 71) hx hb dX12_look_43 (by decide) (fun c_16 => ?_) (fun c_16 => ?_)
    · have hf := yb_pos c_16 hf
      obtain ⟨rfl, rfl, rfl⟩ := yb_inj hf
      exact hexit _ _ _ hw (lv_sub hl [0, 1, 2, 3] rfl)
    · have hf := yb_neg c_16 hf
      refine lv_aload_n hx hb dX12_look_46 rfl (lv_at hl 0 rfl) ?_
      refine lv_iload_n hx hb dX12_look_47 rfl (lv_at hl 1 rfl) ?_
      refine lv_iload hx hb dX12_look_48 (lv_at hl 4 rfl) ?_
      obtain ⟨r_17, I_18, J_19, hq_20, hf⟩ := yb_b3_some hf
      refine x_calli X hK hw (c12_alikeBy l D cz ev mb hq_20) (ml_mem0 mb) (ml_S0 mb) cpX12.1 vw_X12_481 ⟨Nat.le_of_ble_eq_true rfl, Nat.le_of_ble_eq_true rfl⟩ rfl rfl (Nat.le_of_ble_eq_true rfl) hl.1 ⟨Nat.le_refl _, Nat.le_refl _⟩ dX12_look_50 (fun H locs hw => ?_)
      refine lv_aload_n hx hb dX12_look_53 rfl (lv_at hl 0 rfl) ?_
      refine lv_iload_n hx hb dX12_look_54 rfl (lv_at hl 1 rfl) ?_
      refine lv_iload_n hx hb dX12_look_55 rfl (lv_at hl 3 rfl) ?_
      obtain ⟨r_21, I_22, J_23, hq_24, hf⟩ := yb_b3_some hf
      refine x_calli X hK hw (c12_alikeBy l D cz ev mb hq_24) (ml_mem0 mb) (ml_S0 mb) cpX12.1 vw_X12_481 ⟨Nat.le_of_ble_eq_true rfl, Nat.le_of_ble_eq_true rfl⟩ rfl rfl (Nat.le_of_ble_eq_true rfl) hl.1 ⟨Nat.le_refl _, Nat.le_refl _⟩ dX12_look_56 (fun H locs hw => ?_)
      refine lv_icmp_ge (tgt := 65) hx hb dX12_look_59 (by decide) (fun c_25 => ?_) (fun c_25 => ?_)
      · have hf := yb_pos c_25 hf
        obtain ⟨x4_26, ex4_26, hf⟩ := yb_let_ex hf
        refine lv_iinc (v := x4_26) (lv' := [(4, .int x4_26), (0, .ref mb), (1, .int x1), (2, .int x2), (3, .int x3)]) hx hb dX12_look_65 hl (k := 4) rfl (by rw [ex4_26]; rfl) (by decide) rfl (fun ls hl => ?_)
        refine lv_goto (tgt := 40) hx hb dX12_look_68 (by decide) ?_
        exact ih _ _ _ _ _ _ _ _ _ _ hf hw (lv_sub hl [1, 2, 3, 4, 0] rfl) hexit
      · have hf := yb_neg c_25 hf
        refine lv_iload hx hb dX12_look_62 (lv_at hl 4 rfl) ?_
        refine lv_istore_n (lv' := [(3, .int x4), (0, .ref mb), (1, .int x1), (2, .int x2), (4, .int x4)]) hx hb dX12_look_64 rfl hl (by decide) rfl (fun ls hl => ?_)
        obtain ⟨x4_27, ex4_27, hf⟩ := yb_let_ex hf
        refine lv_iinc (v := x4_27) (lv' := [(4, .int x4_27), (3, .int x4), (0, .ref mb), (1, .int x1), (2, .int x2)]) hx hb dX12_look_65 hl (k := 4) rfl (by rw [ex4_27]; rfl) (by decide) rfl (fun ls hl => ?_)
        refine lv_goto (tgt := 40) hx hb dX12_look_68 (by decide) ?_
        exact ih _ _ _ _ _ _ _ _ _ _ hf hw (lv_sub hl [2, 3, 4, 1, 0] rfl) hexit
set_option maxHeartbeats 4000000 in
set_option maxRecDepth 100000 in
theorem c12_look (l : Launch) (D : va_G) (cz : Nat → ClassId) (ev : Nat × Nat × Nat) (mb : Nat) {N : Nat} {x1 : Int32} {x2 : Int32} {I : IT} {J : JT} {r : Int32} {I1 : IT} {J1 : JT} (hf : f12_look N mb x1 x2 I J = some (r, I1, J1)) : MTi l D cz ev yX12_look cX12_look 5 (some .int) 8 202 [.ref mb, .int x1, .int x2] (mlL mb) (mlS mb) (mlR mb) I J r I1 J1 := by
  unfold f12_look at hf
  refine MTi_of (by decide) (Nat.le_of_ble_eq_true rfl) ?_
  intro p e s m args below meth c Q ls X hK hw hl hfin
  have X : CallFix p m c cX12_look 5 s args gw RX12 := X
  have hx := X.1
  have hb := X.2.1
  have hl : lv_has ls 5 [(0, .ref mb), (1, .int x1), (2, .int x2)] := hl
  refine lv_aload_n hx hb dX12_look_0 rfl (lv_at hl 0 rfl) ?_
  refine lv_iload_n hx hb dX12_look_1 rfl (lv_at hl 1 rfl) ?_
  obtain ⟨r_1, I_2, J_3, hq_4, hf⟩ := yb_b3_some hf
  refine x_calli X hK hw (c12_isCase l D cz ev mb hq_4) (ml_mem0 mb) (ml_S0 mb) cpX12.1 vw_X12_347 ⟨Nat.le_of_ble_eq_true rfl, Nat.le_of_ble_eq_true rfl⟩ rfl rfl (Nat.le_of_ble_eq_true rfl) hl.1 ⟨Nat.le_refl _, Nat.le_refl _⟩ dX12_look_2 (fun H locs hw => ?_)
  refine lv_if_eq (tgt := 18) hx hb dX12_look_5 (by decide) (fun c_5 => ?_) (fun c_5 => ?_)
  · have hf := yb_pos c_5 hf
    refine lv_iconst (v := (-1 : Int32)) hx hb dX12_look_18 (by decide) ?_
    exact yb_reti hfin hf hw dX12_look_19
  · have hf := yb_neg c_5 hf
    refine lv_iload_n hx hb dX12_look_8 rfl (lv_at hl 2 rfl) ?_
    refine lv_i2l hx hb dX12_look_9 rfl ?_
    refine lv_lconst (v := (0 : Int64)) hx hb dX12_look_10 (by decide) ?_
    refine lv_lconst (v := (1 : Int64)) hx hb dX12_look_11 (by decide) ?_
    obtain ⟨r_6, I_7, J_8, hq_9, hf⟩ := yb_b3_some hf
    refine x_callsi X hK hw (c12_in l D cz ev mb hq_9) sw_X12_142 ⟨Nat.le_of_ble_eq_true rfl, Nat.le_of_ble_eq_true rfl⟩ rfl rfl (Nat.le_of_ble_eq_true rfl) hl.1 ⟨Nat.le_refl _, Nat.le_refl _⟩ dX12_look_12 (fun H locs hw => ?_)
    refine lv_if_ne (tgt := 20) hx hb dX12_look_15 (by decide) (fun c_10 => ?_) (fun c_10 => ?_)
    · have hf := yb_neg c_10 hf
      refine lv_aload_n hx hb dX12_look_20 rfl (lv_at hl 0 rfl) ?_
      refine lv_iload_n hx hb dX12_look_21 rfl (lv_at hl 1 rfl) ?_
      obtain ⟨r_11, I_12, J_13, hq_14, hf⟩ := yb_b3_some hf
      refine x_callv X hK hw (c12_gathersWho l D cz ev mb hq_14) (ml_mem0 mb) (ml_S0 mb) cpX12.1 vw_X12_478 ⟨Nat.le_of_ble_eq_true rfl, Nat.le_of_ble_eq_true rfl⟩ rfl rfl (Nat.le_of_ble_eq_true rfl) hl.1 ⟨Nat.le_refl _, Nat.le_refl _⟩ dX12_look_22 (fun H locs hw => ?_)
      refine lv_aload_n hx hb dX12_look_25 rfl (lv_at hl 0 rfl) ?_
      refine x_getI X hK hw (ml_mem0 mb) (ml_S0 mb) cpX12 38 (by decide) rfl tw_1289 dX12_look_26 ?_
      refine lv_if_ne (tgt := 35) hx hb dX12_look_29 (by decide) (fun c_15 => ?_) (fun c_15 => ?_)
      · have hf := yb_neg c_15 hf
        refine lv_iconst (v := (0 : Int32)) hx hb dX12_look_35 (by decide) ?_
        refine lv_istore_n (lv' := [(3, .int (0 : Int32)), (0, .ref mb), (1, .int x1), (2, .int x2)]) hx hb dX12_look_36 rfl hl (by decide) rfl (fun ls hl => ?_)
        refine lv_iconst (v := (1 : Int32)) hx hb dX12_look_37 (by decide) ?_
        refine lv_istore (lv' := [(4, .int (1 : Int32)), (3, .int (0 : Int32)), (0, .ref mb), (1, .int x1), (2, .int x2)]) hx hb dX12_look_38 hl (by decide) rfl (fun ls hl => ?_)
        obtain ⟨q_28, I_29, J_30, hq_31, hf⟩ := yb_b3_some hf
        refine w12_look_L40 X hK _ _ _ _ _ _ _ _ _ _ _ hq_31 hw (lv_sub hl [2, 3, 4, 1, 0] rfl) (fun H locs ls hw hl => ?_)
        refine lv_iload_n hx hb dX12_look_71 rfl (lv_at hl 2 rfl) ?_
        refine lv_if_ne (tgt := 79) hx hb dX12_look_72 (by decide) (fun c_32 => ?_) (fun c_32 => ?_)
        · have hf := yb_neg c_32 hf
          refine lv_aload_n hx hb dX12_look_79 rfl (lv_at hl 0 rfl) ?_
          refine lv_iload_n hx hb dX12_look_80 rfl (lv_at hl 1 rfl) ?_
          refine lv_iload_n hx hb dX12_look_81 rfl (lv_at hl 3 rfl) ?_
          obtain ⟨r_33, I_34, J_35, hq_36, hf⟩ := yb_b3_some hf
          refine x_calli X hK hw (c12_alikeBy l D cz ev mb hq_36) (ml_mem0 mb) (ml_S0 mb) cpX12.1 vw_X12_481 ⟨Nat.le_of_ble_eq_true rfl, Nat.le_of_ble_eq_true rfl⟩ rfl rfl (Nat.le_of_ble_eq_true rfl) hl.1 ⟨Nat.le_refl _, Nat.le_refl _⟩ dX12_look_82 (fun H locs hw => ?_)
          exact yb_reti hfin hf hw dX12_look_85
        · have hf := yb_pos c_32 hf
          refine lv_iload_n hx hb dX12_look_75 rfl (lv_at hl 3 rfl) ?_
          refine lv_goto (tgt := 85) hx hb dX12_look_76 (by decide) ?_
          exact yb_reti hfin hf hw dX12_look_85
      · have hf := yb_pos c_15 hf
        refine lv_bipush (v := (-2 : Int32)) hx hb dX12_look_32 (by decide) ?_
        exact yb_reti hfin hf hw dX12_look_34
    · have hf := yb_pos c_10 hf
      refine lv_iconst (v := (-1 : Int32)) hx hb dX12_look_18 (by decide) ?_
      exact yb_reti hfin hf hw dX12_look_19
set_option maxHeartbeats 4000000 in
set_option maxRecDepth 100000 in
theorem c12_seed (l : Launch) (D : va_G) (cz : Nat → ClassId) (ev : Nat × Nat × Nat) (mb : Nat) {x1 : Int32} {I : IT} {J : JT} {r : Int32} {I1 : IT} {J1 : JT} (hf : f12_seed mb x1 I J = some (r, I1, J1)) : MTi l D cz ev yX12_seed cX12_seed 3 (some .int) 0 0 [.ref mb, .int x1] (mlL mb) (mlS mb) (mlR mb) I J r I1 J1 := by
  unfold f12_seed at hf
  refine MTi_of (by decide) (Nat.le_of_ble_eq_true rfl) ?_
  intro p e s m args below meth c Q ls X hK hw hl hfin
  have X : CallFix p m c cX12_seed 3 s args gw RX12 := X
  have hx := X.1
  have hb := X.2.1
  have hl : lv_has ls 3 [(0, .ref mb), (1, .int x1)] := hl
  refine lv_iload_n hx hb dX12_seed_0 rfl (lv_at hl 1 rfl) ?_
  refine lv_if_ge (tgt := 6) hx hb dX12_seed_1 (by decide) (fun c_1 => ?_) (fun c_1 => ?_)
  · have hf := yb_pos c_1 hf
    refine lv_aload_n hx hb dX12_seed_6 rfl (lv_at hl 0 rfl) ?_
    refine x_getI X hK hw (ml_mem0 mb) (ml_S0 mb) cpX12 22 (by decide) rfl tw_1273 dX12_seed_7 ?_
    refine lv_topi (fun x2_2 ex2_2 => ?_)
    have hf := yb_let_to ex2_2 hf
    refine lv_istore_n (lv' := [(2, .int x2_2), (0, .ref mb), (1, .int x1)]) hx hb dX12_seed_10 rfl hl (by decide) rfl (fun ls hl => ?_)
    refine lv_aload_n hx hb dX12_seed_11 rfl (lv_at hl 1 rfl) ?_
    refine lv_iload_n hx hb dX12_seed_12 rfl (lv_at hl 2 rfl) ?_
    refine x_putI X hK hw (ml_mem0 mb) (ml_S0 mb) cpX12 22 (by decide) rfl rfl rfl tw_1273 dX12_seed_13 (fun H locs hw => ?_)
    obtain ⟨I_3, eI_3, hf⟩ := yb_let_ex hf
    have hw := yb_wI eI_3 hw
    refine lv_iload_n hx hb dX12_seed_16 rfl (lv_at hl 0 rfl) ?_
    exact yb_reti hfin hf hw dX12_seed_17
  · have hf := yb_neg c_1 hf
    refine lv_iconst (v := (-1 : Int32)) hx hb dX12_seed_4 (by decide) ?_
    exact yb_reti hfin hf hw dX12_seed_5
set_option maxHeartbeats 4000000 in
set_option maxRecDepth 100000 in
theorem c12_draw (l : Launch) (D : va_G) (cz : Nat → ClassId) (ev : Nat × Nat × Nat) (mb : Nat) {x1 : Int32} {I : IT} {J : JT} {r : Int32} {I1 : IT} {J1 : JT} (hf : f12_draw mb x1 I J = some (r, I1, J1)) : MTi l D cz ev yX12_draw cX12_draw 2 (some .int) 0 0 [.ref mb, .int x1] (mlL mb) (mlS mb) (mlR mb) I J r I1 J1 := by
  unfold f12_draw at hf
  refine MTi_of (by decide) (Nat.le_of_ble_eq_true rfl) ?_
  intro p e s m args below meth c Q ls X hK hw hl hfin
  have X : CallFix p m c cX12_draw 2 s args gw RX12 := X
  have hx := X.1
  have hb := X.2.1
  have hl : lv_has ls 2 [(0, .ref mb), (1, .int x1)] := hl
  refine lv_aload_n hx hb dX12_draw_0 rfl (lv_at hl 0 rfl) ?_
  refine lv_aload_n hx hb dX12_draw_1 rfl (lv_at hl 0 rfl) ?_
  refine x_getJ X hK hw (ml_mem0 mb) (ml_S0 mb) cpX12 43 (by decide) rfl tw_1294 dX12_draw_2 ?_
  refine lv_ldc2 (v := (1103515245 : Int64)) hx hb X.2.2.2.1 (X.2.2.2.2 _ tw_1865) dX12_draw_5 ?_
  refine lv_lmul hx hb dX12_draw_8 ?_
  refine lv_ldc2 (v := (12345 : Int64)) hx hb X.2.2.2.1 (X.2.2.2.2 _ tw_1866) dX12_draw_9 ?_
  refine lv_ladd hx hb dX12_draw_12 ?_
  refine lv_ldc2 (v := (2147483648 : Int64)) hx hb X.2.2.2.1 (X.2.2.2.2 _ tw_1867) dX12_draw_13 ?_
  refine lv_lrem hx hb dX12_draw_16 (by decide) ?_
  refine x_putJ X hK hw (ml_mem0 mb) (ml_S0 mb) cpX12 43 (by decide) rfl rfl rfl tw_1294 dX12_draw_17 (fun H locs hw => ?_)
  obtain ⟨J_1, eJ_1, hf⟩ := yb_let_ex hf
  have hw := yb_wJ eJ_1 hw
  refine lv_aload_n hx hb dX12_draw_20 rfl (lv_at hl 0 rfl) ?_
  refine x_getJ X hK hw (ml_mem0 mb) (ml_S0 mb) cpX12 43 (by decide) rfl tw_1294 dX12_draw_21 ?_
  refine lv_ldc2 (v := (65536 : Int64)) hx hb X.2.2.2.1 (X.2.2.2.2 _ tw_1868) dX12_draw_24 ?_
  refine lv_ldiv hx hb dX12_draw_27 (by decide) ?_
  refine lv_iload_n hx hb dX12_draw_28 rfl (lv_at hl 1 rfl) ?_
  refine lv_i2l hx hb dX12_draw_29 rfl ?_
  obtain ⟨h_2, hf⟩ := yb_nzl hf
  refine lv_lrem hx hb dX12_draw_30 h_2 ?_
  refine lv_l2i hx hb dX12_draw_31 rfl ?_
  exact yb_reti hfin hf hw dX12_draw_32
set_option maxHeartbeats 4000000 in
set_option maxRecDepth 100000 in
theorem w12_hearsDrawn_L13 {p : Program} {l : Launch} {e : Env} {s : State} {m : MethodId} {args : Array Value} {below : List Frame} {meth : Method} {c : Code} {Q : State → Prop} {D : va_G} {cz : Nat → ClassId} {A : Nat → Prop} {ev : Nat × Nat × Nat} {mb : Nat} (X : CallFix p m c cX12_hearsDrawn 3 s args gw RX12) (hK : KX D cz ev A s) {N : Nat} {x1 : Int32} {rM : Unit} {IM : IT} {JM : JT} :
    ∀ (n : Nat) (x2 : Int32) (I : IT) (J : JT) (q : (Unit ⊕ (Unit))) (I1 : IT) (J1 : JT) (H : Heap) (locs : List Loc) (ls : Array Slot), f12_hearsDrawn_L13 N mb x1 n x2 I J = some (q, I1, J1) → WX D cz A (mlL mb) (mlS mb) (mlR mb) s.heap I J H locs → lv_has ls 3 [(0, .ref mb), (1, .int x1), (2, .int x2)] →
    (∀ v, q = .inl v → some (v, I1, J1) = some (rM, IM, JM)) → (∀ (H : Heap) (locs : List Loc) (ls : Array Slot) (pc : Nat), WX D cz A (mlL mb) (mlS mb) (mlR mb) s.heap IM JM H locs → decode cX12_hearsDrawn pc = .ok (.return_, 1) → W p l e (rmX 6 153) s m args below meth c H locs 0 0 Q (F0 m pc ls [])) →
    (∀ xq, q = .inr xq → ∀ (H : Heap) (locs : List Loc) (ls : Array Slot), WX D cz A (mlL mb) (mlS mb) (mlR mb) s.heap I1 J1 H locs → lv_has ls 3 [] → W p l e (rmX 6 153) s m args below meth c H locs 0 0 Q (F0 m 49 ls [])) →
    W p l e (rmX 6 153) s m args below meth c H locs 0 0 Q (F0 m 13 ls []) := by
  have hx := X.1
  have hb := X.2.1
  intro n
  induction n with
  | zero =>
    intro x2 I J q I1 J1 H locs ls hf
    rw [f12_hearsDrawn_L13] at hf
    cases hf
  | succ n ih =>
    intro x2 I J q I1 J1 H locs ls hf hw hl hret hfin hexit
    rw [f12_hearsDrawn_L13] at hf
    refine lv_iload_n hx hb dX12_hearsDrawn_13 rfl (lv_at hl 2 rfl) ?_
    refine lv_aload_n hx hb dX12_hearsDrawn_14 rfl (lv_at hl 0 rfl) ?_
    refine x_getR X hK hw (ml_mem0 mb) (ml_S0 mb) cpX12 20 (by decide) rfl (ml_R mb 20 rfl) tw_1271 dX12_hearsDrawn_15 ?_
    refine lv_iconst (v := (3 : Int32)) hx hb dX12_hearsDrawn_18 (by decide) ?_
    refine x_iald X hK hw (ml_mem mb 10 (by decide)) (ml_S mb 10 rfl) (by decide) rfl dX12_hearsDrawn_19 ?_
    refine lv_icmp_ge (tgt := 49) hx hb dX12_hearsDrawn_20 (by decide) (fun c_5 => ?_) (fun c_5 => ?_)
    · have hf := yb_pos c_5 hf
      obtain ⟨rfl, rfl, rfl⟩ := yb_inj hf
      exact hexit _ rfl _ _ _ hw (lv_sub hl [] rfl)
    · have hf := yb_neg c_5 hf
      refine lv_aload_n hx hb dX12_hearsDrawn_23 rfl (lv_at hl 0 rfl) ?_
      refine lv_iload_n hx hb dX12_hearsDrawn_24 rfl (lv_at hl 2 rfl) ?_
      refine lv_iload_n hx hb dX12_hearsDrawn_25 rfl (lv_at hl 1 rfl) ?_
      obtain ⟨r_6, I_7, J_8, hq_9, hf⟩ := yb_b3_some hf
      refine x_calli X hK hw (c12_mayHear l D cz ev mb hq_9) (ml_mem0 mb) (ml_S0 mb) cpX12.1 vw_X12_392 ⟨Nat.le_of_ble_eq_true rfl, Nat.le_of_ble_eq_true rfl⟩ rfl rfl (Nat.le_of_ble_eq_true rfl) hl.1 ⟨Nat.le_refl _, Nat.le_refl _⟩ dX12_hearsDrawn_26 (fun H locs hw => ?_)
      refine lv_if_ne (tgt := 35) hx hb dX12_hearsDrawn_29 (by decide) (fun c_10 => ?_) (fun c_10 => ?_)
      · have hf := yb_neg c_10 hf
        refine lv_aload_n hx hb dX12_hearsDrawn_35 rfl (lv_at hl 0 rfl) ?_
        refine lv_iload_n hx hb dX12_hearsDrawn_36 rfl (lv_at hl 2 rfl) ?_
        refine lv_iload_n hx hb dX12_hearsDrawn_37 rfl (lv_at hl 1 rfl) ?_
        obtain ⟨r_11, I_12, J_13, hq_14, hf⟩ := yb_b3_some hf
        refine x_calli X hK hw (c12_begins l D cz ev mb hq_14) (ml_mem0 mb) (ml_S0 mb) cpX12.1 vw_X12_395 ⟨Nat.le_of_ble_eq_true rfl, Nat.le_of_ble_eq_true rfl⟩ rfl rfl (Nat.le_of_ble_eq_true rfl) hl.1 ⟨Nat.le_refl _, Nat.le_refl _⟩ dX12_hearsDrawn_38 (fun H locs hw => ?_)
        refine lv_pop hx hb dX12_hearsDrawn_41 rfl ?_
        exact yb_retv hfin (yb_inl hret hf) hw dX12_hearsDrawn_42
      · have hf := yb_pos c_10 hf
        refine lv_goto (tgt := 43) hx hb dX12_hearsDrawn_32 (by decide) ?_
        obtain ⟨x2_15, ex2_15, hf⟩ := yb_let_ex hf
        refine lv_iinc (v := x2_15) (lv' := [(2, .int x2_15), (0, .ref mb), (1, .int x1)]) hx hb dX12_hearsDrawn_43 hl (k := 2) rfl (by rw [ex2_15]; rfl) (by decide) rfl (fun ls hl => ?_)
        refine lv_goto (tgt := 13) hx hb dX12_hearsDrawn_46 (by decide) ?_
        exact ih _ _ _ _ _ _ _ _ _ hf hw (lv_sub hl [1, 2, 0] rfl) hret hfin hexit
set_option maxHeartbeats 4000000 in
set_option maxRecDepth 100000 in
theorem c12_hearsDrawn (l : Launch) (D : va_G) (cz : Nat → ClassId) (ev : Nat × Nat × Nat) (mb : Nat) {N : Nat} {I : IT} {J : JT} {r : Unit} {I1 : IT} {J1 : JT} (hf : f12_hearsDrawn N mb I J = some (r, I1, J1)) : MTv l D cz ev yX12_hearsDrawn cX12_hearsDrawn 3 (none) 6 153 [.ref mb] (mlL mb) (mlS mb) (mlR mb) I J r I1 J1 := by
  unfold f12_hearsDrawn at hf
  refine MTv_of (by decide) (Nat.le_of_ble_eq_true rfl) ?_
  intro p e s m args below meth c Q ls X hK hw hl hfin
  have X : CallFix p m c cX12_hearsDrawn 3 s args gw RX12 := X
  have hx := X.1
  have hb := X.2.1
  have hl : lv_has ls 3 [(0, .ref mb)] := hl
  refine lv_aload_n hx hb dX12_hearsDrawn_0 rfl (lv_at hl 0 rfl) ?_
  refine lv_aload_n hx hb dX12_hearsDrawn_1 rfl (lv_at hl 0 rfl) ?_
  refine x_getR X hK hw (ml_mem0 mb) (ml_S0 mb) cpX12 20 (by decide) rfl (ml_R mb 20 rfl) tw_1271 dX12_hearsDrawn_2 ?_
  refine lv_iconst (v := (2 : Int32)) hx hb dX12_hearsDrawn_5 (by decide) ?_
  refine x_iald X hK hw (ml_mem mb 10 (by decide)) (ml_S mb 10 rfl) (by decide) rfl dX12_hearsDrawn_6 ?_
  obtain ⟨r_1, I_2, J_3, hq_4, hf⟩ := yb_b3_some hf
  refine x_calli X hK hw (c12_draw l D cz ev mb hq_4) (ml_mem0 mb) (ml_S0 mb) cpX12.1 vw_X12_499 ⟨Nat.le_of_ble_eq_true rfl, Nat.le_of_ble_eq_true rfl⟩ rfl rfl (Nat.le_of_ble_eq_true rfl) hl.1 ⟨Nat.le_refl _, Nat.le_refl _⟩ dX12_hearsDrawn_7 (fun H locs hw => ?_)
  refine lv_istore_n (lv' := [(1, .int r_1), (0, .ref mb)]) hx hb dX12_hearsDrawn_10 rfl hl (by decide) rfl (fun ls hl => ?_)
  refine lv_iconst (v := (0 : Int32)) hx hb dX12_hearsDrawn_11 (by decide) ?_
  refine lv_istore_n (lv' := [(2, .int (0 : Int32)), (1, .int r_1), (0, .ref mb)]) hx hb dX12_hearsDrawn_12 rfl hl (by decide) rfl (fun ls hl => ?_)
  obtain ⟨q_16, I_17, J_18, hq_19, hf⟩ := yb_b3_some hf
  refine w12_hearsDrawn_L13 X hK _ _ _ _ _ _ _ _ _ _ hq_19 hw (lv_sub hl [2, 1, 0] rfl) (fun v hv => by rw [hv] at hf; exact hf) hfin (fun x_21 hx1 H locs ls hw hl => ?_)
  rw [hx1] at hf
  have hf := yb_sm_r hf
  exact yb_retv hfin hf hw dX12_hearsDrawn_49
