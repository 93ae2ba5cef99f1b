set_option maxHeartbeats 4000000 in
set_option maxRecDepth 100000 in
theorem c12_in (l : Launch) (D : va_G) (cz : Nat → ClassId) (ev : Nat × Nat × Nat) (mb : Nat) {x0 : Int64} {x2 : Int64} {x4 : Int64} {I : IT} {J : JT} {r : Int32} {I1 : IT} {J1 : JT} (hf : f12_in mb x0 x2 x4 I J = some (r, I1, J1)) : MTi l D cz ev yX12_in cX12_in 6 (some .boolean) 0 0 [.long x0, .long x2, .long x4] (mlL mb) (mlS mb) (mlR mb) I J r I1 J1 := by
  unfold f12_in at hf
  refine MTz_of (by decide) (Nat.le_of_ble_eq_true rfl) ?_
  intro p e s m args below meth c Q ls X hK hw hl hfin
  have X : CallFix p m c cX12_in 6 s args gw RX12 := X
  have hx := X.1
  have hb := X.2.1
  have hl : lv_has ls 6 [(0, .long x0), (2, .long x2), (4, .long x4)] := hl
  refine lv_lload_n hx hb dX12_in_0 rfl (lv_at hl 0 rfl) ?_
  refine lv_lload_n hx hb dX12_in_1 rfl (lv_at hl 1 rfl) ?_
  refine W.lcmp hx hb dX12_in_2 ?_
  refine lv_if_lt (tgt := 17) hx hb dX12_in_3 (by decide) (fun c_1 => ?_) (fun c_1 => ?_)
  · have hf := yb_pos c_1 hf
    refine lv_iconst (v := (0 : Int32)) hx hb dX12_in_17 (by decide) ?_
    exact yb_retz hfin (by decide) hf hw dX12_in_18
  · have hf := yb_neg c_1 hf
    refine lv_lload_n hx hb dX12_in_6 rfl (lv_at hl 0 rfl) ?_
    refine lv_lload hx hb dX12_in_7 (lv_at hl 2 rfl) ?_
    refine W.lcmp hx hb dX12_in_9 ?_
    refine lv_if_gt (tgt := 17) hx hb dX12_in_10 (by decide) (fun c_2 => ?_) (fun c_2 => ?_)
    · have hf := yb_pos c_2 hf
      refine lv_iconst (v := (0 : Int32)) hx hb dX12_in_17 (by decide) ?_
      exact yb_retz hfin (by decide) hf hw dX12_in_18
    · have hf := yb_neg c_2 hf
      refine lv_iconst (v := (1 : Int32)) hx hb dX12_in_13 (by decide) ?_
      refine lv_goto (tgt := 18) hx hb dX12_in_14 (by decide) ?_
      exact yb_retz hfin (by decide) hf hw dX12_in_18
set_option maxHeartbeats 4000000 in
set_option maxRecDepth 100000 in
theorem c12_isOf (l : Launch) (D : va_G) (cz : Nat → ClassId) (ev : Nat × Nat × Nat) (mb : Nat) {x0 : Int32} {x1 : Int32} {I : IT} {J : JT} {r : Int32} {I1 : IT} {J1 : JT} (hf : f12_isOf mb x0 x1 I J = some (r, I1, J1)) : MTi l D cz ev yX12_isOf cX12_isOf 2 (some .boolean) 0 0 [.int x0, .int x1] (mlL mb) (mlS mb) (mlR mb) I J r I1 J1 := by
  unfold f12_isOf at hf
  refine MTz_of (by decide) (Nat.le_of_ble_eq_true rfl) ?_
  intro p e s m args below meth c Q ls X hK hw hl hfin
  have X : CallFix p m c cX12_isOf 2 s args gw RX12 := X
  have hx := X.1
  have hb := X.2.1
  have hl : lv_has ls 2 [(0, .int x0), (1, .int x1)] := hl
  refine lv_iload_n hx hb dX12_isOf_0 rfl (lv_at hl 0 rfl) ?_
  refine lv_iload_n hx hb dX12_isOf_1 rfl (lv_at hl 1 rfl) ?_
  refine lv_ishr hx hb dX12_isOf_2 ?_
  refine lv_iconst (v := (1 : Int32)) hx hb dX12_isOf_3 (by decide) ?_
  refine lv_iand hx hb dX12_isOf_4 ?_
  refine lv_iconst (v := (1 : Int32)) hx hb dX12_isOf_5 (by decide) ?_
  refine lv_icmp_ne (tgt := 13) hx hb dX12_isOf_6 (by decide) (fun c_1 => ?_) (fun c_1 => ?_)
  · have hf := yb_neg c_1 hf
    refine lv_iconst (v := (0 : Int32)) hx hb dX12_isOf_13 (by decide) ?_
    exact yb_retz hfin (by decide) hf hw dX12_isOf_14
  · have hf := yb_pos c_1 hf
    refine lv_iconst (v := (1 : Int32)) hx hb dX12_isOf_9 (by decide) ?_
    refine lv_goto (tgt := 14) hx hb dX12_isOf_10 (by decide) ?_
    exact yb_retz hfin (by decide) hf hw dX12_isOf_14
set_option maxHeartbeats 4000000 in
set_option maxRecDepth 100000 in
theorem w12_four_L3 {p : Program} {l : Launch} {e : Env} {s : State} {m : MethodId} {args : Array Value} {below : List Frame} {meth : Method} {c : Code} {Q : State → Prop} {D : va_G} {cz : Nat → ClassId} {A : Nat → Prop} {ev : Nat × Nat × Nat} {mb : Nat} (X : CallFix p m c cX12_four 3 s args gw RX12) (hK : KX D cz ev A s) {N : Nat} {x1 : Int32} :
    ∀ (n : Nat) (x2 : Int32) (I : IT) (J : JT) (q : (Unit)) (I1 : IT) (J1 : JT) (H : Heap) (locs : List Loc) (ls : Array Slot), f12_four_L3 N mb x1 n x2 I J = some (q, I1, J1) → WX D cz A (mlL mb) (mlS mb) (mlR mb) s.heap I J H locs → lv_has ls 3 [(0, .ref mb), (1, .int x1), (2, .int x2)] →
    (∀ (H : Heap) (locs : List Loc) (ls : Array Slot), WX D cz A (mlL mb) (mlS mb) (mlR mb) s.heap I1 J1 H locs → lv_has ls 3 [] → W p l e (rmX 0 0) s m args below meth c H locs 0 0 Q (F0 m 36 ls [])) →
    W p l e (rmX 0 0) s m args below meth c H locs 0 0 Q (F0 m 3 ls []) := by
  have hx := X.1
  have hb := X.2.1
  intro n
  induction n with
  | zero =>
    intro x2 I J q I1 J1 H locs ls hf
    rw [f12_four_L3] at hf
    cases hf
  | succ n ih =>
    intro x2 I J q I1 J1 H locs ls hf hw hl hexit
    rw [f12_four_L3] at hf
    refine lv_iload_n hx hb dX12_four_3 rfl (lv_at hl 2 rfl) ?_
    refine lv_if_lt (tgt := 36) hx hb dX12_four_4 (by decide) (fun c_1 => ?_) (fun c_1 => ?_)
    · have hf := yb_pos c_1 hf
      obtain ⟨rfl, rfl, rfl⟩ := yb_inj hf
      exact hexit _ _ _ hw (lv_sub hl [] rfl)
    · have hf := yb_neg c_1 hf
      refine lv_aload_n hx hb dX12_four_7 rfl (lv_at hl 0 rfl) ?_
      refine x_getR X hK hw (ml_mem0 mb) (ml_S0 mb) cpX12 0 (by decide) rfl (ml_R mb 0 rfl) tw_1251 dX12_four_8 ?_
      refine lv_aload_n hx hb dX12_four_11 rfl (lv_at hl 0 rfl) ?_
      refine x_getI X hK hw (ml_mem0 mb) (ml_S0 mb) cpX12 1 (by decide) rfl tw_1252 dX12_four_12 ?_
      refine lv_iload_n hx hb dX12_four_15 rfl (lv_at hl 1 rfl) ?_
      refine lv_iload_n hx hb dX12_four_16 rfl (lv_at hl 2 rfl) ?_
      refine lv_ishr hx hb dX12_four_17 ?_
      refine lv_i2b hx hb dX12_four_18 rfl ?_
      obtain ⟨hi_2, hf⟩ := yb_ck_some hf
      refine x_bast X hK hw (ml_mem mb 1 (by decide)) (ml_S mb 1 rfl) hi_2 rfl dX12_four_19 (fun H locs hw => ?_)
      obtain ⟨I_3, eI_3, hf⟩ := yb_let_ex hf
      have hw := yb_wI eI_3 hw
      refine lv_aload_n hx hb dX12_four_20 rfl (lv_at hl 0 rfl) ?_
      refine lv_dup hx hb dX12_four_21 rfl ?_
      refine x_getI X hK hw (ml_mem0 mb) (ml_S0 mb) cpX12 1 (by decide) rfl tw_1252 dX12_four_22 ?_
      refine lv_iconst (v := (1 : Int32)) hx hb dX12_four_25 (by decide) ?_
      refine lv_iadd hx hb dX12_four_26 ?_
      refine x_putI X hK hw (ml_mem0 mb) (ml_S0 mb) cpX12 1 (by decide) rfl rfl rfl tw_1252 dX12_four_27 (fun H locs hw => ?_)
      obtain ⟨I_4, eI_4, hf⟩ := yb_let_ex hf
      have hw := yb_wI eI_4 hw
      obtain ⟨x2_5, ex2_5, hf⟩ := yb_let_ex hf
      refine lv_iinc (v := x2_5) (lv' := [(2, .int x2_5), (0, .ref mb), (1, .int x1)]) hx hb dX12_four_30 hl (k := 2) rfl (by rw [ex2_5]; rfl) (by decide) rfl (fun ls hl => ?_)
      refine lv_goto (tgt := 3) hx hb dX12_four_33 (by decide) ?_
      exact ih _ _ _ _ _ _ _ _ _ hf hw (lv_sub hl [1, 2, 0] rfl) hexit
set_option maxHeartbeats 4000000 in
set_option maxRecDepth 100000 in
theorem c12_four (l : Launch) (D : va_G) (cz : Nat → ClassId) (ev : Nat × Nat × Nat) (mb : Nat) {N : Nat} {x1 : Int32} {I : IT} {J : JT} {r : Unit} {I1 : IT} {J1 : JT} (hf : f12_four N mb x1 I J = some (r, I1, J1)) : MTv l D cz ev yX12_four cX12_four 3 (none) 0 0 [.ref mb, .int x1] (mlL mb) (mlS mb) (mlR mb) I J r I1 J1 := by
  unfold f12_four at hf
  refine MTv_of (by decide) (Nat.le_of_ble_eq_true rfl) ?_
  intro p e s m args below meth c Q ls X hK hw hl hfin
  have X : CallFix p m c cX12_four 3 s args gw RX12 := X
  have hx := X.1
  have hb := X.2.1
  have hl : lv_has ls 3 [(0, .ref mb), (1, .int x1)] := hl
  refine lv_bipush (v := (24 : Int32)) hx hb dX12_four_0 (by decide) ?_
  refine lv_istore_n (lv' := [(2, .int (24 : Int32)), (0, .ref mb), (1, .int x1)]) hx hb dX12_four_2 rfl hl (by decide) rfl (fun ls hl => ?_)
  obtain ⟨q_6, I_7, J_8, hq_9, hf⟩ := yb_b3_some hf
  refine w12_four_L3 X hK _ _ _ _ _ _ _ _ _ _ hq_9 hw (lv_sub hl [1, 2, 0] rfl) (fun H locs ls hw hl => ?_)
  exact yb_retv hfin hf hw dX12_four_36
set_option maxHeartbeats 4000000 in
set_option maxRecDepth 100000 in
theorem c12_feed (l : Launch) (D : va_G) (cz : Nat → ClassId) (ev : Nat × Nat × Nat) (mb : Nat) {N : Nat} {x1 : Int32} {x2 : Int32} {x3 : Int32} {x4 : Int32} {x5 : Int32} {I : IT} {J : JT} {r : Int32} {I1 : IT} {J1 : JT} (hf : f12_feed N mb x1 x2 x3 x4 x5 I J = some (r, I1, J1)) : MTi l D cz ev yX12_feed cX12_feed 6 (some .int) 1 22 [.ref mb, .int x1, .int x2, .int x3, .int x4, .int x5] (mlL mb) (mlS mb) (mlR mb) I J r I1 J1 := by
  unfold f12_feed at hf
  refine MTi_of (by decide) (Nat.le_of_ble_eq_true rfl) ?_
  intro p e s m args below meth c Q ls X hK hw hl hfin
  have X : CallFix p m c cX12_feed 6 s args gw RX12 := X
  have hx := X.1
  have hb := X.2.1
  have hl : lv_has ls 6 [(0, .ref mb), (1, .int x1), (2, .int x2), (3, .int x3), (4, .int x4), (5, .int x5)] := hl
  refine lv_aload_n hx hb dX12_feed_0 rfl (lv_at hl 0 rfl) ?_
  refine x_getI X hK hw (ml_mem0 mb) (ml_S0 mb) cpX12 1 (by decide) rfl tw_1252 dX12_feed_1 ?_
  refine lv_bipush (v := (20 : Int32)) hx hb dX12_feed_4 (by decide) ?_
  refine lv_iadd hx hb dX12_feed_6 ?_
  refine lv_sipush (v := (400 : Int32)) hx hb dX12_feed_7 (by decide) ?_
  refine lv_icmp_le (tgt := 15) hx hb dX12_feed_10 (by decide) (fun c_1 => ?_) (fun c_1 => ?_)
  · have hf := yb_pos c_1 hf
    refine lv_aload_n hx hb dX12_feed_15 rfl (lv_at hl 0 rfl) ?_
    refine lv_iload_n hx hb dX12_feed_16 rfl (lv_at hl 1 rfl) ?_
    obtain ⟨r_2, I_3, J_4, hq_5, hf⟩ := yb_b3_some hf
    refine x_callv X hK hw (c12_four l D cz ev mb hq_5) (ml_mem0 mb) (ml_S0 mb) cpX12.1 vw_X12_107 ⟨Nat.le_of_ble_eq_true rfl, Nat.le_of_ble_eq_true rfl⟩ rfl rfl (Nat.le_of_ble_eq_true rfl) hl.1 ⟨Nat.le_refl _, Nat.le_refl _⟩ dX12_feed_17 (fun H locs hw => ?_)
    refine lv_aload_n hx hb dX12_feed_20 rfl (lv_at hl 0 rfl) ?_
    refine lv_iload_n hx hb dX12_feed_21 rfl (lv_at hl 2 rfl) ?_
    obtain ⟨r_6, I_7, J_8, hq_9, hf⟩ := yb_b3_some hf
    refine x_callv X hK hw (c12_four l D cz ev mb hq_9) (ml_mem0 mb) (ml_S0 mb) cpX12.1 vw_X12_107 ⟨Nat.le_of_ble_eq_true rfl, Nat.le_of_ble_eq_true rfl⟩ rfl rfl (Nat.le_of_ble_eq_true rfl) hl.1 ⟨Nat.le_refl _, Nat.le_refl _⟩ dX12_feed_22 (fun H locs hw => ?_)
    refine lv_aload_n hx hb dX12_feed_25 rfl (lv_at hl 0 rfl) ?_
    refine lv_iload_n hx hb dX12_feed_26 rfl (lv_at hl 3 rfl) ?_
    obtain ⟨r_10, I_11, J_12, hq_13, hf⟩ := yb_b3_some hf
    refine x_callv X hK hw (c12_four l D cz ev mb hq_13) (ml_mem0 mb) (ml_S0 mb) cpX12.1 vw_X12_107 ⟨Nat.le_of_ble_eq_true rfl, Nat.le_of_ble_eq_true rfl⟩ rfl rfl (Nat.le_of_ble_eq_true rfl) hl.1 ⟨Nat.le_refl _, Nat.le_refl _⟩ dX12_feed_27 (fun H locs hw => ?_)
    refine lv_aload_n hx hb dX12_feed_30 rfl (lv_at hl 0 rfl) ?_
    refine lv_iload hx hb dX12_feed_31 (lv_at hl 4 rfl) ?_
    obtain ⟨r_14, I_15, J_16, hq_17, hf⟩ := yb_b3_some hf
    refine x_callv X hK hw (c12_four l D cz ev mb hq_17) (ml_mem0 mb) (ml_S0 mb) cpX12.1 vw_X12_107 ⟨Nat.le_of_ble_eq_true rfl, Nat.le_of_ble_eq_true rfl⟩ rfl rfl (Nat.le_of_ble_eq_true rfl) hl.1 ⟨Nat.le_refl _, Nat.le_refl _⟩ dX12_feed_33 (fun H locs hw => ?_)
    refine lv_aload_n hx hb dX12_feed_36 rfl (lv_at hl 0 rfl) ?_
    refine lv_iload hx hb dX12_feed_37 (lv_at hl 5 rfl) ?_
    obtain ⟨r_18, I_19, J_20, hq_21, hf⟩ := yb_b3_some hf
    refine x_callv X hK hw (c12_four l D cz ev mb hq_21) (ml_mem0 mb) (ml_S0 mb) cpX12.1 vw_X12_107 ⟨Nat.le_of_ble_eq_true rfl, Nat.le_of_ble_eq_true rfl⟩ rfl rfl (Nat.le_of_ble_eq_true rfl) hl.1 ⟨Nat.le_refl _, Nat.le_refl _⟩ dX12_feed_39 (fun H locs hw => ?_)
    refine lv_aload_n hx hb dX12_feed_42 rfl (lv_at hl 0 rfl) ?_
    refine x_getI X hK hw (ml_mem0 mb) (ml_S0 mb) cpX12 1 (by decide) rfl tw_1252 dX12_feed_43 ?_
    exact yb_reti hfin hf hw dX12_feed_46
  · have hf := yb_neg c_1 hf
    refine lv_iconst (v := (-1 : Int32)) hx hb dX12_feed_13 (by decide) ?_
    exact yb_reti hfin hf hw dX12_feed_14
set_option maxHeartbeats 4000000 in
set_option maxRecDepth 100000 in
theorem c12_end (l : Launch) (D : va_G) (cz : Nat → ClassId) (ev : Nat × Nat × Nat) (mb : Nat) {x1 : Int32} {I : IT} {J : JT} {r : Int32} {I1 : IT} {J1 : JT} (hf : f12_end mb x1 I J = some (r, I1, J1)) : MTi l D cz ev yX12_end cX12_end 2 (some .int) 0 0 [.ref mb, .int x1] (mlL mb) (mlS mb) (mlR mb) I J r I1 J1 := by
  unfold f12_end at hf
  refine MTi_of (by decide) (Nat.le_of_ble_eq_true rfl) ?_
  intro p e s m args below meth c Q ls X hK hw hl hfin
  have X : CallFix p m c cX12_end 2 s args gw RX12 := X
  have hx := X.1
  have hb := X.2.1
  have hl : lv_has ls 2 [(0, .ref mb), (1, .int x1)] := hl
  refine lv_iload_n hx hb dX12_end_0 rfl (lv_at hl 1 rfl) ?_
  refine lv_if_lt (tgt := 12) hx hb dX12_end_1 (by decide) (fun c_1 => ?_) (fun c_1 => ?_)
  · have hf := yb_pos c_1 hf
    refine lv_iconst (v := (-1 : Int32)) hx hb dX12_end_12 (by decide) ?_
    exact yb_reti hfin hf hw dX12_end_13
  · have hf := yb_neg c_1 hf
    refine lv_iload_n hx hb dX12_end_4 rfl (lv_at hl 1 rfl) ?_
    refine lv_aload_n hx hb dX12_end_5 rfl (lv_at hl 0 rfl) ?_
    refine x_getI X hK hw (ml_mem0 mb) (ml_S0 mb) cpX12 1 (by decide) rfl tw_1252 dX12_end_6 ?_
    refine lv_icmp_le (tgt := 14) hx hb dX12_end_9 (by decide) (fun c_2 => ?_) (fun c_2 => ?_)
    · have hf := yb_pos c_2 hf
      refine lv_aload_n hx hb dX12_end_14 rfl (lv_at hl 0 rfl) ?_
      refine lv_iload_n hx hb dX12_end_15 rfl (lv_at hl 1 rfl) ?_
      refine x_putI X hK hw (ml_mem0 mb) (ml_S0 mb) cpX12 1 (by decide) rfl rfl rfl tw_1252 dX12_end_16 (fun H locs hw => ?_)
      obtain ⟨I_3, eI_3, hf⟩ := yb_let_ex hf
      have hw := yb_wI eI_3 hw
      refine lv_iload_n hx hb dX12_end_19 rfl (lv_at hl 1 rfl) ?_
      exact yb_reti hfin hf hw dX12_end_20
    · have hf := yb_neg c_2 hf
      refine lv_iconst (v := (-1 : Int32)) hx hb dX12_end_12 (by decide) ?_
      exact yb_reti hfin hf hw dX12_end_13
set_option maxHeartbeats 4000000 in
set_option maxRecDepth 100000 in
theorem c12_fails (l : Launch) (D : va_G) (cz : Nat → ClassId) (ev : Nat × Nat × Nat) (mb : Nat) {x1 : Int32} {x2 : Int32} {I : IT} {J : JT} {r : Int32} {I1 : IT} {J1 : JT} (hf : f12_fails mb x1 x2 I J = some (r, I1, J1)) : MTi l D cz ev yX12_fails cX12_fails 3 (some .boolean) 0 0 [.ref mb, .int x1, .int x2] (mlL mb) (mlS mb) (mlR mb) I J r I1 J1 := by
  unfold f12_fails at hf
  refine MTz_of (by decide) (Nat.le_of_ble_eq_true rfl) ?_
  intro p e s m args below meth c Q ls X hK hw hl hfin
  have X : CallFix p m c cX12_fails 3 s args gw RX12 := X
  have hx := X.1
  have hb := X.2.1
  have hl : lv_has ls 3 [(0, .ref mb), (1, .int x1), (2, .int x2)] := hl
  refine lv_aload_n hx hb dX12_fails_0 rfl (lv_at hl 0 rfl) ?_
  refine x_getI X hK hw (ml_mem0 mb) (ml_S0 mb) cpX12 9 (by decide) rfl tw_1260 dX12_fails_1 ?_
  refine lv_if_ne (tgt := 19) hx hb dX12_fails_4 (by decide) (fun c_1 => ?_) (fun c_1 => ?_)
  · have hf := yb_neg c_1 hf
    refine lv_iconst (v := (0 : Int32)) hx hb dX12_fails_19 (by decide) ?_
    exact yb_retz hfin (by decide) hf hw dX12_fails_20
  · have hf := yb_pos c_1 hf
    refine lv_aload_n hx hb dX12_fails_7 rfl (lv_at hl 0 rfl) ?_
    refine lv_iconst (v := (1 : Int32)) hx hb dX12_fails_8 (by decide) ?_
    refine lv_bipush (v := (8 : Int32)) hx hb dX12_fails_9 (by decide) ?_
    refine lv_iload_n hx hb dX12_fails_11 rfl (lv_at hl 2 rfl) ?_
    refine lv_imul hx hb dX12_fails_12 ?_
    refine lv_iadd hx hb dX12_fails_13 ?_
    refine lv_iload_n hx hb dX12_fails_14 rfl (lv_at hl 1 rfl) ?_
    refine lv_iadd hx hb dX12_fails_15 ?_
    refine x_putI X hK hw (ml_mem0 mb) (ml_S0 mb) cpX12 9 (by decide) rfl rfl rfl tw_1260 dX12_fails_16 (fun H locs hw => ?_)
    obtain ⟨I_2, eI_2, hf⟩ := yb_let_ex hf
    have hw := yb_wI eI_2 hw
    refine lv_iconst (v := (0 : Int32)) hx hb dX12_fails_19 (by decide) ?_
    exact yb_retz hfin (by decide) hf hw dX12_fails_20
set_option maxHeartbeats 4000000 in
set_option maxRecDepth 100000 in
theorem w12_see_L0 {p : Program} {l : Launch} {e : Env} {s : State} {m : MethodId} {args : Array Value} {below : List Frame} {meth : Method} {c : Code} {Q : State → Prop} {D : va_G} {cz : Nat → ClassId} {A : Nat → Prop} {ev : Nat × Nat × Nat} {mb : Nat} (X : CallFix p m c cX12_see 1 s args gw RX12) (hK : KX D cz ev A s) {N : Nat} :
    ∀ (n : Nat) (I : IT) (J : JT) (q : (Unit)) (I1 : IT) (J1 : JT) (H : Heap) (locs : List Loc) (ls : Array Slot), f12_see_L0 N mb n I J = some (q, I1, J1) → WX D cz A (mlL mb) (mlS mb) (mlR mb) s.heap I J H locs → lv_has ls 1 [(0, .ref mb)] →
    (∀ (H : Heap) (locs : List Loc) (ls : Array Slot), WX D cz A (mlL mb) (mlS mb) (mlR mb) s.heap I1 J1 H locs → lv_has ls 1 [(0, .ref mb)] → W p l e (rmX 0 0) s m args below meth c H locs 0 0 Q (F0 m 38 ls [])) →
    W p l e (rmX 0 0) s m args below meth c H locs 0 0 Q (F0 m 0 ls []) := by
  have hx := X.1
  have hb := X.2.1
  intro n
  induction n with
  | zero =>
    intro  I J q I1 J1 H locs ls hf
    rw [f12_see_L0] at hf
    cases hf
  | succ n ih =>
    intro  I J q I1 J1 H locs ls hf hw hl hexit
    rw [f12_see_L0] at hf
    refine lv_aload_n hx hb dX12_see_0 rfl (lv_at hl 0 rfl) ?_
    refine x_getI X hK hw (ml_mem0 mb) (ml_S0 mb) cpX12 8 (by decide) rfl tw_1259 dX12_see_1 ?_
    refine lv_aload_n hx hb dX12_see_4 rfl (lv_at hl 0 rfl) ?_
    refine x_getI X hK hw (ml_mem0 mb) (ml_S0 mb) cpX12 1 (by decide) rfl tw_1252 dX12_see_5 ?_
    refine lv_icmp_ge (tgt := 38) hx hb dX12_see_8 (by decide) (fun c_1 => ?_) (fun c_1 => ?_)
    · have hf := yb_pos c_1 hf
      obtain ⟨rfl, rfl, rfl⟩ := yb_inj hf
      exact hexit _ _ _ hw (lv_sub hl [0] rfl)
    · have hf := yb_neg c_1 hf
      refine lv_aload_n hx hb dX12_see_11 rfl (lv_at hl 0 rfl) ?_
      refine x_getR X hK hw (ml_mem0 mb) (ml_S0 mb) cpX12 0 (by decide) rfl (ml_R mb 0 rfl) tw_1251 dX12_see_12 ?_
      refine lv_aload_n hx hb dX12_see_15 rfl (lv_at hl 0 rfl) ?_
      refine x_getI X hK hw (ml_mem0 mb) (ml_S0 mb) cpX12 8 (by decide) rfl tw_1259 dX12_see_16 ?_
      obtain ⟨hi_2, hf⟩ := yb_ck_some hf
      refine x_bald X hK hw (ml_mem mb 1 (by decide)) (ml_S mb 1 rfl) hi_2 rfl dX12_see_19 ?_
      refine lv_bipush (v := (32 : Int32)) hx hb dX12_see_20 (by decide) ?_
      refine lv_icmp_ne (tgt := 38) hx hb dX12_see_22 (by decide) (fun c_3 => ?_) (fun c_3 => ?_)
      · have hf := yb_neg c_3 hf
        obtain ⟨rfl, rfl, rfl⟩ := yb_inj hf
        exact hexit _ _ _ hw (lv_sub hl [0] rfl)
      · have hf := yb_pos c_3 hf
        refine lv_aload_n hx hb dX12_see_25 rfl (lv_at hl 0 rfl) ?_
        refine lv_dup hx hb dX12_see_26 rfl ?_
        refine x_getI X hK hw (ml_mem0 mb) (ml_S0 mb) cpX12 8 (by decide) rfl tw_1259 dX12_see_27 ?_
        refine lv_iconst (v := (1 : Int32)) hx hb dX12_see_30 (by decide) ?_
        refine lv_iadd hx hb dX12_see_31 ?_
        refine x_putI X hK hw (ml_mem0 mb) (ml_S0 mb) cpX12 8 (by decide) rfl rfl rfl tw_1259 dX12_see_32 (fun H locs hw => ?_)
        obtain ⟨I_4, eI_4, hf⟩ := yb_let_ex hf
        have hw := yb_wI eI_4 hw
        refine lv_goto (tgt := 0) hx hb dX12_see_35 (by decide) ?_
        exact ih  _ _ _ _ _ _ _ _ hf hw (lv_sub hl [0] rfl) hexit
set_option maxHeartbeats 4000000 in
set_option maxRecDepth 100000 in
theorem c12_see (l : Launch) (D : va_G) (cz : Nat → ClassId) (ev : Nat × Nat × Nat) (mb : Nat) {N : Nat} {I : IT} {J : JT} {r : Int32} {I1 : IT} {J1 : JT} (hf : f12_see N mb I J = some (r, I1, J1)) : MTi l D cz ev yX12_see cX12_see 1 (some .int) 0 0 [.ref mb] (mlL mb) (mlS mb) (mlR mb) I J r I1 J1 := by
  unfold f12_see at hf
  refine MTi_of (by decide) (Nat.le_of_ble_eq_true rfl) ?_
  intro p e s m args below meth c Q ls X hK hw hl hfin
  have X : CallFix p m c cX12_see 1 s args gw RX12 := X
  have hx := X.1
  have hb := X.2.1
  have hl : lv_has ls 1 [(0, .ref mb)] := hl
  obtain ⟨q_5, I_6, J_7, hq_8, hf⟩ := yb_b3_some hf
  refine w12_see_L0 X hK _  _ _ _ _ _ _ _ _ hq_8 hw (lv_sub hl [0] rfl) (fun H locs ls hw hl => ?_)
  refine lv_aload_n hx hb dX12_see_38 rfl (lv_at hl 0 rfl) ?_
  refine x_getI X hK hw (ml_mem0 mb) (ml_S0 mb) cpX12 8 (by decide) rfl tw_1259 dX12_see_39 ?_
  refine lv_aload_n hx hb dX12_see_42 rfl (lv_at hl 0 rfl) ?_
  refine x_getI X hK hw (ml_mem0 mb) (ml_S0 mb) cpX12 1 (by decide) rfl tw_1252 dX12_see_43 ?_
  refine lv_icmp_ge (tgt := 65) hx hb dX12_see_46 (by decide) (fun c_9 => ?_) (fun c_9 => ?_)
  · have hf := yb_pos c_9 hf
    refine lv_iconst (v := (-1 : Int32)) hx hb dX12_see_65 (by decide) ?_
    exact yb_reti hfin hf hw dX12_see_66
  · have hf := yb_neg c_9 hf
    refine lv_aload_n hx hb dX12_see_49 rfl (lv_at hl 0 rfl) ?_
    refine x_getR X hK hw (ml_mem0 mb) (ml_S0 mb) cpX12 0 (by decide) rfl (ml_R mb 0 rfl) tw_1251 dX12_see_50 ?_
    refine lv_aload_n hx hb dX12_see_53 rfl (lv_at hl 0 rfl) ?_
    refine x_getI X hK hw (ml_mem0 mb) (ml_S0 mb) cpX12 8 (by decide) rfl tw_1259 dX12_see_54 ?_
    obtain ⟨hi_10, hf⟩ := yb_ck_some hf
    refine x_bald X hK hw (ml_mem mb 1 (by decide)) (ml_S mb 1 rfl) hi_10 rfl dX12_see_57 ?_
    refine lv_sipush (v := (255 : Int32)) hx hb dX12_see_58 (by decide) ?_
    refine lv_iand hx hb dX12_see_61 ?_
    refine lv_goto (tgt := 66) hx hb dX12_see_62 (by decide) ?_
    exact yb_reti hfin hf hw dX12_see_66
set_option maxHeartbeats 4000000 in
set_option maxRecDepth 100000 in
theorem c12_isDigit (l : Launch) (D : va_G) (cz : Nat → ClassId) (ev : Nat × Nat × Nat) (mb : Nat) {x1 : Int32} {I : IT} {J : JT} {r : Int32} {I1 : IT} {J1 : JT} (hf : f12_isDigit mb x1 I J = some (r, I1, J1)) : MTi l D cz ev yX12_isDigit cX12_isDigit 2 (some .boolean) 0 0 [.ref mb, .int x1] (mlL mb) (mlS mb) (mlR mb) I J r I1 J1 := by
  unfold f12_isDigit at hf
  refine MTz_of (by decide) (Nat.le_of_ble_eq_true rfl) ?_
  intro p e s m args below meth c Q ls X hK hw hl hfin
  have X : CallFix p m c cX12_isDigit 2 s args gw RX12 := X
  have hx := X.1
  have hb := X.2.1
  have hl : lv_has ls 2 [(0, .ref mb), (1, .int x1)] := hl
  refine lv_iload_n hx hb dX12_isDigit_0 rfl (lv_at hl 1 rfl) ?_
  refine lv_aload_n hx hb dX12_isDigit_1 rfl (lv_at hl 0 rfl) ?_
  refine x_getI X hK hw (ml_mem0 mb) (ml_S0 mb) cpX12 1 (by decide) rfl tw_1252 dX12_isDigit_2 ?_
  refine lv_icmp_ge (tgt := 34) hx hb dX12_isDigit_5 (by decide) (fun c_1 => ?_) (fun c_1 => ?_)
  · have hf := yb_pos c_1 hf
    refine lv_iconst (v := (0 : Int32)) hx hb dX12_isDigit_34 (by decide) ?_
    exact yb_retz hfin (by decide) hf hw dX12_isDigit_35
  · have hf := yb_neg c_1 hf
    refine lv_aload_n hx hb dX12_isDigit_8 rfl (lv_at hl 0 rfl) ?_
    refine x_getR X hK hw (ml_mem0 mb) (ml_S0 mb) cpX12 0 (by decide) rfl (ml_R mb 0 rfl) tw_1251 dX12_isDigit_9 ?_
    refine lv_iload_n hx hb dX12_isDigit_12 rfl (lv_at hl 1 rfl) ?_
    obtain ⟨hi_2, hf⟩ := yb_ck_some hf
    refine x_bald X hK hw (ml_mem mb 1 (by decide)) (ml_S mb 1 rfl) hi_2 rfl dX12_isDigit_13 ?_
    refine lv_bipush (v := (48 : Int32)) hx hb dX12_isDigit_14 (by decide) ?_
    refine lv_icmp_lt (tgt := 34) hx hb dX12_isDigit_16 (by decide) (fun c_3 => ?_) (fun c_3 => ?_)
    · have hf := yb_pos c_3 hf
      refine lv_iconst (v := (0 : Int32)) hx hb dX12_isDigit_34 (by decide) ?_
      exact yb_retz hfin (by decide) hf hw dX12_isDigit_35
    · have hf := yb_neg c_3 hf
      refine lv_aload_n hx hb dX12_isDigit_19 rfl (lv_at hl 0 rfl) ?_
      refine x_getR X hK hw (ml_mem0 mb) (ml_S0 mb) cpX12 0 (by decide) rfl (ml_R mb 0 rfl) tw_1251 dX12_isDigit_20 ?_
      refine lv_iload_n hx hb dX12_isDigit_23 rfl (lv_at hl 1 rfl) ?_
      refine x_bald X hK hw (ml_mem mb 1 (by decide)) (ml_S mb 1 rfl) hi_2 rfl dX12_isDigit_24 ?_
      refine lv_bipush (v := (57 : Int32)) hx hb dX12_isDigit_25 (by decide) ?_
      refine lv_icmp_gt (tgt := 34) hx hb dX12_isDigit_27 (by decide) (fun c_4 => ?_) (fun c_4 => ?_)
      · have hf := yb_pos c_4 hf
        refine lv_iconst (v := (0 : Int32)) hx hb dX12_isDigit_34 (by decide) ?_
        exact yb_retz hfin (by decide) hf hw dX12_isDigit_35
      · have hf := yb_neg c_4 hf
        refine lv_iconst (v := (1 : Int32)) hx hb dX12_isDigit_30 (by decide) ?_
        refine lv_goto (tgt := 35) hx hb dX12_isDigit_31 (by decide) ?_
        exact yb_retz hfin (by decide) hf hw dX12_isDigit_35
set_option maxHeartbeats 4000000 in
set_option maxRecDepth 100000 in
theorem c12_isLetter (l : Launch) (D : va_G) (cz : Nat → ClassId) (ev : Nat × Nat × Nat) (mb : Nat) {x1 : Int32} {I : IT} {J : JT} {r : Int32} {I1 : IT} {J1 : JT} (hf : f12_isLetter mb x1 I J = some (r, I1, J1)) : MTi l D cz ev yX12_isLetter cX12_isLetter 2 (some .boolean) 0 0 [.ref mb, .int x1] (mlL mb) (mlS mb) (mlR mb) I J r I1 J1 := by
  unfold f12_isLetter at hf
  refine MTz_of (by decide) (Nat.le_of_ble_eq_true rfl) ?_
  intro p e s m args below meth c Q ls X hK hw hl hfin
  have X : CallFix p m c cX12_isLetter 2 s args gw RX12 := X
  have hx := X.1
  have hb := X.2.1
  have hl : lv_has ls 2 [(0, .ref mb), (1, .int x1)] := hl
  refine lv_iload_n hx hb dX12_isLetter_0 rfl (lv_at hl 1 rfl) ?_
  refine lv_aload_n hx hb dX12_isLetter_1 rfl (lv_at hl 0 rfl) ?_
  refine x_getI X hK hw (ml_mem0 mb) (ml_S0 mb) cpX12 1 (by decide) rfl tw_1252 dX12_isLetter_2 ?_
  refine lv_icmp_ge (tgt := 34) hx hb dX12_isLetter_5 (by decide) (fun c_1 => ?_) (fun c_1 => ?_)
  · have hf := yb_pos c_1 hf
    refine lv_iconst (v := (0 : Int32)) hx hb dX12_isLetter_34 (by decide) ?_
    exact yb_retz hfin (by decide) hf hw dX12_isLetter_35
  · have hf := yb_neg c_1 hf
    refine lv_aload_n hx hb dX12_isLetter_8 rfl (lv_at hl 0 rfl) ?_
    refine x_getR X hK hw (ml_mem0 mb) (ml_S0 mb) cpX12 0 (by decide) rfl (ml_R mb 0 rfl) tw_1251 dX12_isLetter_9 ?_
    refine lv_iload_n hx hb dX12_isLetter_12 rfl (lv_at hl 1 rfl) ?_
    obtain ⟨hi_2, hf⟩ := yb_ck_some hf
    refine x_bald X hK hw (ml_mem mb 1 (by decide)) (ml_S mb 1 rfl) hi_2 rfl dX12_isLetter_13 ?_
    refine lv_bipush (v := (97 : Int32)) hx hb dX12_isLetter_14 (by decide) ?_
    refine lv_icmp_lt (tgt := 34) hx hb dX12_isLetter_16 (by decide) (fun c_3 => ?_) (fun c_3 => ?_)
    · have hf := yb_pos c_3 hf
      refine lv_iconst (v := (0 : Int32)) hx hb dX12_isLetter_34 (by decide) ?_
      exact yb_retz hfin (by decide) hf hw dX12_isLetter_35
    · have hf := yb_neg c_3 hf
      refine lv_aload_n hx hb dX12_isLetter_19 rfl (lv_at hl 0 rfl) ?_
      refine x_getR X hK hw (ml_mem0 mb) (ml_S0 mb) cpX12 0 (by decide) rfl (ml_R mb 0 rfl) tw_1251 dX12_isLetter_20 ?_
      refine lv_iload_n hx hb dX12_isLetter_23 rfl (lv_at hl 1 rfl) ?_
      refine x_bald X hK hw (ml_mem mb 1 (by decide)) (ml_S mb 1 rfl) hi_2 rfl dX12_isLetter_24 ?_
      refine lv_bipush (v := (122 : Int32)) hx hb dX12_isLetter_25 (by decide) ?_
      refine lv_icmp_gt (tgt := 34) hx hb dX12_isLetter_27 (by decide) (fun c_4 => ?_) (fun c_4 => ?_)
      · have hf := yb_pos c_4 hf
        refine lv_iconst (v := (0 : Int32)) hx hb dX12_isLetter_34 (by decide) ?_
        exact yb_retz hfin (by decide) hf hw dX12_isLetter_35
      · have hf := yb_neg c_4 hf
        refine lv_iconst (v := (1 : Int32)) hx hb dX12_isLetter_30 (by decide) ?_
        refine lv_goto (tgt := 35) hx hb dX12_isLetter_31 (by decide) ?_
        exact yb_retz hfin (by decide) hf hw dX12_isLetter_35
set_option maxHeartbeats 4000000 in
set_option maxRecDepth 100000 in
theorem w12_isWord_L10 {p : Program} {l : Launch} {e : Env} {s : State} {m : MethodId} {args : Array Value} {below : List Frame} {meth : Method} {c : Code} {Q : State → Prop} {D : va_G} {cz : Nat → ClassId} {A : Nat → Prop} {ev : Nat × Nat × Nat} {mb : Nat} (X : CallFix p m c cX12_isWord 6 s args gw RX12) (hK : KX D cz ev A s) {N : Nat} {x1 : Int64} :
    ∀ (n : Nat) (x3 : Int64) (x5 : Int32) (I : IT) (J : JT) (q : (Int64 × Int32)) (I1 : IT) (J1 : JT) (H : Heap) (locs : List Loc) (ls : Array Slot), f12_isWord_L10 N mb x1 n x3 x5 I J = some (q, I1, J1) → WX D cz A (mlL mb) (mlS mb) (mlR mb) s.heap I J H locs → lv_has ls 6 [(0, .ref mb), (1, .long x1), (3, .long x3), (5, .int x5)] →
    (∀ (H : Heap) (locs : List Loc) (ls : Array Slot), WX D cz A (mlL mb) (mlS mb) (mlR mb) s.heap I1 J1 H locs → lv_has ls 6 [(1, .long x1), (3, .long q.1), (5, .int q.2)] → W p l e (rmX 1 21) s m args below meth c H locs 0 0 Q (F0 m 56 ls [])) →
    W p l e (rmX 1 21) s m args below meth c H locs 0 0 Q (F0 m 10 ls []) := by
  have hx := X.1
  have hb := X.2.1
  intro n
  induction n with
  | zero =>
    intro x3 x5 I J q I1 J1 H locs ls hf
    rw [f12_isWord_L10] at hf
    cases hf
  | succ n ih =>
    intro x3 x5 I J q I1 J1 H locs ls hf hw hl hexit
    rw [f12_isWord_L10] at hf
    refine lv_aload_n hx hb dX12_isWord_10 rfl (lv_at hl 0 rfl) ?_
    refine lv_aload_n hx hb dX12_isWord_11 rfl (lv_at hl 0 rfl) ?_
    refine x_getI X hK hw (ml_mem0 mb) (ml_S0 mb) cpX12 8 (by decide) rfl tw_1259 dX12_isWord_12 ?_
    refine lv_iload hx hb dX12_isWord_15 (lv_at hl 3 rfl) ?_
    refine lv_iadd hx hb dX12_isWord_17 ?_
    obtain ⟨r_5, I_6, J_7, hq_8, hf⟩ := yb_b3_some hf
    refine x_calli X hK hw (c12_isLetter l D cz ev mb hq_8) (ml_mem0 mb) (ml_S0 mb) cpX12.1 vw_X12_121 ⟨Nat.le_of_ble_eq_true rfl, Nat.le_of_ble_eq_true rfl⟩ rfl rfl (Nat.le_of_ble_eq_true rfl) hl.1 ⟨Nat.le_refl _, Nat.le_refl _⟩ dX12_isWord_18 (fun H locs hw => ?_)
    refine lv_if_eq (tgt := 56) hx hb dX12_isWord_21 (by decide) (fun c_9 => ?_) (fun c_9 => ?_)
    · have hf := yb_pos c_9 hf
      obtain ⟨rfl, rfl, rfl⟩ := yb_inj hf
      exact hexit _ _ _ hw (lv_sub hl [1, 2, 3] rfl)
    · have hf := yb_neg c_9 hf
      refine lv_iload hx hb dX12_isWord_24 (lv_at hl 3 rfl) ?_
      refine lv_bipush (v := (8 : Int32)) hx hb dX12_isWord_26 (by decide) ?_
      refine lv_icmp_ge (tgt := 50) hx hb dX12_isWord_28 (by decide) (fun c_10 => ?_) (fun c_10 => ?_)
      · have hf := yb_pos c_10 hf
        obtain ⟨x5_11, ex5_11, hf⟩ := yb_let_ex hf
        refine lv_iinc (v := x5_11) (lv' := [(5, .int x5_11), (0, .ref mb), (1, .long x1), (3, .long x3)]) hx hb dX12_isWord_50 hl (k := 3) rfl (by rw [ex5_11]; rfl) (by decide) rfl (fun ls hl => ?_)
        refine lv_goto (tgt := 10) hx hb dX12_isWord_53 (by decide) ?_
        exact ih _ _ _ _ _ _ _ _ _ _ hf hw (lv_sub hl [1, 2, 3, 0] rfl) hexit
      · have hf := yb_neg c_10 hf
        refine lv_lload_n hx hb dX12_isWord_31 rfl (lv_at hl 2 rfl) ?_
        refine lv_bipush (v := (8 : Int32)) hx hb dX12_isWord_32 (by decide) ?_
        refine lv_lshl hx hb dX12_isWord_34 rfl ?_
        refine lv_aload_n hx hb dX12_isWord_35 rfl (lv_at hl 0 rfl) ?_
        refine x_getR X hK hw (ml_mem0 mb) (ml_S0 mb) cpX12 0 (by decide) rfl (ml_R mb 0 rfl) tw_1251 dX12_isWord_36 ?_
        refine lv_aload_n hx hb dX12_isWord_39 rfl (lv_at hl 0 rfl) ?_
        refine x_getI X hK hw (ml_mem0 mb) (ml_S0 mb) cpX12 8 (by decide) rfl tw_1259 dX12_isWord_40 ?_
        refine lv_iload hx hb dX12_isWord_43 (lv_at hl 3 rfl) ?_
        refine lv_iadd hx hb dX12_isWord_45 ?_
        obtain ⟨hi_12, hf⟩ := yb_ck_some hf
        refine x_bald X hK hw (ml_mem mb 1 (by decide)) (ml_S mb 1 rfl) hi_12 rfl dX12_isWord_46 ?_
        refine lv_i2l hx hb dX12_isWord_47 rfl ?_
        refine lv_lor hx hb dX12_isWord_48 ?_
        refine lv_topl (fun x3_13 ex3_13 => ?_)
        have hf := yb_let_to ex3_13 hf
        refine lv_lstore_n (lv' := [(3, .long x3_13), (0, .ref mb), (1, .long x1), (5, .int x5)]) hx hb dX12_isWord_49 rfl hl (by decide) rfl (fun ls hl => ?_)
        obtain ⟨x5_14, ex5_14, hf⟩ := yb_let_ex hf
        refine lv_iinc (v := x5_14) (lv' := [(5, .int x5_14), (3, .long x3_13), (0, .ref mb), (1, .long x1)]) hx hb dX12_isWord_50 hl (k := 3) rfl (by rw [ex5_14]; rfl) (by decide) rfl (fun ls hl => ?_)
        refine lv_goto (tgt := 10) hx hb dX12_isWord_53 (by decide) ?_
        exact ih _ _ _ _ _ _ _ _ _ _ hf hw (lv_sub hl [2, 3, 1, 0] rfl) hexit
set_option maxHeartbeats 4000000 in
set_option maxRecDepth 100000 in
theorem c12_isWord (l : Launch) (D : va_G) (cz : Nat → ClassId) (ev : Nat × Nat × Nat) (mb : Nat) {N : Nat} {x1 : Int64} {I : IT} {J : JT} {r : Int32} {I1 : IT} {J1 : JT} (hf : f12_isWord N mb x1 I J = some (r, I1, J1)) : MTi l D cz ev yX12_isWord cX12_isWord 6 (some .boolean) 1 21 [.ref mb, .long x1] (mlL mb) (mlS mb) (mlR mb) I J r I1 J1 := by
  unfold f12_isWord at hf
  refine MTz_of (by decide) (Nat.le_of_ble_eq_true rfl) ?_
  intro p e s m args below meth c Q ls X hK hw hl hfin
  have X : CallFix p m c cX12_isWord 6 s args gw RX12 := X
  have hx := X.1
  have hb := X.2.1
  have hl : lv_has ls 6 [(0, .ref mb), (1, .long x1)] := hl
  refine lv_aload_n hx hb dX12_isWord_0 rfl (lv_at hl 0 rfl) ?_
  obtain ⟨r_1, I_2, J_3, hq_4, hf⟩ := yb_b3_some hf
  refine x_calli X hK hw (c12_see l D cz ev mb hq_4) (ml_mem0 mb) (ml_S0 mb) cpX12.1 vw_X12_117 ⟨Nat.le_of_ble_eq_true rfl, Nat.le_of_ble_eq_true rfl⟩ rfl rfl (Nat.le_of_ble_eq_true rfl) hl.1 ⟨Nat.le_refl _, Nat.le_refl _⟩ dX12_isWord_1 (fun H locs hw => ?_)
  refine lv_pop hx hb dX12_isWord_4 rfl ?_
  refine lv_lconst (v := (0 : Int64)) hx hb dX12_isWord_5 (by decide) ?_
  refine lv_lstore_n (lv' := [(3, .long (0 : Int64)), (0, .ref mb), (1, .long x1)]) hx hb dX12_isWord_6 rfl hl (by decide) rfl (fun ls hl => ?_)
  refine lv_iconst (v := (0 : Int32)) hx hb dX12_isWord_7 (by decide) ?_
  refine lv_istore (lv' := [(5, .int (0 : Int32)), (3, .long (0 : Int64)), (0, .ref mb), (1, .long x1)]) hx hb dX12_isWord_8 hl (by decide) rfl (fun ls hl => ?_)
  obtain ⟨q_15, I_16, J_17, hq_18, hf⟩ := yb_b3_some hf
  refine w12_isWord_L10 X hK _ _ _ _ _ _ _ _ _ _ _ hq_18 hw (lv_sub hl [2, 3, 1, 0] rfl) (fun H locs ls hw hl => ?_)
  refine lv_iload hx hb dX12_isWord_56 (lv_at hl 2 rfl) ?_
  refine lv_if_le (tgt := 78) hx hb dX12_isWord_58 (by decide) (fun c_19 => ?_) (fun c_19 => ?_)
  · have hf := yb_pos c_19 hf
    refine lv_iconst (v := (0 : Int32)) hx hb dX12_isWord_78 (by decide) ?_
    exact yb_retz hfin (by decide) hf hw dX12_isWord_79
  · have hf := yb_neg c_19 hf
    refine lv_iload hx hb dX12_isWord_61 (lv_at hl 2 rfl) ?_
    refine lv_bipush (v := (9 : Int32)) hx hb dX12_isWord_63 (by decide) ?_
    refine lv_icmp_ge (tgt := 78) hx hb dX12_isWord_65 (by decide) (fun c_20 => ?_) (fun c_20 => ?_)
    · have hf := yb_pos c_20 hf
      refine lv_iconst (v := (0 : Int32)) hx hb dX12_isWord_78 (by decide) ?_
      exact yb_retz hfin (by decide) hf hw dX12_isWord_79
    · have hf := yb_neg c_20 hf
      refine lv_lload_n hx hb dX12_isWord_68 rfl (lv_at hl 1 rfl) ?_
      refine lv_lload_n hx hb dX12_isWord_69 rfl (lv_at hl 0 rfl) ?_
      refine W.lcmp hx hb dX12_isWord_70 ?_
      refine lv_if_ne (tgt := 78) hx hb dX12_isWord_71 (by decide) (fun c_21 => ?_) (fun c_21 => ?_)
      · have hf := yb_neg c_21 hf
        refine lv_iconst (v := (0 : Int32)) hx hb dX12_isWord_78 (by decide) ?_
        exact yb_retz hfin (by decide) hf hw dX12_isWord_79
      · have hf := yb_pos c_21 hf
        refine lv_iconst (v := (1 : Int32)) hx hb dX12_isWord_74 (by decide) ?_
        refine lv_goto (tgt := 79) hx hb dX12_isWord_75 (by decide) ?_
        exact yb_retz hfin (by decide) hf hw dX12_isWord_79
set_option maxHeartbeats 4000000 in
set_option maxRecDepth 100000 in
theorem w12_passWord_L0 {p : Program} {l : Launch} {e : Env} {s : State} {m : MethodId} {args : Array Value} {below : List Frame} {meth : Method} {c : Code} {Q : State → Prop} {D : va_G} {cz : Nat → ClassId} {A : Nat → Prop} {ev : Nat × Nat × Nat} {mb : Nat} (X : CallFix p m c cX12_passWord 1 s args gw RX12) (hK : KX D cz ev A s) {N : Nat} :
    ∀ (n : Nat) (I : IT) (J : JT) (q : (Unit)) (I1 : IT) (J1 : JT) (H : Heap) (locs : List Loc) (ls : Array Slot), f12_passWord_L0 N mb n I J = some (q, I1, J1) → WX D cz A (mlL mb) (mlS mb) (mlR mb) s.heap I J H locs → lv_has ls 1 [(0, .ref mb)] →
    (∀ (H : Heap) (locs : List Loc) (ls : Array Slot), WX D cz A (mlL mb) (mlS mb) (mlR mb) s.heap I1 J1 H locs → lv_has ls 1 [] → W p l e (rmX 1 21) s m args below meth c H locs 0 0 Q (F0 m 24 ls [])) →
    W p l e (rmX 1 21) s m args below meth c H locs 0 0 Q (F0 m 0 ls []) := by
  have hx := X.1
  have hb := X.2.1
  intro n
  induction n with
  | zero =>
    intro  I J q I1 J1 H locs ls hf
    rw [f12_passWord_L0] at hf
    cases hf
  | succ n ih =>
    intro  I J q I1 J1 H locs ls hf hw hl hexit
    rw [f12_passWord_L0] at hf
    refine lv_aload_n hx hb dX12_passWord_0 rfl (lv_at hl 0 rfl) ?_
    refine lv_aload_n hx hb dX12_passWord_1 rfl (lv_at hl 0 rfl) ?_
    refine x_getI X hK hw (ml_mem0 mb) (ml_S0 mb) cpX12 8 (by decide) rfl tw_1259 dX12_passWord_2 ?_
    obtain ⟨r_1, I_2, J_3, hq_4, hf⟩ := yb_b3_some hf
    refine x_calli X hK hw (c12_isLetter l D cz ev mb hq_4) (ml_mem0 mb) (ml_S0 mb) cpX12.1 vw_X12_121 ⟨Nat.le_of_ble_eq_true rfl, Nat.le_of_ble_eq_true rfl⟩ rfl rfl (Nat.le_of_ble_eq_true rfl) hl.1 ⟨Nat.le_refl _, Nat.le_refl _⟩ dX12_passWord_5 (fun H locs hw => ?_)
    refine lv_if_eq (tgt := 24) hx hb dX12_passWord_8 (by decide) (fun c_5 => ?_) (fun c_5 => ?_)
    · have hf := yb_pos c_5 hf
      obtain ⟨rfl, rfl, rfl⟩ := yb_inj hf
      exact hexit _ _ _ hw (lv_sub hl [] rfl)
    · have hf := yb_neg c_5 hf
      refine lv_aload_n hx hb dX12_passWord_11 rfl (lv_at hl 0 rfl) ?_
      refine lv_dup hx hb dX12_passWord_12 rfl ?_
      refine x_getI X hK hw (ml_mem0 mb) (ml_S0 mb) cpX12 8 (by decide) rfl tw_1259 dX12_passWord_13 ?_
      refine lv_iconst (v := (1 : Int32)) hx hb dX12_passWord_16 (by decide) ?_
      refine lv_iadd hx hb dX12_passWord_17 ?_
      refine x_putI X hK hw (ml_mem0 mb) (ml_S0 mb) cpX12 8 (by decide) rfl rfl rfl tw_1259 dX12_passWord_18 (fun H locs hw => ?_)
      obtain ⟨I_6, eI_6, hf⟩ := yb_let_ex hf
      have hw := yb_wI eI_6 hw
      refine lv_goto (tgt := 0) hx hb dX12_passWord_21 (by decide) ?_
      exact ih  _ _ _ _ _ _ _ _ hf hw (lv_sub hl [0] rfl) hexit
set_option maxHeartbeats 4000000 in
set_option maxRecDepth 100000 in
theorem c12_passWord (l : Launch) (D : va_G) (cz : Nat → ClassId) (ev : Nat × Nat × Nat) (mb : Nat) {N : Nat} {I : IT} {J : JT} {r : Unit} {I1 : IT} {J1 : JT} (hf : f12_passWord N mb I J = some (r, I1, J1)) : MTv l D cz ev yX12_passWord cX12_passWord 1 (none) 1 21 [.ref mb] (mlL mb) (mlS mb) (mlR mb) I J r I1 J1 := by
  unfold f12_passWord at hf
  refine MTv_of (by decide) (Nat.le_of_ble_eq_true rfl) ?_
  intro p e s m args below meth c Q ls X hK hw hl hfin
  have X : CallFix p m c cX12_passWord 1 s args gw RX12 := X
  have hx := X.1
  have hb := X.2.1
  have hl : lv_has ls 1 [(0, .ref mb)] := hl
  obtain ⟨q_7, I_8, J_9, hq_10, hf⟩ := yb_b3_some hf
  refine w12_passWord_L0 X hK _  _ _ _ _ _ _ _ _ hq_10 hw (lv_sub hl [0] rfl) (fun H locs ls hw hl => ?_)
  exact yb_retv hfin hf hw dX12_passWord_24
set_option maxHeartbeats 4000000 in
set_option maxRecDepth 100000 in
theorem c12_takesWord (l : Launch) (D : va_G) (cz : Nat → ClassId) (ev : Nat × Nat × Nat) (mb : Nat) {N : Nat} {x1 : Int64} {I : IT} {J : JT} {r : Int32} {I1 : IT} {J1 : JT} (hf : f12_takesWord N mb x1 I J = some (r, I1, J1)) : MTi l D cz ev yX12_takesWord cX12_takesWord 3 (some .boolean) 2 46 [.ref mb, .long x1] (mlL mb) (mlS mb) (mlR mb) I J r I1 J1 := by
  unfold f12_takesWord at hf
  refine MTz_of (by decide) (Nat.le_of_ble_eq_true rfl) ?_
  intro p e s m args below meth c Q ls X hK hw hl hfin
  have X : CallFix p m c cX12_takesWord 3 s args gw RX12 := X
  have hx := X.1
  have hb := X.2.1
  have hl : lv_has ls 3 [(0, .ref mb), (1, .long x1)] := hl
  refine lv_aload_n hx hb dX12_takesWord_0 rfl (lv_at hl 0 rfl) ?_
  refine lv_lload_n hx hb dX12_takesWord_1 rfl (lv_at hl 1 rfl) ?_
  obtain ⟨r_1, I_2, J_3, hq_4, hf⟩ := yb_b3_some hf
  refine x_calli X hK hw (c12_isWord l D cz ev mb hq_4) (ml_mem0 mb) (ml_S0 mb) cpX12.1 vw_X12_125 ⟨Nat.le_of_ble_eq_true rfl, Nat.le_of_ble_eq_true rfl⟩ rfl rfl (Nat.le_of_ble_eq_true rfl) hl.1 ⟨Nat.le_refl _, Nat.le_refl _⟩ dX12_takesWord_2 (fun H locs hw => ?_)
  refine lv_if_ne (tgt := 10) hx hb dX12_takesWord_5 (by decide) (fun c_5 => ?_) (fun c_5 => ?_)
  · have hf := yb_neg c_5 hf
    refine lv_aload_n hx hb dX12_takesWord_10 rfl (lv_at hl 0 rfl) ?_
    obtain ⟨r_6, I_7, J_8, hq_9, hf⟩ := yb_b3_some hf
    refine x_callv X hK hw (c12_passWord l D cz ev mb hq_9) (ml_mem0 mb) (ml_S0 mb) cpX12.1 vw_X12_129 ⟨Nat.le_of_ble_eq_true rfl, Nat.le_of_ble_eq_true rfl⟩ rfl rfl (Nat.le_of_ble_eq_true rfl) hl.1 ⟨Nat.le_refl _, Nat.le_refl _⟩ dX12_takesWord_11 (fun H locs hw => ?_)
    refine lv_iconst (v := (1 : Int32)) hx hb dX12_takesWord_14 (by decide) ?_
    exact yb_retz hfin (by decide) hf hw dX12_takesWord_15
  · have hf := yb_pos c_5 hf
    refine lv_iconst (v := (0 : Int32)) hx hb dX12_takesWord_8 (by decide) ?_
    exact yb_retz hfin (by decide) hf hw dX12_takesWord_9
set_option maxHeartbeats 4000000 in
set_option maxRecDepth 100000 in
theorem w12_numberHere_L34 {p : Program} {l : Launch} {e : Env} {s : State} {m : MethodId} {args : Array Value} {below : List Frame} {meth : Method} {c : Code} {Q : State → Prop} {D : va_G} {cz : Nat → ClassId} {A : Nat → Prop} {ev : Nat × Nat × Nat} {mb : Nat} (X : CallFix p m c cX12_numberHere 5 s args gw RX12) (hK : KX D cz ev A s) {N : Nat} {x1 : Int32} {x2 : Int32} {x3 : Int32} :
    ∀ (n : Nat) (x4 : Int32) (I : IT) (J : JT) (q : (Int32)) (I1 : IT) (J1 : JT) (H : Heap) (locs : List Loc) (ls : Array Slot), f12_numberHere_L34 N mb x1 x2 x3 n x4 I J = some (q, I1, J1) → WX D cz A (mlL mb) (mlS mb) (mlR mb) s.heap I J H locs → lv_has ls 5 [(0, .ref mb), (1, .int x1), (2, .int x2), (3, .int x3), (4, .int x4)] →
    (∀ (H : Heap) (locs : List Loc) (ls : Array Slot), WX D cz A (mlL mb) (mlS mb) (mlR mb) s.heap I1 J1 H locs → lv_has ls 5 [(0, .ref mb), (1, .int x1), (2, .int x2), (3, .int x3), (4, .int q)] → W p l e (rmX 1 25) s m args below meth c H locs 0 0 Q (F0 m 88 ls [])) →
    W p l e (rmX 1 25) s m args below meth c H locs 0 0 Q (F0 m 34 ls []) := by
  have hx := X.1
  have hb := X.2.1
  intro n
  induction n with
  | zero =>
    intro x4 I J q I1 J1 H locs ls hf
    rw [f12_numberHere_L34] at hf
    cases hf
  | succ n ih =>
    intro x4 I J q I1 J1 H locs ls hf hw hl hexit
    rw [f12_numberHere_L34] at hf
    refine lv_aload_n hx hb dX12_numberHere_34 rfl (lv_at hl 0 rfl) ?_
    refine lv_aload_n hx hb dX12_numberHere_35 rfl (lv_at hl 0 rfl) ?_
    refine x_getI X hK hw (ml_mem0 mb) (ml_S0 mb) cpX12 8 (by decide) rfl tw_1259 dX12_numberHere_36 ?_
    obtain ⟨r_11, I_12, J_13, hq_14, hf⟩ := yb_b3_some hf
    refine x_calli X hK hw (c12_isDigit l D cz ev mb hq_14) (ml_mem0 mb) (ml_S0 mb) cpX12.1 vw_X12_132 ⟨Nat.le_of_ble_eq_true rfl, Nat.le_of_ble_eq_true rfl⟩ rfl rfl (Nat.le_of_ble_eq_true rfl) hl.1 ⟨Nat.le_refl _, Nat.le_refl _⟩ dX12_numberHere_39 (fun H locs hw => ?_)
    refine lv_if_eq (tgt := 88) hx hb dX12_numberHere_42 (by decide) (fun c_15 => ?_) (fun c_15 => ?_)
    · have hf := yb_pos c_15 hf
      obtain ⟨rfl, rfl, rfl⟩ := yb_inj hf
      exact hexit _ _ _ hw (lv_sub hl [0, 1, 2, 3, 4] rfl)
    · have hf := yb_neg c_15 hf
      refine lv_aload_n hx hb dX12_numberHere_45 rfl (lv_at hl 0 rfl) ?_
      refine x_getI X hK hw (ml_mem0 mb) (ml_S0 mb) cpX12 8 (by decide) rfl tw_1259 dX12_numberHere_46 ?_
      refine lv_iload_n hx hb dX12_numberHere_49 rfl (lv_at hl 3 rfl) ?_
      refine lv_isub hx hb dX12_numberHere_50 ?_
      refine lv_iconst (v := (5 : Int32)) hx hb dX12_numberHere_51 (by decide) ?_
      refine lv_icmp_ge (tgt := 75) hx hb dX12_numberHere_52 (by decide) (fun c_16 => ?_) (fun c_16 => ?_)
      · have hf := yb_pos c_16 hf
        refine lv_aload_n hx hb dX12_numberHere_75 rfl (lv_at hl 0 rfl) ?_
        refine lv_dup hx hb dX12_numberHere_76 rfl ?_
        refine x_getI X hK hw (ml_mem0 mb) (ml_S0 mb) cpX12 8 (by decide) rfl tw_1259 dX12_numberHere_77 ?_
        refine lv_iconst (v := (1 : Int32)) hx hb dX12_numberHere_80 (by decide) ?_
        refine lv_iadd hx hb dX12_numberHere_81 ?_
        refine x_putI X hK hw (ml_mem0 mb) (ml_S0 mb) cpX12 8 (by decide) rfl rfl rfl tw_1259 dX12_numberHere_82 (fun H locs hw => ?_)
        obtain ⟨I_17, eI_17, hf⟩ := yb_let_ex hf
        have hw := yb_wI eI_17 hw
        refine lv_goto (tgt := 34) hx hb dX12_numberHere_85 (by decide) ?_
        exact ih _ _ _ _ _ _ _ _ _ hf hw (lv_sub hl [0, 1, 2, 3, 4] rfl) hexit
      · have hf := yb_neg c_16 hf
        refine lv_bipush (v := (10 : Int32)) hx hb dX12_numberHere_55 (by decide) ?_
        refine lv_iload hx hb dX12_numberHere_57 (lv_at hl 4 rfl) ?_
        refine lv_imul hx hb dX12_numberHere_59 ?_
        refine lv_aload_n hx hb dX12_numberHere_60 rfl (lv_at hl 0 rfl) ?_
        refine x_getR X hK hw (ml_mem0 mb) (ml_S0 mb) cpX12 0 (by decide) rfl (ml_R mb 0 rfl) tw_1251 dX12_numberHere_61 ?_
        refine lv_aload_n hx hb dX12_numberHere_64 rfl (lv_at hl 0 rfl) ?_
        refine x_getI X hK hw (ml_mem0 mb) (ml_S0 mb) cpX12 8 (by decide) rfl tw_1259 dX12_numberHere_65 ?_
        obtain ⟨hi_18, hf⟩ := yb_ck_some hf
        refine x_bald X hK hw (ml_mem mb 1 (by decide)) (ml_S mb 1 rfl) hi_18 rfl dX12_numberHere_68 ?_
        refine lv_iadd hx hb dX12_numberHere_69 ?_
        refine lv_bipush (v := (48 : Int32)) hx hb dX12_numberHere_70 (by decide) ?_
        refine lv_isub hx hb dX12_numberHere_72 ?_
        refine lv_topi (fun x4_19 ex4_19 => ?_)
        have hf := yb_let_to ex4_19 hf
        refine lv_istore (lv' := [(4, .int x4_19), (0, .ref mb), (1, .int x1), (2, .int x2), (3, .int x3)]) hx hb dX12_numberHere_73 hl (by decide) rfl (fun ls hl => ?_)
        refine lv_aload_n hx hb dX12_numberHere_75 rfl (lv_at hl 1 rfl) ?_
        refine lv_dup hx hb dX12_numberHere_76 rfl ?_
        refine x_getI X hK hw (ml_mem0 mb) (ml_S0 mb) cpX12 8 (by decide) rfl tw_1259 dX12_numberHere_77 ?_
        refine lv_iconst (v := (1 : Int32)) hx hb dX12_numberHere_80 (by decide) ?_
        refine lv_iadd hx hb dX12_numberHere_81 ?_
        refine x_putI X hK hw (ml_mem0 mb) (ml_S0 mb) cpX12 8 (by decide) rfl rfl rfl tw_1259 dX12_numberHere_82 (fun H locs hw => ?_)
        obtain ⟨I_20, eI_20, hf⟩ := yb_let_ex hf
        have hw := yb_wI eI_20 hw
        refine lv_goto (tgt := 34) hx hb dX12_numberHere_85 (by decide) ?_
        exact ih _ _ _ _ _ _ _ _ _ hf hw (lv_sub hl [1, 2, 3, 4, 0] rfl) hexit
set_option maxHeartbeats 4000000 in
set_option maxRecDepth 100000 in
theorem c12_numberHere (l : Launch) (D : va_G) (cz : Nat → ClassId) (ev : Nat × Nat × Nat) (mb : Nat) {N : Nat} {x1 : Int32} {x2 : Int32} {I : IT} {J : JT} {r : Int32} {I1 : IT} {J1 : JT} (hf : f12_numberHere N mb x1 x2 I J = some (r, I1, J1)) : MTi l D cz ev yX12_numberHere cX12_numberHere 5 (some .boolean) 1 25 [.ref mb, .int x1, .int x2] (mlL mb) (mlS mb) (mlR mb) I J r I1 J1 := by
  unfold f12_numberHere at hf
  refine MTz_of (by decide) (Nat.le_of_ble_eq_true rfl) ?_
  intro p e s m args below meth c Q ls X hK hw hl hfin
  have X : CallFix p m c cX12_numberHere 5 s args gw RX12 := X
  have hx := X.1
  have hb := X.2.1
  have hl : lv_has ls 5 [(0, .ref mb), (1, .int x1), (2, .int x2)] := hl
  refine lv_aload_n hx hb dX12_numberHere_0 rfl (lv_at hl 0 rfl) ?_
  obtain ⟨r_1, I_2, J_3, hq_4, hf⟩ := yb_b3_some hf
  refine x_calli X hK hw (c12_see l D cz ev mb hq_4) (ml_mem0 mb) (ml_S0 mb) cpX12.1 vw_X12_117 ⟨Nat.le_of_ble_eq_true rfl, Nat.le_of_ble_eq_true rfl⟩ rfl rfl (Nat.le_of_ble_eq_true rfl) hl.1 ⟨Nat.le_refl _, Nat.le_refl _⟩ dX12_numberHere_1 (fun H locs hw => ?_)
  refine lv_pop hx hb dX12_numberHere_4 rfl ?_
  refine lv_aload_n hx hb dX12_numberHere_5 rfl (lv_at hl 0 rfl) ?_
  refine lv_aload_n hx hb dX12_numberHere_6 rfl (lv_at hl 0 rfl) ?_
  refine x_getI X hK hw (ml_mem0 mb) (ml_S0 mb) cpX12 8 (by decide) rfl tw_1259 dX12_numberHere_7 ?_
  obtain ⟨r_5, I_6, J_7, hq_8, hf⟩ := yb_b3_some hf
  refine x_calli X hK hw (c12_isDigit l D cz ev mb hq_8) (ml_mem0 mb) (ml_S0 mb) cpX12.1 vw_X12_132 ⟨Nat.le_of_ble_eq_true rfl, Nat.le_of_ble_eq_true rfl⟩ rfl rfl (Nat.le_of_ble_eq_true rfl) hl.1 ⟨Nat.le_refl _, Nat.le_refl _⟩ dX12_numberHere_10 (fun H locs hw => ?_)
  refine lv_if_ne (tgt := 26) hx hb dX12_numberHere_13 (by decide) (fun c_9 => ?_) (fun c_9 => ?_)
  · have hf := yb_neg c_9 hf
    refine lv_aload_n hx hb dX12_numberHere_26 rfl (lv_at hl 0 rfl) ?_
    refine x_getI X hK hw (ml_mem0 mb) (ml_S0 mb) cpX12 8 (by decide) rfl tw_1259 dX12_numberHere_27 ?_
    refine lv_topi (fun x3_10 ex3_10 => ?_)
    have hf := yb_let_to ex3_10 hf
    refine lv_istore_n (lv' := [(3, .int x3_10), (0, .ref mb), (1, .int x1), (2, .int x2)]) hx hb dX12_numberHere_30 rfl hl (by decide) rfl (fun ls hl => ?_)
    refine lv_iconst (v := (0 : Int32)) hx hb dX12_numberHere_31 (by decide) ?_
    refine lv_istore (lv' := [(4, .int (0 : Int32)), (3, .int x3_10), (0, .ref mb), (1, .int x1), (2, .int x2)]) hx hb dX12_numberHere_32 hl (by decide) rfl (fun ls hl => ?_)
    obtain ⟨q_21, I_22, J_23, hq_24, hf⟩ := yb_b3_some hf
    refine w12_numberHere_L34 X hK _ _ _ _ _ _ _ _ _ _ hq_24 hw (lv_sub hl [2, 3, 4, 1, 0] rfl) (fun H locs ls hw hl => ?_)
    refine lv_aload_n hx hb dX12_numberHere_88 rfl (lv_at hl 0 rfl) ?_
    refine lv_iload hx hb dX12_numberHere_89 (lv_at hl 4 rfl) ?_
    refine x_putI X hK hw (ml_mem0 mb) (ml_S0 mb) cpX12 10 (by decide) rfl rfl rfl tw_1261 dX12_numberHere_91 (fun H locs hw => ?_)
    obtain ⟨I_25, eI_25, hf⟩ := yb_let_ex hf
    have hw := yb_wI eI_25 hw
    refine lv_aload_n hx hb dX12_numberHere_94 rfl (lv_at hl 0 rfl) ?_
    refine x_getI X hK hw (ml_mem0 mb) (ml_S0 mb) cpX12 8 (by decide) rfl tw_1259 dX12_numberHere_95 ?_
    refine lv_iload_n hx hb dX12_numberHere_98 rfl (lv_at hl 3 rfl) ?_
    refine lv_isub hx hb dX12_numberHere_99 ?_
    refine lv_iconst (v := (5 : Int32)) hx hb dX12_numberHere_100 (by decide) ?_
    refine lv_icmp_gt (tgt := 117) hx hb dX12_numberHere_101 (by decide) (fun c_26 => ?_) (fun c_26 => ?_)
    · have hf := yb_pos c_26 hf
      refine lv_aload_n hx hb dX12_numberHere_117 rfl (lv_at hl 0 rfl) ?_
      refine lv_iconst (v := (1 : Int32)) hx hb dX12_numberHere_118 (by decide) ?_
      refine lv_iload_n hx hb dX12_numberHere_119 rfl (lv_at hl 3 rfl) ?_
      obtain ⟨r_27, I_28, J_29, hq_30, hf⟩ := yb_b3_some hf
      refine x_calli X hK hw (c12_fails l D cz ev mb hq_30) (ml_mem0 mb) (ml_S0 mb) cpX12.1 vw_X12_135 ⟨Nat.le_of_ble_eq_true rfl, Nat.le_of_ble_eq_true rfl⟩ rfl rfl (Nat.le_of_ble_eq_true rfl) hl.1 ⟨Nat.le_refl _, Nat.le_refl _⟩ dX12_numberHere_120 (fun H locs hw => ?_)
      refine lv_if_eq (tgt := 130) hx hb dX12_numberHere_123 (by decide) (fun c_31 => ?_) (fun c_31 => ?_)
      · have hf := yb_pos c_31 hf
        refine lv_iconst (v := (0 : Int32)) hx hb dX12_numberHere_130 (by decide) ?_
        exact yb_retz hfin (by decide) hf hw dX12_numberHere_131
      · have hf := yb_neg c_31 hf
        refine lv_iconst (v := (1 : Int32)) hx hb dX12_numberHere_126 (by decide) ?_
        refine lv_goto (tgt := 131) hx hb dX12_numberHere_127 (by decide) ?_
        exact yb_retz hfin (by decide) hf hw dX12_numberHere_131
    · have hf := yb_neg c_26 hf
      refine lv_iload hx hb dX12_numberHere_104 (lv_at hl 4 rfl) ?_
      refine lv_i2l hx hb dX12_numberHere_106 rfl ?_
      refine lv_iload_n hx hb dX12_numberHere_107 rfl (lv_at hl 1 rfl) ?_
      refine lv_i2l hx hb dX12_numberHere_108 rfl ?_
      refine lv_iload_n hx hb dX12_numberHere_109 rfl (lv_at hl 2 rfl) ?_
      refine lv_i2l hx hb dX12_numberHere_110 rfl ?_
      obtain ⟨r_32, I_33, J_34, hq_35, hf⟩ := yb_b3_some hf
      refine x_callsi X hK hw (c12_in l D cz ev mb hq_35) sw_X12_142 ⟨Nat.le_of_ble_eq_true rfl, Nat.le_of_ble_eq_true rfl⟩ rfl rfl (Nat.le_of_ble_eq_true rfl) hl.1 ⟨Nat.le_refl _, Nat.le_refl _⟩ dX12_numberHere_111 (fun H locs hw => ?_)
      refine lv_if_ne (tgt := 126) hx hb dX12_numberHere_114 (by decide) (fun c_36 => ?_) (fun c_36 => ?_)
      · have hf := yb_neg c_36 hf
        refine lv_iconst (v := (1 : Int32)) hx hb dX12_numberHere_126 (by decide) ?_
        refine lv_goto (tgt := 131) hx hb dX12_numberHere_127 (by decide) ?_
        exact yb_retz hfin (by decide) hf hw dX12_numberHere_131
      · have hf := yb_pos c_36 hf
        refine lv_aload_n hx hb dX12_numberHere_117 rfl (lv_at hl 0 rfl) ?_
        refine lv_iconst (v := (1 : Int32)) hx hb dX12_numberHere_118 (by decide) ?_
        refine lv_iload_n hx hb dX12_numberHere_119 rfl (lv_at hl 3 rfl) ?_
        obtain ⟨r_37, I_38, J_39, hq_40, hf⟩ := yb_b3_some hf
        refine x_calli X hK hw (c12_fails l D cz ev mb hq_40) (ml_mem0 mb) (ml_S0 mb) cpX12.1 vw_X12_135 ⟨Nat.le_of_ble_eq_true rfl, Nat.le_of_ble_eq_true rfl⟩ rfl rfl (Nat.le_of_ble_eq_true rfl) hl.1 ⟨Nat.le_refl _, Nat.le_refl _⟩ dX12_numberHere_120 (fun H locs hw => ?_)
        refine lv_if_eq (tgt := 130) hx hb dX12_numberHere_123 (by decide) (fun c_41 => ?_) (fun c_41 => ?_)
        · have hf := yb_pos c_41 hf
          refine lv_iconst (v := (0 : Int32)) hx hb dX12_numberHere_130 (by decide) ?_
          exact yb_retz hfin (by decide) hf hw dX12_numberHere_131
        · have hf := yb_neg c_41 hf
          refine lv_iconst (v := (1 : Int32)) hx hb dX12_numberHere_126 (by decide) ?_
          refine lv_goto (tgt := 131) hx hb dX12_numberHere_127 (by decide) ?_
          exact yb_retz hfin (by decide) hf hw dX12_numberHere_131
  · have hf := yb_pos c_9 hf
    refine lv_aload_n hx hb dX12_numberHere_16 rfl (lv_at hl 0 rfl) ?_
    refine lv_iconst (v := (0 : Int32)) hx hb dX12_numberHere_17 (by decide) ?_
    refine lv_aload_n hx hb dX12_numberHere_18 rfl (lv_at hl 0 rfl) ?_
    refine x_getI X hK hw (ml_mem0 mb) (ml_S0 mb) cpX12 8 (by decide) rfl tw_1259 dX12_numberHere_19 ?_
    obtain ⟨r_42, I_43, J_44, hq_45, hf⟩ := yb_b3_some hf
    refine x_calli X hK hw (c12_fails l D cz ev mb hq_45) (ml_mem0 mb) (ml_S0 mb) cpX12.1 vw_X12_135 ⟨Nat.le_of_ble_eq_true rfl, Nat.le_of_ble_eq_true rfl⟩ rfl rfl (Nat.le_of_ble_eq_true rfl) hl.1 ⟨Nat.le_refl _, Nat.le_refl _⟩ dX12_numberHere_22 (fun H locs hw => ?_)
    obtain ⟨hz_46, hf⟩ := yb_ck_some hf
    exact yb_retz hfin hz_46 hf hw dX12_numberHere_25
set_option maxHeartbeats 4000000 in
set_option maxRecDepth 100000 in
theorem c12_wordHere (l : Launch) (D : va_G) (cz : Nat → ClassId) (ev : Nat × Nat × Nat) (mb : Nat) {N : Nat} {I : IT} {J : JT} {r : Int32} {I1 : IT} {J1 : JT} (hf : f12_wordHere N mb I J = some (r, I1, J1)) : MTi l D cz ev yX12_wordHere cX12_wordHere 1 (some .int) 2 46 [.ref mb] (mlL mb) (mlS mb) (mlR mb) I J r I1 J1 := by
  unfold f12_wordHere at hf
  refine MTi_of (by decide) (Nat.le_of_ble_eq_true rfl) ?_
  intro p e s m args below meth c Q ls X hK hw hl hfin
  have X : CallFix p m c cX12_wordHere 1 s args gw RX12 := X
  have hx := X.1
  have hb := X.2.1
  have hl : lv_has ls 1 [(0, .ref mb)] := hl
  refine lv_aload_n hx hb dX12_wordHere_0 rfl (lv_at hl 0 rfl) ?_
  refine lv_ldc2 (v := (457236047717 : Int64)) hx hb X.2.2.2.1 (X.2.2.2.2 _ tw_1519) dX12_wordHere_1 ?_
  obtain ⟨r_1, I_2, J_3, hq_4, hf⟩ := yb_b3_some hf
  refine x_calli X hK hw (c12_isWord l D cz ev mb hq_4) (ml_mem0 mb) (ml_S0 mb) cpX12.1 vw_X12_125 ⟨Nat.le_of_ble_eq_true rfl, Nat.le_of_ble_eq_true rfl⟩ rfl rfl (Nat.le_of_ble_eq_true rfl) hl.1 ⟨Nat.le_refl _, Nat.le_refl _⟩ dX12_wordHere_4 (fun H locs hw => ?_)
  refine lv_if_eq (tgt := 12) hx hb dX12_wordHere_7 (by decide) (fun c_5 => ?_) (fun c_5 => ?_)
  · have hf := yb_pos c_5 hf
    refine lv_aload_n hx hb dX12_wordHere_12 rfl (lv_at hl 0 rfl) ?_
    refine lv_ldc2 (v := (7825780 : Int64)) hx hb X.2.2.2.1 (X.2.2.2.2 _ tw_1520) dX12_wordHere_13 ?_
    obtain ⟨r_6, I_7, J_8, hq_9, hf⟩ := yb_b3_some hf
    refine x_calli X hK hw (c12_isWord l D cz ev mb hq_9) (ml_mem0 mb) (ml_S0 mb) cpX12.1 vw_X12_125 ⟨Nat.le_of_ble_eq_true rfl, Nat.le_of_ble_eq_true rfl⟩ rfl rfl (Nat.le_of_ble_eq_true rfl) hl.1 ⟨Nat.le_refl _, Nat.le_refl _⟩ dX12_wordHere_16 (fun H locs hw => ?_)
    refine lv_if_eq (tgt := 24) hx hb dX12_wordHere_19 (by decide) (fun c_10 => ?_) (fun c_10 => ?_)
    · have hf := yb_pos c_10 hf
      refine lv_aload_n hx hb dX12_wordHere_24 rfl (lv_at hl 0 rfl) ?_
      refine lv_ldc2 (v := (6383461 : Int64)) hx hb X.2.2.2.1 (X.2.2.2.2 _ tw_1521) dX12_wordHere_25 ?_
      obtain ⟨r_11, I_12, J_13, hq_14, hf⟩ := yb_b3_some hf
      refine x_calli X hK hw (c12_isWord l D cz ev mb hq_14) (ml_mem0 mb) (ml_S0 mb) cpX12.1 vw_X12_125 ⟨Nat.le_of_ble_eq_true rfl, Nat.le_of_ble_eq_true rfl⟩ rfl rfl (Nat.le_of_ble_eq_true rfl) hl.1 ⟨Nat.le_refl _, Nat.le_refl _⟩ dX12_wordHere_28 (fun H locs hw => ?_)
      refine lv_if_eq (tgt := 36) hx hb dX12_wordHere_31 (by decide) (fun c_15 => ?_) (fun c_15 => ?_)
      · have hf := yb_pos c_15 hf
        refine lv_aload_n hx hb dX12_wordHere_36 rfl (lv_at hl 0 rfl) ?_
        refine lv_ldc2 (v := (126956639450227 : Int64)) hx hb X.2.2.2.1 (X.2.2.2.2 _ tw_1522) dX12_wordHere_37 ?_
        obtain ⟨r_16, I_17, J_18, hq_19, hf⟩ := yb_b3_some hf
        refine x_calli X hK hw (c12_isWord l D cz ev mb hq_19) (ml_mem0 mb) (ml_S0 mb) cpX12.1 vw_X12_125 ⟨Nat.le_of_ble_eq_true rfl, Nat.le_of_ble_eq_true rfl⟩ rfl rfl (Nat.le_of_ble_eq_true rfl) hl.1 ⟨Nat.le_refl _, Nat.le_refl _⟩ dX12_wordHere_40 (fun H locs hw => ?_)
        refine lv_if_eq (tgt := 48) hx hb dX12_wordHere_43 (by decide) (fun c_20 => ?_) (fun c_20 => ?_)
        · have hf := yb_pos c_20 hf
          refine lv_aload_n hx hb dX12_wordHere_48 rfl (lv_at hl 0 rfl) ?_
          refine lv_ldc2 (v := (27412351564342628 : Int64)) hx hb X.2.2.2.1 (X.2.2.2.2 _ tw_1523) dX12_wordHere_49 ?_
          obtain ⟨r_21, I_22, J_23, hq_24, hf⟩ := yb_b3_some hf
          refine x_calli X hK hw (c12_isWord l D cz ev mb hq_24) (ml_mem0 mb) (ml_S0 mb) cpX12.1 vw_X12_125 ⟨Nat.le_of_ble_eq_true rfl, Nat.le_of_ble_eq_true rfl⟩ rfl rfl (Nat.le_of_ble_eq_true rfl) hl.1 ⟨Nat.le_refl _, Nat.le_refl _⟩ dX12_wordHere_52 (fun H locs hw => ?_)
          refine lv_if_eq (tgt := 60) hx hb dX12_wordHere_55 (by decide) (fun c_25 => ?_) (fun c_25 => ?_)
          · have hf := yb_pos c_25 hf
            refine lv_aload_n hx hb dX12_wordHere_60 rfl (lv_at hl 0 rfl) ?_
            refine lv_ldc2 (v := (29117685525214329 : Int64)) hx hb X.2.2.2.1 (X.2.2.2.2 _ tw_1524) dX12_wordHere_61 ?_
            obtain ⟨r_26, I_27, J_28, hq_29, hf⟩ := yb_b3_some hf
            refine x_calli X hK hw (c12_isWord l D cz ev mb hq_29) (ml_mem0 mb) (ml_S0 mb) cpX12.1 vw_X12_125 ⟨Nat.le_of_ble_eq_true rfl, Nat.le_of_ble_eq_true rfl⟩ rfl rfl (Nat.le_of_ble_eq_true rfl) hl.1 ⟨Nat.le_refl _, Nat.le_refl _⟩ dX12_wordHere_64 (fun H locs hw => ?_)
            refine lv_if_eq (tgt := 72) hx hb dX12_wordHere_67 (by decide) (fun c_30 => ?_) (fun c_30 => ?_)
            · have hf := yb_pos c_30 hf
              refine lv_aload_n hx hb dX12_wordHere_72 rfl (lv_at hl 0 rfl) ?_
              refine lv_ldc2 (v := (119182899770472 : Int64)) hx hb X.2.2.2.1 (X.2.2.2.2 _ tw_1525) dX12_wordHere_73 ?_
              obtain ⟨r_31, I_32, J_33, hq_34, hf⟩ := yb_b3_some hf
              refine x_calli X hK hw (c12_isWord l D cz ev mb hq_34) (ml_mem0 mb) (ml_S0 mb) cpX12.1 vw_X12_125 ⟨Nat.le_of_ble_eq_true rfl, Nat.le_of_ble_eq_true rfl⟩ rfl rfl (Nat.le_of_ble_eq_true rfl) hl.1 ⟨Nat.le_refl _, Nat.le_refl _⟩ dX12_wordHere_76 (fun H locs hw => ?_)
              refine lv_if_eq (tgt := 85) hx hb dX12_wordHere_79 (by decide) (fun c_35 => ?_) (fun c_35 => ?_)
              · have hf := yb_pos c_35 hf
                refine lv_aload_n hx hb dX12_wordHere_85 rfl (lv_at hl 0 rfl) ?_
                refine lv_ldc2 (v := (478559888754 : Int64)) hx hb X.2.2.2.1 (X.2.2.2.2 _ tw_1526) dX12_wordHere_86 ?_
                obtain ⟨r_36, I_37, J_38, hq_39, hf⟩ := yb_b3_some hf
                refine x_calli X hK hw (c12_isWord l D cz ev mb hq_39) (ml_mem0 mb) (ml_S0 mb) cpX12.1 vw_X12_125 ⟨Nat.le_of_ble_eq_true rfl, Nat.le_of_ble_eq_true rfl⟩ rfl rfl (Nat.le_of_ble_eq_true rfl) hl.1 ⟨Nat.le_refl _, Nat.le_refl _⟩ dX12_wordHere_89 (fun H locs hw => ?_)
                refine lv_if_eq (tgt := 98) hx hb dX12_wordHere_92 (by decide) (fun c_40 => ?_) (fun c_40 => ?_)
                · have hf := yb_pos c_40 hf
                  refine lv_aload_n hx hb dX12_wordHere_98 rfl (lv_at hl 0 rfl) ?_
                  refine lv_ldc2 (v := (6578553 : Int64)) hx hb X.2.2.2.1 (X.2.2.2.2 _ tw_1527) dX12_wordHere_99 ?_
                  obtain ⟨r_41, I_42, J_43, hq_44, hf⟩ := yb_b3_some hf
                  refine x_calli X hK hw (c12_isWord l D cz ev mb hq_44) (ml_mem0 mb) (ml_S0 mb) cpX12.1 vw_X12_125 ⟨Nat.le_of_ble_eq_true rfl, Nat.le_of_ble_eq_true rfl⟩ rfl rfl (Nat.le_of_ble_eq_true rfl) hl.1 ⟨Nat.le_refl _, Nat.le_refl _⟩ dX12_wordHere_102 (fun H locs hw => ?_)
                  refine lv_if_eq (tgt := 111) hx hb dX12_wordHere_105 (by decide) (fun c_45 => ?_) (fun c_45 => ?_)
                  · have hf := yb_pos c_45 hf
                    refine lv_aload_n hx hb dX12_wordHere_111 rfl (lv_at hl 0 rfl) ?_
                    refine lv_ldc2 (v := (491596309860 : Int64)) hx hb X.2.2.2.1 (X.2.2.2.2 _ tw_1528) dX12_wordHere_112 ?_
                    obtain ⟨r_46, I_47, J_48, hq_49, hf⟩ := yb_b3_some hf
                    refine x_calli X hK hw (c12_isWord l D cz ev mb hq_49) (ml_mem0 mb) (ml_S0 mb) cpX12.1 vw_X12_125 ⟨Nat.le_of_ble_eq_true rfl, Nat.le_of_ble_eq_true rfl⟩ rfl rfl (Nat.le_of_ble_eq_true rfl) hl.1 ⟨Nat.le_refl _, Nat.le_refl _⟩ dX12_wordHere_115 (fun H locs hw => ?_)
                    refine lv_if_eq (tgt := 124) hx hb dX12_wordHere_118 (by decide) (fun c_50 => ?_) (fun c_50 => ?_)
                    · have hf := yb_pos c_50 hf
                      refine lv_aload_n hx hb dX12_wordHere_124 rfl (lv_at hl 0 rfl) ?_
                      refine lv_ldc2 (v := (107135549923692 : Int64)) hx hb X.2.2.2.1 (X.2.2.2.2 _ tw_1529) dX12_wordHere_125 ?_
                      obtain ⟨r_51, I_52, J_53, hq_54, hf⟩ := yb_b3_some hf
                      refine x_calli X hK hw (c12_isWord l D cz ev mb hq_54) (ml_mem0 mb) (ml_S0 mb) cpX12.1 vw_X12_125 ⟨Nat.le_of_ble_eq_true rfl, Nat.le_of_ble_eq_true rfl⟩ rfl rfl (Nat.le_of_ble_eq_true rfl) hl.1 ⟨Nat.le_refl _, Nat.le_refl _⟩ dX12_wordHere_128 (fun H locs hw => ?_)
                      refine lv_if_eq (tgt := 139) hx hb dX12_wordHere_131 (by decide) (fun c_55 => ?_) (fun c_55 => ?_)
                      · have hf := yb_pos c_55 hf
                        refine lv_aload_n hx hb dX12_wordHere_139 rfl (lv_at hl 0 rfl) ?_
                        refine lv_ldc2 (v := (7091324932564738425 : Int64)) hx hb X.2.2.2.1 (X.2.2.2.2 _ tw_1530) dX12_wordHere_140 ?_
                        obtain ⟨r_56, I_57, J_58, hq_59, hf⟩ := yb_b3_some hf
                        refine x_calli X hK hw (c12_isWord l D cz ev mb hq_59) (ml_mem0 mb) (ml_S0 mb) cpX12.1 vw_X12_125 ⟨Nat.le_of_ble_eq_true rfl, Nat.le_of_ble_eq_true rfl⟩ rfl rfl (Nat.le_of_ble_eq_true rfl) hl.1 ⟨Nat.le_refl _, Nat.le_refl _⟩ dX12_wordHere_143 (fun H locs hw => ?_)
                        refine lv_if_eq (tgt := 154) hx hb dX12_wordHere_146 (by decide) (fun c_60 => ?_) (fun c_60 => ?_)
                        · have hf := yb_pos c_60 hf
                          refine lv_iconst (v := (-1 : Int32)) hx hb dX12_wordHere_154 (by decide) ?_
                          exact yb_reti hfin hf hw dX12_wordHere_155
                        · have hf := yb_neg c_60 hf
                          refine lv_bipush (v := (11 : Int32)) hx hb dX12_wordHere_149 (by decide) ?_
                          refine lv_goto (tgt := 155) hx hb dX12_wordHere_151 (by decide) ?_
                          exact yb_reti hfin hf hw dX12_wordHere_155
                      · have hf := yb_neg c_55 hf
                        refine lv_bipush (v := (10 : Int32)) hx hb dX12_wordHere_134 (by decide) ?_
                        refine lv_goto (tgt := 155) hx hb dX12_wordHere_136 (by decide) ?_
                        exact yb_reti hfin hf hw dX12_wordHere_155
                    · have hf := yb_neg c_50 hf
                      refine lv_bipush (v := (9 : Int32)) hx hb dX12_wordHere_121 (by decide) ?_
                      exact yb_reti hfin hf hw dX12_wordHere_123
                  · have hf := yb_neg c_45 hf
                    refine lv_bipush (v := (8 : Int32)) hx hb dX12_wordHere_108 (by decide) ?_
                    exact yb_reti hfin hf hw dX12_wordHere_110
                · have hf := yb_neg c_40 hf
                  refine lv_bipush (v := (7 : Int32)) hx hb dX12_wordHere_95 (by decide) ?_
                  exact yb_reti hfin hf hw dX12_wordHere_97
              · have hf := yb_neg c_35 hf
                refine lv_bipush (v := (6 : Int32)) hx hb dX12_wordHere_82 (by decide) ?_
                exact yb_reti hfin hf hw dX12_wordHere_84
            · have hf := yb_neg c_30 hf
              refine lv_iconst (v := (5 : Int32)) hx hb dX12_wordHere_70 (by decide) ?_
              exact yb_reti hfin hf hw dX12_wordHere_71
          · have hf := yb_neg c_25 hf
            refine lv_iconst (v := (4 : Int32)) hx hb dX12_wordHere_58 (by decide) ?_
            exact yb_reti hfin hf hw dX12_wordHere_59
        · have hf := yb_neg c_20 hf
          refine lv_iconst (v := (3 : Int32)) hx hb dX12_wordHere_46 (by decide) ?_
          exact yb_reti hfin hf hw dX12_wordHere_47
      · have hf := yb_neg c_15 hf
        refine lv_iconst (v := (2 : Int32)) hx hb dX12_wordHere_34 (by decide) ?_
        exact yb_reti hfin hf hw dX12_wordHere_35
    · have hf := yb_neg c_10 hf
      refine lv_iconst (v := (1 : Int32)) hx hb dX12_wordHere_22 (by decide) ?_
      exact yb_reti hfin hf hw dX12_wordHere_23
  · have hf := yb_neg c_5 hf
    refine lv_iconst (v := (0 : Int32)) hx hb dX12_wordHere_10 (by decide) ?_
    exact yb_reti hfin hf hw dX12_wordHere_11
set_option maxHeartbeats 4000000 in
set_option maxRecDepth 100000 in
theorem c12_puts (l : Launch) (D : va_G) (cz : Nat → ClassId) (ev : Nat × Nat × Nat) (mb : Nat) {x1 : Int32} {x2 : Int32} {I : IT} {J : JT} {r : Unit} {I1 : IT} {J1 : JT} (hf : f12_puts mb x1 x2 I J = some (r, I1, J1)) : MTv l D cz ev yX12_puts cX12_puts 3 (none) 0 0 [.ref mb, .int x1, .int x2] (mlL mb) (mlS mb) (mlR mb) I J r I1 J1 := by
  unfold f12_puts at hf
  refine MTv_of (by decide) (Nat.le_of_ble_eq_true rfl) ?_
  intro p e s m args below meth c Q ls X hK hw hl hfin
  have X : CallFix p m c cX12_puts 3 s args gw RX12 := X
  have hx := X.1
  have hb := X.2.1
  have hl : lv_has ls 3 [(0, .ref mb), (1, .int x1), (2, .int x2)] := hl
  refine lv_aload_n hx hb dX12_puts_0 rfl (lv_at hl 0 rfl) ?_
  refine x_getR X hK hw (ml_mem0 mb) (ml_S0 mb) cpX12 3 (by decide) rfl (ml_R mb 3 rfl) tw_1254 dX12_puts_1 ?_
  refine lv_sipush (v := (400 : Int32)) hx hb dX12_puts_4 (by decide) ?_
  refine lv_aload_n hx hb dX12_puts_7 rfl (lv_at hl 0 rfl) ?_
  refine x_getI X hK hw (ml_mem0 mb) (ml_S0 mb) cpX12 11 (by decide) rfl tw_1262 dX12_puts_8 ?_
  refine lv_imul hx hb dX12_puts_11 ?_
  refine lv_aload_n hx hb dX12_puts_12 rfl (lv_at hl 0 rfl) ?_
  refine x_getR X hK hw (ml_mem0 mb) (ml_S0 mb) cpX12 4 (by decide) rfl (ml_R mb 4 rfl) tw_1255 dX12_puts_13 ?_
  refine lv_aload_n hx hb dX12_puts_16 rfl (lv_at hl 0 rfl) ?_
  refine x_getI X hK hw (ml_mem0 mb) (ml_S0 mb) cpX12 11 (by decide) rfl tw_1262 dX12_puts_17 ?_
  obtain ⟨hi_1, hf⟩ := yb_ck_some hf
  refine x_iald X hK hw (ml_mem mb 3 (by decide)) (ml_S mb 3 rfl) hi_1 rfl dX12_puts_20 ?_
  refine lv_iadd hx hb dX12_puts_21 ?_
  refine lv_iload_n hx hb dX12_puts_22 rfl (lv_at hl 1 rfl) ?_
  refine lv_bipush (v := (16 : Int32)) hx hb dX12_puts_23 (by decide) ?_
  refine lv_iload_n hx hb dX12_puts_25 rfl (lv_at hl 2 rfl) ?_
  refine lv_imul hx hb dX12_puts_26 ?_
  refine lv_iadd hx hb dX12_puts_27 ?_
  obtain ⟨hi_2, hf⟩ := yb_ck_some hf
  refine x_iast X hK hw (ml_mem mb 2 (by decide)) (ml_S mb 2 rfl) hi_2 rfl dX12_puts_28 (fun H locs hw => ?_)
  obtain ⟨I_3, eI_3, hf⟩ := yb_let_ex hf
  have hw := yb_wI eI_3 hw
  refine lv_aload_n hx hb dX12_puts_29 rfl (lv_at hl 0 rfl) ?_
  refine x_getR X hK hw (ml_mem0 mb) (ml_S0 mb) cpX12 4 (by decide) rfl (ml_R mb 4 rfl) tw_1255 dX12_puts_30 ?_
  refine lv_aload_n hx hb dX12_puts_33 rfl (lv_at hl 0 rfl) ?_
  refine x_getI X hK hw (ml_mem0 mb) (ml_S0 mb) cpX12 11 (by decide) rfl tw_1262 dX12_puts_34 ?_
  refine lv_dup2_11 hx hb dX12_puts_37 rfl rfl ?_
  obtain ⟨hi_4, hf⟩ := yb_ck_some hf
  refine x_iald X hK hw (ml_mem mb 3 (by decide)) (ml_S mb 3 rfl) hi_4 rfl dX12_puts_38 ?_
  refine lv_iconst (v := (1 : Int32)) hx hb dX12_puts_39 (by decide) ?_
  refine lv_iadd hx hb dX12_puts_40 ?_
  refine x_iast X hK hw (ml_mem mb 3 (by decide)) (ml_S mb 3 rfl) hi_4 rfl dX12_puts_41 (fun H locs hw => ?_)
  obtain ⟨I_5, eI_5, hf⟩ := yb_let_ex hf
  have hw := yb_wI eI_5 hw
  exact yb_retv hfin hf hw dX12_puts_42
set_option maxHeartbeats 4000000 in
set_option maxRecDepth 100000 in
theorem c12_makes (l : Launch) (D : va_G) (cz : Nat → ClassId) (ev : Nat × Nat × Nat) (mb : Nat) {x1 : Int32} {I : IT} {J : JT} {r : Int32} {I1 : IT} {J1 : JT} (hf : f12_makes mb x1 I J = some (r, I1, J1)) : MTi l D cz ev yX12_makes cX12_makes 2 (some .boolean) 1 22 [.ref mb, .int x1] (mlL mb) (mlS mb) (mlR mb) I J r I1 J1 := by
  unfold f12_makes at hf
  refine MTz_of (by decide) (Nat.le_of_ble_eq_true rfl) ?_
  intro p e s m args below meth c Q ls X hK hw hl hfin
  have X : CallFix p m c cX12_makes 2 s args gw RX12 := X
  have hx := X.1
  have hb := X.2.1
  have hl : lv_has ls 2 [(0, .ref mb), (1, .int x1)] := hl
  refine lv_aload_n hx hb dX12_makes_0 rfl (lv_at hl 0 rfl) ?_
  refine x_getI X hK hw (ml_mem0 mb) (ml_S0 mb) cpX12 12 (by decide) rfl tw_1263 dX12_makes_1 ?_
  refine lv_bipush (v := (60 : Int32)) hx hb dX12_makes_4 (by decide) ?_
  refine lv_icmp_ne (tgt := 16) hx hb dX12_makes_6 (by decide) (fun c_1 => ?_) (fun c_1 => ?_)
  · have hf := yb_neg c_1 hf
    refine lv_aload_n hx hb dX12_makes_16 rfl (lv_at hl 0 rfl) ?_
    refine lv_dup hx hb dX12_makes_17 rfl ?_
    refine x_getI X hK hw (ml_mem0 mb) (ml_S0 mb) cpX12 12 (by decide) rfl tw_1263 dX12_makes_18 ?_
    refine lv_iconst (v := (1 : Int32)) hx hb dX12_makes_21 (by decide) ?_
    refine lv_iadd hx hb dX12_makes_22 ?_
    refine x_putI X hK hw (ml_mem0 mb) (ml_S0 mb) cpX12 12 (by decide) rfl rfl rfl tw_1263 dX12_makes_23 (fun H locs hw => ?_)
    obtain ⟨I_2, eI_2, hf⟩ := yb_let_ex hf
    have hw := yb_wI eI_2 hw
    refine lv_iconst (v := (1 : Int32)) hx hb dX12_makes_26 (by decide) ?_
    exact yb_retz hfin (by decide) hf hw dX12_makes_27
  · have hf := yb_pos c_1 hf
    refine lv_aload_n hx hb dX12_makes_9 rfl (lv_at hl 0 rfl) ?_
    refine lv_iconst (v := (3 : Int32)) hx hb dX12_makes_10 (by decide) ?_
    refine lv_iload_n hx hb dX12_makes_11 rfl (lv_at hl 1 rfl) ?_
    obtain ⟨r_3, I_4, J_5, hq_6, hf⟩ := yb_b3_some hf
    refine x_calli X hK hw (c12_fails l D cz ev mb hq_6) (ml_mem0 mb) (ml_S0 mb) cpX12.1 vw_X12_135 ⟨Nat.le_of_ble_eq_true rfl, Nat.le_of_ble_eq_true rfl⟩ rfl rfl (Nat.le_of_ble_eq_true rfl) hl.1 ⟨Nat.le_refl _, Nat.le_refl _⟩ dX12_makes_12 (fun H locs hw => ?_)
    obtain ⟨hz_7, hf⟩ := yb_ck_some hf
    exact yb_retz hfin hz_7 hf hw dX12_makes_15
set_option maxHeartbeats 4000000 in
set_option maxRecDepth 100000 in
theorem c12_opens (l : Launch) (D : va_G) (cz : Nat → ClassId) (ev : Nat × Nat × Nat) (mb : Nat) {x1 : Int32} {I : IT} {J : JT} {r : Int32} {I1 : IT} {J1 : JT} (hf : f12_opens mb x1 I J = some (r, I1, J1)) : MTi l D cz ev yX12_opens cX12_opens 2 (some .boolean) 1 22 [.ref mb, .int x1] (mlL mb) (mlS mb) (mlR mb) I J r I1 J1 := by
  unfold f12_opens at hf
  refine MTz_of (by decide) (Nat.le_of_ble_eq_true rfl) ?_
  intro p e s m args below meth c Q ls X hK hw hl hfin
  have X : CallFix p m c cX12_opens 2 s args gw RX12 := X
  have hx := X.1
  have hb := X.2.1
  have hl : lv_has ls 2 [(0, .ref mb), (1, .int x1)] := hl
  refine lv_aload_n hx hb dX12_opens_0 rfl (lv_at hl 0 rfl) ?_
  refine x_getI X hK hw (ml_mem0 mb) (ml_S0 mb) cpX12 13 (by decide) rfl tw_1264 dX12_opens_1 ?_
  refine lv_bipush (v := (10 : Int32)) hx hb dX12_opens_4 (by decide) ?_
  refine lv_icmp_ne (tgt := 19) hx hb dX12_opens_6 (by decide) (fun c_1 => ?_) (fun c_1 => ?_)
  · have hf := yb_neg c_1 hf
    refine lv_aload_n hx hb dX12_opens_19 rfl (lv_at hl 0 rfl) ?_
    refine lv_dup hx hb dX12_opens_20 rfl ?_
    refine x_getI X hK hw (ml_mem0 mb) (ml_S0 mb) cpX12 13 (by decide) rfl tw_1264 dX12_opens_21 ?_
    refine lv_iconst (v := (1 : Int32)) hx hb dX12_opens_24 (by decide) ?_
    refine lv_iadd hx hb dX12_opens_25 ?_
    refine x_putI X hK hw (ml_mem0 mb) (ml_S0 mb) cpX12 13 (by decide) rfl rfl rfl tw_1264 dX12_opens_26 (fun H locs hw => ?_)
    obtain ⟨I_2, eI_2, hf⟩ := yb_let_ex hf
    have hw := yb_wI eI_2 hw
    refine lv_aload_n hx hb dX12_opens_29 rfl (lv_at hl 0 rfl) ?_
    refine x_getR X hK hw (ml_mem0 mb) (ml_S0 mb) cpX12 15 (by decide) rfl (ml_R mb 15 rfl) tw_1266 dX12_opens_30 ?_
    refine lv_aload_n hx hb dX12_opens_33 rfl (lv_at hl 0 rfl) ?_
    refine x_getI X hK hw (ml_mem0 mb) (ml_S0 mb) cpX12 16 (by decide) rfl tw_1267 dX12_opens_34 ?_
    refine lv_iload_n hx hb dX12_opens_37 rfl (lv_at hl 1 rfl) ?_
    obtain ⟨hi_3, hf⟩ := yb_ck_some hf
    refine x_iast X hK hw (ml_mem mb 7 (by decide)) (ml_S mb 7 rfl) hi_3 rfl dX12_opens_38 (fun H locs hw => ?_)
    obtain ⟨I_4, eI_4, hf⟩ := yb_let_ex hf
    have hw := yb_wI eI_4 hw
    refine lv_aload_n hx hb dX12_opens_39 rfl (lv_at hl 0 rfl) ?_
    refine lv_dup hx hb dX12_opens_40 rfl ?_
    refine x_getI X hK hw (ml_mem0 mb) (ml_S0 mb) cpX12 16 (by decide) rfl tw_1267 dX12_opens_41 ?_
    refine lv_iconst (v := (1 : Int32)) hx hb dX12_opens_44 (by decide) ?_
    refine lv_iadd hx hb dX12_opens_45 ?_
    refine x_putI X hK hw (ml_mem0 mb) (ml_S0 mb) cpX12 16 (by decide) rfl rfl rfl tw_1267 dX12_opens_46 (fun H locs hw => ?_)
    obtain ⟨I_5, eI_5, hf⟩ := yb_let_ex hf
    have hw := yb_wI eI_5 hw
    refine lv_iconst (v := (1 : Int32)) hx hb dX12_opens_49 (by decide) ?_
    exact yb_retz hfin (by decide) hf hw dX12_opens_50
  · have hf := yb_pos c_1 hf
    refine lv_aload_n hx hb dX12_opens_9 rfl (lv_at hl 0 rfl) ?_
    refine lv_iconst (v := (2 : Int32)) hx hb dX12_opens_10 (by decide) ?_
    refine lv_aload_n hx hb dX12_opens_11 rfl (lv_at hl 0 rfl) ?_
    refine x_getI X hK hw (ml_mem0 mb) (ml_S0 mb) cpX12 8 (by decide) rfl tw_1259 dX12_opens_12 ?_
    obtain ⟨r_6, I_7, J_8, hq_9, hf⟩ := yb_b3_some hf
    refine x_calli X hK hw (c12_fails l D cz ev mb hq_9) (ml_mem0 mb) (ml_S0 mb) cpX12.1 vw_X12_135 ⟨Nat.le_of_ble_eq_true rfl, Nat.le_of_ble_eq_true rfl⟩ rfl rfl (Nat.le_of_ble_eq_true rfl) hl.1 ⟨Nat.le_refl _, Nat.le_refl _⟩ dX12_opens_15 (fun H locs hw => ?_)
    obtain ⟨hz_10, hf⟩ := yb_ck_some hf
    exact yb_retz hfin hz_10 hf hw dX12_opens_18
set_option maxHeartbeats 4000000 in
set_option maxRecDepth 100000 in
theorem c12_strength (l : Launch) (D : va_G) (cz : Nat → ClassId) (ev : Nat × Nat × Nat) (mb : Nat) {x0 : Int32} {I : IT} {J : JT} {r : Int32} {I1 : IT} {J1 : JT} (hf : f12_strength mb x0 I J = some (r, I1, J1)) : MTi l D cz ev yX12_strength cX12_strength 1 (some .int) 0 0 [.int x0] (mlL mb) (mlS mb) (mlR mb) I J r I1 J1 := by
  unfold f12_strength at hf
  refine MTi_of (by decide) (Nat.le_of_ble_eq_true rfl) ?_
  intro p e s m args below meth c Q ls X hK hw hl hfin
  have X : CallFix p m c cX12_strength 1 s args gw RX12 := X
  have hx := X.1
  have hb := X.2.1
  have hl : lv_has ls 1 [(0, .int x0)] := hl
  refine lv_iload_n hx hb dX12_strength_0 rfl (lv_at hl 0 rfl) ?_
  refine lv_bipush (v := (13 : Int32)) hx hb dX12_strength_1 (by decide) ?_
  refine lv_icmp_ne (tgt := 10) hx hb dX12_strength_3 (by decide) (fun c_1 => ?_) (fun c_1 => ?_)
  · have hf := yb_neg c_1 hf
    refine lv_iload_n hx hb dX12_strength_10 rfl (lv_at hl 0 rfl) ?_
    refine lv_bipush (v := (12 : Int32)) hx hb dX12_strength_11 (by decide) ?_
    refine lv_icmp_ne (tgt := 20) hx hb dX12_strength_13 (by decide) (fun c_2 => ?_) (fun c_2 => ?_)
    · have hf := yb_neg c_2 hf
      refine lv_iload_n hx hb dX12_strength_20 rfl (lv_at hl 0 rfl) ?_
      refine lv_bipush (v := (11 : Int32)) hx hb dX12_strength_21 (by decide) ?_
      refine lv_icmp_ne (tgt := 30) hx hb dX12_strength_23 (by decide) (fun c_3 => ?_) (fun c_3 => ?_)
      · have hf := yb_neg c_3 hf
        refine lv_iconst (v := (0 : Int32)) hx hb dX12_strength_30 (by decide) ?_
        exact yb_reti hfin hf hw dX12_strength_31
      · have hf := yb_pos c_3 hf
        refine lv_iconst (v := (3 : Int32)) hx hb dX12_strength_26 (by decide) ?_
        refine lv_goto (tgt := 31) hx hb dX12_strength_27 (by decide) ?_
        exact yb_reti hfin hf hw dX12_strength_31
    · have hf := yb_pos c_2 hf
      refine lv_iconst (v := (2 : Int32)) hx hb dX12_strength_16 (by decide) ?_
      refine lv_goto (tgt := 31) hx hb dX12_strength_17 (by decide) ?_
      exact yb_reti hfin hf hw dX12_strength_31
  · have hf := yb_pos c_1 hf
    refine lv_iconst (v := (1 : Int32)) hx hb dX12_strength_6 (by decide) ?_
    refine lv_goto (tgt := 31) hx hb dX12_strength_7 (by decide) ?_
    exact yb_reti hfin hf hw dX12_strength_31
set_option maxHeartbeats 4000000 in
set_option maxRecDepth 100000 in
theorem w12_settles_L0 {p : Program} {l : Launch} {e : Env} {s : State} {m : MethodId} {args : Array Value} {below : List Frame} {meth : Method} {c : Code} {Q : State → Prop} {D : va_G} {cz : Nat → ClassId} {A : Nat → Prop} {ev : Nat × Nat × Nat} {mb : Nat} (X : CallFix p m c cX12_settles 2 s args gw RX12) (hK : KX D cz ev A s) {N : Nat} {x1 : Int32} :
    ∀ (n : Nat) (I : IT) (J : JT) (q : (Unit)) (I1 : IT) (J1 : JT) (H : Heap) (locs : List Loc) (ls : Array Slot), f12_settles_L0 N mb x1 n I J = some (q, I1, J1) → WX D cz A (mlL mb) (mlS mb) (mlR mb) s.heap I J H locs → lv_has ls 2 [(0, .ref mb), (1, .int x1)] →
    (∀ (H : Heap) (locs : List Loc) (ls : Array Slot), WX D cz A (mlL mb) (mlS mb) (mlR mb) s.heap I1 J1 H locs → lv_has ls 2 [] → W p l e (rmX 1 22) s m args below meth c H locs 0 0 Q (F0 m 76 ls [])) →
    W p l e (rmX 1 22) s m args below meth c H locs 0 0 Q (F0 m 0 ls []) := by
  have hx := X.1
  have hb := X.2.1
  intro n
  induction n with
  | zero =>
    intro  I J q I1 J1 H locs ls hf
    rw [f12_settles_L0] at hf
    cases hf
  | succ n ih =>
    intro  I J q I1 J1 H locs ls hf hw hl hexit
    rw [f12_settles_L0] at hf
    refine lv_aload_n hx hb dX12_settles_0 rfl (lv_at hl 0 rfl) ?_
    refine x_getI X hK hw (ml_mem0 mb) (ml_S0 mb) cpX12 16 (by decide) rfl tw_1267 dX12_settles_1 ?_
    refine lv_if_le (tgt := 76) hx hb dX12_settles_4 (by decide) (fun c_1 => ?_) (fun c_1 => ?_)
    · have hf := yb_pos c_1 hf
      obtain ⟨rfl, rfl, rfl⟩ := yb_inj hf
      exact hexit _ _ _ hw (lv_sub hl [] rfl)
    · have hf := yb_neg c_1 hf
      refine lv_aload_n hx hb dX12_settles_7 rfl (lv_at hl 0 rfl) ?_
      refine x_getR X hK hw (ml_mem0 mb) (ml_S0 mb) cpX12 15 (by decide) rfl (ml_R mb 15 rfl) tw_1266 dX12_settles_8 ?_
      refine lv_aload_n hx hb dX12_settles_11 rfl (lv_at hl 0 rfl) ?_
      refine x_getI X hK hw (ml_mem0 mb) (ml_S0 mb) cpX12 16 (by decide) rfl tw_1267 dX12_settles_12 ?_
      refine lv_iconst (v := (1 : Int32)) hx hb dX12_settles_15 (by decide) ?_
      refine lv_isub hx hb dX12_settles_16 ?_
      obtain ⟨hi_2, hf⟩ := yb_ck_some hf
      refine x_iald X hK hw (ml_mem mb 7 (by decide)) (ml_S mb 7 rfl) hi_2 rfl dX12_settles_17 ?_
      obtain ⟨r_3, I_4, J_5, hq_6, hf⟩ := yb_b3_some hf
      refine x_callsi X hK hw (c12_strength l D cz ev mb hq_6) sw_X12_182 ⟨Nat.le_of_ble_eq_true rfl, Nat.le_of_ble_eq_true rfl⟩ rfl rfl (Nat.le_of_ble_eq_true rfl) hl.1 ⟨Nat.le_refl _, Nat.le_refl _⟩ dX12_settles_18 (fun H locs hw => ?_)
      refine lv_iload_n hx hb dX12_settles_21 rfl (lv_at hl 1 rfl) ?_
      refine lv_icmp_lt (tgt := 76) hx hb dX12_settles_22 (by decide) (fun c_7 => ?_) (fun c_7 => ?_)
      · have hf := yb_pos c_7 hf
        obtain ⟨rfl, rfl, rfl⟩ := yb_inj hf
        exact hexit _ _ _ hw (lv_sub hl [] rfl)
      · have hf := yb_neg c_7 hf
        refine lv_aload_n hx hb dX12_settles_25 rfl (lv_at hl 0 rfl) ?_
        refine lv_dup hx hb dX12_settles_26 rfl ?_
        refine x_getI X hK hw (ml_mem0 mb) (ml_S0 mb) cpX12 16 (by decide) rfl tw_1267 dX12_settles_27 ?_
        refine lv_iconst (v := (1 : Int32)) hx hb dX12_settles_30 (by decide) ?_
        refine lv_isub hx hb dX12_settles_31 ?_
        refine x_putI X hK hw (ml_mem0 mb) (ml_S0 mb) cpX12 16 (by decide) rfl rfl rfl tw_1267 dX12_settles_32 (fun H locs hw => ?_)
        obtain ⟨I_8, eI_8, hf⟩ := yb_let_ex hf
        have hw := yb_wI eI_8 hw
        refine lv_aload_n hx hb dX12_settles_35 rfl (lv_at hl 0 rfl) ?_
        refine lv_aload_n hx hb dX12_settles_36 rfl (lv_at hl 0 rfl) ?_
        refine x_getR X hK hw (ml_mem0 mb) (ml_S0 mb) cpX12 15 (by decide) rfl (ml_R mb 15 rfl) tw_1266 dX12_settles_37 ?_
        refine lv_aload_n hx hb dX12_settles_40 rfl (lv_at hl 0 rfl) ?_
        refine x_getI X hK hw (ml_mem0 mb) (ml_S0 mb) cpX12 16 (by decide) rfl tw_1267 dX12_settles_41 ?_
        obtain ⟨hi_9, hf⟩ := yb_ck_some hf
        refine x_iald X hK hw (ml_mem mb 7 (by decide)) (ml_S mb 7 rfl) hi_9 rfl dX12_settles_44 ?_
        refine lv_iconst (v := (0 : Int32)) hx hb dX12_settles_45 (by decide) ?_
        obtain ⟨r_10, I_11, J_12, hq_13, hf⟩ := yb_b3_some hf
        refine x_callv X hK hw (c12_puts l D cz ev mb hq_13) (ml_mem0 mb) (ml_S0 mb) cpX12.1 vw_X12_186 ⟨Nat.le_of_ble_eq_true rfl, Nat.le_of_ble_eq_true rfl⟩ rfl rfl (Nat.le_of_ble_eq_true rfl) hl.1 ⟨Nat.le_refl _, Nat.le_refl _⟩ dX12_settles_46 (fun H locs hw => ?_)
        refine lv_aload_n hx hb dX12_settles_49 rfl (lv_at hl 0 rfl) ?_
        refine x_getR X hK hw (ml_mem0 mb) (ml_S0 mb) cpX12 15 (by decide) rfl (ml_R mb 15 rfl) tw_1266 dX12_settles_50 ?_
        refine lv_aload_n hx hb dX12_settles_53 rfl (lv_at hl 0 rfl) ?_
        refine x_getI X hK hw (ml_mem0 mb) (ml_S0 mb) cpX12 16 (by decide) rfl tw_1267 dX12_settles_54 ?_
        obtain ⟨hi_14, hf⟩ := yb_ck_some hf
        refine x_iald X hK hw (ml_mem mb 7 (by decide)) (ml_S mb 7 rfl) hi_14 rfl dX12_settles_57 ?_
        refine lv_bipush (v := (11 : Int32)) hx hb dX12_settles_58 (by decide) ?_
        refine lv_icmp_ne (tgt := 0) hx hb dX12_settles_60 (by decide) (fun c_15 => ?_) (fun c_15 => ?_)
        · have hf := yb_neg c_15 hf
          exact ih  _ _ _ _ _ _ _ _ hf hw (lv_sub hl [0, 1] rfl) hexit
        · have hf := yb_pos c_15 hf
          refine lv_aload_n hx hb dX12_settles_63 rfl (lv_at hl 0 rfl) ?_
          refine lv_dup hx hb dX12_settles_64 rfl ?_
          refine x_getI X hK hw (ml_mem0 mb) (ml_S0 mb) cpX12 13 (by decide) rfl tw_1264 dX12_settles_65 ?_
          refine lv_iconst (v := (1 : Int32)) hx hb dX12_settles_68 (by decide) ?_
          refine lv_isub hx hb dX12_settles_69 ?_
          refine x_putI X hK hw (ml_mem0 mb) (ml_S0 mb) cpX12 13 (by decide) rfl rfl rfl tw_1264 dX12_settles_70 (fun H locs hw => ?_)
          obtain ⟨I_16, eI_16, hf⟩ := yb_let_ex hf
          have hw := yb_wI eI_16 hw
          refine lv_goto (tgt := 0) hx hb dX12_settles_73 (by decide) ?_
          exact ih  _ _ _ _ _ _ _ _ hf hw (lv_sub hl [0, 1] rfl) hexit
set_option maxHeartbeats 4000000 in
set_option maxRecDepth 100000 in
theorem c12_settles (l : Launch) (D : va_G) (cz : Nat → ClassId) (ev : Nat × Nat × Nat) (mb : Nat) {N : Nat} {x1 : Int32} {I : IT} {J : JT} {r : Unit} {I1 : IT} {J1 : JT} (hf : f12_settles N mb x1 I J = some (r, I1, J1)) : MTv l D cz ev yX12_settles cX12_settles 2 (none) 1 22 [.ref mb, .int x1] (mlL mb) (mlS mb) (mlR mb) I J r I1 J1 := by
  unfold f12_settles at hf
  refine MTv_of (by decide) (Nat.le_of_ble_eq_true rfl) ?_
  intro p e s m args below meth c Q ls X hK hw hl hfin
  have X : CallFix p m c cX12_settles 2 s args gw RX12 := X
  have hx := X.1
  have hb := X.2.1
  have hl : lv_has ls 2 [(0, .ref mb), (1, .int x1)] := hl
  obtain ⟨q_17, I_18, J_19, hq_20, hf⟩ := yb_b3_some hf
  refine w12_settles_L0 X hK _  _ _ _ _ _ _ _ _ hq_20 hw (lv_sub hl [0, 1] rfl) (fun H locs ls hw hl => ?_)
  exact yb_retv hfin hf hw dX12_settles_76
set_option maxHeartbeats 4000000 in
set_option maxRecDepth 100000 in
theorem c12_value (l : Launch) (D : va_G) (cz : Nat → ClassId) (ev : Nat × Nat × Nat) (mb : Nat) {N : Nat} {I : IT} {J : JT} {r : Int32} {I1 : IT} {J1 : JT} (hf : f12_value N mb I J = some (r, I1, J1)) : MTi l D cz ev yX12_value cX12_value 3 (some .boolean) 3 66 [.ref mb] (mlL mb) (mlS mb) (mlR mb) I J r I1 J1 := by
  unfold f12_value at hf
  refine MTz_of (by decide) (Nat.le_of_ble_eq_true rfl) ?_
  intro p e s m args below meth c Q ls X hK hw hl hfin
  have X : CallFix p m c cX12_value 3 s args gw RX12 := X
  have hx := X.1
  have hb := X.2.1
  have hl : lv_has ls 3 [(0, .ref mb)] := hl
  refine lv_aload_n hx hb dX12_value_0 rfl (lv_at hl 0 rfl) ?_
  obtain ⟨r_1, I_2, J_3, hq_4, hf⟩ := yb_b3_some hf
  refine x_calli X hK hw (c12_see l D cz ev mb hq_4) (ml_mem0 mb) (ml_S0 mb) cpX12.1 vw_X12_117 ⟨Nat.le_of_ble_eq_true rfl, Nat.le_of_ble_eq_true rfl⟩ rfl rfl (Nat.le_of_ble_eq_true rfl) hl.1 ⟨Nat.le_refl _, Nat.le_refl _⟩ dX12_value_1 (fun H locs hw => ?_)
  refine lv_pop hx hb dX12_value_4 rfl ?_
  refine lv_aload_n hx hb dX12_value_5 rfl (lv_at hl 0 rfl) ?_
  refine x_getI X hK hw (ml_mem0 mb) (ml_S0 mb) cpX12 8 (by decide) rfl tw_1259 dX12_value_6 ?_
  refine lv_topi (fun x1_5 ex1_5 => ?_)
  have hf := yb_let_to ex1_5 hf
  refine lv_istore_n (lv' := [(1, .int x1_5), (0, .ref mb)]) hx hb dX12_value_9 rfl hl (by decide) rfl (fun ls hl => ?_)
  refine lv_aload_n hx hb dX12_value_10 rfl (lv_at hl 1 rfl) ?_
  refine lv_aload_n hx hb dX12_value_11 rfl (lv_at hl 1 rfl) ?_
  refine x_getI X hK hw (ml_mem0 mb) (ml_S0 mb) cpX12 8 (by decide) rfl tw_1259 dX12_value_12 ?_
  obtain ⟨r_6, I_7, J_8, hq_9, hf⟩ := yb_b3_some hf
  refine x_calli X hK hw (c12_isDigit l D cz ev mb hq_9) (ml_mem0 mb) (ml_S0 mb) cpX12.1 vw_X12_132 ⟨Nat.le_of_ble_eq_true rfl, Nat.le_of_ble_eq_true rfl⟩ rfl rfl (Nat.le_of_ble_eq_true rfl) hl.1 ⟨Nat.le_refl _, Nat.le_refl _⟩ dX12_value_15 (fun H locs hw => ?_)
  refine lv_if_eq (tgt := 52) hx hb dX12_value_18 (by decide) (fun c_10 => ?_) (fun c_10 => ?_)
  · have hf := yb_pos c_10 hf
    refine lv_aload_n hx hb dX12_value_52 rfl (lv_at hl 1 rfl) ?_
    obtain ⟨r_11, I_12, J_13, hq_14, hf⟩ := yb_b3_some hf
    refine x_calli X hK hw (c12_wordHere l D cz ev mb hq_14) (ml_mem0 mb) (ml_S0 mb) cpX12.1 vw_X12_197 ⟨Nat.le_of_ble_eq_true rfl, Nat.le_of_ble_eq_true rfl⟩ rfl rfl (Nat.le_of_ble_eq_true rfl) hl.1 ⟨Nat.le_refl _, Nat.le_refl _⟩ dX12_value_53 (fun H locs hw => ?_)
    refine lv_istore_n (lv' := [(2, .int r_11), (1, .int x1_5), (0, .ref mb)]) hx hb dX12_value_56 rfl hl (by decide) rfl (fun ls hl => ?_)
    refine lv_iload_n hx hb dX12_value_57 rfl (lv_at hl 0 rfl) ?_
    refine lv_if_ge (tgt := 68) hx hb dX12_value_58 (by decide) (fun c_15 => ?_) (fun c_15 => ?_)
    · have hf := yb_pos c_15 hf
      refine lv_aload_n hx hb dX12_value_68 rfl (lv_at hl 2 rfl) ?_
      refine lv_iload_n hx hb dX12_value_69 rfl (lv_at hl 1 rfl) ?_
      obtain ⟨r_16, I_17, J_18, hq_19, hf⟩ := yb_b3_some hf
      refine x_calli X hK hw (c12_makes l D cz ev mb hq_19) (ml_mem0 mb) (ml_S0 mb) cpX12.1 vw_X12_194 ⟨Nat.le_of_ble_eq_true rfl, Nat.le_of_ble_eq_true rfl⟩ rfl rfl (Nat.le_of_ble_eq_true rfl) hl.1 ⟨Nat.le_refl _, Nat.le_refl _⟩ dX12_value_70 (fun H locs hw => ?_)
      refine lv_if_ne (tgt := 78) hx hb dX12_value_73 (by decide) (fun c_20 => ?_) (fun c_20 => ?_)
      · have hf := yb_neg c_20 hf
        refine lv_aload_n hx hb dX12_value_78 rfl (lv_at hl 2 rfl) ?_
        obtain ⟨r_21, I_22, J_23, hq_24, hf⟩ := yb_b3_some hf
        refine x_callv X hK hw (c12_passWord l D cz ev mb hq_24) (ml_mem0 mb) (ml_S0 mb) cpX12.1 vw_X12_129 ⟨Nat.le_of_ble_eq_true rfl, Nat.le_of_ble_eq_true rfl⟩ rfl rfl (Nat.le_of_ble_eq_true rfl) hl.1 ⟨Nat.le_refl _, Nat.le_refl _⟩ dX12_value_79 (fun H locs hw => ?_)
        refine lv_aload_n hx hb dX12_value_82 rfl (lv_at hl 2 rfl) ?_
        refine lv_iconst (v := (1 : Int32)) hx hb dX12_value_83 (by decide) ?_
        refine lv_iload_n hx hb dX12_value_84 rfl (lv_at hl 0 rfl) ?_
        obtain ⟨r_25, I_26, J_27, hq_28, hf⟩ := yb_b3_some hf
        refine x_callv X hK hw (c12_puts l D cz ev mb hq_28) (ml_mem0 mb) (ml_S0 mb) cpX12.1 vw_X12_186 ⟨Nat.le_of_ble_eq_true rfl, Nat.le_of_ble_eq_true rfl⟩ rfl rfl (Nat.le_of_ble_eq_true rfl) hl.1 ⟨Nat.le_refl _, Nat.le_refl _⟩ dX12_value_85 (fun H locs hw => ?_)
        refine lv_iconst (v := (1 : Int32)) hx hb dX12_value_88 (by decide) ?_
        exact yb_retz hfin (by decide) hf hw dX12_value_89
      · have hf := yb_pos c_20 hf
        refine lv_iconst (v := (0 : Int32)) hx hb dX12_value_76 (by decide) ?_
        exact yb_retz hfin (by decide) hf hw dX12_value_77
    · have hf := yb_neg c_15 hf
      refine lv_aload_n hx hb dX12_value_61 rfl (lv_at hl 2 rfl) ?_
      refine lv_iconst (v := (0 : Int32)) hx hb dX12_value_62 (by decide) ?_
      refine lv_iload_n hx hb dX12_value_63 rfl (lv_at hl 1 rfl) ?_
      obtain ⟨r_29, I_30, J_31, hq_32, hf⟩ := yb_b3_some hf
      refine x_calli X hK hw (c12_fails l D cz ev mb hq_32) (ml_mem0 mb) (ml_S0 mb) cpX12.1 vw_X12_135 ⟨Nat.le_of_ble_eq_true rfl, Nat.le_of_ble_eq_true rfl⟩ rfl rfl (Nat.le_of_ble_eq_true rfl) hl.1 ⟨Nat.le_refl _, Nat.le_refl _⟩ dX12_value_64 (fun H locs hw => ?_)
      obtain ⟨hz_33, hf⟩ := yb_ck_some hf
      exact yb_retz hfin hz_33 hf hw dX12_value_67
  · have hf := yb_neg c_10 hf
    refine lv_aload_n hx hb dX12_value_21 rfl (lv_at hl 1 rfl) ?_
    refine lv_iconst (v := (0 : Int32)) hx hb dX12_value_22 (by decide) ?_
    refine lv_ldc (v := (99999 : Int32)) hx hb X.2.2.2.1 (X.2.2.2.2 _ tw_1506) dX12_value_23 ?_
    obtain ⟨r_34, I_35, J_36, hq_37, hf⟩ := yb_b3_some hf
    refine x_calli X hK hw (c12_numberHere l D cz ev mb hq_37) (ml_mem0 mb) (ml_S0 mb) cpX12.1 vw_X12_191 ⟨Nat.le_of_ble_eq_true rfl, Nat.le_of_ble_eq_true rfl⟩ rfl rfl (Nat.le_of_ble_eq_true rfl) hl.1 ⟨Nat.le_refl _, Nat.le_refl _⟩ dX12_value_25 (fun H locs hw => ?_)
    refine lv_if_eq (tgt := 39) hx hb dX12_value_28 (by decide) (fun c_38 => ?_) (fun c_38 => ?_)
    · have hf := yb_pos c_38 hf
      refine lv_iconst (v := (0 : Int32)) hx hb dX12_value_39 (by decide) ?_
      exact yb_retz hfin (by decide) hf hw dX12_value_40
    · have hf := yb_neg c_38 hf
      refine lv_aload_n hx hb dX12_value_31 rfl (lv_at hl 1 rfl) ?_
      refine lv_iload_n hx hb dX12_value_32 rfl (lv_at hl 0 rfl) ?_
      obtain ⟨r_39, I_40, J_41, hq_42, hf⟩ := yb_b3_some hf
      refine x_calli X hK hw (c12_makes l D cz ev mb hq_42) (ml_mem0 mb) (ml_S0 mb) cpX12.1 vw_X12_194 ⟨Nat.le_of_ble_eq_true rfl, Nat.le_of_ble_eq_true rfl⟩ rfl rfl (Nat.le_of_ble_eq_true rfl) hl.1 ⟨Nat.le_refl _, Nat.le_refl _⟩ dX12_value_33 (fun H locs hw => ?_)
      refine lv_if_ne (tgt := 41) hx hb dX12_value_36 (by decide) (fun c_43 => ?_) (fun c_43 => ?_)
      · have hf := yb_neg c_43 hf
        refine lv_aload_n hx hb dX12_value_41 rfl (lv_at hl 1 rfl) ?_
        refine lv_iconst (v := (0 : Int32)) hx hb dX12_value_42 (by decide) ?_
        refine lv_aload_n hx hb dX12_value_43 rfl (lv_at hl 1 rfl) ?_
        refine x_getI X hK hw (ml_mem0 mb) (ml_S0 mb) cpX12 10 (by decide) rfl tw_1261 dX12_value_44 ?_
        obtain ⟨r_44, I_45, J_46, hq_47, hf⟩ := yb_b3_some hf
        refine x_callv X hK hw (c12_puts l D cz ev mb hq_47) (ml_mem0 mb) (ml_S0 mb) cpX12.1 vw_X12_186 ⟨Nat.le_of_ble_eq_true rfl, Nat.le_of_ble_eq_true rfl⟩ rfl rfl (Nat.le_of_ble_eq_true rfl) hl.1 ⟨Nat.le_refl _, Nat.le_refl _⟩ dX12_value_47 (fun H locs hw => ?_)
        refine lv_iconst (v := (1 : Int32)) hx hb dX12_value_50 (by decide) ?_
        exact yb_retz hfin (by decide) hf hw dX12_value_51
      · have hf := yb_pos c_43 hf
        refine lv_iconst (v := (0 : Int32)) hx hb dX12_value_39 (by decide) ?_
        exact yb_retz hfin (by decide) hf hw dX12_value_40
set_option maxHeartbeats 4000000 in
set_option maxRecDepth 100000 in
theorem w12_term_L9 {p : Program} {l : Launch} {e : Env} {s : State} {m : MethodId} {args : Array Value} {below : List Frame} {meth : Method} {c : Code} {Q : State → Prop} {D : va_G} {cz : Nat → ClassId} {A : Nat → Prop} {ev : Nat × Nat × Nat} {mb : Nat} (X : CallFix p m c cX12_term 2 s args gw RX12) (hK : KX D cz ev A s) {N : Nat} {rM : Int32} {IM : IT} {JM : JT} :
    ∀ (n : Nat) (I : IT) (J : JT) (q : (Int32 ⊕ (Unit))) (I1 : IT) (J1 : JT) (H : Heap) (locs : List Loc) (ls : Array Slot), f12_term_L9 N mb n I J = some (q, I1, J1) → WX D cz A (mlL mb) (mlS mb) (mlR mb) s.heap I J H locs → lv_has ls 2 [(0, .ref mb)] →
    (∀ v, q = .inl v → some (v, I1, J1) = some (rM, IM, JM)) → (∀ (H : Heap) (locs : List Loc) (ls : Array Slot) (pc : Nat), bz rM = true → WX D cz A (mlL mb) (mlS mb) (mlR mb) s.heap IM JM H locs → decode cX12_term pc = .ok (.ireturn, 1) → W p l e (rmX 4 88) s m args below meth c H locs 0 0 Q (F0 m pc ls [.int rM])) →
    (∀ xq, q = .inr xq → ∀ (H : Heap) (locs : List Loc) (ls : Array Slot), WX D cz A (mlL mb) (mlS mb) (mlR mb) s.heap I1 J1 H locs → lv_has ls 2 [] → W p l e (rmX 4 88) s m args below meth c H locs 0 0 Q (F0 m 103 ls [])) →
    W p l e (rmX 4 88) s m args below meth c H locs 0 0 Q (F0 m 9 ls []) := by
  have hx := X.1
  have hb := X.2.1
  intro n
  induction n with
  | zero =>
    intro  I J q I1 J1 H locs ls hf
    rw [f12_term_L9] at hf
    cases hf
  | succ n ih =>
    intro  I J q I1 J1 H locs ls hf hw hl hret hfin hexit
    rw [f12_term_L9] at hf
    refine lv_aload_n hx hb dX12_term_9 rfl (lv_at hl 0 rfl) ?_
    obtain ⟨r_6, I_7, J_8, hq_9, hf⟩ := yb_b3_some hf
    refine x_calli X hK hw (c12_see l D cz ev mb hq_9) (ml_mem0 mb) (ml_S0 mb) cpX12.1 vw_X12_117 ⟨Nat.le_of_ble_eq_true rfl, Nat.le_of_ble_eq_true rfl⟩ rfl rfl (Nat.le_of_ble_eq_true rfl) hl.1 ⟨Nat.le_refl _, Nat.le_refl _⟩ dX12_term_10 (fun H locs hw => ?_)
    refine lv_bipush (v := (42 : Int32)) hx hb dX12_term_13 (by decide) ?_
    refine lv_icmp_eq (tgt := 36) hx hb dX12_term_15 (by decide) (fun c_10 => ?_) (fun c_10 => ?_)
    · have hf := yb_pos c_10 hf
      refine lv_aload_n hx hb dX12_term_36 rfl (lv_at hl 0 rfl) ?_
      refine x_getR X hK hw (ml_mem0 mb) (ml_S0 mb) cpX12 0 (by decide) rfl (ml_R mb 0 rfl) tw_1251 dX12_term_37 ?_
      refine lv_aload_n hx hb dX12_term_40 rfl (lv_at hl 0 rfl) ?_
      refine x_getI X hK hw (ml_mem0 mb) (ml_S0 mb) cpX12 8 (by decide) rfl tw_1259 dX12_term_41 ?_
      obtain ⟨hi_11, hf⟩ := yb_ck_some hf
      refine x_bald X hK hw (ml_mem mb 1 (by decide)) (ml_S mb 1 rfl) hi_11 rfl dX12_term_44 ?_
      refine lv_bipush (v := (42 : Int32)) hx hb dX12_term_45 (by decide) ?_
      refine lv_icmp_ne (tgt := 54) hx hb dX12_term_47 (by decide) (fun c_12 => ?_) (fun c_12 => ?_)
      · have hf := yb_neg c_12 hf
        refine lv_aload_n hx hb dX12_term_54 rfl (lv_at hl 0 rfl) ?_
        refine x_getR X hK hw (ml_mem0 mb) (ml_S0 mb) cpX12 0 (by decide) rfl (ml_R mb 0 rfl) tw_1251 dX12_term_55 ?_
        refine lv_aload_n hx hb dX12_term_58 rfl (lv_at hl 0 rfl) ?_
        refine x_getI X hK hw (ml_mem0 mb) (ml_S0 mb) cpX12 8 (by decide) rfl tw_1259 dX12_term_59 ?_
        refine x_bald X hK hw (ml_mem mb 1 (by decide)) (ml_S mb 1 rfl) hi_11 rfl dX12_term_62 ?_
        refine lv_bipush (v := (47 : Int32)) hx hb dX12_term_63 (by decide) ?_
        refine lv_icmp_ne (tgt := 72) hx hb dX12_term_65 (by decide) (fun c_13 => ?_) (fun c_13 => ?_)
        · have hf := yb_neg c_13 hf
          refine lv_bipush (v := (14 : Int32)) hx hb dX12_term_72 (by decide) ?_
          refine lv_istore_n (lv' := [(1, .int (14 : Int32)), (0, .ref mb)]) hx hb dX12_term_74 rfl hl (by decide) rfl (fun ls hl => ?_)
          refine lv_aload_n hx hb dX12_term_75 rfl (lv_at hl 1 rfl) ?_
          refine lv_dup hx hb dX12_term_76 rfl ?_
          refine x_getI X hK hw (ml_mem0 mb) (ml_S0 mb) cpX12 8 (by decide) rfl tw_1259 dX12_term_77 ?_
          refine lv_iconst (v := (1 : Int32)) hx hb dX12_term_80 (by decide) ?_
          refine lv_iadd hx hb dX12_term_81 ?_
          refine x_putI X hK hw (ml_mem0 mb) (ml_S0 mb) cpX12 8 (by decide) rfl rfl rfl tw_1259 dX12_term_82 (fun H locs hw => ?_)
          obtain ⟨I_14, eI_14, hf⟩ := yb_let_ex hf
          have hw := yb_wI eI_14 hw
          refine lv_aload_n hx hb dX12_term_85 rfl (lv_at hl 1 rfl) ?_
          obtain ⟨r_15, I_16, J_17, hq_18, hf⟩ := yb_b3_some hf
          refine x_calli X hK hw (c12_value l D cz ev mb hq_18) (ml_mem0 mb) (ml_S0 mb) cpX12.1 vw_X12_200 ⟨Nat.le_of_ble_eq_true rfl, Nat.le_of_ble_eq_true rfl⟩ rfl rfl (Nat.le_of_ble_eq_true rfl) hl.1 ⟨Nat.le_refl _, Nat.le_refl _⟩ dX12_term_86 (fun H locs hw => ?_)
          refine lv_if_ne (tgt := 94) hx hb dX12_term_89 (by decide) (fun c_19 => ?_) (fun c_19 => ?_)
          · have hf := yb_neg c_19 hf
            refine lv_aload_n hx hb dX12_term_94 rfl (lv_at hl 1 rfl) ?_
            refine lv_iload_n hx hb dX12_term_95 rfl (lv_at hl 0 rfl) ?_
            refine lv_iconst (v := (0 : Int32)) hx hb dX12_term_96 (by decide) ?_
            obtain ⟨r_20, I_21, J_22, hq_23, hf⟩ := yb_b3_some hf
            refine x_callv X hK hw (c12_puts l D cz ev mb hq_23) (ml_mem0 mb) (ml_S0 mb) cpX12.1 vw_X12_186 ⟨Nat.le_of_ble_eq_true rfl, Nat.le_of_ble_eq_true rfl⟩ rfl rfl (Nat.le_of_ble_eq_true rfl) hl.1 ⟨Nat.le_refl _, Nat.le_refl _⟩ dX12_term_97 (fun H locs hw => ?_)
            refine lv_goto (tgt := 9) hx hb dX12_term_100 (by decide) ?_
            exact ih  _ _ _ _ _ _ _ _ hf hw (lv_sub hl [1] rfl) hret hfin hexit
          · have hf := yb_pos c_19 hf
            refine lv_iconst (v := (0 : Int32)) hx hb dX12_term_92 (by decide) ?_
            exact yb_retz hfin (by decide) (yb_inl hret hf) hw dX12_term_93
        · have hf := yb_pos c_13 hf
          refine lv_iconst (v := (5 : Int32)) hx hb dX12_term_68 (by decide) ?_
          refine lv_goto (tgt := 74) hx hb dX12_term_69 (by decide) ?_
          refine lv_istore_n (lv' := [(1, .int (5 : Int32)), (0, .ref mb)]) hx hb dX12_term_74 rfl hl (by decide) rfl (fun ls hl => ?_)
          refine lv_aload_n hx hb dX12_term_75 rfl (lv_at hl 1 rfl) ?_
          refine lv_dup hx hb dX12_term_76 rfl ?_
          refine x_getI X hK hw (ml_mem0 mb) (ml_S0 mb) cpX12 8 (by decide) rfl tw_1259 dX12_term_77 ?_
          refine lv_iconst (v := (1 : Int32)) hx hb dX12_term_80 (by decide) ?_
          refine lv_iadd hx hb dX12_term_81 ?_
          refine x_putI X hK hw (ml_mem0 mb) (ml_S0 mb) cpX12 8 (by decide) rfl rfl rfl tw_1259 dX12_term_82 (fun H locs hw => ?_)
          obtain ⟨I_24, eI_24, hf⟩ := yb_let_ex hf
          have hw := yb_wI eI_24 hw
          refine lv_aload_n hx hb dX12_term_85 rfl (lv_at hl 1 rfl) ?_
          obtain ⟨r_25, I_26, J_27, hq_28, hf⟩ := yb_b3_some hf
          refine x_calli X hK hw (c12_value l D cz ev mb hq_28) (ml_mem0 mb) (ml_S0 mb) cpX12.1 vw_X12_200 ⟨Nat.le_of_ble_eq_true rfl, Nat.le_of_ble_eq_true rfl⟩ rfl rfl (Nat.le_of_ble_eq_true rfl) hl.1 ⟨Nat.le_refl _, Nat.le_refl _⟩ dX12_term_86 (fun H locs hw => ?_)
          refine lv_if_ne (tgt := 94) hx hb dX12_term_89 (by decide) (fun c_29 => ?_) (fun c_29 => ?_)
          · have hf := yb_neg c_29 hf
            refine lv_aload_n hx hb dX12_term_94 rfl (lv_at hl 1 rfl) ?_
            refine lv_iload_n hx hb dX12_term_95 rfl (lv_at hl 0 rfl) ?_
            refine lv_iconst (v := (0 : Int32)) hx hb dX12_term_96 (by decide) ?_
            obtain ⟨r_30, I_31, J_32, hq_33, hf⟩ := yb_b3_some hf
            refine x_callv X hK hw (c12_puts l D cz ev mb hq_33) (ml_mem0 mb) (ml_S0 mb) cpX12.1 vw_X12_186 ⟨Nat.le_of_ble_eq_true rfl, Nat.le_of_ble_eq_true rfl⟩ rfl rfl (Nat.le_of_ble_eq_true rfl) hl.1 ⟨Nat.le_refl _, Nat.le_refl _⟩ dX12_term_97 (fun H locs hw => ?_)
            refine lv_goto (tgt := 9) hx hb dX12_term_100 (by decide) ?_
            exact ih  _ _ _ _ _ _ _ _ hf hw (lv_sub hl [1] rfl) hret hfin hexit
          · have hf := yb_pos c_29 hf
            refine lv_iconst (v := (0 : Int32)) hx hb dX12_term_92 (by decide) ?_
            exact yb_retz hfin (by decide) (yb_inl hret hf) hw dX12_term_93
      · have hf := yb_pos c_12 hf
        refine lv_iconst (v := (4 : Int32)) hx hb dX12_term_50 (by decide) ?_
        refine lv_goto (tgt := 74) hx hb dX12_term_51 (by decide) ?_
        refine lv_istore_n (lv' := [(1, .int (4 : Int32)), (0, .ref mb)]) hx hb dX12_term_74 rfl hl (by decide) rfl (fun ls hl => ?_)
        refine lv_aload_n hx hb dX12_term_75 rfl (lv_at hl 1 rfl) ?_
        refine lv_dup hx hb dX12_term_76 rfl ?_
        refine x_getI X hK hw (ml_mem0 mb) (ml_S0 mb) cpX12 8 (by decide) rfl tw_1259 dX12_term_77 ?_
        refine lv_iconst (v := (1 : Int32)) hx hb dX12_term_80 (by decide) ?_
        refine lv_iadd hx hb dX12_term_81 ?_
        refine x_putI X hK hw (ml_mem0 mb) (ml_S0 mb) cpX12 8 (by decide) rfl rfl rfl tw_1259 dX12_term_82 (fun H locs hw => ?_)
        obtain ⟨I_34, eI_34, hf⟩ := yb_let_ex hf
        have hw := yb_wI eI_34 hw
        refine lv_aload_n hx hb dX12_term_85 rfl (lv_at hl 1 rfl) ?_
        obtain ⟨r_35, I_36, J_37, hq_38, hf⟩ := yb_b3_some hf
        refine x_calli X hK hw (c12_value l D cz ev mb hq_38) (ml_mem0 mb) (ml_S0 mb) cpX12.1 vw_X12_200 ⟨Nat.le_of_ble_eq_true rfl, Nat.le_of_ble_eq_true rfl⟩ rfl rfl (Nat.le_of_ble_eq_true rfl) hl.1 ⟨Nat.le_refl _, Nat.le_refl _⟩ dX12_term_86 (fun H locs hw => ?_)
        refine lv_if_ne (tgt := 94) hx hb dX12_term_89 (by decide) (fun c_39 => ?_) (fun c_39 => ?_)
        · have hf := yb_neg c_39 hf
          refine lv_aload_n hx hb dX12_term_94 rfl (lv_at hl 1 rfl) ?_
          refine lv_iload_n hx hb dX12_term_95 rfl (lv_at hl 0 rfl) ?_
          refine lv_iconst (v := (0 : Int32)) hx hb dX12_term_96 (by decide) ?_
          obtain ⟨r_40, I_41, J_42, hq_43, hf⟩ := yb_b3_some hf
          refine x_callv X hK hw (c12_puts l D cz ev mb hq_43) (ml_mem0 mb) (ml_S0 mb) cpX12.1 vw_X12_186 ⟨Nat.le_of_ble_eq_true rfl, Nat.le_of_ble_eq_true rfl⟩ rfl rfl (Nat.le_of_ble_eq_true rfl) hl.1 ⟨Nat.le_refl _, Nat.le_refl _⟩ dX12_term_97 (fun H locs hw => ?_)
          refine lv_goto (tgt := 9) hx hb dX12_term_100 (by decide) ?_
          exact ih  _ _ _ _ _ _ _ _ hf hw (lv_sub hl [1] rfl) hret hfin hexit
        · have hf := yb_pos c_39 hf
          refine lv_iconst (v := (0 : Int32)) hx hb dX12_term_92 (by decide) ?_
          exact yb_retz hfin (by decide) (yb_inl hret hf) hw dX12_term_93
    · have hf := yb_neg c_10 hf
      refine lv_aload_n hx hb dX12_term_18 rfl (lv_at hl 0 rfl) ?_
      obtain ⟨r_44, I_45, J_46, hq_47, hf⟩ := yb_b3_some hf
      refine x_calli X hK hw (c12_see l D cz ev mb hq_47) (ml_mem0 mb) (ml_S0 mb) cpX12.1 vw_X12_117 ⟨Nat.le_of_ble_eq_true rfl, Nat.le_of_ble_eq_true rfl⟩ rfl rfl (Nat.le_of_ble_eq_true rfl) hl.1 ⟨Nat.le_refl _, Nat.le_refl _⟩ dX12_term_19 (fun H locs hw => ?_)
      refine lv_bipush (v := (47 : Int32)) hx hb dX12_term_22 (by decide) ?_
      refine lv_icmp_eq (tgt := 36) hx hb dX12_term_24 (by decide) (fun c_48 => ?_) (fun c_48 => ?_)
      · have hf := yb_pos c_48 hf
        refine lv_aload_n hx hb dX12_term_36 rfl (lv_at hl 0 rfl) ?_
        refine x_getR X hK hw (ml_mem0 mb) (ml_S0 mb) cpX12 0 (by decide) rfl (ml_R mb 0 rfl) tw_1251 dX12_term_37 ?_
        refine lv_aload_n hx hb dX12_term_40 rfl (lv_at hl 0 rfl) ?_
        refine x_getI X hK hw (ml_mem0 mb) (ml_S0 mb) cpX12 8 (by decide) rfl tw_1259 dX12_term_41 ?_
        obtain ⟨hi_49, hf⟩ := yb_ck_some hf
        refine x_bald X hK hw (ml_mem mb 1 (by decide)) (ml_S mb 1 rfl) hi_49 rfl dX12_term_44 ?_
        refine lv_bipush (v := (42 : Int32)) hx hb dX12_term_45 (by decide) ?_
        refine lv_icmp_ne (tgt := 54) hx hb dX12_term_47 (by decide) (fun c_50 => ?_) (fun c_50 => ?_)
        · have hf := yb_neg c_50 hf
          refine lv_aload_n hx hb dX12_term_54 rfl (lv_at hl 0 rfl) ?_
          refine x_getR X hK hw (ml_mem0 mb) (ml_S0 mb) cpX12 0 (by decide) rfl (ml_R mb 0 rfl) tw_1251 dX12_term_55 ?_
          refine lv_aload_n hx hb dX12_term_58 rfl (lv_at hl 0 rfl) ?_
          refine x_getI X hK hw (ml_mem0 mb) (ml_S0 mb) cpX12 8 (by decide) rfl tw_1259 dX12_term_59 ?_
          refine x_bald X hK hw (ml_mem mb 1 (by decide)) (ml_S mb 1 rfl) hi_49 rfl dX12_term_62 ?_
          refine lv_bipush (v := (47 : Int32)) hx hb dX12_term_63 (by decide) ?_
          refine lv_icmp_ne (tgt := 72) hx hb dX12_term_65 (by decide) (fun c_51 => ?_) (fun c_51 => ?_)
          · have hf := yb_neg c_51 hf
            refine lv_bipush (v := (14 : Int32)) hx hb dX12_term_72 (by decide) ?_
            refine lv_istore_n (lv' := [(1, .int (14 : Int32)), (0, .ref mb)]) hx hb dX12_term_74 rfl hl (by decide) rfl (fun ls hl => ?_)
            refine lv_aload_n hx hb dX12_term_75 rfl (lv_at hl 1 rfl) ?_
            refine lv_dup hx hb dX12_term_76 rfl ?_
            refine x_getI X hK hw (ml_mem0 mb) (ml_S0 mb) cpX12 8 (by decide) rfl tw_1259 dX12_term_77 ?_
            refine lv_iconst (v := (1 : Int32)) hx hb dX12_term_80 (by decide) ?_
            refine lv_iadd hx hb dX12_term_81 ?_
            refine x_putI X hK hw (ml_mem0 mb) (ml_S0 mb) cpX12 8 (by decide) rfl rfl rfl tw_1259 dX12_term_82 (fun H locs hw => ?_)
            obtain ⟨I_52, eI_52, hf⟩ := yb_let_ex hf
            have hw := yb_wI eI_52 hw
            refine lv_aload_n hx hb dX12_term_85 rfl (lv_at hl 1 rfl) ?_
            obtain ⟨r_53, I_54, J_55, hq_56, hf⟩ := yb_b3_some hf
            refine x_calli X hK hw (c12_value l D cz ev mb hq_56) (ml_mem0 mb) (ml_S0 mb) cpX12.1 vw_X12_200 ⟨Nat.le_of_ble_eq_true rfl, Nat.le_of_ble_eq_true rfl⟩ rfl rfl (Nat.le_of_ble_eq_true rfl) hl.1 ⟨Nat.le_refl _, Nat.le_refl _⟩ dX12_term_86 (fun H locs hw => ?_)
            refine lv_if_ne (tgt := 94) hx hb dX12_term_89 (by decide) (fun c_57 => ?_) (fun c_57 => ?_)
            · have hf := yb_neg c_57 hf
              refine lv_aload_n hx hb dX12_term_94 rfl (lv_at hl 1 rfl) ?_
              refine lv_iload_n hx hb dX12_term_95 rfl (lv_at hl 0 rfl) ?_
              refine lv_iconst (v := (0 : Int32)) hx hb dX12_term_96 (by decide) ?_
              obtain ⟨r_58, I_59, J_60, hq_61, hf⟩ := yb_b3_some hf
              refine x_callv X hK hw (c12_puts l D cz ev mb hq_61) (ml_mem0 mb) (ml_S0 mb) cpX12.1 vw_X12_186 ⟨Nat.le_of_ble_eq_true rfl, Nat.le_of_ble_eq_true rfl⟩ rfl rfl (Nat.le_of_ble_eq_true rfl) hl.1 ⟨Nat.le_refl _, Nat.le_refl _⟩ dX12_term_97 (fun H locs hw => ?_)
              refine lv_goto (tgt := 9) hx hb dX12_term_100 (by decide) ?_
              exact ih  _ _ _ _ _ _ _ _ hf hw (lv_sub hl [1] rfl) hret hfin hexit
            · have hf := yb_pos c_57 hf
              refine lv_iconst (v := (0 : Int32)) hx hb dX12_term_92 (by decide) ?_
              exact yb_retz hfin (by decide) (yb_inl hret hf) hw dX12_term_93
          · have hf := yb_pos c_51 hf
            refine lv_iconst (v := (5 : Int32)) hx hb dX12_term_68 (by decide) ?_
            refine lv_goto (tgt := 74) hx hb dX12_term_69 (by decide) ?_
            refine lv_istore_n (lv' := [(1, .int (5 : Int32)), (0, .ref mb)]) hx hb dX12_term_74 rfl hl (by decide) rfl (fun ls hl => ?_)
            refine lv_aload_n hx hb dX12_term_75 rfl (lv_at hl 1 rfl) ?_
            refine lv_dup hx hb dX12_term_76 rfl ?_
            refine x_getI X hK hw (ml_mem0 mb) (ml_S0 mb) cpX12 8 (by decide) rfl tw_1259 dX12_term_77 ?_
            refine lv_iconst (v := (1 : Int32)) hx hb dX12_term_80 (by decide) ?_
            refine lv_iadd hx hb dX12_term_81 ?_
            refine x_putI X hK hw (ml_mem0 mb) (ml_S0 mb) cpX12 8 (by decide) rfl rfl rfl tw_1259 dX12_term_82 (fun H locs hw => ?_)
            obtain ⟨I_62, eI_62, hf⟩ := yb_let_ex hf
            have hw := yb_wI eI_62 hw
            refine lv_aload_n hx hb dX12_term_85 rfl (lv_at hl 1 rfl) ?_
            obtain ⟨r_63, I_64, J_65, hq_66, hf⟩ := yb_b3_some hf
            refine x_calli X hK hw (c12_value l D cz ev mb hq_66) (ml_mem0 mb) (ml_S0 mb) cpX12.1 vw_X12_200 ⟨Nat.le_of_ble_eq_true rfl, Nat.le_of_ble_eq_true rfl⟩ rfl rfl (Nat.le_of_ble_eq_true rfl) hl.1 ⟨Nat.le_refl _, Nat.le_refl _⟩ dX12_term_86 (fun H locs hw => ?_)
            refine lv_if_ne (tgt := 94) hx hb dX12_term_89 (by decide) (fun c_67 => ?_) (fun c_67 => ?_)
            · have hf := yb_neg c_67 hf
              refine lv_aload_n hx hb dX12_term_94 rfl (lv_at hl 1 rfl) ?_
              refine lv_iload_n hx hb dX12_term_95 rfl (lv_at hl 0 rfl) ?_
              refine lv_iconst (v := (0 : Int32)) hx hb dX12_term_96 (by decide) ?_
              obtain ⟨r_68, I_69, J_70, hq_71, hf⟩ := yb_b3_some hf
              refine x_callv X hK hw (c12_puts l D cz ev mb hq_71) (ml_mem0 mb) (ml_S0 mb) cpX12.1 vw_X12_186 ⟨Nat.le_of_ble_eq_true rfl, Nat.le_of_ble_eq_true rfl⟩ rfl rfl (Nat.le_of_ble_eq_true rfl) hl.1 ⟨Nat.le_refl _, Nat.le_refl _⟩ dX12_term_97 (fun H locs hw => ?_)
              refine lv_goto (tgt := 9) hx hb dX12_term_100 (by decide) ?_
              exact ih  _ _ _ _ _ _ _ _ hf hw (lv_sub hl [1] rfl) hret hfin hexit
            · have hf := yb_pos c_67 hf
              refine lv_iconst (v := (0 : Int32)) hx hb dX12_term_92 (by decide) ?_
              exact yb_retz hfin (by decide) (yb_inl hret hf) hw dX12_term_93
        · have hf := yb_pos c_50 hf
          refine lv_iconst (v := (4 : Int32)) hx hb dX12_term_50 (by decide) ?_
          refine lv_goto (tgt := 74) hx hb dX12_term_51 (by decide) ?_
          refine lv_istore_n (lv' := [(1, .int (4 : Int32)), (0, .ref mb)]) hx hb dX12_term_74 rfl hl (by decide) rfl (fun ls hl => ?_)
          refine lv_aload_n hx hb dX12_term_75 rfl (lv_at hl 1 rfl) ?_
          refine lv_dup hx hb dX12_term_76 rfl ?_
          refine x_getI X hK hw (ml_mem0 mb) (ml_S0 mb) cpX12 8 (by decide) rfl tw_1259 dX12_term_77 ?_
          refine lv_iconst (v := (1 : Int32)) hx hb dX12_term_80 (by decide) ?_
          refine lv_iadd hx hb dX12_term_81 ?_
          refine x_putI X hK hw (ml_mem0 mb) (ml_S0 mb) cpX12 8 (by decide) rfl rfl rfl tw_1259 dX12_term_82 (fun H locs hw => ?_)
          obtain ⟨I_72, eI_72, hf⟩ := yb_let_ex hf
          have hw := yb_wI eI_72 hw
          refine lv_aload_n hx hb dX12_term_85 rfl (lv_at hl 1 rfl) ?_
          obtain ⟨r_73, I_74, J_75, hq_76, hf⟩ := yb_b3_some hf
          refine x_calli X hK hw (c12_value l D cz ev mb hq_76) (ml_mem0 mb) (ml_S0 mb) cpX12.1 vw_X12_200 ⟨Nat.le_of_ble_eq_true rfl, Nat.le_of_ble_eq_true rfl⟩ rfl rfl (Nat.le_of_ble_eq_true rfl) hl.1 ⟨Nat.le_refl _, Nat.le_refl _⟩ dX12_term_86 (fun H locs hw => ?_)
          refine lv_if_ne (tgt := 94) hx hb dX12_term_89 (by decide) (fun c_77 => ?_) (fun c_77 => ?_)
          · have hf := yb_neg c_77 hf
            refine lv_aload_n hx hb dX12_term_94 rfl (lv_at hl 1 rfl) ?_
            refine lv_iload_n hx hb dX12_term_95 rfl (lv_at hl 0 rfl) ?_
            refine lv_iconst (v := (0 : Int32)) hx hb dX12_term_96 (by decide) ?_
            obtain ⟨r_78, I_79, J_80, hq_81, hf⟩ := yb_b3_some hf
            refine x_callv X hK hw (c12_puts l D cz ev mb hq_81) (ml_mem0 mb) (ml_S0 mb) cpX12.1 vw_X12_186 ⟨Nat.le_of_ble_eq_true rfl, Nat.le_of_ble_eq_true rfl⟩ rfl rfl (Nat.le_of_ble_eq_true rfl) hl.1 ⟨Nat.le_refl _, Nat.le_refl _⟩ dX12_term_97 (fun H locs hw => ?_)
            refine lv_goto (tgt := 9) hx hb dX12_term_100 (by decide) ?_
            exact ih  _ _ _ _ _ _ _ _ hf hw (lv_sub hl [1] rfl) hret hfin hexit
          · have hf := yb_pos c_77 hf
            refine lv_iconst (v := (0 : Int32)) hx hb dX12_term_92 (by decide) ?_
            exact yb_retz hfin (by decide) (yb_inl hret hf) hw dX12_term_93
      · have hf := yb_neg c_48 hf
        refine lv_aload_n hx hb dX12_term_27 rfl (lv_at hl 0 rfl) ?_
        obtain ⟨r_82, I_83, J_84, hq_85, hf⟩ := yb_b3_some hf
        refine x_calli X hK hw (c12_see l D cz ev mb hq_85) (ml_mem0 mb) (ml_S0 mb) cpX12.1 vw_X12_117 ⟨Nat.le_of_ble_eq_true rfl, Nat.le_of_ble_eq_true rfl⟩ rfl rfl (Nat.le_of_ble_eq_true rfl) hl.1 ⟨Nat.le_refl _, Nat.le_refl _⟩ dX12_term_28 (fun H locs hw => ?_)
        refine lv_bipush (v := (37 : Int32)) hx hb dX12_term_31 (by decide) ?_
        refine lv_icmp_ne (tgt := 103) hx hb dX12_term_33 (by decide) (fun c_86 => ?_) (fun c_86 => ?_)
        · have hf := yb_neg c_86 hf
          obtain ⟨rfl, rfl, rfl⟩ := yb_inj hf
          exact hexit _ rfl _ _ _ hw (lv_sub hl [] rfl)
        · have hf := yb_pos c_86 hf
          refine lv_aload_n hx hb dX12_term_36 rfl (lv_at hl 0 rfl) ?_
          refine x_getR X hK hw (ml_mem0 mb) (ml_S0 mb) cpX12 0 (by decide) rfl (ml_R mb 0 rfl) tw_1251 dX12_term_37 ?_
          refine lv_aload_n hx hb dX12_term_40 rfl (lv_at hl 0 rfl) ?_
          refine x_getI X hK hw (ml_mem0 mb) (ml_S0 mb) cpX12 8 (by decide) rfl tw_1259 dX12_term_41 ?_
          obtain ⟨hi_87, hf⟩ := yb_ck_some hf
          refine x_bald X hK hw (ml_mem mb 1 (by decide)) (ml_S mb 1 rfl) hi_87 rfl dX12_term_44 ?_
          refine lv_bipush (v := (42 : Int32)) hx hb dX12_term_45 (by decide) ?_
          refine lv_icmp_ne (tgt := 54) hx hb dX12_term_47 (by decide) (fun c_88 => ?_) (fun c_88 => ?_)
          · have hf := yb_neg c_88 hf
            refine lv_aload_n hx hb dX12_term_54 rfl (lv_at hl 0 rfl) ?_
            refine x_getR X hK hw (ml_mem0 mb) (ml_S0 mb) cpX12 0 (by decide) rfl (ml_R mb 0 rfl) tw_1251 dX12_term_55 ?_
            refine lv_aload_n hx hb dX12_term_58 rfl (lv_at hl 0 rfl) ?_
            refine x_getI X hK hw (ml_mem0 mb) (ml_S0 mb) cpX12 8 (by decide) rfl tw_1259 dX12_term_59 ?_
            refine x_bald X hK hw (ml_mem mb 1 (by decide)) (ml_S mb 1 rfl) hi_87 rfl dX12_term_62 ?_
            refine lv_bipush (v := (47 : Int32)) hx hb dX12_term_63 (by decide) ?_
            refine lv_icmp_ne (tgt := 72) hx hb dX12_term_65 (by decide) (fun c_89 => ?_) (fun c_89 => ?_)
            · have hf := yb_neg c_89 hf
              refine lv_bipush (v := (14 : Int32)) hx hb dX12_term_72 (by decide) ?_
              refine lv_istore_n (lv' := [(1, .int (14 : Int32)), (0, .ref mb)]) hx hb dX12_term_74 rfl hl (by decide) rfl (fun ls hl => ?_)
              refine lv_aload_n hx hb dX12_term_75 rfl (lv_at hl 1 rfl) ?_
              refine lv_dup hx hb dX12_term_76 rfl ?_
              refine x_getI X hK hw (ml_mem0 mb) (ml_S0 mb) cpX12 8 (by decide) rfl tw_1259 dX12_term_77 ?_
              refine lv_iconst (v := (1 : Int32)) hx hb dX12_term_80 (by decide) ?_
              refine lv_iadd hx hb dX12_term_81 ?_
              refine x_putI X hK hw (ml_mem0 mb) (ml_S0 mb) cpX12 8 (by decide) rfl rfl rfl tw_1259 dX12_term_82 (fun H locs hw => ?_)
              obtain ⟨I_90, eI_90, hf⟩ := yb_let_ex hf
              have hw := yb_wI eI_90 hw
              refine lv_aload_n hx hb dX12_term_85 rfl (lv_at hl 1 rfl) ?_
              obtain ⟨r_91, I_92, J_93, hq_94, hf⟩ := yb_b3_some hf
              refine x_calli X hK hw (c12_value l D cz ev mb hq_94) (ml_mem0 mb) (ml_S0 mb) cpX12.1 vw_X12_200 ⟨Nat.le_of_ble_eq_true rfl, Nat.le_of_ble_eq_true rfl⟩ rfl rfl (Nat.le_of_ble_eq_true rfl) hl.1 ⟨Nat.le_refl _, Nat.le_refl _⟩ dX12_term_86 (fun H locs hw => ?_)
              refine lv_if_ne (tgt := 94) hx hb dX12_term_89 (by decide) (fun c_95 => ?_) (fun c_95 => ?_)
              · have hf := yb_neg c_95 hf
                refine lv_aload_n hx hb dX12_term_94 rfl (lv_at hl 1 rfl) ?_
                refine lv_iload_n hx hb dX12_term_95 rfl (lv_at hl 0 rfl) ?_
                refine lv_iconst (v := (0 : Int32)) hx hb dX12_term_96 (by decide) ?_
                obtain ⟨r_96, I_97, J_98, hq_99, hf⟩ := yb_b3_some hf
                refine x_callv X hK hw (c12_puts l D cz ev mb hq_99) (ml_mem0 mb) (ml_S0 mb) cpX12.1 vw_X12_186 ⟨Nat.le_of_ble_eq_true rfl, Nat.le_of_ble_eq_true rfl⟩ rfl rfl (Nat.le_of_ble_eq_true rfl) hl.1 ⟨Nat.le_refl _, Nat.le_refl _⟩ dX12_term_97 (fun H locs hw => ?_)
                refine lv_goto (tgt := 9) hx hb dX12_term_100 (by decide) ?_
                exact ih  _ _ _ _ _ _ _ _ hf hw (lv_sub hl [1] rfl) hret hfin hexit
              · have hf := yb_pos c_95 hf
                refine lv_iconst (v := (0 : Int32)) hx hb dX12_term_92 (by decide) ?_
                exact yb_retz hfin (by decide) (yb_inl hret hf) hw dX12_term_93
            · have hf := yb_pos c_89 hf
              refine lv_iconst (v := (5 : Int32)) hx hb dX12_term_68 (by decide) ?_
              refine lv_goto (tgt := 74) hx hb dX12_term_69 (by decide) ?_
              refine lv_istore_n (lv' := [(1, .int (5 : Int32)), (0, .ref mb)]) hx hb dX12_term_74 rfl hl (by decide) rfl (fun ls hl => ?_)
              refine lv_aload_n hx hb dX12_term_75 rfl (lv_at hl 1 rfl) ?_
              refine lv_dup hx hb dX12_term_76 rfl ?_
              refine x_getI X hK hw (ml_mem0 mb) (ml_S0 mb) cpX12 8 (by decide) rfl tw_1259 dX12_term_77 ?_
              refine lv_iconst (v := (1 : Int32)) hx hb dX12_term_80 (by decide) ?_
              refine lv_iadd hx hb dX12_term_81 ?_
              refine x_putI X hK hw (ml_mem0 mb) (ml_S0 mb) cpX12 8 (by decide) rfl rfl rfl tw_1259 dX12_term_82 (fun H locs hw => ?_)
              obtain ⟨I_100, eI_100, hf⟩ := yb_let_ex hf
              have hw := yb_wI eI_100 hw
              refine lv_aload_n hx hb dX12_term_85 rfl (lv_at hl 1 rfl) ?_
              obtain ⟨r_101, I_102, J_103, hq_104, hf⟩ := yb_b3_some hf
              refine x_calli X hK hw (c12_value l D cz ev mb hq_104) (ml_mem0 mb) (ml_S0 mb) cpX12.1 vw_X12_200 ⟨Nat.le_of_ble_eq_true rfl, Nat.le_of_ble_eq_true rfl⟩ rfl rfl (Nat.le_of_ble_eq_true rfl) hl.1 ⟨Nat.le_refl _, Nat.le_refl _⟩ dX12_term_86 (fun H locs hw => ?_)
              refine lv_if_ne (tgt := 94) hx hb dX12_term_89 (by decide) (fun c_105 => ?_) (fun c_105 => ?_)
              · have hf := yb_neg c_105 hf
                refine lv_aload_n hx hb dX12_term_94 rfl (lv_at hl 1 rfl) ?_
                refine lv_iload_n hx hb dX12_term_95 rfl (lv_at hl 0 rfl) ?_
                refine lv_iconst (v := (0 : Int32)) hx hb dX12_term_96 (by decide) ?_
                obtain ⟨r_106, I_107, J_108, hq_109, hf⟩ := yb_b3_some hf
                refine x_callv X hK hw (c12_puts l D cz ev mb hq_109) (ml_mem0 mb) (ml_S0 mb) cpX12.1 vw_X12_186 ⟨Nat.le_of_ble_eq_true rfl, Nat.le_of_ble_eq_true rfl⟩ rfl rfl (Nat.le_of_ble_eq_true rfl) hl.1 ⟨Nat.le_refl _, Nat.le_refl _⟩ dX12_term_97 (fun H locs hw => ?_)
                refine lv_goto (tgt := 9) hx hb dX12_term_100 (by decide) ?_
                exact ih  _ _ _ _ _ _ _ _ hf hw (lv_sub hl [1] rfl) hret hfin hexit
              · have hf := yb_pos c_105 hf
                refine lv_iconst (v := (0 : Int32)) hx hb dX12_term_92 (by decide) ?_
                exact yb_retz hfin (by decide) (yb_inl hret hf) hw dX12_term_93
          · have hf := yb_pos c_88 hf
            refine lv_iconst (v := (4 : Int32)) hx hb dX12_term_50 (by decide) ?_
            refine lv_goto (tgt := 74) hx hb dX12_term_51 (by decide) ?_
            refine lv_istore_n (lv' := [(1, .int (4 : Int32)), (0, .ref mb)]) hx hb dX12_term_74 rfl hl (by decide) rfl (fun ls hl => ?_)
            refine lv_aload_n hx hb dX12_term_75 rfl (lv_at hl 1 rfl) ?_
            refine lv_dup hx hb dX12_term_76 rfl ?_
            refine x_getI X hK hw (ml_mem0 mb) (ml_S0 mb) cpX12 8 (by decide) rfl tw_1259 dX12_term_77 ?_
            refine lv_iconst (v := (1 : Int32)) hx hb dX12_term_80 (by decide) ?_
            refine lv_iadd hx hb dX12_term_81 ?_
            refine x_putI X hK hw (ml_mem0 mb) (ml_S0 mb) cpX12 8 (by decide) rfl rfl rfl tw_1259 dX12_term_82 (fun H locs hw => ?_)
            obtain ⟨I_110, eI_110, hf⟩ := yb_let_ex hf
            have hw := yb_wI eI_110 hw
            refine lv_aload_n hx hb dX12_term_85 rfl (lv_at hl 1 rfl) ?_
            obtain ⟨r_111, I_112, J_113, hq_114, hf⟩ := yb_b3_some hf
            refine x_calli X hK hw (c12_value l D cz ev mb hq_114) (ml_mem0 mb) (ml_S0 mb) cpX12.1 vw_X12_200 ⟨Nat.le_of_ble_eq_true rfl, Nat.le_of_ble_eq_true rfl⟩ rfl rfl (Nat.le_of_ble_eq_true rfl) hl.1 ⟨Nat.le_refl _, Nat.le_refl _⟩ dX12_term_86 (fun H locs hw => ?_)
            refine lv_if_ne (tgt := 94) hx hb dX12_term_89 (by decide) (fun c_115 => ?_) (fun c_115 => ?_)
            · have hf := yb_neg c_115 hf
              refine lv_aload_n hx hb dX12_term_94 rfl (lv_at hl 1 rfl) ?_
              refine lv_iload_n hx hb dX12_term_95 rfl (lv_at hl 0 rfl) ?_
              refine lv_iconst (v := (0 : Int32)) hx hb dX12_term_96 (by decide) ?_
              obtain ⟨r_116, I_117, J_118, hq_119, hf⟩ := yb_b3_some hf
              refine x_callv X hK hw (c12_puts l D cz ev mb hq_119) (ml_mem0 mb) (ml_S0 mb) cpX12.1 vw_X12_186 ⟨Nat.le_of_ble_eq_true rfl, Nat.le_of_ble_eq_true rfl⟩ rfl rfl (Nat.le_of_ble_eq_true rfl) hl.1 ⟨Nat.le_refl _, Nat.le_refl _⟩ dX12_term_97 (fun H locs hw => ?_)
              refine lv_goto (tgt := 9) hx hb dX12_term_100 (by decide) ?_
              exact ih  _ _ _ _ _ _ _ _ hf hw (lv_sub hl [1] rfl) hret hfin hexit
            · have hf := yb_pos c_115 hf
              refine lv_iconst (v := (0 : Int32)) hx hb dX12_term_92 (by decide) ?_
              exact yb_retz hfin (by decide) (yb_inl hret hf) hw dX12_term_93
set_option maxHeartbeats 4000000 in
set_option maxRecDepth 100000 in
theorem c12_term (l : Launch) (D : va_G) (cz : Nat → ClassId) (ev : Nat × Nat × Nat) (mb : Nat) {N : Nat} {I : IT} {J : JT} {r : Int32} {I1 : IT} {J1 : JT} (hf : f12_term N mb I J = some (r, I1, J1)) : MTi l D cz ev yX12_term cX12_term 2 (some .boolean) 4 88 [.ref mb] (mlL mb) (mlS mb) (mlR mb) I J r I1 J1 := by
  unfold f12_term at hf
  refine MTz_of (by decide) (Nat.le_of_ble_eq_true rfl) ?_
  intro p e s m args below meth c Q ls X hK hw hl hfin
  have X : CallFix p m c cX12_term 2 s args gw RX12 := X
  have hx := X.1
  have hb := X.2.1
  have hl : lv_has ls 2 [(0, .ref mb)] := hl
  refine lv_aload_n hx hb dX12_term_0 rfl (lv_at hl 0 rfl) ?_
  obtain ⟨r_1, I_2, J_3, hq_4, hf⟩ := yb_b3_some hf
  refine x_calli X hK hw (c12_value l D cz ev mb hq_4) (ml_mem0 mb) (ml_S0 mb) cpX12.1 vw_X12_200 ⟨Nat.le_of_ble_eq_true rfl, Nat.le_of_ble_eq_true rfl⟩ rfl rfl (Nat.le_of_ble_eq_true rfl) hl.1 ⟨Nat.le_refl _, Nat.le_refl _⟩ dX12_term_1 (fun H locs hw => ?_)
  refine lv_if_ne (tgt := 9) hx hb dX12_term_4 (by decide) (fun c_5 => ?_) (fun c_5 => ?_)
  · have hf := yb_neg c_5 hf
    obtain ⟨q_120, I_121, J_122, hq_123, hf⟩ := yb_b3_some hf
    refine w12_term_L9 X hK _  _ _ _ _ _ _ _ _ hq_123 hw (lv_sub hl [0] rfl) (fun v hv => by rw [hv] at hf; exact hf) hfin (fun x_125 hx1 H locs ls hw hl => ?_)
    rw [hx1] at hf
    have hf := yb_sm_r hf
    refine lv_iconst (v := (1 : Int32)) hx hb dX12_term_103 (by decide) ?_
    exact yb_retz hfin (by decide) hf hw dX12_term_104
  · have hf := yb_pos c_5 hf
    refine lv_iconst (v := (0 : Int32)) hx hb dX12_term_7 (by decide) ?_
    exact yb_retz hfin (by decide) hf hw dX12_term_8
set_option maxHeartbeats 4000000 in
set_option maxRecDepth 100000 in
theorem w12_sum_L9 {p : Program} {l : Launch} {e : Env} {s : State} {m : MethodId} {args : Array Value} {below : List Frame} {meth : Method} {c : Code} {Q : State → Prop} {D : va_G} {cz : Nat → ClassId} {A : Nat → Prop} {ev : Nat × Nat × Nat} {mb : Nat} (X : CallFix p m c cX12_sum 2 s args gw RX12) (hK : KX D cz ev A s) {N : Nat} {rM : Int32} {IM : IT} {JM : JT} :
    ∀ (n : Nat) (I : IT) (J : JT) (q : (Int32 ⊕ (Unit))) (I1 : IT) (J1 : JT) (H : Heap) (locs : List Loc) (ls : Array Slot), f12_sum_L9 N mb n I J = some (q, I1, J1) → WX D cz A (mlL mb) (mlS mb) (mlR mb) s.heap I J H locs → lv_has ls 2 [(0, .ref mb)] →
    (∀ v, q = .inl v → some (v, I1, J1) = some (rM, IM, JM)) → (∀ (H : Heap) (locs : List Loc) (ls : Array Slot) (pc : Nat), bz rM = true → WX D cz A (mlL mb) (mlS mb) (mlR mb) s.heap IM JM H locs → decode cX12_sum pc = .ok (.ireturn, 1) → W p l e (rmX 5 109) s m args below meth c H locs 0 0 Q (F0 m pc ls [.int rM])) →
    (∀ xq, q = .inr xq → ∀ (H : Heap) (locs : List Loc) (ls : Array Slot), WX D cz A (mlL mb) (mlS mb) (mlR mb) s.heap I1 J1 H locs → lv_has ls 2 [] → W p l e (rmX 5 109) s m args below meth c H locs 0 0 Q (F0 m 75 ls [])) →
    W p l e (rmX 5 109) s m args below meth c H locs 0 0 Q (F0 m 9 ls []) := by
  have hx := X.1
  have hb := X.2.1
  intro n
  induction n with
  | zero =>
    intro  I J q I1 J1 H locs ls hf
    rw [f12_sum_L9] at hf
    cases hf
  | succ n ih =>
    intro  I J q I1 J1 H locs ls hf hw hl hret hfin hexit
    rw [f12_sum_L9] at hf
    refine lv_aload_n hx hb dX12_sum_9 rfl (lv_at hl 0 rfl) ?_
    obtain ⟨r_6, I_7, J_8, hq_9, hf⟩ := yb_b3_some hf
    refine x_calli X hK hw (c12_see l D cz ev mb hq_9) (ml_mem0 mb) (ml_S0 mb) cpX12.1 vw_X12_117 ⟨Nat.le_of_ble_eq_true rfl, Nat.le_of_ble_eq_true rfl⟩ rfl rfl (Nat.le_of_ble_eq_true rfl) hl.1 ⟨Nat.le_refl _, Nat.le_refl _⟩ dX12_sum_10 (fun H locs hw => ?_)
    refine lv_bipush (v := (43 : Int32)) hx hb dX12_sum_13 (by decide) ?_
    refine lv_icmp_eq (tgt := 27) hx hb dX12_sum_15 (by decide) (fun c_10 => ?_) (fun c_10 => ?_)
    · have hf := yb_pos c_10 hf
      refine lv_aload_n hx hb dX12_sum_27 rfl (lv_at hl 0 rfl) ?_
      refine x_getR X hK hw (ml_mem0 mb) (ml_S0 mb) cpX12 0 (by decide) rfl (ml_R mb 0 rfl) tw_1251 dX12_sum_28 ?_
      refine lv_aload_n hx hb dX12_sum_31 rfl (lv_at hl 0 rfl) ?_
      refine x_getI X hK hw (ml_mem0 mb) (ml_S0 mb) cpX12 8 (by decide) rfl tw_1259 dX12_sum_32 ?_
      obtain ⟨hi_11, hf⟩ := yb_ck_some hf
      refine x_bald X hK hw (ml_mem mb 1 (by decide)) (ml_S mb 1 rfl) hi_11 rfl dX12_sum_35 ?_
      refine lv_bipush (v := (43 : Int32)) hx hb dX12_sum_36 (by decide) ?_
      refine lv_icmp_ne (tgt := 45) hx hb dX12_sum_38 (by decide) (fun c_12 => ?_) (fun c_12 => ?_)
      · have hf := yb_neg c_12 hf
        refine lv_iconst (v := (3 : Int32)) hx hb dX12_sum_45 (by decide) ?_
        refine lv_istore_n (lv' := [(1, .int (3 : Int32)), (0, .ref mb)]) hx hb dX12_sum_46 rfl hl (by decide) rfl (fun ls hl => ?_)
        refine lv_aload_n hx hb dX12_sum_47 rfl (lv_at hl 1 rfl) ?_
        refine lv_dup hx hb dX12_sum_48 rfl ?_
        refine x_getI X hK hw (ml_mem0 mb) (ml_S0 mb) cpX12 8 (by decide) rfl tw_1259 dX12_sum_49 ?_
        refine lv_iconst (v := (1 : Int32)) hx hb dX12_sum_52 (by decide) ?_
        refine lv_iadd hx hb dX12_sum_53 ?_
        refine x_putI X hK hw (ml_mem0 mb) (ml_S0 mb) cpX12 8 (by decide) rfl rfl rfl tw_1259 dX12_sum_54 (fun H locs hw => ?_)
        obtain ⟨I_13, eI_13, hf⟩ := yb_let_ex hf
        have hw := yb_wI eI_13 hw
        refine lv_aload_n hx hb dX12_sum_57 rfl (lv_at hl 1 rfl) ?_
        obtain ⟨r_14, I_15, J_16, hq_17, hf⟩ := yb_b3_some hf
        refine x_calli X hK hw (c12_term l D cz ev mb hq_17) (ml_mem0 mb) (ml_S0 mb) cpX12.1 vw_X12_204 ⟨Nat.le_of_ble_eq_true rfl, Nat.le_of_ble_eq_true rfl⟩ rfl rfl (Nat.le_of_ble_eq_true rfl) hl.1 ⟨Nat.le_refl _, Nat.le_refl _⟩ dX12_sum_58 (fun H locs hw => ?_)
        refine lv_if_ne (tgt := 66) hx hb dX12_sum_61 (by decide) (fun c_18 => ?_) (fun c_18 => ?_)
        · have hf := yb_neg c_18 hf
          refine lv_aload_n hx hb dX12_sum_66 rfl (lv_at hl 1 rfl) ?_
          refine lv_iload_n hx hb dX12_sum_67 rfl (lv_at hl 0 rfl) ?_
          refine lv_iconst (v := (0 : Int32)) hx hb dX12_sum_68 (by decide) ?_
          obtain ⟨r_19, I_20, J_21, hq_22, hf⟩ := yb_b3_some hf
          refine x_callv X hK hw (c12_puts l D cz ev mb hq_22) (ml_mem0 mb) (ml_S0 mb) cpX12.1 vw_X12_186 ⟨Nat.le_of_ble_eq_true rfl, Nat.le_of_ble_eq_true rfl⟩ rfl rfl (Nat.le_of_ble_eq_true rfl) hl.1 ⟨Nat.le_refl _, Nat.le_refl _⟩ dX12_sum_69 (fun H locs hw => ?_)
          refine lv_goto (tgt := 9) hx hb dX12_sum_72 (by decide) ?_
          exact ih  _ _ _ _ _ _ _ _ hf hw (lv_sub hl [1] rfl) hret hfin hexit
        · have hf := yb_pos c_18 hf
          refine lv_iconst (v := (0 : Int32)) hx hb dX12_sum_64 (by decide) ?_
          exact yb_retz hfin (by decide) (yb_inl hret hf) hw dX12_sum_65
      · have hf := yb_pos c_12 hf
        refine lv_iconst (v := (2 : Int32)) hx hb dX12_sum_41 (by decide) ?_
        refine lv_goto (tgt := 46) hx hb dX12_sum_42 (by decide) ?_
        refine lv_istore_n (lv' := [(1, .int (2 : Int32)), (0, .ref mb)]) hx hb dX12_sum_46 rfl hl (by decide) rfl (fun ls hl => ?_)
        refine lv_aload_n hx hb dX12_sum_47 rfl (lv_at hl 1 rfl) ?_
        refine lv_dup hx hb dX12_sum_48 rfl ?_
        refine x_getI X hK hw (ml_mem0 mb) (ml_S0 mb) cpX12 8 (by decide) rfl tw_1259 dX12_sum_49 ?_
        refine lv_iconst (v := (1 : Int32)) hx hb dX12_sum_52 (by decide) ?_
        refine lv_iadd hx hb dX12_sum_53 ?_
        refine x_putI X hK hw (ml_mem0 mb) (ml_S0 mb) cpX12 8 (by decide) rfl rfl rfl tw_1259 dX12_sum_54 (fun H locs hw => ?_)
        obtain ⟨I_23, eI_23, hf⟩ := yb_let_ex hf
        have hw := yb_wI eI_23 hw
        refine lv_aload_n hx hb dX12_sum_57 rfl (lv_at hl 1 rfl) ?_
        obtain ⟨r_24, I_25, J_26, hq_27, hf⟩ := yb_b3_some hf
        refine x_calli X hK hw (c12_term l D cz ev mb hq_27) (ml_mem0 mb) (ml_S0 mb) cpX12.1 vw_X12_204 ⟨Nat.le_of_ble_eq_true rfl, Nat.le_of_ble_eq_true rfl⟩ rfl rfl (Nat.le_of_ble_eq_true rfl) hl.1 ⟨Nat.le_refl _, Nat.le_refl _⟩ dX12_sum_58 (fun H locs hw => ?_)
        refine lv_if_ne (tgt := 66) hx hb dX12_sum_61 (by decide) (fun c_28 => ?_) (fun c_28 => ?_)
        · have hf := yb_neg c_28 hf
          refine lv_aload_n hx hb dX12_sum_66 rfl (lv_at hl 1 rfl) ?_
          refine lv_iload_n hx hb dX12_sum_67 rfl (lv_at hl 0 rfl) ?_
          refine lv_iconst (v := (0 : Int32)) hx hb dX12_sum_68 (by decide) ?_
          obtain ⟨r_29, I_30, J_31, hq_32, hf⟩ := yb_b3_some hf
          refine x_callv X hK hw (c12_puts l D cz ev mb hq_32) (ml_mem0 mb) (ml_S0 mb) cpX12.1 vw_X12_186 ⟨Nat.le_of_ble_eq_true rfl, Nat.le_of_ble_eq_true rfl⟩ rfl rfl (Nat.le_of_ble_eq_true rfl) hl.1 ⟨Nat.le_refl _, Nat.le_refl _⟩ dX12_sum_69 (fun H locs hw => ?_)
          refine lv_goto (tgt := 9) hx hb dX12_sum_72 (by decide) ?_
          exact ih  _ _ _ _ _ _ _ _ hf hw (lv_sub hl [1] rfl) hret hfin hexit
        · have hf := yb_pos c_28 hf
          refine lv_iconst (v := (0 : Int32)) hx hb dX12_sum_64 (by decide) ?_
          exact yb_retz hfin (by decide) (yb_inl hret hf) hw dX12_sum_65
    · have hf := yb_neg c_10 hf
      refine lv_aload_n hx hb dX12_sum_18 rfl (lv_at hl 0 rfl) ?_
      obtain ⟨r_33, I_34, J_35, hq_36, hf⟩ := yb_b3_some hf
      refine x_calli X hK hw (c12_see l D cz ev mb hq_36) (ml_mem0 mb) (ml_S0 mb) cpX12.1 vw_X12_117 ⟨Nat.le_of_ble_eq_true rfl, Nat.le_of_ble_eq_true rfl⟩ rfl rfl (Nat.le_of_ble_eq_true rfl) hl.1 ⟨Nat.le_refl _, Nat.le_refl _⟩ dX12_sum_19 (fun H locs hw => ?_)
      refine lv_bipush (v := (45 : Int32)) hx hb dX12_sum_22 (by decide) ?_
      refine lv_icmp_ne (tgt := 75) hx hb dX12_sum_24 (by decide) (fun c_37 => ?_) (fun c_37 => ?_)
      · have hf := yb_neg c_37 hf
        obtain ⟨rfl, rfl, rfl⟩ := yb_inj hf
        exact hexit _ rfl _ _ _ hw (lv_sub hl [] rfl)
      · have hf := yb_pos c_37 hf
        refine lv_aload_n hx hb dX12_sum_27 rfl (lv_at hl 0 rfl) ?_
        refine x_getR X hK hw (ml_mem0 mb) (ml_S0 mb) cpX12 0 (by decide) rfl (ml_R mb 0 rfl) tw_1251 dX12_sum_28 ?_
        refine lv_aload_n hx hb dX12_sum_31 rfl (lv_at hl 0 rfl) ?_
        refine x_getI X hK hw (ml_mem0 mb) (ml_S0 mb) cpX12 8 (by decide) rfl tw_1259 dX12_sum_32 ?_
        obtain ⟨hi_38, hf⟩ := yb_ck_some hf
        refine x_bald X hK hw (ml_mem mb 1 (by decide)) (ml_S mb 1 rfl) hi_38 rfl dX12_sum_35 ?_
        refine lv_bipush (v := (43 : Int32)) hx hb dX12_sum_36 (by decide) ?_
        refine lv_icmp_ne (tgt := 45) hx hb dX12_sum_38 (by decide) (fun c_39 => ?_) (fun c_39 => ?_)
        · have hf := yb_neg c_39 hf
          refine lv_iconst (v := (3 : Int32)) hx hb dX12_sum_45 (by decide) ?_
          refine lv_istore_n (lv' := [(1, .int (3 : Int32)), (0, .ref mb)]) hx hb dX12_sum_46 rfl hl (by decide) rfl (fun ls hl => ?_)
          refine lv_aload_n hx hb dX12_sum_47 rfl (lv_at hl 1 rfl) ?_
          refine lv_dup hx hb dX12_sum_48 rfl ?_
          refine x_getI X hK hw (ml_mem0 mb) (ml_S0 mb) cpX12 8 (by decide) rfl tw_1259 dX12_sum_49 ?_
          refine lv_iconst (v := (1 : Int32)) hx hb dX12_sum_52 (by decide) ?_
          refine lv_iadd hx hb dX12_sum_53 ?_
          refine x_putI X hK hw (ml_mem0 mb) (ml_S0 mb) cpX12 8 (by decide) rfl rfl rfl tw_1259 dX12_sum_54 (fun H locs hw => ?_)
          obtain ⟨I_40, eI_40, hf⟩ := yb_let_ex hf
          have hw := yb_wI eI_40 hw
          refine lv_aload_n hx hb dX12_sum_57 rfl (lv_at hl 1 rfl) ?_
          obtain ⟨r_41, I_42, J_43, hq_44, hf⟩ := yb_b3_some hf
          refine x_calli X hK hw (c12_term l D cz ev mb hq_44) (ml_mem0 mb) (ml_S0 mb) cpX12.1 vw_X12_204 ⟨Nat.le_of_ble_eq_true rfl, Nat.le_of_ble_eq_true rfl⟩ rfl rfl (Nat.le_of_ble_eq_true rfl) hl.1 ⟨Nat.le_refl _, Nat.le_refl _⟩ dX12_sum_58 (fun H locs hw => ?_)
          refine lv_if_ne (tgt := 66) hx hb dX12_sum_61 (by decide) (fun c_45 => ?_) (fun c_45 => ?_)
          · have hf := yb_neg c_45 hf
            refine lv_aload_n hx hb dX12_sum_66 rfl (lv_at hl 1 rfl) ?_
            refine lv_iload_n hx hb dX12_sum_67 rfl (lv_at hl 0 rfl) ?_
            refine lv_iconst (v := (0 : Int32)) hx hb dX12_sum_68 (by decide) ?_
            obtain ⟨r_46, I_47, J_48, hq_49, hf⟩ := yb_b3_some hf
            refine x_callv X hK hw (c12_puts l D cz ev mb hq_49) (ml_mem0 mb) (ml_S0 mb) cpX12.1 vw_X12_186 ⟨Nat.le_of_ble_eq_true rfl, Nat.le_of_ble_eq_true rfl⟩ rfl rfl (Nat.le_of_ble_eq_true rfl) hl.1 ⟨Nat.le_refl _, Nat.le_refl _⟩ dX12_sum_69 (fun H locs hw => ?_)
            refine lv_goto (tgt := 9) hx hb dX12_sum_72 (by decide) ?_
            exact ih  _ _ _ _ _ _ _ _ hf hw (lv_sub hl [1] rfl) hret hfin hexit
          · have hf := yb_pos c_45 hf
            refine lv_iconst (v := (0 : Int32)) hx hb dX12_sum_64 (by decide) ?_
            exact yb_retz hfin (by decide) (yb_inl hret hf) hw dX12_sum_65
        · have hf := yb_pos c_39 hf
          refine lv_iconst (v := (2 : Int32)) hx hb dX12_sum_41 (by decide) ?_
          refine lv_goto (tgt := 46) hx hb dX12_sum_42 (by decide) ?_
          refine lv_istore_n (lv' := [(1, .int (2 : Int32)), (0, .ref mb)]) hx hb dX12_sum_46 rfl hl (by decide) rfl (fun ls hl => ?_)
          refine lv_aload_n hx hb dX12_sum_47 rfl (lv_at hl 1 rfl) ?_
          refine lv_dup hx hb dX12_sum_48 rfl ?_
          refine x_getI X hK hw (ml_mem0 mb) (ml_S0 mb) cpX12 8 (by decide) rfl tw_1259 dX12_sum_49 ?_
          refine lv_iconst (v := (1 : Int32)) hx hb dX12_sum_52 (by decide) ?_
          refine lv_iadd hx hb dX12_sum_53 ?_
          refine x_putI X hK hw (ml_mem0 mb) (ml_S0 mb) cpX12 8 (by decide) rfl rfl rfl tw_1259 dX12_sum_54 (fun H locs hw => ?_)
          obtain ⟨I_50, eI_50, hf⟩ := yb_let_ex hf
          have hw := yb_wI eI_50 hw
          refine lv_aload_n hx hb dX12_sum_57 rfl (lv_at hl 1 rfl) ?_
          obtain ⟨r_51, I_52, J_53, hq_54, hf⟩ := yb_b3_some hf
          refine x_calli X hK hw (c12_term l D cz ev mb hq_54) (ml_mem0 mb) (ml_S0 mb) cpX12.1 vw_X12_204 ⟨Nat.le_of_ble_eq_true rfl, Nat.le_of_ble_eq_true rfl⟩ rfl rfl (Nat.le_of_ble_eq_true rfl) hl.1 ⟨Nat.le_refl _, Nat.le_refl _⟩ dX12_sum_58 (fun H locs hw => ?_)
          refine lv_if_ne (tgt := 66) hx hb dX12_sum_61 (by decide) (fun c_55 => ?_) (fun c_55 => ?_)
          · have hf := yb_neg c_55 hf
            refine lv_aload_n hx hb dX12_sum_66 rfl (lv_at hl 1 rfl) ?_
            refine lv_iload_n hx hb dX12_sum_67 rfl (lv_at hl 0 rfl) ?_
            refine lv_iconst (v := (0 : Int32)) hx hb dX12_sum_68 (by decide) ?_
            obtain ⟨r_56, I_57, J_58, hq_59, hf⟩ := yb_b3_some hf
            refine x_callv X hK hw (c12_puts l D cz ev mb hq_59) (ml_mem0 mb) (ml_S0 mb) cpX12.1 vw_X12_186 ⟨Nat.le_of_ble_eq_true rfl, Nat.le_of_ble_eq_true rfl⟩ rfl rfl (Nat.le_of_ble_eq_true rfl) hl.1 ⟨Nat.le_refl _, Nat.le_refl _⟩ dX12_sum_69 (fun H locs hw => ?_)
            refine lv_goto (tgt := 9) hx hb dX12_sum_72 (by decide) ?_
            exact ih  _ _ _ _ _ _ _ _ hf hw (lv_sub hl [1] rfl) hret hfin hexit
          · have hf := yb_pos c_55 hf
            refine lv_iconst (v := (0 : Int32)) hx hb dX12_sum_64 (by decide) ?_
            exact yb_retz hfin (by decide) (yb_inl hret hf) hw dX12_sum_65
set_option maxHeartbeats 4000000 in
set_option maxRecDepth 100000 in
theorem c12_sum (l : Launch) (D : va_G) (cz : Nat → ClassId) (ev : Nat × Nat × Nat) (mb : Nat) {N : Nat} {I : IT} {J : JT} {r : Int32} {I1 : IT} {J1 : JT} (hf : f12_sum N mb I J = some (r, I1, J1)) : MTi l D cz ev yX12_sum cX12_sum 2 (some .boolean) 5 109 [.ref mb] (mlL mb) (mlS mb) (mlR mb) I J r I1 J1 := by
  unfold f12_sum at hf
  refine MTz_of (by decide) (Nat.le_of_ble_eq_true rfl) ?_
  intro p e s m args below meth c Q ls X hK hw hl hfin
  have X : CallFix p m c cX12_sum 2 s args gw RX12 := X
  have hx := X.1
  have hb := X.2.1
  have hl : lv_has ls 2 [(0, .ref mb)] := hl
  refine lv_aload_n hx hb dX12_sum_0 rfl (lv_at hl 0 rfl) ?_
  obtain ⟨r_1, I_2, J_3, hq_4, hf⟩ := yb_b3_some hf
  refine x_calli X hK hw (c12_term l D cz ev mb hq_4) (ml_mem0 mb) (ml_S0 mb) cpX12.1 vw_X12_204 ⟨Nat.le_of_ble_eq_true rfl, Nat.le_of_ble_eq_true rfl⟩ rfl rfl (Nat.le_of_ble_eq_true rfl) hl.1 ⟨Nat.le_refl _, Nat.le_refl _⟩ dX12_sum_1 (fun H locs hw => ?_)
  refine lv_if_ne (tgt := 9) hx hb dX12_sum_4 (by decide) (fun c_5 => ?_) (fun c_5 => ?_)
  · have hf := yb_neg c_5 hf
    obtain ⟨q_60, I_61, J_62, hq_63, hf⟩ := yb_b3_some hf
    refine w12_sum_L9 X hK _  _ _ _ _ _ _ _ _ hq_63 hw (lv_sub hl [0] rfl) (fun v hv => by rw [hv] at hf; exact hf) hfin (fun x_65 hx1 H locs ls hw hl => ?_)
    rw [hx1] at hf
    have hf := yb_sm_r hf
    refine lv_iconst (v := (1 : Int32)) hx hb dX12_sum_75 (by decide) ?_
    exact yb_retz hfin (by decide) hf hw dX12_sum_76
  · have hf := yb_pos c_5 hf
    refine lv_iconst (v := (0 : Int32)) hx hb dX12_sum_7 (by decide) ?_
    exact yb_retz hfin (by decide) hf hw dX12_sum_8
set_option maxHeartbeats 4000000 in
set_option maxRecDepth 100000 in
theorem c12_compare (l : Launch) (D : va_G) (cz : Nat → ClassId) (ev : Nat × Nat × Nat) (mb : Nat) {N : Nat} {I : IT} {J : JT} {r : Int32} {I1 : IT} {J1 : JT} (hf : f12_compare N mb I J = some (r, I1, J1)) : MTi l D cz ev yX12_compare cX12_compare 5 (some .boolean) 6 130 [.ref mb] (mlL mb) (mlS mb) (mlR mb) I J r I1 J1 := by
  unfold f12_compare at hf
  refine MTz_of (by decide) (Nat.le_of_ble_eq_true rfl) ?_
  intro p e s m args below meth c Q ls X hK hw hl hfin
  have X : CallFix p m c cX12_compare 5 s args gw RX12 := X
  have hx := X.1
  have hb := X.2.1
  have hl : lv_has ls 5 [(0, .ref mb)] := hl
  refine lv_aload_n hx hb dX12_compare_0 rfl (lv_at hl 0 rfl) ?_
  obtain ⟨r_1, I_2, J_3, hq_4, hf⟩ := yb_b3_some hf
  refine x_calli X hK hw (c12_sum l D cz ev mb hq_4) (ml_mem0 mb) (ml_S0 mb) cpX12.1 vw_X12_207 ⟨Nat.le_of_ble_eq_true rfl, Nat.le_of_ble_eq_true rfl⟩ rfl rfl (Nat.le_of_ble_eq_true rfl) hl.1 ⟨Nat.le_refl _, Nat.le_refl _⟩ dX12_compare_1 (fun H locs hw => ?_)
  refine lv_if_ne (tgt := 9) hx hb dX12_compare_4 (by decide) (fun c_5 => ?_) (fun c_5 => ?_)
  · have hf := yb_neg c_5 hf
    refine lv_aload_n hx hb dX12_compare_9 rfl (lv_at hl 0 rfl) ?_
    obtain ⟨r_6, I_7, J_8, hq_9, hf⟩ := yb_b3_some hf
    refine x_calli X hK hw (c12_see l D cz ev mb hq_9) (ml_mem0 mb) (ml_S0 mb) cpX12.1 vw_X12_117 ⟨Nat.le_of_ble_eq_true rfl, Nat.le_of_ble_eq_true rfl⟩ rfl rfl (Nat.le_of_ble_eq_true rfl) hl.1 ⟨Nat.le_refl _, Nat.le_refl _⟩ dX12_compare_10 (fun H locs hw => ?_)
    refine lv_istore_n (lv' := [(1, .int r_6), (0, .ref mb)]) hx hb dX12_compare_13 rfl hl (by decide) rfl (fun ls hl => ?_)
    refine lv_aload_n hx hb dX12_compare_14 rfl (lv_at hl 1 rfl) ?_
    refine x_getI X hK hw (ml_mem0 mb) (ml_S0 mb) cpX12 8 (by decide) rfl tw_1259 dX12_compare_15 ?_
    refine lv_topi (fun x2_10 ex2_10 => ?_)
    have hf := yb_let_to ex2_10 hf
    refine lv_istore_n (lv' := [(2, .int x2_10), (1, .int r_6), (0, .ref mb)]) hx hb dX12_compare_18 rfl hl (by decide) rfl (fun ls hl => ?_)
    refine lv_iload_n hx hb dX12_compare_19 rfl (lv_at hl 1 rfl) ?_
    refine lv_bipush (v := (60 : Int32)) hx hb dX12_compare_20 (by decide) ?_
    refine lv_icmp_eq (tgt := 44) hx hb dX12_compare_22 (by decide) (fun c_11 => ?_) (fun c_11 => ?_)
    · have hf := yb_pos c_11 hf
      refine lv_aload_n hx hb dX12_compare_44 rfl (lv_at hl 2 rfl) ?_
      refine lv_dup hx hb dX12_compare_45 rfl ?_
      refine x_getI X hK hw (ml_mem0 mb) (ml_S0 mb) cpX12 8 (by decide) rfl tw_1259 dX12_compare_46 ?_
      refine lv_iconst (v := (1 : Int32)) hx hb dX12_compare_49 (by decide) ?_
      refine lv_iadd hx hb dX12_compare_50 ?_
      refine x_putI X hK hw (ml_mem0 mb) (ml_S0 mb) cpX12 8 (by decide) rfl rfl rfl tw_1259 dX12_compare_51 (fun H locs hw => ?_)
      obtain ⟨I_12, eI_12, hf⟩ := yb_let_ex hf
      have hw := yb_wI eI_12 hw
      refine lv_iload_n hx hb dX12_compare_54 rfl (lv_at hl 1 rfl) ?_
      refine lv_bipush (v := (61 : Int32)) hx hb dX12_compare_55 (by decide) ?_
      refine lv_icmp_eq (tgt := 89) hx hb dX12_compare_57 (by decide) (fun c_13 => ?_) (fun c_13 => ?_)
      · have hf := yb_pos c_13 hf
        refine lv_iconst (v := (0 : Int32)) hx hb dX12_compare_89 (by decide) ?_
        refine lv_istore_n (lv' := [(3, .int (0 : Int32)), (2, .int x2_10), (1, .int r_6), (0, .ref mb)]) hx hb dX12_compare_90 rfl hl (by decide) rfl (fun ls hl => ?_)
        refine lv_iload_n hx hb dX12_compare_91 rfl (lv_at hl 0 rfl) ?_
        refine lv_if_eq (tgt := 105) hx hb dX12_compare_92 (by decide) (fun _ => ?_) (fun c_14 => absurd (by decide) c_14)
        refine lv_aload_n hx hb dX12_compare_105 rfl (lv_at hl 3 rfl) ?_
        refine lv_iload_n hx hb dX12_compare_106 rfl (lv_at hl 1 rfl) ?_
        obtain ⟨r_15, I_16, J_17, hq_18, hf⟩ := yb_b3_some hf
        refine x_calli X hK hw (c12_makes l D cz ev mb hq_18) (ml_mem0 mb) (ml_S0 mb) cpX12.1 vw_X12_194 ⟨Nat.le_of_ble_eq_true rfl, Nat.le_of_ble_eq_true rfl⟩ rfl rfl (Nat.le_of_ble_eq_true rfl) hl.1 ⟨Nat.le_refl _, Nat.le_refl _⟩ dX12_compare_107 (fun H locs hw => ?_)
        refine lv_if_ne (tgt := 115) hx hb dX12_compare_110 (by decide) (fun c_19 => ?_) (fun c_19 => ?_)
        · have hf := yb_neg c_19 hf
          refine lv_iload_n hx hb dX12_compare_115 rfl (lv_at hl 2 rfl) ?_
          refine lv_bipush (v := (60 : Int32)) hx hb dX12_compare_116 (by decide) ?_
          refine lv_icmp_ne (tgt := 133) hx hb dX12_compare_118 (by decide) (fun c_20 => ?_) (fun c_20 => ?_)
          · have hf := yb_neg c_20 hf
            refine lv_iload_n hx hb dX12_compare_133 rfl (lv_at hl 2 rfl) ?_
            refine lv_bipush (v := (61 : Int32)) hx hb dX12_compare_134 (by decide) ?_
            refine lv_icmp_ne (tgt := 143) hx hb dX12_compare_136 (by decide) (fun c_21 => ?_) (fun c_21 => ?_)
            · have hf := yb_neg c_21 hf
              refine lv_iload_n hx hb dX12_compare_143 rfl (lv_at hl 0 rfl) ?_
              refine lv_if_eq (tgt := 151) hx hb dX12_compare_144 (by decide) (fun _ => ?_) (fun c_22 => absurd (by decide) c_22)
              refine lv_iconst (v := (4 : Int32)) hx hb dX12_compare_151 (by decide) ?_
              refine lv_istore (lv' := [(4, .int (4 : Int32)), (3, .int (0 : Int32)), (2, .int x2_10), (1, .int r_6), (0, .ref mb)]) hx hb dX12_compare_152 hl (by decide) rfl (fun ls hl => ?_)
              refine lv_aload_n hx hb dX12_compare_154 rfl (lv_at hl 4 rfl) ?_
              obtain ⟨r_23, I_24, J_25, hq_26, hf⟩ := yb_b3_some hf
              refine x_calli X hK hw (c12_sum l D cz ev mb hq_26) (ml_mem0 mb) (ml_S0 mb) cpX12.1 vw_X12_207 ⟨Nat.le_of_ble_eq_true rfl, Nat.le_of_ble_eq_true rfl⟩ rfl rfl (Nat.le_of_ble_eq_true rfl) hl.1 ⟨Nat.le_refl _, Nat.le_refl _⟩ dX12_compare_155 (fun H locs hw => ?_)
              refine lv_if_ne (tgt := 163) hx hb dX12_compare_158 (by decide) (fun c_27 => ?_) (fun c_27 => ?_)
              · have hf := yb_neg c_27 hf
                refine lv_aload_n hx hb dX12_compare_163 rfl (lv_at hl 4 rfl) ?_
                refine lv_bipush (v := (6 : Int32)) hx hb dX12_compare_164 (by decide) ?_
                refine lv_iload hx hb dX12_compare_166 (lv_at hl 0 rfl) ?_
                refine lv_iadd hx hb dX12_compare_168 ?_
                refine lv_iconst (v := (0 : Int32)) hx hb dX12_compare_169 (by decide) ?_
                obtain ⟨r_28, I_29, J_30, hq_31, hf⟩ := yb_b3_some hf
                refine x_callv X hK hw (c12_puts l D cz ev mb hq_31) (ml_mem0 mb) (ml_S0 mb) cpX12.1 vw_X12_186 ⟨Nat.le_of_ble_eq_true rfl, Nat.le_of_ble_eq_true rfl⟩ rfl rfl (Nat.le_of_ble_eq_true rfl) hl.1 ⟨Nat.le_refl _, Nat.le_refl _⟩ dX12_compare_170 (fun H locs hw => ?_)
                refine lv_iconst (v := (1 : Int32)) hx hb dX12_compare_173 (by decide) ?_
                exact yb_retz hfin (by decide) hf hw dX12_compare_174
              · have hf := yb_pos c_27 hf
                refine lv_iconst (v := (0 : Int32)) hx hb dX12_compare_161 (by decide) ?_
                exact yb_retz hfin (by decide) hf hw dX12_compare_162
            · have hf := yb_pos c_21 hf
              refine lv_iconst (v := (2 : Int32)) hx hb dX12_compare_139 (by decide) ?_
              refine lv_goto (tgt := 152) hx hb dX12_compare_140 (by decide) ?_
              refine lv_istore (lv' := [(4, .int (2 : Int32)), (3, .int (0 : Int32)), (2, .int x2_10), (1, .int r_6), (0, .ref mb)]) hx hb dX12_compare_152 hl (by decide) rfl (fun ls hl => ?_)
              refine lv_aload_n hx hb dX12_compare_154 rfl (lv_at hl 4 rfl) ?_
              obtain ⟨r_32, I_33, J_34, hq_35, hf⟩ := yb_b3_some hf
              refine x_calli X hK hw (c12_sum l D cz ev mb hq_35) (ml_mem0 mb) (ml_S0 mb) cpX12.1 vw_X12_207 ⟨Nat.le_of_ble_eq_true rfl, Nat.le_of_ble_eq_true rfl⟩ rfl rfl (Nat.le_of_ble_eq_true rfl) hl.1 ⟨Nat.le_refl _, Nat.le_refl _⟩ dX12_compare_155 (fun H locs hw => ?_)
              refine lv_if_ne (tgt := 163) hx hb dX12_compare_158 (by decide) (fun c_36 => ?_) (fun c_36 => ?_)
              · have hf := yb_neg c_36 hf
                refine lv_aload_n hx hb dX12_compare_163 rfl (lv_at hl 4 rfl) ?_
                refine lv_bipush (v := (6 : Int32)) hx hb dX12_compare_164 (by decide) ?_
                refine lv_iload hx hb dX12_compare_166 (lv_at hl 0 rfl) ?_
                refine lv_iadd hx hb dX12_compare_168 ?_
                refine lv_iconst (v := (0 : Int32)) hx hb dX12_compare_169 (by decide) ?_
                obtain ⟨r_37, I_38, J_39, hq_40, hf⟩ := yb_b3_some hf
                refine x_callv X hK hw (c12_puts l D cz ev mb hq_40) (ml_mem0 mb) (ml_S0 mb) cpX12.1 vw_X12_186 ⟨Nat.le_of_ble_eq_true rfl, Nat.le_of_ble_eq_true rfl⟩ rfl rfl (Nat.le_of_ble_eq_true rfl) hl.1 ⟨Nat.le_refl _, Nat.le_refl _⟩ dX12_compare_170 (fun H locs hw => ?_)
                refine lv_iconst (v := (1 : Int32)) hx hb dX12_compare_173 (by decide) ?_
                exact yb_retz hfin (by decide) hf hw dX12_compare_174
              · have hf := yb_pos c_36 hf
                refine lv_iconst (v := (0 : Int32)) hx hb dX12_compare_161 (by decide) ?_
                exact yb_retz hfin (by decide) hf hw dX12_compare_162
          · have hf := yb_pos c_20 hf
            refine lv_iload_n hx hb dX12_compare_121 rfl (lv_at hl 0 rfl) ?_
            refine lv_if_eq (tgt := 129) hx hb dX12_compare_122 (by decide) (fun _ => ?_) (fun c_41 => absurd (by decide) c_41)
            refine lv_iconst (v := (0 : Int32)) hx hb dX12_compare_129 (by decide) ?_
            refine lv_goto (tgt := 152) hx hb dX12_compare_130 (by decide) ?_
            refine lv_istore (lv' := [(4, .int (0 : Int32)), (3, .int (0 : Int32)), (2, .int x2_10), (1, .int r_6), (0, .ref mb)]) hx hb dX12_compare_152 hl (by decide) rfl (fun ls hl => ?_)
            refine lv_aload_n hx hb dX12_compare_154 rfl (lv_at hl 4 rfl) ?_
            obtain ⟨r_42, I_43, J_44, hq_45, hf⟩ := yb_b3_some hf
            refine x_calli X hK hw (c12_sum l D cz ev mb hq_45) (ml_mem0 mb) (ml_S0 mb) cpX12.1 vw_X12_207 ⟨Nat.le_of_ble_eq_true rfl, Nat.le_of_ble_eq_true rfl⟩ rfl rfl (Nat.le_of_ble_eq_true rfl) hl.1 ⟨Nat.le_refl _, Nat.le_refl _⟩ dX12_compare_155 (fun H locs hw => ?_)
            refine lv_if_ne (tgt := 163) hx hb dX12_compare_158 (by decide) (fun c_46 => ?_) (fun c_46 => ?_)
            · have hf := yb_neg c_46 hf
              refine lv_aload_n hx hb dX12_compare_163 rfl (lv_at hl 4 rfl) ?_
              refine lv_bipush (v := (6 : Int32)) hx hb dX12_compare_164 (by decide) ?_
              refine lv_iload hx hb dX12_compare_166 (lv_at hl 0 rfl) ?_
              refine lv_iadd hx hb dX12_compare_168 ?_
              refine lv_iconst (v := (0 : Int32)) hx hb dX12_compare_169 (by decide) ?_
              obtain ⟨r_47, I_48, J_49, hq_50, hf⟩ := yb_b3_some hf
              refine x_callv X hK hw (c12_puts l D cz ev mb hq_50) (ml_mem0 mb) (ml_S0 mb) cpX12.1 vw_X12_186 ⟨Nat.le_of_ble_eq_true rfl, Nat.le_of_ble_eq_true rfl⟩ rfl rfl (Nat.le_of_ble_eq_true rfl) hl.1 ⟨Nat.le_refl _, Nat.le_refl _⟩ dX12_compare_170 (fun H locs hw => ?_)
              refine lv_iconst (v := (1 : Int32)) hx hb dX12_compare_173 (by decide) ?_
              exact yb_retz hfin (by decide) hf hw dX12_compare_174
            · have hf := yb_pos c_46 hf
              refine lv_iconst (v := (0 : Int32)) hx hb dX12_compare_161 (by decide) ?_
              exact yb_retz hfin (by decide) hf hw dX12_compare_162
        · have hf := yb_pos c_19 hf
          refine lv_iconst (v := (0 : Int32)) hx hb dX12_compare_113 (by decide) ?_
          exact yb_retz hfin (by decide) hf hw dX12_compare_114
      · have hf := yb_neg c_13 hf
        refine lv_aload_n hx hb dX12_compare_60 rfl (lv_at hl 2 rfl) ?_
        refine x_getI X hK hw (ml_mem0 mb) (ml_S0 mb) cpX12 8 (by decide) rfl tw_1259 dX12_compare_61 ?_
        refine lv_aload_n hx hb dX12_compare_64 rfl (lv_at hl 2 rfl) ?_
        refine x_getI X hK hw (ml_mem0 mb) (ml_S0 mb) cpX12 1 (by decide) rfl tw_1252 dX12_compare_65 ?_
        refine lv_icmp_ge (tgt := 89) hx hb dX12_compare_68 (by decide) (fun c_51 => ?_) (fun c_51 => ?_)
        · have hf := yb_pos c_51 hf
          refine lv_iconst (v := (0 : Int32)) hx hb dX12_compare_89 (by decide) ?_
          refine lv_istore_n (lv' := [(3, .int (0 : Int32)), (2, .int x2_10), (1, .int r_6), (0, .ref mb)]) hx hb dX12_compare_90 rfl hl (by decide) rfl (fun ls hl => ?_)
          refine lv_iload_n hx hb dX12_compare_91 rfl (lv_at hl 0 rfl) ?_
          refine lv_if_eq (tgt := 105) hx hb dX12_compare_92 (by decide) (fun _ => ?_) (fun c_52 => absurd (by decide) c_52)
          refine lv_aload_n hx hb dX12_compare_105 rfl (lv_at hl 3 rfl) ?_
          refine lv_iload_n hx hb dX12_compare_106 rfl (lv_at hl 1 rfl) ?_
          obtain ⟨r_53, I_54, J_55, hq_56, hf⟩ := yb_b3_some hf
          refine x_calli X hK hw (c12_makes l D cz ev mb hq_56) (ml_mem0 mb) (ml_S0 mb) cpX12.1 vw_X12_194 ⟨Nat.le_of_ble_eq_true rfl, Nat.le_of_ble_eq_true rfl⟩ rfl rfl (Nat.le_of_ble_eq_true rfl) hl.1 ⟨Nat.le_refl _, Nat.le_refl _⟩ dX12_compare_107 (fun H locs hw => ?_)
          refine lv_if_ne (tgt := 115) hx hb dX12_compare_110 (by decide) (fun c_57 => ?_) (fun c_57 => ?_)
          · have hf := yb_neg c_57 hf
            refine lv_iload_n hx hb dX12_compare_115 rfl (lv_at hl 2 rfl) ?_
            refine lv_bipush (v := (60 : Int32)) hx hb dX12_compare_116 (by decide) ?_
            refine lv_icmp_ne (tgt := 133) hx hb dX12_compare_118 (by decide) (fun c_58 => ?_) (fun c_58 => ?_)
            · have hf := yb_neg c_58 hf
              refine lv_iload_n hx hb dX12_compare_133 rfl (lv_at hl 2 rfl) ?_
              refine lv_bipush (v := (61 : Int32)) hx hb dX12_compare_134 (by decide) ?_
              refine lv_icmp_ne (tgt := 143) hx hb dX12_compare_136 (by decide) (fun c_59 => ?_) (fun c_59 => ?_)
              · have hf := yb_neg c_59 hf
                refine lv_iload_n hx hb dX12_compare_143 rfl (lv_at hl 0 rfl) ?_
                refine lv_if_eq (tgt := 151) hx hb dX12_compare_144 (by decide) (fun _ => ?_) (fun c_60 => absurd (by decide) c_60)
                refine lv_iconst (v := (4 : Int32)) hx hb dX12_compare_151 (by decide) ?_
                refine lv_istore (lv' := [(4, .int (4 : Int32)), (3, .int (0 : Int32)), (2, .int x2_10), (1, .int r_6), (0, .ref mb)]) hx hb dX12_compare_152 hl (by decide) rfl (fun ls hl => ?_)
                refine lv_aload_n hx hb dX12_compare_154 rfl (lv_at hl 4 rfl) ?_
                obtain ⟨r_61, I_62, J_63, hq_64, hf⟩ := yb_b3_some hf
                refine x_calli X hK hw (c12_sum l D cz ev mb hq_64) (ml_mem0 mb) (ml_S0 mb) cpX12.1 vw_X12_207 ⟨Nat.le_of_ble_eq_true rfl, Nat.le_of_ble_eq_true rfl⟩ rfl rfl (Nat.le_of_ble_eq_true rfl) hl.1 ⟨Nat.le_refl _, Nat.le_refl _⟩ dX12_compare_155 (fun H locs hw => ?_)
                refine lv_if_ne (tgt := 163) hx hb dX12_compare_158 (by decide) (fun c_65 => ?_) (fun c_65 => ?_)
                · have hf := yb_neg c_65 hf
                  refine lv_aload_n hx hb dX12_compare_163 rfl (lv_at hl 4 rfl) ?_
                  refine lv_bipush (v := (6 : Int32)) hx hb dX12_compare_164 (by decide) ?_
                  refine lv_iload hx hb dX12_compare_166 (lv_at hl 0 rfl) ?_
                  refine lv_iadd hx hb dX12_compare_168 ?_
                  refine lv_iconst (v := (0 : Int32)) hx hb dX12_compare_169 (by decide) ?_
                  obtain ⟨r_66, I_67, J_68, hq_69, hf⟩ := yb_b3_some hf
                  refine x_callv X hK hw (c12_puts l D cz ev mb hq_69) (ml_mem0 mb) (ml_S0 mb) cpX12.1 vw_X12_186 ⟨Nat.le_of_ble_eq_true rfl, Nat.le_of_ble_eq_true rfl⟩ rfl rfl (Nat.le_of_ble_eq_true rfl) hl.1 ⟨Nat.le_refl _, Nat.le_refl _⟩ dX12_compare_170 (fun H locs hw => ?_)
                  refine lv_iconst (v := (1 : Int32)) hx hb dX12_compare_173 (by decide) ?_
                  exact yb_retz hfin (by decide) hf hw dX12_compare_174
                · have hf := yb_pos c_65 hf
                  refine lv_iconst (v := (0 : Int32)) hx hb dX12_compare_161 (by decide) ?_
                  exact yb_retz hfin (by decide) hf hw dX12_compare_162
              · have hf := yb_pos c_59 hf
                refine lv_iconst (v := (2 : Int32)) hx hb dX12_compare_139 (by decide) ?_
                refine lv_goto (tgt := 152) hx hb dX12_compare_140 (by decide) ?_
                refine lv_istore (lv' := [(4, .int (2 : Int32)), (3, .int (0 : Int32)), (2, .int x2_10), (1, .int r_6), (0, .ref mb)]) hx hb dX12_compare_152 hl (by decide) rfl (fun ls hl => ?_)
                refine lv_aload_n hx hb dX12_compare_154 rfl (lv_at hl 4 rfl) ?_
                obtain ⟨r_70, I_71, J_72, hq_73, hf⟩ := yb_b3_some hf
                refine x_calli X hK hw (c12_sum l D cz ev mb hq_73) (ml_mem0 mb) (ml_S0 mb) cpX12.1 vw_X12_207 ⟨Nat.le_of_ble_eq_true rfl, Nat.le_of_ble_eq_true rfl⟩ rfl rfl (Nat.le_of_ble_eq_true rfl) hl.1 ⟨Nat.le_refl _, Nat.le_refl _⟩ dX12_compare_155 (fun H locs hw => ?_)
                refine lv_if_ne (tgt := 163) hx hb dX12_compare_158 (by decide) (fun c_74 => ?_) (fun c_74 => ?_)
                · have hf := yb_neg c_74 hf
                  refine lv_aload_n hx hb dX12_compare_163 rfl (lv_at hl 4 rfl) ?_
                  refine lv_bipush (v := (6 : Int32)) hx hb dX12_compare_164 (by decide) ?_
                  refine lv_iload hx hb dX12_compare_166 (lv_at hl 0 rfl) ?_
                  refine lv_iadd hx hb dX12_compare_168 ?_
                  refine lv_iconst (v := (0 : Int32)) hx hb dX12_compare_169 (by decide) ?_
                  obtain ⟨r_75, I_76, J_77, hq_78, hf⟩ := yb_b3_some hf
                  refine x_callv X hK hw (c12_puts l D cz ev mb hq_78) (ml_mem0 mb) (ml_S0 mb) cpX12.1 vw_X12_186 ⟨Nat.le_of_ble_eq_true rfl, Nat.le_of_ble_eq_true rfl⟩ rfl rfl (Nat.le_of_ble_eq_true rfl) hl.1 ⟨Nat.le_refl _, Nat.le_refl _⟩ dX12_compare_170 (fun H locs hw => ?_)
                  refine lv_iconst (v := (1 : Int32)) hx hb dX12_compare_173 (by decide) ?_
                  exact yb_retz hfin (by decide) hf hw dX12_compare_174
                · have hf := yb_pos c_74 hf
                  refine lv_iconst (v := (0 : Int32)) hx hb dX12_compare_161 (by decide) ?_
                  exact yb_retz hfin (by decide) hf hw dX12_compare_162
            · have hf := yb_pos c_58 hf
              refine lv_iload_n hx hb dX12_compare_121 rfl (lv_at hl 0 rfl) ?_
              refine lv_if_eq (tgt := 129) hx hb dX12_compare_122 (by decide) (fun _ => ?_) (fun c_79 => absurd (by decide) c_79)
              refine lv_iconst (v := (0 : Int32)) hx hb dX12_compare_129 (by decide) ?_
              refine lv_goto (tgt := 152) hx hb dX12_compare_130 (by decide) ?_
              refine lv_istore (lv' := [(4, .int (0 : Int32)), (3, .int (0 : Int32)), (2, .int x2_10), (1, .int r_6), (0, .ref mb)]) hx hb dX12_compare_152 hl (by decide) rfl (fun ls hl => ?_)
              refine lv_aload_n hx hb dX12_compare_154 rfl (lv_at hl 4 rfl) ?_
              obtain ⟨r_80, I_81, J_82, hq_83, hf⟩ := yb_b3_some hf
              refine x_calli X hK hw (c12_sum l D cz ev mb hq_83) (ml_mem0 mb) (ml_S0 mb) cpX12.1 vw_X12_207 ⟨Nat.le_of_ble_eq_true rfl, Nat.le_of_ble_eq_true rfl⟩ rfl rfl (Nat.le_of_ble_eq_true rfl) hl.1 ⟨Nat.le_refl _, Nat.le_refl _⟩ dX12_compare_155 (fun H locs hw => ?_)
              refine lv_if_ne (tgt := 163) hx hb dX12_compare_158 (by decide) (fun c_84 => ?_) (fun c_84 => ?_)
              · have hf := yb_neg c_84 hf
                refine lv_aload_n hx hb dX12_compare_163 rfl (lv_at hl 4 rfl) ?_
                refine lv_bipush (v := (6 : Int32)) hx hb dX12_compare_164 (by decide) ?_
                refine lv_iload hx hb dX12_compare_166 (lv_at hl 0 rfl) ?_
                refine lv_iadd hx hb dX12_compare_168 ?_
                refine lv_iconst (v := (0 : Int32)) hx hb dX12_compare_169 (by decide) ?_
                obtain ⟨r_85, I_86, J_87, hq_88, hf⟩ := yb_b3_some hf
                refine x_callv X hK hw (c12_puts l D cz ev mb hq_88) (ml_mem0 mb) (ml_S0 mb) cpX12.1 vw_X12_186 ⟨Nat.le_of_ble_eq_true rfl, Nat.le_of_ble_eq_true rfl⟩ rfl rfl (Nat.le_of_ble_eq_true rfl) hl.1 ⟨Nat.le_refl _, Nat.le_refl _⟩ dX12_compare_170 (fun H locs hw => ?_)
                refine lv_iconst (v := (1 : Int32)) hx hb dX12_compare_173 (by decide) ?_
                exact yb_retz hfin (by decide) hf hw dX12_compare_174
              · have hf := yb_pos c_84 hf
                refine lv_iconst (v := (0 : Int32)) hx hb dX12_compare_161 (by decide) ?_
                exact yb_retz hfin (by decide) hf hw dX12_compare_162
          · have hf := yb_pos c_57 hf
            refine lv_iconst (v := (0 : Int32)) hx hb dX12_compare_113 (by decide) ?_
            exact yb_retz hfin (by decide) hf hw dX12_compare_114
        · have hf := yb_neg c_51 hf
          refine lv_aload_n hx hb dX12_compare_71 rfl (lv_at hl 2 rfl) ?_
          refine x_getR X hK hw (ml_mem0 mb) (ml_S0 mb) cpX12 0 (by decide) rfl (ml_R mb 0 rfl) tw_1251 dX12_compare_72 ?_
          refine lv_aload_n hx hb dX12_compare_75 rfl (lv_at hl 2 rfl) ?_
          refine x_getI X hK hw (ml_mem0 mb) (ml_S0 mb) cpX12 8 (by decide) rfl tw_1259 dX12_compare_76 ?_
          obtain ⟨hi_89, hf⟩ := yb_ck_some hf
          refine x_bald X hK hw (ml_mem mb 1 (by decide)) (ml_S mb 1 rfl) hi_89 rfl dX12_compare_79 ?_
          refine lv_bipush (v := (61 : Int32)) hx hb dX12_compare_80 (by decide) ?_
          refine lv_icmp_ne (tgt := 89) hx hb dX12_compare_82 (by decide) (fun c_90 => ?_) (fun c_90 => ?_)
          · have hf := yb_neg c_90 hf
            refine lv_iconst (v := (0 : Int32)) hx hb dX12_compare_89 (by decide) ?_
            refine lv_istore_n (lv' := [(3, .int (0 : Int32)), (2, .int x2_10), (1, .int r_6), (0, .ref mb)]) hx hb dX12_compare_90 rfl hl (by decide) rfl (fun ls hl => ?_)
            refine lv_iload_n hx hb dX12_compare_91 rfl (lv_at hl 0 rfl) ?_
            refine lv_if_eq (tgt := 105) hx hb dX12_compare_92 (by decide) (fun _ => ?_) (fun c_91 => absurd (by decide) c_91)
            refine lv_aload_n hx hb dX12_compare_105 rfl (lv_at hl 3 rfl) ?_
            refine lv_iload_n hx hb dX12_compare_106 rfl (lv_at hl 1 rfl) ?_
            obtain ⟨r_92, I_93, J_94, hq_95, hf⟩ := yb_b3_some hf
            refine x_calli X hK hw (c12_makes l D cz ev mb hq_95) (ml_mem0 mb) (ml_S0 mb) cpX12.1 vw_X12_194 ⟨Nat.le_of_ble_eq_true rfl, Nat.le_of_ble_eq_true rfl⟩ rfl rfl (Nat.le_of_ble_eq_true rfl) hl.1 ⟨Nat.le_refl _, Nat.le_refl _⟩ dX12_compare_107 (fun H locs hw => ?_)
            refine lv_if_ne (tgt := 115) hx hb dX12_compare_110 (by decide) (fun c_96 => ?_) (fun c_96 => ?_)
            · have hf := yb_neg c_96 hf
              refine lv_iload_n hx hb dX12_compare_115 rfl (lv_at hl 2 rfl) ?_
              refine lv_bipush (v := (60 : Int32)) hx hb dX12_compare_116 (by decide) ?_
              refine lv_icmp_ne (tgt := 133) hx hb dX12_compare_118 (by decide) (fun c_97 => ?_) (fun c_97 => ?_)
              · have hf := yb_neg c_97 hf
                refine lv_iload_n hx hb dX12_compare_133 rfl (lv_at hl 2 rfl) ?_
                refine lv_bipush (v := (61 : Int32)) hx hb dX12_compare_134 (by decide) ?_
                refine lv_icmp_ne (tgt := 143) hx hb dX12_compare_136 (by decide) (fun c_98 => ?_) (fun c_98 => ?_)
                · have hf := yb_neg c_98 hf
                  refine lv_iload_n hx hb dX12_compare_143 rfl (lv_at hl 0 rfl) ?_
                  refine lv_if_eq (tgt := 151) hx hb dX12_compare_144 (by decide) (fun _ => ?_) (fun c_99 => absurd (by decide) c_99)
                  refine lv_iconst (v := (4 : Int32)) hx hb dX12_compare_151 (by decide) ?_
                  refine lv_istore (lv' := [(4, .int (4 : Int32)), (3, .int (0 : Int32)), (2, .int x2_10), (1, .int r_6), (0, .ref mb)]) hx hb dX12_compare_152 hl (by decide) rfl (fun ls hl => ?_)
                  refine lv_aload_n hx hb dX12_compare_154 rfl (lv_at hl 4 rfl) ?_
                  obtain ⟨r_100, I_101, J_102, hq_103, hf⟩ := yb_b3_some hf
                  refine x_calli X hK hw (c12_sum l D cz ev mb hq_103) (ml_mem0 mb) (ml_S0 mb) cpX12.1 vw_X12_207 ⟨Nat.le_of_ble_eq_true rfl, Nat.le_of_ble_eq_true rfl⟩ rfl rfl (Nat.le_of_ble_eq_true rfl) hl.1 ⟨Nat.le_refl _, Nat.le_refl _⟩ dX12_compare_155 (fun H locs hw => ?_)
                  refine lv_if_ne (tgt := 163) hx hb dX12_compare_158 (by decide) (fun c_104 => ?_) (fun c_104 => ?_)
                  · have hf := yb_neg c_104 hf
                    refine lv_aload_n hx hb dX12_compare_163 rfl (lv_at hl 4 rfl) ?_
                    refine lv_bipush (v := (6 : Int32)) hx hb dX12_compare_164 (by decide) ?_
                    refine lv_iload hx hb dX12_compare_166 (lv_at hl 0 rfl) ?_
                    refine lv_iadd hx hb dX12_compare_168 ?_
                    refine lv_iconst (v := (0 : Int32)) hx hb dX12_compare_169 (by decide) ?_
                    obtain ⟨r_105, I_106, J_107, hq_108, hf⟩ := yb_b3_some hf
                    refine x_callv X hK hw (c12_puts l D cz ev mb hq_108) (ml_mem0 mb) (ml_S0 mb) cpX12.1 vw_X12_186 ⟨Nat.le_of_ble_eq_true rfl, Nat.le_of_ble_eq_true rfl⟩ rfl rfl (Nat.le_of_ble_eq_true rfl) hl.1 ⟨Nat.le_refl _, Nat.le_refl _⟩ dX12_compare_170 (fun H locs hw => ?_)
                    refine lv_iconst (v := (1 : Int32)) hx hb dX12_compare_173 (by decide) ?_
                    exact yb_retz hfin (by decide) hf hw dX12_compare_174
                  · have hf := yb_pos c_104 hf
                    refine lv_iconst (v := (0 : Int32)) hx hb dX12_compare_161 (by decide) ?_
                    exact yb_retz hfin (by decide) hf hw dX12_compare_162
                · have hf := yb_pos c_98 hf
                  refine lv_iconst (v := (2 : Int32)) hx hb dX12_compare_139 (by decide) ?_
                  refine lv_goto (tgt := 152) hx hb dX12_compare_140 (by decide) ?_
                  refine lv_istore (lv' := [(4, .int (2 : Int32)), (3, .int (0 : Int32)), (2, .int x2_10), (1, .int r_6), (0, .ref mb)]) hx hb dX12_compare_152 hl (by decide) rfl (fun ls hl => ?_)
                  refine lv_aload_n hx hb dX12_compare_154 rfl (lv_at hl 4 rfl) ?_
                  obtain ⟨r_109, I_110, J_111, hq_112, hf⟩ := yb_b3_some hf
                  refine x_calli X hK hw (c12_sum l D cz ev mb hq_112) (ml_mem0 mb) (ml_S0 mb) cpX12.1 vw_X12_207 ⟨Nat.le_of_ble_eq_true rfl, Nat.le_of_ble_eq_true rfl⟩ rfl rfl (Nat.le_of_ble_eq_true rfl) hl.1 ⟨Nat.le_refl _, Nat.le_refl _⟩ dX12_compare_155 (fun H locs hw => ?_)
                  refine lv_if_ne (tgt := 163) hx hb dX12_compare_158 (by decide) (fun c_113 => ?_) (fun c_113 => ?_)
                  · have hf := yb_neg c_113 hf
                    refine lv_aload_n hx hb dX12_compare_163 rfl (lv_at hl 4 rfl) ?_
                    refine lv_bipush (v := (6 : Int32)) hx hb dX12_compare_164 (by decide) ?_
                    refine lv_iload hx hb dX12_compare_166 (lv_at hl 0 rfl) ?_
                    refine lv_iadd hx hb dX12_compare_168 ?_
                    refine lv_iconst (v := (0 : Int32)) hx hb dX12_compare_169 (by decide) ?_
                    obtain ⟨r_114, I_115, J_116, hq_117, hf⟩ := yb_b3_some hf
                    refine x_callv X hK hw (c12_puts l D cz ev mb hq_117) (ml_mem0 mb) (ml_S0 mb) cpX12.1 vw_X12_186 ⟨Nat.le_of_ble_eq_true rfl, Nat.le_of_ble_eq_true rfl⟩ rfl rfl (Nat.le_of_ble_eq_true rfl) hl.1 ⟨Nat.le_refl _, Nat.le_refl _⟩ dX12_compare_170 (fun H locs hw => ?_)
                    refine lv_iconst (v := (1 : Int32)) hx hb dX12_compare_173 (by decide) ?_
                    exact yb_retz hfin (by decide) hf hw dX12_compare_174
                  · have hf := yb_pos c_113 hf
                    refine lv_iconst (v := (0 : Int32)) hx hb dX12_compare_161 (by decide) ?_
                    exact yb_retz hfin (by decide) hf hw dX12_compare_162
              · have hf := yb_pos c_97 hf
                refine lv_iload_n hx hb dX12_compare_121 rfl (lv_at hl 0 rfl) ?_
                refine lv_if_eq (tgt := 129) hx hb dX12_compare_122 (by decide) (fun _ => ?_) (fun c_118 => absurd (by decide) c_118)
                refine lv_iconst (v := (0 : Int32)) hx hb dX12_compare_129 (by decide) ?_
                refine lv_goto (tgt := 152) hx hb dX12_compare_130 (by decide) ?_
                refine lv_istore (lv' := [(4, .int (0 : Int32)), (3, .int (0 : Int32)), (2, .int x2_10), (1, .int r_6), (0, .ref mb)]) hx hb dX12_compare_152 hl (by decide) rfl (fun ls hl => ?_)
                refine lv_aload_n hx hb dX12_compare_154 rfl (lv_at hl 4 rfl) ?_
                obtain ⟨r_119, I_120, J_121, hq_122, hf⟩ := yb_b3_some hf
                refine x_calli X hK hw (c12_sum l D cz ev mb hq_122) (ml_mem0 mb) (ml_S0 mb) cpX12.1 vw_X12_207 ⟨Nat.le_of_ble_eq_true rfl, Nat.le_of_ble_eq_true rfl⟩ rfl rfl (Nat.le_of_ble_eq_true rfl) hl.1 ⟨Nat.le_refl _, Nat.le_refl _⟩ dX12_compare_155 (fun H locs hw => ?_)
                refine lv_if_ne (tgt := 163) hx hb dX12_compare_158 (by decide) (fun c_123 => ?_) (fun c_123 => ?_)
                · have hf := yb_neg c_123 hf
                  refine lv_aload_n hx hb dX12_compare_163 rfl (lv_at hl 4 rfl) ?_
                  refine lv_bipush (v := (6 : Int32)) hx hb dX12_compare_164 (by decide) ?_
                  refine lv_iload hx hb dX12_compare_166 (lv_at hl 0 rfl) ?_
                  refine lv_iadd hx hb dX12_compare_168 ?_
                  refine lv_iconst (v := (0 : Int32)) hx hb dX12_compare_169 (by decide) ?_
                  obtain ⟨r_124, I_125, J_126, hq_127, hf⟩ := yb_b3_some hf
                  refine x_callv X hK hw (c12_puts l D cz ev mb hq_127) (ml_mem0 mb) (ml_S0 mb) cpX12.1 vw_X12_186 ⟨Nat.le_of_ble_eq_true rfl, Nat.le_of_ble_eq_true rfl⟩ rfl rfl (Nat.le_of_ble_eq_true rfl) hl.1 ⟨Nat.le_refl _, Nat.le_refl _⟩ dX12_compare_170 (fun H locs hw => ?_)
                  refine lv_iconst (v := (1 : Int32)) hx hb dX12_compare_173 (by decide) ?_
                  exact yb_retz hfin (by decide) hf hw dX12_compare_174
                · have hf := yb_pos c_123 hf
                  refine lv_iconst (v := (0 : Int32)) hx hb dX12_compare_161 (by decide) ?_
                  exact yb_retz hfin (by decide) hf hw dX12_compare_162
            · have hf := yb_pos c_96 hf
              refine lv_iconst (v := (0 : Int32)) hx hb dX12_compare_113 (by decide) ?_
              exact yb_retz hfin (by decide) hf hw dX12_compare_114
          · have hf := yb_pos c_90 hf
            refine lv_iconst (v := (1 : Int32)) hx hb dX12_compare_85 (by decide) ?_
            refine lv_goto (tgt := 90) hx hb dX12_compare_86 (by decide) ?_
            refine lv_istore_n (lv' := [(3, .int (1 : Int32)), (2, .int x2_10), (1, .int r_6), (0, .ref mb)]) hx hb dX12_compare_90 rfl hl (by decide) rfl (fun ls hl => ?_)
            refine lv_iload_n hx hb dX12_compare_91 rfl (lv_at hl 0 rfl) ?_
            refine lv_if_eq (tgt := 105) hx hb dX12_compare_92 (by decide) (fun c_128 => absurd c_128 (by decide)) (fun _ => ?_)
            refine lv_aload_n hx hb dX12_compare_95 rfl (lv_at hl 3 rfl) ?_
            refine lv_dup hx hb dX12_compare_96 rfl ?_
            refine x_getI X hK hw (ml_mem0 mb) (ml_S0 mb) cpX12 8 (by decide) rfl tw_1259 dX12_compare_97 ?_
            refine lv_iconst (v := (1 : Int32)) hx hb dX12_compare_100 (by decide) ?_
            refine lv_iadd hx hb dX12_compare_101 ?_
            refine x_putI X hK hw (ml_mem0 mb) (ml_S0 mb) cpX12 8 (by decide) rfl rfl rfl tw_1259 dX12_compare_102 (fun H locs hw => ?_)
            obtain ⟨I_129, eI_129, hf⟩ := yb_let_ex hf
            have hw := yb_wI eI_129 hw
            refine lv_aload_n hx hb dX12_compare_105 rfl (lv_at hl 3 rfl) ?_
            refine lv_iload_n hx hb dX12_compare_106 rfl (lv_at hl 1 rfl) ?_
            obtain ⟨r_130, I_131, J_132, hq_133, hf⟩ := yb_b3_some hf
            refine x_calli X hK hw (c12_makes l D cz ev mb hq_133) (ml_mem0 mb) (ml_S0 mb) cpX12.1 vw_X12_194 ⟨Nat.le_of_ble_eq_true rfl, Nat.le_of_ble_eq_true rfl⟩ rfl rfl (Nat.le_of_ble_eq_true rfl) hl.1 ⟨Nat.le_refl _, Nat.le_refl _⟩ dX12_compare_107 (fun H locs hw => ?_)
            refine lv_if_ne (tgt := 115) hx hb dX12_compare_110 (by decide) (fun c_134 => ?_) (fun c_134 => ?_)
            · have hf := yb_neg c_134 hf
              refine lv_iload_n hx hb dX12_compare_115 rfl (lv_at hl 2 rfl) ?_
              refine lv_bipush (v := (60 : Int32)) hx hb dX12_compare_116 (by decide) ?_
              refine lv_icmp_ne (tgt := 133) hx hb dX12_compare_118 (by decide) (fun c_135 => ?_) (fun c_135 => ?_)
              · have hf := yb_neg c_135 hf
                refine lv_iload_n hx hb dX12_compare_133 rfl (lv_at hl 2 rfl) ?_
                refine lv_bipush (v := (61 : Int32)) hx hb dX12_compare_134 (by decide) ?_
                refine lv_icmp_ne (tgt := 143) hx hb dX12_compare_136 (by decide) (fun c_136 => ?_) (fun c_136 => ?_)
                · have hf := yb_neg c_136 hf
                  refine lv_iload_n hx hb dX12_compare_143 rfl (lv_at hl 0 rfl) ?_
                  refine lv_if_eq (tgt := 151) hx hb dX12_compare_144 (by decide) (fun c_137 => absurd c_137 (by decide)) (fun _ => ?_)
                  refine lv_iconst (v := (3 : Int32)) hx hb dX12_compare_147 (by decide) ?_
                  refine lv_goto (tgt := 152) hx hb dX12_compare_148 (by decide) ?_
                  refine lv_istore (lv' := [(4, .int (3 : Int32)), (3, .int (1 : Int32)), (2, .int x2_10), (1, .int r_6), (0, .ref mb)]) hx hb dX12_compare_152 hl (by decide) rfl (fun ls hl => ?_)
                  refine lv_aload_n hx hb dX12_compare_154 rfl (lv_at hl 4 rfl) ?_
                  obtain ⟨r_138, I_139, J_140, hq_141, hf⟩ := yb_b3_some hf
                  refine x_calli X hK hw (c12_sum l D cz ev mb hq_141) (ml_mem0 mb) (ml_S0 mb) cpX12.1 vw_X12_207 ⟨Nat.le_of_ble_eq_true rfl, Nat.le_of_ble_eq_true rfl⟩ rfl rfl (Nat.le_of_ble_eq_true rfl) hl.1 ⟨Nat.le_refl _, Nat.le_refl _⟩ dX12_compare_155 (fun H locs hw => ?_)
                  refine lv_if_ne (tgt := 163) hx hb dX12_compare_158 (by decide) (fun c_142 => ?_) (fun c_142 => ?_)
                  · have hf := yb_neg c_142 hf
                    refine lv_aload_n hx hb dX12_compare_163 rfl (lv_at hl 4 rfl) ?_
                    refine lv_bipush (v := (6 : Int32)) hx hb dX12_compare_164 (by decide) ?_
                    refine lv_iload hx hb dX12_compare_166 (lv_at hl 0 rfl) ?_
                    refine lv_iadd hx hb dX12_compare_168 ?_
                    refine lv_iconst (v := (0 : Int32)) hx hb dX12_compare_169 (by decide) ?_
                    obtain ⟨r_143, I_144, J_145, hq_146, hf⟩ := yb_b3_some hf
                    refine x_callv X hK hw (c12_puts l D cz ev mb hq_146) (ml_mem0 mb) (ml_S0 mb) cpX12.1 vw_X12_186 ⟨Nat.le_of_ble_eq_true rfl, Nat.le_of_ble_eq_true rfl⟩ rfl rfl (Nat.le_of_ble_eq_true rfl) hl.1 ⟨Nat.le_refl _, Nat.le_refl _⟩ dX12_compare_170 (fun H locs hw => ?_)
                    refine lv_iconst (v := (1 : Int32)) hx hb dX12_compare_173 (by decide) ?_
                    exact yb_retz hfin (by decide) hf hw dX12_compare_174
                  · have hf := yb_pos c_142 hf
                    refine lv_iconst (v := (0 : Int32)) hx hb dX12_compare_161 (by decide) ?_
                    exact yb_retz hfin (by decide) hf hw dX12_compare_162
                · have hf := yb_pos c_136 hf
                  refine lv_iconst (v := (2 : Int32)) hx hb dX12_compare_139 (by decide) ?_
                  refine lv_goto (tgt := 152) hx hb dX12_compare_140 (by decide) ?_
                  refine lv_istore (lv' := [(4, .int (2 : Int32)), (3, .int (1 : Int32)), (2, .int x2_10), (1, .int r_6), (0, .ref mb)]) hx hb dX12_compare_152 hl (by decide) rfl (fun ls hl => ?_)
                  refine lv_aload_n hx hb dX12_compare_154 rfl (lv_at hl 4 rfl) ?_
                  obtain ⟨r_147, I_148, J_149, hq_150, hf⟩ := yb_b3_some hf
                  refine x_calli X hK hw (c12_sum l D cz ev mb hq_150) (ml_mem0 mb) (ml_S0 mb) cpX12.1 vw_X12_207 ⟨Nat.le_of_ble_eq_true rfl, Nat.le_of_ble_eq_true rfl⟩ rfl rfl (Nat.le_of_ble_eq_true rfl) hl.1 ⟨Nat.le_refl _, Nat.le_refl _⟩ dX12_compare_155 (fun H locs hw => ?_)
                  refine lv_if_ne (tgt := 163) hx hb dX12_compare_158 (by decide) (fun c_151 => ?_) (fun c_151 => ?_)
                  · have hf := yb_neg c_151 hf
                    refine lv_aload_n hx hb dX12_compare_163 rfl (lv_at hl 4 rfl) ?_
                    refine lv_bipush (v := (6 : Int32)) hx hb dX12_compare_164 (by decide) ?_
                    refine lv_iload hx hb dX12_compare_166 (lv_at hl 0 rfl) ?_
                    refine lv_iadd hx hb dX12_compare_168 ?_
                    refine lv_iconst (v := (0 : Int32)) hx hb dX12_compare_169 (by decide) ?_
                    obtain ⟨r_152, I_153, J_154, hq_155, hf⟩ := yb_b3_some hf
                    refine x_callv X hK hw (c12_puts l D cz ev mb hq_155) (ml_mem0 mb) (ml_S0 mb) cpX12.1 vw_X12_186 ⟨Nat.le_of_ble_eq_true rfl, Nat.le_of_ble_eq_true rfl⟩ rfl rfl (Nat.le_of_ble_eq_true rfl) hl.1 ⟨Nat.le_refl _, Nat.le_refl _⟩ dX12_compare_170 (fun H locs hw => ?_)
                    refine lv_iconst (v := (1 : Int32)) hx hb dX12_compare_173 (by decide) ?_
                    exact yb_retz hfin (by decide) hf hw dX12_compare_174
                  · have hf := yb_pos c_151 hf
                    refine lv_iconst (v := (0 : Int32)) hx hb dX12_compare_161 (by decide) ?_
                    exact yb_retz hfin (by decide) hf hw dX12_compare_162
              · have hf := yb_pos c_135 hf
                refine lv_iload_n hx hb dX12_compare_121 rfl (lv_at hl 0 rfl) ?_
                refine lv_if_eq (tgt := 129) hx hb dX12_compare_122 (by decide) (fun c_156 => absurd c_156 (by decide)) (fun _ => ?_)
                refine lv_iconst (v := (1 : Int32)) hx hb dX12_compare_125 (by decide) ?_
                refine lv_goto (tgt := 152) hx hb dX12_compare_126 (by decide) ?_
                refine lv_istore (lv' := [(4, .int (1 : Int32)), (3, .int (1 : Int32)), (2, .int x2_10), (1, .int r_6), (0, .ref mb)]) hx hb dX12_compare_152 hl (by decide) rfl (fun ls hl => ?_)
                refine lv_aload_n hx hb dX12_compare_154 rfl (lv_at hl 4 rfl) ?_
                obtain ⟨r_157, I_158, J_159, hq_160, hf⟩ := yb_b3_some hf
                refine x_calli X hK hw (c12_sum l D cz ev mb hq_160) (ml_mem0 mb) (ml_S0 mb) cpX12.1 vw_X12_207 ⟨Nat.le_of_ble_eq_true rfl, Nat.le_of_ble_eq_true rfl⟩ rfl rfl (Nat.le_of_ble_eq_true rfl) hl.1 ⟨Nat.le_refl _, Nat.le_refl _⟩ dX12_compare_155 (fun H locs hw => ?_)
                refine lv_if_ne (tgt := 163) hx hb dX12_compare_158 (by decide) (fun c_161 => ?_) (fun c_161 => ?_)
                · have hf := yb_neg c_161 hf
                  refine lv_aload_n hx hb dX12_compare_163 rfl (lv_at hl 4 rfl) ?_
                  refine lv_bipush (v := (6 : Int32)) hx hb dX12_compare_164 (by decide) ?_
                  refine lv_iload hx hb dX12_compare_166 (lv_at hl 0 rfl) ?_
                  refine lv_iadd hx hb dX12_compare_168 ?_
                  refine lv_iconst (v := (0 : Int32)) hx hb dX12_compare_169 (by decide) ?_
                  obtain ⟨r_162, I_163, J_164, hq_165, hf⟩ := yb_b3_some hf
                  refine x_callv X hK hw (c12_puts l D cz ev mb hq_165) (ml_mem0 mb) (ml_S0 mb) cpX12.1 vw_X12_186 ⟨Nat.le_of_ble_eq_true rfl, Nat.le_of_ble_eq_true rfl⟩ rfl rfl (Nat.le_of_ble_eq_true rfl) hl.1 ⟨Nat.le_refl _, Nat.le_refl _⟩ dX12_compare_170 (fun H locs hw => ?_)
                  refine lv_iconst (v := (1 : Int32)) hx hb dX12_compare_173 (by decide) ?_
                  exact yb_retz hfin (by decide) hf hw dX12_compare_174
                · have hf := yb_pos c_161 hf
                  refine lv_iconst (v := (0 : Int32)) hx hb dX12_compare_161 (by decide) ?_
                  exact yb_retz hfin (by decide) hf hw dX12_compare_162
            · have hf := yb_pos c_134 hf
              refine lv_iconst (v := (0 : Int32)) hx hb dX12_compare_113 (by decide) ?_
              exact yb_retz hfin (by decide) hf hw dX12_compare_114
    · have hf := yb_neg c_11 hf
      refine lv_iload_n hx hb dX12_compare_25 rfl (lv_at hl 1 rfl) ?_
      refine lv_bipush (v := (61 : Int32)) hx hb dX12_compare_26 (by decide) ?_
      refine lv_icmp_eq (tgt := 44) hx hb dX12_compare_28 (by decide) (fun c_166 => ?_) (fun c_166 => ?_)
      · have hf := yb_pos c_166 hf
        refine lv_aload_n hx hb dX12_compare_44 rfl (lv_at hl 2 rfl) ?_
        refine lv_dup hx hb dX12_compare_45 rfl ?_
        refine x_getI X hK hw (ml_mem0 mb) (ml_S0 mb) cpX12 8 (by decide) rfl tw_1259 dX12_compare_46 ?_
        refine lv_iconst (v := (1 : Int32)) hx hb dX12_compare_49 (by decide) ?_
        refine lv_iadd hx hb dX12_compare_50 ?_
        refine x_putI X hK hw (ml_mem0 mb) (ml_S0 mb) cpX12 8 (by decide) rfl rfl rfl tw_1259 dX12_compare_51 (fun H locs hw => ?_)
        obtain ⟨I_167, eI_167, hf⟩ := yb_let_ex hf
        have hw := yb_wI eI_167 hw
        refine lv_iload_n hx hb dX12_compare_54 rfl (lv_at hl 1 rfl) ?_
        refine lv_bipush (v := (61 : Int32)) hx hb dX12_compare_55 (by decide) ?_
        refine lv_icmp_eq (tgt := 89) hx hb dX12_compare_57 (by decide) (fun c_168 => ?_) (fun c_168 => ?_)
        · have hf := yb_pos c_168 hf
          refine lv_iconst (v := (0 : Int32)) hx hb dX12_compare_89 (by decide) ?_
          refine lv_istore_n (lv' := [(3, .int (0 : Int32)), (2, .int x2_10), (1, .int r_6), (0, .ref mb)]) hx hb dX12_compare_90 rfl hl (by decide) rfl (fun ls hl => ?_)
          refine lv_iload_n hx hb dX12_compare_91 rfl (lv_at hl 0 rfl) ?_
          refine lv_if_eq (tgt := 105) hx hb dX12_compare_92 (by decide) (fun _ => ?_) (fun c_169 => absurd (by decide) c_169)
          refine lv_aload_n hx hb dX12_compare_105 rfl (lv_at hl 3 rfl) ?_
          refine lv_iload_n hx hb dX12_compare_106 rfl (lv_at hl 1 rfl) ?_
          obtain ⟨r_170, I_171, J_172, hq_173, hf⟩ := yb_b3_some hf
          refine x_calli X hK hw (c12_makes l D cz ev mb hq_173) (ml_mem0 mb) (ml_S0 mb) cpX12.1 vw_X12_194 ⟨Nat.le_of_ble_eq_true rfl, Nat.le_of_ble_eq_true rfl⟩ rfl rfl (Nat.le_of_ble_eq_true rfl) hl.1 ⟨Nat.le_refl _, Nat.le_refl _⟩ dX12_compare_107 (fun H locs hw => ?_)
          refine lv_if_ne (tgt := 115) hx hb dX12_compare_110 (by decide) (fun c_174 => ?_) (fun c_174 => ?_)
          · have hf := yb_neg c_174 hf
            refine lv_iload_n hx hb dX12_compare_115 rfl (lv_at hl 2 rfl) ?_
            refine lv_bipush (v := (60 : Int32)) hx hb dX12_compare_116 (by decide) ?_
            refine lv_icmp_ne (tgt := 133) hx hb dX12_compare_118 (by decide) (fun c_175 => ?_) (fun c_175 => ?_)
            · have hf := yb_neg c_175 hf
              refine lv_iload_n hx hb dX12_compare_133 rfl (lv_at hl 2 rfl) ?_
              refine lv_bipush (v := (61 : Int32)) hx hb dX12_compare_134 (by decide) ?_
              refine lv_icmp_ne (tgt := 143) hx hb dX12_compare_136 (by decide) (fun c_176 => ?_) (fun c_176 => ?_)
              · have hf := yb_neg c_176 hf
                refine lv_iload_n hx hb dX12_compare_143 rfl (lv_at hl 0 rfl) ?_
                refine lv_if_eq (tgt := 151) hx hb dX12_compare_144 (by decide) (fun _ => ?_) (fun c_177 => absurd (by decide) c_177)
                refine lv_iconst (v := (4 : Int32)) hx hb dX12_compare_151 (by decide) ?_
                refine lv_istore (lv' := [(4, .int (4 : Int32)), (3, .int (0 : Int32)), (2, .int x2_10), (1, .int r_6), (0, .ref mb)]) hx hb dX12_compare_152 hl (by decide) rfl (fun ls hl => ?_)
                refine lv_aload_n hx hb dX12_compare_154 rfl (lv_at hl 4 rfl) ?_
                obtain ⟨r_178, I_179, J_180, hq_181, hf⟩ := yb_b3_some hf
                refine x_calli X hK hw (c12_sum l D cz ev mb hq_181) (ml_mem0 mb) (ml_S0 mb) cpX12.1 vw_X12_207 ⟨Nat.le_of_ble_eq_true rfl, Nat.le_of_ble_eq_true rfl⟩ rfl rfl (Nat.le_of_ble_eq_true rfl) hl.1 ⟨Nat.le_refl _, Nat.le_refl _⟩ dX12_compare_155 (fun H locs hw => ?_)
                refine lv_if_ne (tgt := 163) hx hb dX12_compare_158 (by decide) (fun c_182 => ?_) (fun c_182 => ?_)
                · have hf := yb_neg c_182 hf
                  refine lv_aload_n hx hb dX12_compare_163 rfl (lv_at hl 4 rfl) ?_
                  refine lv_bipush (v := (6 : Int32)) hx hb dX12_compare_164 (by decide) ?_
                  refine lv_iload hx hb dX12_compare_166 (lv_at hl 0 rfl) ?_
                  refine lv_iadd hx hb dX12_compare_168 ?_
                  refine lv_iconst (v := (0 : Int32)) hx hb dX12_compare_169 (by decide) ?_
                  obtain ⟨r_183, I_184, J_185, hq_186, hf⟩ := yb_b3_some hf
                  refine x_callv X hK hw (c12_puts l D cz ev mb hq_186) (ml_mem0 mb) (ml_S0 mb) cpX12.1 vw_X12_186 ⟨Nat.le_of_ble_eq_true rfl, Nat.le_of_ble_eq_true rfl⟩ rfl rfl (Nat.le_of_ble_eq_true rfl) hl.1 ⟨Nat.le_refl _, Nat.le_refl _⟩ dX12_compare_170 (fun H locs hw => ?_)
                  refine lv_iconst (v := (1 : Int32)) hx hb dX12_compare_173 (by decide) ?_
                  exact yb_retz hfin (by decide) hf hw dX12_compare_174
                · have hf := yb_pos c_182 hf
                  refine lv_iconst (v := (0 : Int32)) hx hb dX12_compare_161 (by decide) ?_
                  exact yb_retz hfin (by decide) hf hw dX12_compare_162
              · have hf := yb_pos c_176 hf
                refine lv_iconst (v := (2 : Int32)) hx hb dX12_compare_139 (by decide) ?_
                refine lv_goto (tgt := 152) hx hb dX12_compare_140 (by decide) ?_
                refine lv_istore (lv' := [(4, .int (2 : Int32)), (3, .int (0 : Int32)), (2, .int x2_10), (1, .int r_6), (0, .ref mb)]) hx hb dX12_compare_152 hl (by decide) rfl (fun ls hl => ?_)
                refine lv_aload_n hx hb dX12_compare_154 rfl (lv_at hl 4 rfl) ?_
                obtain ⟨r_187, I_188, J_189, hq_190, hf⟩ := yb_b3_some hf
                refine x_calli X hK hw (c12_sum l D cz ev mb hq_190) (ml_mem0 mb) (ml_S0 mb) cpX12.1 vw_X12_207 ⟨Nat.le_of_ble_eq_true rfl, Nat.le_of_ble_eq_true rfl⟩ rfl rfl (Nat.le_of_ble_eq_true rfl) hl.1 ⟨Nat.le_refl _, Nat.le_refl _⟩ dX12_compare_155 (fun H locs hw => ?_)
                refine lv_if_ne (tgt := 163) hx hb dX12_compare_158 (by decide) (fun c_191 => ?_) (fun c_191 => ?_)
                · have hf := yb_neg c_191 hf
                  refine lv_aload_n hx hb dX12_compare_163 rfl (lv_at hl 4 rfl) ?_
                  refine lv_bipush (v := (6 : Int32)) hx hb dX12_compare_164 (by decide) ?_
                  refine lv_iload hx hb dX12_compare_166 (lv_at hl 0 rfl) ?_
                  refine lv_iadd hx hb dX12_compare_168 ?_
                  refine lv_iconst (v := (0 : Int32)) hx hb dX12_compare_169 (by decide) ?_
                  obtain ⟨r_192, I_193, J_194, hq_195, hf⟩ := yb_b3_some hf
                  refine x_callv X hK hw (c12_puts l D cz ev mb hq_195) (ml_mem0 mb) (ml_S0 mb) cpX12.1 vw_X12_186 ⟨Nat.le_of_ble_eq_true rfl, Nat.le_of_ble_eq_true rfl⟩ rfl rfl (Nat.le_of_ble_eq_true rfl) hl.1 ⟨Nat.le_refl _, Nat.le_refl _⟩ dX12_compare_170 (fun H locs hw => ?_)
                  refine lv_iconst (v := (1 : Int32)) hx hb dX12_compare_173 (by decide) ?_
                  exact yb_retz hfin (by decide) hf hw dX12_compare_174
                · have hf := yb_pos c_191 hf
                  refine lv_iconst (v := (0 : Int32)) hx hb dX12_compare_161 (by decide) ?_
                  exact yb_retz hfin (by decide) hf hw dX12_compare_162
            · have hf := yb_pos c_175 hf
              refine lv_iload_n hx hb dX12_compare_121 rfl (lv_at hl 0 rfl) ?_
              refine lv_if_eq (tgt := 129) hx hb dX12_compare_122 (by decide) (fun _ => ?_) (fun c_196 => absurd (by decide) c_196)
              refine lv_iconst (v := (0 : Int32)) hx hb dX12_compare_129 (by decide) ?_
              refine lv_goto (tgt := 152) hx hb dX12_compare_130 (by decide) ?_
              refine lv_istore (lv' := [(4, .int (0 : Int32)), (3, .int (0 : Int32)), (2, .int x2_10), (1, .int r_6), (0, .ref mb)]) hx hb dX12_compare_152 hl (by decide) rfl (fun ls hl => ?_)
              refine lv_aload_n hx hb dX12_compare_154 rfl (lv_at hl 4 rfl) ?_
              obtain ⟨r_197, I_198, J_199, hq_200, hf⟩ := yb_b3_some hf
              refine x_calli X hK hw (c12_sum l D cz ev mb hq_200) (ml_mem0 mb) (ml_S0 mb) cpX12.1 vw_X12_207 ⟨Nat.le_of_ble_eq_true rfl, Nat.le_of_ble_eq_true rfl⟩ rfl rfl (Nat.le_of_ble_eq_true rfl) hl.1 ⟨Nat.le_refl _, Nat.le_refl _⟩ dX12_compare_155 (fun H locs hw => ?_)
              refine lv_if_ne (tgt := 163) hx hb dX12_compare_158 (by decide) (fun c_201 => ?_) (fun c_201 => ?_)
              · have hf := yb_neg c_201 hf
                refine lv_aload_n hx hb dX12_compare_163 rfl (lv_at hl 4 rfl) ?_
                refine lv_bipush (v := (6 : Int32)) hx hb dX12_compare_164 (by decide) ?_
                refine lv_iload hx hb dX12_compare_166 (lv_at hl 0 rfl) ?_
                refine lv_iadd hx hb dX12_compare_168 ?_
                refine lv_iconst (v := (0 : Int32)) hx hb dX12_compare_169 (by decide) ?_
                obtain ⟨r_202, I_203, J_204, hq_205, hf⟩ := yb_b3_some hf
                refine x_callv X hK hw (c12_puts l D cz ev mb hq_205) (ml_mem0 mb) (ml_S0 mb) cpX12.1 vw_X12_186 ⟨Nat.le_of_ble_eq_true rfl, Nat.le_of_ble_eq_true rfl⟩ rfl rfl (Nat.le_of_ble_eq_true rfl) hl.1 ⟨Nat.le_refl _, Nat.le_refl _⟩ dX12_compare_170 (fun H locs hw => ?_)
                refine lv_iconst (v := (1 : Int32)) hx hb dX12_compare_173 (by decide) ?_
                exact yb_retz hfin (by decide) hf hw dX12_compare_174
              · have hf := yb_pos c_201 hf
                refine lv_iconst (v := (0 : Int32)) hx hb dX12_compare_161 (by decide) ?_
                exact yb_retz hfin (by decide) hf hw dX12_compare_162
          · have hf := yb_pos c_174 hf
            refine lv_iconst (v := (0 : Int32)) hx hb dX12_compare_113 (by decide) ?_
            exact yb_retz hfin (by decide) hf hw dX12_compare_114
        · have hf := yb_neg c_168 hf
          refine lv_aload_n hx hb dX12_compare_60 rfl (lv_at hl 2 rfl) ?_
          refine x_getI X hK hw (ml_mem0 mb) (ml_S0 mb) cpX12 8 (by decide) rfl tw_1259 dX12_compare_61 ?_
          refine lv_aload_n hx hb dX12_compare_64 rfl (lv_at hl 2 rfl) ?_
          refine x_getI X hK hw (ml_mem0 mb) (ml_S0 mb) cpX12 1 (by decide) rfl tw_1252 dX12_compare_65 ?_
          refine lv_icmp_ge (tgt := 89) hx hb dX12_compare_68 (by decide) (fun c_206 => ?_) (fun c_206 => ?_)
          · have hf := yb_pos c_206 hf
            refine lv_iconst (v := (0 : Int32)) hx hb dX12_compare_89 (by decide) ?_
            refine lv_istore_n (lv' := [(3, .int (0 : Int32)), (2, .int x2_10), (1, .int r_6), (0, .ref mb)]) hx hb dX12_compare_90 rfl hl (by decide) rfl (fun ls hl => ?_)
            refine lv_iload_n hx hb dX12_compare_91 rfl (lv_at hl 0 rfl) ?_
            refine lv_if_eq (tgt := 105) hx hb dX12_compare_92 (by decide) (fun _ => ?_) (fun c_207 => absurd (by decide) c_207)
            refine lv_aload_n hx hb dX12_compare_105 rfl (lv_at hl 3 rfl) ?_
            refine lv_iload_n hx hb dX12_compare_106 rfl (lv_at hl 1 rfl) ?_
            obtain ⟨r_208, I_209, J_210, hq_211, hf⟩ := yb_b3_some hf
            refine x_calli X hK hw (c12_makes l D cz ev mb hq_211) (ml_mem0 mb) (ml_S0 mb) cpX12.1 vw_X12_194 ⟨Nat.le_of_ble_eq_true rfl, Nat.le_of_ble_eq_true rfl⟩ rfl rfl (Nat.le_of_ble_eq_true rfl) hl.1 ⟨Nat.le_refl _, Nat.le_refl _⟩ dX12_compare_107 (fun H locs hw => ?_)
            refine lv_if_ne (tgt := 115) hx hb dX12_compare_110 (by decide) (fun c_212 => ?_) (fun c_212 => ?_)
            · have hf := yb_neg c_212 hf
              refine lv_iload_n hx hb dX12_compare_115 rfl (lv_at hl 2 rfl) ?_
              refine lv_bipush (v := (60 : Int32)) hx hb dX12_compare_116 (by decide) ?_
              refine lv_icmp_ne (tgt := 133) hx hb dX12_compare_118 (by decide) (fun c_213 => ?_) (fun c_213 => ?_)
              · have hf := yb_neg c_213 hf
                refine lv_iload_n hx hb dX12_compare_133 rfl (lv_at hl 2 rfl) ?_
                refine lv_bipush (v := (61 : Int32)) hx hb dX12_compare_134 (by decide) ?_
                refine lv_icmp_ne (tgt := 143) hx hb dX12_compare_136 (by decide) (fun c_214 => ?_) (fun c_214 => ?_)
                · have hf := yb_neg c_214 hf
                  refine lv_iload_n hx hb dX12_compare_143 rfl (lv_at hl 0 rfl) ?_
                  refine lv_if_eq (tgt := 151) hx hb dX12_compare_144 (by decide) (fun _ => ?_) (fun c_215 => absurd (by decide) c_215)
                  refine lv_iconst (v := (4 : Int32)) hx hb dX12_compare_151 (by decide) ?_
                  refine lv_istore (lv' := [(4, .int (4 : Int32)), (3, .int (0 : Int32)), (2, .int x2_10), (1, .int r_6), (0, .ref mb)]) hx hb dX12_compare_152 hl (by decide) rfl (fun ls hl => ?_)
                  refine lv_aload_n hx hb dX12_compare_154 rfl (lv_at hl 4 rfl) ?_
                  obtain ⟨r_216, I_217, J_218, hq_219, hf⟩ := yb_b3_some hf
                  refine x_calli X hK hw (c12_sum l D cz ev mb hq_219) (ml_mem0 mb) (ml_S0 mb) cpX12.1 vw_X12_207 ⟨Nat.le_of_ble_eq_true rfl, Nat.le_of_ble_eq_true rfl⟩ rfl rfl (Nat.le_of_ble_eq_true rfl) hl.1 ⟨Nat.le_refl _, Nat.le_refl _⟩ dX12_compare_155 (fun H locs hw => ?_)
                  refine lv_if_ne (tgt := 163) hx hb dX12_compare_158 (by decide) (fun c_220 => ?_) (fun c_220 => ?_)
                  · have hf := yb_neg c_220 hf
                    refine lv_aload_n hx hb dX12_compare_163 rfl (lv_at hl 4 rfl) ?_
                    refine lv_bipush (v := (6 : Int32)) hx hb dX12_compare_164 (by decide) ?_
                    refine lv_iload hx hb dX12_compare_166 (lv_at hl 0 rfl) ?_
                    refine lv_iadd hx hb dX12_compare_168 ?_
                    refine lv_iconst (v := (0 : Int32)) hx hb dX12_compare_169 (by decide) ?_
                    obtain ⟨r_221, I_222, J_223, hq_224, hf⟩ := yb_b3_some hf
                    refine x_callv X hK hw (c12_puts l D cz ev mb hq_224) (ml_mem0 mb) (ml_S0 mb) cpX12.1 vw_X12_186 ⟨Nat.le_of_ble_eq_true rfl, Nat.le_of_ble_eq_true rfl⟩ rfl rfl (Nat.le_of_ble_eq_true rfl) hl.1 ⟨Nat.le_refl _, Nat.le_refl _⟩ dX12_compare_170 (fun H locs hw => ?_)
                    refine lv_iconst (v := (1 : Int32)) hx hb dX12_compare_173 (by decide) ?_
                    exact yb_retz hfin (by decide) hf hw dX12_compare_174
                  · have hf := yb_pos c_220 hf
                    refine lv_iconst (v := (0 : Int32)) hx hb dX12_compare_161 (by decide) ?_
                    exact yb_retz hfin (by decide) hf hw dX12_compare_162
                · have hf := yb_pos c_214 hf
                  refine lv_iconst (v := (2 : Int32)) hx hb dX12_compare_139 (by decide) ?_
                  refine lv_goto (tgt := 152) hx hb dX12_compare_140 (by decide) ?_
                  refine lv_istore (lv' := [(4, .int (2 : Int32)), (3, .int (0 : Int32)), (2, .int x2_10), (1, .int r_6), (0, .ref mb)]) hx hb dX12_compare_152 hl (by decide) rfl (fun ls hl => ?_)
                  refine lv_aload_n hx hb dX12_compare_154 rfl (lv_at hl 4 rfl) ?_
                  obtain ⟨r_225, I_226, J_227, hq_228, hf⟩ := yb_b3_some hf
                  refine x_calli X hK hw (c12_sum l D cz ev mb hq_228) (ml_mem0 mb) (ml_S0 mb) cpX12.1 vw_X12_207 ⟨Nat.le_of_ble_eq_true rfl, Nat.le_of_ble_eq_true rfl⟩ rfl rfl (Nat.le_of_ble_eq_true rfl) hl.1 ⟨Nat.le_refl _, Nat.le_refl _⟩ dX12_compare_155 (fun H locs hw => ?_)
                  refine lv_if_ne (tgt := 163) hx hb dX12_compare_158 (by decide) (fun c_229 => ?_) (fun c_229 => ?_)
                  · have hf := yb_neg c_229 hf
                    refine lv_aload_n hx hb dX12_compare_163 rfl (lv_at hl 4 rfl) ?_
                    refine lv_bipush (v := (6 : Int32)) hx hb dX12_compare_164 (by decide) ?_
                    refine lv_iload hx hb dX12_compare_166 (lv_at hl 0 rfl) ?_
                    refine lv_iadd hx hb dX12_compare_168 ?_
                    refine lv_iconst (v := (0 : Int32)) hx hb dX12_compare_169 (by decide) ?_
                    obtain ⟨r_230, I_231, J_232, hq_233, hf⟩ := yb_b3_some hf
                    refine x_callv X hK hw (c12_puts l D cz ev mb hq_233) (ml_mem0 mb) (ml_S0 mb) cpX12.1 vw_X12_186 ⟨Nat.le_of_ble_eq_true rfl, Nat.le_of_ble_eq_true rfl⟩ rfl rfl (Nat.le_of_ble_eq_true rfl) hl.1 ⟨Nat.le_refl _, Nat.le_refl _⟩ dX12_compare_170 (fun H locs hw => ?_)
                    refine lv_iconst (v := (1 : Int32)) hx hb dX12_compare_173 (by decide) ?_
                    exact yb_retz hfin (by decide) hf hw dX12_compare_174
                  · have hf := yb_pos c_229 hf
                    refine lv_iconst (v := (0 : Int32)) hx hb dX12_compare_161 (by decide) ?_
                    exact yb_retz hfin (by decide) hf hw dX12_compare_162
              · have hf := yb_pos c_213 hf
                refine lv_iload_n hx hb dX12_compare_121 rfl (lv_at hl 0 rfl) ?_
                refine lv_if_eq (tgt := 129) hx hb dX12_compare_122 (by decide) (fun _ => ?_) (fun c_234 => absurd (by decide) c_234)
                refine lv_iconst (v := (0 : Int32)) hx hb dX12_compare_129 (by decide) ?_
                refine lv_goto (tgt := 152) hx hb dX12_compare_130 (by decide) ?_
                refine lv_istore (lv' := [(4, .int (0 : Int32)), (3, .int (0 : Int32)), (2, .int x2_10), (1, .int r_6), (0, .ref mb)]) hx hb dX12_compare_152 hl (by decide) rfl (fun ls hl => ?_)
                refine lv_aload_n hx hb dX12_compare_154 rfl (lv_at hl 4 rfl) ?_
                obtain ⟨r_235, I_236, J_237, hq_238, hf⟩ := yb_b3_some hf
                refine x_calli X hK hw (c12_sum l D cz ev mb hq_238) (ml_mem0 mb) (ml_S0 mb) cpX12.1 vw_X12_207 ⟨Nat.le_of_ble_eq_true rfl, Nat.le_of_ble_eq_true rfl⟩ rfl rfl (Nat.le_of_ble_eq_true rfl) hl.1 ⟨Nat.le_refl _, Nat.le_refl _⟩ dX12_compare_155 (fun H locs hw => ?_)
                refine lv_if_ne (tgt := 163) hx hb dX12_compare_158 (by decide) (fun c_239 => ?_) (fun c_239 => ?_)
                · have hf := yb_neg c_239 hf
                  refine lv_aload_n hx hb dX12_compare_163 rfl (lv_at hl 4 rfl) ?_
                  refine lv_bipush (v := (6 : Int32)) hx hb dX12_compare_164 (by decide) ?_
                  refine lv_iload hx hb dX12_compare_166 (lv_at hl 0 rfl) ?_
                  refine lv_iadd hx hb dX12_compare_168 ?_
                  refine lv_iconst (v := (0 : Int32)) hx hb dX12_compare_169 (by decide) ?_
                  obtain ⟨r_240, I_241, J_242, hq_243, hf⟩ := yb_b3_some hf
                  refine x_callv X hK hw (c12_puts l D cz ev mb hq_243) (ml_mem0 mb) (ml_S0 mb) cpX12.1 vw_X12_186 ⟨Nat.le_of_ble_eq_true rfl, Nat.le_of_ble_eq_true rfl⟩ rfl rfl (Nat.le_of_ble_eq_true rfl) hl.1 ⟨Nat.le_refl _, Nat.le_refl _⟩ dX12_compare_170 (fun H locs hw => ?_)
                  refine lv_iconst (v := (1 : Int32)) hx hb dX12_compare_173 (by decide) ?_
                  exact yb_retz hfin (by decide) hf hw dX12_compare_174
                · have hf := yb_pos c_239 hf
                  refine lv_iconst (v := (0 : Int32)) hx hb dX12_compare_161 (by decide) ?_
                  exact yb_retz hfin (by decide) hf hw dX12_compare_162
            · have hf := yb_pos c_212 hf
              refine lv_iconst (v := (0 : Int32)) hx hb dX12_compare_113 (by decide) ?_
              exact yb_retz hfin (by decide) hf hw dX12_compare_114
          · have hf := yb_neg c_206 hf
            refine lv_aload_n hx hb dX12_compare_71 rfl (lv_at hl 2 rfl) ?_
            refine x_getR X hK hw (ml_mem0 mb) (ml_S0 mb) cpX12 0 (by decide) rfl (ml_R mb 0 rfl) tw_1251 dX12_compare_72 ?_
            refine lv_aload_n hx hb dX12_compare_75 rfl (lv_at hl 2 rfl) ?_
            refine x_getI X hK hw (ml_mem0 mb) (ml_S0 mb) cpX12 8 (by decide) rfl tw_1259 dX12_compare_76 ?_
            obtain ⟨hi_244, hf⟩ := yb_ck_some hf
            refine x_bald X hK hw (ml_mem mb 1 (by decide)) (ml_S mb 1 rfl) hi_244 rfl dX12_compare_79 ?_
            refine lv_bipush (v := (61 : Int32)) hx hb dX12_compare_80 (by decide) ?_
            refine lv_icmp_ne (tgt := 89) hx hb dX12_compare_82 (by decide) (fun c_245 => ?_) (fun c_245 => ?_)
            · have hf := yb_neg c_245 hf
              refine lv_iconst (v := (0 : Int32)) hx hb dX12_compare_89 (by decide) ?_
              refine lv_istore_n (lv' := [(3, .int (0 : Int32)), (2, .int x2_10), (1, .int r_6), (0, .ref mb)]) hx hb dX12_compare_90 rfl hl (by decide) rfl (fun ls hl => ?_)
              refine lv_iload_n hx hb dX12_compare_91 rfl (lv_at hl 0 rfl) ?_
              refine lv_if_eq (tgt := 105) hx hb dX12_compare_92 (by decide) (fun _ => ?_) (fun c_246 => absurd (by decide) c_246)
              refine lv_aload_n hx hb dX12_compare_105 rfl (lv_at hl 3 rfl) ?_
              refine lv_iload_n hx hb dX12_compare_106 rfl (lv_at hl 1 rfl) ?_
              obtain ⟨r_247, I_248, J_249, hq_250, hf⟩ := yb_b3_some hf
              refine x_calli X hK hw (c12_makes l D cz ev mb hq_250) (ml_mem0 mb) (ml_S0 mb) cpX12.1 vw_X12_194 ⟨Nat.le_of_ble_eq_true rfl, Nat.le_of_ble_eq_true rfl⟩ rfl rfl (Nat.le_of_ble_eq_true rfl) hl.1 ⟨Nat.le_refl _, Nat.le_refl _⟩ dX12_compare_107 (fun H locs hw => ?_)
              refine lv_if_ne (tgt := 115) hx hb dX12_compare_110 (by decide) (fun c_251 => ?_) (fun c_251 => ?_)
              · have hf := yb_neg c_251 hf
                refine lv_iload_n hx hb dX12_compare_115 rfl (lv_at hl 2 rfl) ?_
                refine lv_bipush (v := (60 : Int32)) hx hb dX12_compare_116 (by decide) ?_
                refine lv_icmp_ne (tgt := 133) hx hb dX12_compare_118 (by decide) (fun c_252 => ?_) (fun c_252 => ?_)
                · have hf := yb_neg c_252 hf
                  refine lv_iload_n hx hb dX12_compare_133 rfl (lv_at hl 2 rfl) ?_
                  refine lv_bipush (v := (61 : Int32)) hx hb dX12_compare_134 (by decide) ?_
                  refine lv_icmp_ne (tgt := 143) hx hb dX12_compare_136 (by decide) (fun c_253 => ?_) (fun c_253 => ?_)
                  · have hf := yb_neg c_253 hf
                    refine lv_iload_n hx hb dX12_compare_143 rfl (lv_at hl 0 rfl) ?_
                    refine lv_if_eq (tgt := 151) hx hb dX12_compare_144 (by decide) (fun _ => ?_) (fun c_254 => absurd (by decide) c_254)
                    refine lv_iconst (v := (4 : Int32)) hx hb dX12_compare_151 (by decide) ?_
                    refine lv_istore (lv' := [(4, .int (4 : Int32)), (3, .int (0 : Int32)), (2, .int x2_10), (1, .int r_6), (0, .ref mb)]) hx hb dX12_compare_152 hl (by decide) rfl (fun ls hl => ?_)
                    refine lv_aload_n hx hb dX12_compare_154 rfl (lv_at hl 4 rfl) ?_
                    obtain ⟨r_255, I_256, J_257, hq_258, hf⟩ := yb_b3_some hf
                    refine x_calli X hK hw (c12_sum l D cz ev mb hq_258) (ml_mem0 mb) (ml_S0 mb) cpX12.1 vw_X12_207 ⟨Nat.le_of_ble_eq_true rfl, Nat.le_of_ble_eq_true rfl⟩ rfl rfl (Nat.le_of_ble_eq_true rfl) hl.1 ⟨Nat.le_refl _, Nat.le_refl _⟩ dX12_compare_155 (fun H locs hw => ?_)
                    refine lv_if_ne (tgt := 163) hx hb dX12_compare_158 (by decide) (fun c_259 => ?_) (fun c_259 => ?_)
                    · have hf := yb_neg c_259 hf
                      refine lv_aload_n hx hb dX12_compare_163 rfl (lv_at hl 4 rfl) ?_
                      refine lv_bipush (v := (6 : Int32)) hx hb dX12_compare_164 (by decide) ?_
                      refine lv_iload hx hb dX12_compare_166 (lv_at hl 0 rfl) ?_
                      refine lv_iadd hx hb dX12_compare_168 ?_
                      refine lv_iconst (v := (0 : Int32)) hx hb dX12_compare_169 (by decide) ?_
                      obtain ⟨r_260, I_261, J_262, hq_263, hf⟩ := yb_b3_some hf
                      refine x_callv X hK hw (c12_puts l D cz ev mb hq_263) (ml_mem0 mb) (ml_S0 mb) cpX12.1 vw_X12_186 ⟨Nat.le_of_ble_eq_true rfl, Nat.le_of_ble_eq_true rfl⟩ rfl rfl (Nat.le_of_ble_eq_true rfl) hl.1 ⟨Nat.le_refl _, Nat.le_refl _⟩ dX12_compare_170 (fun H locs hw => ?_)
                      refine lv_iconst (v := (1 : Int32)) hx hb dX12_compare_173 (by decide) ?_
                      exact yb_retz hfin (by decide) hf hw dX12_compare_174
                    · have hf := yb_pos c_259 hf
                      refine lv_iconst (v := (0 : Int32)) hx hb dX12_compare_161 (by decide) ?_
                      exact yb_retz hfin (by decide) hf hw dX12_compare_162
                  · have hf := yb_pos c_253 hf
                    refine lv_iconst (v := (2 : Int32)) hx hb dX12_compare_139 (by decide) ?_
                    refine lv_goto (tgt := 152) hx hb dX12_compare_140 (by decide) ?_
                    refine lv_istore (lv' := [(4, .int (2 : Int32)), (3, .int (0 : Int32)), (2, .int x2_10), (1, .int r_6), (0, .ref mb)]) hx hb dX12_compare_152 hl (by decide) rfl (fun ls hl => ?_)
                    refine lv_aload_n hx hb dX12_compare_154 rfl (lv_at hl 4 rfl) ?_
                    obtain ⟨r_264, I_265, J_266, hq_267, hf⟩ := yb_b3_some hf
                    refine x_calli X hK hw (c12_sum l D cz ev mb hq_267) (ml_mem0 mb) (ml_S0 mb) cpX12.1 vw_X12_207 ⟨Nat.le_of_ble_eq_true rfl, Nat.le_of_ble_eq_true rfl⟩ rfl rfl (Nat.le_of_ble_eq_true rfl) hl.1 ⟨Nat.le_refl _, Nat.le_refl _⟩ dX12_compare_155 (fun H locs hw => ?_)
                    refine lv_if_ne (tgt := 163) hx hb dX12_compare_158 (by decide) (fun c_268 => ?_) (fun c_268 => ?_)
                    · have hf := yb_neg c_268 hf
                      refine lv_aload_n hx hb dX12_compare_163 rfl (lv_at hl 4 rfl) ?_
                      refine lv_bipush (v := (6 : Int32)) hx hb dX12_compare_164 (by decide) ?_
                      refine lv_iload hx hb dX12_compare_166 (lv_at hl 0 rfl) ?_
                      refine lv_iadd hx hb dX12_compare_168 ?_
                      refine lv_iconst (v := (0 : Int32)) hx hb dX12_compare_169 (by decide) ?_
                      obtain ⟨r_269, I_270, J_271, hq_272, hf⟩ := yb_b3_some hf
                      refine x_callv X hK hw (c12_puts l D cz ev mb hq_272) (ml_mem0 mb) (ml_S0 mb) cpX12.1 vw_X12_186 ⟨Nat.le_of_ble_eq_true rfl, Nat.le_of_ble_eq_true rfl⟩ rfl rfl (Nat.le_of_ble_eq_true rfl) hl.1 ⟨Nat.le_refl _, Nat.le_refl _⟩ dX12_compare_170 (fun H locs hw => ?_)
                      refine lv_iconst (v := (1 : Int32)) hx hb dX12_compare_173 (by decide) ?_
                      exact yb_retz hfin (by decide) hf hw dX12_compare_174
                    · have hf := yb_pos c_268 hf
                      refine lv_iconst (v := (0 : Int32)) hx hb dX12_compare_161 (by decide) ?_
                      exact yb_retz hfin (by decide) hf hw dX12_compare_162
                · have hf := yb_pos c_252 hf
                  refine lv_iload_n hx hb dX12_compare_121 rfl (lv_at hl 0 rfl) ?_
                  refine lv_if_eq (tgt := 129) hx hb dX12_compare_122 (by decide) (fun _ => ?_) (fun c_273 => absurd (by decide) c_273)
                  refine lv_iconst (v := (0 : Int32)) hx hb dX12_compare_129 (by decide) ?_
                  refine lv_goto (tgt := 152) hx hb dX12_compare_130 (by decide) ?_
                  refine lv_istore (lv' := [(4, .int (0 : Int32)), (3, .int (0 : Int32)), (2, .int x2_10), (1, .int r_6), (0, .ref mb)]) hx hb dX12_compare_152 hl (by decide) rfl (fun ls hl => ?_)
                  refine lv_aload_n hx hb dX12_compare_154 rfl (lv_at hl 4 rfl) ?_
                  obtain ⟨r_274, I_275, J_276, hq_277, hf⟩ := yb_b3_some hf
                  refine x_calli X hK hw (c12_sum l D cz ev mb hq_277) (ml_mem0 mb) (ml_S0 mb) cpX12.1 vw_X12_207 ⟨Nat.le_of_ble_eq_true rfl, Nat.le_of_ble_eq_true rfl⟩ rfl rfl (Nat.le_of_ble_eq_true rfl) hl.1 ⟨Nat.le_refl _, Nat.le_refl _⟩ dX12_compare_155 (fun H locs hw => ?_)
                  refine lv_if_ne (tgt := 163) hx hb dX12_compare_158 (by decide) (fun c_278 => ?_) (fun c_278 => ?_)
                  · have hf := yb_neg c_278 hf
                    refine lv_aload_n hx hb dX12_compare_163 rfl (lv_at hl 4 rfl) ?_
                    refine lv_bipush (v := (6 : Int32)) hx hb dX12_compare_164 (by decide) ?_
                    refine lv_iload hx hb dX12_compare_166 (lv_at hl 0 rfl) ?_
                    refine lv_iadd hx hb dX12_compare_168 ?_
                    refine lv_iconst (v := (0 : Int32)) hx hb dX12_compare_169 (by decide) ?_
                    obtain ⟨r_279, I_280, J_281, hq_282, hf⟩ := yb_b3_some hf
                    refine x_callv X hK hw (c12_puts l D cz ev mb hq_282) (ml_mem0 mb) (ml_S0 mb) cpX12.1 vw_X12_186 ⟨Nat.le_of_ble_eq_true rfl, Nat.le_of_ble_eq_true rfl⟩ rfl rfl (Nat.le_of_ble_eq_true rfl) hl.1 ⟨Nat.le_refl _, Nat.le_refl _⟩ dX12_compare_170 (fun H locs hw => ?_)
                    refine lv_iconst (v := (1 : Int32)) hx hb dX12_compare_173 (by decide) ?_
                    exact yb_retz hfin (by decide) hf hw dX12_compare_174
                  · have hf := yb_pos c_278 hf
                    refine lv_iconst (v := (0 : Int32)) hx hb dX12_compare_161 (by decide) ?_
                    exact yb_retz hfin (by decide) hf hw dX12_compare_162
              · have hf := yb_pos c_251 hf
                refine lv_iconst (v := (0 : Int32)) hx hb dX12_compare_113 (by decide) ?_
                exact yb_retz hfin (by decide) hf hw dX12_compare_114
            · have hf := yb_pos c_245 hf
              refine lv_iconst (v := (1 : Int32)) hx hb dX12_compare_85 (by decide) ?_
              refine lv_goto (tgt := 90) hx hb dX12_compare_86 (by decide) ?_
              refine lv_istore_n (lv' := [(3, .int (1 : Int32)), (2, .int x2_10), (1, .int r_6), (0, .ref mb)]) hx hb dX12_compare_90 rfl hl (by decide) rfl (fun ls hl => ?_)
              refine lv_iload_n hx hb dX12_compare_91 rfl (lv_at hl 0 rfl) ?_
              refine lv_if_eq (tgt := 105) hx hb dX12_compare_92 (by decide) (fun c_283 => absurd c_283 (by decide)) (fun _ => ?_)
              refine lv_aload_n hx hb dX12_compare_95 rfl (lv_at hl 3 rfl) ?_
              refine lv_dup hx hb dX12_compare_96 rfl ?_
              refine x_getI X hK hw (ml_mem0 mb) (ml_S0 mb) cpX12 8 (by decide) rfl tw_1259 dX12_compare_97 ?_
              refine lv_iconst (v := (1 : Int32)) hx hb dX12_compare_100 (by decide) ?_
              refine lv_iadd hx hb dX12_compare_101 ?_
              refine x_putI X hK hw (ml_mem0 mb) (ml_S0 mb) cpX12 8 (by decide) rfl rfl rfl tw_1259 dX12_compare_102 (fun H locs hw => ?_)
              obtain ⟨I_284, eI_284, hf⟩ := yb_let_ex hf
              have hw := yb_wI eI_284 hw
              refine lv_aload_n hx hb dX12_compare_105 rfl (lv_at hl 3 rfl) ?_
              refine lv_iload_n hx hb dX12_compare_106 rfl (lv_at hl 1 rfl) ?_
              obtain ⟨r_285, I_286, J_287, hq_288, hf⟩ := yb_b3_some hf
              refine x_calli X hK hw (c12_makes l D cz ev mb hq_288) (ml_mem0 mb) (ml_S0 mb) cpX12.1 vw_X12_194 ⟨Nat.le_of_ble_eq_true rfl, Nat.le_of_ble_eq_true rfl⟩ rfl rfl (Nat.le_of_ble_eq_true rfl) hl.1 ⟨Nat.le_refl _, Nat.le_refl _⟩ dX12_compare_107 (fun H locs hw => ?_)
              refine lv_if_ne (tgt := 115) hx hb dX12_compare_110 (by decide) (fun c_289 => ?_) (fun c_289 => ?_)
              · have hf := yb_neg c_289 hf
                refine lv_iload_n hx hb dX12_compare_115 rfl (lv_at hl 2 rfl) ?_
                refine lv_bipush (v := (60 : Int32)) hx hb dX12_compare_116 (by decide) ?_
                refine lv_icmp_ne (tgt := 133) hx hb dX12_compare_118 (by decide) (fun c_290 => ?_) (fun c_290 => ?_)
                · have hf := yb_neg c_290 hf
                  refine lv_iload_n hx hb dX12_compare_133 rfl (lv_at hl 2 rfl) ?_
                  refine lv_bipush (v := (61 : Int32)) hx hb dX12_compare_134 (by decide) ?_
                  refine lv_icmp_ne (tgt := 143) hx hb dX12_compare_136 (by decide) (fun c_291 => ?_) (fun c_291 => ?_)
                  · have hf := yb_neg c_291 hf
                    refine lv_iload_n hx hb dX12_compare_143 rfl (lv_at hl 0 rfl) ?_
                    refine lv_if_eq (tgt := 151) hx hb dX12_compare_144 (by decide) (fun c_292 => absurd c_292 (by decide)) (fun _ => ?_)
                    refine lv_iconst (v := (3 : Int32)) hx hb dX12_compare_147 (by decide) ?_
                    refine lv_goto (tgt := 152) hx hb dX12_compare_148 (by decide) ?_
                    refine lv_istore (lv' := [(4, .int (3 : Int32)), (3, .int (1 : Int32)), (2, .int x2_10), (1, .int r_6), (0, .ref mb)]) hx hb dX12_compare_152 hl (by decide) rfl (fun ls hl => ?_)
                    refine lv_aload_n hx hb dX12_compare_154 rfl (lv_at hl 4 rfl) ?_
                    obtain ⟨r_293, I_294, J_295, hq_296, hf⟩ := yb_b3_some hf
                    refine x_calli X hK hw (c12_sum l D cz ev mb hq_296) (ml_mem0 mb) (ml_S0 mb) cpX12.1 vw_X12_207 ⟨Nat.le_of_ble_eq_true rfl, Nat.le_of_ble_eq_true rfl⟩ rfl rfl (Nat.le_of_ble_eq_true rfl) hl.1 ⟨Nat.le_refl _, Nat.le_refl _⟩ dX12_compare_155 (fun H locs hw => ?_)
                    refine lv_if_ne (tgt := 163) hx hb dX12_compare_158 (by decide) (fun c_297 => ?_) (fun c_297 => ?_)
                    · have hf := yb_neg c_297 hf
                      refine lv_aload_n hx hb dX12_compare_163 rfl (lv_at hl 4 rfl) ?_
                      refine lv_bipush (v := (6 : Int32)) hx hb dX12_compare_164 (by decide) ?_
                      refine lv_iload hx hb dX12_compare_166 (lv_at hl 0 rfl) ?_
                      refine lv_iadd hx hb dX12_compare_168 ?_
                      refine lv_iconst (v := (0 : Int32)) hx hb dX12_compare_169 (by decide) ?_
                      obtain ⟨r_298, I_299, J_300, hq_301, hf⟩ := yb_b3_some hf
                      refine x_callv X hK hw (c12_puts l D cz ev mb hq_301) (ml_mem0 mb) (ml_S0 mb) cpX12.1 vw_X12_186 ⟨Nat.le_of_ble_eq_true rfl, Nat.le_of_ble_eq_true rfl⟩ rfl rfl (Nat.le_of_ble_eq_true rfl) hl.1 ⟨Nat.le_refl _, Nat.le_refl _⟩ dX12_compare_170 (fun H locs hw => ?_)
                      refine lv_iconst (v := (1 : Int32)) hx hb dX12_compare_173 (by decide) ?_
                      exact yb_retz hfin (by decide) hf hw dX12_compare_174
                    · have hf := yb_pos c_297 hf
                      refine lv_iconst (v := (0 : Int32)) hx hb dX12_compare_161 (by decide) ?_
                      exact yb_retz hfin (by decide) hf hw dX12_compare_162
                  · have hf := yb_pos c_291 hf
                    refine lv_iconst (v := (2 : Int32)) hx hb dX12_compare_139 (by decide) ?_
                    refine lv_goto (tgt := 152) hx hb dX12_compare_140 (by decide) ?_
                    refine lv_istore (lv' := [(4, .int (2 : Int32)), (3, .int (1 : Int32)), (2, .int x2_10), (1, .int r_6), (0, .ref mb)]) hx hb dX12_compare_152 hl (by decide) rfl (fun ls hl => ?_)
                    refine lv_aload_n hx hb dX12_compare_154 rfl (lv_at hl 4 rfl) ?_
                    obtain ⟨r_302, I_303, J_304, hq_305, hf⟩ := yb_b3_some hf
                    refine x_calli X hK hw (c12_sum l D cz ev mb hq_305) (ml_mem0 mb) (ml_S0 mb) cpX12.1 vw_X12_207 ⟨Nat.le_of_ble_eq_true rfl, Nat.le_of_ble_eq_true rfl⟩ rfl rfl (Nat.le_of_ble_eq_true rfl) hl.1 ⟨Nat.le_refl _, Nat.le_refl _⟩ dX12_compare_155 (fun H locs hw => ?_)
                    refine lv_if_ne (tgt := 163) hx hb dX12_compare_158 (by decide) (fun c_306 => ?_) (fun c_306 => ?_)
                    · have hf := yb_neg c_306 hf
                      refine lv_aload_n hx hb dX12_compare_163 rfl (lv_at hl 4 rfl) ?_
                      refine lv_bipush (v := (6 : Int32)) hx hb dX12_compare_164 (by decide) ?_
                      refine lv_iload hx hb dX12_compare_166 (lv_at hl 0 rfl) ?_
                      refine lv_iadd hx hb dX12_compare_168 ?_
                      refine lv_iconst (v := (0 : Int32)) hx hb dX12_compare_169 (by decide) ?_
                      obtain ⟨r_307, I_308, J_309, hq_310, hf⟩ := yb_b3_some hf
                      refine x_callv X hK hw (c12_puts l D cz ev mb hq_310) (ml_mem0 mb) (ml_S0 mb) cpX12.1 vw_X12_186 ⟨Nat.le_of_ble_eq_true rfl, Nat.le_of_ble_eq_true rfl⟩ rfl rfl (Nat.le_of_ble_eq_true rfl) hl.1 ⟨Nat.le_refl _, Nat.le_refl _⟩ dX12_compare_170 (fun H locs hw => ?_)
                      refine lv_iconst (v := (1 : Int32)) hx hb dX12_compare_173 (by decide) ?_
                      exact yb_retz hfin (by decide) hf hw dX12_compare_174
                    · have hf := yb_pos c_306 hf
                      refine lv_iconst (v := (0 : Int32)) hx hb dX12_compare_161 (by decide) ?_
                      exact yb_retz hfin (by decide) hf hw dX12_compare_162
                · have hf := yb_pos c_290 hf
                  refine lv_iload_n hx hb dX12_compare_121 rfl (lv_at hl 0 rfl) ?_
                  refine lv_if_eq (tgt := 129) hx hb dX12_compare_122 (by decide) (fun c_311 => absurd c_311 (by decide)) (fun _ => ?_)
                  refine lv_iconst (v := (1 : Int32)) hx hb dX12_compare_125 (by decide) ?_
                  refine lv_goto (tgt := 152) hx hb dX12_compare_126 (by decide) ?_
                  refine lv_istore (lv' := [(4, .int (1 : Int32)), (3, .int (1 : Int32)), (2, .int x2_10), (1, .int r_6), (0, .ref mb)]) hx hb dX12_compare_152 hl (by decide) rfl (fun ls hl => ?_)
                  refine lv_aload_n hx hb dX12_compare_154 rfl (lv_at hl 4 rfl) ?_
                  obtain ⟨r_312, I_313, J_314, hq_315, hf⟩ := yb_b3_some hf
                  refine x_calli X hK hw (c12_sum l D cz ev mb hq_315) (ml_mem0 mb) (ml_S0 mb) cpX12.1 vw_X12_207 ⟨Nat.le_of_ble_eq_true rfl, Nat.le_of_ble_eq_true rfl⟩ rfl rfl (Nat.le_of_ble_eq_true rfl) hl.1 ⟨Nat.le_refl _, Nat.le_refl _⟩ dX12_compare_155 (fun H locs hw => ?_)
                  refine lv_if_ne (tgt := 163) hx hb dX12_compare_158 (by decide) (fun c_316 => ?_) (fun c_316 => ?_)
                  · have hf := yb_neg c_316 hf
                    refine lv_aload_n hx hb dX12_compare_163 rfl (lv_at hl 4 rfl) ?_
                    refine lv_bipush (v := (6 : Int32)) hx hb dX12_compare_164 (by decide) ?_
                    refine lv_iload hx hb dX12_compare_166 (lv_at hl 0 rfl) ?_
                    refine lv_iadd hx hb dX12_compare_168 ?_
                    refine lv_iconst (v := (0 : Int32)) hx hb dX12_compare_169 (by decide) ?_
                    obtain ⟨r_317, I_318, J_319, hq_320, hf⟩ := yb_b3_some hf
                    refine x_callv X hK hw (c12_puts l D cz ev mb hq_320) (ml_mem0 mb) (ml_S0 mb) cpX12.1 vw_X12_186 ⟨Nat.le_of_ble_eq_true rfl, Nat.le_of_ble_eq_true rfl⟩ rfl rfl (Nat.le_of_ble_eq_true rfl) hl.1 ⟨Nat.le_refl _, Nat.le_refl _⟩ dX12_compare_170 (fun H locs hw => ?_)
                    refine lv_iconst (v := (1 : Int32)) hx hb dX12_compare_173 (by decide) ?_
                    exact yb_retz hfin (by decide) hf hw dX12_compare_174
                  · have hf := yb_pos c_316 hf
                    refine lv_iconst (v := (0 : Int32)) hx hb dX12_compare_161 (by decide) ?_
                    exact yb_retz hfin (by decide) hf hw dX12_compare_162
              · have hf := yb_pos c_289 hf
                refine lv_iconst (v := (0 : Int32)) hx hb dX12_compare_113 (by decide) ?_
                exact yb_retz hfin (by decide) hf hw dX12_compare_114
      · have hf := yb_neg c_166 hf
        refine lv_iload_n hx hb dX12_compare_31 rfl (lv_at hl 1 rfl) ?_
        refine lv_bipush (v := (62 : Int32)) hx hb dX12_compare_32 (by decide) ?_
        refine lv_icmp_eq (tgt := 44) hx hb dX12_compare_34 (by decide) (fun c_321 => ?_) (fun c_321 => ?_)
        · have hf := yb_pos c_321 hf
          refine lv_aload_n hx hb dX12_compare_44 rfl (lv_at hl 2 rfl) ?_
          refine lv_dup hx hb dX12_compare_45 rfl ?_
          refine x_getI X hK hw (ml_mem0 mb) (ml_S0 mb) cpX12 8 (by decide) rfl tw_1259 dX12_compare_46 ?_
          refine lv_iconst (v := (1 : Int32)) hx hb dX12_compare_49 (by decide) ?_
          refine lv_iadd hx hb dX12_compare_50 ?_
          refine x_putI X hK hw (ml_mem0 mb) (ml_S0 mb) cpX12 8 (by decide) rfl rfl rfl tw_1259 dX12_compare_51 (fun H locs hw => ?_)
          obtain ⟨I_322, eI_322, hf⟩ := yb_let_ex hf
          have hw := yb_wI eI_322 hw
          refine lv_iload_n hx hb dX12_compare_54 rfl (lv_at hl 1 rfl) ?_
          refine lv_bipush (v := (61 : Int32)) hx hb dX12_compare_55 (by decide) ?_
          refine lv_icmp_eq (tgt := 89) hx hb dX12_compare_57 (by decide) (fun c_323 => ?_) (fun c_323 => ?_)
          · have hf := yb_pos c_323 hf
            refine lv_iconst (v := (0 : Int32)) hx hb dX12_compare_89 (by decide) ?_
            refine lv_istore_n (lv' := [(3, .int (0 : Int32)), (2, .int x2_10), (1, .int r_6), (0, .ref mb)]) hx hb dX12_compare_90 rfl hl (by decide) rfl (fun ls hl => ?_)
            refine lv_iload_n hx hb dX12_compare_91 rfl (lv_at hl 0 rfl) ?_
            refine lv_if_eq (tgt := 105) hx hb dX12_compare_92 (by decide) (fun _ => ?_) (fun c_324 => absurd (by decide) c_324)
            refine lv_aload_n hx hb dX12_compare_105 rfl (lv_at hl 3 rfl) ?_
            refine lv_iload_n hx hb dX12_compare_106 rfl (lv_at hl 1 rfl) ?_
            obtain ⟨r_325, I_326, J_327, hq_328, hf⟩ := yb_b3_some hf
            refine x_calli X hK hw (c12_makes l D cz ev mb hq_328) (ml_mem0 mb) (ml_S0 mb) cpX12.1 vw_X12_194 ⟨Nat.le_of_ble_eq_true rfl, Nat.le_of_ble_eq_true rfl⟩ rfl rfl (Nat.le_of_ble_eq_true rfl) hl.1 ⟨Nat.le_refl _, Nat.le_refl _⟩ dX12_compare_107 (fun H locs hw => ?_)
            refine lv_if_ne (tgt := 115) hx hb dX12_compare_110 (by decide) (fun c_329 => ?_) (fun c_329 => ?_)
            · have hf := yb_neg c_329 hf
              refine lv_iload_n hx hb dX12_compare_115 rfl (lv_at hl 2 rfl) ?_
              refine lv_bipush (v := (60 : Int32)) hx hb dX12_compare_116 (by decide) ?_
              refine lv_icmp_ne (tgt := 133) hx hb dX12_compare_118 (by decide) (fun c_330 => ?_) (fun c_330 => ?_)
              · have hf := yb_neg c_330 hf
                refine lv_iload_n hx hb dX12_compare_133 rfl (lv_at hl 2 rfl) ?_
                refine lv_bipush (v := (61 : Int32)) hx hb dX12_compare_134 (by decide) ?_
                refine lv_icmp_ne (tgt := 143) hx hb dX12_compare_136 (by decide) (fun c_331 => ?_) (fun c_331 => ?_)
                · have hf := yb_neg c_331 hf
                  refine lv_iload_n hx hb dX12_compare_143 rfl (lv_at hl 0 rfl) ?_
                  refine lv_if_eq (tgt := 151) hx hb dX12_compare_144 (by decide) (fun _ => ?_) (fun c_332 => absurd (by decide) c_332)
                  refine lv_iconst (v := (4 : Int32)) hx hb dX12_compare_151 (by decide) ?_
                  refine lv_istore (lv' := [(4, .int (4 : Int32)), (3, .int (0 : Int32)), (2, .int x2_10), (1, .int r_6), (0, .ref mb)]) hx hb dX12_compare_152 hl (by decide) rfl (fun ls hl => ?_)
                  refine lv_aload_n hx hb dX12_compare_154 rfl (lv_at hl 4 rfl) ?_
                  obtain ⟨r_333, I_334, J_335, hq_336, hf⟩ := yb_b3_some hf
                  refine x_calli X hK hw (c12_sum l D cz ev mb hq_336) (ml_mem0 mb) (ml_S0 mb) cpX12.1 vw_X12_207 ⟨Nat.le_of_ble_eq_true rfl, Nat.le_of_ble_eq_true rfl⟩ rfl rfl (Nat.le_of_ble_eq_true rfl) hl.1 ⟨Nat.le_refl _, Nat.le_refl _⟩ dX12_compare_155 (fun H locs hw => ?_)
                  refine lv_if_ne (tgt := 163) hx hb dX12_compare_158 (by decide) (fun c_337 => ?_) (fun c_337 => ?_)
                  · have hf := yb_neg c_337 hf
                    refine lv_aload_n hx hb dX12_compare_163 rfl (lv_at hl 4 rfl) ?_
                    refine lv_bipush (v := (6 : Int32)) hx hb dX12_compare_164 (by decide) ?_
                    refine lv_iload hx hb dX12_compare_166 (lv_at hl 0 rfl) ?_
                    refine lv_iadd hx hb dX12_compare_168 ?_
                    refine lv_iconst (v := (0 : Int32)) hx hb dX12_compare_169 (by decide) ?_
                    obtain ⟨r_338, I_339, J_340, hq_341, hf⟩ := yb_b3_some hf
                    refine x_callv X hK hw (c12_puts l D cz ev mb hq_341) (ml_mem0 mb) (ml_S0 mb) cpX12.1 vw_X12_186 ⟨Nat.le_of_ble_eq_true rfl, Nat.le_of_ble_eq_true rfl⟩ rfl rfl (Nat.le_of_ble_eq_true rfl) hl.1 ⟨Nat.le_refl _, Nat.le_refl _⟩ dX12_compare_170 (fun H locs hw => ?_)
                    refine lv_iconst (v := (1 : Int32)) hx hb dX12_compare_173 (by decide) ?_
                    exact yb_retz hfin (by decide) hf hw dX12_compare_174
                  · have hf := yb_pos c_337 hf
                    refine lv_iconst (v := (0 : Int32)) hx hb dX12_compare_161 (by decide) ?_
                    exact yb_retz hfin (by decide) hf hw dX12_compare_162
                · have hf := yb_pos c_331 hf
                  refine lv_iconst (v := (2 : Int32)) hx hb dX12_compare_139 (by decide) ?_
                  refine lv_goto (tgt := 152) hx hb dX12_compare_140 (by decide) ?_
                  refine lv_istore (lv' := [(4, .int (2 : Int32)), (3, .int (0 : Int32)), (2, .int x2_10), (1, .int r_6), (0, .ref mb)]) hx hb dX12_compare_152 hl (by decide) rfl (fun ls hl => ?_)
                  refine lv_aload_n hx hb dX12_compare_154 rfl (lv_at hl 4 rfl) ?_
                  obtain ⟨r_342, I_343, J_344, hq_345, hf⟩ := yb_b3_some hf
                  refine x_calli X hK hw (c12_sum l D cz ev mb hq_345) (ml_mem0 mb) (ml_S0 mb) cpX12.1 vw_X12_207 ⟨Nat.le_of_ble_eq_true rfl, Nat.le_of_ble_eq_true rfl⟩ rfl rfl (Nat.le_of_ble_eq_true rfl) hl.1 ⟨Nat.le_refl _, Nat.le_refl _⟩ dX12_compare_155 (fun H locs hw => ?_)
                  refine lv_if_ne (tgt := 163) hx hb dX12_compare_158 (by decide) (fun c_346 => ?_) (fun c_346 => ?_)
                  · have hf := yb_neg c_346 hf
                    refine lv_aload_n hx hb dX12_compare_163 rfl (lv_at hl 4 rfl) ?_
                    refine lv_bipush (v := (6 : Int32)) hx hb dX12_compare_164 (by decide) ?_
                    refine lv_iload hx hb dX12_compare_166 (lv_at hl 0 rfl) ?_
                    refine lv_iadd hx hb dX12_compare_168 ?_
                    refine lv_iconst (v := (0 : Int32)) hx hb dX12_compare_169 (by decide) ?_
                    obtain ⟨r_347, I_348, J_349, hq_350, hf⟩ := yb_b3_some hf
                    refine x_callv X hK hw (c12_puts l D cz ev mb hq_350) (ml_mem0 mb) (ml_S0 mb) cpX12.1 vw_X12_186 ⟨Nat.le_of_ble_eq_true rfl, Nat.le_of_ble_eq_true rfl⟩ rfl rfl (Nat.le_of_ble_eq_true rfl) hl.1 ⟨Nat.le_refl _, Nat.le_refl _⟩ dX12_compare_170 (fun H locs hw => ?_)
                    refine lv_iconst (v := (1 : Int32)) hx hb dX12_compare_173 (by decide) ?_
                    exact yb_retz hfin (by decide) hf hw dX12_compare_174
                  · have hf := yb_pos c_346 hf
                    refine lv_iconst (v := (0 : Int32)) hx hb dX12_compare_161 (by decide) ?_
                    exact yb_retz hfin (by decide) hf hw dX12_compare_162
              · have hf := yb_pos c_330 hf
                refine lv_iload_n hx hb dX12_compare_121 rfl (lv_at hl 0 rfl) ?_
                refine lv_if_eq (tgt := 129) hx hb dX12_compare_122 (by decide) (fun _ => ?_) (fun c_351 => absurd (by decide) c_351)
                refine lv_iconst (v := (0 : Int32)) hx hb dX12_compare_129 (by decide) ?_
                refine lv_goto (tgt := 152) hx hb dX12_compare_130 (by decide) ?_
                refine lv_istore (lv' := [(4, .int (0 : Int32)), (3, .int (0 : Int32)), (2, .int x2_10), (1, .int r_6), (0, .ref mb)]) hx hb dX12_compare_152 hl (by decide) rfl (fun ls hl => ?_)
                refine lv_aload_n hx hb dX12_compare_154 rfl (lv_at hl 4 rfl) ?_
                obtain ⟨r_352, I_353, J_354, hq_355, hf⟩ := yb_b3_some hf
                refine x_calli X hK hw (c12_sum l D cz ev mb hq_355) (ml_mem0 mb) (ml_S0 mb) cpX12.1 vw_X12_207 ⟨Nat.le_of_ble_eq_true rfl, Nat.le_of_ble_eq_true rfl⟩ rfl rfl (Nat.le_of_ble_eq_true rfl) hl.1 ⟨Nat.le_refl _, Nat.le_refl _⟩ dX12_compare_155 (fun H locs hw => ?_)
                refine lv_if_ne (tgt := 163) hx hb dX12_compare_158 (by decide) (fun c_356 => ?_) (fun c_356 => ?_)
                · have hf := yb_neg c_356 hf
                  refine lv_aload_n hx hb dX12_compare_163 rfl (lv_at hl 4 rfl) ?_
                  refine lv_bipush (v := (6 : Int32)) hx hb dX12_compare_164 (by decide) ?_
                  refine lv_iload hx hb dX12_compare_166 (lv_at hl 0 rfl) ?_
                  refine lv_iadd hx hb dX12_compare_168 ?_
                  refine lv_iconst (v := (0 : Int32)) hx hb dX12_compare_169 (by decide) ?_
                  obtain ⟨r_357, I_358, J_359, hq_360, hf⟩ := yb_b3_some hf
                  refine x_callv X hK hw (c12_puts l D cz ev mb hq_360) (ml_mem0 mb) (ml_S0 mb) cpX12.1 vw_X12_186 ⟨Nat.le_of_ble_eq_true rfl, Nat.le_of_ble_eq_true rfl⟩ rfl rfl (Nat.le_of_ble_eq_true rfl) hl.1 ⟨Nat.le_refl _, Nat.le_refl _⟩ dX12_compare_170 (fun H locs hw => ?_)
                  refine lv_iconst (v := (1 : Int32)) hx hb dX12_compare_173 (by decide) ?_
                  exact yb_retz hfin (by decide) hf hw dX12_compare_174
                · have hf := yb_pos c_356 hf
                  refine lv_iconst (v := (0 : Int32)) hx hb dX12_compare_161 (by decide) ?_
                  exact yb_retz hfin (by decide) hf hw dX12_compare_162
            · have hf := yb_pos c_329 hf
              refine lv_iconst (v := (0 : Int32)) hx hb dX12_compare_113 (by decide) ?_
              exact yb_retz hfin (by decide) hf hw dX12_compare_114
          · have hf := yb_neg c_323 hf
            refine lv_aload_n hx hb dX12_compare_60 rfl (lv_at hl 2 rfl) ?_
            refine x_getI X hK hw (ml_mem0 mb) (ml_S0 mb) cpX12 8 (by decide) rfl tw_1259 dX12_compare_61 ?_
            refine lv_aload_n hx hb dX12_compare_64 rfl (lv_at hl 2 rfl) ?_
            refine x_getI X hK hw (ml_mem0 mb) (ml_S0 mb) cpX12 1 (by decide) rfl tw_1252 dX12_compare_65 ?_
            refine lv_icmp_ge (tgt := 89) hx hb dX12_compare_68 (by decide) (fun c_361 => ?_) (fun c_361 => ?_)
            · have hf := yb_pos c_361 hf
              refine lv_iconst (v := (0 : Int32)) hx hb dX12_compare_89 (by decide) ?_
              refine lv_istore_n (lv' := [(3, .int (0 : Int32)), (2, .int x2_10), (1, .int r_6), (0, .ref mb)]) hx hb dX12_compare_90 rfl hl (by decide) rfl (fun ls hl => ?_)
              refine lv_iload_n hx hb dX12_compare_91 rfl (lv_at hl 0 rfl) ?_
              refine lv_if_eq (tgt := 105) hx hb dX12_compare_92 (by decide) (fun _ => ?_) (fun c_362 => absurd (by decide) c_362)
              refine lv_aload_n hx hb dX12_compare_105 rfl (lv_at hl 3 rfl) ?_
              refine lv_iload_n hx hb dX12_compare_106 rfl (lv_at hl 1 rfl) ?_
              obtain ⟨r_363, I_364, J_365, hq_366, hf⟩ := yb_b3_some hf
              refine x_calli X hK hw (c12_makes l D cz ev mb hq_366) (ml_mem0 mb) (ml_S0 mb) cpX12.1 vw_X12_194 ⟨Nat.le_of_ble_eq_true rfl, Nat.le_of_ble_eq_true rfl⟩ rfl rfl (Nat.le_of_ble_eq_true rfl) hl.1 ⟨Nat.le_refl _, Nat.le_refl _⟩ dX12_compare_107 (fun H locs hw => ?_)
              refine lv_if_ne (tgt := 115) hx hb dX12_compare_110 (by decide) (fun c_367 => ?_) (fun c_367 => ?_)
              · have hf := yb_neg c_367 hf
                refine lv_iload_n hx hb dX12_compare_115 rfl (lv_at hl 2 rfl) ?_
                refine lv_bipush (v := (60 : Int32)) hx hb dX12_compare_116 (by decide) ?_
                refine lv_icmp_ne (tgt := 133) hx hb dX12_compare_118 (by decide) (fun c_368 => ?_) (fun c_368 => ?_)
                · have hf := yb_neg c_368 hf
                  refine lv_iload_n hx hb dX12_compare_133 rfl (lv_at hl 2 rfl) ?_
                  refine lv_bipush (v := (61 : Int32)) hx hb dX12_compare_134 (by decide) ?_
                  refine lv_icmp_ne (tgt := 143) hx hb dX12_compare_136 (by decide) (fun c_369 => ?_) (fun c_369 => ?_)
                  · have hf := yb_neg c_369 hf
                    refine lv_iload_n hx hb dX12_compare_143 rfl (lv_at hl 0 rfl) ?_
                    refine lv_if_eq (tgt := 151) hx hb dX12_compare_144 (by decide) (fun _ => ?_) (fun c_370 => absurd (by decide) c_370)
                    refine lv_iconst (v := (4 : Int32)) hx hb dX12_compare_151 (by decide) ?_
                    refine lv_istore (lv' := [(4, .int (4 : Int32)), (3, .int (0 : Int32)), (2, .int x2_10), (1, .int r_6), (0, .ref mb)]) hx hb dX12_compare_152 hl (by decide) rfl (fun ls hl => ?_)
                    refine lv_aload_n hx hb dX12_compare_154 rfl (lv_at hl 4 rfl) ?_
                    obtain ⟨r_371, I_372, J_373, hq_374, hf⟩ := yb_b3_some hf
                    refine x_calli X hK hw (c12_sum l D cz ev mb hq_374) (ml_mem0 mb) (ml_S0 mb) cpX12.1 vw_X12_207 ⟨Nat.le_of_ble_eq_true rfl, Nat.le_of_ble_eq_true rfl⟩ rfl rfl (Nat.le_of_ble_eq_true rfl) hl.1 ⟨Nat.le_refl _, Nat.le_refl _⟩ dX12_compare_155 (fun H locs hw => ?_)
                    refine lv_if_ne (tgt := 163) hx hb dX12_compare_158 (by decide) (fun c_375 => ?_) (fun c_375 => ?_)
                    · have hf := yb_neg c_375 hf
                      refine lv_aload_n hx hb dX12_compare_163 rfl (lv_at hl 4 rfl) ?_
                      refine lv_bipush (v := (6 : Int32)) hx hb dX12_compare_164 (by decide) ?_
                      refine lv_iload hx hb dX12_compare_166 (lv_at hl 0 rfl) ?_
                      refine lv_iadd hx hb dX12_compare_168 ?_
                      refine lv_iconst (v := (0 : Int32)) hx hb dX12_compare_169 (by decide) ?_
                      obtain ⟨r_376, I_377, J_378, hq_379, hf⟩ := yb_b3_some hf
                      refine x_callv X hK hw (c12_puts l D cz ev mb hq_379) (ml_mem0 mb) (ml_S0 mb) cpX12.1 vw_X12_186 ⟨Nat.le_of_ble_eq_true rfl, Nat.le_of_ble_eq_true rfl⟩ rfl rfl (Nat.le_of_ble_eq_true rfl) hl.1 ⟨Nat.le_refl _, Nat.le_refl _⟩ dX12_compare_170 (fun H locs hw => ?_)
                      refine lv_iconst (v := (1 : Int32)) hx hb dX12_compare_173 (by decide) ?_
                      exact yb_retz hfin (by decide) hf hw dX12_compare_174
                    · have hf := yb_pos c_375 hf
                      refine lv_iconst (v := (0 : Int32)) hx hb dX12_compare_161 (by decide) ?_
                      exact yb_retz hfin (by decide) hf hw dX12_compare_162
                  · have hf := yb_pos c_369 hf
                    refine lv_iconst (v := (2 : Int32)) hx hb dX12_compare_139 (by decide) ?_
                    refine lv_goto (tgt := 152) hx hb dX12_compare_140 (by decide) ?_
                    refine lv_istore (lv' := [(4, .int (2 : Int32)), (3, .int (0 : Int32)), (2, .int x2_10), (1, .int r_6), (0, .ref mb)]) hx hb dX12_compare_152 hl (by decide) rfl (fun ls hl => ?_)
                    refine lv_aload_n hx hb dX12_compare_154 rfl (lv_at hl 4 rfl) ?_
                    obtain ⟨r_380, I_381, J_382, hq_383, hf⟩ := yb_b3_some hf
                    refine x_calli X hK hw (c12_sum l D cz ev mb hq_383) (ml_mem0 mb) (ml_S0 mb) cpX12.1 vw_X12_207 ⟨Nat.le_of_ble_eq_true rfl, Nat.le_of_ble_eq_true rfl⟩ rfl rfl (Nat.le_of_ble_eq_true rfl) hl.1 ⟨Nat.le_refl _, Nat.le_refl _⟩ dX12_compare_155 (fun H locs hw => ?_)
                    refine lv_if_ne (tgt := 163) hx hb dX12_compare_158 (by decide) (fun c_384 => ?_) (fun c_384 => ?_)
                    · have hf := yb_neg c_384 hf
                      refine lv_aload_n hx hb dX12_compare_163 rfl (lv_at hl 4 rfl) ?_
                      refine lv_bipush (v := (6 : Int32)) hx hb dX12_compare_164 (by decide) ?_
                      refine lv_iload hx hb dX12_compare_166 (lv_at hl 0 rfl) ?_
                      refine lv_iadd hx hb dX12_compare_168 ?_
                      refine lv_iconst (v := (0 : Int32)) hx hb dX12_compare_169 (by decide) ?_
                      obtain ⟨r_385, I_386, J_387, hq_388, hf⟩ := yb_b3_some hf
                      refine x_callv X hK hw (c12_puts l D cz ev mb hq_388) (ml_mem0 mb) (ml_S0 mb) cpX12.1 vw_X12_186 ⟨Nat.le_of_ble_eq_true rfl, Nat.le_of_ble_eq_true rfl⟩ rfl rfl (Nat.le_of_ble_eq_true rfl) hl.1 ⟨Nat.le_refl _, Nat.le_refl _⟩ dX12_compare_170 (fun H locs hw => ?_)
                      refine lv_iconst (v := (1 : Int32)) hx hb dX12_compare_173 (by decide) ?_
                      exact yb_retz hfin (by decide) hf hw dX12_compare_174
                    · have hf := yb_pos c_384 hf
                      refine lv_iconst (v := (0 : Int32)) hx hb dX12_compare_161 (by decide) ?_
                      exact yb_retz hfin (by decide) hf hw dX12_compare_162
                · have hf := yb_pos c_368 hf
                  refine lv_iload_n hx hb dX12_compare_121 rfl (lv_at hl 0 rfl) ?_
                  refine lv_if_eq (tgt := 129) hx hb dX12_compare_122 (by decide) (fun _ => ?_) (fun c_389 => absurd (by decide) c_389)
                  refine lv_iconst (v := (0 : Int32)) hx hb dX12_compare_129 (by decide) ?_
                  refine lv_goto (tgt := 152) hx hb dX12_compare_130 (by decide) ?_
                  refine lv_istore (lv' := [(4, .int (0 : Int32)), (3, .int (0 : Int32)), (2, .int x2_10), (1, .int r_6), (0, .ref mb)]) hx hb dX12_compare_152 hl (by decide) rfl (fun ls hl => ?_)
                  refine lv_aload_n hx hb dX12_compare_154 rfl (lv_at hl 4 rfl) ?_
                  obtain ⟨r_390, I_391, J_392, hq_393, hf⟩ := yb_b3_some hf
                  refine x_calli X hK hw (c12_sum l D cz ev mb hq_393) (ml_mem0 mb) (ml_S0 mb) cpX12.1 vw_X12_207 ⟨Nat.le_of_ble_eq_true rfl, Nat.le_of_ble_eq_true rfl⟩ rfl rfl (Nat.le_of_ble_eq_true rfl) hl.1 ⟨Nat.le_refl _, Nat.le_refl _⟩ dX12_compare_155 (fun H locs hw => ?_)
                  refine lv_if_ne (tgt := 163) hx hb dX12_compare_158 (by decide) (fun c_394 => ?_) (fun c_394 => ?_)
                  · have hf := yb_neg c_394 hf
                    refine lv_aload_n hx hb dX12_compare_163 rfl (lv_at hl 4 rfl) ?_
                    refine lv_bipush (v := (6 : Int32)) hx hb dX12_compare_164 (by decide) ?_
                    refine lv_iload hx hb dX12_compare_166 (lv_at hl 0 rfl) ?_
                    refine lv_iadd hx hb dX12_compare_168 ?_
                    refine lv_iconst (v := (0 : Int32)) hx hb dX12_compare_169 (by decide) ?_
                    obtain ⟨r_395, I_396, J_397, hq_398, hf⟩ := yb_b3_some hf
                    refine x_callv X hK hw (c12_puts l D cz ev mb hq_398) (ml_mem0 mb) (ml_S0 mb) cpX12.1 vw_X12_186 ⟨Nat.le_of_ble_eq_true rfl, Nat.le_of_ble_eq_true rfl⟩ rfl rfl (Nat.le_of_ble_eq_true rfl) hl.1 ⟨Nat.le_refl _, Nat.le_refl _⟩ dX12_compare_170 (fun H locs hw => ?_)
                    refine lv_iconst (v := (1 : Int32)) hx hb dX12_compare_173 (by decide) ?_
                    exact yb_retz hfin (by decide) hf hw dX12_compare_174
                  · have hf := yb_pos c_394 hf
                    refine lv_iconst (v := (0 : Int32)) hx hb dX12_compare_161 (by decide) ?_
                    exact yb_retz hfin (by decide) hf hw dX12_compare_162
              · have hf := yb_pos c_367 hf
                refine lv_iconst (v := (0 : Int32)) hx hb dX12_compare_113 (by decide) ?_
                exact yb_retz hfin (by decide) hf hw dX12_compare_114
            · have hf := yb_neg c_361 hf
              refine lv_aload_n hx hb dX12_compare_71 rfl (lv_at hl 2 rfl) ?_
              refine x_getR X hK hw (ml_mem0 mb) (ml_S0 mb) cpX12 0 (by decide) rfl (ml_R mb 0 rfl) tw_1251 dX12_compare_72 ?_
              refine lv_aload_n hx hb dX12_compare_75 rfl (lv_at hl 2 rfl) ?_
              refine x_getI X hK hw (ml_mem0 mb) (ml_S0 mb) cpX12 8 (by decide) rfl tw_1259 dX12_compare_76 ?_
              obtain ⟨hi_399, hf⟩ := yb_ck_some hf
              refine x_bald X hK hw (ml_mem mb 1 (by decide)) (ml_S mb 1 rfl) hi_399 rfl dX12_compare_79 ?_
              refine lv_bipush (v := (61 : Int32)) hx hb dX12_compare_80 (by decide) ?_
              refine lv_icmp_ne (tgt := 89) hx hb dX12_compare_82 (by decide) (fun c_400 => ?_) (fun c_400 => ?_)
              · have hf := yb_neg c_400 hf
                refine lv_iconst (v := (0 : Int32)) hx hb dX12_compare_89 (by decide) ?_
                refine lv_istore_n (lv' := [(3, .int (0 : Int32)), (2, .int x2_10), (1, .int r_6), (0, .ref mb)]) hx hb dX12_compare_90 rfl hl (by decide) rfl (fun ls hl => ?_)
                refine lv_iload_n hx hb dX12_compare_91 rfl (lv_at hl 0 rfl) ?_
                refine lv_if_eq (tgt := 105) hx hb dX12_compare_92 (by decide) (fun _ => ?_) (fun c_401 => absurd (by decide) c_401)
                refine lv_aload_n hx hb dX12_compare_105 rfl (lv_at hl 3 rfl) ?_
                refine lv_iload_n hx hb dX12_compare_106 rfl (lv_at hl 1 rfl) ?_
                obtain ⟨r_402, I_403, J_404, hq_405, hf⟩ := yb_b3_some hf
                refine x_calli X hK hw (c12_makes l D cz ev mb hq_405) (ml_mem0 mb) (ml_S0 mb) cpX12.1 vw_X12_194 ⟨Nat.le_of_ble_eq_true rfl, Nat.le_of_ble_eq_true rfl⟩ rfl rfl (Nat.le_of_ble_eq_true rfl) hl.1 ⟨Nat.le_refl _, Nat.le_refl _⟩ dX12_compare_107 (fun H locs hw => ?_)
                refine lv_if_ne (tgt := 115) hx hb dX12_compare_110 (by decide) (fun c_406 => ?_) (fun c_406 => ?_)
                · have hf := yb_neg c_406 hf
                  refine lv_iload_n hx hb dX12_compare_115 rfl (lv_at hl 2 rfl) ?_
                  refine lv_bipush (v := (60 : Int32)) hx hb dX12_compare_116 (by decide) ?_
                  refine lv_icmp_ne (tgt := 133) hx hb dX12_compare_118 (by decide) (fun c_407 => ?_) (fun c_407 => ?_)
                  · have hf := yb_neg c_407 hf
                    refine lv_iload_n hx hb dX12_compare_133 rfl (lv_at hl 2 rfl) ?_
                    refine lv_bipush (v := (61 : Int32)) hx hb dX12_compare_134 (by decide) ?_
                    refine lv_icmp_ne (tgt := 143) hx hb dX12_compare_136 (by decide) (fun c_408 => ?_) (fun c_408 => ?_)
                    · have hf := yb_neg c_408 hf
                      refine lv_iload_n hx hb dX12_compare_143 rfl (lv_at hl 0 rfl) ?_
                      refine lv_if_eq (tgt := 151) hx hb dX12_compare_144 (by decide) (fun _ => ?_) (fun c_409 => absurd (by decide) c_409)
                      refine lv_iconst (v := (4 : Int32)) hx hb dX12_compare_151 (by decide) ?_
                      refine lv_istore (lv' := [(4, .int (4 : Int32)), (3, .int (0 : Int32)), (2, .int x2_10), (1, .int r_6), (0, .ref mb)]) hx hb dX12_compare_152 hl (by decide) rfl (fun ls hl => ?_)
                      refine lv_aload_n hx hb dX12_compare_154 rfl (lv_at hl 4 rfl) ?_
                      obtain ⟨r_410, I_411, J_412, hq_413, hf⟩ := yb_b3_some hf
                      refine x_calli X hK hw (c12_sum l D cz ev mb hq_413) (ml_mem0 mb) (ml_S0 mb) cpX12.1 vw_X12_207 ⟨Nat.le_of_ble_eq_true rfl, Nat.le_of_ble_eq_true rfl⟩ rfl rfl (Nat.le_of_ble_eq_true rfl) hl.1 ⟨Nat.le_refl _, Nat.le_refl _⟩ dX12_compare_155 (fun H locs hw => ?_)
                      refine lv_if_ne (tgt := 163) hx hb dX12_compare_158 (by decide) (fun c_414 => ?_) (fun c_414 => ?_)
                      · have hf := yb_neg c_414 hf
                        refine lv_aload_n hx hb dX12_compare_163 rfl (lv_at hl 4 rfl) ?_
                        refine lv_bipush (v := (6 : Int32)) hx hb dX12_compare_164 (by decide) ?_
                        refine lv_iload hx hb dX12_compare_166 (lv_at hl 0 rfl) ?_
                        refine lv_iadd hx hb dX12_compare_168 ?_
                        refine lv_iconst (v := (0 : Int32)) hx hb dX12_compare_169 (by decide) ?_
                        obtain ⟨r_415, I_416, J_417, hq_418, hf⟩ := yb_b3_some hf
                        refine x_callv X hK hw (c12_puts l D cz ev mb hq_418) (ml_mem0 mb) (ml_S0 mb) cpX12.1 vw_X12_186 ⟨Nat.le_of_ble_eq_true rfl, Nat.le_of_ble_eq_true rfl⟩ rfl rfl (Nat.le_of_ble_eq_true rfl) hl.1 ⟨Nat.le_refl _, Nat.le_refl _⟩ dX12_compare_170 (fun H locs hw => ?_)
                        refine lv_iconst (v := (1 : Int32)) hx hb dX12_compare_173 (by decide) ?_
                        exact yb_retz hfin (by decide) hf hw dX12_compare_174
                      · have hf := yb_pos c_414 hf
                        refine lv_iconst (v := (0 : Int32)) hx hb dX12_compare_161 (by decide) ?_
                        exact yb_retz hfin (by decide) hf hw dX12_compare_162
                    · have hf := yb_pos c_408 hf
                      refine lv_iconst (v := (2 : Int32)) hx hb dX12_compare_139 (by decide) ?_
                      refine lv_goto (tgt := 152) hx hb dX12_compare_140 (by decide) ?_
                      refine lv_istore (lv' := [(4, .int (2 : Int32)), (3, .int (0 : Int32)), (2, .int x2_10), (1, .int r_6), (0, .ref mb)]) hx hb dX12_compare_152 hl (by decide) rfl (fun ls hl => ?_)
                      refine lv_aload_n hx hb dX12_compare_154 rfl (lv_at hl 4 rfl) ?_
                      obtain ⟨r_419, I_420, J_421, hq_422, hf⟩ := yb_b3_some hf
                      refine x_calli X hK hw (c12_sum l D cz ev mb hq_422) (ml_mem0 mb) (ml_S0 mb) cpX12.1 vw_X12_207 ⟨Nat.le_of_ble_eq_true rfl, Nat.le_of_ble_eq_true rfl⟩ rfl rfl (Nat.le_of_ble_eq_true rfl) hl.1 ⟨Nat.le_refl _, Nat.le_refl _⟩ dX12_compare_155 (fun H locs hw => ?_)
                      refine lv_if_ne (tgt := 163) hx hb dX12_compare_158 (by decide) (fun c_423 => ?_) (fun c_423 => ?_)
                      · have hf := yb_neg c_423 hf
                        refine lv_aload_n hx hb dX12_compare_163 rfl (lv_at hl 4 rfl) ?_
                        refine lv_bipush (v := (6 : Int32)) hx hb dX12_compare_164 (by decide) ?_
                        refine lv_iload hx hb dX12_compare_166 (lv_at hl 0 rfl) ?_
                        refine lv_iadd hx hb dX12_compare_168 ?_
                        refine lv_iconst (v := (0 : Int32)) hx hb dX12_compare_169 (by decide) ?_
                        obtain ⟨r_424, I_425, J_426, hq_427, hf⟩ := yb_b3_some hf
                        refine x_callv X hK hw (c12_puts l D cz ev mb hq_427) (ml_mem0 mb) (ml_S0 mb) cpX12.1 vw_X12_186 ⟨Nat.le_of_ble_eq_true rfl, Nat.le_of_ble_eq_true rfl⟩ rfl rfl (Nat.le_of_ble_eq_true rfl) hl.1 ⟨Nat.le_refl _, Nat.le_refl _⟩ dX12_compare_170 (fun H locs hw => ?_)
                        refine lv_iconst (v := (1 : Int32)) hx hb dX12_compare_173 (by decide) ?_
                        exact yb_retz hfin (by decide) hf hw dX12_compare_174
                      · have hf := yb_pos c_423 hf
                        refine lv_iconst (v := (0 : Int32)) hx hb dX12_compare_161 (by decide) ?_
                        exact yb_retz hfin (by decide) hf hw dX12_compare_162
                  · have hf := yb_pos c_407 hf
                    refine lv_iload_n hx hb dX12_compare_121 rfl (lv_at hl 0 rfl) ?_
                    refine lv_if_eq (tgt := 129) hx hb dX12_compare_122 (by decide) (fun _ => ?_) (fun c_428 => absurd (by decide) c_428)
                    refine lv_iconst (v := (0 : Int32)) hx hb dX12_compare_129 (by decide) ?_
                    refine lv_goto (tgt := 152) hx hb dX12_compare_130 (by decide) ?_
                    refine lv_istore (lv' := [(4, .int (0 : Int32)), (3, .int (0 : Int32)), (2, .int x2_10), (1, .int r_6), (0, .ref mb)]) hx hb dX12_compare_152 hl (by decide) rfl (fun ls hl => ?_)
                    refine lv_aload_n hx hb dX12_compare_154 rfl (lv_at hl 4 rfl) ?_
                    obtain ⟨r_429, I_430, J_431, hq_432, hf⟩ := yb_b3_some hf
                    refine x_calli X hK hw (c12_sum l D cz ev mb hq_432) (ml_mem0 mb) (ml_S0 mb) cpX12.1 vw_X12_207 ⟨Nat.le_of_ble_eq_true rfl, Nat.le_of_ble_eq_true rfl⟩ rfl rfl (Nat.le_of_ble_eq_true rfl) hl.1 ⟨Nat.le_refl _, Nat.le_refl _⟩ dX12_compare_155 (fun H locs hw => ?_)
                    refine lv_if_ne (tgt := 163) hx hb dX12_compare_158 (by decide) (fun c_433 => ?_) (fun c_433 => ?_)
                    · have hf := yb_neg c_433 hf
                      refine lv_aload_n hx hb dX12_compare_163 rfl (lv_at hl 4 rfl) ?_
                      refine lv_bipush (v := (6 : Int32)) hx hb dX12_compare_164 (by decide) ?_
                      refine lv_iload hx hb dX12_compare_166 (lv_at hl 0 rfl) ?_
                      refine lv_iadd hx hb dX12_compare_168 ?_
                      refine lv_iconst (v := (0 : Int32)) hx hb dX12_compare_169 (by decide) ?_
                      obtain ⟨r_434, I_435, J_436, hq_437, hf⟩ := yb_b3_some hf
                      refine x_callv X hK hw (c12_puts l D cz ev mb hq_437) (ml_mem0 mb) (ml_S0 mb) cpX12.1 vw_X12_186 ⟨Nat.le_of_ble_eq_true rfl, Nat.le_of_ble_eq_true rfl⟩ rfl rfl (Nat.le_of_ble_eq_true rfl) hl.1 ⟨Nat.le_refl _, Nat.le_refl _⟩ dX12_compare_170 (fun H locs hw => ?_)
                      refine lv_iconst (v := (1 : Int32)) hx hb dX12_compare_173 (by decide) ?_
                      exact yb_retz hfin (by decide) hf hw dX12_compare_174
                    · have hf := yb_pos c_433 hf
                      refine lv_iconst (v := (0 : Int32)) hx hb dX12_compare_161 (by decide) ?_
                      exact yb_retz hfin (by decide) hf hw dX12_compare_162
                · have hf := yb_pos c_406 hf
                  refine lv_iconst (v := (0 : Int32)) hx hb dX12_compare_113 (by decide) ?_
                  exact yb_retz hfin (by decide) hf hw dX12_compare_114
              · have hf := yb_pos c_400 hf
                refine lv_iconst (v := (1 : Int32)) hx hb dX12_compare_85 (by decide) ?_
                refine lv_goto (tgt := 90) hx hb dX12_compare_86 (by decide) ?_
                refine lv_istore_n (lv' := [(3, .int (1 : Int32)), (2, .int x2_10), (1, .int r_6), (0, .ref mb)]) hx hb dX12_compare_90 rfl hl (by decide) rfl (fun ls hl => ?_)
                refine lv_iload_n hx hb dX12_compare_91 rfl (lv_at hl 0 rfl) ?_
                refine lv_if_eq (tgt := 105) hx hb dX12_compare_92 (by decide) (fun c_438 => absurd c_438 (by decide)) (fun _ => ?_)
                refine lv_aload_n hx hb dX12_compare_95 rfl (lv_at hl 3 rfl) ?_
                refine lv_dup hx hb dX12_compare_96 rfl ?_
                refine x_getI X hK hw (ml_mem0 mb) (ml_S0 mb) cpX12 8 (by decide) rfl tw_1259 dX12_compare_97 ?_
                refine lv_iconst (v := (1 : Int32)) hx hb dX12_compare_100 (by decide) ?_
                refine lv_iadd hx hb dX12_compare_101 ?_
                refine x_putI X hK hw (ml_mem0 mb) (ml_S0 mb) cpX12 8 (by decide) rfl rfl rfl tw_1259 dX12_compare_102 (fun H locs hw => ?_)
                obtain ⟨I_439, eI_439, hf⟩ := yb_let_ex hf
                have hw := yb_wI eI_439 hw
                refine lv_aload_n hx hb dX12_compare_105 rfl (lv_at hl 3 rfl) ?_
                refine lv_iload_n hx hb dX12_compare_106 rfl (lv_at hl 1 rfl) ?_
                obtain ⟨r_440, I_441, J_442, hq_443, hf⟩ := yb_b3_some hf
                refine x_calli X hK hw (c12_makes l D cz ev mb hq_443) (ml_mem0 mb) (ml_S0 mb) cpX12.1 vw_X12_194 ⟨Nat.le_of_ble_eq_true rfl, Nat.le_of_ble_eq_true rfl⟩ rfl rfl (Nat.le_of_ble_eq_true rfl) hl.1 ⟨Nat.le_refl _, Nat.le_refl _⟩ dX12_compare_107 (fun H locs hw => ?_)
                refine lv_if_ne (tgt := 115) hx hb dX12_compare_110 (by decide) (fun c_444 => ?_) (fun c_444 => ?_)
                · have hf := yb_neg c_444 hf
                  refine lv_iload_n hx hb dX12_compare_115 rfl (lv_at hl 2 rfl) ?_
                  refine lv_bipush (v := (60 : Int32)) hx hb dX12_compare_116 (by decide) ?_
                  refine lv_icmp_ne (tgt := 133) hx hb dX12_compare_118 (by decide) (fun c_445 => ?_) (fun c_445 => ?_)
                  · have hf := yb_neg c_445 hf
                    refine lv_iload_n hx hb dX12_compare_133 rfl (lv_at hl 2 rfl) ?_
                    refine lv_bipush (v := (61 : Int32)) hx hb dX12_compare_134 (by decide) ?_
                    refine lv_icmp_ne (tgt := 143) hx hb dX12_compare_136 (by decide) (fun c_446 => ?_) (fun c_446 => ?_)
                    · have hf := yb_neg c_446 hf
                      refine lv_iload_n hx hb dX12_compare_143 rfl (lv_at hl 0 rfl) ?_
                      refine lv_if_eq (tgt := 151) hx hb dX12_compare_144 (by decide) (fun c_447 => absurd c_447 (by decide)) (fun _ => ?_)
                      refine lv_iconst (v := (3 : Int32)) hx hb dX12_compare_147 (by decide) ?_
                      refine lv_goto (tgt := 152) hx hb dX12_compare_148 (by decide) ?_
                      refine lv_istore (lv' := [(4, .int (3 : Int32)), (3, .int (1 : Int32)), (2, .int x2_10), (1, .int r_6), (0, .ref mb)]) hx hb dX12_compare_152 hl (by decide) rfl (fun ls hl => ?_)
                      refine lv_aload_n hx hb dX12_compare_154 rfl (lv_at hl 4 rfl) ?_
                      obtain ⟨r_448, I_449, J_450, hq_451, hf⟩ := yb_b3_some hf
                      refine x_calli X hK hw (c12_sum l D cz ev mb hq_451) (ml_mem0 mb) (ml_S0 mb) cpX12.1 vw_X12_207 ⟨Nat.le_of_ble_eq_true rfl, Nat.le_of_ble_eq_true rfl⟩ rfl rfl (Nat.le_of_ble_eq_true rfl) hl.1 ⟨Nat.le_refl _, Nat.le_refl _⟩ dX12_compare_155 (fun H locs hw => ?_)
                      refine lv_if_ne (tgt := 163) hx hb dX12_compare_158 (by decide) (fun c_452 => ?_) (fun c_452 => ?_)
                      · have hf := yb_neg c_452 hf
                        refine lv_aload_n hx hb dX12_compare_163 rfl (lv_at hl 4 rfl) ?_
                        refine lv_bipush (v := (6 : Int32)) hx hb dX12_compare_164 (by decide) ?_
                        refine lv_iload hx hb dX12_compare_166 (lv_at hl 0 rfl) ?_
                        refine lv_iadd hx hb dX12_compare_168 ?_
                        refine lv_iconst (v := (0 : Int32)) hx hb dX12_compare_169 (by decide) ?_
                        obtain ⟨r_453, I_454, J_455, hq_456, hf⟩ := yb_b3_some hf
                        refine x_callv X hK hw (c12_puts l D cz ev mb hq_456) (ml_mem0 mb) (ml_S0 mb) cpX12.1 vw_X12_186 ⟨Nat.le_of_ble_eq_true rfl, Nat.le_of_ble_eq_true rfl⟩ rfl rfl (Nat.le_of_ble_eq_true rfl) hl.1 ⟨Nat.le_refl _, Nat.le_refl _⟩ dX12_compare_170 (fun H locs hw => ?_)
                        refine lv_iconst (v := (1 : Int32)) hx hb dX12_compare_173 (by decide) ?_
                        exact yb_retz hfin (by decide) hf hw dX12_compare_174
                      · have hf := yb_pos c_452 hf
                        refine lv_iconst (v := (0 : Int32)) hx hb dX12_compare_161 (by decide) ?_
                        exact yb_retz hfin (by decide) hf hw dX12_compare_162
                    · have hf := yb_pos c_446 hf
                      refine lv_iconst (v := (2 : Int32)) hx hb dX12_compare_139 (by decide) ?_
                      refine lv_goto (tgt := 152) hx hb dX12_compare_140 (by decide) ?_
                      refine lv_istore (lv' := [(4, .int (2 : Int32)), (3, .int (1 : Int32)), (2, .int x2_10), (1, .int r_6), (0, .ref mb)]) hx hb dX12_compare_152 hl (by decide) rfl (fun ls hl => ?_)
                      refine lv_aload_n hx hb dX12_compare_154 rfl (lv_at hl 4 rfl) ?_
                      obtain ⟨r_457, I_458, J_459, hq_460, hf⟩ := yb_b3_some hf
                      refine x_calli X hK hw (c12_sum l D cz ev mb hq_460) (ml_mem0 mb) (ml_S0 mb) cpX12.1 vw_X12_207 ⟨Nat.le_of_ble_eq_true rfl, Nat.le_of_ble_eq_true rfl⟩ rfl rfl (Nat.le_of_ble_eq_true rfl) hl.1 ⟨Nat.le_refl _, Nat.le_refl _⟩ dX12_compare_155 (fun H locs hw => ?_)
                      refine lv_if_ne (tgt := 163) hx hb dX12_compare_158 (by decide) (fun c_461 => ?_) (fun c_461 => ?_)
                      · have hf := yb_neg c_461 hf
                        refine lv_aload_n hx hb dX12_compare_163 rfl (lv_at hl 4 rfl) ?_
                        refine lv_bipush (v := (6 : Int32)) hx hb dX12_compare_164 (by decide) ?_
                        refine lv_iload hx hb dX12_compare_166 (lv_at hl 0 rfl) ?_
                        refine lv_iadd hx hb dX12_compare_168 ?_
                        refine lv_iconst (v := (0 : Int32)) hx hb dX12_compare_169 (by decide) ?_
                        obtain ⟨r_462, I_463, J_464, hq_465, hf⟩ := yb_b3_some hf
                        refine x_callv X hK hw (c12_puts l D cz ev mb hq_465) (ml_mem0 mb) (ml_S0 mb) cpX12.1 vw_X12_186 ⟨Nat.le_of_ble_eq_true rfl, Nat.le_of_ble_eq_true rfl⟩ rfl rfl (Nat.le_of_ble_eq_true rfl) hl.1 ⟨Nat.le_refl _, Nat.le_refl _⟩ dX12_compare_170 (fun H locs hw => ?_)
                        refine lv_iconst (v := (1 : Int32)) hx hb dX12_compare_173 (by decide) ?_
                        exact yb_retz hfin (by decide) hf hw dX12_compare_174
                      · have hf := yb_pos c_461 hf
                        refine lv_iconst (v := (0 : Int32)) hx hb dX12_compare_161 (by decide) ?_
                        exact yb_retz hfin (by decide) hf hw dX12_compare_162
                  · have hf := yb_pos c_445 hf
                    refine lv_iload_n hx hb dX12_compare_121 rfl (lv_at hl 0 rfl) ?_
                    refine lv_if_eq (tgt := 129) hx hb dX12_compare_122 (by decide) (fun c_466 => absurd c_466 (by decide)) (fun _ => ?_)
                    refine lv_iconst (v := (1 : Int32)) hx hb dX12_compare_125 (by decide) ?_
                    refine lv_goto (tgt := 152) hx hb dX12_compare_126 (by decide) ?_
                    refine lv_istore (lv' := [(4, .int (1 : Int32)), (3, .int (1 : Int32)), (2, .int x2_10), (1, .int r_6), (0, .ref mb)]) hx hb dX12_compare_152 hl (by decide) rfl (fun ls hl => ?_)
                    refine lv_aload_n hx hb dX12_compare_154 rfl (lv_at hl 4 rfl) ?_
                    obtain ⟨r_467, I_468, J_469, hq_470, hf⟩ := yb_b3_some hf
                    refine x_calli X hK hw (c12_sum l D cz ev mb hq_470) (ml_mem0 mb) (ml_S0 mb) cpX12.1 vw_X12_207 ⟨Nat.le_of_ble_eq_true rfl, Nat.le_of_ble_eq_true rfl⟩ rfl rfl (Nat.le_of_ble_eq_true rfl) hl.1 ⟨Nat.le_refl _, Nat.le_refl _⟩ dX12_compare_155 (fun H locs hw => ?_)
                    refine lv_if_ne (tgt := 163) hx hb dX12_compare_158 (by decide) (fun c_471 => ?_) (fun c_471 => ?_)
                    · have hf := yb_neg c_471 hf
                      refine lv_aload_n hx hb dX12_compare_163 rfl (lv_at hl 4 rfl) ?_
                      refine lv_bipush (v := (6 : Int32)) hx hb dX12_compare_164 (by decide) ?_
                      refine lv_iload hx hb dX12_compare_166 (lv_at hl 0 rfl) ?_
                      refine lv_iadd hx hb dX12_compare_168 ?_
                      refine lv_iconst (v := (0 : Int32)) hx hb dX12_compare_169 (by decide) ?_
                      obtain ⟨r_472, I_473, J_474, hq_475, hf⟩ := yb_b3_some hf
                      refine x_callv X hK hw (c12_puts l D cz ev mb hq_475) (ml_mem0 mb) (ml_S0 mb) cpX12.1 vw_X12_186 ⟨Nat.le_of_ble_eq_true rfl, Nat.le_of_ble_eq_true rfl⟩ rfl rfl (Nat.le_of_ble_eq_true rfl) hl.1 ⟨Nat.le_refl _, Nat.le_refl _⟩ dX12_compare_170 (fun H locs hw => ?_)
                      refine lv_iconst (v := (1 : Int32)) hx hb dX12_compare_173 (by decide) ?_
                      exact yb_retz hfin (by decide) hf hw dX12_compare_174
                    · have hf := yb_pos c_471 hf
                      refine lv_iconst (v := (0 : Int32)) hx hb dX12_compare_161 (by decide) ?_
                      exact yb_retz hfin (by decide) hf hw dX12_compare_162
                · have hf := yb_pos c_444 hf
                  refine lv_iconst (v := (0 : Int32)) hx hb dX12_compare_113 (by decide) ?_
                  exact yb_retz hfin (by decide) hf hw dX12_compare_114
        · have hf := yb_neg c_321 hf
          refine lv_aload_n hx hb dX12_compare_37 rfl (lv_at hl 2 rfl) ?_
          refine lv_iconst (v := (0 : Int32)) hx hb dX12_compare_38 (by decide) ?_
          refine lv_iload_n hx hb dX12_compare_39 rfl (lv_at hl 0 rfl) ?_
          obtain ⟨r_476, I_477, J_478, hq_479, hf⟩ := yb_b3_some hf
          refine x_calli X hK hw (c12_fails l D cz ev mb hq_479) (ml_mem0 mb) (ml_S0 mb) cpX12.1 vw_X12_135 ⟨Nat.le_of_ble_eq_true rfl, Nat.le_of_ble_eq_true rfl⟩ rfl rfl (Nat.le_of_ble_eq_true rfl) hl.1 ⟨Nat.le_refl _, Nat.le_refl _⟩ dX12_compare_40 (fun H locs hw => ?_)
          obtain ⟨hz_480, hf⟩ := yb_ck_some hf
          exact yb_retz hfin hz_480 hf hw dX12_compare_43
  · have hf := yb_pos c_5 hf
    refine lv_iconst (v := (0 : Int32)) hx hb dX12_compare_7 (by decide) ?_
    exact yb_retz hfin (by decide) hf hw dX12_compare_8
