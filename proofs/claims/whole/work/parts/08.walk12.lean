set_option maxHeartbeats 4000000 in
set_option maxRecDepth 100000 in
theorem w12_fact_L2 {p : Program} {l : Launch} {e : Env} {s : State} {m : MethodId} {args : Array Value} {below : List Frame} {meth : Method} {c : Code} {Q : State → Prop} {D : va_G} {cz : Nat → ClassId} {A : Nat → Prop} {ev : Nat × Nat × Nat} {mb : Nat} (X : CallFix p m c cX12_fact 3 s args gw RX12) (hK : KX D cz ev A s) {N : Nat} {rM : Int32} {IM : IT} {JM : JT} :
    ∀ (n : Nat) (x1 : Int32) (I : IT) (J : JT) (q : (Int32 ⊕ (Unit))) (I1 : IT) (J1 : JT) (H : Heap) (locs : List Loc) (ls : Array Slot), f12_fact_L2 N mb n x1 I J = some (q, I1, J1) → WX D cz A (mlL mb) (mlS mb) (mlR mb) s.heap I J H locs → lv_has ls 3 [(0, .ref mb), (1, .int x1)] →
    (∀ v, q = .inl v → some (v, I1, J1) = some (rM, IM, JM)) → (∀ (H : Heap) (locs : List Loc) (ls : Array Slot) (pc : Nat), bz rM = true → WX D cz A (mlL mb) (mlS mb) (mlR mb) s.heap IM JM H locs → decode cX12_fact pc = .ok (.ireturn, 1) → W p l e (rmX 7 154) s m args below meth c H locs 0 0 Q (F0 m pc ls [.int rM])) →
    (∀ xq, q = .inr xq → ∀ (H : Heap) (locs : List Loc) (ls : Array Slot), WX D cz A (mlL mb) (mlS mb) (mlR mb) s.heap I1 J1 H locs → lv_has ls 3 [(0, .ref mb)] → W p l e (rmX 7 154) s m args below meth c H locs 0 0 Q (F0 m 75 ls [])) →
    W p l e (rmX 7 154) s m args below meth c H locs 0 0 Q (F0 m 2 ls []) := by
  have hx := X.1
  have hb := X.2.1
  intro n
  induction n with
  | zero =>
    intro x1 I J q I1 J1 H locs ls hf
    rw [f12_fact_L2] at hf
    cases hf
  | succ n ih =>
    intro x1 I J q I1 J1 H locs ls hf hw hl hret hfin hexit
    rw [f12_fact_L2] at hf
    refine lv_iload_n hx hb dX12_fact_2 rfl (lv_at hl 1 rfl) ?_
    refine lv_if_eq (tgt := 75) hx hb dX12_fact_3 (by decide) (fun c_1 => ?_) (fun c_1 => ?_)
    · have hf := yb_pos c_1 hf
      obtain ⟨rfl, rfl, rfl⟩ := yb_inj hf
      exact hexit _ rfl _ _ _ hw (lv_sub hl [0] rfl)
    · have hf := yb_neg c_1 hf
      refine lv_iconst (v := (0 : Int32)) hx hb dX12_fact_6 (by decide) ?_
      refine lv_istore_n (lv' := [(1, .int (0 : Int32)), (0, .ref mb)]) hx hb dX12_fact_7 rfl hl (by decide) rfl (fun ls hl => ?_)
      refine lv_aload_n hx hb dX12_fact_8 rfl (lv_at hl 1 rfl) ?_
      obtain ⟨r_2, I_3, J_4, hq_5, hf⟩ := yb_b3_some hf
      refine x_calli X hK hw (c12_see l D cz ev mb hq_5) (ml_mem0 mb) (ml_S0 mb) cpX12.1 vw_X12_117 ⟨Nat.le_of_ble_eq_true rfl, Nat.le_of_ble_eq_true rfl⟩ rfl rfl (Nat.le_of_ble_eq_true rfl) hl.1 ⟨Nat.le_refl _, Nat.le_refl _⟩ dX12_fact_9 (fun H locs hw => ?_)
      refine lv_istore_n (lv' := [(2, .int r_2), (1, .int (0 : Int32)), (0, .ref mb)]) hx hb dX12_fact_12 rfl hl (by decide) rfl (fun ls hl => ?_)
      refine lv_aload_n hx hb dX12_fact_13 rfl (lv_at hl 2 rfl) ?_
      refine lv_ldc2 (v := (7237492 : Int64)) hx hb X.2.2.2.1 (X.2.2.2.2 _ tw_1544) dX12_fact_14 ?_
      obtain ⟨r_6, I_7, J_8, hq_9, hf⟩ := yb_b3_some hf
      refine x_calli X hK hw (c12_isWord l D cz ev mb hq_9) (ml_mem0 mb) (ml_S0 mb) cpX12.1 vw_X12_125 ⟨Nat.le_of_ble_eq_true rfl, Nat.le_of_ble_eq_true rfl⟩ rfl rfl (Nat.le_of_ble_eq_true rfl) hl.1 ⟨Nat.le_refl _, Nat.le_refl _⟩ dX12_fact_17 (fun H locs hw => ?_)
      refine lv_if_eq (tgt := 43) hx hb dX12_fact_20 (by decide) (fun c_10 => ?_) (fun c_10 => ?_)
      · have hf := yb_pos c_10 hf
        refine lv_iload_n hx hb dX12_fact_43 rfl (lv_at hl 0 rfl) ?_
        refine lv_bipush (v := (91 : Int32)) hx hb dX12_fact_44 (by decide) ?_
        refine lv_icmp_ne (tgt := 72) hx hb dX12_fact_46 (by decide) (fun c_11 => ?_) (fun c_11 => ?_)
        · have hf := yb_neg c_11 hf
          refine lv_goto (tgt := 2) hx hb dX12_fact_72 (by decide) ?_
          exact ih _ _ _ _ _ _ _ _ _ hf hw (lv_sub hl [2, 1] rfl) hret hfin hexit
        · have hf := yb_pos c_11 hf
          refine lv_aload_n hx hb dX12_fact_49 rfl (lv_at hl 2 rfl) ?_
          refine lv_bipush (v := (91 : Int32)) hx hb dX12_fact_50 (by decide) ?_
          obtain ⟨r_12, I_13, J_14, hq_15, hf⟩ := yb_b3_some hf
          refine x_calli X hK hw (c12_opens l D cz ev mb hq_15) (ml_mem0 mb) (ml_S0 mb) cpX12.1 vw_X12_212 ⟨Nat.le_of_ble_eq_true rfl, Nat.le_of_ble_eq_true rfl⟩ rfl rfl (Nat.le_of_ble_eq_true rfl) hl.1 ⟨Nat.le_refl _, Nat.le_refl _⟩ dX12_fact_52 (fun H locs hw => ?_)
          refine lv_if_ne (tgt := 60) hx hb dX12_fact_55 (by decide) (fun c_16 => ?_) (fun c_16 => ?_)
          · have hf := yb_neg c_16 hf
            refine lv_aload_n hx hb dX12_fact_60 rfl (lv_at hl 2 rfl) ?_
            refine lv_dup hx hb dX12_fact_61 rfl ?_
            refine x_getI X hK hw (ml_mem0 mb) (ml_S0 mb) cpX12 8 (by decide) rfl tw_1259 dX12_fact_62 ?_
            refine lv_iconst (v := (1 : Int32)) hx hb dX12_fact_65 (by decide) ?_
            refine lv_iadd hx hb dX12_fact_66 ?_
            refine x_putI X hK hw (ml_mem0 mb) (ml_S0 mb) cpX12 8 (by decide) rfl rfl rfl tw_1259 dX12_fact_67 (fun H locs hw => ?_)
            obtain ⟨I_17, eI_17, hf⟩ := yb_let_ex hf
            have hw := yb_wI eI_17 hw
            refine lv_iconst (v := (1 : Int32)) hx hb dX12_fact_70 (by decide) ?_
            refine lv_istore_n (lv' := [(1, .int (1 : Int32)), (2, .int r_2), (0, .ref mb)]) hx hb dX12_fact_71 rfl hl (by decide) rfl (fun ls hl => ?_)
            refine lv_goto (tgt := 2) hx hb dX12_fact_72 (by decide) ?_
            exact ih _ _ _ _ _ _ _ _ _ hf hw (lv_sub hl [2, 0] rfl) hret hfin hexit
          · have hf := yb_pos c_16 hf
            refine lv_iconst (v := (0 : Int32)) hx hb dX12_fact_58 (by decide) ?_
            exact yb_retz hfin (by decide) (yb_inl hret hf) hw dX12_fact_59
      · have hf := yb_neg c_10 hf
        refine lv_aload_n hx hb dX12_fact_23 rfl (lv_at hl 2 rfl) ?_
        refine lv_bipush (v := (11 : Int32)) hx hb dX12_fact_24 (by decide) ?_
        obtain ⟨r_18, I_19, J_20, hq_21, hf⟩ := yb_b3_some hf
        refine x_calli X hK hw (c12_opens l D cz ev mb hq_21) (ml_mem0 mb) (ml_S0 mb) cpX12.1 vw_X12_212 ⟨Nat.le_of_ble_eq_true rfl, Nat.le_of_ble_eq_true rfl⟩ rfl rfl (Nat.le_of_ble_eq_true rfl) hl.1 ⟨Nat.le_refl _, Nat.le_refl _⟩ dX12_fact_26 (fun H locs hw => ?_)
        refine lv_if_ne (tgt := 34) hx hb dX12_fact_29 (by decide) (fun c_22 => ?_) (fun c_22 => ?_)
        · have hf := yb_neg c_22 hf
          refine lv_aload_n hx hb dX12_fact_34 rfl (lv_at hl 2 rfl) ?_
          obtain ⟨r_23, I_24, J_25, hq_26, hf⟩ := yb_b3_some hf
          refine x_callv X hK hw (c12_passWord l D cz ev mb hq_26) (ml_mem0 mb) (ml_S0 mb) cpX12.1 vw_X12_129 ⟨Nat.le_of_ble_eq_true rfl, Nat.le_of_ble_eq_true rfl⟩ rfl rfl (Nat.le_of_ble_eq_true rfl) hl.1 ⟨Nat.le_refl _, Nat.le_refl _⟩ dX12_fact_35 (fun H locs hw => ?_)
          refine lv_iconst (v := (1 : Int32)) hx hb dX12_fact_38 (by decide) ?_
          refine lv_istore_n (lv' := [(1, .int (1 : Int32)), (2, .int r_2), (0, .ref mb)]) hx hb dX12_fact_39 rfl hl (by decide) rfl (fun ls hl => ?_)
          refine lv_goto (tgt := 72) hx hb dX12_fact_40 (by decide) ?_
          refine lv_goto (tgt := 2) hx hb dX12_fact_72 (by decide) ?_
          exact ih _ _ _ _ _ _ _ _ _ hf hw (lv_sub hl [2, 0] rfl) hret hfin hexit
        · have hf := yb_pos c_22 hf
          refine lv_iconst (v := (0 : Int32)) hx hb dX12_fact_32 (by decide) ?_
          exact yb_retz hfin (by decide) (yb_inl hret hf) hw dX12_fact_33
set_option maxHeartbeats 4000000 in
set_option maxRecDepth 100000 in
theorem c12_fact (l : Launch) (D : va_G) (cz : Nat → ClassId) (ev : Nat × Nat × Nat) (mb : Nat) {N : Nat} {I : IT} {J : JT} {r : Int32} {I1 : IT} {J1 : JT} (hf : f12_fact N mb I J = some (r, I1, J1)) : MTi l D cz ev yX12_fact cX12_fact 3 (some .boolean) 7 154 [.ref mb] (mlL mb) (mlS mb) (mlR mb) I J r I1 J1 := by
  unfold f12_fact at hf
  refine MTz_of (by decide) (Nat.le_of_ble_eq_true rfl) ?_
  intro p e s m args below meth c Q ls X hK hw hl hfin
  have X : CallFix p m c cX12_fact 3 s args gw RX12 := X
  have hx := X.1
  have hb := X.2.1
  have hl : lv_has ls 3 [(0, .ref mb)] := hl
  refine lv_iconst (v := (1 : Int32)) hx hb dX12_fact_0 (by decide) ?_
  refine lv_istore_n (lv' := [(1, .int (1 : Int32)), (0, .ref mb)]) hx hb dX12_fact_1 rfl hl (by decide) rfl (fun ls hl => ?_)
  obtain ⟨q_27, I_28, J_29, hq_30, hf⟩ := yb_b3_some hf
  refine w12_fact_L2 X hK _ _ _ _ _ _ _ _ _ _ hq_30 hw (lv_sub hl [1, 0] rfl) (fun v hv => by rw [hv] at hf; exact hf) hfin (fun x_32 hx1 H locs ls hw hl => ?_)
  rw [hx1] at hf
  have hf := yb_sm_r hf
  refine lv_aload_n hx hb dX12_fact_75 rfl (lv_at hl 0 rfl) ?_
  obtain ⟨r_33, I_34, J_35, hq_36, hf⟩ := yb_b3_some hf
  refine x_calli X hK hw (c12_compare l D cz ev mb hq_36) (ml_mem0 mb) (ml_S0 mb) cpX12.1 vw_X12_215 ⟨Nat.le_of_ble_eq_true rfl, Nat.le_of_ble_eq_true rfl⟩ rfl rfl (Nat.le_of_ble_eq_true rfl) hl.1 ⟨Nat.le_refl _, Nat.le_refl _⟩ dX12_fact_76 (fun H locs hw => ?_)
  obtain ⟨hz_37, hf⟩ := yb_ck_some hf
  exact yb_retz hfin hz_37 hf hw dX12_fact_79
set_option maxHeartbeats 4000000 in
set_option maxRecDepth 100000 in
theorem w12_isInside_L2 {p : Program} {l : Launch} {e : Env} {s : State} {m : MethodId} {args : Array Value} {below : List Frame} {meth : Method} {c : Code} {Q : State → Prop} {D : va_G} {cz : Nat → ClassId} {A : Nat → Prop} {ev : Nat × Nat × Nat} {mb : Nat} (X : CallFix p m c cX12_isInside 2 s args gw RX12) (hK : KX D cz ev A s) {N : Nat} {rM : Int32} {IM : IT} {JM : JT} :
    ∀ (n : Nat) (x1 : Int32) (I : IT) (J : JT) (q : (Int32 ⊕ (Unit))) (I1 : IT) (J1 : JT) (H : Heap) (locs : List Loc) (ls : Array Slot), f12_isInside_L2 N mb n x1 I J = some (q, I1, J1) → WX D cz A (mlL mb) (mlS mb) (mlR mb) s.heap I J H locs → lv_has ls 2 [(0, .ref mb), (1, .int x1)] →
    (∀ v, q = .inl v → some (v, I1, J1) = some (rM, IM, JM)) → (∀ (H : Heap) (locs : List Loc) (ls : Array Slot) (pc : Nat), bz rM = true → WX D cz A (mlL mb) (mlS mb) (mlR mb) s.heap IM JM H locs → decode cX12_isInside pc = .ok (.ireturn, 1) → W p l e (rmX 0 0) s m args below meth c H locs 0 0 Q (F0 m pc ls [.int rM])) →
    (∀ xq, q = .inr xq → ∀ (H : Heap) (locs : List Loc) (ls : Array Slot), WX D cz A (mlL mb) (mlS mb) (mlR mb) s.heap I1 J1 H locs → lv_has ls 2 [] → W p l e (rmX 0 0) s m args below meth c H locs 0 0 Q (F0 m 29 ls [])) →
    W p l e (rmX 0 0) s m args below meth c H locs 0 0 Q (F0 m 2 ls []) := by
  have hx := X.1
  have hb := X.2.1
  intro n
  induction n with
  | zero =>
    intro x1 I J q I1 J1 H locs ls hf
    rw [f12_isInside_L2] at hf
    cases hf
  | succ n ih =>
    intro x1 I J q I1 J1 H locs ls hf hw hl hret hfin hexit
    rw [f12_isInside_L2] at hf
    refine lv_iload_n hx hb dX12_isInside_2 rfl (lv_at hl 1 rfl) ?_
    refine lv_aload_n hx hb dX12_isInside_3 rfl (lv_at hl 0 rfl) ?_
    refine x_getI X hK hw (ml_mem0 mb) (ml_S0 mb) cpX12 16 (by decide) rfl tw_1267 dX12_isInside_4 ?_
    refine lv_icmp_ge (tgt := 29) hx hb dX12_isInside_7 (by decide) (fun c_1 => ?_) (fun c_1 => ?_)
    · have hf := yb_pos c_1 hf
      obtain ⟨rfl, rfl, rfl⟩ := yb_inj hf
      exact hexit _ rfl _ _ _ hw (lv_sub hl [] rfl)
    · have hf := yb_neg c_1 hf
      refine lv_aload_n hx hb dX12_isInside_10 rfl (lv_at hl 0 rfl) ?_
      refine x_getR X hK hw (ml_mem0 mb) (ml_S0 mb) cpX12 15 (by decide) rfl (ml_R mb 15 rfl) tw_1266 dX12_isInside_11 ?_
      refine lv_iload_n hx hb dX12_isInside_14 rfl (lv_at hl 1 rfl) ?_
      obtain ⟨hi_2, hf⟩ := yb_ck_some hf
      refine x_iald X hK hw (ml_mem mb 7 (by decide)) (ml_S mb 7 rfl) hi_2 rfl dX12_isInside_15 ?_
      refine lv_bipush (v := (91 : Int32)) hx hb dX12_isInside_16 (by decide) ?_
      refine lv_icmp_ne (tgt := 23) hx hb dX12_isInside_18 (by decide) (fun c_3 => ?_) (fun c_3 => ?_)
      · have hf := yb_neg c_3 hf
        obtain ⟨x1_4, ex1_4, hf⟩ := yb_let_ex hf
        refine lv_iinc (v := x1_4) (lv' := [(1, .int x1_4), (0, .ref mb)]) hx hb dX12_isInside_23 hl (k := 1) rfl (by rw [ex1_4]; rfl) (by decide) rfl (fun ls hl => ?_)
        refine lv_goto (tgt := 2) hx hb dX12_isInside_26 (by decide) ?_
        exact ih _ _ _ _ _ _ _ _ _ hf hw (lv_sub hl [1, 0] rfl) hret hfin hexit
      · have hf := yb_pos c_3 hf
        refine lv_iconst (v := (1 : Int32)) hx hb dX12_isInside_21 (by decide) ?_
        exact yb_retz hfin (by decide) (yb_inl hret hf) hw dX12_isInside_22
set_option maxHeartbeats 4000000 in
set_option maxRecDepth 100000 in
theorem c12_isInside (l : Launch) (D : va_G) (cz : Nat → ClassId) (ev : Nat × Nat × Nat) (mb : Nat) {N : Nat} {I : IT} {J : JT} {r : Int32} {I1 : IT} {J1 : JT} (hf : f12_isInside N mb I J = some (r, I1, J1)) : MTi l D cz ev yX12_isInside cX12_isInside 2 (some .boolean) 0 0 [.ref mb] (mlL mb) (mlS mb) (mlR mb) I J r I1 J1 := by
  unfold f12_isInside at hf
  refine MTz_of (by decide) (Nat.le_of_ble_eq_true rfl) ?_
  intro p e s m args below meth c Q ls X hK hw hl hfin
  have X : CallFix p m c cX12_isInside 2 s args gw RX12 := X
  have hx := X.1
  have hb := X.2.1
  have hl : lv_has ls 2 [(0, .ref mb)] := hl
  refine lv_iconst (v := (0 : Int32)) hx hb dX12_isInside_0 (by decide) ?_
  refine lv_istore_n (lv' := [(1, .int (0 : Int32)), (0, .ref mb)]) hx hb dX12_isInside_1 rfl hl (by decide) rfl (fun ls hl => ?_)
  obtain ⟨q_5, I_6, J_7, hq_8, hf⟩ := yb_b3_some hf
  refine w12_isInside_L2 X hK _ _ _ _ _ _ _ _ _ _ hq_8 hw (lv_sub hl [1, 0] rfl) (fun v hv => by rw [hv] at hf; exact hf) hfin (fun x_10 hx1 H locs ls hw hl => ?_)
  rw [hx1] at hf
  have hf := yb_sm_r hf
  refine lv_iconst (v := (0 : Int32)) hx hb dX12_isInside_29 (by decide) ?_
  exact yb_retz hfin (by decide) hf hw dX12_isInside_30
set_option maxHeartbeats 4000000 in
set_option maxRecDepth 100000 in
theorem w12_closes_L5 {p : Program} {l : Launch} {e : Env} {s : State} {m : MethodId} {args : Array Value} {below : List Frame} {meth : Method} {c : Code} {Q : State → Prop} {D : va_G} {cz : Nat → ClassId} {A : Nat → Prop} {ev : Nat × Nat × Nat} {mb : Nat} (X : CallFix p m c cX12_closes 1 s args gw RX12) (hK : KX D cz ev A s) {N : Nat} :
    ∀ (n : Nat) (I : IT) (J : JT) (q : (Unit)) (I1 : IT) (J1 : JT) (H : Heap) (locs : List Loc) (ls : Array Slot), f12_closes_L5 N mb n I J = some (q, I1, J1) → WX D cz A (mlL mb) (mlS mb) (mlR mb) s.heap I J H locs → lv_has ls 1 [(0, .ref mb)] →
    (∀ (H : Heap) (locs : List Loc) (ls : Array Slot), WX D cz A (mlL mb) (mlS mb) (mlR mb) s.heap I1 J1 H locs → lv_has ls 1 [] → W p l e (rmX 2 43) s m args below meth c H locs 0 0 Q (F0 m 64 ls [])) →
    W p l e (rmX 2 43) s m args below meth c H locs 0 0 Q (F0 m 5 ls []) := by
  have hx := X.1
  have hb := X.2.1
  intro n
  induction n with
  | zero =>
    intro  I J q I1 J1 H locs ls hf
    rw [f12_closes_L5] at hf
    cases hf
  | succ n ih =>
    intro  I J q I1 J1 H locs ls hf hw hl hexit
    rw [f12_closes_L5] at hf
    refine lv_aload_n hx hb dX12_closes_5 rfl (lv_at hl 0 rfl) ?_
    obtain ⟨r_5, I_6, J_7, hq_8, hf⟩ := yb_b3_some hf
    refine x_calli X hK hw (c12_see l D cz ev mb hq_8) (ml_mem0 mb) (ml_S0 mb) cpX12.1 vw_X12_117 ⟨Nat.le_of_ble_eq_true rfl, Nat.le_of_ble_eq_true rfl⟩ rfl rfl (Nat.le_of_ble_eq_true rfl) hl.1 ⟨Nat.le_refl _, Nat.le_refl _⟩ dX12_closes_6 (fun H locs hw => ?_)
    refine lv_bipush (v := (93 : Int32)) hx hb dX12_closes_9 (by decide) ?_
    refine lv_icmp_ne (tgt := 64) hx hb dX12_closes_11 (by decide) (fun c_9 => ?_) (fun c_9 => ?_)
    · have hf := yb_neg c_9 hf
      obtain ⟨rfl, rfl, rfl⟩ := yb_inj hf
      exact hexit _ _ _ hw (lv_sub hl [] rfl)
    · have hf := yb_pos c_9 hf
      refine lv_aload_n hx hb dX12_closes_14 rfl (lv_at hl 0 rfl) ?_
      obtain ⟨r_10, I_11, J_12, hq_13, hf⟩ := yb_b3_some hf
      refine x_calli X hK hw (c12_isInside l D cz ev mb hq_13) (ml_mem0 mb) (ml_S0 mb) cpX12.1 vw_X12_221 ⟨Nat.le_of_ble_eq_true rfl, Nat.le_of_ble_eq_true rfl⟩ rfl rfl (Nat.le_of_ble_eq_true rfl) hl.1 ⟨Nat.le_refl _, Nat.le_refl _⟩ dX12_closes_15 (fun H locs hw => ?_)
      refine lv_if_eq (tgt := 64) hx hb dX12_closes_18 (by decide) (fun c_14 => ?_) (fun c_14 => ?_)
      · have hf := yb_pos c_14 hf
        obtain ⟨rfl, rfl, rfl⟩ := yb_inj hf
        exact hexit _ _ _ hw (lv_sub hl [] rfl)
      · have hf := yb_neg c_14 hf
        refine lv_aload_n hx hb dX12_closes_21 rfl (lv_at hl 0 rfl) ?_
        refine lv_iconst (v := (1 : Int32)) hx hb dX12_closes_22 (by decide) ?_
        obtain ⟨r_15, I_16, J_17, hq_18, hf⟩ := yb_b3_some hf
        refine x_callv X hK hw (c12_settles l D cz ev mb hq_18) (ml_mem0 mb) (ml_S0 mb) cpX12.1 vw_X12_218 ⟨Nat.le_of_ble_eq_true rfl, Nat.le_of_ble_eq_true rfl⟩ rfl rfl (Nat.le_of_ble_eq_true rfl) hl.1 ⟨Nat.le_refl _, Nat.le_refl _⟩ dX12_closes_23 (fun H locs hw => ?_)
        refine lv_aload_n hx hb dX12_closes_26 rfl (lv_at hl 0 rfl) ?_
        refine lv_dup hx hb dX12_closes_27 rfl ?_
        refine x_getI X hK hw (ml_mem0 mb) (ml_S0 mb) cpX12 16 (by decide) rfl tw_1267 dX12_closes_28 ?_
        refine lv_iconst (v := (1 : Int32)) hx hb dX12_closes_31 (by decide) ?_
        refine lv_isub hx hb dX12_closes_32 ?_
        refine x_putI X hK hw (ml_mem0 mb) (ml_S0 mb) cpX12 16 (by decide) rfl rfl rfl tw_1267 dX12_closes_33 (fun H locs hw => ?_)
        obtain ⟨I_19, eI_19, hf⟩ := yb_let_ex hf
        have hw := yb_wI eI_19 hw
        refine lv_aload_n hx hb dX12_closes_36 rfl (lv_at hl 0 rfl) ?_
        refine lv_dup hx hb dX12_closes_37 rfl ?_
        refine x_getI X hK hw (ml_mem0 mb) (ml_S0 mb) cpX12 13 (by decide) rfl tw_1264 dX12_closes_38 ?_
        refine lv_iconst (v := (1 : Int32)) hx hb dX12_closes_41 (by decide) ?_
        refine lv_isub hx hb dX12_closes_42 ?_
        refine x_putI X hK hw (ml_mem0 mb) (ml_S0 mb) cpX12 13 (by decide) rfl rfl rfl tw_1264 dX12_closes_43 (fun H locs hw => ?_)
        obtain ⟨I_20, eI_20, hf⟩ := yb_let_ex hf
        have hw := yb_wI eI_20 hw
        refine lv_aload_n hx hb dX12_closes_46 rfl (lv_at hl 0 rfl) ?_
        refine lv_dup hx hb dX12_closes_47 rfl ?_
        refine x_getI X hK hw (ml_mem0 mb) (ml_S0 mb) cpX12 8 (by decide) rfl tw_1259 dX12_closes_48 ?_
        refine lv_iconst (v := (1 : Int32)) hx hb dX12_closes_51 (by decide) ?_
        refine lv_iadd hx hb dX12_closes_52 ?_
        refine x_putI X hK hw (ml_mem0 mb) (ml_S0 mb) cpX12 8 (by decide) rfl rfl rfl tw_1259 dX12_closes_53 (fun H locs hw => ?_)
        obtain ⟨I_21, eI_21, hf⟩ := yb_let_ex hf
        have hw := yb_wI eI_21 hw
        refine lv_aload_n hx hb dX12_closes_56 rfl (lv_at hl 0 rfl) ?_
        refine lv_iconst (v := (3 : Int32)) hx hb dX12_closes_57 (by decide) ?_
        obtain ⟨r_22, I_23, J_24, hq_25, hf⟩ := yb_b3_some hf
        refine x_callv X hK hw (c12_settles l D cz ev mb hq_25) (ml_mem0 mb) (ml_S0 mb) cpX12.1 vw_X12_218 ⟨Nat.le_of_ble_eq_true rfl, Nat.le_of_ble_eq_true rfl⟩ rfl rfl (Nat.le_of_ble_eq_true rfl) hl.1 ⟨Nat.le_refl _, Nat.le_refl _⟩ dX12_closes_58 (fun H locs hw => ?_)
        refine lv_goto (tgt := 5) hx hb dX12_closes_61 (by decide) ?_
        exact ih  _ _ _ _ _ _ _ _ hf hw (lv_sub hl [0] rfl) hexit
set_option maxHeartbeats 4000000 in
set_option maxRecDepth 100000 in
theorem c12_closes (l : Launch) (D : va_G) (cz : Nat → ClassId) (ev : Nat × Nat × Nat) (mb : Nat) {N : Nat} {I : IT} {J : JT} {r : Unit} {I1 : IT} {J1 : JT} (hf : f12_closes N mb I J = some (r, I1, J1)) : MTv l D cz ev yX12_closes cX12_closes 1 (none) 2 43 [.ref mb] (mlL mb) (mlS mb) (mlR mb) I J r I1 J1 := by
  unfold f12_closes at hf
  refine MTv_of (by decide) (Nat.le_of_ble_eq_true rfl) ?_
  intro p e s m args below meth c Q ls X hK hw hl hfin
  have X : CallFix p m c cX12_closes 1 s args gw RX12 := X
  have hx := X.1
  have hb := X.2.1
  have hl : lv_has ls 1 [(0, .ref mb)] := hl
  refine lv_aload_n hx hb dX12_closes_0 rfl (lv_at hl 0 rfl) ?_
  refine lv_iconst (v := (3 : Int32)) hx hb dX12_closes_1 (by decide) ?_
  obtain ⟨r_1, I_2, J_3, hq_4, hf⟩ := yb_b3_some hf
  refine x_callv X hK hw (c12_settles l D cz ev mb hq_4) (ml_mem0 mb) (ml_S0 mb) cpX12.1 vw_X12_218 ⟨Nat.le_of_ble_eq_true rfl, Nat.le_of_ble_eq_true rfl⟩ rfl rfl (Nat.le_of_ble_eq_true rfl) hl.1 ⟨Nat.le_refl _, Nat.le_refl _⟩ dX12_closes_2 (fun H locs hw => ?_)
  obtain ⟨q_26, I_27, J_28, hq_29, hf⟩ := yb_b3_some hf
  refine w12_closes_L5 X hK _  _ _ _ _ _ _ _ _ hq_29 hw (lv_sub hl [0] rfl) (fun H locs ls hw hl => ?_)
  exact yb_retv hfin hf hw dX12_closes_64
set_option maxHeartbeats 4000000 in
set_option maxRecDepth 100000 in
theorem w12_tested_L12 {p : Program} {l : Launch} {e : Env} {s : State} {m : MethodId} {args : Array Value} {below : List Frame} {meth : Method} {c : Code} {Q : State → Prop} {D : va_G} {cz : Nat → ClassId} {A : Nat → Prop} {ev : Nat × Nat × Nat} {mb : Nat} (X : CallFix p m c cX12_tested 3 s args gw RX12) (hK : KX D cz ev A s) {N : Nat} {rM : Int32} {IM : IT} {JM : JT} :
    ∀ (n : Nat) (x1 : Int32) (I : IT) (J : JT) (q : (Int32 ⊕ (Unit))) (I1 : IT) (J1 : JT) (H : Heap) (locs : List Loc) (ls : Array Slot), f12_tested_L12 N mb n x1 I J = some (q, I1, J1) → WX D cz A (mlL mb) (mlS mb) (mlR mb) s.heap I J H locs → lv_has ls 3 [(0, .ref mb), (1, .int x1)] →
    (∀ v, q = .inl v → some (v, I1, J1) = some (rM, IM, JM)) → (∀ (H : Heap) (locs : List Loc) (ls : Array Slot) (pc : Nat), bz rM = true → WX D cz A (mlL mb) (mlS mb) (mlR mb) s.heap IM JM H locs → decode cX12_tested pc = .ok (.ireturn, 1) → W p l e (rmX 8 176) s m args below meth c H locs 0 0 Q (F0 m pc ls [.int rM])) →
    (∀ xq, q = .inr xq → ∀ (H : Heap) (locs : List Loc) (ls : Array Slot), WX D cz A (mlL mb) (mlS mb) (mlR mb) s.heap I1 J1 H locs → lv_has ls 3 [(0, .ref mb)] → W p l e (rmX 8 176) s m args below meth c H locs 0 0 Q (F0 m 112 ls [])) →
    W p l e (rmX 8 176) s m args below meth c H locs 0 0 Q (F0 m 12 ls []) := by
  have hx := X.1
  have hb := X.2.1
  intro n
  induction n with
  | zero =>
    intro x1 I J q I1 J1 H locs ls hf
    rw [f12_tested_L12] at hf
    cases hf
  | succ n ih =>
    intro x1 I J q I1 J1 H locs ls hf hw hl hret hfin hexit
    rw [f12_tested_L12] at hf
    refine lv_iload_n hx hb dX12_tested_12 rfl (lv_at hl 1 rfl) ?_
    refine lv_if_eq (tgt := 112) hx hb dX12_tested_13 (by decide) (fun c_3 => ?_) (fun c_3 => ?_)
    · have hf := yb_pos c_3 hf
      obtain ⟨rfl, rfl, rfl⟩ := yb_inj hf
      exact hexit _ rfl _ _ _ hw (lv_sub hl [0] rfl)
    · have hf := yb_neg c_3 hf
      refine lv_aload_n hx hb dX12_tested_16 rfl (lv_at hl 0 rfl) ?_
      obtain ⟨r_4, I_5, J_6, hq_7, hf⟩ := yb_b3_some hf
      refine x_calli X hK hw (c12_fact l D cz ev mb hq_7) (ml_mem0 mb) (ml_S0 mb) cpX12.1 vw_X12_224 ⟨Nat.le_of_ble_eq_true rfl, Nat.le_of_ble_eq_true rfl⟩ rfl rfl (Nat.le_of_ble_eq_true rfl) hl.1 ⟨Nat.le_refl _, Nat.le_refl _⟩ dX12_tested_17 (fun H locs hw => ?_)
      refine lv_if_ne (tgt := 25) hx hb dX12_tested_20 (by decide) (fun c_8 => ?_) (fun c_8 => ?_)
      · have hf := yb_neg c_8 hf
        refine lv_aload_n hx hb dX12_tested_25 rfl (lv_at hl 0 rfl) ?_
        obtain ⟨r_9, I_10, J_11, hq_12, hf⟩ := yb_b3_some hf
        refine x_callv X hK hw (c12_closes l D cz ev mb hq_12) (ml_mem0 mb) (ml_S0 mb) cpX12.1 vw_X12_227 ⟨Nat.le_of_ble_eq_true rfl, Nat.le_of_ble_eq_true rfl⟩ rfl rfl (Nat.le_of_ble_eq_true rfl) hl.1 ⟨Nat.le_refl _, Nat.le_refl _⟩ dX12_tested_26 (fun H locs hw => ?_)
        refine lv_aload_n hx hb dX12_tested_29 rfl (lv_at hl 0 rfl) ?_
        refine lv_ldc2 (v := (6385252 : Int64)) hx hb X.2.2.2.1 (X.2.2.2.2 _ tw_1568) dX12_tested_30 ?_
        obtain ⟨r_13, I_14, J_15, hq_16, hf⟩ := yb_b3_some hf
        refine x_calli X hK hw (c12_isWord l D cz ev mb hq_16) (ml_mem0 mb) (ml_S0 mb) cpX12.1 vw_X12_125 ⟨Nat.le_of_ble_eq_true rfl, Nat.le_of_ble_eq_true rfl⟩ rfl rfl (Nat.le_of_ble_eq_true rfl) hl.1 ⟨Nat.le_refl _, Nat.le_refl _⟩ dX12_tested_33 (fun H locs hw => ?_)
        refine lv_if_ne (tgt := 49) hx hb dX12_tested_36 (by decide) (fun c_17 => ?_) (fun c_17 => ?_)
        · have hf := yb_neg c_17 hf
          refine lv_iconst (v := (1 : Int32)) hx hb dX12_tested_49 (by decide) ?_
          refine lv_goto (tgt := 54) hx hb dX12_tested_50 (by decide) ?_
          refine lv_istore_n (lv' := [(1, .int (1 : Int32)), (0, .ref mb)]) hx hb dX12_tested_54 rfl hl (by decide) rfl (fun ls hl => ?_)
          refine lv_iload_n hx hb dX12_tested_55 rfl (lv_at hl 0 rfl) ?_
          refine lv_if_eq (tgt := 12) hx hb dX12_tested_56 (by decide) (fun c_18 => absurd c_18 (by decide)) (fun _ => ?_)
          refine lv_aload_n hx hb dX12_tested_59 rfl (lv_at hl 1 rfl) ?_
          refine lv_ldc2 (v := (6385252 : Int64)) hx hb X.2.2.2.1 (X.2.2.2.2 _ tw_1568) dX12_tested_60 ?_
          obtain ⟨r_19, I_20, J_21, hq_22, hf⟩ := yb_b3_some hf
          refine x_calli X hK hw (c12_isWord l D cz ev mb hq_22) (ml_mem0 mb) (ml_S0 mb) cpX12.1 vw_X12_125 ⟨Nat.le_of_ble_eq_true rfl, Nat.le_of_ble_eq_true rfl⟩ rfl rfl (Nat.le_of_ble_eq_true rfl) hl.1 ⟨Nat.le_refl _, Nat.le_refl _⟩ dX12_tested_63 (fun H locs hw => ?_)
          refine lv_if_eq (tgt := 74) hx hb dX12_tested_66 (by decide) (fun c_23 => ?_) (fun c_23 => ?_)
          · have hf := yb_pos c_23 hf
            refine lv_bipush (v := (13 : Int32)) hx hb dX12_tested_74 (by decide) ?_
            refine lv_istore_n (lv' := [(2, .int (13 : Int32)), (1, .int (1 : Int32)), (0, .ref mb)]) hx hb dX12_tested_76 rfl hl (by decide) rfl (fun ls hl => ?_)
            refine lv_aload_n hx hb dX12_tested_77 rfl (lv_at hl 2 rfl) ?_
            obtain ⟨r_24, I_25, J_26, hq_27, hf⟩ := yb_b3_some hf
            refine x_callv X hK hw (c12_passWord l D cz ev mb hq_27) (ml_mem0 mb) (ml_S0 mb) cpX12.1 vw_X12_129 ⟨Nat.le_of_ble_eq_true rfl, Nat.le_of_ble_eq_true rfl⟩ rfl rfl (Nat.le_of_ble_eq_true rfl) hl.1 ⟨Nat.le_refl _, Nat.le_refl _⟩ dX12_tested_78 (fun H locs hw => ?_)
            refine lv_aload_n hx hb dX12_tested_81 rfl (lv_at hl 2 rfl) ?_
            refine lv_iload_n hx hb dX12_tested_82 rfl (lv_at hl 0 rfl) ?_
            obtain ⟨r_28, I_29, J_30, hq_31, hf⟩ := yb_b3_some hf
            refine x_callsi X hK hw (c12_strength l D cz ev mb hq_31) sw_X12_182 ⟨Nat.le_of_ble_eq_true rfl, Nat.le_of_ble_eq_true rfl⟩ rfl rfl (Nat.le_of_ble_eq_true rfl) hl.1 ⟨Nat.le_refl _, Nat.le_refl _⟩ dX12_tested_83 (fun H locs hw => ?_)
            obtain ⟨r_32, I_33, J_34, hq_35, hf⟩ := yb_b3_some hf
            refine x_callv X hK hw (c12_settles l D cz ev mb hq_35) (ml_mem0 mb) (ml_S0 mb) cpX12.1 vw_X12_218 ⟨Nat.le_of_ble_eq_true rfl, Nat.le_of_ble_eq_true rfl⟩ rfl rfl (Nat.le_of_ble_eq_true rfl) hl.1 ⟨Nat.le_refl _, Nat.le_refl _⟩ dX12_tested_86 (fun H locs hw => ?_)
            refine lv_aload_n hx hb dX12_tested_89 rfl (lv_at hl 2 rfl) ?_
            refine x_getR X hK hw (ml_mem0 mb) (ml_S0 mb) cpX12 15 (by decide) rfl (ml_R mb 15 rfl) tw_1266 dX12_tested_90 ?_
            refine lv_aload_n hx hb dX12_tested_93 rfl (lv_at hl 2 rfl) ?_
            refine x_getI X hK hw (ml_mem0 mb) (ml_S0 mb) cpX12 16 (by decide) rfl tw_1267 dX12_tested_94 ?_
            refine lv_iload_n hx hb dX12_tested_97 rfl (lv_at hl 0 rfl) ?_
            obtain ⟨hi_36, hf⟩ := yb_ck_some hf
            refine x_iast X hK hw (ml_mem mb 7 (by decide)) (ml_S mb 7 rfl) hi_36 rfl dX12_tested_98 (fun H locs hw => ?_)
            obtain ⟨I_37, eI_37, hf⟩ := yb_let_ex hf
            have hw := yb_wI eI_37 hw
            refine lv_aload_n hx hb dX12_tested_99 rfl (lv_at hl 2 rfl) ?_
            refine lv_dup hx hb dX12_tested_100 rfl ?_
            refine x_getI X hK hw (ml_mem0 mb) (ml_S0 mb) cpX12 16 (by decide) rfl tw_1267 dX12_tested_101 ?_
            refine lv_iconst (v := (1 : Int32)) hx hb dX12_tested_104 (by decide) ?_
            refine lv_iadd hx hb dX12_tested_105 ?_
            refine x_putI X hK hw (ml_mem0 mb) (ml_S0 mb) cpX12 16 (by decide) rfl rfl rfl tw_1267 dX12_tested_106 (fun H locs hw => ?_)
            obtain ⟨I_38, eI_38, hf⟩ := yb_let_ex hf
            have hw := yb_wI eI_38 hw
            refine lv_goto (tgt := 12) hx hb dX12_tested_109 (by decide) ?_
            exact ih _ _ _ _ _ _ _ _ _ hf hw (lv_sub hl [2, 1] rfl) hret hfin hexit
          · have hf := yb_neg c_23 hf
            refine lv_bipush (v := (12 : Int32)) hx hb dX12_tested_69 (by decide) ?_
            refine lv_goto (tgt := 76) hx hb dX12_tested_71 (by decide) ?_
            refine lv_istore_n (lv' := [(2, .int (12 : Int32)), (1, .int (1 : Int32)), (0, .ref mb)]) hx hb dX12_tested_76 rfl hl (by decide) rfl (fun ls hl => ?_)
            refine lv_aload_n hx hb dX12_tested_77 rfl (lv_at hl 2 rfl) ?_
            obtain ⟨r_39, I_40, J_41, hq_42, hf⟩ := yb_b3_some hf
            refine x_callv X hK hw (c12_passWord l D cz ev mb hq_42) (ml_mem0 mb) (ml_S0 mb) cpX12.1 vw_X12_129 ⟨Nat.le_of_ble_eq_true rfl, Nat.le_of_ble_eq_true rfl⟩ rfl rfl (Nat.le_of_ble_eq_true rfl) hl.1 ⟨Nat.le_refl _, Nat.le_refl _⟩ dX12_tested_78 (fun H locs hw => ?_)
            refine lv_aload_n hx hb dX12_tested_81 rfl (lv_at hl 2 rfl) ?_
            refine lv_iload_n hx hb dX12_tested_82 rfl (lv_at hl 0 rfl) ?_
            obtain ⟨r_43, I_44, J_45, hq_46, hf⟩ := yb_b3_some hf
            refine x_callsi X hK hw (c12_strength l D cz ev mb hq_46) sw_X12_182 ⟨Nat.le_of_ble_eq_true rfl, Nat.le_of_ble_eq_true rfl⟩ rfl rfl (Nat.le_of_ble_eq_true rfl) hl.1 ⟨Nat.le_refl _, Nat.le_refl _⟩ dX12_tested_83 (fun H locs hw => ?_)
            obtain ⟨r_47, I_48, J_49, hq_50, hf⟩ := yb_b3_some hf
            refine x_callv X hK hw (c12_settles l D cz ev mb hq_50) (ml_mem0 mb) (ml_S0 mb) cpX12.1 vw_X12_218 ⟨Nat.le_of_ble_eq_true rfl, Nat.le_of_ble_eq_true rfl⟩ rfl rfl (Nat.le_of_ble_eq_true rfl) hl.1 ⟨Nat.le_refl _, Nat.le_refl _⟩ dX12_tested_86 (fun H locs hw => ?_)
            refine lv_aload_n hx hb dX12_tested_89 rfl (lv_at hl 2 rfl) ?_
            refine x_getR X hK hw (ml_mem0 mb) (ml_S0 mb) cpX12 15 (by decide) rfl (ml_R mb 15 rfl) tw_1266 dX12_tested_90 ?_
            refine lv_aload_n hx hb dX12_tested_93 rfl (lv_at hl 2 rfl) ?_
            refine x_getI X hK hw (ml_mem0 mb) (ml_S0 mb) cpX12 16 (by decide) rfl tw_1267 dX12_tested_94 ?_
            refine lv_iload_n hx hb dX12_tested_97 rfl (lv_at hl 0 rfl) ?_
            obtain ⟨hi_51, hf⟩ := yb_ck_some hf
            refine x_iast X hK hw (ml_mem mb 7 (by decide)) (ml_S mb 7 rfl) hi_51 rfl dX12_tested_98 (fun H locs hw => ?_)
            obtain ⟨I_52, eI_52, hf⟩ := yb_let_ex hf
            have hw := yb_wI eI_52 hw
            refine lv_aload_n hx hb dX12_tested_99 rfl (lv_at hl 2 rfl) ?_
            refine lv_dup hx hb dX12_tested_100 rfl ?_
            refine x_getI X hK hw (ml_mem0 mb) (ml_S0 mb) cpX12 16 (by decide) rfl tw_1267 dX12_tested_101 ?_
            refine lv_iconst (v := (1 : Int32)) hx hb dX12_tested_104 (by decide) ?_
            refine lv_iadd hx hb dX12_tested_105 ?_
            refine x_putI X hK hw (ml_mem0 mb) (ml_S0 mb) cpX12 16 (by decide) rfl rfl rfl tw_1267 dX12_tested_106 (fun H locs hw => ?_)
            obtain ⟨I_53, eI_53, hf⟩ := yb_let_ex hf
            have hw := yb_wI eI_53 hw
            refine lv_goto (tgt := 12) hx hb dX12_tested_109 (by decide) ?_
            exact ih _ _ _ _ _ _ _ _ _ hf hw (lv_sub hl [2, 1] rfl) hret hfin hexit
        · have hf := yb_pos c_17 hf
          refine lv_aload_n hx hb dX12_tested_39 rfl (lv_at hl 0 rfl) ?_
          refine lv_ldc2 (v := (28530 : Int64)) hx hb X.2.2.2.1 (X.2.2.2.2 _ tw_1569) dX12_tested_40 ?_
          obtain ⟨r_54, I_55, J_56, hq_57, hf⟩ := yb_b3_some hf
          refine x_calli X hK hw (c12_isWord l D cz ev mb hq_57) (ml_mem0 mb) (ml_S0 mb) cpX12.1 vw_X12_125 ⟨Nat.le_of_ble_eq_true rfl, Nat.le_of_ble_eq_true rfl⟩ rfl rfl (Nat.le_of_ble_eq_true rfl) hl.1 ⟨Nat.le_refl _, Nat.le_refl _⟩ dX12_tested_43 (fun H locs hw => ?_)
          refine lv_if_eq (tgt := 53) hx hb dX12_tested_46 (by decide) (fun c_58 => ?_) (fun c_58 => ?_)
          · have hf := yb_pos c_58 hf
            refine lv_iconst (v := (0 : Int32)) hx hb dX12_tested_53 (by decide) ?_
            refine lv_istore_n (lv' := [(1, .int (0 : Int32)), (0, .ref mb)]) hx hb dX12_tested_54 rfl hl (by decide) rfl (fun ls hl => ?_)
            refine lv_iload_n hx hb dX12_tested_55 rfl (lv_at hl 0 rfl) ?_
            refine lv_if_eq (tgt := 12) hx hb dX12_tested_56 (by decide) (fun _ => ?_) (fun c_59 => absurd (by decide) c_59)
            exact ih _ _ _ _ _ _ _ _ _ hf hw (lv_sub hl [1, 0] rfl) hret hfin hexit
          · have hf := yb_neg c_58 hf
            refine lv_iconst (v := (1 : Int32)) hx hb dX12_tested_49 (by decide) ?_
            refine lv_goto (tgt := 54) hx hb dX12_tested_50 (by decide) ?_
            refine lv_istore_n (lv' := [(1, .int (1 : Int32)), (0, .ref mb)]) hx hb dX12_tested_54 rfl hl (by decide) rfl (fun ls hl => ?_)
            refine lv_iload_n hx hb dX12_tested_55 rfl (lv_at hl 0 rfl) ?_
            refine lv_if_eq (tgt := 12) hx hb dX12_tested_56 (by decide) (fun c_60 => absurd c_60 (by decide)) (fun _ => ?_)
            refine lv_aload_n hx hb dX12_tested_59 rfl (lv_at hl 1 rfl) ?_
            refine lv_ldc2 (v := (6385252 : Int64)) hx hb X.2.2.2.1 (X.2.2.2.2 _ tw_1568) dX12_tested_60 ?_
            obtain ⟨r_61, I_62, J_63, hq_64, hf⟩ := yb_b3_some hf
            refine x_calli X hK hw (c12_isWord l D cz ev mb hq_64) (ml_mem0 mb) (ml_S0 mb) cpX12.1 vw_X12_125 ⟨Nat.le_of_ble_eq_true rfl, Nat.le_of_ble_eq_true rfl⟩ rfl rfl (Nat.le_of_ble_eq_true rfl) hl.1 ⟨Nat.le_refl _, Nat.le_refl _⟩ dX12_tested_63 (fun H locs hw => ?_)
            refine lv_if_eq (tgt := 74) hx hb dX12_tested_66 (by decide) (fun c_65 => ?_) (fun c_65 => ?_)
            · have hf := yb_pos c_65 hf
              refine lv_bipush (v := (13 : Int32)) hx hb dX12_tested_74 (by decide) ?_
              refine lv_istore_n (lv' := [(2, .int (13 : Int32)), (1, .int (1 : Int32)), (0, .ref mb)]) hx hb dX12_tested_76 rfl hl (by decide) rfl (fun ls hl => ?_)
              refine lv_aload_n hx hb dX12_tested_77 rfl (lv_at hl 2 rfl) ?_
              obtain ⟨r_66, I_67, J_68, hq_69, hf⟩ := yb_b3_some hf
              refine x_callv X hK hw (c12_passWord l D cz ev mb hq_69) (ml_mem0 mb) (ml_S0 mb) cpX12.1 vw_X12_129 ⟨Nat.le_of_ble_eq_true rfl, Nat.le_of_ble_eq_true rfl⟩ rfl rfl (Nat.le_of_ble_eq_true rfl) hl.1 ⟨Nat.le_refl _, Nat.le_refl _⟩ dX12_tested_78 (fun H locs hw => ?_)
              refine lv_aload_n hx hb dX12_tested_81 rfl (lv_at hl 2 rfl) ?_
              refine lv_iload_n hx hb dX12_tested_82 rfl (lv_at hl 0 rfl) ?_
              obtain ⟨r_70, I_71, J_72, hq_73, hf⟩ := yb_b3_some hf
              refine x_callsi X hK hw (c12_strength l D cz ev mb hq_73) sw_X12_182 ⟨Nat.le_of_ble_eq_true rfl, Nat.le_of_ble_eq_true rfl⟩ rfl rfl (Nat.le_of_ble_eq_true rfl) hl.1 ⟨Nat.le_refl _, Nat.le_refl _⟩ dX12_tested_83 (fun H locs hw => ?_)
              obtain ⟨r_74, I_75, J_76, hq_77, hf⟩ := yb_b3_some hf
              refine x_callv X hK hw (c12_settles l D cz ev mb hq_77) (ml_mem0 mb) (ml_S0 mb) cpX12.1 vw_X12_218 ⟨Nat.le_of_ble_eq_true rfl, Nat.le_of_ble_eq_true rfl⟩ rfl rfl (Nat.le_of_ble_eq_true rfl) hl.1 ⟨Nat.le_refl _, Nat.le_refl _⟩ dX12_tested_86 (fun H locs hw => ?_)
              refine lv_aload_n hx hb dX12_tested_89 rfl (lv_at hl 2 rfl) ?_
              refine x_getR X hK hw (ml_mem0 mb) (ml_S0 mb) cpX12 15 (by decide) rfl (ml_R mb 15 rfl) tw_1266 dX12_tested_90 ?_
              refine lv_aload_n hx hb dX12_tested_93 rfl (lv_at hl 2 rfl) ?_
              refine x_getI X hK hw (ml_mem0 mb) (ml_S0 mb) cpX12 16 (by decide) rfl tw_1267 dX12_tested_94 ?_
              refine lv_iload_n hx hb dX12_tested_97 rfl (lv_at hl 0 rfl) ?_
              obtain ⟨hi_78, hf⟩ := yb_ck_some hf
              refine x_iast X hK hw (ml_mem mb 7 (by decide)) (ml_S mb 7 rfl) hi_78 rfl dX12_tested_98 (fun H locs hw => ?_)
              obtain ⟨I_79, eI_79, hf⟩ := yb_let_ex hf
              have hw := yb_wI eI_79 hw
              refine lv_aload_n hx hb dX12_tested_99 rfl (lv_at hl 2 rfl) ?_
              refine lv_dup hx hb dX12_tested_100 rfl ?_
              refine x_getI X hK hw (ml_mem0 mb) (ml_S0 mb) cpX12 16 (by decide) rfl tw_1267 dX12_tested_101 ?_
              refine lv_iconst (v := (1 : Int32)) hx hb dX12_tested_104 (by decide) ?_
              refine lv_iadd hx hb dX12_tested_105 ?_
              refine x_putI X hK hw (ml_mem0 mb) (ml_S0 mb) cpX12 16 (by decide) rfl rfl rfl tw_1267 dX12_tested_106 (fun H locs hw => ?_)
              obtain ⟨I_80, eI_80, hf⟩ := yb_let_ex hf
              have hw := yb_wI eI_80 hw
              refine lv_goto (tgt := 12) hx hb dX12_tested_109 (by decide) ?_
              exact ih _ _ _ _ _ _ _ _ _ hf hw (lv_sub hl [2, 1] rfl) hret hfin hexit
            · have hf := yb_neg c_65 hf
              refine lv_bipush (v := (12 : Int32)) hx hb dX12_tested_69 (by decide) ?_
              refine lv_goto (tgt := 76) hx hb dX12_tested_71 (by decide) ?_
              refine lv_istore_n (lv' := [(2, .int (12 : Int32)), (1, .int (1 : Int32)), (0, .ref mb)]) hx hb dX12_tested_76 rfl hl (by decide) rfl (fun ls hl => ?_)
              refine lv_aload_n hx hb dX12_tested_77 rfl (lv_at hl 2 rfl) ?_
              obtain ⟨r_81, I_82, J_83, hq_84, hf⟩ := yb_b3_some hf
              refine x_callv X hK hw (c12_passWord l D cz ev mb hq_84) (ml_mem0 mb) (ml_S0 mb) cpX12.1 vw_X12_129 ⟨Nat.le_of_ble_eq_true rfl, Nat.le_of_ble_eq_true rfl⟩ rfl rfl (Nat.le_of_ble_eq_true rfl) hl.1 ⟨Nat.le_refl _, Nat.le_refl _⟩ dX12_tested_78 (fun H locs hw => ?_)
              refine lv_aload_n hx hb dX12_tested_81 rfl (lv_at hl 2 rfl) ?_
              refine lv_iload_n hx hb dX12_tested_82 rfl (lv_at hl 0 rfl) ?_
              obtain ⟨r_85, I_86, J_87, hq_88, hf⟩ := yb_b3_some hf
              refine x_callsi X hK hw (c12_strength l D cz ev mb hq_88) sw_X12_182 ⟨Nat.le_of_ble_eq_true rfl, Nat.le_of_ble_eq_true rfl⟩ rfl rfl (Nat.le_of_ble_eq_true rfl) hl.1 ⟨Nat.le_refl _, Nat.le_refl _⟩ dX12_tested_83 (fun H locs hw => ?_)
              obtain ⟨r_89, I_90, J_91, hq_92, hf⟩ := yb_b3_some hf
              refine x_callv X hK hw (c12_settles l D cz ev mb hq_92) (ml_mem0 mb) (ml_S0 mb) cpX12.1 vw_X12_218 ⟨Nat.le_of_ble_eq_true rfl, Nat.le_of_ble_eq_true rfl⟩ rfl rfl (Nat.le_of_ble_eq_true rfl) hl.1 ⟨Nat.le_refl _, Nat.le_refl _⟩ dX12_tested_86 (fun H locs hw => ?_)
              refine lv_aload_n hx hb dX12_tested_89 rfl (lv_at hl 2 rfl) ?_
              refine x_getR X hK hw (ml_mem0 mb) (ml_S0 mb) cpX12 15 (by decide) rfl (ml_R mb 15 rfl) tw_1266 dX12_tested_90 ?_
              refine lv_aload_n hx hb dX12_tested_93 rfl (lv_at hl 2 rfl) ?_
              refine x_getI X hK hw (ml_mem0 mb) (ml_S0 mb) cpX12 16 (by decide) rfl tw_1267 dX12_tested_94 ?_
              refine lv_iload_n hx hb dX12_tested_97 rfl (lv_at hl 0 rfl) ?_
              obtain ⟨hi_93, hf⟩ := yb_ck_some hf
              refine x_iast X hK hw (ml_mem mb 7 (by decide)) (ml_S mb 7 rfl) hi_93 rfl dX12_tested_98 (fun H locs hw => ?_)
              obtain ⟨I_94, eI_94, hf⟩ := yb_let_ex hf
              have hw := yb_wI eI_94 hw
              refine lv_aload_n hx hb dX12_tested_99 rfl (lv_at hl 2 rfl) ?_
              refine lv_dup hx hb dX12_tested_100 rfl ?_
              refine x_getI X hK hw (ml_mem0 mb) (ml_S0 mb) cpX12 16 (by decide) rfl tw_1267 dX12_tested_101 ?_
              refine lv_iconst (v := (1 : Int32)) hx hb dX12_tested_104 (by decide) ?_
              refine lv_iadd hx hb dX12_tested_105 ?_
              refine x_putI X hK hw (ml_mem0 mb) (ml_S0 mb) cpX12 16 (by decide) rfl rfl rfl tw_1267 dX12_tested_106 (fun H locs hw => ?_)
              obtain ⟨I_95, eI_95, hf⟩ := yb_let_ex hf
              have hw := yb_wI eI_95 hw
              refine lv_goto (tgt := 12) hx hb dX12_tested_109 (by decide) ?_
              exact ih _ _ _ _ _ _ _ _ _ hf hw (lv_sub hl [2, 1] rfl) hret hfin hexit
      · have hf := yb_pos c_8 hf
        refine lv_iconst (v := (0 : Int32)) hx hb dX12_tested_23 (by decide) ?_
        exact yb_retz hfin (by decide) (yb_inl hret hf) hw dX12_tested_24
set_option maxHeartbeats 4000000 in
set_option maxRecDepth 100000 in
theorem c12_tested (l : Launch) (D : va_G) (cz : Nat → ClassId) (ev : Nat × Nat × Nat) (mb : Nat) {N : Nat} {I : IT} {J : JT} {r : Int32} {I1 : IT} {J1 : JT} (hf : f12_tested N mb I J = some (r, I1, J1)) : MTi l D cz ev yX12_tested cX12_tested 3 (some .boolean) 8 176 [.ref mb] (mlL mb) (mlS mb) (mlR mb) I J r I1 J1 := by
  unfold f12_tested at hf
  refine MTz_of (by decide) (Nat.le_of_ble_eq_true rfl) ?_
  intro p e s m args below meth c Q ls X hK hw hl hfin
  have X : CallFix p m c cX12_tested 3 s args gw RX12 := X
  have hx := X.1
  have hb := X.2.1
  have hl : lv_has ls 3 [(0, .ref mb)] := hl
  refine lv_aload_n hx hb dX12_tested_0 rfl (lv_at hl 0 rfl) ?_
  refine lv_iconst (v := (0 : Int32)) hx hb dX12_tested_1 (by decide) ?_
  refine x_putI X hK hw (ml_mem0 mb) (ml_S0 mb) cpX12 16 (by decide) rfl rfl rfl tw_1267 dX12_tested_2 (fun H locs hw => ?_)
  obtain ⟨I_1, eI_1, hf⟩ := yb_let_ex hf
  have hw := yb_wI eI_1 hw
  refine lv_aload_n hx hb dX12_tested_5 rfl (lv_at hl 0 rfl) ?_
  refine lv_iconst (v := (0 : Int32)) hx hb dX12_tested_6 (by decide) ?_
  refine x_putI X hK hw (ml_mem0 mb) (ml_S0 mb) cpX12 13 (by decide) rfl rfl rfl tw_1264 dX12_tested_7 (fun H locs hw => ?_)
  obtain ⟨I_2, eI_2, hf⟩ := yb_let_ex hf
  have hw := yb_wI eI_2 hw
  refine lv_iconst (v := (1 : Int32)) hx hb dX12_tested_10 (by decide) ?_
  refine lv_istore_n (lv' := [(1, .int (1 : Int32)), (0, .ref mb)]) hx hb dX12_tested_11 rfl hl (by decide) rfl (fun ls hl => ?_)
  obtain ⟨q_96, I_97, J_98, hq_99, hf⟩ := yb_b3_some hf
  refine w12_tested_L12 X hK _ _ _ _ _ _ _ _ _ _ hq_99 hw (lv_sub hl [1, 0] rfl) (fun v hv => by rw [hv] at hf; exact hf) hfin (fun x_101 hx1 H locs ls hw hl => ?_)
  rw [hx1] at hf
  have hf := yb_sm_r hf
  refine lv_aload_n hx hb dX12_tested_112 rfl (lv_at hl 0 rfl) ?_
  obtain ⟨r_102, I_103, J_104, hq_105, hf⟩ := yb_b3_some hf
  refine x_calli X hK hw (c12_isInside l D cz ev mb hq_105) (ml_mem0 mb) (ml_S0 mb) cpX12.1 vw_X12_221 ⟨Nat.le_of_ble_eq_true rfl, Nat.le_of_ble_eq_true rfl⟩ rfl rfl (Nat.le_of_ble_eq_true rfl) hl.1 ⟨Nat.le_refl _, Nat.le_refl _⟩ dX12_tested_113 (fun H locs hw => ?_)
  refine lv_if_eq (tgt := 134) hx hb dX12_tested_116 (by decide) (fun c_106 => ?_) (fun c_106 => ?_)
  · have hf := yb_pos c_106 hf
    refine lv_aload_n hx hb dX12_tested_134 rfl (lv_at hl 0 rfl) ?_
    refine lv_iconst (v := (1 : Int32)) hx hb dX12_tested_135 (by decide) ?_
    obtain ⟨r_107, I_108, J_109, hq_110, hf⟩ := yb_b3_some hf
    refine x_callv X hK hw (c12_settles l D cz ev mb hq_110) (ml_mem0 mb) (ml_S0 mb) cpX12.1 vw_X12_218 ⟨Nat.le_of_ble_eq_true rfl, Nat.le_of_ble_eq_true rfl⟩ rfl rfl (Nat.le_of_ble_eq_true rfl) hl.1 ⟨Nat.le_refl _, Nat.le_refl _⟩ dX12_tested_136 (fun H locs hw => ?_)
    refine lv_iconst (v := (1 : Int32)) hx hb dX12_tested_139 (by decide) ?_
    exact yb_retz hfin (by decide) hf hw dX12_tested_140
  · have hf := yb_neg c_106 hf
    refine lv_aload_n hx hb dX12_tested_119 rfl (lv_at hl 0 rfl) ?_
    obtain ⟨r_111, I_112, J_113, hq_114, hf⟩ := yb_b3_some hf
    refine x_calli X hK hw (c12_see l D cz ev mb hq_114) (ml_mem0 mb) (ml_S0 mb) cpX12.1 vw_X12_117 ⟨Nat.le_of_ble_eq_true rfl, Nat.le_of_ble_eq_true rfl⟩ rfl rfl (Nat.le_of_ble_eq_true rfl) hl.1 ⟨Nat.le_refl _, Nat.le_refl _⟩ dX12_tested_120 (fun H locs hw => ?_)
    refine lv_pop hx hb dX12_tested_123 rfl ?_
    refine lv_aload_n hx hb dX12_tested_124 rfl (lv_at hl 0 rfl) ?_
    refine lv_iconst (v := (0 : Int32)) hx hb dX12_tested_125 (by decide) ?_
    refine lv_aload_n hx hb dX12_tested_126 rfl (lv_at hl 0 rfl) ?_
    refine x_getI X hK hw (ml_mem0 mb) (ml_S0 mb) cpX12 8 (by decide) rfl tw_1259 dX12_tested_127 ?_
    obtain ⟨r_115, I_116, J_117, hq_118, hf⟩ := yb_b3_some hf
    refine x_calli X hK hw (c12_fails l D cz ev mb hq_118) (ml_mem0 mb) (ml_S0 mb) cpX12.1 vw_X12_135 ⟨Nat.le_of_ble_eq_true rfl, Nat.le_of_ble_eq_true rfl⟩ rfl rfl (Nat.le_of_ble_eq_true rfl) hl.1 ⟨Nat.le_refl _, Nat.le_refl _⟩ dX12_tested_130 (fun H locs hw => ?_)
    obtain ⟨hz_119, hf⟩ := yb_ck_some hf
    exact yb_retz hfin hz_119 hf hw dX12_tested_133
set_option maxHeartbeats 4000000 in
set_option maxRecDepth 100000 in
theorem c12_isRightHere (l : Launch) (D : va_G) (cz : Nat → ClassId) (ev : Nat × Nat × Nat) (mb : Nat) {N : Nat} {I : IT} {J : JT} {r : Int32} {I1 : IT} {J1 : JT} (hf : f12_isRightHere N mb I J = some (r, I1, J1)) : MTi l D cz ev yX12_isRightHere cX12_isRightHere 2 (some .boolean) 9 198 [.ref mb] (mlL mb) (mlS mb) (mlR mb) I J r I1 J1 := by
  unfold f12_isRightHere at hf
  refine MTz_of (by decide) (Nat.le_of_ble_eq_true rfl) ?_
  intro p e s m args below meth c Q ls X hK hw hl hfin
  have X : CallFix p m c cX12_isRightHere 2 s args gw RX12 := X
  have hx := X.1
  have hb := X.2.1
  have hl : lv_has ls 2 [(0, .ref mb)] := hl
  refine lv_aload_n hx hb dX12_isRightHere_0 rfl (lv_at hl 0 rfl) ?_
  obtain ⟨r_1, I_2, J_3, hq_4, hf⟩ := yb_b3_some hf
  refine x_callv X hK hw (c12_passWord l D cz ev mb hq_4) (ml_mem0 mb) (ml_S0 mb) cpX12.1 vw_X12_129 ⟨Nat.le_of_ble_eq_true rfl, Nat.le_of_ble_eq_true rfl⟩ rfl rfl (Nat.le_of_ble_eq_true rfl) hl.1 ⟨Nat.le_refl _, Nat.le_refl _⟩ dX12_isRightHere_1 (fun H locs hw => ?_)
  refine lv_bipush (v := (48 : Int32)) hx hb dX12_isRightHere_4 (by decide) ?_
  refine lv_aload_n hx hb dX12_isRightHere_6 rfl (lv_at hl 0 rfl) ?_
  refine x_getI X hK hw (ml_mem0 mb) (ml_S0 mb) cpX12 11 (by decide) rfl tw_1262 dX12_isRightHere_7 ?_
  refine lv_imul hx hb dX12_isRightHere_10 ?_
  refine lv_iconst (v := (4 : Int32)) hx hb dX12_isRightHere_11 (by decide) ?_
  refine lv_aload_n hx hb dX12_isRightHere_12 rfl (lv_at hl 0 rfl) ?_
  refine x_getR X hK hw (ml_mem0 mb) (ml_S0 mb) cpX12 6 (by decide) rfl (ml_R mb 6 rfl) tw_1257 dX12_isRightHere_13 ?_
  refine lv_aload_n hx hb dX12_isRightHere_16 rfl (lv_at hl 0 rfl) ?_
  refine x_getI X hK hw (ml_mem0 mb) (ml_S0 mb) cpX12 11 (by decide) rfl tw_1262 dX12_isRightHere_17 ?_
  obtain ⟨hi_5, hf⟩ := yb_ck_some hf
  refine x_iald X hK hw (ml_mem mb 5 (by decide)) (ml_S mb 5 rfl) hi_5 rfl dX12_isRightHere_20 ?_
  refine lv_imul hx hb dX12_isRightHere_21 ?_
  refine lv_iadd hx hb dX12_isRightHere_22 ?_
  refine lv_topi (fun x1_6 ex1_6 => ?_)
  have hf := yb_let_to ex1_6 hf
  refine lv_istore_n (lv' := [(1, .int x1_6), (0, .ref mb)]) hx hb dX12_isRightHere_23 rfl hl (by decide) rfl (fun ls hl => ?_)
  refine lv_aload_n hx hb dX12_isRightHere_24 rfl (lv_at hl 1 rfl) ?_
  refine x_getR X hK hw (ml_mem0 mb) (ml_S0 mb) cpX12 5 (by decide) rfl (ml_R mb 5 rfl) tw_1256 dX12_isRightHere_25 ?_
  refine lv_iload_n hx hb dX12_isRightHere_28 rfl (lv_at hl 0 rfl) ?_
  refine lv_aload_n hx hb dX12_isRightHere_29 rfl (lv_at hl 1 rfl) ?_
  refine x_getR X hK hw (ml_mem0 mb) (ml_S0 mb) cpX12 4 (by decide) rfl (ml_R mb 4 rfl) tw_1255 dX12_isRightHere_30 ?_
  refine lv_aload_n hx hb dX12_isRightHere_33 rfl (lv_at hl 1 rfl) ?_
  refine x_getI X hK hw (ml_mem0 mb) (ml_S0 mb) cpX12 11 (by decide) rfl tw_1262 dX12_isRightHere_34 ?_
  obtain ⟨hi_7, hf⟩ := yb_ck_some hf
  refine x_iald X hK hw (ml_mem mb 3 (by decide)) (ml_S mb 3 rfl) hi_7 rfl dX12_isRightHere_37 ?_
  obtain ⟨hi_8, hf⟩ := yb_ck_some hf
  refine x_iast X hK hw (ml_mem mb 4 (by decide)) (ml_S mb 4 rfl) hi_8 rfl dX12_isRightHere_38 (fun H locs hw => ?_)
  obtain ⟨I_9, eI_9, hf⟩ := yb_let_ex hf
  have hw := yb_wI eI_9 hw
  refine lv_aload_n hx hb dX12_isRightHere_39 rfl (lv_at hl 1 rfl) ?_
  obtain ⟨r_10, I_11, J_12, hq_13, hf⟩ := yb_b3_some hf
  refine x_calli X hK hw (c12_sum l D cz ev mb hq_13) (ml_mem0 mb) (ml_S0 mb) cpX12.1 vw_X12_207 ⟨Nat.le_of_ble_eq_true rfl, Nat.le_of_ble_eq_true rfl⟩ rfl rfl (Nat.le_of_ble_eq_true rfl) hl.1 ⟨Nat.le_refl _, Nat.le_refl _⟩ dX12_isRightHere_40 (fun H locs hw => ?_)
  refine lv_if_ne (tgt := 48) hx hb dX12_isRightHere_43 (by decide) (fun c_14 => ?_) (fun c_14 => ?_)
  · have hf := yb_neg c_14 hf
    refine lv_aload_n hx hb dX12_isRightHere_48 rfl (lv_at hl 1 rfl) ?_
    refine x_getR X hK hw (ml_mem0 mb) (ml_S0 mb) cpX12 5 (by decide) rfl (ml_R mb 5 rfl) tw_1256 dX12_isRightHere_49 ?_
    refine lv_iload_n hx hb dX12_isRightHere_52 rfl (lv_at hl 0 rfl) ?_
    refine lv_iconst (v := (1 : Int32)) hx hb dX12_isRightHere_53 (by decide) ?_
    refine lv_iadd hx hb dX12_isRightHere_54 ?_
    refine lv_aload_n hx hb dX12_isRightHere_55 rfl (lv_at hl 1 rfl) ?_
    refine x_getR X hK hw (ml_mem0 mb) (ml_S0 mb) cpX12 4 (by decide) rfl (ml_R mb 4 rfl) tw_1255 dX12_isRightHere_56 ?_
    refine lv_aload_n hx hb dX12_isRightHere_59 rfl (lv_at hl 1 rfl) ?_
    refine x_getI X hK hw (ml_mem0 mb) (ml_S0 mb) cpX12 11 (by decide) rfl tw_1262 dX12_isRightHere_60 ?_
    obtain ⟨hi_15, hf⟩ := yb_ck_some hf
    refine x_iald X hK hw (ml_mem mb 3 (by decide)) (ml_S mb 3 rfl) hi_15 rfl dX12_isRightHere_63 ?_
    obtain ⟨hi_16, hf⟩ := yb_ck_some hf
    refine x_iast X hK hw (ml_mem mb 4 (by decide)) (ml_S mb 4 rfl) hi_16 rfl dX12_isRightHere_64 (fun H locs hw => ?_)
    obtain ⟨I_17, eI_17, hf⟩ := yb_let_ex hf
    have hw := yb_wI eI_17 hw
    refine lv_aload_n hx hb dX12_isRightHere_65 rfl (lv_at hl 1 rfl) ?_
    refine x_getR X hK hw (ml_mem0 mb) (ml_S0 mb) cpX12 5 (by decide) rfl (ml_R mb 5 rfl) tw_1256 dX12_isRightHere_66 ?_
    refine lv_iload_n hx hb dX12_isRightHere_69 rfl (lv_at hl 0 rfl) ?_
    refine lv_iconst (v := (2 : Int32)) hx hb dX12_isRightHere_70 (by decide) ?_
    refine lv_iadd hx hb dX12_isRightHere_71 ?_
    refine lv_iconst (v := (-1 : Int32)) hx hb dX12_isRightHere_72 (by decide) ?_
    obtain ⟨hi_18, hf⟩ := yb_ck_some hf
    refine x_iast X hK hw (ml_mem mb 4 (by decide)) (ml_S mb 4 rfl) hi_18 rfl dX12_isRightHere_73 (fun H locs hw => ?_)
    obtain ⟨I_19, eI_19, hf⟩ := yb_let_ex hf
    have hw := yb_wI eI_19 hw
    refine lv_aload_n hx hb dX12_isRightHere_74 rfl (lv_at hl 1 rfl) ?_
    refine lv_ldc2 (v := (26982 : Int64)) hx hb X.2.2.2.1 (X.2.2.2.2 _ tw_1531) dX12_isRightHere_75 ?_
    obtain ⟨r_20, I_21, J_22, hq_23, hf⟩ := yb_b3_some hf
    refine x_calli X hK hw (c12_takesWord l D cz ev mb hq_23) (ml_mem0 mb) (ml_S0 mb) cpX12.1 vw_X12_236 ⟨Nat.le_of_ble_eq_true rfl, Nat.le_of_ble_eq_true rfl⟩ rfl rfl (Nat.le_of_ble_eq_true rfl) hl.1 ⟨Nat.le_refl _, Nat.le_refl _⟩ dX12_isRightHere_78 (fun H locs hw => ?_)
    refine lv_if_eq (tgt := 110) hx hb dX12_isRightHere_81 (by decide) (fun c_24 => ?_) (fun c_24 => ?_)
    · have hf := yb_pos c_24 hf
      refine lv_aload_n hx hb dX12_isRightHere_110 rfl (lv_at hl 1 rfl) ?_
      refine x_getR X hK hw (ml_mem0 mb) (ml_S0 mb) cpX12 5 (by decide) rfl (ml_R mb 5 rfl) tw_1256 dX12_isRightHere_111 ?_
      refine lv_iload_n hx hb dX12_isRightHere_114 rfl (lv_at hl 0 rfl) ?_
      refine lv_iconst (v := (3 : Int32)) hx hb dX12_isRightHere_115 (by decide) ?_
      refine lv_iadd hx hb dX12_isRightHere_116 ?_
      refine lv_aload_n hx hb dX12_isRightHere_117 rfl (lv_at hl 1 rfl) ?_
      refine x_getR X hK hw (ml_mem0 mb) (ml_S0 mb) cpX12 4 (by decide) rfl (ml_R mb 4 rfl) tw_1255 dX12_isRightHere_118 ?_
      refine lv_aload_n hx hb dX12_isRightHere_121 rfl (lv_at hl 1 rfl) ?_
      refine x_getI X hK hw (ml_mem0 mb) (ml_S0 mb) cpX12 11 (by decide) rfl tw_1262 dX12_isRightHere_122 ?_
      obtain ⟨hi_25, hf⟩ := yb_ck_some hf
      refine x_iald X hK hw (ml_mem mb 3 (by decide)) (ml_S mb 3 rfl) hi_25 rfl dX12_isRightHere_125 ?_
      obtain ⟨hi_26, hf⟩ := yb_ck_some hf
      refine x_iast X hK hw (ml_mem mb 4 (by decide)) (ml_S mb 4 rfl) hi_26 rfl dX12_isRightHere_126 (fun H locs hw => ?_)
      obtain ⟨I_27, eI_27, hf⟩ := yb_let_ex hf
      have hw := yb_wI eI_27 hw
      refine lv_aload_n hx hb dX12_isRightHere_127 rfl (lv_at hl 1 rfl) ?_
      refine x_getR X hK hw (ml_mem0 mb) (ml_S0 mb) cpX12 6 (by decide) rfl (ml_R mb 6 rfl) tw_1257 dX12_isRightHere_128 ?_
      refine lv_aload_n hx hb dX12_isRightHere_131 rfl (lv_at hl 1 rfl) ?_
      refine x_getI X hK hw (ml_mem0 mb) (ml_S0 mb) cpX12 11 (by decide) rfl tw_1262 dX12_isRightHere_132 ?_
      refine lv_dup2_11 hx hb dX12_isRightHere_135 rfl rfl ?_
      obtain ⟨hi_28, hf⟩ := yb_ck_some hf
      refine x_iald X hK hw (ml_mem mb 5 (by decide)) (ml_S mb 5 rfl) hi_28 rfl dX12_isRightHere_136 ?_
      refine lv_iconst (v := (1 : Int32)) hx hb dX12_isRightHere_137 (by decide) ?_
      refine lv_iadd hx hb dX12_isRightHere_138 ?_
      refine x_iast X hK hw (ml_mem mb 5 (by decide)) (ml_S mb 5 rfl) hi_28 rfl dX12_isRightHere_139 (fun H locs hw => ?_)
      obtain ⟨I_29, eI_29, hf⟩ := yb_let_ex hf
      have hw := yb_wI eI_29 hw
      refine lv_iconst (v := (1 : Int32)) hx hb dX12_isRightHere_140 (by decide) ?_
      exact yb_retz hfin (by decide) hf hw dX12_isRightHere_141
    · have hf := yb_neg c_24 hf
      refine lv_aload_n hx hb dX12_isRightHere_84 rfl (lv_at hl 1 rfl) ?_
      refine x_getR X hK hw (ml_mem0 mb) (ml_S0 mb) cpX12 5 (by decide) rfl (ml_R mb 5 rfl) tw_1256 dX12_isRightHere_85 ?_
      refine lv_iload_n hx hb dX12_isRightHere_88 rfl (lv_at hl 0 rfl) ?_
      refine lv_iconst (v := (2 : Int32)) hx hb dX12_isRightHere_89 (by decide) ?_
      refine lv_iadd hx hb dX12_isRightHere_90 ?_
      refine lv_aload_n hx hb dX12_isRightHere_91 rfl (lv_at hl 1 rfl) ?_
      refine x_getR X hK hw (ml_mem0 mb) (ml_S0 mb) cpX12 4 (by decide) rfl (ml_R mb 4 rfl) tw_1255 dX12_isRightHere_92 ?_
      refine lv_aload_n hx hb dX12_isRightHere_95 rfl (lv_at hl 1 rfl) ?_
      refine x_getI X hK hw (ml_mem0 mb) (ml_S0 mb) cpX12 11 (by decide) rfl tw_1262 dX12_isRightHere_96 ?_
      obtain ⟨hi_30, hf⟩ := yb_ck_some hf
      refine x_iald X hK hw (ml_mem mb 3 (by decide)) (ml_S mb 3 rfl) hi_30 rfl dX12_isRightHere_99 ?_
      refine x_iast X hK hw (ml_mem mb 4 (by decide)) (ml_S mb 4 rfl) hi_18 rfl dX12_isRightHere_100 (fun H locs hw => ?_)
      obtain ⟨I_31, eI_31, hf⟩ := yb_let_ex hf
      have hw := yb_wI eI_31 hw
      refine lv_aload_n hx hb dX12_isRightHere_101 rfl (lv_at hl 1 rfl) ?_
      obtain ⟨r_32, I_33, J_34, hq_35, hf⟩ := yb_b3_some hf
      refine x_calli X hK hw (c12_tested l D cz ev mb hq_35) (ml_mem0 mb) (ml_S0 mb) cpX12.1 vw_X12_239 ⟨Nat.le_of_ble_eq_true rfl, Nat.le_of_ble_eq_true rfl⟩ rfl rfl (Nat.le_of_ble_eq_true rfl) hl.1 ⟨Nat.le_refl _, Nat.le_refl _⟩ dX12_isRightHere_102 (fun H locs hw => ?_)
      refine lv_if_ne (tgt := 110) hx hb dX12_isRightHere_105 (by decide) (fun c_36 => ?_) (fun c_36 => ?_)
      · have hf := yb_neg c_36 hf
        refine lv_aload_n hx hb dX12_isRightHere_110 rfl (lv_at hl 1 rfl) ?_
        refine x_getR X hK hw (ml_mem0 mb) (ml_S0 mb) cpX12 5 (by decide) rfl (ml_R mb 5 rfl) tw_1256 dX12_isRightHere_111 ?_
        refine lv_iload_n hx hb dX12_isRightHere_114 rfl (lv_at hl 0 rfl) ?_
        refine lv_iconst (v := (3 : Int32)) hx hb dX12_isRightHere_115 (by decide) ?_
        refine lv_iadd hx hb dX12_isRightHere_116 ?_
        refine lv_aload_n hx hb dX12_isRightHere_117 rfl (lv_at hl 1 rfl) ?_
        refine x_getR X hK hw (ml_mem0 mb) (ml_S0 mb) cpX12 4 (by decide) rfl (ml_R mb 4 rfl) tw_1255 dX12_isRightHere_118 ?_
        refine lv_aload_n hx hb dX12_isRightHere_121 rfl (lv_at hl 1 rfl) ?_
        refine x_getI X hK hw (ml_mem0 mb) (ml_S0 mb) cpX12 11 (by decide) rfl tw_1262 dX12_isRightHere_122 ?_
        obtain ⟨hi_37, hf⟩ := yb_ck_some hf
        refine x_iald X hK hw (ml_mem mb 3 (by decide)) (ml_S mb 3 rfl) hi_37 rfl dX12_isRightHere_125 ?_
        obtain ⟨hi_38, hf⟩ := yb_ck_some hf
        refine x_iast X hK hw (ml_mem mb 4 (by decide)) (ml_S mb 4 rfl) hi_38 rfl dX12_isRightHere_126 (fun H locs hw => ?_)
        obtain ⟨I_39, eI_39, hf⟩ := yb_let_ex hf
        have hw := yb_wI eI_39 hw
        refine lv_aload_n hx hb dX12_isRightHere_127 rfl (lv_at hl 1 rfl) ?_
        refine x_getR X hK hw (ml_mem0 mb) (ml_S0 mb) cpX12 6 (by decide) rfl (ml_R mb 6 rfl) tw_1257 dX12_isRightHere_128 ?_
        refine lv_aload_n hx hb dX12_isRightHere_131 rfl (lv_at hl 1 rfl) ?_
        refine x_getI X hK hw (ml_mem0 mb) (ml_S0 mb) cpX12 11 (by decide) rfl tw_1262 dX12_isRightHere_132 ?_
        refine lv_dup2_11 hx hb dX12_isRightHere_135 rfl rfl ?_
        obtain ⟨hi_40, hf⟩ := yb_ck_some hf
        refine x_iald X hK hw (ml_mem mb 5 (by decide)) (ml_S mb 5 rfl) hi_40 rfl dX12_isRightHere_136 ?_
        refine lv_iconst (v := (1 : Int32)) hx hb dX12_isRightHere_137 (by decide) ?_
        refine lv_iadd hx hb dX12_isRightHere_138 ?_
        refine x_iast X hK hw (ml_mem mb 5 (by decide)) (ml_S mb 5 rfl) hi_40 rfl dX12_isRightHere_139 (fun H locs hw => ?_)
        obtain ⟨I_41, eI_41, hf⟩ := yb_let_ex hf
        have hw := yb_wI eI_41 hw
        refine lv_iconst (v := (1 : Int32)) hx hb dX12_isRightHere_140 (by decide) ?_
        exact yb_retz hfin (by decide) hf hw dX12_isRightHere_141
      · have hf := yb_pos c_36 hf
        refine lv_iconst (v := (0 : Int32)) hx hb dX12_isRightHere_108 (by decide) ?_
        exact yb_retz hfin (by decide) hf hw dX12_isRightHere_109
  · have hf := yb_pos c_14 hf
    refine lv_iconst (v := (0 : Int32)) hx hb dX12_isRightHere_46 (by decide) ?_
    exact yb_retz hfin (by decide) hf hw dX12_isRightHere_47
set_option maxHeartbeats 4000000 in
set_option maxRecDepth 100000 in
theorem c12_cellHere (l : Launch) (D : va_G) (cz : Nat → ClassId) (ev : Nat × Nat × Nat) (mb : Nat) {N : Nat} {x1 : Int32} {x2 : Int32} {x3 : Int32} {I : IT} {J : JT} {r : Int32} {I1 : IT} {J1 : JT} (hf : f12_cellHere N mb x1 x2 x3 I J = some (r, I1, J1)) : MTi l D cz ev yX12_cellHere cX12_cellHere 4 (some .boolean) 2 49 [.ref mb, .int x1, .int x2, .int x3] (mlL mb) (mlS mb) (mlR mb) I J r I1 J1 := by
  unfold f12_cellHere at hf
  refine MTz_of (by decide) (Nat.le_of_ble_eq_true rfl) ?_
  intro p e s m args below meth c Q ls X hK hw hl hfin
  have X : CallFix p m c cX12_cellHere 4 s args gw RX12 := X
  have hx := X.1
  have hb := X.2.1
  have hl : lv_has ls 4 [(0, .ref mb), (1, .int x1), (2, .int x2), (3, .int x3)] := hl
  refine lv_aload_n hx hb dX12_cellHere_0 rfl (lv_at hl 0 rfl) ?_
  refine lv_iload_n hx hb dX12_cellHere_1 rfl (lv_at hl 2 rfl) ?_
  refine lv_iload_n hx hb dX12_cellHere_2 rfl (lv_at hl 3 rfl) ?_
  obtain ⟨r_1, I_2, J_3, hq_4, hf⟩ := yb_b3_some hf
  refine x_calli X hK hw (c12_numberHere l D cz ev mb hq_4) (ml_mem0 mb) (ml_S0 mb) cpX12.1 vw_X12_191 ⟨Nat.le_of_ble_eq_true rfl, Nat.le_of_ble_eq_true rfl⟩ rfl rfl (Nat.le_of_ble_eq_true rfl) hl.1 ⟨Nat.le_refl _, Nat.le_refl _⟩ dX12_cellHere_3 (fun H locs hw => ?_)
  refine lv_if_ne (tgt := 11) hx hb dX12_cellHere_6 (by decide) (fun c_5 => ?_) (fun c_5 => ?_)
  · have hf := yb_neg c_5 hf
    refine lv_aload_n hx hb dX12_cellHere_11 rfl (lv_at hl 0 rfl) ?_
    refine x_getR X hK hw (ml_mem0 mb) (ml_S0 mb) cpX12 7 (by decide) rfl (ml_R mb 7 rfl) tw_1258 dX12_cellHere_12 ?_
    refine lv_iload_n hx hb dX12_cellHere_15 rfl (lv_at hl 1 rfl) ?_
    refine lv_aload_n hx hb dX12_cellHere_16 rfl (lv_at hl 0 rfl) ?_
    refine x_getI X hK hw (ml_mem0 mb) (ml_S0 mb) cpX12 10 (by decide) rfl tw_1261 dX12_cellHere_17 ?_
    obtain ⟨hi_6, hf⟩ := yb_ck_some hf
    refine x_iast X hK hw (ml_mem mb 6 (by decide)) (ml_S mb 6 rfl) hi_6 rfl dX12_cellHere_20 (fun H locs hw => ?_)
    obtain ⟨I_7, eI_7, hf⟩ := yb_let_ex hf
    have hw := yb_wI eI_7 hw
    refine lv_iconst (v := (1 : Int32)) hx hb dX12_cellHere_21 (by decide) ?_
    exact yb_retz hfin (by decide) hf hw dX12_cellHere_22
  · have hf := yb_pos c_5 hf
    refine lv_iconst (v := (0 : Int32)) hx hb dX12_cellHere_9 (by decide) ?_
    exact yb_retz hfin (by decide) hf hw dX12_cellHere_10
set_option maxHeartbeats 4000000 in
set_option maxRecDepth 100000 in
theorem c12_isTownHere (l : Launch) (D : va_G) (cz : Nat → ClassId) (ev : Nat × Nat × Nat) (mb : Nat) {N : Nat} {x1 : Int32} {I : IT} {J : JT} {r : Int32} {I1 : IT} {J1 : JT} (hf : f12_isTownHere N mb x1 I J = some (r, I1, J1)) : MTi l D cz ev yX12_isTownHere cX12_isTownHere 3 (some .boolean) 3 72 [.ref mb, .int x1] (mlL mb) (mlS mb) (mlR mb) I J r I1 J1 := by
  unfold f12_isTownHere at hf
  refine MTz_of (by decide) (Nat.le_of_ble_eq_true rfl) ?_
  intro p e s m args below meth c Q ls X hK hw hl hfin
  have X : CallFix p m c cX12_isTownHere 3 s args gw RX12 := X
  have hx := X.1
  have hb := X.2.1
  have hl : lv_has ls 3 [(0, .ref mb), (1, .int x1)] := hl
  refine lv_aload_n hx hb dX12_isTownHere_0 rfl (lv_at hl 0 rfl) ?_
  refine x_getR X hK hw (ml_mem0 mb) (ml_S0 mb) cpX12 7 (by decide) rfl (ml_R mb 7 rfl) tw_1258 dX12_isTownHere_1 ?_
  refine lv_iconst (v := (0 : Int32)) hx hb dX12_isTownHere_4 (by decide) ?_
  refine x_iald X hK hw (ml_mem mb 6 (by decide)) (ml_S mb 6 rfl) (by decide) rfl dX12_isTownHere_5 ?_
  refine lv_if_le (tgt := 16) hx hb dX12_isTownHere_6 (by decide) (fun c_1 => ?_) (fun c_1 => ?_)
  · have hf := yb_pos c_1 hf
    refine lv_aload_n hx hb dX12_isTownHere_16 rfl (lv_at hl 0 rfl) ?_
    obtain ⟨r_2, I_3, J_4, hq_5, hf⟩ := yb_b3_some hf
    refine x_callv X hK hw (c12_passWord l D cz ev mb hq_5) (ml_mem0 mb) (ml_S0 mb) cpX12.1 vw_X12_129 ⟨Nat.le_of_ble_eq_true rfl, Nat.le_of_ble_eq_true rfl⟩ rfl rfl (Nat.le_of_ble_eq_true rfl) hl.1 ⟨Nat.le_refl _, Nat.le_refl _⟩ dX12_isTownHere_17 (fun H locs hw => ?_)
    refine lv_aload_n hx hb dX12_isTownHere_20 rfl (lv_at hl 0 rfl) ?_
    refine lv_iconst (v := (1 : Int32)) hx hb dX12_isTownHere_21 (by decide) ?_
    refine lv_bipush (v := (99 : Int32)) hx hb dX12_isTownHere_22 (by decide) ?_
    obtain ⟨r_6, I_7, J_8, hq_9, hf⟩ := yb_b3_some hf
    refine x_calli X hK hw (c12_numberHere l D cz ev mb hq_9) (ml_mem0 mb) (ml_S0 mb) cpX12.1 vw_X12_191 ⟨Nat.le_of_ble_eq_true rfl, Nat.le_of_ble_eq_true rfl⟩ rfl rfl (Nat.le_of_ble_eq_true rfl) hl.1 ⟨Nat.le_refl _, Nat.le_refl _⟩ dX12_isTownHere_24 (fun H locs hw => ?_)
    refine lv_if_ne (tgt := 32) hx hb dX12_isTownHere_27 (by decide) (fun c_10 => ?_) (fun c_10 => ?_)
    · have hf := yb_neg c_10 hf
      refine lv_aload_n hx hb dX12_isTownHere_32 rfl (lv_at hl 0 rfl) ?_
      refine x_getI X hK hw (ml_mem0 mb) (ml_S0 mb) cpX12 10 (by decide) rfl tw_1261 dX12_isTownHere_33 ?_
      refine lv_topi (fun x2_11 ex2_11 => ?_)
      have hf := yb_let_to ex2_11 hf
      refine lv_istore_n (lv' := [(2, .int x2_11), (0, .ref mb), (1, .int x1)]) hx hb dX12_isTownHere_36 rfl hl (by decide) rfl (fun ls hl => ?_)
      refine lv_aload_n hx hb dX12_isTownHere_37 rfl (lv_at hl 1 rfl) ?_
      refine lv_iconst (v := (1 : Int32)) hx hb dX12_isTownHere_38 (by decide) ?_
      refine lv_iconst (v := (5 : Int32)) hx hb dX12_isTownHere_39 (by decide) ?_
      refine lv_bipush (v := (99 : Int32)) hx hb dX12_isTownHere_40 (by decide) ?_
      obtain ⟨r_12, I_13, J_14, hq_15, hf⟩ := yb_b3_some hf
      refine x_calli X hK hw (c12_cellHere l D cz ev mb hq_15) (ml_mem0 mb) (ml_S0 mb) cpX12.1 vw_X12_242 ⟨Nat.le_of_ble_eq_true rfl, Nat.le_of_ble_eq_true rfl⟩ rfl rfl (Nat.le_of_ble_eq_true rfl) hl.1 ⟨Nat.le_refl _, Nat.le_refl _⟩ dX12_isTownHere_42 (fun H locs hw => ?_)
      refine lv_if_ne (tgt := 50) hx hb dX12_isTownHere_45 (by decide) (fun c_16 => ?_) (fun c_16 => ?_)
      · have hf := yb_neg c_16 hf
        refine lv_aload_n hx hb dX12_isTownHere_50 rfl (lv_at hl 1 rfl) ?_
        refine x_getR X hK hw (ml_mem0 mb) (ml_S0 mb) cpX12 7 (by decide) rfl (ml_R mb 7 rfl) tw_1258 dX12_isTownHere_51 ?_
        refine lv_iconst (v := (0 : Int32)) hx hb dX12_isTownHere_54 (by decide) ?_
        refine lv_iload_n hx hb dX12_isTownHere_55 rfl (lv_at hl 0 rfl) ?_
        refine x_iast X hK hw (ml_mem mb 6 (by decide)) (ml_S mb 6 rfl) (by decide) rfl dX12_isTownHere_56 (fun H locs hw => ?_)
        obtain ⟨I_17, eI_17, hf⟩ := yb_let_ex hf
        have hw := yb_wI eI_17 hw
        refine lv_iconst (v := (1 : Int32)) hx hb dX12_isTownHere_57 (by decide) ?_
        exact yb_retz hfin (by decide) hf hw dX12_isTownHere_58
      · have hf := yb_pos c_16 hf
        refine lv_iconst (v := (0 : Int32)) hx hb dX12_isTownHere_48 (by decide) ?_
        exact yb_retz hfin (by decide) hf hw dX12_isTownHere_49
    · have hf := yb_pos c_10 hf
      refine lv_iconst (v := (0 : Int32)) hx hb dX12_isTownHere_30 (by decide) ?_
      exact yb_retz hfin (by decide) hf hw dX12_isTownHere_31
  · have hf := yb_neg c_1 hf
    refine lv_aload_n hx hb dX12_isTownHere_9 rfl (lv_at hl 0 rfl) ?_
    refine lv_iconst (v := (4 : Int32)) hx hb dX12_isTownHere_10 (by decide) ?_
    refine lv_iload_n hx hb dX12_isTownHere_11 rfl (lv_at hl 1 rfl) ?_
    obtain ⟨r_18, I_19, J_20, hq_21, hf⟩ := yb_b3_some hf
    refine x_calli X hK hw (c12_fails l D cz ev mb hq_21) (ml_mem0 mb) (ml_S0 mb) cpX12.1 vw_X12_135 ⟨Nat.le_of_ble_eq_true rfl, Nat.le_of_ble_eq_true rfl⟩ rfl rfl (Nat.le_of_ble_eq_true rfl) hl.1 ⟨Nat.le_refl _, Nat.le_refl _⟩ dX12_isTownHere_12 (fun H locs hw => ?_)
    obtain ⟨hz_22, hf⟩ := yb_ck_some hf
    exact yb_retz hfin hz_22 hf hw dX12_isTownHere_15
set_option maxHeartbeats 4000000 in
set_option maxRecDepth 100000 in
theorem c12_isBenchHere (l : Launch) (D : va_G) (cz : Nat → ClassId) (ev : Nat × Nat × Nat) (mb : Nat) {N : Nat} {x1 : Int32} {I : IT} {J : JT} {r : Int32} {I1 : IT} {J1 : JT} (hf : f12_isBenchHere N mb x1 I J = some (r, I1, J1)) : MTi l D cz ev yX12_isBenchHere cX12_isBenchHere 2 (some .boolean) 3 72 [.ref mb, .int x1] (mlL mb) (mlS mb) (mlR mb) I J r I1 J1 := by
  unfold f12_isBenchHere at hf
  refine MTz_of (by decide) (Nat.le_of_ble_eq_true rfl) ?_
  intro p e s m args below meth c Q ls X hK hw hl hfin
  have X : CallFix p m c cX12_isBenchHere 2 s args gw RX12 := X
  have hx := X.1
  have hb := X.2.1
  have hl : lv_has ls 2 [(0, .ref mb), (1, .int x1)] := hl
  refine lv_aload_n hx hb dX12_isBenchHere_0 rfl (lv_at hl 0 rfl) ?_
  refine x_getR X hK hw (ml_mem0 mb) (ml_S0 mb) cpX12 7 (by decide) rfl (ml_R mb 7 rfl) tw_1258 dX12_isBenchHere_1 ?_
  refine lv_iconst (v := (5 : Int32)) hx hb dX12_isBenchHere_4 (by decide) ?_
  refine x_iald X hK hw (ml_mem mb 6 (by decide)) (ml_S mb 6 rfl) (by decide) rfl dX12_isBenchHere_5 ?_
  refine lv_if_lt (tgt := 16) hx hb dX12_isBenchHere_6 (by decide) (fun c_1 => ?_) (fun c_1 => ?_)
  · have hf := yb_pos c_1 hf
    refine lv_aload_n hx hb dX12_isBenchHere_16 rfl (lv_at hl 0 rfl) ?_
    obtain ⟨r_2, I_3, J_4, hq_5, hf⟩ := yb_b3_some hf
    refine x_callv X hK hw (c12_passWord l D cz ev mb hq_5) (ml_mem0 mb) (ml_S0 mb) cpX12.1 vw_X12_129 ⟨Nat.le_of_ble_eq_true rfl, Nat.le_of_ble_eq_true rfl⟩ rfl rfl (Nat.le_of_ble_eq_true rfl) hl.1 ⟨Nat.le_refl _, Nat.le_refl _⟩ dX12_isBenchHere_17 (fun H locs hw => ?_)
    refine lv_aload_n hx hb dX12_isBenchHere_20 rfl (lv_at hl 0 rfl) ?_
    refine lv_iconst (v := (5 : Int32)) hx hb dX12_isBenchHere_21 (by decide) ?_
    refine lv_iconst (v := (0 : Int32)) hx hb dX12_isBenchHere_22 (by decide) ?_
    refine lv_sipush (v := (9999 : Int32)) hx hb dX12_isBenchHere_23 (by decide) ?_
    obtain ⟨r_6, I_7, J_8, hq_9, hf⟩ := yb_b3_some hf
    refine x_calli X hK hw (c12_cellHere l D cz ev mb hq_9) (ml_mem0 mb) (ml_S0 mb) cpX12.1 vw_X12_242 ⟨Nat.le_of_ble_eq_true rfl, Nat.le_of_ble_eq_true rfl⟩ rfl rfl (Nat.le_of_ble_eq_true rfl) hl.1 ⟨Nat.le_refl _, Nat.le_refl _⟩ dX12_isBenchHere_26 (fun H locs hw => ?_)
    refine lv_if_eq (tgt := 54) hx hb dX12_isBenchHere_29 (by decide) (fun c_10 => ?_) (fun c_10 => ?_)
    · have hf := yb_pos c_10 hf
      refine lv_iconst (v := (0 : Int32)) hx hb dX12_isBenchHere_54 (by decide) ?_
      exact yb_retz hfin (by decide) hf hw dX12_isBenchHere_55
    · have hf := yb_neg c_10 hf
      refine lv_aload_n hx hb dX12_isBenchHere_32 rfl (lv_at hl 0 rfl) ?_
      refine lv_bipush (v := (6 : Int32)) hx hb dX12_isBenchHere_33 (by decide) ?_
      refine lv_aload_n hx hb dX12_isBenchHere_35 rfl (lv_at hl 0 rfl) ?_
      refine x_getR X hK hw (ml_mem0 mb) (ml_S0 mb) cpX12 7 (by decide) rfl (ml_R mb 7 rfl) tw_1258 dX12_isBenchHere_36 ?_
      refine lv_iconst (v := (5 : Int32)) hx hb dX12_isBenchHere_39 (by decide) ?_
      refine x_iald X hK hw (ml_mem mb 6 (by decide)) (ml_S mb 6 rfl) (by decide) rfl dX12_isBenchHere_40 ?_
      refine lv_sipush (v := (9999 : Int32)) hx hb dX12_isBenchHere_41 (by decide) ?_
      obtain ⟨r_11, I_12, J_13, hq_14, hf⟩ := yb_b3_some hf
      refine x_calli X hK hw (c12_cellHere l D cz ev mb hq_14) (ml_mem0 mb) (ml_S0 mb) cpX12.1 vw_X12_242 ⟨Nat.le_of_ble_eq_true rfl, Nat.le_of_ble_eq_true rfl⟩ rfl rfl (Nat.le_of_ble_eq_true rfl) hl.1 ⟨Nat.le_refl _, Nat.le_refl _⟩ dX12_isBenchHere_44 (fun H locs hw => ?_)
      refine lv_if_eq (tgt := 54) hx hb dX12_isBenchHere_47 (by decide) (fun c_15 => ?_) (fun c_15 => ?_)
      · have hf := yb_pos c_15 hf
        refine lv_iconst (v := (0 : Int32)) hx hb dX12_isBenchHere_54 (by decide) ?_
        exact yb_retz hfin (by decide) hf hw dX12_isBenchHere_55
      · have hf := yb_neg c_15 hf
        refine lv_iconst (v := (1 : Int32)) hx hb dX12_isBenchHere_50 (by decide) ?_
        refine lv_goto (tgt := 55) hx hb dX12_isBenchHere_51 (by decide) ?_
        exact yb_retz hfin (by decide) hf hw dX12_isBenchHere_55
  · have hf := yb_neg c_1 hf
    refine lv_aload_n hx hb dX12_isBenchHere_9 rfl (lv_at hl 0 rfl) ?_
    refine lv_iconst (v := (4 : Int32)) hx hb dX12_isBenchHere_10 (by decide) ?_
    refine lv_iload_n hx hb dX12_isBenchHere_11 rfl (lv_at hl 1 rfl) ?_
    obtain ⟨r_16, I_17, J_18, hq_19, hf⟩ := yb_b3_some hf
    refine x_calli X hK hw (c12_fails l D cz ev mb hq_19) (ml_mem0 mb) (ml_S0 mb) cpX12.1 vw_X12_135 ⟨Nat.le_of_ble_eq_true rfl, Nat.le_of_ble_eq_true rfl⟩ rfl rfl (Nat.le_of_ble_eq_true rfl) hl.1 ⟨Nat.le_refl _, Nat.le_refl _⟩ dX12_isBenchHere_12 (fun H locs hw => ?_)
    obtain ⟨hz_20, hf⟩ := yb_ck_some hf
    exact yb_retz hfin hz_20 hf hw dX12_isBenchHere_15
set_option maxHeartbeats 4000000 in
set_option maxRecDepth 100000 in
theorem c12_isPersonHere (l : Launch) (D : va_G) (cz : Nat → ClassId) (ev : Nat × Nat × Nat) (mb : Nat) {N : Nat} {x1 : Int32} {I : IT} {J : JT} {r : Int32} {I1 : IT} {J1 : JT} (hf : f12_isPersonHere N mb x1 I J = some (r, I1, J1)) : MTi l D cz ev yX12_isPersonHere cX12_isPersonHere 3 (some .boolean) 3 72 [.ref mb, .int x1] (mlL mb) (mlS mb) (mlR mb) I J r I1 J1 := by
  unfold f12_isPersonHere at hf
  refine MTz_of (by decide) (Nat.le_of_ble_eq_true rfl) ?_
  intro p e s m args below meth c Q ls X hK hw hl hfin
  have X : CallFix p m c cX12_isPersonHere 3 s args gw RX12 := X
  have hx := X.1
  have hb := X.2.1
  have hl : lv_has ls 3 [(0, .ref mb), (1, .int x1)] := hl
  refine lv_aload_n hx hb dX12_isPersonHere_0 rfl (lv_at hl 0 rfl) ?_
  refine x_getR X hK hw (ml_mem0 mb) (ml_S0 mb) cpX12 7 (by decide) rfl (ml_R mb 7 rfl) tw_1258 dX12_isPersonHere_1 ?_
  refine lv_iconst (v := (2 : Int32)) hx hb dX12_isPersonHere_4 (by decide) ?_
  refine x_iald X hK hw (ml_mem mb 6 (by decide)) (ml_S mb 6 rfl) (by decide) rfl dX12_isPersonHere_5 ?_
  refine lv_bipush (v := (7 : Int32)) hx hb dX12_isPersonHere_6 (by decide) ?_
  refine lv_icmp_ne (tgt := 18) hx hb dX12_isPersonHere_8 (by decide) (fun c_1 => ?_) (fun c_1 => ?_)
  · have hf := yb_neg c_1 hf
    refine lv_aload_n hx hb dX12_isPersonHere_18 rfl (lv_at hl 0 rfl) ?_
    obtain ⟨r_2, I_3, J_4, hq_5, hf⟩ := yb_b3_some hf
    refine x_callv X hK hw (c12_passWord l D cz ev mb hq_5) (ml_mem0 mb) (ml_S0 mb) cpX12.1 vw_X12_129 ⟨Nat.le_of_ble_eq_true rfl, Nat.le_of_ble_eq_true rfl⟩ rfl rfl (Nat.le_of_ble_eq_true rfl) hl.1 ⟨Nat.le_refl _, Nat.le_refl _⟩ dX12_isPersonHere_19 (fun H locs hw => ?_)
    refine lv_bipush (v := (10 : Int32)) hx hb dX12_isPersonHere_22 (by decide) ?_
    refine lv_iconst (v := (5 : Int32)) hx hb dX12_isPersonHere_24 (by decide) ?_
    refine lv_aload_n hx hb dX12_isPersonHere_25 rfl (lv_at hl 0 rfl) ?_
    refine x_getR X hK hw (ml_mem0 mb) (ml_S0 mb) cpX12 7 (by decide) rfl (ml_R mb 7 rfl) tw_1258 dX12_isPersonHere_26 ?_
    refine lv_iconst (v := (2 : Int32)) hx hb dX12_isPersonHere_29 (by decide) ?_
    refine x_iald X hK hw (ml_mem mb 6 (by decide)) (ml_S mb 6 rfl) (by decide) rfl dX12_isPersonHere_30 ?_
    refine lv_imul hx hb dX12_isPersonHere_31 ?_
    refine lv_iadd hx hb dX12_isPersonHere_32 ?_
    refine lv_topi (fun x2_6 ex2_6 => ?_)
    have hf := yb_let_to ex2_6 hf
    refine lv_istore_n (lv' := [(2, .int x2_6), (0, .ref mb), (1, .int x1)]) hx hb dX12_isPersonHere_33 rfl hl (by decide) rfl (fun ls hl => ?_)
    refine lv_aload_n hx hb dX12_isPersonHere_34 rfl (lv_at hl 1 rfl) ?_
    refine lv_iload_n hx hb dX12_isPersonHere_35 rfl (lv_at hl 0 rfl) ?_
    refine lv_iconst (v := (0 : Int32)) hx hb dX12_isPersonHere_36 (by decide) ?_
    refine lv_sipush (v := (9999 : Int32)) hx hb dX12_isPersonHere_37 (by decide) ?_
    obtain ⟨r_7, I_8, J_9, hq_10, hf⟩ := yb_b3_some hf
    refine x_calli X hK hw (c12_cellHere l D cz ev mb hq_10) (ml_mem0 mb) (ml_S0 mb) cpX12.1 vw_X12_242 ⟨Nat.le_of_ble_eq_true rfl, Nat.le_of_ble_eq_true rfl⟩ rfl rfl (Nat.le_of_ble_eq_true rfl) hl.1 ⟨Nat.le_refl _, Nat.le_refl _⟩ dX12_isPersonHere_40 (fun H locs hw => ?_)
    refine lv_if_eq (tgt := 72) hx hb dX12_isPersonHere_43 (by decide) (fun c_11 => ?_) (fun c_11 => ?_)
    · have hf := yb_pos c_11 hf
      refine lv_iconst (v := (0 : Int32)) hx hb dX12_isPersonHere_72 (by decide) ?_
      exact yb_retz hfin (by decide) hf hw dX12_isPersonHere_73
    · have hf := yb_neg c_11 hf
      refine lv_aload_n hx hb dX12_isPersonHere_46 rfl (lv_at hl 1 rfl) ?_
      refine lv_iload_n hx hb dX12_isPersonHere_47 rfl (lv_at hl 0 rfl) ?_
      refine lv_iconst (v := (1 : Int32)) hx hb dX12_isPersonHere_48 (by decide) ?_
      refine lv_iadd hx hb dX12_isPersonHere_49 ?_
      refine lv_iconst (v := (0 : Int32)) hx hb dX12_isPersonHere_50 (by decide) ?_
      refine lv_bipush (v := (9 : Int32)) hx hb dX12_isPersonHere_51 (by decide) ?_
      obtain ⟨r_12, I_13, J_14, hq_15, hf⟩ := yb_b3_some hf
      refine x_calli X hK hw (c12_cellHere l D cz ev mb hq_15) (ml_mem0 mb) (ml_S0 mb) cpX12.1 vw_X12_242 ⟨Nat.le_of_ble_eq_true rfl, Nat.le_of_ble_eq_true rfl⟩ rfl rfl (Nat.le_of_ble_eq_true rfl) hl.1 ⟨Nat.le_refl _, Nat.le_refl _⟩ dX12_isPersonHere_53 (fun H locs hw => ?_)
      refine lv_if_eq (tgt := 72) hx hb dX12_isPersonHere_56 (by decide) (fun c_16 => ?_) (fun c_16 => ?_)
      · have hf := yb_pos c_16 hf
        refine lv_iconst (v := (0 : Int32)) hx hb dX12_isPersonHere_72 (by decide) ?_
        exact yb_retz hfin (by decide) hf hw dX12_isPersonHere_73
      · have hf := yb_neg c_16 hf
        refine lv_aload_n hx hb dX12_isPersonHere_59 rfl (lv_at hl 1 rfl) ?_
        refine lv_iload_n hx hb dX12_isPersonHere_60 rfl (lv_at hl 0 rfl) ?_
        refine lv_iconst (v := (2 : Int32)) hx hb dX12_isPersonHere_61 (by decide) ?_
        refine lv_iadd hx hb dX12_isPersonHere_62 ?_
        refine lv_iconst (v := (0 : Int32)) hx hb dX12_isPersonHere_63 (by decide) ?_
        refine lv_bipush (v := (9 : Int32)) hx hb dX12_isPersonHere_64 (by decide) ?_
        obtain ⟨r_17, I_18, J_19, hq_20, hf⟩ := yb_b3_some hf
        refine x_calli X hK hw (c12_cellHere l D cz ev mb hq_20) (ml_mem0 mb) (ml_S0 mb) cpX12.1 vw_X12_242 ⟨Nat.le_of_ble_eq_true rfl, Nat.le_of_ble_eq_true rfl⟩ rfl rfl (Nat.le_of_ble_eq_true rfl) hl.1 ⟨Nat.le_refl _, Nat.le_refl _⟩ dX12_isPersonHere_66 (fun H locs hw => ?_)
        refine lv_if_ne (tgt := 74) hx hb dX12_isPersonHere_69 (by decide) (fun c_21 => ?_) (fun c_21 => ?_)
        · have hf := yb_neg c_21 hf
          refine lv_aload_n hx hb dX12_isPersonHere_74 rfl (lv_at hl 1 rfl) ?_
          refine x_getR X hK hw (ml_mem0 mb) (ml_S0 mb) cpX12 7 (by decide) rfl (ml_R mb 7 rfl) tw_1258 dX12_isPersonHere_75 ?_
          refine lv_iload_n hx hb dX12_isPersonHere_78 rfl (lv_at hl 0 rfl) ?_
          refine lv_iconst (v := (3 : Int32)) hx hb dX12_isPersonHere_79 (by decide) ?_
          refine lv_iadd hx hb dX12_isPersonHere_80 ?_
          refine lv_iconst (v := (0 : Int32)) hx hb dX12_isPersonHere_81 (by decide) ?_
          obtain ⟨hi_22, hf⟩ := yb_ck_some hf
          refine x_iast X hK hw (ml_mem mb 6 (by decide)) (ml_S mb 6 rfl) hi_22 rfl dX12_isPersonHere_82 (fun H locs hw => ?_)
          obtain ⟨I_23, eI_23, hf⟩ := yb_let_ex hf
          have hw := yb_wI eI_23 hw
          refine lv_aload_n hx hb dX12_isPersonHere_83 rfl (lv_at hl 1 rfl) ?_
          refine x_getR X hK hw (ml_mem0 mb) (ml_S0 mb) cpX12 7 (by decide) rfl (ml_R mb 7 rfl) tw_1258 dX12_isPersonHere_84 ?_
          refine lv_iload_n hx hb dX12_isPersonHere_87 rfl (lv_at hl 0 rfl) ?_
          refine lv_iconst (v := (4 : Int32)) hx hb dX12_isPersonHere_88 (by decide) ?_
          refine lv_iadd hx hb dX12_isPersonHere_89 ?_
          refine lv_iconst (v := (0 : Int32)) hx hb dX12_isPersonHere_90 (by decide) ?_
          obtain ⟨hi_24, hf⟩ := yb_ck_some hf
          refine x_iast X hK hw (ml_mem mb 6 (by decide)) (ml_S mb 6 rfl) hi_24 rfl dX12_isPersonHere_91 (fun H locs hw => ?_)
          obtain ⟨I_25, eI_25, hf⟩ := yb_let_ex hf
          have hw := yb_wI eI_25 hw
          refine lv_aload_n hx hb dX12_isPersonHere_92 rfl (lv_at hl 1 rfl) ?_
          refine x_getR X hK hw (ml_mem0 mb) (ml_S0 mb) cpX12 7 (by decide) rfl (ml_R mb 7 rfl) tw_1258 dX12_isPersonHere_93 ?_
          refine lv_iconst (v := (2 : Int32)) hx hb dX12_isPersonHere_96 (by decide) ?_
          refine lv_dup2_11 hx hb dX12_isPersonHere_97 rfl rfl ?_
          refine x_iald X hK hw (ml_mem mb 6 (by decide)) (ml_S mb 6 rfl) (by decide) rfl dX12_isPersonHere_98 ?_
          refine lv_iconst (v := (1 : Int32)) hx hb dX12_isPersonHere_99 (by decide) ?_
          refine lv_iadd hx hb dX12_isPersonHere_100 ?_
          refine x_iast X hK hw (ml_mem mb 6 (by decide)) (ml_S mb 6 rfl) (by decide) rfl dX12_isPersonHere_101 (fun H locs hw => ?_)
          obtain ⟨I_26, eI_26, hf⟩ := yb_let_ex hf
          have hw := yb_wI eI_26 hw
          refine lv_iconst (v := (1 : Int32)) hx hb dX12_isPersonHere_102 (by decide) ?_
          exact yb_retz hfin (by decide) hf hw dX12_isPersonHere_103
        · have hf := yb_pos c_21 hf
          refine lv_iconst (v := (0 : Int32)) hx hb dX12_isPersonHere_72 (by decide) ?_
          exact yb_retz hfin (by decide) hf hw dX12_isPersonHere_73
  · have hf := yb_pos c_1 hf
    refine lv_aload_n hx hb dX12_isPersonHere_11 rfl (lv_at hl 0 rfl) ?_
    refine lv_iconst (v := (4 : Int32)) hx hb dX12_isPersonHere_12 (by decide) ?_
    refine lv_iload_n hx hb dX12_isPersonHere_13 rfl (lv_at hl 1 rfl) ?_
    obtain ⟨r_27, I_28, J_29, hq_30, hf⟩ := yb_b3_some hf
    refine x_calli X hK hw (c12_fails l D cz ev mb hq_30) (ml_mem0 mb) (ml_S0 mb) cpX12.1 vw_X12_135 ⟨Nat.le_of_ble_eq_true rfl, Nat.le_of_ble_eq_true rfl⟩ rfl rfl (Nat.le_of_ble_eq_true rfl) hl.1 ⟨Nat.le_refl _, Nat.le_refl _⟩ dX12_isPersonHere_14 (fun H locs hw => ?_)
    obtain ⟨hz_31, hf⟩ := yb_ck_some hf
    exact yb_retz hfin hz_31 hf hw dX12_isPersonHere_17
set_option maxHeartbeats 4000000 in
set_option maxRecDepth 100000 in
theorem c12_areTwinsHere (l : Launch) (D : va_G) (cz : Nat → ClassId) (ev : Nat × Nat × Nat) (mb : Nat) {N : Nat} {x1 : Int32} {I : IT} {J : JT} {r : Int32} {I1 : IT} {J1 : JT} (hf : f12_areTwinsHere N mb x1 I J = some (r, I1, J1)) : MTi l D cz ev yX12_areTwinsHere cX12_areTwinsHere 4 (some .boolean) 2 49 [.ref mb, .int x1] (mlL mb) (mlS mb) (mlR mb) I J r I1 J1 := by
  unfold f12_areTwinsHere at hf
  refine MTz_of (by decide) (Nat.le_of_ble_eq_true rfl) ?_
  intro p e s m args below meth c Q ls X hK hw hl hfin
  have X : CallFix p m c cX12_areTwinsHere 4 s args gw RX12 := X
  have hx := X.1
  have hb := X.2.1
  have hl : lv_has ls 4 [(0, .ref mb), (1, .int x1)] := hl
  refine lv_aload_n hx hb dX12_areTwinsHere_0 rfl (lv_at hl 0 rfl) ?_
  refine x_getR X hK hw (ml_mem0 mb) (ml_S0 mb) cpX12 7 (by decide) rfl (ml_R mb 7 rfl) tw_1258 dX12_areTwinsHere_1 ?_
  refine lv_bipush (v := (7 : Int32)) hx hb dX12_areTwinsHere_4 (by decide) ?_
  refine x_iald X hK hw (ml_mem mb 6 (by decide)) (ml_S mb 6 rfl) (by decide) rfl dX12_areTwinsHere_6 ?_
  refine lv_iconst (v := (4 : Int32)) hx hb dX12_areTwinsHere_7 (by decide) ?_
  refine lv_icmp_ne (tgt := 18) hx hb dX12_areTwinsHere_8 (by decide) (fun c_1 => ?_) (fun c_1 => ?_)
  · have hf := yb_neg c_1 hf
    refine lv_aload_n hx hb dX12_areTwinsHere_18 rfl (lv_at hl 0 rfl) ?_
    obtain ⟨r_2, I_3, J_4, hq_5, hf⟩ := yb_b3_some hf
    refine x_callv X hK hw (c12_passWord l D cz ev mb hq_5) (ml_mem0 mb) (ml_S0 mb) cpX12.1 vw_X12_129 ⟨Nat.le_of_ble_eq_true rfl, Nat.le_of_ble_eq_true rfl⟩ rfl rfl (Nat.le_of_ble_eq_true rfl) hl.1 ⟨Nat.le_refl _, Nat.le_refl _⟩ dX12_areTwinsHere_19 (fun H locs hw => ?_)
    refine lv_aload_n hx hb dX12_areTwinsHere_22 rfl (lv_at hl 0 rfl) ?_
    refine lv_iconst (v := (0 : Int32)) hx hb dX12_areTwinsHere_23 (by decide) ?_
    refine lv_aload_n hx hb dX12_areTwinsHere_24 rfl (lv_at hl 0 rfl) ?_
    refine x_getR X hK hw (ml_mem0 mb) (ml_S0 mb) cpX12 7 (by decide) rfl (ml_R mb 7 rfl) tw_1258 dX12_areTwinsHere_25 ?_
    refine lv_iconst (v := (2 : Int32)) hx hb dX12_areTwinsHere_28 (by decide) ?_
    refine x_iald X hK hw (ml_mem mb 6 (by decide)) (ml_S mb 6 rfl) (by decide) rfl dX12_areTwinsHere_29 ?_
    refine lv_iconst (v := (1 : Int32)) hx hb dX12_areTwinsHere_30 (by decide) ?_
    refine lv_isub hx hb dX12_areTwinsHere_31 ?_
    obtain ⟨r_6, I_7, J_8, hq_9, hf⟩ := yb_b3_some hf
    refine x_calli X hK hw (c12_numberHere l D cz ev mb hq_9) (ml_mem0 mb) (ml_S0 mb) cpX12.1 vw_X12_191 ⟨Nat.le_of_ble_eq_true rfl, Nat.le_of_ble_eq_true rfl⟩ rfl rfl (Nat.le_of_ble_eq_true rfl) hl.1 ⟨Nat.le_refl _, Nat.le_refl _⟩ dX12_areTwinsHere_32 (fun H locs hw => ?_)
    refine lv_if_ne (tgt := 40) hx hb dX12_areTwinsHere_35 (by decide) (fun c_10 => ?_) (fun c_10 => ?_)
    · have hf := yb_neg c_10 hf
      refine lv_aload_n hx hb dX12_areTwinsHere_40 rfl (lv_at hl 0 rfl) ?_
      refine x_getI X hK hw (ml_mem0 mb) (ml_S0 mb) cpX12 10 (by decide) rfl tw_1261 dX12_areTwinsHere_41 ?_
      refine lv_topi (fun x2_11 ex2_11 => ?_)
      have hf := yb_let_to ex2_11 hf
      refine lv_istore_n (lv' := [(2, .int x2_11), (0, .ref mb), (1, .int x1)]) hx hb dX12_areTwinsHere_44 rfl hl (by decide) rfl (fun ls hl => ?_)
      refine lv_aload_n hx hb dX12_areTwinsHere_45 rfl (lv_at hl 1 rfl) ?_
      obtain ⟨r_12, I_13, J_14, hq_15, hf⟩ := yb_b3_some hf
      refine x_calli X hK hw (c12_see l D cz ev mb hq_15) (ml_mem0 mb) (ml_S0 mb) cpX12.1 vw_X12_117 ⟨Nat.le_of_ble_eq_true rfl, Nat.le_of_ble_eq_true rfl⟩ rfl rfl (Nat.le_of_ble_eq_true rfl) hl.1 ⟨Nat.le_refl _, Nat.le_refl _⟩ dX12_areTwinsHere_46 (fun H locs hw => ?_)
      refine lv_pop hx hb dX12_areTwinsHere_49 rfl ?_
      refine lv_aload_n hx hb dX12_areTwinsHere_50 rfl (lv_at hl 1 rfl) ?_
      refine x_getI X hK hw (ml_mem0 mb) (ml_S0 mb) cpX12 8 (by decide) rfl tw_1259 dX12_areTwinsHere_51 ?_
      refine lv_topi (fun x3_16 ex3_16 => ?_)
      have hf := yb_let_to ex3_16 hf
      refine lv_istore_n (lv' := [(3, .int x3_16), (2, .int x2_11), (0, .ref mb), (1, .int x1)]) hx hb dX12_areTwinsHere_54 rfl hl (by decide) rfl (fun ls hl => ?_)
      refine lv_aload_n hx hb dX12_areTwinsHere_55 rfl (lv_at hl 2 rfl) ?_
      refine lv_iconst (v := (0 : Int32)) hx hb dX12_areTwinsHere_56 (by decide) ?_
      refine lv_aload_n hx hb dX12_areTwinsHere_57 rfl (lv_at hl 2 rfl) ?_
      refine x_getR X hK hw (ml_mem0 mb) (ml_S0 mb) cpX12 7 (by decide) rfl (ml_R mb 7 rfl) tw_1258 dX12_areTwinsHere_58 ?_
      refine lv_iconst (v := (2 : Int32)) hx hb dX12_areTwinsHere_61 (by decide) ?_
      refine x_iald X hK hw (ml_mem mb 6 (by decide)) (ml_S mb 6 rfl) (by decide) rfl dX12_areTwinsHere_62 ?_
      refine lv_iconst (v := (1 : Int32)) hx hb dX12_areTwinsHere_63 (by decide) ?_
      refine lv_isub hx hb dX12_areTwinsHere_64 ?_
      obtain ⟨r_17, I_18, J_19, hq_20, hf⟩ := yb_b3_some hf
      refine x_calli X hK hw (c12_numberHere l D cz ev mb hq_20) (ml_mem0 mb) (ml_S0 mb) cpX12.1 vw_X12_191 ⟨Nat.le_of_ble_eq_true rfl, Nat.le_of_ble_eq_true rfl⟩ rfl rfl (Nat.le_of_ble_eq_true rfl) hl.1 ⟨Nat.le_refl _, Nat.le_refl _⟩ dX12_areTwinsHere_65 (fun H locs hw => ?_)
      refine lv_if_ne (tgt := 73) hx hb dX12_areTwinsHere_68 (by decide) (fun c_21 => ?_) (fun c_21 => ?_)
      · have hf := yb_neg c_21 hf
        refine lv_aload_n hx hb dX12_areTwinsHere_73 rfl (lv_at hl 2 rfl) ?_
        refine x_getI X hK hw (ml_mem0 mb) (ml_S0 mb) cpX12 10 (by decide) rfl tw_1261 dX12_areTwinsHere_74 ?_
        refine lv_iload_n hx hb dX12_areTwinsHere_77 rfl (lv_at hl 1 rfl) ?_
        refine lv_icmp_ne (tgt := 88) hx hb dX12_areTwinsHere_78 (by decide) (fun c_22 => ?_) (fun c_22 => ?_)
        · have hf := yb_neg c_22 hf
          refine lv_aload_n hx hb dX12_areTwinsHere_88 rfl (lv_at hl 2 rfl) ?_
          refine x_getR X hK hw (ml_mem0 mb) (ml_S0 mb) cpX12 7 (by decide) rfl (ml_R mb 7 rfl) tw_1258 dX12_areTwinsHere_89 ?_
          refine lv_bipush (v := (10 : Int32)) hx hb dX12_areTwinsHere_92 (by decide) ?_
          refine lv_iconst (v := (5 : Int32)) hx hb dX12_areTwinsHere_94 (by decide) ?_
          refine lv_iload_n hx hb dX12_areTwinsHere_95 rfl (lv_at hl 1 rfl) ?_
          refine lv_imul hx hb dX12_areTwinsHere_96 ?_
          refine lv_iadd hx hb dX12_areTwinsHere_97 ?_
          refine lv_iconst (v := (3 : Int32)) hx hb dX12_areTwinsHere_98 (by decide) ?_
          refine lv_iadd hx hb dX12_areTwinsHere_99 ?_
          refine lv_dup2_11 hx hb dX12_areTwinsHere_100 rfl rfl ?_
          obtain ⟨hi_23, hf⟩ := yb_ck_some hf
          refine x_iald X hK hw (ml_mem mb 6 (by decide)) (ml_S mb 6 rfl) hi_23 rfl dX12_areTwinsHere_101 ?_
          refine lv_iconst (v := (1 : Int32)) hx hb dX12_areTwinsHere_102 (by decide) ?_
          refine lv_aload_n hx hb dX12_areTwinsHere_103 rfl (lv_at hl 2 rfl) ?_
          refine x_getI X hK hw (ml_mem0 mb) (ml_S0 mb) cpX12 10 (by decide) rfl tw_1261 dX12_areTwinsHere_104 ?_
          refine lv_ishl hx hb dX12_areTwinsHere_107 ?_
          refine lv_ior hx hb dX12_areTwinsHere_108 ?_
          refine x_iast X hK hw (ml_mem mb 6 (by decide)) (ml_S mb 6 rfl) hi_23 rfl dX12_areTwinsHere_109 (fun H locs hw => ?_)
          obtain ⟨I_24, eI_24, hf⟩ := yb_let_ex hf
          have hw := yb_wI eI_24 hw
          refine lv_aload_n hx hb dX12_areTwinsHere_110 rfl (lv_at hl 2 rfl) ?_
          refine x_getR X hK hw (ml_mem0 mb) (ml_S0 mb) cpX12 7 (by decide) rfl (ml_R mb 7 rfl) tw_1258 dX12_areTwinsHere_111 ?_
          refine lv_bipush (v := (10 : Int32)) hx hb dX12_areTwinsHere_114 (by decide) ?_
          refine lv_iconst (v := (5 : Int32)) hx hb dX12_areTwinsHere_116 (by decide) ?_
          refine lv_aload_n hx hb dX12_areTwinsHere_117 rfl (lv_at hl 2 rfl) ?_
          refine x_getI X hK hw (ml_mem0 mb) (ml_S0 mb) cpX12 10 (by decide) rfl tw_1261 dX12_areTwinsHere_118 ?_
          refine lv_imul hx hb dX12_areTwinsHere_121 ?_
          refine lv_iadd hx hb dX12_areTwinsHere_122 ?_
          refine lv_iconst (v := (3 : Int32)) hx hb dX12_areTwinsHere_123 (by decide) ?_
          refine lv_iadd hx hb dX12_areTwinsHere_124 ?_
          refine lv_dup2_11 hx hb dX12_areTwinsHere_125 rfl rfl ?_
          obtain ⟨hi_25, hf⟩ := yb_ck_some hf
          refine x_iald X hK hw (ml_mem mb 6 (by decide)) (ml_S mb 6 rfl) hi_25 rfl dX12_areTwinsHere_126 ?_
          refine lv_iconst (v := (1 : Int32)) hx hb dX12_areTwinsHere_127 (by decide) ?_
          refine lv_iload_n hx hb dX12_areTwinsHere_128 rfl (lv_at hl 1 rfl) ?_
          refine lv_ishl hx hb dX12_areTwinsHere_129 ?_
          refine lv_ior hx hb dX12_areTwinsHere_130 ?_
          refine x_iast X hK hw (ml_mem mb 6 (by decide)) (ml_S mb 6 rfl) hi_25 rfl dX12_areTwinsHere_131 (fun H locs hw => ?_)
          obtain ⟨I_26, eI_26, hf⟩ := yb_let_ex hf
          have hw := yb_wI eI_26 hw
          refine lv_aload_n hx hb dX12_areTwinsHere_132 rfl (lv_at hl 2 rfl) ?_
          refine x_getR X hK hw (ml_mem0 mb) (ml_S0 mb) cpX12 7 (by decide) rfl (ml_R mb 7 rfl) tw_1258 dX12_areTwinsHere_133 ?_
          refine lv_bipush (v := (7 : Int32)) hx hb dX12_areTwinsHere_136 (by decide) ?_
          refine lv_dup2_11 hx hb dX12_areTwinsHere_138 rfl rfl ?_
          refine x_iald X hK hw (ml_mem mb 6 (by decide)) (ml_S mb 6 rfl) (by decide) rfl dX12_areTwinsHere_139 ?_
          refine lv_iconst (v := (1 : Int32)) hx hb dX12_areTwinsHere_140 (by decide) ?_
          refine lv_iadd hx hb dX12_areTwinsHere_141 ?_
          refine x_iast X hK hw (ml_mem mb 6 (by decide)) (ml_S mb 6 rfl) (by decide) rfl dX12_areTwinsHere_142 (fun H locs hw => ?_)
          obtain ⟨I_27, eI_27, hf⟩ := yb_let_ex hf
          have hw := yb_wI eI_27 hw
          refine lv_iconst (v := (1 : Int32)) hx hb dX12_areTwinsHere_143 (by decide) ?_
          exact yb_retz hfin (by decide) hf hw dX12_areTwinsHere_144
        · have hf := yb_pos c_22 hf
          refine lv_aload_n hx hb dX12_areTwinsHere_81 rfl (lv_at hl 2 rfl) ?_
          refine lv_iconst (v := (1 : Int32)) hx hb dX12_areTwinsHere_82 (by decide) ?_
          refine lv_iload_n hx hb dX12_areTwinsHere_83 rfl (lv_at hl 0 rfl) ?_
          obtain ⟨r_28, I_29, J_30, hq_31, hf⟩ := yb_b3_some hf
          refine x_calli X hK hw (c12_fails l D cz ev mb hq_31) (ml_mem0 mb) (ml_S0 mb) cpX12.1 vw_X12_135 ⟨Nat.le_of_ble_eq_true rfl, Nat.le_of_ble_eq_true rfl⟩ rfl rfl (Nat.le_of_ble_eq_true rfl) hl.1 ⟨Nat.le_refl _, Nat.le_refl _⟩ dX12_areTwinsHere_84 (fun H locs hw => ?_)
          obtain ⟨hz_32, hf⟩ := yb_ck_some hf
          exact yb_retz hfin hz_32 hf hw dX12_areTwinsHere_87
      · have hf := yb_pos c_21 hf
        refine lv_iconst (v := (0 : Int32)) hx hb dX12_areTwinsHere_71 (by decide) ?_
        exact yb_retz hfin (by decide) hf hw dX12_areTwinsHere_72
    · have hf := yb_pos c_10 hf
      refine lv_iconst (v := (0 : Int32)) hx hb dX12_areTwinsHere_38 (by decide) ?_
      exact yb_retz hfin (by decide) hf hw dX12_areTwinsHere_39
  · have hf := yb_pos c_1 hf
    refine lv_aload_n hx hb dX12_areTwinsHere_11 rfl (lv_at hl 0 rfl) ?_
    refine lv_iconst (v := (4 : Int32)) hx hb dX12_areTwinsHere_12 (by decide) ?_
    refine lv_iload_n hx hb dX12_areTwinsHere_13 rfl (lv_at hl 1 rfl) ?_
    obtain ⟨r_33, I_34, J_35, hq_36, hf⟩ := yb_b3_some hf
    refine x_calli X hK hw (c12_fails l D cz ev mb hq_36) (ml_mem0 mb) (ml_S0 mb) cpX12.1 vw_X12_135 ⟨Nat.le_of_ble_eq_true rfl, Nat.le_of_ble_eq_true rfl⟩ rfl rfl (Nat.le_of_ble_eq_true rfl) hl.1 ⟨Nat.le_refl _, Nat.le_refl _⟩ dX12_areTwinsHere_14 (fun H locs hw => ?_)
    obtain ⟨hz_37, hf⟩ := yb_ck_some hf
    exact yb_retz hfin hz_37 hf hw dX12_areTwinsHere_17
set_option maxHeartbeats 4000000 in
set_option maxRecDepth 100000 in
theorem w12_isCaseHere_L95 {p : Program} {l : Launch} {e : Env} {s : State} {m : MethodId} {args : Array Value} {below : List Frame} {meth : Method} {c : Code} {Q : State → Prop} {D : va_G} {cz : Nat → ClassId} {A : Nat → Prop} {ev : Nat × Nat × Nat} {mb : Nat} (X : CallFix p m c cX12_isCaseHere 4 s args gw RX12) (hK : KX D cz ev A s) {N : Nat} {x2 : Int32} :
    ∀ (n : Nat) (x3 : Int32) (I : IT) (J : JT) (q : (Unit)) (I1 : IT) (J1 : JT) (H : Heap) (locs : List Loc) (ls : Array Slot), f12_isCaseHere_L95 N mb x2 n x3 I J = some (q, I1, J1) → WX D cz A (mlL mb) (mlS mb) (mlR mb) s.heap I J H locs → lv_has ls 4 [(0, .ref mb), (2, .int x2), (3, .int x3)] →
    (∀ (H : Heap) (locs : List Loc) (ls : Array Slot), WX D cz A (mlL mb) (mlS mb) (mlR mb) s.heap I1 J1 H locs → lv_has ls 4 [(0, .ref mb)] → W p l e (rmX 3 72) s m args below meth c H locs 0 0 Q (F0 m 137 ls [])) →
    W p l e (rmX 3 72) s m args below meth c H locs 0 0 Q (F0 m 95 ls []) := by
  have hx := X.1
  have hb := X.2.1
  intro n
  induction n with
  | zero =>
    intro x3 I J q I1 J1 H locs ls hf
    rw [f12_isCaseHere_L95] at hf
    cases hf
  | succ n ih =>
    intro x3 I J q I1 J1 H locs ls hf hw hl hexit
    rw [f12_isCaseHere_L95] at hf
    refine lv_iload_n hx hb dX12_isCaseHere_95 rfl (lv_at hl 2 rfl) ?_
    refine lv_bipush (v := (11 : Int32)) hx hb dX12_isCaseHere_96 (by decide) ?_
    refine lv_icmp_ge (tgt := 137) hx hb dX12_isCaseHere_98 (by decide) (fun c_27 => ?_) (fun c_27 => ?_)
    · have hf := yb_pos c_27 hf
      obtain ⟨rfl, rfl, rfl⟩ := yb_inj hf
      exact hexit _ _ _ hw (lv_sub hl [0] rfl)
    · have hf := yb_neg c_27 hf
      refine lv_aload_n hx hb dX12_isCaseHere_101 rfl (lv_at hl 0 rfl) ?_
      refine x_getR X hK hw (ml_mem0 mb) (ml_S0 mb) cpX12 7 (by decide) rfl (ml_R mb 7 rfl) tw_1258 dX12_isCaseHere_102 ?_
      refine lv_iload_n hx hb dX12_isCaseHere_105 rfl (lv_at hl 1 rfl) ?_
      refine lv_iload_n hx hb dX12_isCaseHere_106 rfl (lv_at hl 2 rfl) ?_
      refine lv_iadd hx hb dX12_isCaseHere_107 ?_
      refine lv_iload_n hx hb dX12_isCaseHere_108 rfl (lv_at hl 2 rfl) ?_
      refine lv_iconst (v := (5 : Int32)) hx hb dX12_isCaseHere_109 (by decide) ?_
      refine lv_icmp_eq (tgt := 125) hx hb dX12_isCaseHere_110 (by decide) (fun c_28 => ?_) (fun c_28 => ?_)
      · have hf := yb_pos c_28 hf
        refine lv_iconst (v := (0 : Int32)) hx hb dX12_isCaseHere_125 (by decide) ?_
        refine lv_goto (tgt := 130) hx hb dX12_isCaseHere_126 (by decide) ?_
        obtain ⟨hi_29, hf⟩ := yb_ck_some hf
        refine x_iast X hK hw (ml_mem mb 6 (by decide)) (ml_S mb 6 rfl) hi_29 rfl dX12_isCaseHere_130 (fun H locs hw => ?_)
        obtain ⟨I_30, eI_30, hf⟩ := yb_let_ex hf
        have hw := yb_wI eI_30 hw
        obtain ⟨x3_31, ex3_31, hf⟩ := yb_let_ex hf
        refine lv_iinc (v := x3_31) (lv' := [(3, .int x3_31), (0, .ref mb), (2, .int x2)]) hx hb dX12_isCaseHere_131 hl (k := 2) rfl (by rw [ex3_31]; rfl) (by decide) rfl (fun ls hl => ?_)
        refine lv_goto (tgt := 95) hx hb dX12_isCaseHere_134 (by decide) ?_
        exact ih _ _ _ _ _ _ _ _ _ hf hw (lv_sub hl [1, 2, 0] rfl) hexit
      · have hf := yb_neg c_28 hf
        refine lv_iload_n hx hb dX12_isCaseHere_113 rfl (lv_at hl 2 rfl) ?_
        refine lv_bipush (v := (9 : Int32)) hx hb dX12_isCaseHere_114 (by decide) ?_
        refine lv_icmp_eq (tgt := 125) hx hb dX12_isCaseHere_116 (by decide) (fun c_32 => ?_) (fun c_32 => ?_)
        · have hf := yb_pos c_32 hf
          refine lv_iconst (v := (0 : Int32)) hx hb dX12_isCaseHere_125 (by decide) ?_
          refine lv_goto (tgt := 130) hx hb dX12_isCaseHere_126 (by decide) ?_
          obtain ⟨hi_33, hf⟩ := yb_ck_some hf
          refine x_iast X hK hw (ml_mem mb 6 (by decide)) (ml_S mb 6 rfl) hi_33 rfl dX12_isCaseHere_130 (fun H locs hw => ?_)
          obtain ⟨I_34, eI_34, hf⟩ := yb_let_ex hf
          have hw := yb_wI eI_34 hw
          obtain ⟨x3_35, ex3_35, hf⟩ := yb_let_ex hf
          refine lv_iinc (v := x3_35) (lv' := [(3, .int x3_35), (0, .ref mb), (2, .int x2)]) hx hb dX12_isCaseHere_131 hl (k := 2) rfl (by rw [ex3_35]; rfl) (by decide) rfl (fun ls hl => ?_)
          refine lv_goto (tgt := 95) hx hb dX12_isCaseHere_134 (by decide) ?_
          exact ih _ _ _ _ _ _ _ _ _ hf hw (lv_sub hl [1, 2, 0] rfl) hexit
        · have hf := yb_neg c_32 hf
          refine lv_iload_n hx hb dX12_isCaseHere_119 rfl (lv_at hl 2 rfl) ?_
          refine lv_bipush (v := (10 : Int32)) hx hb dX12_isCaseHere_120 (by decide) ?_
          refine lv_icmp_ne (tgt := 129) hx hb dX12_isCaseHere_122 (by decide) (fun c_36 => ?_) (fun c_36 => ?_)
          · have hf := yb_neg c_36 hf
            refine lv_iconst (v := (-1 : Int32)) hx hb dX12_isCaseHere_129 (by decide) ?_
            obtain ⟨hi_37, hf⟩ := yb_ck_some hf
            refine x_iast X hK hw (ml_mem mb 6 (by decide)) (ml_S mb 6 rfl) hi_37 rfl dX12_isCaseHere_130 (fun H locs hw => ?_)
            obtain ⟨I_38, eI_38, hf⟩ := yb_let_ex hf
            have hw := yb_wI eI_38 hw
            obtain ⟨x3_39, ex3_39, hf⟩ := yb_let_ex hf
            refine lv_iinc (v := x3_39) (lv' := [(3, .int x3_39), (0, .ref mb), (2, .int x2)]) hx hb dX12_isCaseHere_131 hl (k := 2) rfl (by rw [ex3_39]; rfl) (by decide) rfl (fun ls hl => ?_)
            refine lv_goto (tgt := 95) hx hb dX12_isCaseHere_134 (by decide) ?_
            exact ih _ _ _ _ _ _ _ _ _ hf hw (lv_sub hl [1, 2, 0] rfl) hexit
          · have hf := yb_pos c_36 hf
            refine lv_iconst (v := (0 : Int32)) hx hb dX12_isCaseHere_125 (by decide) ?_
            refine lv_goto (tgt := 130) hx hb dX12_isCaseHere_126 (by decide) ?_
            obtain ⟨hi_40, hf⟩ := yb_ck_some hf
            refine x_iast X hK hw (ml_mem mb 6 (by decide)) (ml_S mb 6 rfl) hi_40 rfl dX12_isCaseHere_130 (fun H locs hw => ?_)
            obtain ⟨I_41, eI_41, hf⟩ := yb_let_ex hf
            have hw := yb_wI eI_41 hw
            obtain ⟨x3_42, ex3_42, hf⟩ := yb_let_ex hf
            refine lv_iinc (v := x3_42) (lv' := [(3, .int x3_42), (0, .ref mb), (2, .int x2)]) hx hb dX12_isCaseHere_131 hl (k := 2) rfl (by rw [ex3_42]; rfl) (by decide) rfl (fun ls hl => ?_)
            refine lv_goto (tgt := 95) hx hb dX12_isCaseHere_134 (by decide) ?_
            exact ih _ _ _ _ _ _ _ _ _ hf hw (lv_sub hl [1, 2, 0] rfl) hexit
set_option maxHeartbeats 4000000 in
set_option maxRecDepth 100000 in
theorem c12_isCaseHere (l : Launch) (D : va_G) (cz : Nat → ClassId) (ev : Nat × Nat × Nat) (mb : Nat) {N : Nat} {x1 : Int32} {I : IT} {J : JT} {r : Int32} {I1 : IT} {J1 : JT} (hf : f12_isCaseHere N mb x1 I J = some (r, I1, J1)) : MTi l D cz ev yX12_isCaseHere cX12_isCaseHere 4 (some .boolean) 3 72 [.ref mb, .int x1] (mlL mb) (mlS mb) (mlR mb) I J r I1 J1 := by
  unfold f12_isCaseHere at hf
  refine MTz_of (by decide) (Nat.le_of_ble_eq_true rfl) ?_
  intro p e s m args below meth c Q ls X hK hw hl hfin
  have X : CallFix p m c cX12_isCaseHere 4 s args gw RX12 := X
  have hx := X.1
  have hb := X.2.1
  have hl : lv_has ls 4 [(0, .ref mb), (1, .int x1)] := hl
  refine lv_aload_n hx hb dX12_isCaseHere_0 rfl (lv_at hl 0 rfl) ?_
  refine x_getR X hK hw (ml_mem0 mb) (ml_S0 mb) cpX12 7 (by decide) rfl (ml_R mb 7 rfl) tw_1258 dX12_isCaseHere_1 ?_
  refine lv_iconst (v := (3 : Int32)) hx hb dX12_isCaseHere_4 (by decide) ?_
  refine x_iald X hK hw (ml_mem mb 6 (by decide)) (ml_S mb 6 rfl) (by decide) rfl dX12_isCaseHere_5 ?_
  refine lv_bipush (v := (6 : Int32)) hx hb dX12_isCaseHere_6 (by decide) ?_
  refine lv_icmp_ne (tgt := 18) hx hb dX12_isCaseHere_8 (by decide) (fun c_1 => ?_) (fun c_1 => ?_)
  · have hf := yb_neg c_1 hf
    refine lv_aload_n hx hb dX12_isCaseHere_18 rfl (lv_at hl 0 rfl) ?_
    obtain ⟨r_2, I_3, J_4, hq_5, hf⟩ := yb_b3_some hf
    refine x_callv X hK hw (c12_passWord l D cz ev mb hq_5) (ml_mem0 mb) (ml_S0 mb) cpX12.1 vw_X12_129 ⟨Nat.le_of_ble_eq_true rfl, Nat.le_of_ble_eq_true rfl⟩ rfl rfl (Nat.le_of_ble_eq_true rfl) hl.1 ⟨Nat.le_refl _, Nat.le_refl _⟩ dX12_isCaseHere_19 (fun H locs hw => ?_)
    refine lv_bipush (v := (45 : Int32)) hx hb dX12_isCaseHere_22 (by decide) ?_
    refine lv_bipush (v := (11 : Int32)) hx hb dX12_isCaseHere_24 (by decide) ?_
    refine lv_aload_n hx hb dX12_isCaseHere_26 rfl (lv_at hl 0 rfl) ?_
    refine x_getR X hK hw (ml_mem0 mb) (ml_S0 mb) cpX12 7 (by decide) rfl (ml_R mb 7 rfl) tw_1258 dX12_isCaseHere_27 ?_
    refine lv_iconst (v := (3 : Int32)) hx hb dX12_isCaseHere_30 (by decide) ?_
    refine x_iald X hK hw (ml_mem mb 6 (by decide)) (ml_S mb 6 rfl) (by decide) rfl dX12_isCaseHere_31 ?_
    refine lv_imul hx hb dX12_isCaseHere_32 ?_
    refine lv_iadd hx hb dX12_isCaseHere_33 ?_
    refine lv_topi (fun x2_6 ex2_6 => ?_)
    have hf := yb_let_to ex2_6 hf
    refine lv_istore_n (lv' := [(2, .int x2_6), (0, .ref mb), (1, .int x1)]) hx hb dX12_isCaseHere_34 rfl hl (by decide) rfl (fun ls hl => ?_)
    refine lv_aload_n hx hb dX12_isCaseHere_35 rfl (lv_at hl 1 rfl) ?_
    refine lv_iload_n hx hb dX12_isCaseHere_36 rfl (lv_at hl 0 rfl) ?_
    refine lv_iconst (v := (0 : Int32)) hx hb dX12_isCaseHere_37 (by decide) ?_
    refine lv_aload_n hx hb dX12_isCaseHere_38 rfl (lv_at hl 1 rfl) ?_
    refine x_getR X hK hw (ml_mem0 mb) (ml_S0 mb) cpX12 7 (by decide) rfl (ml_R mb 7 rfl) tw_1258 dX12_isCaseHere_39 ?_
    refine lv_iconst (v := (2 : Int32)) hx hb dX12_isCaseHere_42 (by decide) ?_
    refine x_iald X hK hw (ml_mem mb 6 (by decide)) (ml_S mb 6 rfl) (by decide) rfl dX12_isCaseHere_43 ?_
    refine lv_iconst (v := (1 : Int32)) hx hb dX12_isCaseHere_44 (by decide) ?_
    refine lv_isub hx hb dX12_isCaseHere_45 ?_
    obtain ⟨r_7, I_8, J_9, hq_10, hf⟩ := yb_b3_some hf
    refine x_calli X hK hw (c12_cellHere l D cz ev mb hq_10) (ml_mem0 mb) (ml_S0 mb) cpX12.1 vw_X12_242 ⟨Nat.le_of_ble_eq_true rfl, Nat.le_of_ble_eq_true rfl⟩ rfl rfl (Nat.le_of_ble_eq_true rfl) hl.1 ⟨Nat.le_refl _, Nat.le_refl _⟩ dX12_isCaseHere_46 (fun H locs hw => ?_)
    refine lv_if_eq (tgt := 91) hx hb dX12_isCaseHere_49 (by decide) (fun c_11 => ?_) (fun c_11 => ?_)
    · have hf := yb_pos c_11 hf
      refine lv_iconst (v := (0 : Int32)) hx hb dX12_isCaseHere_91 (by decide) ?_
      exact yb_retz hfin (by decide) hf hw dX12_isCaseHere_92
    · have hf := yb_neg c_11 hf
      refine lv_aload_n hx hb dX12_isCaseHere_52 rfl (lv_at hl 1 rfl) ?_
      refine lv_iload_n hx hb dX12_isCaseHere_53 rfl (lv_at hl 0 rfl) ?_
      refine lv_iconst (v := (1 : Int32)) hx hb dX12_isCaseHere_54 (by decide) ?_
      refine lv_iadd hx hb dX12_isCaseHere_55 ?_
      refine lv_iconst (v := (1 : Int32)) hx hb dX12_isCaseHere_56 (by decide) ?_
      refine lv_bipush (v := (9 : Int32)) hx hb dX12_isCaseHere_57 (by decide) ?_
      obtain ⟨r_12, I_13, J_14, hq_15, hf⟩ := yb_b3_some hf
      refine x_calli X hK hw (c12_cellHere l D cz ev mb hq_15) (ml_mem0 mb) (ml_S0 mb) cpX12.1 vw_X12_242 ⟨Nat.le_of_ble_eq_true rfl, Nat.le_of_ble_eq_true rfl⟩ rfl rfl (Nat.le_of_ble_eq_true rfl) hl.1 ⟨Nat.le_refl _, Nat.le_refl _⟩ dX12_isCaseHere_59 (fun H locs hw => ?_)
      refine lv_if_eq (tgt := 91) hx hb dX12_isCaseHere_62 (by decide) (fun c_16 => ?_) (fun c_16 => ?_)
      · have hf := yb_pos c_16 hf
        refine lv_iconst (v := (0 : Int32)) hx hb dX12_isCaseHere_91 (by decide) ?_
        exact yb_retz hfin (by decide) hf hw dX12_isCaseHere_92
      · have hf := yb_neg c_16 hf
        refine lv_aload_n hx hb dX12_isCaseHere_65 rfl (lv_at hl 1 rfl) ?_
        refine lv_iload_n hx hb dX12_isCaseHere_66 rfl (lv_at hl 0 rfl) ?_
        refine lv_iconst (v := (2 : Int32)) hx hb dX12_isCaseHere_67 (by decide) ?_
        refine lv_iadd hx hb dX12_isCaseHere_68 ?_
        refine lv_iconst (v := (1 : Int32)) hx hb dX12_isCaseHere_69 (by decide) ?_
        refine lv_bipush (v := (9 : Int32)) hx hb dX12_isCaseHere_70 (by decide) ?_
        obtain ⟨r_17, I_18, J_19, hq_20, hf⟩ := yb_b3_some hf
        refine x_calli X hK hw (c12_cellHere l D cz ev mb hq_20) (ml_mem0 mb) (ml_S0 mb) cpX12.1 vw_X12_242 ⟨Nat.le_of_ble_eq_true rfl, Nat.le_of_ble_eq_true rfl⟩ rfl rfl (Nat.le_of_ble_eq_true rfl) hl.1 ⟨Nat.le_refl _, Nat.le_refl _⟩ dX12_isCaseHere_72 (fun H locs hw => ?_)
        refine lv_if_eq (tgt := 91) hx hb dX12_isCaseHere_75 (by decide) (fun c_21 => ?_) (fun c_21 => ?_)
        · have hf := yb_pos c_21 hf
          refine lv_iconst (v := (0 : Int32)) hx hb dX12_isCaseHere_91 (by decide) ?_
          exact yb_retz hfin (by decide) hf hw dX12_isCaseHere_92
        · have hf := yb_neg c_21 hf
          refine lv_aload_n hx hb dX12_isCaseHere_78 rfl (lv_at hl 1 rfl) ?_
          refine lv_iload_n hx hb dX12_isCaseHere_79 rfl (lv_at hl 0 rfl) ?_
          refine lv_iconst (v := (3 : Int32)) hx hb dX12_isCaseHere_80 (by decide) ?_
          refine lv_iadd hx hb dX12_isCaseHere_81 ?_
          refine lv_iconst (v := (0 : Int32)) hx hb dX12_isCaseHere_82 (by decide) ?_
          refine lv_bipush (v := (99 : Int32)) hx hb dX12_isCaseHere_83 (by decide) ?_
          obtain ⟨r_22, I_23, J_24, hq_25, hf⟩ := yb_b3_some hf
          refine x_calli X hK hw (c12_cellHere l D cz ev mb hq_25) (ml_mem0 mb) (ml_S0 mb) cpX12.1 vw_X12_242 ⟨Nat.le_of_ble_eq_true rfl, Nat.le_of_ble_eq_true rfl⟩ rfl rfl (Nat.le_of_ble_eq_true rfl) hl.1 ⟨Nat.le_refl _, Nat.le_refl _⟩ dX12_isCaseHere_85 (fun H locs hw => ?_)
          refine lv_if_ne (tgt := 93) hx hb dX12_isCaseHere_88 (by decide) (fun c_26 => ?_) (fun c_26 => ?_)
          · have hf := yb_neg c_26 hf
            refine lv_iconst (v := (4 : Int32)) hx hb dX12_isCaseHere_93 (by decide) ?_
            refine lv_istore_n (lv' := [(3, .int (4 : Int32)), (2, .int x2_6), (0, .ref mb), (1, .int x1)]) hx hb dX12_isCaseHere_94 rfl hl (by decide) rfl (fun ls hl => ?_)
            obtain ⟨q_43, I_44, J_45, hq_46, hf⟩ := yb_b3_some hf
            refine w12_isCaseHere_L95 X hK _ _ _ _ _ _ _ _ _ _ hq_46 hw (lv_sub hl [2, 1, 0] rfl) (fun H locs ls hw hl => ?_)
            refine lv_aload_n hx hb dX12_isCaseHere_137 rfl (lv_at hl 0 rfl) ?_
            refine x_getR X hK hw (ml_mem0 mb) (ml_S0 mb) cpX12 7 (by decide) rfl (ml_R mb 7 rfl) tw_1258 dX12_isCaseHere_138 ?_
            refine lv_iconst (v := (3 : Int32)) hx hb dX12_isCaseHere_141 (by decide) ?_
            refine lv_dup2_11 hx hb dX12_isCaseHere_142 rfl rfl ?_
            refine x_iald X hK hw (ml_mem mb 6 (by decide)) (ml_S mb 6 rfl) (by decide) rfl dX12_isCaseHere_143 ?_
            refine lv_iconst (v := (1 : Int32)) hx hb dX12_isCaseHere_144 (by decide) ?_
            refine lv_iadd hx hb dX12_isCaseHere_145 ?_
            refine x_iast X hK hw (ml_mem mb 6 (by decide)) (ml_S mb 6 rfl) (by decide) rfl dX12_isCaseHere_146 (fun H locs hw => ?_)
            obtain ⟨I_47, eI_47, hf⟩ := yb_let_ex hf
            have hw := yb_wI eI_47 hw
            refine lv_iconst (v := (1 : Int32)) hx hb dX12_isCaseHere_147 (by decide) ?_
            exact yb_retz hfin (by decide) hf hw dX12_isCaseHere_148
          · have hf := yb_pos c_26 hf
            refine lv_iconst (v := (0 : Int32)) hx hb dX12_isCaseHere_91 (by decide) ?_
            exact yb_retz hfin (by decide) hf hw dX12_isCaseHere_92
  · have hf := yb_pos c_1 hf
    refine lv_aload_n hx hb dX12_isCaseHere_11 rfl (lv_at hl 0 rfl) ?_
    refine lv_iconst (v := (4 : Int32)) hx hb dX12_isCaseHere_12 (by decide) ?_
    refine lv_iload_n hx hb dX12_isCaseHere_13 rfl (lv_at hl 1 rfl) ?_
    obtain ⟨r_48, I_49, J_50, hq_51, hf⟩ := yb_b3_some hf
    refine x_calli X hK hw (c12_fails l D cz ev mb hq_51) (ml_mem0 mb) (ml_S0 mb) cpX12.1 vw_X12_135 ⟨Nat.le_of_ble_eq_true rfl, Nat.le_of_ble_eq_true rfl⟩ rfl rfl (Nat.le_of_ble_eq_true rfl) hl.1 ⟨Nat.le_refl _, Nat.le_refl _⟩ dX12_isCaseHere_14 (fun H locs hw => ?_)
    obtain ⟨hz_52, hf⟩ := yb_ck_some hf
    exact yb_retz hfin hz_52 hf hw dX12_isCaseHere_17
set_option maxHeartbeats 4000000 in
set_option maxRecDepth 100000 in
theorem c12_townLineHere (l : Launch) (D : va_G) (cz : Nat → ClassId) (ev : Nat × Nat × Nat) (mb : Nat) {N : Nat} {x1 : Int32} {I : IT} {J : JT} {r : Int32} {I1 : IT} {J1 : JT} (hf : f12_townLineHere N mb x1 I J = some (r, I1, J1)) : MTi l D cz ev yX12_townLineHere cX12_townLineHere 2 (some .boolean) 4 95 [.ref mb, .int x1] (mlL mb) (mlS mb) (mlR mb) I J r I1 J1 := by
  unfold f12_townLineHere at hf
  refine MTz_of (by decide) (Nat.le_of_ble_eq_true rfl) ?_
  intro p e s m args below meth c Q ls X hK hw hl hfin
  have X : CallFix p m c cX12_townLineHere 2 s args gw RX12 := X
  have hx := X.1
  have hb := X.2.1
  have hl : lv_has ls 2 [(0, .ref mb), (1, .int x1)] := hl
  refine lv_aload_n hx hb dX12_townLineHere_0 rfl (lv_at hl 0 rfl) ?_
  refine lv_ldc2 (v := (1953462126 : Int64)) hx hb X.2.2.2.1 (X.2.2.2.2 _ tw_1429) dX12_townLineHere_1 ?_
  obtain ⟨r_1, I_2, J_3, hq_4, hf⟩ := yb_b3_some hf
  refine x_calli X hK hw (c12_isWord l D cz ev mb hq_4) (ml_mem0 mb) (ml_S0 mb) cpX12.1 vw_X12_125 ⟨Nat.le_of_ble_eq_true rfl, Nat.le_of_ble_eq_true rfl⟩ rfl rfl (Nat.le_of_ble_eq_true rfl) hl.1 ⟨Nat.le_refl _, Nat.le_refl _⟩ dX12_townLineHere_4 (fun H locs hw => ?_)
  refine lv_if_eq (tgt := 16) hx hb dX12_townLineHere_7 (by decide) (fun c_5 => ?_) (fun c_5 => ?_)
  · have hf := yb_pos c_5 hf
    refine lv_aload_n hx hb dX12_townLineHere_16 rfl (lv_at hl 0 rfl) ?_
    refine x_getR X hK hw (ml_mem0 mb) (ml_S0 mb) cpX12 7 (by decide) rfl (ml_R mb 7 rfl) tw_1258 dX12_townLineHere_17 ?_
    refine lv_iconst (v := (0 : Int32)) hx hb dX12_townLineHere_20 (by decide) ?_
    refine x_iald X hK hw (ml_mem mb 6 (by decide)) (ml_S mb 6 rfl) (by decide) rfl dX12_townLineHere_21 ?_
    refine lv_if_ne (tgt := 32) hx hb dX12_townLineHere_22 (by decide) (fun c_6 => ?_) (fun c_6 => ?_)
    · have hf := yb_neg c_6 hf
      refine lv_aload_n hx hb dX12_townLineHere_32 rfl (lv_at hl 0 rfl) ?_
      refine lv_ldc2 (v := (422608528232 : Int64)) hx hb X.2.2.2.1 (X.2.2.2.2 _ tw_1438) dX12_townLineHere_33 ?_
      obtain ⟨r_7, I_8, J_9, hq_10, hf⟩ := yb_b3_some hf
      refine x_calli X hK hw (c12_isWord l D cz ev mb hq_10) (ml_mem0 mb) (ml_S0 mb) cpX12.1 vw_X12_125 ⟨Nat.le_of_ble_eq_true rfl, Nat.le_of_ble_eq_true rfl⟩ rfl rfl (Nat.le_of_ble_eq_true rfl) hl.1 ⟨Nat.le_refl _, Nat.le_refl _⟩ dX12_townLineHere_36 (fun H locs hw => ?_)
      refine lv_if_eq (tgt := 48) hx hb dX12_townLineHere_39 (by decide) (fun c_11 => ?_) (fun c_11 => ?_)
      · have hf := yb_pos c_11 hf
        refine lv_aload_n hx hb dX12_townLineHere_48 rfl (lv_at hl 0 rfl) ?_
        refine lv_ldc2 (v := (123581014175598 : Int64)) hx hb X.2.2.2.1 (X.2.2.2.2 _ tw_1439) dX12_townLineHere_49 ?_
        obtain ⟨r_12, I_13, J_14, hq_15, hf⟩ := yb_b3_some hf
        refine x_calli X hK hw (c12_isWord l D cz ev mb hq_15) (ml_mem0 mb) (ml_S0 mb) cpX12.1 vw_X12_125 ⟨Nat.le_of_ble_eq_true rfl, Nat.le_of_ble_eq_true rfl⟩ rfl rfl (Nat.le_of_ble_eq_true rfl) hl.1 ⟨Nat.le_refl _, Nat.le_refl _⟩ dX12_townLineHere_52 (fun H locs hw => ?_)
        refine lv_if_eq (tgt := 64) hx hb dX12_townLineHere_55 (by decide) (fun c_16 => ?_) (fun c_16 => ?_)
        · have hf := yb_pos c_16 hf
          refine lv_aload_n hx hb dX12_townLineHere_64 rfl (lv_at hl 0 rfl) ?_
          refine lv_ldc2 (v := (500219604595 : Int64)) hx hb X.2.2.2.1 (X.2.2.2.2 _ tw_1440) dX12_townLineHere_65 ?_
          obtain ⟨r_17, I_18, J_19, hq_20, hf⟩ := yb_b3_some hf
          refine x_calli X hK hw (c12_isWord l D cz ev mb hq_20) (ml_mem0 mb) (ml_S0 mb) cpX12.1 vw_X12_125 ⟨Nat.le_of_ble_eq_true rfl, Nat.le_of_ble_eq_true rfl⟩ rfl rfl (Nat.le_of_ble_eq_true rfl) hl.1 ⟨Nat.le_refl _, Nat.le_refl _⟩ dX12_townLineHere_68 (fun H locs hw => ?_)
          refine lv_if_eq (tgt := 82) hx hb dX12_townLineHere_71 (by decide) (fun c_21 => ?_) (fun c_21 => ?_)
          · have hf := yb_pos c_21 hf
            refine lv_aload_n hx hb dX12_townLineHere_82 rfl (lv_at hl 0 rfl) ?_
            refine lv_iload_n hx hb dX12_townLineHere_83 rfl (lv_at hl 1 rfl) ?_
            obtain ⟨r_22, I_23, J_24, hq_25, hf⟩ := yb_b3_some hf
            refine x_calli X hK hw (c12_isCaseHere l D cz ev mb hq_25) (ml_mem0 mb) (ml_S0 mb) cpX12.1 vw_X12_266 ⟨Nat.le_of_ble_eq_true rfl, Nat.le_of_ble_eq_true rfl⟩ rfl rfl (Nat.le_of_ble_eq_true rfl) hl.1 ⟨Nat.le_refl _, Nat.le_refl _⟩ dX12_townLineHere_84 (fun H locs hw => ?_)
            obtain ⟨hz_26, hf⟩ := yb_ck_some hf
            exact yb_retz hfin hz_26 hf hw dX12_townLineHere_87
          · have hf := yb_neg c_21 hf
            refine lv_aload_n hx hb dX12_townLineHere_74 rfl (lv_at hl 0 rfl) ?_
            refine lv_iload_n hx hb dX12_townLineHere_75 rfl (lv_at hl 1 rfl) ?_
            obtain ⟨r_27, I_28, J_29, hq_30, hf⟩ := yb_b3_some hf
            refine x_calli X hK hw (c12_areTwinsHere l D cz ev mb hq_30) (ml_mem0 mb) (ml_S0 mb) cpX12.1 vw_X12_263 ⟨Nat.le_of_ble_eq_true rfl, Nat.le_of_ble_eq_true rfl⟩ rfl rfl (Nat.le_of_ble_eq_true rfl) hl.1 ⟨Nat.le_refl _, Nat.le_refl _⟩ dX12_townLineHere_76 (fun H locs hw => ?_)
            refine lv_goto (tgt := 87) hx hb dX12_townLineHere_79 (by decide) ?_
            obtain ⟨hz_31, hf⟩ := yb_ck_some hf
            exact yb_retz hfin hz_31 hf hw dX12_townLineHere_87
        · have hf := yb_neg c_16 hf
          refine lv_aload_n hx hb dX12_townLineHere_58 rfl (lv_at hl 0 rfl) ?_
          refine lv_iload_n hx hb dX12_townLineHere_59 rfl (lv_at hl 1 rfl) ?_
          obtain ⟨r_32, I_33, J_34, hq_35, hf⟩ := yb_b3_some hf
          refine x_calli X hK hw (c12_isPersonHere l D cz ev mb hq_35) (ml_mem0 mb) (ml_S0 mb) cpX12.1 vw_X12_258 ⟨Nat.le_of_ble_eq_true rfl, Nat.le_of_ble_eq_true rfl⟩ rfl rfl (Nat.le_of_ble_eq_true rfl) hl.1 ⟨Nat.le_refl _, Nat.le_refl _⟩ dX12_townLineHere_60 (fun H locs hw => ?_)
          obtain ⟨hz_36, hf⟩ := yb_ck_some hf
          exact yb_retz hfin hz_36 hf hw dX12_townLineHere_63
      · have hf := yb_neg c_11 hf
        refine lv_aload_n hx hb dX12_townLineHere_42 rfl (lv_at hl 0 rfl) ?_
        refine lv_iload_n hx hb dX12_townLineHere_43 rfl (lv_at hl 1 rfl) ?_
        obtain ⟨r_37, I_38, J_39, hq_40, hf⟩ := yb_b3_some hf
        refine x_calli X hK hw (c12_isBenchHere l D cz ev mb hq_40) (ml_mem0 mb) (ml_S0 mb) cpX12.1 vw_X12_253 ⟨Nat.le_of_ble_eq_true rfl, Nat.le_of_ble_eq_true rfl⟩ rfl rfl (Nat.le_of_ble_eq_true rfl) hl.1 ⟨Nat.le_refl _, Nat.le_refl _⟩ dX12_townLineHere_44 (fun H locs hw => ?_)
        obtain ⟨hz_41, hf⟩ := yb_ck_some hf
        exact yb_retz hfin hz_41 hf hw dX12_townLineHere_47
    · have hf := yb_pos c_6 hf
      refine lv_aload_n hx hb dX12_townLineHere_25 rfl (lv_at hl 0 rfl) ?_
      refine lv_iconst (v := (4 : Int32)) hx hb dX12_townLineHere_26 (by decide) ?_
      refine lv_iload_n hx hb dX12_townLineHere_27 rfl (lv_at hl 1 rfl) ?_
      obtain ⟨r_42, I_43, J_44, hq_45, hf⟩ := yb_b3_some hf
      refine x_calli X hK hw (c12_fails l D cz ev mb hq_45) (ml_mem0 mb) (ml_S0 mb) cpX12.1 vw_X12_135 ⟨Nat.le_of_ble_eq_true rfl, Nat.le_of_ble_eq_true rfl⟩ rfl rfl (Nat.le_of_ble_eq_true rfl) hl.1 ⟨Nat.le_refl _, Nat.le_refl _⟩ dX12_townLineHere_28 (fun H locs hw => ?_)
      obtain ⟨hz_46, hf⟩ := yb_ck_some hf
      exact yb_retz hfin hz_46 hf hw dX12_townLineHere_31
  · have hf := yb_neg c_5 hf
    refine lv_aload_n hx hb dX12_townLineHere_10 rfl (lv_at hl 0 rfl) ?_
    refine lv_iload_n hx hb dX12_townLineHere_11 rfl (lv_at hl 1 rfl) ?_
    obtain ⟨r_47, I_48, J_49, hq_50, hf⟩ := yb_b3_some hf
    refine x_calli X hK hw (c12_isTownHere l D cz ev mb hq_50) (ml_mem0 mb) (ml_S0 mb) cpX12.1 vw_X12_248 ⟨Nat.le_of_ble_eq_true rfl, Nat.le_of_ble_eq_true rfl⟩ rfl rfl (Nat.le_of_ble_eq_true rfl) hl.1 ⟨Nat.le_refl _, Nat.le_refl _⟩ dX12_townLineHere_12 (fun H locs hw => ?_)
    obtain ⟨hz_51, hf⟩ := yb_ck_some hf
    exact yb_retz hfin hz_51 hf hw dX12_townLineHere_15
set_option maxHeartbeats 4000000 in
set_option maxRecDepth 100000 in
theorem c12_isTownWord (l : Launch) (D : va_G) (cz : Nat → ClassId) (ev : Nat × Nat × Nat) (mb : Nat) {N : Nat} {I : IT} {J : JT} {r : Int32} {I1 : IT} {J1 : JT} (hf : f12_isTownWord N mb I J = some (r, I1, J1)) : MTi l D cz ev yX12_isTownWord cX12_isTownWord 1 (some .boolean) 2 46 [.ref mb] (mlL mb) (mlS mb) (mlR mb) I J r I1 J1 := by
  unfold f12_isTownWord at hf
  refine MTz_of (by decide) (Nat.le_of_ble_eq_true rfl) ?_
  intro p e s m args below meth c Q ls X hK hw hl hfin
  have X : CallFix p m c cX12_isTownWord 1 s args gw RX12 := X
  have hx := X.1
  have hb := X.2.1
  have hl : lv_has ls 1 [(0, .ref mb)] := hl
  refine lv_aload_n hx hb dX12_isTownWord_0 rfl (lv_at hl 0 rfl) ?_
  refine lv_ldc2 (v := (1953462126 : Int64)) hx hb X.2.2.2.1 (X.2.2.2.2 _ tw_1429) dX12_isTownWord_1 ?_
  obtain ⟨r_1, I_2, J_3, hq_4, hf⟩ := yb_b3_some hf
  refine x_calli X hK hw (c12_isWord l D cz ev mb hq_4) (ml_mem0 mb) (ml_S0 mb) cpX12.1 vw_X12_125 ⟨Nat.le_of_ble_eq_true rfl, Nat.le_of_ble_eq_true rfl⟩ rfl rfl (Nat.le_of_ble_eq_true rfl) hl.1 ⟨Nat.le_refl _, Nat.le_refl _⟩ dX12_isTownWord_4 (fun H locs hw => ?_)
  refine lv_if_ne (tgt := 50) hx hb dX12_isTownWord_7 (by decide) (fun c_5 => ?_) (fun c_5 => ?_)
  · have hf := yb_neg c_5 hf
    refine lv_iconst (v := (1 : Int32)) hx hb dX12_isTownWord_50 (by decide) ?_
    refine lv_goto (tgt := 55) hx hb dX12_isTownWord_51 (by decide) ?_
    exact yb_retz hfin (by decide) hf hw dX12_isTownWord_55
  · have hf := yb_pos c_5 hf
    refine lv_aload_n hx hb dX12_isTownWord_10 rfl (lv_at hl 0 rfl) ?_
    refine lv_ldc2 (v := (422608528232 : Int64)) hx hb X.2.2.2.1 (X.2.2.2.2 _ tw_1438) dX12_isTownWord_11 ?_
    obtain ⟨r_6, I_7, J_8, hq_9, hf⟩ := yb_b3_some hf
    refine x_calli X hK hw (c12_isWord l D cz ev mb hq_9) (ml_mem0 mb) (ml_S0 mb) cpX12.1 vw_X12_125 ⟨Nat.le_of_ble_eq_true rfl, Nat.le_of_ble_eq_true rfl⟩ rfl rfl (Nat.le_of_ble_eq_true rfl) hl.1 ⟨Nat.le_refl _, Nat.le_refl _⟩ dX12_isTownWord_14 (fun H locs hw => ?_)
    refine lv_if_ne (tgt := 50) hx hb dX12_isTownWord_17 (by decide) (fun c_10 => ?_) (fun c_10 => ?_)
    · have hf := yb_neg c_10 hf
      refine lv_iconst (v := (1 : Int32)) hx hb dX12_isTownWord_50 (by decide) ?_
      refine lv_goto (tgt := 55) hx hb dX12_isTownWord_51 (by decide) ?_
      exact yb_retz hfin (by decide) hf hw dX12_isTownWord_55
    · have hf := yb_pos c_10 hf
      refine lv_aload_n hx hb dX12_isTownWord_20 rfl (lv_at hl 0 rfl) ?_
      refine lv_ldc2 (v := (123581014175598 : Int64)) hx hb X.2.2.2.1 (X.2.2.2.2 _ tw_1439) dX12_isTownWord_21 ?_
      obtain ⟨r_11, I_12, J_13, hq_14, hf⟩ := yb_b3_some hf
      refine x_calli X hK hw (c12_isWord l D cz ev mb hq_14) (ml_mem0 mb) (ml_S0 mb) cpX12.1 vw_X12_125 ⟨Nat.le_of_ble_eq_true rfl, Nat.le_of_ble_eq_true rfl⟩ rfl rfl (Nat.le_of_ble_eq_true rfl) hl.1 ⟨Nat.le_refl _, Nat.le_refl _⟩ dX12_isTownWord_24 (fun H locs hw => ?_)
      refine lv_if_ne (tgt := 50) hx hb dX12_isTownWord_27 (by decide) (fun c_15 => ?_) (fun c_15 => ?_)
      · have hf := yb_neg c_15 hf
        refine lv_iconst (v := (1 : Int32)) hx hb dX12_isTownWord_50 (by decide) ?_
        refine lv_goto (tgt := 55) hx hb dX12_isTownWord_51 (by decide) ?_
        exact yb_retz hfin (by decide) hf hw dX12_isTownWord_55
      · have hf := yb_pos c_15 hf
        refine lv_aload_n hx hb dX12_isTownWord_30 rfl (lv_at hl 0 rfl) ?_
        refine lv_ldc2 (v := (500219604595 : Int64)) hx hb X.2.2.2.1 (X.2.2.2.2 _ tw_1440) dX12_isTownWord_31 ?_
        obtain ⟨r_16, I_17, J_18, hq_19, hf⟩ := yb_b3_some hf
        refine x_calli X hK hw (c12_isWord l D cz ev mb hq_19) (ml_mem0 mb) (ml_S0 mb) cpX12.1 vw_X12_125 ⟨Nat.le_of_ble_eq_true rfl, Nat.le_of_ble_eq_true rfl⟩ rfl rfl (Nat.le_of_ble_eq_true rfl) hl.1 ⟨Nat.le_refl _, Nat.le_refl _⟩ dX12_isTownWord_34 (fun H locs hw => ?_)
        refine lv_if_ne (tgt := 50) hx hb dX12_isTownWord_37 (by decide) (fun c_20 => ?_) (fun c_20 => ?_)
        · have hf := yb_neg c_20 hf
          refine lv_iconst (v := (1 : Int32)) hx hb dX12_isTownWord_50 (by decide) ?_
          refine lv_goto (tgt := 55) hx hb dX12_isTownWord_51 (by decide) ?_
          exact yb_retz hfin (by decide) hf hw dX12_isTownWord_55
        · have hf := yb_pos c_20 hf
          refine lv_aload_n hx hb dX12_isTownWord_40 rfl (lv_at hl 0 rfl) ?_
          refine lv_ldc2 (v := (1667330917 : Int64)) hx hb X.2.2.2.1 (X.2.2.2.2 _ tw_1441) dX12_isTownWord_41 ?_
          obtain ⟨r_21, I_22, J_23, hq_24, hf⟩ := yb_b3_some hf
          refine x_calli X hK hw (c12_isWord l D cz ev mb hq_24) (ml_mem0 mb) (ml_S0 mb) cpX12.1 vw_X12_125 ⟨Nat.le_of_ble_eq_true rfl, Nat.le_of_ble_eq_true rfl⟩ rfl rfl (Nat.le_of_ble_eq_true rfl) hl.1 ⟨Nat.le_refl _, Nat.le_refl _⟩ dX12_isTownWord_44 (fun H locs hw => ?_)
          refine lv_if_eq (tgt := 54) hx hb dX12_isTownWord_47 (by decide) (fun c_25 => ?_) (fun c_25 => ?_)
          · have hf := yb_pos c_25 hf
            refine lv_iconst (v := (0 : Int32)) hx hb dX12_isTownWord_54 (by decide) ?_
            exact yb_retz hfin (by decide) hf hw dX12_isTownWord_55
          · have hf := yb_neg c_25 hf
            refine lv_iconst (v := (1 : Int32)) hx hb dX12_isTownWord_50 (by decide) ?_
            refine lv_goto (tgt := 55) hx hb dX12_isTownWord_51 (by decide) ?_
            exact yb_retz hfin (by decide) hf hw dX12_isTownWord_55
set_option maxHeartbeats 4000000 in
set_option maxRecDepth 100000 in
theorem c12_clauseHere (l : Launch) (D : va_G) (cz : Nat → ClassId) (ev : Nat × Nat × Nat) (mb : Nat) {N : Nat} {I : IT} {J : JT} {r : Int32} {I1 : IT} {J1 : JT} (hf : f12_clauseHere N mb I J = some (r, I1, J1)) : MTi l D cz ev yX12_clauseHere cX12_clauseHere 3 (some .boolean) 10 219 [.ref mb] (mlL mb) (mlS mb) (mlR mb) I J r I1 J1 := by
  unfold f12_clauseHere at hf
  refine MTz_of (by decide) (Nat.le_of_ble_eq_true rfl) ?_
  intro p e s m args below meth c Q ls X hK hw hl hfin
  have X : CallFix p m c cX12_clauseHere 3 s args gw RX12 := X
  have hx := X.1
  have hb := X.2.1
  have hl : lv_has ls 3 [(0, .ref mb)] := hl
  refine lv_aload_n hx hb dX12_clauseHere_0 rfl (lv_at hl 0 rfl) ?_
  obtain ⟨r_1, I_2, J_3, hq_4, hf⟩ := yb_b3_some hf
  refine x_calli X hK hw (c12_see l D cz ev mb hq_4) (ml_mem0 mb) (ml_S0 mb) cpX12.1 vw_X12_117 ⟨Nat.le_of_ble_eq_true rfl, Nat.le_of_ble_eq_true rfl⟩ rfl rfl (Nat.le_of_ble_eq_true rfl) hl.1 ⟨Nat.le_refl _, Nat.le_refl _⟩ dX12_clauseHere_1 (fun H locs hw => ?_)
  refine lv_pop hx hb dX12_clauseHere_4 rfl ?_
  refine lv_aload_n hx hb dX12_clauseHere_5 rfl (lv_at hl 0 rfl) ?_
  refine x_getI X hK hw (ml_mem0 mb) (ml_S0 mb) cpX12 8 (by decide) rfl tw_1259 dX12_clauseHere_6 ?_
  refine lv_topi (fun x1_5 ex1_5 => ?_)
  have hf := yb_let_to ex1_5 hf
  refine lv_istore_n (lv' := [(1, .int x1_5), (0, .ref mb)]) hx hb dX12_clauseHere_9 rfl hl (by decide) rfl (fun ls hl => ?_)
  refine lv_aload_n hx hb dX12_clauseHere_10 rfl (lv_at hl 1 rfl) ?_
  refine x_getI X hK hw (ml_mem0 mb) (ml_S0 mb) cpX12 11 (by decide) rfl tw_1262 dX12_clauseHere_11 ?_
  refine lv_bipush (v := (6 : Int32)) hx hb dX12_clauseHere_14 (by decide) ?_
  refine lv_icmp_ne (tgt := 23) hx hb dX12_clauseHere_16 (by decide) (fun c_6 => ?_) (fun c_6 => ?_)
  · have hf := yb_neg c_6 hf
    refine lv_iconst (v := (0 : Int32)) hx hb dX12_clauseHere_23 (by decide) ?_
    refine lv_istore_n (lv' := [(2, .int (0 : Int32)), (1, .int x1_5), (0, .ref mb)]) hx hb dX12_clauseHere_24 rfl hl (by decide) rfl (fun ls hl => ?_)
    refine lv_iload_n hx hb dX12_clauseHere_25 rfl (lv_at hl 0 rfl) ?_
    refine lv_if_eq (tgt := 39) hx hb dX12_clauseHere_26 (by decide) (fun _ => ?_) (fun c_7 => absurd (by decide) c_7)
    refine lv_aload_n hx hb dX12_clauseHere_39 rfl (lv_at hl 2 rfl) ?_
    refine lv_ldc2 (v := (491394656372 : Int64)) hx hb X.2.2.2.1 (X.2.2.2.2 _ tw_1442) dX12_clauseHere_40 ?_
    obtain ⟨r_8, I_9, J_10, hq_11, hf⟩ := yb_b3_some hf
    refine x_calli X hK hw (c12_isWord l D cz ev mb hq_11) (ml_mem0 mb) (ml_S0 mb) cpX12.1 vw_X12_125 ⟨Nat.le_of_ble_eq_true rfl, Nat.le_of_ble_eq_true rfl⟩ rfl rfl (Nat.le_of_ble_eq_true rfl) hl.1 ⟨Nat.le_refl _, Nat.le_refl _⟩ dX12_clauseHere_43 (fun H locs hw => ?_)
    refine lv_if_ne (tgt := 56) hx hb dX12_clauseHere_46 (by decide) (fun c_12 => ?_) (fun c_12 => ?_)
    · have hf := yb_neg c_12 hf
      refine lv_aload_n hx hb dX12_clauseHere_56 rfl (lv_at hl 2 rfl) ?_
      refine x_getI X hK hw (ml_mem0 mb) (ml_S0 mb) cpX12 14 (by decide) rfl tw_1265 dX12_clauseHere_57 ?_
      refine lv_iload_n hx hb dX12_clauseHere_60 rfl (lv_at hl 0 rfl) ?_
      refine lv_if_eq (tgt := 69) hx hb dX12_clauseHere_61 (by decide) (fun _ => ?_) (fun c_13 => absurd (by decide) c_13)
      refine lv_bipush (v := (12 : Int32)) hx hb dX12_clauseHere_69 (by decide) ?_
      refine lv_icmp_ne (tgt := 81) hx hb dX12_clauseHere_71 (by decide) (fun c_14 => ?_) (fun c_14 => ?_)
      · have hf := yb_neg c_14 hf
        refine lv_aload_n hx hb dX12_clauseHere_81 rfl (lv_at hl 2 rfl) ?_
        refine lv_dup hx hb dX12_clauseHere_82 rfl ?_
        refine x_getI X hK hw (ml_mem0 mb) (ml_S0 mb) cpX12 14 (by decide) rfl tw_1265 dX12_clauseHere_83 ?_
        refine lv_iconst (v := (1 : Int32)) hx hb dX12_clauseHere_86 (by decide) ?_
        refine lv_iadd hx hb dX12_clauseHere_87 ?_
        refine x_putI X hK hw (ml_mem0 mb) (ml_S0 mb) cpX12 14 (by decide) rfl rfl rfl tw_1265 dX12_clauseHere_88 (fun H locs hw => ?_)
        obtain ⟨I_15, eI_15, hf⟩ := yb_let_ex hf
        have hw := yb_wI eI_15 hw
        refine lv_iload_n hx hb dX12_clauseHere_91 rfl (lv_at hl 0 rfl) ?_
        refine lv_if_eq (tgt := 103) hx hb dX12_clauseHere_92 (by decide) (fun _ => ?_) (fun c_16 => absurd (by decide) c_16)
        refine lv_aload_n hx hb dX12_clauseHere_103 rfl (lv_at hl 2 rfl) ?_
        obtain ⟨r_17, I_18, J_19, hq_20, hf⟩ := yb_b3_some hf
        refine x_calli X hK hw (c12_isRightHere l D cz ev mb hq_20) (ml_mem0 mb) (ml_S0 mb) cpX12.1 vw_X12_282 ⟨Nat.le_of_ble_eq_true rfl, Nat.le_of_ble_eq_true rfl⟩ rfl rfl (Nat.le_of_ble_eq_true rfl) hl.1 ⟨Nat.le_refl _, Nat.le_refl _⟩ dX12_clauseHere_104 (fun H locs hw => ?_)
        obtain ⟨hz_21, hf⟩ := yb_ck_some hf
        exact yb_retz hfin hz_21 hf hw dX12_clauseHere_107
      · have hf := yb_pos c_14 hf
        refine lv_aload_n hx hb dX12_clauseHere_74 rfl (lv_at hl 2 rfl) ?_
        refine lv_iconst (v := (4 : Int32)) hx hb dX12_clauseHere_75 (by decide) ?_
        refine lv_iload_n hx hb dX12_clauseHere_76 rfl (lv_at hl 1 rfl) ?_
        obtain ⟨r_22, I_23, J_24, hq_25, hf⟩ := yb_b3_some hf
        refine x_calli X hK hw (c12_fails l D cz ev mb hq_25) (ml_mem0 mb) (ml_S0 mb) cpX12.1 vw_X12_135 ⟨Nat.le_of_ble_eq_true rfl, Nat.le_of_ble_eq_true rfl⟩ rfl rfl (Nat.le_of_ble_eq_true rfl) hl.1 ⟨Nat.le_refl _, Nat.le_refl _⟩ dX12_clauseHere_77 (fun H locs hw => ?_)
        obtain ⟨hz_26, hf⟩ := yb_ck_some hf
        exact yb_retz hfin hz_26 hf hw dX12_clauseHere_80
    · have hf := yb_pos c_12 hf
      refine lv_aload_n hx hb dX12_clauseHere_49 rfl (lv_at hl 2 rfl) ?_
      refine lv_iconst (v := (0 : Int32)) hx hb dX12_clauseHere_50 (by decide) ?_
      refine lv_iload_n hx hb dX12_clauseHere_51 rfl (lv_at hl 1 rfl) ?_
      obtain ⟨r_27, I_28, J_29, hq_30, hf⟩ := yb_b3_some hf
      refine x_calli X hK hw (c12_fails l D cz ev mb hq_30) (ml_mem0 mb) (ml_S0 mb) cpX12.1 vw_X12_135 ⟨Nat.le_of_ble_eq_true rfl, Nat.le_of_ble_eq_true rfl⟩ rfl rfl (Nat.le_of_ble_eq_true rfl) hl.1 ⟨Nat.le_refl _, Nat.le_refl _⟩ dX12_clauseHere_52 (fun H locs hw => ?_)
      obtain ⟨hz_31, hf⟩ := yb_ck_some hf
      exact yb_retz hfin hz_31 hf hw dX12_clauseHere_55
  · have hf := yb_pos c_6 hf
    refine lv_iconst (v := (1 : Int32)) hx hb dX12_clauseHere_19 (by decide) ?_
    refine lv_goto (tgt := 24) hx hb dX12_clauseHere_20 (by decide) ?_
    refine lv_istore_n (lv' := [(2, .int (1 : Int32)), (1, .int x1_5), (0, .ref mb)]) hx hb dX12_clauseHere_24 rfl hl (by decide) rfl (fun ls hl => ?_)
    refine lv_iload_n hx hb dX12_clauseHere_25 rfl (lv_at hl 0 rfl) ?_
    refine lv_if_eq (tgt := 39) hx hb dX12_clauseHere_26 (by decide) (fun c_32 => absurd c_32 (by decide)) (fun _ => ?_)
    refine lv_aload_n hx hb dX12_clauseHere_29 rfl (lv_at hl 2 rfl) ?_
    obtain ⟨r_33, I_34, J_35, hq_36, hf⟩ := yb_b3_some hf
    refine x_calli X hK hw (c12_isTownWord l D cz ev mb hq_36) (ml_mem0 mb) (ml_S0 mb) cpX12.1 vw_X12_271 ⟨Nat.le_of_ble_eq_true rfl, Nat.le_of_ble_eq_true rfl⟩ rfl rfl (Nat.le_of_ble_eq_true rfl) hl.1 ⟨Nat.le_refl _, Nat.le_refl _⟩ dX12_clauseHere_30 (fun H locs hw => ?_)
    refine lv_if_ne (tgt := 56) hx hb dX12_clauseHere_33 (by decide) (fun c_37 => ?_) (fun c_37 => ?_)
    · have hf := yb_neg c_37 hf
      refine lv_aload_n hx hb dX12_clauseHere_56 rfl (lv_at hl 2 rfl) ?_
      refine x_getI X hK hw (ml_mem0 mb) (ml_S0 mb) cpX12 14 (by decide) rfl tw_1265 dX12_clauseHere_57 ?_
      refine lv_iload_n hx hb dX12_clauseHere_60 rfl (lv_at hl 0 rfl) ?_
      refine lv_if_eq (tgt := 69) hx hb dX12_clauseHere_61 (by decide) (fun c_38 => absurd c_38 (by decide)) (fun _ => ?_)
      refine lv_bipush (v := (40 : Int32)) hx hb dX12_clauseHere_64 (by decide) ?_
      refine lv_goto (tgt := 71) hx hb dX12_clauseHere_66 (by decide) ?_
      refine lv_icmp_ne (tgt := 81) hx hb dX12_clauseHere_71 (by decide) (fun c_39 => ?_) (fun c_39 => ?_)
      · have hf := yb_neg c_39 hf
        refine lv_aload_n hx hb dX12_clauseHere_81 rfl (lv_at hl 2 rfl) ?_
        refine lv_dup hx hb dX12_clauseHere_82 rfl ?_
        refine x_getI X hK hw (ml_mem0 mb) (ml_S0 mb) cpX12 14 (by decide) rfl tw_1265 dX12_clauseHere_83 ?_
        refine lv_iconst (v := (1 : Int32)) hx hb dX12_clauseHere_86 (by decide) ?_
        refine lv_iadd hx hb dX12_clauseHere_87 ?_
        refine x_putI X hK hw (ml_mem0 mb) (ml_S0 mb) cpX12 14 (by decide) rfl rfl rfl tw_1265 dX12_clauseHere_88 (fun H locs hw => ?_)
        obtain ⟨I_40, eI_40, hf⟩ := yb_let_ex hf
        have hw := yb_wI eI_40 hw
        refine lv_iload_n hx hb dX12_clauseHere_91 rfl (lv_at hl 0 rfl) ?_
        refine lv_if_eq (tgt := 103) hx hb dX12_clauseHere_92 (by decide) (fun c_41 => absurd c_41 (by decide)) (fun _ => ?_)
        refine lv_aload_n hx hb dX12_clauseHere_95 rfl (lv_at hl 2 rfl) ?_
        refine lv_iload_n hx hb dX12_clauseHere_96 rfl (lv_at hl 1 rfl) ?_
        obtain ⟨r_42, I_43, J_44, hq_45, hf⟩ := yb_b3_some hf
        refine x_calli X hK hw (c12_townLineHere l D cz ev mb hq_45) (ml_mem0 mb) (ml_S0 mb) cpX12.1 vw_X12_279 ⟨Nat.le_of_ble_eq_true rfl, Nat.le_of_ble_eq_true rfl⟩ rfl rfl (Nat.le_of_ble_eq_true rfl) hl.1 ⟨Nat.le_refl _, Nat.le_refl _⟩ dX12_clauseHere_97 (fun H locs hw => ?_)
        refine lv_goto (tgt := 107) hx hb dX12_clauseHere_100 (by decide) ?_
        obtain ⟨hz_46, hf⟩ := yb_ck_some hf
        exact yb_retz hfin hz_46 hf hw dX12_clauseHere_107
      · have hf := yb_pos c_39 hf
        refine lv_aload_n hx hb dX12_clauseHere_74 rfl (lv_at hl 2 rfl) ?_
        refine lv_iconst (v := (4 : Int32)) hx hb dX12_clauseHere_75 (by decide) ?_
        refine lv_iload_n hx hb dX12_clauseHere_76 rfl (lv_at hl 1 rfl) ?_
        obtain ⟨r_47, I_48, J_49, hq_50, hf⟩ := yb_b3_some hf
        refine x_calli X hK hw (c12_fails l D cz ev mb hq_50) (ml_mem0 mb) (ml_S0 mb) cpX12.1 vw_X12_135 ⟨Nat.le_of_ble_eq_true rfl, Nat.le_of_ble_eq_true rfl⟩ rfl rfl (Nat.le_of_ble_eq_true rfl) hl.1 ⟨Nat.le_refl _, Nat.le_refl _⟩ dX12_clauseHere_77 (fun H locs hw => ?_)
        obtain ⟨hz_51, hf⟩ := yb_ck_some hf
        exact yb_retz hfin hz_51 hf hw dX12_clauseHere_80
    · have hf := yb_pos c_37 hf
      refine lv_goto (tgt := 49) hx hb dX12_clauseHere_36 (by decide) ?_
      refine lv_aload_n hx hb dX12_clauseHere_49 rfl (lv_at hl 2 rfl) ?_
      refine lv_iconst (v := (0 : Int32)) hx hb dX12_clauseHere_50 (by decide) ?_
      refine lv_iload_n hx hb dX12_clauseHere_51 rfl (lv_at hl 1 rfl) ?_
      obtain ⟨r_52, I_53, J_54, hq_55, hf⟩ := yb_b3_some hf
      refine x_calli X hK hw (c12_fails l D cz ev mb hq_55) (ml_mem0 mb) (ml_S0 mb) cpX12.1 vw_X12_135 ⟨Nat.le_of_ble_eq_true rfl, Nat.le_of_ble_eq_true rfl⟩ rfl rfl (Nat.le_of_ble_eq_true rfl) hl.1 ⟨Nat.le_refl _, Nat.le_refl _⟩ dX12_clauseHere_52 (fun H locs hw => ?_)
      obtain ⟨hz_56, hf⟩ := yb_ck_some hf
      exact yb_retz hfin hz_56 hf hw dX12_clauseHere_55
set_option maxHeartbeats 4000000 in
set_option maxRecDepth 100000 in
theorem w12_readsAll_L35 {p : Program} {l : Launch} {e : Env} {s : State} {m : MethodId} {args : Array Value} {below : List Frame} {meth : Method} {c : Code} {Q : State → Prop} {D : va_G} {cz : Nat → ClassId} {A : Nat → Prop} {ev : Nat × Nat × Nat} {mb : Nat} (X : CallFix p m c cX12_readsAll 2 s args gw RX12) (hK : KX D cz ev A s) {N : Nat} :
    ∀ (n : Nat) (x1 : Int32) (I : IT) (J : JT) (q : (Int32)) (I1 : IT) (J1 : JT) (H : Heap) (locs : List Loc) (ls : Array Slot), f12_readsAll_L35 N mb n x1 I J = some (q, I1, J1) → WX D cz A (mlL mb) (mlS mb) (mlR mb) s.heap I J H locs → lv_has ls 2 [(0, .ref mb), (1, .int x1)] →
    (∀ (H : Heap) (locs : List Loc) (ls : Array Slot), WX D cz A (mlL mb) (mlS mb) (mlR mb) s.heap I1 J1 H locs → lv_has ls 2 [(0, .ref mb), (1, .int q)] → W p l e (rmX 11 241) s m args below meth c H locs 0 0 Q (F0 m 66 ls [])) →
    W p l e (rmX 11 241) s m args below meth c H locs 0 0 Q (F0 m 35 ls []) := by
  have hx := X.1
  have hb := X.2.1
  intro n
  induction n with
  | zero =>
    intro x1 I J q I1 J1 H locs ls hf
    rw [f12_readsAll_L35] at hf
    cases hf
  | succ n ih =>
    intro x1 I J q I1 J1 H locs ls hf hw hl hexit
    rw [f12_readsAll_L35] at hf
    refine lv_iload_n hx hb dX12_readsAll_35 rfl (lv_at hl 1 rfl) ?_
    refine lv_if_eq (tgt := 66) hx hb dX12_readsAll_36 (by decide) (fun c_11 => ?_) (fun c_11 => ?_)
    · have hf := yb_pos c_11 hf
      obtain ⟨rfl, rfl, rfl⟩ := yb_inj hf
      exact hexit _ _ _ hw (lv_sub hl [0, 1] rfl)
    · have hf := yb_neg c_11 hf
      refine lv_aload_n hx hb dX12_readsAll_39 rfl (lv_at hl 0 rfl) ?_
      obtain ⟨r_12, I_13, J_14, hq_15, hf⟩ := yb_b3_some hf
      refine x_calli X hK hw (c12_see l D cz ev mb hq_15) (ml_mem0 mb) (ml_S0 mb) cpX12.1 vw_X12_117 ⟨Nat.le_of_ble_eq_true rfl, Nat.le_of_ble_eq_true rfl⟩ rfl rfl (Nat.le_of_ble_eq_true rfl) hl.1 ⟨Nat.le_refl _, Nat.le_refl _⟩ dX12_readsAll_40 (fun H locs hw => ?_)
      refine lv_bipush (v := (59 : Int32)) hx hb dX12_readsAll_43 (by decide) ?_
      refine lv_icmp_ne (tgt := 66) hx hb dX12_readsAll_45 (by decide) (fun c_16 => ?_) (fun c_16 => ?_)
      · have hf := yb_neg c_16 hf
        obtain ⟨rfl, rfl, rfl⟩ := yb_inj hf
        exact hexit _ _ _ hw (lv_sub hl [0, 1] rfl)
      · have hf := yb_pos c_16 hf
        refine lv_aload_n hx hb dX12_readsAll_48 rfl (lv_at hl 0 rfl) ?_
        refine lv_dup hx hb dX12_readsAll_49 rfl ?_
        refine x_getI X hK hw (ml_mem0 mb) (ml_S0 mb) cpX12 8 (by decide) rfl tw_1259 dX12_readsAll_50 ?_
        refine lv_iconst (v := (1 : Int32)) hx hb dX12_readsAll_53 (by decide) ?_
        refine lv_iadd hx hb dX12_readsAll_54 ?_
        refine x_putI X hK hw (ml_mem0 mb) (ml_S0 mb) cpX12 8 (by decide) rfl rfl rfl tw_1259 dX12_readsAll_55 (fun H locs hw => ?_)
        obtain ⟨I_17, eI_17, hf⟩ := yb_let_ex hf
        have hw := yb_wI eI_17 hw
        refine lv_aload_n hx hb dX12_readsAll_58 rfl (lv_at hl 0 rfl) ?_
        obtain ⟨r_18, I_19, J_20, hq_21, hf⟩ := yb_b3_some hf
        refine x_calli X hK hw (c12_clauseHere l D cz ev mb hq_21) (ml_mem0 mb) (ml_S0 mb) cpX12.1 vw_X12_285 ⟨Nat.le_of_ble_eq_true rfl, Nat.le_of_ble_eq_true rfl⟩ rfl rfl (Nat.le_of_ble_eq_true rfl) hl.1 ⟨Nat.le_refl _, Nat.le_refl _⟩ dX12_readsAll_59 (fun H locs hw => ?_)
        refine lv_istore_n (lv' := [(1, .int r_18), (0, .ref mb)]) hx hb dX12_readsAll_62 rfl hl (by decide) rfl (fun ls hl => ?_)
        refine lv_goto (tgt := 35) hx hb dX12_readsAll_63 (by decide) ?_
        exact ih _ _ _ _ _ _ _ _ _ hf hw (lv_sub hl [1, 0] rfl) hexit
set_option maxHeartbeats 4000000 in
set_option maxRecDepth 100000 in
theorem c12_readsAll (l : Launch) (D : va_G) (cz : Nat → ClassId) (ev : Nat × Nat × Nat) (mb : Nat) {N : Nat} {I : IT} {J : JT} {r : Int32} {I1 : IT} {J1 : JT} (hf : f12_readsAll N mb I J = some (r, I1, J1)) : MTi l D cz ev yX12_readsAll cX12_readsAll 2 (some .boolean) 11 241 [.ref mb] (mlL mb) (mlS mb) (mlR mb) I J r I1 J1 := by
  unfold f12_readsAll at hf
  refine MTz_of (by decide) (Nat.le_of_ble_eq_true rfl) ?_
  intro p e s m args below meth c Q ls X hK hw hl hfin
  have X : CallFix p m c cX12_readsAll 2 s args gw RX12 := X
  have hx := X.1
  have hb := X.2.1
  have hl : lv_has ls 2 [(0, .ref mb)] := hl
  refine lv_aload_n hx hb dX12_readsAll_0 rfl (lv_at hl 0 rfl) ?_
  refine x_getR X hK hw (ml_mem0 mb) (ml_S0 mb) cpX12 4 (by decide) rfl (ml_R mb 4 rfl) tw_1255 dX12_readsAll_1 ?_
  refine lv_aload_n hx hb dX12_readsAll_4 rfl (lv_at hl 0 rfl) ?_
  refine x_getI X hK hw (ml_mem0 mb) (ml_S0 mb) cpX12 11 (by decide) rfl tw_1262 dX12_readsAll_5 ?_
  refine lv_iconst (v := (0 : Int32)) hx hb dX12_readsAll_8 (by decide) ?_
  obtain ⟨hi_1, hf⟩ := yb_ck_some hf
  refine x_iast X hK hw (ml_mem mb 3 (by decide)) (ml_S mb 3 rfl) hi_1 rfl dX12_readsAll_9 (fun H locs hw => ?_)
  obtain ⟨I_2, eI_2, hf⟩ := yb_let_ex hf
  have hw := yb_wI eI_2 hw
  refine lv_aload_n hx hb dX12_readsAll_10 rfl (lv_at hl 0 rfl) ?_
  refine lv_iconst (v := (0 : Int32)) hx hb dX12_readsAll_11 (by decide) ?_
  refine x_putI X hK hw (ml_mem0 mb) (ml_S0 mb) cpX12 14 (by decide) rfl rfl rfl tw_1265 dX12_readsAll_12 (fun H locs hw => ?_)
  obtain ⟨I_3, eI_3, hf⟩ := yb_let_ex hf
  have hw := yb_wI eI_3 hw
  refine lv_aload_n hx hb dX12_readsAll_15 rfl (lv_at hl 0 rfl) ?_
  refine lv_iconst (v := (0 : Int32)) hx hb dX12_readsAll_16 (by decide) ?_
  refine x_putI X hK hw (ml_mem0 mb) (ml_S0 mb) cpX12 8 (by decide) rfl rfl rfl tw_1259 dX12_readsAll_17 (fun H locs hw => ?_)
  obtain ⟨I_4, eI_4, hf⟩ := yb_let_ex hf
  have hw := yb_wI eI_4 hw
  refine lv_aload_n hx hb dX12_readsAll_20 rfl (lv_at hl 0 rfl) ?_
  refine lv_iconst (v := (0 : Int32)) hx hb dX12_readsAll_21 (by decide) ?_
  refine x_putI X hK hw (ml_mem0 mb) (ml_S0 mb) cpX12 9 (by decide) rfl rfl rfl tw_1260 dX12_readsAll_22 (fun H locs hw => ?_)
  obtain ⟨I_5, eI_5, hf⟩ := yb_let_ex hf
  have hw := yb_wI eI_5 hw
  refine lv_aload_n hx hb dX12_readsAll_25 rfl (lv_at hl 0 rfl) ?_
  refine lv_iconst (v := (0 : Int32)) hx hb dX12_readsAll_26 (by decide) ?_
  refine x_putI X hK hw (ml_mem0 mb) (ml_S0 mb) cpX12 12 (by decide) rfl rfl rfl tw_1263 dX12_readsAll_27 (fun H locs hw => ?_)
  obtain ⟨I_6, eI_6, hf⟩ := yb_let_ex hf
  have hw := yb_wI eI_6 hw
  refine lv_aload_n hx hb dX12_readsAll_30 rfl (lv_at hl 0 rfl) ?_
  obtain ⟨r_7, I_8, J_9, hq_10, hf⟩ := yb_b3_some hf
  refine x_calli X hK hw (c12_clauseHere l D cz ev mb hq_10) (ml_mem0 mb) (ml_S0 mb) cpX12.1 vw_X12_285 ⟨Nat.le_of_ble_eq_true rfl, Nat.le_of_ble_eq_true rfl⟩ rfl rfl (Nat.le_of_ble_eq_true rfl) hl.1 ⟨Nat.le_refl _, Nat.le_refl _⟩ dX12_readsAll_31 (fun H locs hw => ?_)
  refine lv_istore_n (lv' := [(1, .int r_7), (0, .ref mb)]) hx hb dX12_readsAll_34 rfl hl (by decide) rfl (fun ls hl => ?_)
  obtain ⟨q_22, I_23, J_24, hq_25, hf⟩ := yb_b3_some hf
  refine w12_readsAll_L35 X hK _ _ _ _ _ _ _ _ _ _ hq_25 hw (lv_sub hl [1, 0] rfl) (fun H locs ls hw hl => ?_)
  refine lv_iload_n hx hb dX12_readsAll_66 rfl (lv_at hl 1 rfl) ?_
  refine lv_if_eq (tgt := 88) hx hb dX12_readsAll_67 (by decide) (fun c_26 => ?_) (fun c_26 => ?_)
  · have hf := yb_pos c_26 hf
    refine lv_aload_n hx hb dX12_readsAll_88 rfl (lv_at hl 0 rfl) ?_
    refine lv_iconst (v := (0 : Int32)) hx hb dX12_readsAll_89 (by decide) ?_
    refine x_putI X hK hw (ml_mem0 mb) (ml_S0 mb) cpX12 1 (by decide) rfl rfl rfl tw_1252 dX12_readsAll_90 (fun H locs hw => ?_)
    obtain ⟨I_27, eI_27, hf⟩ := yb_let_ex hf
    have hw := yb_wI eI_27 hw
    refine lv_aload_n hx hb dX12_readsAll_93 rfl (lv_at hl 0 rfl) ?_
    refine x_getI X hK hw (ml_mem0 mb) (ml_S0 mb) cpX12 9 (by decide) rfl tw_1260 dX12_readsAll_94 ?_
    refine lv_if_ne (tgt := 104) hx hb dX12_readsAll_97 (by decide) (fun c_28 => ?_) (fun c_28 => ?_)
    · have hf := yb_neg c_28 hf
      refine lv_iconst (v := (0 : Int32)) hx hb dX12_readsAll_104 (by decide) ?_
      exact yb_retz hfin (by decide) hf hw dX12_readsAll_105
    · have hf := yb_pos c_28 hf
      refine lv_iconst (v := (1 : Int32)) hx hb dX12_readsAll_100 (by decide) ?_
      refine lv_goto (tgt := 105) hx hb dX12_readsAll_101 (by decide) ?_
      exact yb_retz hfin (by decide) hf hw dX12_readsAll_105
  · have hf := yb_neg c_26 hf
    refine lv_aload_n hx hb dX12_readsAll_70 rfl (lv_at hl 0 rfl) ?_
    obtain ⟨r_29, I_30, J_31, hq_32, hf⟩ := yb_b3_some hf
    refine x_calli X hK hw (c12_see l D cz ev mb hq_32) (ml_mem0 mb) (ml_S0 mb) cpX12.1 vw_X12_117 ⟨Nat.le_of_ble_eq_true rfl, Nat.le_of_ble_eq_true rfl⟩ rfl rfl (Nat.le_of_ble_eq_true rfl) hl.1 ⟨Nat.le_refl _, Nat.le_refl _⟩ dX12_readsAll_71 (fun H locs hw => ?_)
    refine lv_iconst (v := (-1 : Int32)) hx hb dX12_readsAll_74 (by decide) ?_
    refine lv_icmp_eq (tgt := 88) hx hb dX12_readsAll_75 (by decide) (fun c_33 => ?_) (fun c_33 => ?_)
    · have hf := yb_pos c_33 hf
      refine lv_aload_n hx hb dX12_readsAll_88 rfl (lv_at hl 0 rfl) ?_
      refine lv_iconst (v := (0 : Int32)) hx hb dX12_readsAll_89 (by decide) ?_
      refine x_putI X hK hw (ml_mem0 mb) (ml_S0 mb) cpX12 1 (by decide) rfl rfl rfl tw_1252 dX12_readsAll_90 (fun H locs hw => ?_)
      obtain ⟨I_34, eI_34, hf⟩ := yb_let_ex hf
      have hw := yb_wI eI_34 hw
      refine lv_aload_n hx hb dX12_readsAll_93 rfl (lv_at hl 0 rfl) ?_
      refine x_getI X hK hw (ml_mem0 mb) (ml_S0 mb) cpX12 9 (by decide) rfl tw_1260 dX12_readsAll_94 ?_
      refine lv_if_ne (tgt := 104) hx hb dX12_readsAll_97 (by decide) (fun c_35 => ?_) (fun c_35 => ?_)
      · have hf := yb_neg c_35 hf
        refine lv_iconst (v := (0 : Int32)) hx hb dX12_readsAll_104 (by decide) ?_
        exact yb_retz hfin (by decide) hf hw dX12_readsAll_105
      · have hf := yb_pos c_35 hf
        refine lv_iconst (v := (1 : Int32)) hx hb dX12_readsAll_100 (by decide) ?_
        refine lv_goto (tgt := 105) hx hb dX12_readsAll_101 (by decide) ?_
        exact yb_retz hfin (by decide) hf hw dX12_readsAll_105
    · have hf := yb_neg c_33 hf
      refine lv_aload_n hx hb dX12_readsAll_78 rfl (lv_at hl 0 rfl) ?_
      refine lv_iconst (v := (0 : Int32)) hx hb dX12_readsAll_79 (by decide) ?_
      refine lv_aload_n hx hb dX12_readsAll_80 rfl (lv_at hl 0 rfl) ?_
      refine x_getI X hK hw (ml_mem0 mb) (ml_S0 mb) cpX12 8 (by decide) rfl tw_1259 dX12_readsAll_81 ?_
      obtain ⟨r_36, I_37, J_38, hq_39, hf⟩ := yb_b3_some hf
      refine x_calli X hK hw (c12_fails l D cz ev mb hq_39) (ml_mem0 mb) (ml_S0 mb) cpX12.1 vw_X12_135 ⟨Nat.le_of_ble_eq_true rfl, Nat.le_of_ble_eq_true rfl⟩ rfl rfl (Nat.le_of_ble_eq_true rfl) hl.1 ⟨Nat.le_refl _, Nat.le_refl _⟩ dX12_readsAll_84 (fun H locs hw => ?_)
      refine lv_pop hx hb dX12_readsAll_87 rfl ?_
      refine lv_aload_n hx hb dX12_readsAll_88 rfl (lv_at hl 0 rfl) ?_
      refine lv_iconst (v := (0 : Int32)) hx hb dX12_readsAll_89 (by decide) ?_
      refine x_putI X hK hw (ml_mem0 mb) (ml_S0 mb) cpX12 1 (by decide) rfl rfl rfl tw_1252 dX12_readsAll_90 (fun H locs hw => ?_)
      obtain ⟨I_40, eI_40, hf⟩ := yb_let_ex hf
      have hw := yb_wI eI_40 hw
      refine lv_aload_n hx hb dX12_readsAll_93 rfl (lv_at hl 0 rfl) ?_
      refine x_getI X hK hw (ml_mem0 mb) (ml_S0 mb) cpX12 9 (by decide) rfl tw_1260 dX12_readsAll_94 ?_
      refine lv_if_ne (tgt := 104) hx hb dX12_readsAll_97 (by decide) (fun c_41 => ?_) (fun c_41 => ?_)
      · have hf := yb_neg c_41 hf
        refine lv_iconst (v := (0 : Int32)) hx hb dX12_readsAll_104 (by decide) ?_
        exact yb_retz hfin (by decide) hf hw dX12_readsAll_105
      · have hf := yb_pos c_41 hf
        refine lv_iconst (v := (1 : Int32)) hx hb dX12_readsAll_100 (by decide) ?_
        refine lv_goto (tgt := 105) hx hb dX12_readsAll_101 (by decide) ?_
        exact yb_retz hfin (by decide) hf hw dX12_readsAll_105
set_option maxHeartbeats 4000000 in
set_option maxRecDepth 100000 in
theorem c12_rule (l : Launch) (D : va_G) (cz : Nat → ClassId) (ev : Nat × Nat × Nat) (mb : Nat) {N : Nat} {I : IT} {J : JT} {r : Int32} {I1 : IT} {J1 : JT} (hf : f12_rule N mb I J = some (r, I1, J1)) : MTi l D cz ev yX12_rule cX12_rule 1 (some .int) 12 262 [.ref mb] (mlL mb) (mlS mb) (mlR mb) I J r I1 J1 := by
  unfold f12_rule at hf
  refine MTi_of (by decide) (Nat.le_of_ble_eq_true rfl) ?_
  intro p e s m args below meth c Q ls X hK hw hl hfin
  have X : CallFix p m c cX12_rule 1 s args gw RX12 := X
  have hx := X.1
  have hb := X.2.1
  have hl : lv_has ls 1 [(0, .ref mb)] := hl
  refine lv_aload_n hx hb dX12_rule_0 rfl (lv_at hl 0 rfl) ?_
  refine x_getI X hK hw (ml_mem0 mb) (ml_S0 mb) cpX12 2 (by decide) rfl tw_1253 dX12_rule_1 ?_
  refine lv_bipush (v := (6 : Int32)) hx hb dX12_rule_4 (by decide) ?_
  refine lv_icmp_ne (tgt := 11) hx hb dX12_rule_6 (by decide) (fun c_1 => ?_) (fun c_1 => ?_)
  · have hf := yb_neg c_1 hf
    refine lv_aload_n hx hb dX12_rule_11 rfl (lv_at hl 0 rfl) ?_
    refine lv_aload_n hx hb dX12_rule_12 rfl (lv_at hl 0 rfl) ?_
    refine x_getI X hK hw (ml_mem0 mb) (ml_S0 mb) cpX12 2 (by decide) rfl tw_1253 dX12_rule_13 ?_
    refine x_putI X hK hw (ml_mem0 mb) (ml_S0 mb) cpX12 11 (by decide) rfl rfl rfl tw_1262 dX12_rule_16 (fun H locs hw => ?_)
    obtain ⟨I_2, eI_2, hf⟩ := yb_let_ex hf
    have hw := yb_wI eI_2 hw
    refine lv_aload_n hx hb dX12_rule_19 rfl (lv_at hl 0 rfl) ?_
    refine x_getR X hK hw (ml_mem0 mb) (ml_S0 mb) cpX12 6 (by decide) rfl (ml_R mb 6 rfl) tw_1257 dX12_rule_20 ?_
    refine lv_aload_n hx hb dX12_rule_23 rfl (lv_at hl 0 rfl) ?_
    refine x_getI X hK hw (ml_mem0 mb) (ml_S0 mb) cpX12 11 (by decide) rfl tw_1262 dX12_rule_24 ?_
    refine lv_iconst (v := (0 : Int32)) hx hb dX12_rule_27 (by decide) ?_
    obtain ⟨hi_3, hf⟩ := yb_ck_some hf
    refine x_iast X hK hw (ml_mem mb 5 (by decide)) (ml_S mb 5 rfl) hi_3 rfl dX12_rule_28 (fun H locs hw => ?_)
    obtain ⟨I_4, eI_4, hf⟩ := yb_let_ex hf
    have hw := yb_wI eI_4 hw
    refine lv_aload_n hx hb dX12_rule_29 rfl (lv_at hl 0 rfl) ?_
    obtain ⟨r_5, I_6, J_7, hq_8, hf⟩ := yb_b3_some hf
    refine x_calli X hK hw (c12_readsAll l D cz ev mb hq_8) (ml_mem0 mb) (ml_S0 mb) cpX12.1 vw_X12_291 ⟨Nat.le_of_ble_eq_true rfl, Nat.le_of_ble_eq_true rfl⟩ rfl rfl (Nat.le_of_ble_eq_true rfl) hl.1 ⟨Nat.le_refl _, Nat.le_refl _⟩ dX12_rule_30 (fun H locs hw => ?_)
    refine lv_if_ne (tgt := 44) hx hb dX12_rule_33 (by decide) (fun c_9 => ?_) (fun c_9 => ?_)
    · have hf := yb_neg c_9 hf
      refine lv_aload_n hx hb dX12_rule_44 rfl (lv_at hl 0 rfl) ?_
      refine lv_dup hx hb dX12_rule_45 rfl ?_
      refine x_getI X hK hw (ml_mem0 mb) (ml_S0 mb) cpX12 2 (by decide) rfl tw_1253 dX12_rule_46 ?_
      refine lv_iconst (v := (1 : Int32)) hx hb dX12_rule_49 (by decide) ?_
      refine lv_iadd hx hb dX12_rule_50 ?_
      refine x_putI X hK hw (ml_mem0 mb) (ml_S0 mb) cpX12 2 (by decide) rfl rfl rfl tw_1253 dX12_rule_51 (fun H locs hw => ?_)
      obtain ⟨I_10, eI_10, hf⟩ := yb_let_ex hf
      have hw := yb_wI eI_10 hw
      refine lv_aload_n hx hb dX12_rule_54 rfl (lv_at hl 0 rfl) ?_
      refine x_getI X hK hw (ml_mem0 mb) (ml_S0 mb) cpX12 2 (by decide) rfl tw_1253 dX12_rule_55 ?_
      refine lv_iconst (v := (1 : Int32)) hx hb dX12_rule_58 (by decide) ?_
      refine lv_isub hx hb dX12_rule_59 ?_
      exact yb_reti hfin hf hw dX12_rule_60
    · have hf := yb_pos c_9 hf
      refine lv_bipush (v := (-2 : Int32)) hx hb dX12_rule_36 (by decide) ?_
      refine lv_aload_n hx hb dX12_rule_38 rfl (lv_at hl 0 rfl) ?_
      refine x_getI X hK hw (ml_mem0 mb) (ml_S0 mb) cpX12 9 (by decide) rfl tw_1260 dX12_rule_39 ?_
      refine lv_isub hx hb dX12_rule_42 ?_
      exact yb_reti hfin hf hw dX12_rule_43
  · have hf := yb_pos c_1 hf
    refine lv_iconst (v := (-1 : Int32)) hx hb dX12_rule_9 (by decide) ?_
    exact yb_reti hfin hf hw dX12_rule_10
set_option maxHeartbeats 4000000 in
set_option maxRecDepth 100000 in
theorem w12_town_L8 {p : Program} {l : Launch} {e : Env} {s : State} {m : MethodId} {args : Array Value} {below : List Frame} {meth : Method} {c : Code} {Q : State → Prop} {D : va_G} {cz : Nat → ClassId} {A : Nat → Prop} {ev : Nat × Nat × Nat} {mb : Nat} (X : CallFix p m c cX12_town 2 s args gw RX12) (hK : KX D cz ev A s) {N : Nat} :
    ∀ (n : Nat) (x1 : Int32) (I : IT) (J : JT) (q : (Unit)) (I1 : IT) (J1 : JT) (H : Heap) (locs : List Loc) (ls : Array Slot), f12_town_L8 N mb n x1 I J = some (q, I1, J1) → WX D cz A (mlL mb) (mlS mb) (mlR mb) s.heap I J H locs → lv_has ls 2 [(0, .ref mb), (1, .int x1)] →
    (∀ (H : Heap) (locs : List Loc) (ls : Array Slot), WX D cz A (mlL mb) (mlS mb) (mlR mb) s.heap I1 J1 H locs → lv_has ls 2 [(0, .ref mb)] → W p l e (rmX 12 262) s m args below meth c H locs 0 0 Q (F0 m 42 ls [])) →
    W p l e (rmX 12 262) s m args below meth c H locs 0 0 Q (F0 m 8 ls []) := by
  have hx := X.1
  have hb := X.2.1
  intro n
  induction n with
  | zero =>
    intro x1 I J q I1 J1 H locs ls hf
    rw [f12_town_L8] at hf
    cases hf
  | succ n ih =>
    intro x1 I J q I1 J1 H locs ls hf hw hl hexit
    rw [f12_town_L8] at hf
    refine lv_iload_n hx hb dX12_town_8 rfl (lv_at hl 1 rfl) ?_
    refine lv_bipush (v := (10 : Int32)) hx hb dX12_town_9 (by decide) ?_
    refine lv_icmp_ge (tgt := 42) hx hb dX12_town_11 (by decide) (fun c_2 => ?_) (fun c_2 => ?_)
    · have hf := yb_pos c_2 hf
      obtain ⟨rfl, rfl, rfl⟩ := yb_inj hf
      exact hexit _ _ _ hw (lv_sub hl [0] rfl)
    · have hf := yb_neg c_2 hf
      refine lv_aload_n hx hb dX12_town_14 rfl (lv_at hl 0 rfl) ?_
      refine x_getR X hK hw (ml_mem0 mb) (ml_S0 mb) cpX12 7 (by decide) rfl (ml_R mb 7 rfl) tw_1258 dX12_town_15 ?_
      refine lv_iload_n hx hb dX12_town_18 rfl (lv_at hl 1 rfl) ?_
      refine lv_iload_n hx hb dX12_town_19 rfl (lv_at hl 1 rfl) ?_
      refine lv_iconst (v := (5 : Int32)) hx hb dX12_town_20 (by decide) ?_
      refine lv_icmp_eq (tgt := 30) hx hb dX12_town_21 (by decide) (fun c_3 => ?_) (fun c_3 => ?_)
      · have hf := yb_pos c_3 hf
        refine lv_iconst (v := (-1 : Int32)) hx hb dX12_town_30 (by decide) ?_
        refine lv_goto (tgt := 35) hx hb dX12_town_31 (by decide) ?_
        obtain ⟨hi_4, hf⟩ := yb_ck_some hf
        refine x_iast X hK hw (ml_mem mb 6 (by decide)) (ml_S mb 6 rfl) hi_4 rfl dX12_town_35 (fun H locs hw => ?_)
        obtain ⟨I_5, eI_5, hf⟩ := yb_let_ex hf
        have hw := yb_wI eI_5 hw
        obtain ⟨x1_6, ex1_6, hf⟩ := yb_let_ex hf
        refine lv_iinc (v := x1_6) (lv' := [(1, .int x1_6), (0, .ref mb)]) hx hb dX12_town_36 hl (k := 1) rfl (by rw [ex1_6]; rfl) (by decide) rfl (fun ls hl => ?_)
        refine lv_goto (tgt := 8) hx hb dX12_town_39 (by decide) ?_
        exact ih _ _ _ _ _ _ _ _ _ hf hw (lv_sub hl [1, 0] rfl) hexit
      · have hf := yb_neg c_3 hf
        refine lv_iload_n hx hb dX12_town_24 rfl (lv_at hl 1 rfl) ?_
        refine lv_bipush (v := (6 : Int32)) hx hb dX12_town_25 (by decide) ?_
        refine lv_icmp_ne (tgt := 34) hx hb dX12_town_27 (by decide) (fun c_7 => ?_) (fun c_7 => ?_)
        · have hf := yb_neg c_7 hf
          refine lv_iconst (v := (0 : Int32)) hx hb dX12_town_34 (by decide) ?_
          obtain ⟨hi_8, hf⟩ := yb_ck_some hf
          refine x_iast X hK hw (ml_mem mb 6 (by decide)) (ml_S mb 6 rfl) hi_8 rfl dX12_town_35 (fun H locs hw => ?_)
          obtain ⟨I_9, eI_9, hf⟩ := yb_let_ex hf
          have hw := yb_wI eI_9 hw
          obtain ⟨x1_10, ex1_10, hf⟩ := yb_let_ex hf
          refine lv_iinc (v := x1_10) (lv' := [(1, .int x1_10), (0, .ref mb)]) hx hb dX12_town_36 hl (k := 1) rfl (by rw [ex1_10]; rfl) (by decide) rfl (fun ls hl => ?_)
          refine lv_goto (tgt := 8) hx hb dX12_town_39 (by decide) ?_
          exact ih _ _ _ _ _ _ _ _ _ hf hw (lv_sub hl [1, 0] rfl) hexit
        · have hf := yb_pos c_7 hf
          refine lv_iconst (v := (-1 : Int32)) hx hb dX12_town_30 (by decide) ?_
          refine lv_goto (tgt := 35) hx hb dX12_town_31 (by decide) ?_
          obtain ⟨hi_11, hf⟩ := yb_ck_some hf
          refine x_iast X hK hw (ml_mem mb 6 (by decide)) (ml_S mb 6 rfl) hi_11 rfl dX12_town_35 (fun H locs hw => ?_)
          obtain ⟨I_12, eI_12, hf⟩ := yb_let_ex hf
          have hw := yb_wI eI_12 hw
          obtain ⟨x1_13, ex1_13, hf⟩ := yb_let_ex hf
          refine lv_iinc (v := x1_13) (lv' := [(1, .int x1_13), (0, .ref mb)]) hx hb dX12_town_36 hl (k := 1) rfl (by rw [ex1_13]; rfl) (by decide) rfl (fun ls hl => ?_)
          refine lv_goto (tgt := 8) hx hb dX12_town_39 (by decide) ?_
          exact ih _ _ _ _ _ _ _ _ _ hf hw (lv_sub hl [1, 0] rfl) hexit
set_option maxHeartbeats 4000000 in
set_option maxRecDepth 100000 in
theorem w12_town_L59 {p : Program} {l : Launch} {e : Env} {s : State} {m : MethodId} {args : Array Value} {below : List Frame} {meth : Method} {c : Code} {Q : State → Prop} {D : va_G} {cz : Nat → ClassId} {A : Nat → Prop} {ev : Nat × Nat × Nat} {mb : Nat} (X : CallFix p m c cX12_town 2 s args gw RX12) (hK : KX D cz ev A s) {N : Nat} :
    ∀ (n : Nat) (x1 : Int32) (I : IT) (J : JT) (q : (Unit)) (I1 : IT) (J1 : JT) (H : Heap) (locs : List Loc) (ls : Array Slot), f12_town_L59 N mb n x1 I J = some (q, I1, J1) → WX D cz A (mlL mb) (mlS mb) (mlR mb) s.heap I J H locs → lv_has ls 2 [(0, .ref mb), (1, .int x1)] →
    (∀ (H : Heap) (locs : List Loc) (ls : Array Slot), WX D cz A (mlL mb) (mlS mb) (mlR mb) s.heap I1 J1 H locs → lv_has ls 2 [(0, .ref mb)] → W p l e (rmX 12 262) s m args below meth c H locs 0 0 Q (F0 m 94 ls [])) →
    W p l e (rmX 12 262) s m args below meth c H locs 0 0 Q (F0 m 59 ls []) := by
  have hx := X.1
  have hb := X.2.1
  intro n
  induction n with
  | zero =>
    intro x1 I J q I1 J1 H locs ls hf
    rw [f12_town_L59] at hf
    cases hf
  | succ n ih =>
    intro x1 I J q I1 J1 H locs ls hf hw hl hexit
    rw [f12_town_L59] at hf
    refine lv_iload_n hx hb dX12_town_59 rfl (lv_at hl 1 rfl) ?_
    refine lv_sipush (v := (142 : Int32)) hx hb dX12_town_60 (by decide) ?_
    refine lv_icmp_ge (tgt := 94) hx hb dX12_town_63 (by decide) (fun c_23 => ?_) (fun c_23 => ?_)
    · have hf := yb_pos c_23 hf
      obtain ⟨rfl, rfl, rfl⟩ := yb_inj hf
      exact hexit _ _ _ hw (lv_sub hl [0] rfl)
    · have hf := yb_neg c_23 hf
      refine lv_aload_n hx hb dX12_town_66 rfl (lv_at hl 0 rfl) ?_
      refine x_getR X hK hw (ml_mem0 mb) (ml_S0 mb) cpX12 20 (by decide) rfl (ml_R mb 20 rfl) tw_1271 dX12_town_67 ?_
      refine lv_iload_n hx hb dX12_town_70 rfl (lv_at hl 1 rfl) ?_
      refine lv_iload_n hx hb dX12_town_71 rfl (lv_at hl 1 rfl) ?_
      refine lv_bipush (v := (111 : Int32)) hx hb dX12_town_72 (by decide) ?_
      refine lv_icmp_ge (tgt := 86) hx hb dX12_town_74 (by decide) (fun c_24 => ?_) (fun c_24 => ?_)
      · have hf := yb_pos c_24 hf
        refine lv_iconst (v := (0 : Int32)) hx hb dX12_town_86 (by decide) ?_
        obtain ⟨hi_25, hf⟩ := yb_ck_some hf
        refine x_iast X hK hw (ml_mem mb 10 (by decide)) (ml_S mb 10 rfl) hi_25 rfl dX12_town_87 (fun H locs hw => ?_)
        obtain ⟨I_26, eI_26, hf⟩ := yb_let_ex hf
        have hw := yb_wI eI_26 hw
        obtain ⟨x1_27, ex1_27, hf⟩ := yb_let_ex hf
        refine lv_iinc (v := x1_27) (lv' := [(1, .int x1_27), (0, .ref mb)]) hx hb dX12_town_88 hl (k := 1) rfl (by rw [ex1_27]; rfl) (by decide) rfl (fun ls hl => ?_)
        refine lv_goto (tgt := 59) hx hb dX12_town_91 (by decide) ?_
        exact ih _ _ _ _ _ _ _ _ _ hf hw (lv_sub hl [1, 0] rfl) hexit
      · have hf := yb_neg c_24 hf
        refine lv_aload_n hx hb dX12_town_77 rfl (lv_at hl 0 rfl) ?_
        refine x_getR X hK hw (ml_mem0 mb) (ml_S0 mb) cpX12 7 (by decide) rfl (ml_R mb 7 rfl) tw_1258 dX12_town_78 ?_
        refine lv_iload_n hx hb dX12_town_81 rfl (lv_at hl 1 rfl) ?_
        obtain ⟨hi_28, hf⟩ := yb_ck_some hf
        refine x_iald X hK hw (ml_mem mb 6 (by decide)) (ml_S mb 6 rfl) hi_28 rfl dX12_town_82 ?_
        refine lv_goto (tgt := 87) hx hb dX12_town_83 (by decide) ?_
        obtain ⟨hi_29, hf⟩ := yb_ck_some hf
        refine x_iast X hK hw (ml_mem mb 10 (by decide)) (ml_S mb 10 rfl) hi_29 rfl dX12_town_87 (fun H locs hw => ?_)
        obtain ⟨I_30, eI_30, hf⟩ := yb_let_ex hf
        have hw := yb_wI eI_30 hw
        obtain ⟨x1_31, ex1_31, hf⟩ := yb_let_ex hf
        refine lv_iinc (v := x1_31) (lv' := [(1, .int x1_31), (0, .ref mb)]) hx hb dX12_town_88 hl (k := 1) rfl (by rw [ex1_31]; rfl) (by decide) rfl (fun ls hl => ?_)
        refine lv_goto (tgt := 59) hx hb dX12_town_91 (by decide) ?_
        exact ih _ _ _ _ _ _ _ _ _ hf hw (lv_sub hl [1, 0] rfl) hexit
set_option maxHeartbeats 4000000 in
set_option maxRecDepth 100000 in
theorem c12_town (l : Launch) (D : va_G) (cz : Nat → ClassId) (ev : Nat × Nat × Nat) (mb : Nat) {N : Nat} {I : IT} {J : JT} {r : Int32} {I1 : IT} {J1 : JT} (hf : f12_town N mb I J = some (r, I1, J1)) : MTi l D cz ev yX12_town cX12_town 2 (some .int) 12 262 [.ref mb] (mlL mb) (mlS mb) (mlR mb) I J r I1 J1 := by
  unfold f12_town at hf
  refine MTi_of (by decide) (Nat.le_of_ble_eq_true rfl) ?_
  intro p e s m args below meth c Q ls X hK hw hl hfin
  have X : CallFix p m c cX12_town 2 s args gw RX12 := X
  have hx := X.1
  have hb := X.2.1
  have hl : lv_has ls 2 [(0, .ref mb)] := hl
  refine lv_aload_n hx hb dX12_town_0 rfl (lv_at hl 0 rfl) ?_
  refine lv_bipush (v := (6 : Int32)) hx hb dX12_town_1 (by decide) ?_
  refine x_putI X hK hw (ml_mem0 mb) (ml_S0 mb) cpX12 11 (by decide) rfl rfl rfl tw_1262 dX12_town_3 (fun H locs hw => ?_)
  obtain ⟨I_1, eI_1, hf⟩ := yb_let_ex hf
  have hw := yb_wI eI_1 hw
  refine lv_iconst (v := (0 : Int32)) hx hb dX12_town_6 (by decide) ?_
  refine lv_istore_n (lv' := [(1, .int (0 : Int32)), (0, .ref mb)]) hx hb dX12_town_7 rfl hl (by decide) rfl (fun ls hl => ?_)
  obtain ⟨q_14, I_15, J_16, hq_17, hf⟩ := yb_b3_some hf
  refine w12_town_L8 X hK _ _ _ _ _ _ _ _ _ _ hq_17 hw (lv_sub hl [1, 0] rfl) (fun H locs ls hw hl => ?_)
  refine lv_aload_n hx hb dX12_town_42 rfl (lv_at hl 0 rfl) ?_
  obtain ⟨r_18, I_19, J_20, hq_21, hf⟩ := yb_b3_some hf
  refine x_calli X hK hw (c12_readsAll l D cz ev mb hq_21) (ml_mem0 mb) (ml_S0 mb) cpX12.1 vw_X12_291 ⟨Nat.le_of_ble_eq_true rfl, Nat.le_of_ble_eq_true rfl⟩ rfl rfl (Nat.le_of_ble_eq_true rfl) hl.1 ⟨Nat.le_refl _, Nat.le_refl _⟩ dX12_town_43 (fun H locs hw => ?_)
  refine lv_if_ne (tgt := 57) hx hb dX12_town_46 (by decide) (fun c_22 => ?_) (fun c_22 => ?_)
  · have hf := yb_neg c_22 hf
    refine lv_iconst (v := (0 : Int32)) hx hb dX12_town_57 (by decide) ?_
    refine lv_istore_n (lv' := [(1, .int (0 : Int32)), (0, .ref mb)]) hx hb dX12_town_58 rfl hl (by decide) rfl (fun ls hl => ?_)
    obtain ⟨q_32, I_33, J_34, hq_35, hf⟩ := yb_b3_some hf
    refine w12_town_L59 X hK _ _ _ _ _ _ _ _ _ _ hq_35 hw (lv_sub hl [1, 0] rfl) (fun H locs ls hw hl => ?_)
    refine lv_aload_n hx hb dX12_town_94 rfl (lv_at hl 0 rfl) ?_
    refine x_getR X hK hw (ml_mem0 mb) (ml_S0 mb) cpX12 20 (by decide) rfl (ml_R mb 20 rfl) tw_1271 dX12_town_95 ?_
    refine lv_iconst (v := (5 : Int32)) hx hb dX12_town_98 (by decide) ?_
    refine x_iald X hK hw (ml_mem mb 10 (by decide)) (ml_S mb 10 rfl) (by decide) rfl dX12_town_99 ?_
    refine lv_if_ge (tgt := 120) hx hb dX12_town_100 (by decide) (fun c_36 => ?_) (fun c_36 => ?_)
    · have hf := yb_pos c_36 hf
      refine lv_aload_n hx hb dX12_town_120 rfl (lv_at hl 0 rfl) ?_
      refine lv_iconst (v := (0 : Int32)) hx hb dX12_town_121 (by decide) ?_
      refine x_putI X hK hw (ml_mem0 mb) (ml_S0 mb) cpX12 24 (by decide) rfl rfl rfl tw_1275 dX12_town_122 (fun H locs hw => ?_)
      obtain ⟨I_37, eI_37, hf⟩ := yb_let_ex hf
      have hw := yb_wI eI_37 hw
      refine lv_aload_n hx hb dX12_town_125 rfl (lv_at hl 0 rfl) ?_
      refine x_getR X hK hw (ml_mem0 mb) (ml_S0 mb) cpX12 20 (by decide) rfl (ml_R mb 20 rfl) tw_1271 dX12_town_126 ?_
      refine lv_iconst (v := (2 : Int32)) hx hb dX12_town_129 (by decide) ?_
      refine x_iald X hK hw (ml_mem mb 10 (by decide)) (ml_S mb 10 rfl) (by decide) rfl dX12_town_130 ?_
      exact yb_reti hfin hf hw dX12_town_131
    · have hf := yb_neg c_36 hf
      refine lv_aload_n hx hb dX12_town_103 rfl (lv_at hl 0 rfl) ?_
      refine x_getR X hK hw (ml_mem0 mb) (ml_S0 mb) cpX12 20 (by decide) rfl (ml_R mb 20 rfl) tw_1271 dX12_town_104 ?_
      refine lv_iconst (v := (5 : Int32)) hx hb dX12_town_107 (by decide) ?_
      refine lv_iconst (v := (0 : Int32)) hx hb dX12_town_108 (by decide) ?_
      refine x_iast X hK hw (ml_mem mb 10 (by decide)) (ml_S mb 10 rfl) (by decide) rfl dX12_town_109 (fun H locs hw => ?_)
      obtain ⟨I_38, eI_38, hf⟩ := yb_let_ex hf
      have hw := yb_wI eI_38 hw
      refine lv_aload_n hx hb dX12_town_110 rfl (lv_at hl 0 rfl) ?_
      refine x_getR X hK hw (ml_mem0 mb) (ml_S0 mb) cpX12 20 (by decide) rfl (ml_R mb 20 rfl) tw_1271 dX12_town_111 ?_
      refine lv_bipush (v := (6 : Int32)) hx hb dX12_town_114 (by decide) ?_
      refine lv_sipush (v := (9999 : Int32)) hx hb dX12_town_116 (by decide) ?_
      refine x_iast X hK hw (ml_mem mb 10 (by decide)) (ml_S mb 10 rfl) (by decide) rfl dX12_town_119 (fun H locs hw => ?_)
      obtain ⟨I_39, eI_39, hf⟩ := yb_let_ex hf
      have hw := yb_wI eI_39 hw
      refine lv_aload_n hx hb dX12_town_120 rfl (lv_at hl 0 rfl) ?_
      refine lv_iconst (v := (0 : Int32)) hx hb dX12_town_121 (by decide) ?_
      refine x_putI X hK hw (ml_mem0 mb) (ml_S0 mb) cpX12 24 (by decide) rfl rfl rfl tw_1275 dX12_town_122 (fun H locs hw => ?_)
      obtain ⟨I_40, eI_40, hf⟩ := yb_let_ex hf
      have hw := yb_wI eI_40 hw
      refine lv_aload_n hx hb dX12_town_125 rfl (lv_at hl 0 rfl) ?_
      refine x_getR X hK hw (ml_mem0 mb) (ml_S0 mb) cpX12 20 (by decide) rfl (ml_R mb 20 rfl) tw_1271 dX12_town_126 ?_
      refine lv_iconst (v := (2 : Int32)) hx hb dX12_town_129 (by decide) ?_
      refine x_iald X hK hw (ml_mem mb 10 (by decide)) (ml_S mb 10 rfl) (by decide) rfl dX12_town_130 ?_
      exact yb_reti hfin hf hw dX12_town_131
  · have hf := yb_pos c_22 hf
    refine lv_bipush (v := (-2 : Int32)) hx hb dX12_town_49 (by decide) ?_
    refine lv_aload_n hx hb dX12_town_51 rfl (lv_at hl 0 rfl) ?_
    refine x_getI X hK hw (ml_mem0 mb) (ml_S0 mb) cpX12 9 (by decide) rfl tw_1260 dX12_town_52 ?_
    refine lv_isub hx hb dX12_town_55 ?_
    exact yb_reti hfin hf hw dX12_town_56
set_option maxHeartbeats 4000000 in
set_option maxRecDepth 100000 in
theorem c12_isRule (l : Launch) (D : va_G) (cz : Nat → ClassId) (ev : Nat × Nat × Nat) (mb : Nat) {x1 : Int32} {I : IT} {J : JT} {r : Int32} {I1 : IT} {J1 : JT} (hf : f12_isRule mb x1 I J = some (r, I1, J1)) : MTi l D cz ev yX12_isRule cX12_isRule 2 (some .boolean) 0 0 [.ref mb, .int x1] (mlL mb) (mlS mb) (mlR mb) I J r I1 J1 := by
  unfold f12_isRule at hf
  refine MTz_of (by decide) (Nat.le_of_ble_eq_true rfl) ?_
  intro p e s m args below meth c Q ls X hK hw hl hfin
  have X : CallFix p m c cX12_isRule 2 s args gw RX12 := X
  have hx := X.1
  have hb := X.2.1
  have hl : lv_has ls 2 [(0, .ref mb), (1, .int x1)] := hl
  refine lv_iload_n hx hb dX12_isRule_0 rfl (lv_at hl 1 rfl) ?_
  refine lv_if_lt (tgt := 16) hx hb dX12_isRule_1 (by decide) (fun c_1 => ?_) (fun c_1 => ?_)
  · have hf := yb_pos c_1 hf
    refine lv_iconst (v := (0 : Int32)) hx hb dX12_isRule_16 (by decide) ?_
    exact yb_retz hfin (by decide) hf hw dX12_isRule_17
  · have hf := yb_neg c_1 hf
    refine lv_iload_n hx hb dX12_isRule_4 rfl (lv_at hl 1 rfl) ?_
    refine lv_aload_n hx hb dX12_isRule_5 rfl (lv_at hl 0 rfl) ?_
    refine x_getI X hK hw (ml_mem0 mb) (ml_S0 mb) cpX12 2 (by decide) rfl tw_1253 dX12_isRule_6 ?_
    refine lv_icmp_ge (tgt := 16) hx hb dX12_isRule_9 (by decide) (fun c_2 => ?_) (fun c_2 => ?_)
    · have hf := yb_pos c_2 hf
      refine lv_iconst (v := (0 : Int32)) hx hb dX12_isRule_16 (by decide) ?_
      exact yb_retz hfin (by decide) hf hw dX12_isRule_17
    · have hf := yb_neg c_2 hf
      refine lv_iconst (v := (1 : Int32)) hx hb dX12_isRule_12 (by decide) ?_
      refine lv_goto (tgt := 17) hx hb dX12_isRule_13 (by decide) ?_
      exact yb_retz hfin (by decide) hf hw dX12_isRule_17
set_option maxHeartbeats 4000000 in
set_option maxRecDepth 100000 in
theorem c12_push (l : Launch) (D : va_G) (cz : Nat → ClassId) (ev : Nat × Nat × Nat) (mb : Nat) {x1 : Int64} {I : IT} {J : JT} {r : Unit} {I1 : IT} {J1 : JT} (hf : f12_push mb x1 I J = some (r, I1, J1)) : MTv l D cz ev yX12_push cX12_push 3 (none) 0 0 [.ref mb, .long x1] (mlL mb) (mlS mb) (mlR mb) I J r I1 J1 := by
  unfold f12_push at hf
  refine MTv_of (by decide) (Nat.le_of_ble_eq_true rfl) ?_
  intro p e s m args below meth c Q ls X hK hw hl hfin
  have X : CallFix p m c cX12_push 3 s args gw RX12 := X
  have hx := X.1
  have hb := X.2.1
  have hl : lv_has ls 3 [(0, .ref mb), (1, .long x1)] := hl
  refine lv_aload_n hx hb dX12_push_0 rfl (lv_at hl 0 rfl) ?_
  refine x_getR X hK hw (ml_mem0 mb) (ml_S0 mb) cpX12 17 (by decide) rfl (ml_R mb 17 rfl) tw_1268 dX12_push_1 ?_
  refine lv_aload_n hx hb dX12_push_4 rfl (lv_at hl 0 rfl) ?_
  refine x_getI X hK hw (ml_mem0 mb) (ml_S0 mb) cpX12 18 (by decide) rfl tw_1269 dX12_push_5 ?_
  refine lv_lload_n hx hb dX12_push_8 rfl (lv_at hl 1 rfl) ?_
  obtain ⟨hi_1, hf⟩ := yb_ck_some hf
  refine x_last X hK hw (ml_mem mb 8 (by decide)) (ml_S mb 8 rfl) hi_1 rfl dX12_push_9 (fun H locs hw => ?_)
  obtain ⟨J_2, eJ_2, hf⟩ := yb_let_ex hf
  have hw := yb_wJ eJ_2 hw
  refine lv_aload_n hx hb dX12_push_10 rfl (lv_at hl 0 rfl) ?_
  refine lv_dup hx hb dX12_push_11 rfl ?_
  refine x_getI X hK hw (ml_mem0 mb) (ml_S0 mb) cpX12 18 (by decide) rfl tw_1269 dX12_push_12 ?_
  refine lv_iconst (v := (1 : Int32)) hx hb dX12_push_15 (by decide) ?_
  refine lv_iadd hx hb dX12_push_16 ?_
  refine x_putI X hK hw (ml_mem0 mb) (ml_S0 mb) cpX12 18 (by decide) rfl rfl rfl tw_1269 dX12_push_17 (fun H locs hw => ?_)
  obtain ⟨I_3, eI_3, hf⟩ := yb_let_ex hf
  have hw := yb_wI eI_3 hw
  exact yb_retv hfin hf hw dX12_push_20
set_option maxHeartbeats 4000000 in
set_option maxRecDepth 100000 in
theorem c12_pop (l : Launch) (D : va_G) (cz : Nat → ClassId) (ev : Nat × Nat × Nat) (mb : Nat) {I : IT} {J : JT} {r : Int64} {I1 : IT} {J1 : JT} (hf : f12_pop mb I J = some (r, I1, J1)) : MTl l D cz ev yX12_pop cX12_pop 1 (some .long) 0 0 [.ref mb] (mlL mb) (mlS mb) (mlR mb) I J r I1 J1 := by
  unfold f12_pop at hf
  refine MTl_of (by decide) (Nat.le_of_ble_eq_true rfl) ?_
  intro p e s m args below meth c Q ls X hK hw hl hfin
  have X : CallFix p m c cX12_pop 1 s args gw RX12 := X
  have hx := X.1
  have hb := X.2.1
  have hl : lv_has ls 1 [(0, .ref mb)] := hl
  refine lv_aload_n hx hb dX12_pop_0 rfl (lv_at hl 0 rfl) ?_
  refine lv_dup hx hb dX12_pop_1 rfl ?_
  refine x_getI X hK hw (ml_mem0 mb) (ml_S0 mb) cpX12 18 (by decide) rfl tw_1269 dX12_pop_2 ?_
  refine lv_iconst (v := (1 : Int32)) hx hb dX12_pop_5 (by decide) ?_
  refine lv_isub hx hb dX12_pop_6 ?_
  refine x_putI X hK hw (ml_mem0 mb) (ml_S0 mb) cpX12 18 (by decide) rfl rfl rfl tw_1269 dX12_pop_7 (fun H locs hw => ?_)
  obtain ⟨I_1, eI_1, hf⟩ := yb_let_ex hf
  have hw := yb_wI eI_1 hw
  refine lv_aload_n hx hb dX12_pop_10 rfl (lv_at hl 0 rfl) ?_
  refine x_getR X hK hw (ml_mem0 mb) (ml_S0 mb) cpX12 17 (by decide) rfl (ml_R mb 17 rfl) tw_1268 dX12_pop_11 ?_
  refine lv_aload_n hx hb dX12_pop_14 rfl (lv_at hl 0 rfl) ?_
  refine x_getI X hK hw (ml_mem0 mb) (ml_S0 mb) cpX12 18 (by decide) rfl tw_1269 dX12_pop_15 ?_
  obtain ⟨hi_2, hf⟩ := yb_ck_some hf
  refine x_lald X hK hw (ml_mem mb 8 (by decide)) (ml_S mb 8 rfl) hi_2 rfl dX12_pop_18 ?_
  exact yb_retl hfin hf hw dX12_pop_19
set_option maxHeartbeats 4000000 in
set_option maxRecDepth 100000 in
theorem c12_one (l : Launch) (D : va_G) (cz : Nat → ClassId) (ev : Nat × Nat × Nat) (mb : Nat) {x0 : Int32} {x1 : Int64} {x3 : Int64} {I : IT} {J : JT} {r : Int64} {I1 : IT} {J1 : JT} (hf : f12_one mb x0 x1 x3 I J = some (r, I1, J1)) : MTl l D cz ev yX12_one cX12_one 5 (some .long) 0 0 [.int x0, .long x1, .long x3] (mlL mb) (mlS mb) (mlR mb) I J r I1 J1 := by
  unfold f12_one at hf
  refine MTl_of (by decide) (Nat.le_of_ble_eq_true rfl) ?_
  intro p e s m args below meth c Q ls X hK hw hl hfin
  have X : CallFix p m c cX12_one 5 s args gw RX12 := X
  have hx := X.1
  have hb := X.2.1
  have hl : lv_has ls 5 [(0, .int x0), (1, .long x1), (3, .long x3)] := hl
  refine lv_iload_n hx hb dX12_one_0 rfl (lv_at hl 0 rfl) ?_
  by_cases c_1 : x0 = (2 : Int32)
  · have hf := yb_pos c_1 hf
    refine lv_tableIn (off := 67) (tgt := 68) hx hb dX12_one_1 (by rw [c_1]; decide) (by rw [c_1]; decide) (by rw [c_1]; rfl) (by decide) ?_
    refine lv_lload_n hx hb dX12_one_68 rfl (lv_at hl 1 rfl) ?_
    refine lv_lload_n hx hb dX12_one_69 rfl (lv_at hl 2 rfl) ?_
    refine lv_ladd hx hb dX12_one_70 ?_
    exact yb_retl hfin hf hw dX12_one_71
  have hf := yb_neg c_1 hf
  by_cases c_2 : x0 = (3 : Int32)
  · have hf := yb_pos c_2 hf
    refine lv_tableIn (off := 71) (tgt := 72) hx hb dX12_one_1 (by rw [c_2]; decide) (by rw [c_2]; decide) (by rw [c_2]; rfl) (by decide) ?_
    refine lv_lload_n hx hb dX12_one_72 rfl (lv_at hl 1 rfl) ?_
    refine lv_lload_n hx hb dX12_one_73 rfl (lv_at hl 2 rfl) ?_
    refine lv_lsub hx hb dX12_one_74 ?_
    exact yb_retl hfin hf hw dX12_one_75
  have hf := yb_neg c_2 hf
  by_cases c_3 : x0 = (4 : Int32)
  · have hf := yb_pos c_3 hf
    refine lv_tableIn (off := 75) (tgt := 76) hx hb dX12_one_1 (by rw [c_3]; decide) (by rw [c_3]; decide) (by rw [c_3]; rfl) (by decide) ?_
    refine lv_lload_n hx hb dX12_one_76 rfl (lv_at hl 1 rfl) ?_
    refine lv_lload_n hx hb dX12_one_77 rfl (lv_at hl 2 rfl) ?_
    refine lv_lmul hx hb dX12_one_78 ?_
    exact yb_retl hfin hf hw dX12_one_79
  have hf := yb_neg c_3 hf
  by_cases c_4 : x0 = (5 : Int32)
  · have hf := yb_pos c_4 hf
    refine lv_tableIn (off := 79) (tgt := 80) hx hb dX12_one_1 (by rw [c_4]; decide) (by rw [c_4]; decide) (by rw [c_4]; rfl) (by decide) ?_
    refine lv_lload_n hx hb dX12_one_80 rfl (lv_at hl 2 rfl) ?_
    refine lv_lconst (v := (0 : Int64)) hx hb dX12_one_81 (by decide) ?_
    refine W.lcmp hx hb dX12_one_82 ?_
    refine lv_if_ne (tgt := 90) hx hb dX12_one_83 (by decide) (fun c_5 => ?_) (fun c_5 => ?_)
    · have hf := yb_neg c_5 hf
      refine lv_lload_n hx hb dX12_one_90 rfl (lv_at hl 1 rfl) ?_
      refine lv_lload_n hx hb dX12_one_91 rfl (lv_at hl 2 rfl) ?_
      obtain ⟨h_6, hf⟩ := yb_nzl hf
      refine lv_ldiv hx hb dX12_one_92 h_6 ?_
      exact yb_retl hfin hf hw dX12_one_93
    · have hf := yb_pos c_5 hf
      refine lv_lconst (v := (0 : Int64)) hx hb dX12_one_86 (by decide) ?_
      refine lv_goto (tgt := 93) hx hb dX12_one_87 (by decide) ?_
      exact yb_retl hfin hf hw dX12_one_93
  have hf := yb_neg c_4 hf
  by_cases c_7 : x0 = (6 : Int32)
  · have hf := yb_pos c_7 hf
    refine lv_tableIn (off := 107) (tgt := 108) hx hb dX12_one_1 (by rw [c_7]; decide) (by rw [c_7]; decide) (by rw [c_7]; rfl) (by decide) ?_
    refine lv_lload_n hx hb dX12_one_108 rfl (lv_at hl 1 rfl) ?_
    refine lv_lload_n hx hb dX12_one_109 rfl (lv_at hl 2 rfl) ?_
    refine W.lcmp hx hb dX12_one_110 ?_
    refine lv_if_ge (tgt := 118) hx hb dX12_one_111 (by decide) (fun c_8 => ?_) (fun c_8 => ?_)
    · have hf := yb_pos c_8 hf
      refine lv_lconst (v := (0 : Int64)) hx hb dX12_one_118 (by decide) ?_
      exact yb_retl hfin hf hw dX12_one_119
    · have hf := yb_neg c_8 hf
      refine lv_lconst (v := (1 : Int64)) hx hb dX12_one_114 (by decide) ?_
      refine lv_goto (tgt := 119) hx hb dX12_one_115 (by decide) ?_
      exact yb_retl hfin hf hw dX12_one_119
  have hf := yb_neg c_7 hf
  by_cases c_9 : x0 = (7 : Int32)
  · have hf := yb_pos c_9 hf
    refine lv_tableIn (off := 119) (tgt := 120) hx hb dX12_one_1 (by rw [c_9]; decide) (by rw [c_9]; decide) (by rw [c_9]; rfl) (by decide) ?_
    refine lv_lload_n hx hb dX12_one_120 rfl (lv_at hl 1 rfl) ?_
    refine lv_lload_n hx hb dX12_one_121 rfl (lv_at hl 2 rfl) ?_
    refine W.lcmp hx hb dX12_one_122 ?_
    refine lv_if_gt (tgt := 130) hx hb dX12_one_123 (by decide) (fun c_10 => ?_) (fun c_10 => ?_)
    · have hf := yb_pos c_10 hf
      refine lv_lconst (v := (0 : Int64)) hx hb dX12_one_130 (by decide) ?_
      exact yb_retl hfin hf hw dX12_one_131
    · have hf := yb_neg c_10 hf
      refine lv_lconst (v := (1 : Int64)) hx hb dX12_one_126 (by decide) ?_
      refine lv_goto (tgt := 131) hx hb dX12_one_127 (by decide) ?_
      exact yb_retl hfin hf hw dX12_one_131
  have hf := yb_neg c_9 hf
  by_cases c_11 : x0 = (8 : Int32)
  · have hf := yb_pos c_11 hf
    refine lv_tableIn (off := 131) (tgt := 132) hx hb dX12_one_1 (by rw [c_11]; decide) (by rw [c_11]; decide) (by rw [c_11]; rfl) (by decide) ?_
    refine lv_lload_n hx hb dX12_one_132 rfl (lv_at hl 1 rfl) ?_
    refine lv_lload_n hx hb dX12_one_133 rfl (lv_at hl 2 rfl) ?_
    refine W.lcmp hx hb dX12_one_134 ?_
    refine lv_if_ne (tgt := 142) hx hb dX12_one_135 (by decide) (fun c_12 => ?_) (fun c_12 => ?_)
    · have hf := yb_neg c_12 hf
      refine lv_lconst (v := (0 : Int64)) hx hb dX12_one_142 (by decide) ?_
      exact yb_retl hfin hf hw dX12_one_143
    · have hf := yb_pos c_12 hf
      refine lv_lconst (v := (1 : Int64)) hx hb dX12_one_138 (by decide) ?_
      refine lv_goto (tgt := 143) hx hb dX12_one_139 (by decide) ?_
      exact yb_retl hfin hf hw dX12_one_143
  have hf := yb_neg c_11 hf
  by_cases c_13 : x0 = (9 : Int32)
  · have hf := yb_pos c_13 hf
    refine lv_tableIn (off := 143) (tgt := 144) hx hb dX12_one_1 (by rw [c_13]; decide) (by rw [c_13]; decide) (by rw [c_13]; rfl) (by decide) ?_
    refine lv_lload_n hx hb dX12_one_144 rfl (lv_at hl 1 rfl) ?_
    refine lv_lload_n hx hb dX12_one_145 rfl (lv_at hl 2 rfl) ?_
    refine W.lcmp hx hb dX12_one_146 ?_
    refine lv_if_lt (tgt := 154) hx hb dX12_one_147 (by decide) (fun c_14 => ?_) (fun c_14 => ?_)
    · have hf := yb_pos c_14 hf
      refine lv_lconst (v := (0 : Int64)) hx hb dX12_one_154 (by decide) ?_
      exact yb_retl hfin hf hw dX12_one_155
    · have hf := yb_neg c_14 hf
      refine lv_lconst (v := (1 : Int64)) hx hb dX12_one_150 (by decide) ?_
      refine lv_goto (tgt := 155) hx hb dX12_one_151 (by decide) ?_
      exact yb_retl hfin hf hw dX12_one_155
  have hf := yb_neg c_13 hf
  by_cases c_15 : x0 = (10 : Int32)
  · have hf := yb_pos c_15 hf
    refine lv_tableIn (off := 155) (tgt := 156) hx hb dX12_one_1 (by rw [c_15]; decide) (by rw [c_15]; decide) (by rw [c_15]; rfl) (by decide) ?_
    refine lv_lload_n hx hb dX12_one_156 rfl (lv_at hl 1 rfl) ?_
    refine lv_lload_n hx hb dX12_one_157 rfl (lv_at hl 2 rfl) ?_
    refine W.lcmp hx hb dX12_one_158 ?_
    refine lv_if_le (tgt := 166) hx hb dX12_one_159 (by decide) (fun c_16 => ?_) (fun c_16 => ?_)
    · have hf := yb_pos c_16 hf
      refine lv_lconst (v := (0 : Int64)) hx hb dX12_one_166 (by decide) ?_
      exact yb_retl hfin hf hw dX12_one_167
    · have hf := yb_neg c_16 hf
      refine lv_lconst (v := (1 : Int64)) hx hb dX12_one_162 (by decide) ?_
      refine lv_goto (tgt := 167) hx hb dX12_one_163 (by decide) ?_
      exact yb_retl hfin hf hw dX12_one_167
  have hf := yb_neg c_15 hf
  by_cases c_17 : x0 = (11 : Int32)
  · have hf := yb_pos c_17 hf
    refine lv_tableIn (off := 171) (tgt := 172) hx hb dX12_one_1 (by rw [c_17]; decide) (by rw [c_17]; decide) (by rw [c_17]; rfl) (by decide) ?_
    refine lv_lload_n hx hb dX12_one_172 rfl (lv_at hl 1 rfl) ?_
    refine lv_lload_n hx hb dX12_one_173 rfl (lv_at hl 2 rfl) ?_
    refine lv_lor hx hb dX12_one_174 ?_
    exact yb_retl hfin hf hw dX12_one_175
  have hf := yb_neg c_17 hf
  by_cases c_18 : x0 = (12 : Int32)
  · have hf := yb_pos c_18 hf
    refine lv_tableIn (off := 167) (tgt := 168) hx hb dX12_one_1 (by rw [c_18]; decide) (by rw [c_18]; decide) (by rw [c_18]; rfl) (by decide) ?_
    refine lv_lload_n hx hb dX12_one_168 rfl (lv_at hl 1 rfl) ?_
    refine lv_lload_n hx hb dX12_one_169 rfl (lv_at hl 2 rfl) ?_
    refine lv_land hx hb dX12_one_170 ?_
    exact yb_retl hfin hf hw dX12_one_171
  have hf := yb_neg c_18 hf
  by_cases c_19 : x0 = (13 : Int32)
  · have hf := yb_pos c_19 hf
    refine lv_tableIn (off := 171) (tgt := 172) hx hb dX12_one_1 (by rw [c_19]; decide) (by rw [c_19]; decide) (by rw [c_19]; rfl) (by decide) ?_
    refine lv_lload_n hx hb dX12_one_172 rfl (lv_at hl 1 rfl) ?_
    refine lv_lload_n hx hb dX12_one_173 rfl (lv_at hl 2 rfl) ?_
    refine lv_lor hx hb dX12_one_174 ?_
    exact yb_retl hfin hf hw dX12_one_175
  have hf := yb_neg c_19 hf
  by_cases c_20 : x0 = (14 : Int32)
  · have hf := yb_pos c_20 hf
    refine lv_tableIn (off := 93) (tgt := 94) hx hb dX12_one_1 (by rw [c_20]; decide) (by rw [c_20]; decide) (by rw [c_20]; rfl) (by decide) ?_
    refine lv_lload_n hx hb dX12_one_94 rfl (lv_at hl 2 rfl) ?_
    refine lv_lconst (v := (0 : Int64)) hx hb dX12_one_95 (by decide) ?_
    refine W.lcmp hx hb dX12_one_96 ?_
    refine lv_if_ne (tgt := 104) hx hb dX12_one_97 (by decide) (fun c_21 => ?_) (fun c_21 => ?_)
    · have hf := yb_neg c_21 hf
      refine lv_lload_n hx hb dX12_one_104 rfl (lv_at hl 1 rfl) ?_
      refine lv_lload_n hx hb dX12_one_105 rfl (lv_at hl 2 rfl) ?_
      obtain ⟨h_22, hf⟩ := yb_nzl hf
      refine lv_lrem hx hb dX12_one_106 h_22 ?_
      exact yb_retl hfin hf hw dX12_one_107
    · have hf := yb_pos c_21 hf
      refine lv_lconst (v := (0 : Int64)) hx hb dX12_one_100 (by decide) ?_
      refine lv_goto (tgt := 107) hx hb dX12_one_101 (by decide) ?_
      exact yb_retl hfin hf hw dX12_one_107
  have hf := yb_neg c_20 hf
  refine lv_tableOut (tgt := 172) hx hb dX12_one_1 (by
      rcases Int.lt_or_le (x0).toInt 2 with g1 | g1
      · exact Or.inl g1
      · rcases Int.lt_or_le 14 (x0).toInt with g2 | g2
        · exact Or.inr g2
        · exfalso
          have g3 : (x0).toInt = 2 ∨ (x0).toInt = 3 ∨ (x0).toInt = 4 ∨ (x0).toInt = 5 ∨ (x0).toInt = 6 ∨ (x0).toInt = 7 ∨ (x0).toInt = 8 ∨ (x0).toInt = 9 ∨ (x0).toInt = 10 ∨ (x0).toInt = 11 ∨ (x0).toInt = 12 ∨ (x0).toInt = 13 ∨ (x0).toInt = 14 := by omega
          rcases g3 with g3 | g3 | g3 | g3 | g3 | g3 | g3 | g3 | g3 | g3 | g3 | g3 | g3
          · exact c_1 (yb_sw (2 : Int32) g3 rfl)
          · exact c_2 (yb_sw (3 : Int32) g3 rfl)
          · exact c_3 (yb_sw (4 : Int32) g3 rfl)
          · exact c_4 (yb_sw (5 : Int32) g3 rfl)
          · exact c_7 (yb_sw (6 : Int32) g3 rfl)
          · exact c_9 (yb_sw (7 : Int32) g3 rfl)
          · exact c_11 (yb_sw (8 : Int32) g3 rfl)
          · exact c_13 (yb_sw (9 : Int32) g3 rfl)
          · exact c_15 (yb_sw (10 : Int32) g3 rfl)
          · exact c_17 (yb_sw (11 : Int32) g3 rfl)
          · exact c_18 (yb_sw (12 : Int32) g3 rfl)
          · exact c_19 (yb_sw (13 : Int32) g3 rfl)
          · exact c_20 (yb_sw (14 : Int32) g3 rfl)) (by decide) ?_
  refine lv_lload_n hx hb dX12_one_172 rfl (lv_at hl 1 rfl) ?_
  refine lv_lload_n hx hb dX12_one_173 rfl (lv_at hl 2 rfl) ?_
  refine lv_lor hx hb dX12_one_174 ?_
  exact yb_retl hfin hf hw dX12_one_175
set_option maxHeartbeats 4000000 in
set_option maxRecDepth 100000 in
theorem w12_reckons_L8 {p : Program} {l : Launch} {e : Env} {s : State} {m : MethodId} {args : Array Value} {below : List Frame} {meth : Method} {c : Code} {Q : State → Prop} {D : va_G} {cz : Nat → ClassId} {A : Nat → Prop} {ev : Nat × Nat × Nat} {mb : Nat} (X : CallFix p m c cX12_reckons 11 s args gw RX12) (hK : KX D cz ev A s) {N : Nat} {x1 : Int32} {x3 : Int32} :
    ∀ (n : Nat) (x4 : Int32) (I : IT) (J : JT) (q : (Unit)) (I1 : IT) (J1 : JT) (H : Heap) (locs : List Loc) (ls : Array Slot), f12_reckons_L8 N mb x1 x3 n x4 I J = some (q, I1, J1) → WX D cz A (mlL mb) (mlS mb) (mlR mb) s.heap I J H locs → lv_has ls 11 [(0, .ref mb), (1, .int x1), (3, .int x3), (4, .int x4)] →
    (∀ (H : Heap) (locs : List Loc) (ls : Array Slot), WX D cz A (mlL mb) (mlS mb) (mlR mb) s.heap I1 J1 H locs → lv_has ls 11 [(0, .ref mb)] → W p l e (rmX 1 24) s m args below meth c H locs 0 0 Q (F0 m 135 ls [])) →
    W p l e (rmX 1 24) s m args below meth c H locs 0 0 Q (F0 m 8 ls []) := by
  have hx := X.1
  have hb := X.2.1
  intro n
  induction n with
  | zero =>
    intro x4 I J q I1 J1 H locs ls hf
    rw [f12_reckons_L8] at hf
    cases hf
  | succ n ih =>
    intro x4 I J q I1 J1 H locs ls hf hw hl hexit
    rw [f12_reckons_L8] at hf
    refine lv_iload hx hb dX12_reckons_8 (lv_at hl 3 rfl) ?_
    refine lv_iload_n hx hb dX12_reckons_10 rfl (lv_at hl 2 rfl) ?_
    refine lv_icmp_ge (tgt := 135) hx hb dX12_reckons_11 (by decide) (fun c_2 => ?_) (fun c_2 => ?_)
    · have hf := yb_pos c_2 hf
      obtain ⟨rfl, rfl, rfl⟩ := yb_inj hf
      exact hexit _ _ _ hw (lv_sub hl [0] rfl)
    · have hf := yb_neg c_2 hf
      refine lv_aload_n hx hb dX12_reckons_14 rfl (lv_at hl 0 rfl) ?_
      refine x_getR X hK hw (ml_mem0 mb) (ml_S0 mb) cpX12 3 (by decide) rfl (ml_R mb 3 rfl) tw_1254 dX12_reckons_15 ?_
      refine lv_sipush (v := (400 : Int32)) hx hb dX12_reckons_18 (by decide) ?_
      refine lv_iload_n hx hb dX12_reckons_21 rfl (lv_at hl 1 rfl) ?_
      refine lv_imul hx hb dX12_reckons_22 ?_
      refine lv_iload hx hb dX12_reckons_23 (lv_at hl 3 rfl) ?_
      refine lv_iadd hx hb dX12_reckons_25 ?_
      obtain ⟨hi_3, hf⟩ := yb_ck_some hf
      refine x_iald X hK hw (ml_mem mb 2 (by decide)) (ml_S mb 2 rfl) hi_3 rfl dX12_reckons_26 ?_
      refine lv_bipush (v := (15 : Int32)) hx hb dX12_reckons_27 (by decide) ?_
      refine lv_iand hx hb dX12_reckons_29 ?_
      refine lv_topi (fun x5_4 ex5_4 => ?_)
      have hf := yb_let_to ex5_4 hf
      refine lv_istore (lv' := [(5, .int x5_4), (0, .ref mb), (1, .int x1), (3, .int x3), (4, .int x4)]) hx hb dX12_reckons_30 hl (by decide) rfl (fun ls hl => ?_)
      refine lv_aload_n hx hb dX12_reckons_32 rfl (lv_at hl 1 rfl) ?_
      refine x_getR X hK hw (ml_mem0 mb) (ml_S0 mb) cpX12 3 (by decide) rfl (ml_R mb 3 rfl) tw_1254 dX12_reckons_33 ?_
      refine lv_sipush (v := (400 : Int32)) hx hb dX12_reckons_36 (by decide) ?_
      refine lv_iload_n hx hb dX12_reckons_39 rfl (lv_at hl 2 rfl) ?_
      refine lv_imul hx hb dX12_reckons_40 ?_
      refine lv_iload hx hb dX12_reckons_41 (lv_at hl 4 rfl) ?_
      refine lv_iadd hx hb dX12_reckons_43 ?_
      refine x_iald X hK hw (ml_mem mb 2 (by decide)) (ml_S mb 2 rfl) hi_3 rfl dX12_reckons_44 ?_
      refine lv_iconst (v := (4 : Int32)) hx hb dX12_reckons_45 (by decide) ?_
      refine lv_ishr hx hb dX12_reckons_46 ?_
      refine lv_topi (fun x6_5 ex6_5 => ?_)
      have hf := yb_let_to ex6_5 hf
      refine lv_istore (lv' := [(6, .int x6_5), (5, .int x5_4), (0, .ref mb), (1, .int x1), (3, .int x3), (4, .int x4)]) hx hb dX12_reckons_47 hl (by decide) rfl (fun ls hl => ?_)
      refine lv_iload hx hb dX12_reckons_49 (lv_at hl 1 rfl) ?_
      refine lv_if_ne (tgt := 64) hx hb dX12_reckons_51 (by decide) (fun c_6 => ?_) (fun c_6 => ?_)
      · have hf := yb_neg c_6 hf
        refine lv_iload hx hb dX12_reckons_64 (lv_at hl 1 rfl) ?_
        refine lv_iconst (v := (1 : Int32)) hx hb dX12_reckons_66 (by decide) ?_
        refine lv_icmp_ne (tgt := 84) hx hb dX12_reckons_67 (by decide) (fun c_7 => ?_) (fun c_7 => ?_)
        · have hf := yb_neg c_7 hf
          refine lv_iload hx hb dX12_reckons_84 (lv_at hl 1 rfl) ?_
          refine lv_bipush (v := (11 : Int32)) hx hb dX12_reckons_86 (by decide) ?_
          refine lv_icmp_ne (tgt := 104) hx hb dX12_reckons_88 (by decide) (fun c_8 => ?_) (fun c_8 => ?_)
          · have hf := yb_neg c_8 hf
            refine lv_aload_n hx hb dX12_reckons_104 rfl (lv_at hl 2 rfl) ?_
            obtain ⟨r_9, I_10, J_11, hq_12, hf⟩ := yb_b3_some hf
            refine x_calll X hK hw (c12_pop l D cz ev mb hq_12) (ml_mem0 mb) (ml_S0 mb) cpX12.1 vw_X12_304 ⟨Nat.le_of_ble_eq_true rfl, Nat.le_of_ble_eq_true rfl⟩ rfl rfl (Nat.le_of_ble_eq_true rfl) hl.1 ⟨Nat.le_refl _, Nat.le_refl _⟩ dX12_reckons_105 (fun H locs hw => ?_)
            refine lv_lstore (lv' := [(7, .long r_9), (6, .int x6_5), (5, .int x5_4), (0, .ref mb), (1, .int x1), (3, .int x3), (4, .int x4)]) hx hb dX12_reckons_108 hl (by decide) rfl (fun ls hl => ?_)
            refine lv_aload_n hx hb dX12_reckons_110 rfl (lv_at hl 3 rfl) ?_
            obtain ⟨r_13, I_14, J_15, hq_16, hf⟩ := yb_b3_some hf
            refine x_calll X hK hw (c12_pop l D cz ev mb hq_16) (ml_mem0 mb) (ml_S0 mb) cpX12.1 vw_X12_304 ⟨Nat.le_of_ble_eq_true rfl, Nat.le_of_ble_eq_true rfl⟩ rfl rfl (Nat.le_of_ble_eq_true rfl) hl.1 ⟨Nat.le_refl _, Nat.le_refl _⟩ dX12_reckons_111 (fun H locs hw => ?_)
            refine lv_lstore (lv' := [(9, .long r_13), (7, .long r_9), (6, .int x6_5), (5, .int x5_4), (0, .ref mb), (1, .int x1), (3, .int x3), (4, .int x4)]) hx hb dX12_reckons_114 hl (by decide) rfl (fun ls hl => ?_)
            refine lv_aload_n hx hb dX12_reckons_116 rfl (lv_at hl 4 rfl) ?_
            refine lv_iload hx hb dX12_reckons_117 (lv_at hl 3 rfl) ?_
            refine lv_lload hx hb dX12_reckons_119 (lv_at hl 0 rfl) ?_
            refine lv_lload hx hb dX12_reckons_121 (lv_at hl 1 rfl) ?_
            obtain ⟨r_17, I_18, J_19, hq_20, hf⟩ := yb_b3_some hf
            refine x_callsl X hK hw (c12_one l D cz ev mb hq_20) sw_X12_308 ⟨Nat.le_of_ble_eq_true rfl, Nat.le_of_ble_eq_true rfl⟩ rfl rfl (Nat.le_of_ble_eq_true rfl) hl.1 ⟨Nat.le_refl _, Nat.le_refl _⟩ dX12_reckons_123 (fun H locs hw => ?_)
            obtain ⟨r_21, I_22, J_23, hq_24, hf⟩ := yb_b3_some hf
            refine x_callv X hK hw (c12_push l D cz ev mb hq_24) (ml_mem0 mb) (ml_S0 mb) cpX12.1 vw_X12_300 ⟨Nat.le_of_ble_eq_true rfl, Nat.le_of_ble_eq_true rfl⟩ rfl rfl (Nat.le_of_ble_eq_true rfl) hl.1 ⟨Nat.le_refl _, Nat.le_refl _⟩ dX12_reckons_126 (fun H locs hw => ?_)
            obtain ⟨x4_25, ex4_25, hf⟩ := yb_let_ex hf
            refine lv_iinc (v := x4_25) (lv' := [(4, .int x4_25), (9, .long r_13), (7, .long r_9), (6, .int x6_5), (5, .int x5_4), (0, .ref mb), (1, .int x1), (3, .int x3)]) hx hb dX12_reckons_129 hl (k := 7) rfl (by rw [ex4_25]; rfl) (by decide) rfl (fun ls hl => ?_)
            refine lv_goto (tgt := 8) hx hb dX12_reckons_132 (by decide) ?_
            exact ih _ _ _ _ _ _ _ _ _ hf hw (lv_sub hl [5, 6, 7, 0] rfl) hexit
          · have hf := yb_pos c_8 hf
            refine lv_aload_n hx hb dX12_reckons_91 rfl (lv_at hl 2 rfl) ?_
            refine lv_lconst (v := (1 : Int64)) hx hb dX12_reckons_92 (by decide) ?_
            refine lv_aload_n hx hb dX12_reckons_93 rfl (lv_at hl 2 rfl) ?_
            obtain ⟨r_26, I_27, J_28, hq_29, hf⟩ := yb_b3_some hf
            refine x_calll X hK hw (c12_pop l D cz ev mb hq_29) (ml_mem0 mb) (ml_S0 mb) cpX12.1 vw_X12_304 ⟨Nat.le_of_ble_eq_true rfl, Nat.le_of_ble_eq_true rfl⟩ rfl rfl (Nat.le_of_ble_eq_true rfl) hl.1 ⟨Nat.le_refl _, Nat.le_refl _⟩ dX12_reckons_94 (fun H locs hw => ?_)
            refine lv_lsub hx hb dX12_reckons_97 ?_
            obtain ⟨r_30, I_31, J_32, hq_33, hf⟩ := yb_b3_some hf
            refine x_callv X hK hw (c12_push l D cz ev mb hq_33) (ml_mem0 mb) (ml_S0 mb) cpX12.1 vw_X12_300 ⟨Nat.le_of_ble_eq_true rfl, Nat.le_of_ble_eq_true rfl⟩ rfl rfl (Nat.le_of_ble_eq_true rfl) hl.1 ⟨Nat.le_refl _, Nat.le_refl _⟩ dX12_reckons_98 (fun H locs hw => ?_)
            refine lv_goto (tgt := 129) hx hb dX12_reckons_101 (by decide) ?_
            obtain ⟨x4_34, ex4_34, hf⟩ := yb_let_ex hf
            refine lv_iinc (v := x4_34) (lv' := [(4, .int x4_34), (6, .int x6_5), (5, .int x5_4), (0, .ref mb), (1, .int x1), (3, .int x3)]) hx hb dX12_reckons_129 hl (k := 5) rfl (by rw [ex4_34]; rfl) (by decide) rfl (fun ls hl => ?_)
            refine lv_goto (tgt := 8) hx hb dX12_reckons_132 (by decide) ?_
            exact ih _ _ _ _ _ _ _ _ _ hf hw (lv_sub hl [3, 4, 5, 0] rfl) hexit
        · have hf := yb_pos c_7 hf
          refine lv_aload_n hx hb dX12_reckons_70 rfl (lv_at hl 2 rfl) ?_
          refine lv_aload_n hx hb dX12_reckons_71 rfl (lv_at hl 2 rfl) ?_
          refine x_getR X hK hw (ml_mem0 mb) (ml_S0 mb) cpX12 19 (by decide) rfl (ml_R mb 19 rfl) tw_1270 dX12_reckons_72 ?_
          refine lv_iload hx hb dX12_reckons_75 (lv_at hl 0 rfl) ?_
          obtain ⟨hi_35, hf⟩ := yb_ck_some hf
          refine x_lald X hK hw (ml_mem mb 9 (by decide)) (ml_S mb 9 rfl) hi_35 rfl dX12_reckons_77 ?_
          obtain ⟨r_36, I_37, J_38, hq_39, hf⟩ := yb_b3_some hf
          refine x_callv X hK hw (c12_push l D cz ev mb hq_39) (ml_mem0 mb) (ml_S0 mb) cpX12.1 vw_X12_300 ⟨Nat.le_of_ble_eq_true rfl, Nat.le_of_ble_eq_true rfl⟩ rfl rfl (Nat.le_of_ble_eq_true rfl) hl.1 ⟨Nat.le_refl _, Nat.le_refl _⟩ dX12_reckons_78 (fun H locs hw => ?_)
          refine lv_goto (tgt := 129) hx hb dX12_reckons_81 (by decide) ?_
          obtain ⟨x4_40, ex4_40, hf⟩ := yb_let_ex hf
          refine lv_iinc (v := x4_40) (lv' := [(4, .int x4_40), (6, .int x6_5), (5, .int x5_4), (0, .ref mb), (1, .int x1), (3, .int x3)]) hx hb dX12_reckons_129 hl (k := 5) rfl (by rw [ex4_40]; rfl) (by decide) rfl (fun ls hl => ?_)
          refine lv_goto (tgt := 8) hx hb dX12_reckons_132 (by decide) ?_
          exact ih _ _ _ _ _ _ _ _ _ hf hw (lv_sub hl [3, 4, 5, 0] rfl) hexit
      · have hf := yb_pos c_6 hf
        refine lv_aload_n hx hb dX12_reckons_54 rfl (lv_at hl 2 rfl) ?_
        refine lv_iload hx hb dX12_reckons_55 (lv_at hl 0 rfl) ?_
        refine lv_i2l hx hb dX12_reckons_57 rfl ?_
        obtain ⟨r_41, I_42, J_43, hq_44, hf⟩ := yb_b3_some hf
        refine x_callv X hK hw (c12_push l D cz ev mb hq_44) (ml_mem0 mb) (ml_S0 mb) cpX12.1 vw_X12_300 ⟨Nat.le_of_ble_eq_true rfl, Nat.le_of_ble_eq_true rfl⟩ rfl rfl (Nat.le_of_ble_eq_true rfl) hl.1 ⟨Nat.le_refl _, Nat.le_refl _⟩ dX12_reckons_58 (fun H locs hw => ?_)
        refine lv_goto (tgt := 129) hx hb dX12_reckons_61 (by decide) ?_
        obtain ⟨x4_45, ex4_45, hf⟩ := yb_let_ex hf
        refine lv_iinc (v := x4_45) (lv' := [(4, .int x4_45), (6, .int x6_5), (5, .int x5_4), (0, .ref mb), (1, .int x1), (3, .int x3)]) hx hb dX12_reckons_129 hl (k := 5) rfl (by rw [ex4_45]; rfl) (by decide) rfl (fun ls hl => ?_)
        refine lv_goto (tgt := 8) hx hb dX12_reckons_132 (by decide) ?_
        exact ih _ _ _ _ _ _ _ _ _ hf hw (lv_sub hl [3, 4, 5, 0] rfl) hexit
set_option maxHeartbeats 4000000 in
set_option maxRecDepth 100000 in
theorem c12_reckons (l : Launch) (D : va_G) (cz : Nat → ClassId) (ev : Nat × Nat × Nat) (mb : Nat) {N : Nat} {x1 : Int32} {x2 : Int32} {x3 : Int32} {I : IT} {J : JT} {r : Int64} {I1 : IT} {J1 : JT} (hf : f12_reckons N mb x1 x2 x3 I J = some (r, I1, J1)) : MTl l D cz ev yX12_reckons cX12_reckons 11 (some .long) 1 24 [.ref mb, .int x1, .int x2, .int x3] (mlL mb) (mlS mb) (mlR mb) I J r I1 J1 := by
  unfold f12_reckons at hf
  refine MTl_of (by decide) (Nat.le_of_ble_eq_true rfl) ?_
  intro p e s m args below meth c Q ls X hK hw hl hfin
  have X : CallFix p m c cX12_reckons 11 s args gw RX12 := X
  have hx := X.1
  have hb := X.2.1
  have hl : lv_has ls 11 [(0, .ref mb), (1, .int x1), (2, .int x2), (3, .int x3)] := hl
  refine lv_aload_n hx hb dX12_reckons_0 rfl (lv_at hl 0 rfl) ?_
  refine lv_iconst (v := (0 : Int32)) hx hb dX12_reckons_1 (by decide) ?_
  refine x_putI X hK hw (ml_mem0 mb) (ml_S0 mb) cpX12 18 (by decide) rfl rfl rfl tw_1269 dX12_reckons_2 (fun H locs hw => ?_)
  obtain ⟨I_1, eI_1, hf⟩ := yb_let_ex hf
  have hw := yb_wI eI_1 hw
  refine lv_iload_n hx hb dX12_reckons_5 rfl (lv_at hl 2 rfl) ?_
  refine lv_istore (lv' := [(4, .int x2), (0, .ref mb), (1, .int x1), (2, .int x2), (3, .int x3)]) hx hb dX12_reckons_6 hl (by decide) rfl (fun ls hl => ?_)
  obtain ⟨q_46, I_47, J_48, hq_49, hf⟩ := yb_b3_some hf
  refine w12_reckons_L8 X hK _ _ _ _ _ _ _ _ _ _ hq_49 hw (lv_sub hl [1, 2, 4, 0] rfl) (fun H locs ls hw hl => ?_)
  refine lv_aload_n hx hb dX12_reckons_135 rfl (lv_at hl 0 rfl) ?_
  obtain ⟨r_50, I_51, J_52, hq_53, hf⟩ := yb_b3_some hf
  refine x_calll X hK hw (c12_pop l D cz ev mb hq_53) (ml_mem0 mb) (ml_S0 mb) cpX12.1 vw_X12_304 ⟨Nat.le_of_ble_eq_true rfl, Nat.le_of_ble_eq_true rfl⟩ rfl rfl (Nat.le_of_ble_eq_true rfl) hl.1 ⟨Nat.le_refl _, Nat.le_refl _⟩ dX12_reckons_136 (fun H locs hw => ?_)
  exact yb_retl hfin hf hw dX12_reckons_139
set_option maxHeartbeats 4000000 in
set_option maxRecDepth 100000 in
theorem c12_isTown (l : Launch) (D : va_G) (cz : Nat → ClassId) (ev : Nat × Nat × Nat) (mb : Nat) {I : IT} {J : JT} {r : Int32} {I1 : IT} {J1 : JT} (hf : f12_isTown mb I J = some (r, I1, J1)) : MTi l D cz ev yX12_isTown cX12_isTown 1 (some .boolean) 0 0 [.ref mb] (mlL mb) (mlS mb) (mlR mb) I J r I1 J1 := by
  unfold f12_isTown at hf
  refine MTz_of (by decide) (Nat.le_of_ble_eq_true rfl) ?_
  intro p e s m args below meth c Q ls X hK hw hl hfin
  have X : CallFix p m c cX12_isTown 1 s args gw RX12 := X
  have hx := X.1
  have hb := X.2.1
  have hl : lv_has ls 1 [(0, .ref mb)] := hl
  refine lv_aload_n hx hb dX12_isTown_0 rfl (lv_at hl 0 rfl) ?_
  refine x_getR X hK hw (ml_mem0 mb) (ml_S0 mb) cpX12 20 (by decide) rfl (ml_R mb 20 rfl) tw_1271 dX12_isTown_1 ?_
  refine lv_iconst (v := (0 : Int32)) hx hb dX12_isTown_4 (by decide) ?_
  refine x_iald X hK hw (ml_mem mb 10 (by decide)) (ml_S mb 10 rfl) (by decide) rfl dX12_isTown_5 ?_
  refine lv_if_le (tgt := 13) hx hb dX12_isTown_6 (by decide) (fun c_1 => ?_) (fun c_1 => ?_)
  · have hf := yb_pos c_1 hf
    refine lv_iconst (v := (0 : Int32)) hx hb dX12_isTown_13 (by decide) ?_
    exact yb_retz hfin (by decide) hf hw dX12_isTown_14
  · have hf := yb_neg c_1 hf
    refine lv_iconst (v := (1 : Int32)) hx hb dX12_isTown_9 (by decide) ?_
    refine lv_goto (tgt := 14) hx hb dX12_isTown_10 (by decide) ?_
    exact yb_retz hfin (by decide) hf hw dX12_isTown_14
set_option maxHeartbeats 4000000 in
set_option maxRecDepth 100000 in
theorem c12_isPerson (l : Launch) (D : va_G) (cz : Nat → ClassId) (ev : Nat × Nat × Nat) (mb : Nat) {x1 : Int32} {I : IT} {J : JT} {r : Int32} {I1 : IT} {J1 : JT} (hf : f12_isPerson mb x1 I J = some (r, I1, J1)) : MTi l D cz ev yX12_isPerson cX12_isPerson 2 (some .boolean) 0 0 [.ref mb, .int x1] (mlL mb) (mlS mb) (mlR mb) I J r I1 J1 := by
  unfold f12_isPerson at hf
  refine MTz_of (by decide) (Nat.le_of_ble_eq_true rfl) ?_
  intro p e s m args below meth c Q ls X hK hw hl hfin
  have X : CallFix p m c cX12_isPerson 2 s args gw RX12 := X
  have hx := X.1
  have hb := X.2.1
  have hl : lv_has ls 2 [(0, .ref mb), (1, .int x1)] := hl
  refine lv_iload_n hx hb dX12_isPerson_0 rfl (lv_at hl 1 rfl) ?_
  refine lv_if_lt (tgt := 18) hx hb dX12_isPerson_1 (by decide) (fun c_1 => ?_) (fun c_1 => ?_)
  · have hf := yb_pos c_1 hf
    refine lv_iconst (v := (0 : Int32)) hx hb dX12_isPerson_18 (by decide) ?_
    exact yb_retz hfin (by decide) hf hw dX12_isPerson_19
  · have hf := yb_neg c_1 hf
    refine lv_iload_n hx hb dX12_isPerson_4 rfl (lv_at hl 1 rfl) ?_
    refine lv_aload_n hx hb dX12_isPerson_5 rfl (lv_at hl 0 rfl) ?_
    refine x_getR X hK hw (ml_mem0 mb) (ml_S0 mb) cpX12 20 (by decide) rfl (ml_R mb 20 rfl) tw_1271 dX12_isPerson_6 ?_
    refine lv_iconst (v := (2 : Int32)) hx hb dX12_isPerson_9 (by decide) ?_
    refine x_iald X hK hw (ml_mem mb 10 (by decide)) (ml_S mb 10 rfl) (by decide) rfl dX12_isPerson_10 ?_
    refine lv_icmp_ge (tgt := 18) hx hb dX12_isPerson_11 (by decide) (fun c_2 => ?_) (fun c_2 => ?_)
    · have hf := yb_pos c_2 hf
      refine lv_iconst (v := (0 : Int32)) hx hb dX12_isPerson_18 (by decide) ?_
      exact yb_retz hfin (by decide) hf hw dX12_isPerson_19
    · have hf := yb_neg c_2 hf
      refine lv_iconst (v := (1 : Int32)) hx hb dX12_isPerson_14 (by decide) ?_
      refine lv_goto (tgt := 19) hx hb dX12_isPerson_15 (by decide) ?_
      exact yb_retz hfin (by decide) hf hw dX12_isPerson_19
set_option maxHeartbeats 4000000 in
set_option maxRecDepth 100000 in
theorem c12_isCase (l : Launch) (D : va_G) (cz : Nat → ClassId) (ev : Nat × Nat × Nat) (mb : Nat) {x1 : Int32} {I : IT} {J : JT} {r : Int32} {I1 : IT} {J1 : JT} (hf : f12_isCase mb x1 I J = some (r, I1, J1)) : MTi l D cz ev yX12_isCase cX12_isCase 2 (some .boolean) 0 0 [.ref mb, .int x1] (mlL mb) (mlS mb) (mlR mb) I J r I1 J1 := by
  unfold f12_isCase at hf
  refine MTz_of (by decide) (Nat.le_of_ble_eq_true rfl) ?_
  intro p e s m args below meth c Q ls X hK hw hl hfin
  have X : CallFix p m c cX12_isCase 2 s args gw RX12 := X
  have hx := X.1
  have hb := X.2.1
  have hl : lv_has ls 2 [(0, .ref mb), (1, .int x1)] := hl
  refine lv_iload_n hx hb dX12_isCase_0 rfl (lv_at hl 1 rfl) ?_
  refine lv_if_lt (tgt := 18) hx hb dX12_isCase_1 (by decide) (fun c_1 => ?_) (fun c_1 => ?_)
  · have hf := yb_pos c_1 hf
    refine lv_iconst (v := (0 : Int32)) hx hb dX12_isCase_18 (by decide) ?_
    exact yb_retz hfin (by decide) hf hw dX12_isCase_19
  · have hf := yb_neg c_1 hf
    refine lv_iload_n hx hb dX12_isCase_4 rfl (lv_at hl 1 rfl) ?_
    refine lv_aload_n hx hb dX12_isCase_5 rfl (lv_at hl 0 rfl) ?_
    refine x_getR X hK hw (ml_mem0 mb) (ml_S0 mb) cpX12 20 (by decide) rfl (ml_R mb 20 rfl) tw_1271 dX12_isCase_6 ?_
    refine lv_iconst (v := (3 : Int32)) hx hb dX12_isCase_9 (by decide) ?_
    refine x_iald X hK hw (ml_mem mb 10 (by decide)) (ml_S mb 10 rfl) (by decide) rfl dX12_isCase_10 ?_
    refine lv_icmp_ge (tgt := 18) hx hb dX12_isCase_11 (by decide) (fun c_2 => ?_) (fun c_2 => ?_)
    · have hf := yb_pos c_2 hf
      refine lv_iconst (v := (0 : Int32)) hx hb dX12_isCase_18 (by decide) ?_
      exact yb_retz hfin (by decide) hf hw dX12_isCase_19
    · have hf := yb_neg c_2 hf
      refine lv_iconst (v := (1 : Int32)) hx hb dX12_isCase_14 (by decide) ?_
      refine lv_goto (tgt := 19) hx hb dX12_isCase_15 (by decide) ?_
      exact yb_retz hfin (by decide) hf hw dX12_isCase_19
set_option maxHeartbeats 4000000 in
set_option maxRecDepth 100000 in
theorem c12_personOf (l : Launch) (D : va_G) (cz : Nat → ClassId) (ev : Nat × Nat × Nat) (mb : Nat) {x1 : Int32} {x2 : Int32} {I : IT} {J : JT} {r : Int32} {I1 : IT} {J1 : JT} (hf : f12_personOf mb x1 x2 I J = some (r, I1, J1)) : MTi l D cz ev yX12_personOf cX12_personOf 3 (some .int) 0 0 [.ref mb, .int x1, .int x2] (mlL mb) (mlS mb) (mlR mb) I J r I1 J1 := by
  unfold f12_personOf at hf
  refine MTi_of (by decide) (Nat.le_of_ble_eq_true rfl) ?_
  intro p e s m args below meth c Q ls X hK hw hl hfin
  have X : CallFix p m c cX12_personOf 3 s args gw RX12 := X
  have hx := X.1
  have hb := X.2.1
  have hl : lv_has ls 3 [(0, .ref mb), (1, .int x1), (2, .int x2)] := hl
  refine lv_aload_n hx hb dX12_personOf_0 rfl (lv_at hl 0 rfl) ?_
  refine x_getR X hK hw (ml_mem0 mb) (ml_S0 mb) cpX12 20 (by decide) rfl (ml_R mb 20 rfl) tw_1271 dX12_personOf_1 ?_
  refine lv_bipush (v := (10 : Int32)) hx hb dX12_personOf_4 (by decide) ?_
  refine lv_iconst (v := (5 : Int32)) hx hb dX12_personOf_6 (by decide) ?_
  refine lv_iload_n hx hb dX12_personOf_7 rfl (lv_at hl 1 rfl) ?_
  refine lv_imul hx hb dX12_personOf_8 ?_
  refine lv_iadd hx hb dX12_personOf_9 ?_
  refine lv_iload_n hx hb dX12_personOf_10 rfl (lv_at hl 2 rfl) ?_
  refine lv_iadd hx hb dX12_personOf_11 ?_
  obtain ⟨hi_1, hf⟩ := yb_ck_some hf
  refine x_iald X hK hw (ml_mem mb 10 (by decide)) (ml_S mb 10 rfl) hi_1 rfl dX12_personOf_12 ?_
  exact yb_reti hfin hf hw dX12_personOf_13
set_option maxHeartbeats 4000000 in
set_option maxRecDepth 100000 in
theorem c12_caseOf (l : Launch) (D : va_G) (cz : Nat → ClassId) (ev : Nat × Nat × Nat) (mb : Nat) {x1 : Int32} {x2 : Int32} {I : IT} {J : JT} {r : Int32} {I1 : IT} {J1 : JT} (hf : f12_caseOf mb x1 x2 I J = some (r, I1, J1)) : MTi l D cz ev yX12_caseOf cX12_caseOf 3 (some .int) 0 0 [.ref mb, .int x1, .int x2] (mlL mb) (mlS mb) (mlR mb) I J r I1 J1 := by
  unfold f12_caseOf at hf
  refine MTi_of (by decide) (Nat.le_of_ble_eq_true rfl) ?_
  intro p e s m args below meth c Q ls X hK hw hl hfin
  have X : CallFix p m c cX12_caseOf 3 s args gw RX12 := X
  have hx := X.1
  have hb := X.2.1
  have hl : lv_has ls 3 [(0, .ref mb), (1, .int x1), (2, .int x2)] := hl
  refine lv_aload_n hx hb dX12_caseOf_0 rfl (lv_at hl 0 rfl) ?_
  refine x_getR X hK hw (ml_mem0 mb) (ml_S0 mb) cpX12 20 (by decide) rfl (ml_R mb 20 rfl) tw_1271 dX12_caseOf_1 ?_
  refine lv_bipush (v := (45 : Int32)) hx hb dX12_caseOf_4 (by decide) ?_
  refine lv_bipush (v := (11 : Int32)) hx hb dX12_caseOf_6 (by decide) ?_
  refine lv_iload_n hx hb dX12_caseOf_8 rfl (lv_at hl 1 rfl) ?_
  refine lv_imul hx hb dX12_caseOf_9 ?_
  refine lv_iadd hx hb dX12_caseOf_10 ?_
  refine lv_iload_n hx hb dX12_caseOf_11 rfl (lv_at hl 2 rfl) ?_
  refine lv_iadd hx hb dX12_caseOf_12 ?_
  obtain ⟨hi_1, hf⟩ := yb_ck_some hf
  refine x_iald X hK hw (ml_mem mb 10 (by decide)) (ml_S mb 10 rfl) hi_1 rfl dX12_caseOf_13 ?_
  exact yb_reti hfin hf hw dX12_caseOf_14
set_option maxHeartbeats 4000000 in
set_option maxRecDepth 100000 in
theorem c12_ageOn (l : Launch) (D : va_G) (cz : Nat → ClassId) (ev : Nat × Nat × Nat) (mb : Nat) {x1 : Int32} {x2 : Int32} {I : IT} {J : JT} {r : Int32} {I1 : IT} {J1 : JT} (hf : f12_ageOn mb x1 x2 I J = some (r, I1, J1)) : MTi l D cz ev yX12_ageOn cX12_ageOn 3 (some .int) 1 22 [.ref mb, .int x1, .int x2] (mlL mb) (mlS mb) (mlR mb) I J r I1 J1 := by
  unfold f12_ageOn at hf
  refine MTi_of (by decide) (Nat.le_of_ble_eq_true rfl) ?_
  intro p e s m args below meth c Q ls X hK hw hl hfin
  have X : CallFix p m c cX12_ageOn 3 s args gw RX12 := X
  have hx := X.1
  have hb := X.2.1
  have hl : lv_has ls 3 [(0, .ref mb), (1, .int x1), (2, .int x2)] := hl
  refine lv_aload_n hx hb dX12_ageOn_0 rfl (lv_at hl 0 rfl) ?_
  refine lv_iload_n hx hb dX12_ageOn_1 rfl (lv_at hl 1 rfl) ?_
  refine lv_iconst (v := (0 : Int32)) hx hb dX12_ageOn_2 (by decide) ?_
  obtain ⟨r_1, I_2, J_3, hq_4, hf⟩ := yb_b3_some hf
  refine x_calli X hK hw (c12_personOf l D cz ev mb hq_4) (ml_mem0 mb) (ml_S0 mb) cpX12.1 vw_X12_312 ⟨Nat.le_of_ble_eq_true rfl, Nat.le_of_ble_eq_true rfl⟩ rfl rfl (Nat.le_of_ble_eq_true rfl) hl.1 ⟨Nat.le_refl _, Nat.le_refl _⟩ dX12_ageOn_3 (fun H locs hw => ?_)
  refine lv_iload_n hx hb dX12_ageOn_6 rfl (lv_at hl 2 rfl) ?_
  refine lv_iadd hx hb dX12_ageOn_7 ?_
  exact yb_reti hfin hf hw dX12_ageOn_8
set_option maxHeartbeats 4000000 in
set_option maxRecDepth 100000 in
theorem c12_sitsOn (l : Launch) (D : va_G) (cz : Nat → ClassId) (ev : Nat × Nat × Nat) (mb : Nat) {x1 : Int32} {x2 : Int32} {I : IT} {J : JT} {r : Int32} {I1 : IT} {J1 : JT} (hf : f12_sitsOn mb x1 x2 I J = some (r, I1, J1)) : MTi l D cz ev yX12_sitsOn cX12_sitsOn 3 (some .boolean) 2 44 [.ref mb, .int x1, .int x2] (mlL mb) (mlS mb) (mlR mb) I J r I1 J1 := by
  unfold f12_sitsOn at hf
  refine MTz_of (by decide) (Nat.le_of_ble_eq_true rfl) ?_
  intro p e s m args below meth c Q ls X hK hw hl hfin
  have X : CallFix p m c cX12_sitsOn 3 s args gw RX12 := X
  have hx := X.1
  have hb := X.2.1
  have hl : lv_has ls 3 [(0, .ref mb), (1, .int x1), (2, .int x2)] := hl
  refine lv_aload_n hx hb dX12_sitsOn_0 rfl (lv_at hl 0 rfl) ?_
  refine lv_iload_n hx hb dX12_sitsOn_1 rfl (lv_at hl 1 rfl) ?_
  refine lv_iload_n hx hb dX12_sitsOn_2 rfl (lv_at hl 2 rfl) ?_
  obtain ⟨r_1, I_2, J_3, hq_4, hf⟩ := yb_b3_some hf
  refine x_calli X hK hw (c12_ageOn l D cz ev mb hq_4) (ml_mem0 mb) (ml_S0 mb) cpX12.1 vw_X12_316 ⟨Nat.le_of_ble_eq_true rfl, Nat.le_of_ble_eq_true rfl⟩ rfl rfl (Nat.le_of_ble_eq_true rfl) hl.1 ⟨Nat.le_refl _, Nat.le_refl _⟩ dX12_sitsOn_3 (fun H locs hw => ?_)
  refine lv_i2l hx hb dX12_sitsOn_6 rfl ?_
  refine lv_aload_n hx hb dX12_sitsOn_7 rfl (lv_at hl 0 rfl) ?_
  refine x_getR X hK hw (ml_mem0 mb) (ml_S0 mb) cpX12 20 (by decide) rfl (ml_R mb 20 rfl) tw_1271 dX12_sitsOn_8 ?_
  refine lv_iconst (v := (5 : Int32)) hx hb dX12_sitsOn_11 (by decide) ?_
  refine x_iald X hK hw (ml_mem mb 10 (by decide)) (ml_S mb 10 rfl) (by decide) rfl dX12_sitsOn_12 ?_
  refine lv_i2l hx hb dX12_sitsOn_13 rfl ?_
  refine lv_aload_n hx hb dX12_sitsOn_14 rfl (lv_at hl 0 rfl) ?_
  refine x_getR X hK hw (ml_mem0 mb) (ml_S0 mb) cpX12 20 (by decide) rfl (ml_R mb 20 rfl) tw_1271 dX12_sitsOn_15 ?_
  refine lv_bipush (v := (6 : Int32)) hx hb dX12_sitsOn_18 (by decide) ?_
  refine x_iald X hK hw (ml_mem mb 10 (by decide)) (ml_S mb 10 rfl) (by decide) rfl dX12_sitsOn_20 ?_
  refine lv_i2l hx hb dX12_sitsOn_21 rfl ?_
  obtain ⟨r_5, I_6, J_7, hq_8, hf⟩ := yb_b3_some hf
  refine x_callsi X hK hw (c12_in l D cz ev mb hq_8) sw_X12_142 ⟨Nat.le_of_ble_eq_true rfl, Nat.le_of_ble_eq_true rfl⟩ rfl rfl (Nat.le_of_ble_eq_true rfl) hl.1 ⟨Nat.le_refl _, Nat.le_refl _⟩ dX12_sitsOn_22 (fun H locs hw => ?_)
  obtain ⟨hz_9, hf⟩ := yb_ck_some hf
  exact yb_retz hfin hz_9 hf hw dX12_sitsOn_25
set_option maxHeartbeats 4000000 in
set_option maxRecDepth 100000 in
theorem c12_birthdayIn (l : Launch) (D : va_G) (cz : Nat → ClassId) (ev : Nat × Nat × Nat) (mb : Nat) {x1 : Int32} {x2 : Int32} {I : IT} {J : JT} {r : Int32} {I1 : IT} {J1 : JT} (hf : f12_birthdayIn mb x1 x2 I J = some (r, I1, J1)) : MTi l D cz ev yX12_birthdayIn cX12_birthdayIn 3 (some .int) 2 44 [.ref mb, .int x1, .int x2] (mlL mb) (mlS mb) (mlR mb) I J r I1 J1 := by
  unfold f12_birthdayIn at hf
  refine MTi_of (by decide) (Nat.le_of_ble_eq_true rfl) ?_
  intro p e s m args below meth c Q ls X hK hw hl hfin
  have X : CallFix p m c cX12_birthdayIn 3 s args gw RX12 := X
  have hx := X.1
  have hb := X.2.1
  have hl : lv_has ls 3 [(0, .ref mb), (1, .int x1), (2, .int x2)] := hl
  refine lv_aload_n hx hb dX12_birthdayIn_0 rfl (lv_at hl 0 rfl) ?_
  refine x_getR X hK hw (ml_mem0 mb) (ml_S0 mb) cpX12 20 (by decide) rfl (ml_R mb 20 rfl) tw_1271 dX12_birthdayIn_1 ?_
  refine lv_iconst (v := (1 : Int32)) hx hb dX12_birthdayIn_4 (by decide) ?_
  refine x_iald X hK hw (ml_mem mb 10 (by decide)) (ml_S mb 10 rfl) (by decide) rfl dX12_birthdayIn_5 ?_
  refine lv_aload_n hx hb dX12_birthdayIn_6 rfl (lv_at hl 0 rfl) ?_
  refine lv_iload_n hx hb dX12_birthdayIn_7 rfl (lv_at hl 1 rfl) ?_
  refine lv_iload_n hx hb dX12_birthdayIn_8 rfl (lv_at hl 2 rfl) ?_
  obtain ⟨r_1, I_2, J_3, hq_4, hf⟩ := yb_b3_some hf
  refine x_calli X hK hw (c12_ageOn l D cz ev mb hq_4) (ml_mem0 mb) (ml_S0 mb) cpX12.1 vw_X12_316 ⟨Nat.le_of_ble_eq_true rfl, Nat.le_of_ble_eq_true rfl⟩ rfl rfl (Nat.le_of_ble_eq_true rfl) hl.1 ⟨Nat.le_refl _, Nat.le_refl _⟩ dX12_birthdayIn_9 (fun H locs hw => ?_)
  refine lv_aload_n hx hb dX12_birthdayIn_12 rfl (lv_at hl 0 rfl) ?_
  refine x_getR X hK hw (ml_mem0 mb) (ml_S0 mb) cpX12 20 (by decide) rfl (ml_R mb 20 rfl) tw_1271 dX12_birthdayIn_13 ?_
  refine lv_iconst (v := (1 : Int32)) hx hb dX12_birthdayIn_16 (by decide) ?_
  refine x_iald X hK hw (ml_mem mb 10 (by decide)) (ml_S mb 10 rfl) (by decide) rfl dX12_birthdayIn_17 ?_
  obtain ⟨h_5, hf⟩ := yb_nz hf
  refine lv_irem hx hb dX12_birthdayIn_18 h_5 ?_
  refine lv_isub hx hb dX12_birthdayIn_19 ?_
  exact yb_reti hfin hf hw dX12_birthdayIn_20
set_option maxHeartbeats 4000000 in
set_option maxRecDepth 100000 in
theorem c12_isYounger (l : Launch) (D : va_G) (cz : Nat → ClassId) (ev : Nat × Nat × Nat) (mb : Nat) {x1 : Int32} {x2 : Int32} {I : IT} {J : JT} {r : Int32} {I1 : IT} {J1 : JT} (hf : f12_isYounger mb x1 x2 I J = some (r, I1, J1)) : MTi l D cz ev yX12_isYounger cX12_isYounger 3 (some .boolean) 1 22 [.ref mb, .int x1, .int x2] (mlL mb) (mlS mb) (mlR mb) I J r I1 J1 := by
  unfold f12_isYounger at hf
  refine MTz_of (by decide) (Nat.le_of_ble_eq_true rfl) ?_
  intro p e s m args below meth c Q ls X hK hw hl hfin
  have X : CallFix p m c cX12_isYounger 3 s args gw RX12 := X
  have hx := X.1
  have hb := X.2.1
  have hl : lv_has ls 3 [(0, .ref mb), (1, .int x1), (2, .int x2)] := hl
  refine lv_aload_n hx hb dX12_isYounger_0 rfl (lv_at hl 0 rfl) ?_
  refine lv_iload_n hx hb dX12_isYounger_1 rfl (lv_at hl 2 rfl) ?_
  refine lv_iconst (v := (0 : Int32)) hx hb dX12_isYounger_2 (by decide) ?_
  obtain ⟨r_1, I_2, J_3, hq_4, hf⟩ := yb_b3_some hf
  refine x_calli X hK hw (c12_personOf l D cz ev mb hq_4) (ml_mem0 mb) (ml_S0 mb) cpX12.1 vw_X12_312 ⟨Nat.le_of_ble_eq_true rfl, Nat.le_of_ble_eq_true rfl⟩ rfl rfl (Nat.le_of_ble_eq_true rfl) hl.1 ⟨Nat.le_refl _, Nat.le_refl _⟩ dX12_isYounger_3 (fun H locs hw => ?_)
  refine lv_aload_n hx hb dX12_isYounger_6 rfl (lv_at hl 0 rfl) ?_
  refine lv_iload_n hx hb dX12_isYounger_7 rfl (lv_at hl 1 rfl) ?_
  refine lv_iconst (v := (0 : Int32)) hx hb dX12_isYounger_8 (by decide) ?_
  obtain ⟨r_5, I_6, J_7, hq_8, hf⟩ := yb_b3_some hf
  refine x_calli X hK hw (c12_personOf l D cz ev mb hq_8) (ml_mem0 mb) (ml_S0 mb) cpX12.1 vw_X12_312 ⟨Nat.le_of_ble_eq_true rfl, Nat.le_of_ble_eq_true rfl⟩ rfl rfl (Nat.le_of_ble_eq_true rfl) hl.1 ⟨Nat.le_refl _, Nat.le_refl _⟩ dX12_isYounger_9 (fun H locs hw => ?_)
  refine lv_isub hx hb dX12_isYounger_12 ?_
  refine lv_aload_n hx hb dX12_isYounger_13 rfl (lv_at hl 0 rfl) ?_
  refine x_getR X hK hw (ml_mem0 mb) (ml_S0 mb) cpX12 20 (by decide) rfl (ml_R mb 20 rfl) tw_1271 dX12_isYounger_14 ?_
  refine lv_iconst (v := (0 : Int32)) hx hb dX12_isYounger_17 (by decide) ?_
  refine x_iald X hK hw (ml_mem mb 10 (by decide)) (ml_S mb 10 rfl) (by decide) rfl dX12_isYounger_18 ?_
  refine lv_icmp_lt (tgt := 26) hx hb dX12_isYounger_19 (by decide) (fun c_9 => ?_) (fun c_9 => ?_)
  · have hf := yb_pos c_9 hf
    refine lv_iconst (v := (0 : Int32)) hx hb dX12_isYounger_26 (by decide) ?_
    exact yb_retz hfin (by decide) hf hw dX12_isYounger_27
  · have hf := yb_neg c_9 hf
    refine lv_iconst (v := (1 : Int32)) hx hb dX12_isYounger_22 (by decide) ?_
    refine lv_goto (tgt := 27) hx hb dX12_isYounger_23 (by decide) ?_
    exact yb_retz hfin (by decide) hf hw dX12_isYounger_27
set_option maxHeartbeats 4000000 in
set_option maxRecDepth 100000 in
theorem w12_canSit_L28 {p : Program} {l : Launch} {e : Env} {s : State} {m : MethodId} {args : Array Value} {below : List Frame} {meth : Method} {c : Code} {Q : State → Prop} {D : va_G} {cz : Nat → ClassId} {A : Nat → Prop} {ev : Nat × Nat × Nat} {mb : Nat} (X : CallFix p m c cX12_canSit 6 s args gw RX12) (hK : KX D cz ev A s) {N : Nat} {x1 : Int32} {x3 : Int32} {x4 : Int32} {rM : Int32} {IM : IT} {JM : JT} :
    ∀ (n : Nat) (x5 : Int32) (I : IT) (J : JT) (q : (Int32 ⊕ (Unit))) (I1 : IT) (J1 : JT) (H : Heap) (locs : List Loc) (ls : Array Slot), f12_canSit_L28 N mb x1 x3 x4 n x5 I J = some (q, I1, J1) → WX D cz A (mlL mb) (mlS mb) (mlR mb) s.heap I J H locs → lv_has ls 6 [(0, .ref mb), (1, .int x1), (3, .int x3), (4, .int x4), (5, .int x5)] →
    (∀ v, q = .inl v → some (v, I1, J1) = some (rM, IM, JM)) → (∀ (H : Heap) (locs : List Loc) (ls : Array Slot) (pc : Nat), bz rM = true → WX D cz A (mlL mb) (mlS mb) (mlR mb) s.heap IM JM H locs → decode cX12_canSit pc = .ok (.ireturn, 1) → W p l e (rmX 3 66) s m args below meth c H locs 0 0 Q (F0 m pc ls [.int rM])) →
    (∀ xq, q = .inr xq → ∀ (H : Heap) (locs : List Loc) (ls : Array Slot), WX D cz A (mlL mb) (mlS mb) (mlR mb) s.heap I1 J1 H locs → lv_has ls 6 [] → W p l e (rmX 3 66) s m args below meth c H locs 0 0 Q (F0 m 71 ls [])) →
    W p l e (rmX 3 66) s m args below meth c H locs 0 0 Q (F0 m 28 ls []) := by
  have hx := X.1
  have hb := X.2.1
  intro n
  induction n with
  | zero =>
    intro x5 I J q I1 J1 H locs ls hf
    rw [f12_canSit_L28] at hf
    cases hf
  | succ n ih =>
    intro x5 I J q I1 J1 H locs ls hf hw hl hret hfin hexit
    rw [f12_canSit_L28] at hf
    refine lv_iload hx hb dX12_canSit_28 (lv_at hl 4 rfl) ?_
    refine lv_iload hx hb dX12_canSit_30 (lv_at hl 3 rfl) ?_
    refine lv_iload_n hx hb dX12_canSit_32 rfl (lv_at hl 2 rfl) ?_
    refine lv_iadd hx hb dX12_canSit_33 ?_
    refine lv_icmp_ge (tgt := 71) hx hb dX12_canSit_34 (by decide) (fun c_15 => ?_) (fun c_15 => ?_)
    · have hf := yb_pos c_15 hf
      obtain ⟨rfl, rfl, rfl⟩ := yb_inj hf
      exact hexit _ rfl _ _ _ hw (lv_sub hl [] rfl)
    · have hf := yb_neg c_15 hf
      refine lv_aload_n hx hb dX12_canSit_37 rfl (lv_at hl 0 rfl) ?_
      refine lv_iload_n hx hb dX12_canSit_38 rfl (lv_at hl 1 rfl) ?_
      refine lv_iload hx hb dX12_canSit_39 (lv_at hl 4 rfl) ?_
      obtain ⟨r_16, I_17, J_18, hq_19, hf⟩ := yb_b3_some hf
      refine x_calli X hK hw (c12_sitsOn l D cz ev mb hq_19) (ml_mem0 mb) (ml_S0 mb) cpX12.1 vw_X12_325 ⟨Nat.le_of_ble_eq_true rfl, Nat.le_of_ble_eq_true rfl⟩ rfl rfl (Nat.le_of_ble_eq_true rfl) hl.1 ⟨Nat.le_refl _, Nat.le_refl _⟩ dX12_canSit_41 (fun H locs hw => ?_)
      refine lv_if_eq (tgt := 63) hx hb dX12_canSit_44 (by decide) (fun c_20 => ?_) (fun c_20 => ?_)
      · have hf := yb_pos c_20 hf
        refine lv_iconst (v := (0 : Int32)) hx hb dX12_canSit_63 (by decide) ?_
        exact yb_retz hfin (by decide) (yb_inl hret hf) hw dX12_canSit_64
      · have hf := yb_neg c_20 hf
        refine lv_aload_n hx hb dX12_canSit_47 rfl (lv_at hl 0 rfl) ?_
        refine lv_iload_n hx hb dX12_canSit_48 rfl (lv_at hl 1 rfl) ?_
        refine lv_iload hx hb dX12_canSit_49 (lv_at hl 4 rfl) ?_
        obtain ⟨r_21, I_22, J_23, hq_24, hf⟩ := yb_b3_some hf
        refine x_calli X hK hw (c12_birthdayIn l D cz ev mb hq_24) (ml_mem0 mb) (ml_S0 mb) cpX12.1 vw_X12_328 ⟨Nat.le_of_ble_eq_true rfl, Nat.le_of_ble_eq_true rfl⟩ rfl rfl (Nat.le_of_ble_eq_true rfl) hl.1 ⟨Nat.le_refl _, Nat.le_refl _⟩ dX12_canSit_51 (fun H locs hw => ?_)
        refine lv_aload_n hx hb dX12_canSit_54 rfl (lv_at hl 0 rfl) ?_
        refine x_getR X hK hw (ml_mem0 mb) (ml_S0 mb) cpX12 20 (by decide) rfl (ml_R mb 20 rfl) tw_1271 dX12_canSit_55 ?_
        refine lv_iconst (v := (1 : Int32)) hx hb dX12_canSit_58 (by decide) ?_
        refine x_iald X hK hw (ml_mem mb 10 (by decide)) (ml_S mb 10 rfl) (by decide) rfl dX12_canSit_59 ?_
        refine lv_icmp_ne (tgt := 65) hx hb dX12_canSit_60 (by decide) (fun c_25 => ?_) (fun c_25 => ?_)
        · have hf := yb_neg c_25 hf
          obtain ⟨x5_26, ex5_26, hf⟩ := yb_let_ex hf
          refine lv_iinc (v := x5_26) (lv' := [(5, .int x5_26), (0, .ref mb), (1, .int x1), (3, .int x3), (4, .int x4)]) hx hb dX12_canSit_65 hl (k := 4) rfl (by rw [ex5_26]; rfl) (by decide) rfl (fun ls hl => ?_)
          refine lv_goto (tgt := 28) hx hb dX12_canSit_68 (by decide) ?_
          exact ih _ _ _ _ _ _ _ _ _ hf hw (lv_sub hl [1, 2, 3, 4, 0] rfl) hret hfin hexit
        · have hf := yb_pos c_25 hf
          refine lv_iconst (v := (0 : Int32)) hx hb dX12_canSit_63 (by decide) ?_
          exact yb_retz hfin (by decide) (yb_inl hret hf) hw dX12_canSit_64
set_option maxHeartbeats 4000000 in
set_option maxRecDepth 100000 in
theorem c12_canSit (l : Launch) (D : va_G) (cz : Nat → ClassId) (ev : Nat × Nat × Nat) (mb : Nat) {N : Nat} {x1 : Int32} {x2 : Int32} {x3 : Int32} {x4 : Int32} {I : IT} {J : JT} {r : Int32} {I1 : IT} {J1 : JT} (hf : f12_canSit N mb x1 x2 x3 x4 I J = some (r, I1, J1)) : MTi l D cz ev yX12_canSit cX12_canSit 6 (some .boolean) 3 66 [.ref mb, .int x1, .int x2, .int x3, .int x4] (mlL mb) (mlS mb) (mlR mb) I J r I1 J1 := by
  unfold f12_canSit at hf
  refine MTz_of (by decide) (Nat.le_of_ble_eq_true rfl) ?_
  intro p e s m args below meth c Q ls X hK hw hl hfin
  have X : CallFix p m c cX12_canSit 6 s args gw RX12 := X
  have hx := X.1
  have hb := X.2.1
  have hl : lv_has ls 6 [(0, .ref mb), (1, .int x1), (2, .int x2), (3, .int x3), (4, .int x4)] := hl
  refine lv_aload_n hx hb dX12_canSit_0 rfl (lv_at hl 0 rfl) ?_
  refine lv_iload_n hx hb dX12_canSit_1 rfl (lv_at hl 1 rfl) ?_
  refine lv_iload_n hx hb dX12_canSit_2 rfl (lv_at hl 2 rfl) ?_
  obtain ⟨r_1, I_2, J_3, hq_4, hf⟩ := yb_b3_some hf
  refine x_calli X hK hw (c12_isYounger l D cz ev mb hq_4) (ml_mem0 mb) (ml_S0 mb) cpX12.1 vw_X12_319 ⟨Nat.le_of_ble_eq_true rfl, Nat.le_of_ble_eq_true rfl⟩ rfl rfl (Nat.le_of_ble_eq_true rfl) hl.1 ⟨Nat.le_refl _, Nat.le_refl _⟩ dX12_canSit_3 (fun H locs hw => ?_)
  refine lv_if_eq (tgt := 22) hx hb dX12_canSit_6 (by decide) (fun c_5 => ?_) (fun c_5 => ?_)
  · have hf := yb_pos c_5 hf
    refine lv_iconst (v := (0 : Int32)) hx hb dX12_canSit_22 (by decide) ?_
    exact yb_retz hfin (by decide) hf hw dX12_canSit_23
  · have hf := yb_neg c_5 hf
    refine lv_aload_n hx hb dX12_canSit_9 rfl (lv_at hl 0 rfl) ?_
    refine lv_iload_n hx hb dX12_canSit_10 rfl (lv_at hl 2 rfl) ?_
    refine lv_iconst (v := (3 : Int32)) hx hb dX12_canSit_11 (by decide) ?_
    obtain ⟨r_6, I_7, J_8, hq_9, hf⟩ := yb_b3_some hf
    refine x_calli X hK hw (c12_personOf l D cz ev mb hq_9) (ml_mem0 mb) (ml_S0 mb) cpX12.1 vw_X12_312 ⟨Nat.le_of_ble_eq_true rfl, Nat.le_of_ble_eq_true rfl⟩ rfl rfl (Nat.le_of_ble_eq_true rfl) hl.1 ⟨Nat.le_refl _, Nat.le_refl _⟩ dX12_canSit_12 (fun H locs hw => ?_)
    refine lv_iload_n hx hb dX12_canSit_15 rfl (lv_at hl 1 rfl) ?_
    obtain ⟨r_10, I_11, J_12, hq_13, hf⟩ := yb_b3_some hf
    refine x_callsi X hK hw (c12_isOf l D cz ev mb hq_13) sw_X12_322 ⟨Nat.le_of_ble_eq_true rfl, Nat.le_of_ble_eq_true rfl⟩ rfl rfl (Nat.le_of_ble_eq_true rfl) hl.1 ⟨Nat.le_refl _, Nat.le_refl _⟩ dX12_canSit_16 (fun H locs hw => ?_)
    refine lv_if_eq (tgt := 24) hx hb dX12_canSit_19 (by decide) (fun c_14 => ?_) (fun c_14 => ?_)
    · have hf := yb_pos c_14 hf
      refine lv_iload hx hb dX12_canSit_24 (lv_at hl 4 rfl) ?_
      refine lv_istore (lv' := [(5, .int x4), (0, .ref mb), (1, .int x1), (2, .int x2), (3, .int x3), (4, .int x4)]) hx hb dX12_canSit_26 hl (by decide) rfl (fun ls hl => ?_)
      obtain ⟨q_27, I_28, J_29, hq_30, hf⟩ := yb_b3_some hf
      refine w12_canSit_L28 X hK _ _ _ _ _ _ _ _ _ _ hq_30 hw (lv_sub hl [1, 2, 4, 5, 0] rfl) (fun v hv => by rw [hv] at hf; exact hf) hfin (fun x_32 hx1 H locs ls hw hl => ?_)
      rw [hx1] at hf
      have hf := yb_sm_r hf
      refine lv_iconst (v := (1 : Int32)) hx hb dX12_canSit_71 (by decide) ?_
      exact yb_retz hfin (by decide) hf hw dX12_canSit_72
    · have hf := yb_neg c_14 hf
      refine lv_iconst (v := (0 : Int32)) hx hb dX12_canSit_22 (by decide) ?_
      exact yb_retz hfin (by decide) hf hw dX12_canSit_23
