set_option maxHeartbeats 4000000 in
set_option maxRecDepth 100000 in
theorem w4_gatherOpen_L18 {p : Program} {l : Launch} {e : Env} {s : State} {m : MethodId} {args : Array Value} {below : List Frame} {meth : Method} {c : Code} {Q : State → Prop} {D : va_G} {cz : Nat → ClassId} {A : Nat → Prop} {ev : Nat × Nat × Nat} {b : Nat} {L : List Nat} {S : ST} {Rf : RT} (hC : CW b L S Rf) (X : CallFix p m c cX4_gatherOpen 3 s args gw RX4) (hK : KX D cz ev A s) {N : Nat} :
    ∀ (n : Nat) (x2 : Int32) (I : IT) (J : JT) (q : (Unit)) (I1 : IT) (J1 : JT) (H : Heap) (locs : List Loc) (ls : Array Slot), f4_gatherOpen_L18 N b S Rf n x2 I J = some (q, I1, J1) → WX D cz A L S Rf s.heap I J H locs → lv_has ls 3 [(0, .ref (b + 33)), (1, .ref (b + 14)), (2, .int x2)] →
    (∀ (H : Heap) (locs : List Loc) (ls : Array Slot), WX D cz A L S Rf s.heap I1 J1 H locs → lv_has ls 3 [] → W p l e (rmX 0 0) s m args below meth c H locs 0 0 Q (F0 m 87 ls [])) →
    W p l e (rmX 0 0) s m args below meth c H locs 0 0 Q (F0 m 18 ls []) := by
  have hx := X.1
  have hb := X.2.1
  intro n
  induction n with
  | zero =>
    intro x2 I J q I1 J1 H locs ls hf
    rw [f4_gatherOpen_L18] at hf
    cases hf
  | succ n ih =>
    intro x2 I J q I1 J1 H locs ls hf hw hl hexit
    rw [f4_gatherOpen_L18] at hf
    refine lv_iload_n hx hb dX4_gatherOpen_18 rfl (lv_at hl 2 rfl) ?_
    refine lv_aload_n hx hb dX4_gatherOpen_19 rfl (lv_at hl 0 rfl) ?_
    refine x_getR X hK hw (cw_mem hC 33 (by decide)) (cw_S hC 33 rfl) cpX4 0 (by decide) rfl (cw_R hC 33 0 (by decide) rfl) tw_427 dX4_gatherOpen_20 ?_
    refine x_getR X hK hw (cw_mem hC 30 (by decide)) (cw_S hC 30 rfl) cpX1 0 (by decide) rfl (cw_R hC 30 0 (by decide) rfl) tw_407 dX4_gatherOpen_23 ?_
    refine x_getR X hK hw (cw_now hC).1.1 (cw_now hC).1.2 cpX8 0 (by decide) rfl (cw_now hC).2.1.1 tw_345 dX4_gatherOpen_26 ?_
    refine x_getI X hK hw (st_town (cw_now hC)).1.1 (st_town (cw_now hC)).1.2 cpX9 14 (by decide) rfl tw_245 dX4_gatherOpen_29 ?_
    refine lv_icmp_ge (tgt := 87) hx hb dX4_gatherOpen_32 (by decide) (fun c_2 => ?_) (fun c_2 => ?_)
    · have hf := yb_pos c_2 hf
      obtain ⟨rfl, rfl, rfl⟩ := yb_inj hf
      exact hexit _ _ _ hw (lv_sub hl [] rfl)
    · have hf := yb_neg c_2 hf
      refine lv_aload_n hx hb dX4_gatherOpen_35 rfl (lv_at hl 1 rfl) ?_
      refine x_getR X hK hw (st_course (cw_now hC)).1.1 (st_course (cw_now hC)).1.2 cpX0 2 (by decide) rfl (ca_R (st_course (cw_now hC)) 2 (by decide)) tw_297 dX4_gatherOpen_36 ?_
      refine lv_iload_n hx hb dX4_gatherOpen_39 rfl (lv_at hl 2 rfl) ?_
      obtain ⟨hi_3, hf⟩ := yb_ck_some hf
      refine x_iald X hK hw (ca_mem (st_course (cw_now hC)) 2 (by decide)) (ca_S (st_course (cw_now hC)) 2 rfl) hi_3 rfl dX4_gatherOpen_40 ?_
      refine lv_if_ge (tgt := 81) hx hb dX4_gatherOpen_41 (by decide) (fun c_4 => ?_) (fun c_4 => ?_)
      · have hf := yb_pos c_4 hf
        obtain ⟨x2_5, ex2_5, hf⟩ := yb_let_ex hf
        refine lv_iinc (v := x2_5) (lv' := [(2, .int x2_5), (0, .ref (b + 33)), (1, .ref (b + 14))]) hx hb dX4_gatherOpen_81 hl (k := 2) rfl (by rw [ex2_5]; rfl) (by decide) rfl (fun ls hl => ?_)
        refine lv_goto (tgt := 18) hx hb dX4_gatherOpen_84 (by decide) ?_
        exact ih _ _ _ _ _ _ _ _ _ hf hw (lv_sub hl [1, 2, 0] rfl) hexit
      · have hf := yb_neg c_4 hf
        refine lv_aload_n hx hb dX4_gatherOpen_44 rfl (lv_at hl 1 rfl) ?_
        refine x_getR X hK hw (st_course (cw_now hC)).1.1 (st_course (cw_now hC)).1.2 cpX0 8 (by decide) rfl (ca_R (st_course (cw_now hC)) 8 (by decide)) tw_314 dX4_gatherOpen_45 ?_
        refine lv_iload_n hx hb dX4_gatherOpen_48 rfl (lv_at hl 2 rfl) ?_
        refine x_iald X hK hw (ca_mem (st_course (cw_now hC)) 8 (by decide)) (ca_S (st_course (cw_now hC)) 8 rfl) hi_3 rfl dX4_gatherOpen_49 ?_
        refine lv_if_ne (tgt := 81) hx hb dX4_gatherOpen_50 (by decide) (fun c_6 => ?_) (fun c_6 => ?_)
        · have hf := yb_neg c_6 hf
          obtain ⟨x2_7, ex2_7, hf⟩ := yb_let_ex hf
          refine lv_iinc (v := x2_7) (lv' := [(2, .int x2_7), (0, .ref (b + 33)), (1, .ref (b + 14))]) hx hb dX4_gatherOpen_81 hl (k := 2) rfl (by rw [ex2_7]; rfl) (by decide) rfl (fun ls hl => ?_)
          refine lv_goto (tgt := 18) hx hb dX4_gatherOpen_84 (by decide) ?_
          exact ih _ _ _ _ _ _ _ _ _ hf hw (lv_sub hl [1, 2, 0] rfl) hexit
        · have hf := yb_pos c_6 hf
          refine lv_aload_n hx hb dX4_gatherOpen_53 rfl (lv_at hl 0 rfl) ?_
          refine x_getI X hK hw (cw_mem hC 33 (by decide)) (cw_S hC 33 rfl) cpX4 14 (by decide) rfl tw_441 dX4_gatherOpen_54 ?_
          refine lv_iconst (v := (4 : Int32)) hx hb dX4_gatherOpen_57 (by decide) ?_
          refine lv_icmp_ge (tgt := 71) hx hb dX4_gatherOpen_58 (by decide) (fun c_8 => ?_) (fun c_8 => ?_)
          · have hf := yb_pos c_8 hf
            refine lv_aload_n hx hb dX4_gatherOpen_71 rfl (lv_at hl 0 rfl) ?_
            refine lv_dup hx hb dX4_gatherOpen_72 rfl ?_
            refine x_getI X hK hw (cw_mem hC 33 (by decide)) (cw_S hC 33 rfl) cpX4 14 (by decide) rfl tw_441 dX4_gatherOpen_73 ?_
            refine lv_iconst (v := (1 : Int32)) hx hb dX4_gatherOpen_76 (by decide) ?_
            refine lv_iadd hx hb dX4_gatherOpen_77 ?_
            refine x_putI X hK hw (cw_mem hC 33 (by decide)) (cw_S hC 33 rfl) cpX4 14 (by decide) rfl rfl rfl tw_441 dX4_gatherOpen_78 (fun H locs hw => ?_)
            obtain ⟨I_9, eI_9, hf⟩ := yb_let_ex hf
            have hw := yb_wI eI_9 hw
            obtain ⟨x2_10, ex2_10, hf⟩ := yb_let_ex hf
            refine lv_iinc (v := x2_10) (lv' := [(2, .int x2_10), (0, .ref (b + 33)), (1, .ref (b + 14))]) hx hb dX4_gatherOpen_81 hl (k := 2) rfl (by rw [ex2_10]; rfl) (by decide) rfl (fun ls hl => ?_)
            refine lv_goto (tgt := 18) hx hb dX4_gatherOpen_84 (by decide) ?_
            exact ih _ _ _ _ _ _ _ _ _ hf hw (lv_sub hl [1, 2, 0] rfl) hexit
          · have hf := yb_neg c_8 hf
            refine lv_aload_n hx hb dX4_gatherOpen_61 rfl (lv_at hl 0 rfl) ?_
            refine x_getR X hK hw (cw_mem hC 33 (by decide)) (cw_S hC 33 rfl) cpX4 6 (by decide) rfl (cw_R hC 33 6 (by decide) rfl) tw_433 dX4_gatherOpen_62 ?_
            refine lv_aload_n hx hb dX4_gatherOpen_65 rfl (lv_at hl 0 rfl) ?_
            refine x_getI X hK hw (cw_mem hC 33 (by decide)) (cw_S hC 33 rfl) cpX4 14 (by decide) rfl tw_441 dX4_gatherOpen_66 ?_
            refine lv_iload_n hx hb dX4_gatherOpen_69 rfl (lv_at hl 2 rfl) ?_
            obtain ⟨hi_11, hf⟩ := yb_ck_some hf
            refine x_iast X hK hw (cw_mem hC 39 (by decide)) (cw_S hC 39 rfl) hi_11 rfl dX4_gatherOpen_70 (fun H locs hw => ?_)
            obtain ⟨I_12, eI_12, hf⟩ := yb_let_ex hf
            have hw := yb_wI eI_12 hw
            refine lv_aload_n hx hb dX4_gatherOpen_71 rfl (lv_at hl 0 rfl) ?_
            refine lv_dup hx hb dX4_gatherOpen_72 rfl ?_
            refine x_getI X hK hw (cw_mem hC 33 (by decide)) (cw_S hC 33 rfl) cpX4 14 (by decide) rfl tw_441 dX4_gatherOpen_73 ?_
            refine lv_iconst (v := (1 : Int32)) hx hb dX4_gatherOpen_76 (by decide) ?_
            refine lv_iadd hx hb dX4_gatherOpen_77 ?_
            refine x_putI X hK hw (cw_mem hC 33 (by decide)) (cw_S hC 33 rfl) cpX4 14 (by decide) rfl rfl rfl tw_441 dX4_gatherOpen_78 (fun H locs hw => ?_)
            obtain ⟨I_13, eI_13, hf⟩ := yb_let_ex hf
            have hw := yb_wI eI_13 hw
            obtain ⟨x2_14, ex2_14, hf⟩ := yb_let_ex hf
            refine lv_iinc (v := x2_14) (lv' := [(2, .int x2_14), (0, .ref (b + 33)), (1, .ref (b + 14))]) hx hb dX4_gatherOpen_81 hl (k := 2) rfl (by rw [ex2_14]; rfl) (by decide) rfl (fun ls hl => ?_)
            refine lv_goto (tgt := 18) hx hb dX4_gatherOpen_84 (by decide) ?_
            exact ih _ _ _ _ _ _ _ _ _ hf hw (lv_sub hl [1, 2, 0] rfl) hexit
set_option maxHeartbeats 4000000 in
set_option maxRecDepth 100000 in
theorem c4_gatherOpen (l : Launch) (D : va_G) (cz : Nat → ClassId) (ev : Nat × Nat × Nat) {b : Nat} {L : List Nat} {S : ST} {Rf : RT} (hC : CW b L S Rf) {N : Nat} {I : IT} {J : JT} {r : Unit} {I1 : IT} {J1 : JT} (hf : f4_gatherOpen N b S Rf I J = some (r, I1, J1)) : MTv l D cz ev yX4_gatherOpen cX4_gatherOpen 3 (none) 0 0 [.ref (b + 33)] L S Rf I J r I1 J1 := by
  unfold f4_gatherOpen at hf
  refine MTv_of (by decide) (Nat.le_of_ble_eq_true rfl) ?_
  intro p e s m args below meth c Q ls X hK hw hl hfin
  have X : CallFix p m c cX4_gatherOpen 3 s args gw RX4 := X
  have hx := X.1
  have hb := X.2.1
  have hl : lv_has ls 3 [(0, .ref (b + 33))] := hl
  refine lv_aload_n hx hb dX4_gatherOpen_0 rfl (lv_at hl 0 rfl) ?_
  refine x_getR X hK hw (cw_mem hC 33 (by decide)) (cw_S hC 33 rfl) cpX4 0 (by decide) rfl (cw_R hC 33 0 (by decide) rfl) tw_427 dX4_gatherOpen_1 ?_
  refine x_getR X hK hw (cw_mem hC 30 (by decide)) (cw_S hC 30 rfl) cpX1 0 (by decide) rfl (cw_R hC 30 0 (by decide) rfl) tw_407 dX4_gatherOpen_4 ?_
  refine x_getR X hK hw (cw_now hC).1.1 (cw_now hC).1.2 cpX8 1 (by decide) rfl (cw_now hC).2.2.1.1 tw_348 dX4_gatherOpen_7 ?_
  refine lv_astore_n (lv' := [(1, .ref (b + 14)), (0, .ref (b + 33))]) hx hb dX4_gatherOpen_10 rfl hl (by decide) rfl (fun ls hl => ?_)
  refine lv_aload_n hx hb dX4_gatherOpen_11 rfl (lv_at hl 1 rfl) ?_
  refine lv_iconst (v := (0 : Int32)) hx hb dX4_gatherOpen_12 (by decide) ?_
  refine x_putI X hK hw (cw_mem hC 33 (by decide)) (cw_S hC 33 rfl) cpX4 14 (by decide) rfl rfl rfl tw_441 dX4_gatherOpen_13 (fun H locs hw => ?_)
  obtain ⟨I_1, eI_1, hf⟩ := yb_let_ex hf
  have hw := yb_wI eI_1 hw
  refine lv_iconst (v := (0 : Int32)) hx hb dX4_gatherOpen_16 (by decide) ?_
  refine lv_istore_n (lv' := [(2, .int (0 : Int32)), (1, .ref (b + 14)), (0, .ref (b + 33))]) hx hb dX4_gatherOpen_17 rfl hl (by decide) rfl (fun ls hl => ?_)
  obtain ⟨q_15, I_16, J_17, hq_18, hf⟩ := yb_b3_some hf
  refine w4_gatherOpen_L18 hC X hK _ _ _ _ _ _ _ _ _ _ hq_18 hw (lv_sub hl [2, 1, 0] rfl) (fun H locs ls hw hl => ?_)
  exact yb_retv hfin hf hw dX4_gatherOpen_87
set_option maxHeartbeats 4000000 in
set_option maxRecDepth 100000 in
theorem w4_isFree_L6 {p : Program} {l : Launch} {e : Env} {s : State} {m : MethodId} {args : Array Value} {below : List Frame} {meth : Method} {c : Code} {Q : State → Prop} {D : va_G} {cz : Nat → ClassId} {A : Nat → Prop} {ev : Nat × Nat × Nat} {b : Nat} {L : List Nat} {S : ST} {Rf : RT} (hC : CW b L S Rf) (X : CallFix p m c cX4_isFree 9 s args gw RX4) (hK : KX D cz ev A s) {N : Nat} {x1 : Int32} {x3 : Int32} {x4 : Int32} {rM : Int32} {IM : IT} {JM : JT} :
    ∀ (n : Nat) (x5 : Int32) (x6 : Int32) (I : IT) (J : JT) (q : (Int32 ⊕ (Unit))) (I1 : IT) (J1 : JT) (H : Heap) (locs : List Loc) (ls : Array Slot), f4_isFree_L6 N b S Rf x1 x3 x4 n x5 x6 I J = some (q, I1, J1) → WX D cz A L S Rf s.heap I J H locs → lv_has ls 9 [(0, .ref (b + 33)), (1, .int x1), (3, .int x3), (4, .int x4), (5, .int x5), (6, .int x6)] →
    (∀ v, q = .inl v → some (v, I1, J1) = some (rM, IM, JM)) → (∀ (H : Heap) (locs : List Loc) (ls : Array Slot) (pc : Nat), bz rM = true → WX D cz A L S Rf s.heap IM JM H locs → decode cX4_isFree pc = .ok (.ireturn, 1) → W p l e (rmX 0 0) s m args below meth c H locs 0 0 Q (F0 m pc ls [.int rM])) →
    (∀ xq, q = .inr xq → ∀ (H : Heap) (locs : List Loc) (ls : Array Slot), WX D cz A L S Rf s.heap I1 J1 H locs → lv_has ls 9 [] → W p l e (rmX 0 0) s m args below meth c H locs 0 0 Q (F0 m 94 ls [])) →
    W p l e (rmX 0 0) s m args below meth c H locs 0 0 Q (F0 m 6 ls []) := by
  have hx := X.1
  have hb := X.2.1
  intro n
  induction n with
  | zero =>
    intro x5 x6 I J q I1 J1 H locs ls hf
    rw [f4_isFree_L6] at hf
    cases hf
  | succ n ih =>
    intro x5 x6 I J q I1 J1 H locs ls hf hw hl hret hfin hexit
    rw [f4_isFree_L6] at hf
    refine lv_iload hx hb dX4_isFree_6 (lv_at hl 5 rfl) ?_
    refine lv_iconst (v := (4 : Int32)) hx hb dX4_isFree_8 (by decide) ?_
    refine lv_icmp_ge (tgt := 94) hx hb dX4_isFree_9 (by decide) (fun c_1 => ?_) (fun c_1 => ?_)
    · have hf := yb_pos c_1 hf
      obtain ⟨rfl, rfl, rfl⟩ := yb_inj hf
      exact hexit _ rfl _ _ _ hw (lv_sub hl [] rfl)
    · have hf := yb_neg c_1 hf
      refine lv_iload hx hb dX4_isFree_12 (lv_at hl 4 rfl) ?_
      refine lv_if_le (tgt := 94) hx hb dX4_isFree_14 (by decide) (fun c_2 => ?_) (fun c_2 => ?_)
      · have hf := yb_pos c_2 hf
        obtain ⟨rfl, rfl, rfl⟩ := yb_inj hf
        exact hexit _ rfl _ _ _ hw (lv_sub hl [] rfl)
      · have hf := yb_neg c_2 hf
        refine lv_aload_n hx hb dX4_isFree_17 rfl (lv_at hl 0 rfl) ?_
        refine x_getR X hK hw (cw_mem hC 33 (by decide)) (cw_S hC 33 rfl) cpX4 4 (by decide) rfl (cw_R hC 33 4 (by decide) rfl) tw_431 dX4_isFree_18 ?_
        refine lv_iload_n hx hb dX4_isFree_21 rfl (lv_at hl 1 rfl) ?_
        refine lv_bipush (v := (65 : Int32)) hx hb dX4_isFree_22 (by decide) ?_
        refine lv_imul hx hb dX4_isFree_24 ?_
        refine lv_iload hx hb dX4_isFree_25 (lv_at hl 4 rfl) ?_
        refine lv_iadd hx hb dX4_isFree_27 ?_
        obtain ⟨hi_3, hf⟩ := yb_ck_some hf
        refine x_iald X hK hw (cw_mem hC 37 (by decide)) (cw_S hC 37 rfl) hi_3 rfl dX4_isFree_28 ?_
        refine lv_topi (fun x7_4 ex7_4 => ?_)
        have hf := yb_let_to ex7_4 hf
        refine lv_istore (lv' := [(7, .int x7_4), (0, .ref (b + 33)), (1, .int x1), (3, .int x3), (4, .int x4), (5, .int x5), (6, .int x6)]) hx hb dX4_isFree_29 hl (by decide) rfl (fun ls hl => ?_)
        refine lv_iload hx hb dX4_isFree_31 (lv_at hl 0 rfl) ?_
        refine lv_aload_n hx hb dX4_isFree_33 rfl (lv_at hl 1 rfl) ?_
        refine x_getR X hK hw (cw_mem hC 33 (by decide)) (cw_S hC 33 rfl) cpX4 0 (by decide) rfl (cw_R hC 33 0 (by decide) rfl) tw_427 dX4_isFree_34 ?_
        refine x_getR X hK hw (cw_mem hC 30 (by decide)) (cw_S hC 30 rfl) cpX1 0 (by decide) rfl (cw_R hC 30 0 (by decide) rfl) tw_407 dX4_isFree_37 ?_
        refine x_getR X hK hw (cw_now hC).1.1 (cw_now hC).1.2 cpX8 0 (by decide) rfl (cw_now hC).2.1.1 tw_345 dX4_isFree_40 ?_
        refine x_getR X hK hw (st_town (cw_now hC)).1.1 (st_town (cw_now hC)).1.2 cpX9 6 (by decide) rfl (ta_R (st_town (cw_now hC)) 6 (by decide)) tw_216 dX4_isFree_43 ?_
        refine lv_aload_n hx hb dX4_isFree_46 rfl (lv_at hl 1 rfl) ?_
        refine x_getR X hK hw (cw_mem hC 33 (by decide)) (cw_S hC 33 rfl) cpX4 6 (by decide) rfl (cw_R hC 33 6 (by decide) rfl) tw_433 dX4_isFree_47 ?_
        refine lv_aload_n hx hb dX4_isFree_50 rfl (lv_at hl 1 rfl) ?_
        refine x_getR X hK hw (cw_mem hC 33 (by decide)) (cw_S hC 33 rfl) cpX4 3 (by decide) rfl (cw_R hC 33 3 (by decide) rfl) tw_430 dX4_isFree_51 ?_
        refine lv_iload hx hb dX4_isFree_54 (lv_at hl 5 rfl) ?_
        obtain ⟨hi_5, hf⟩ := yb_ck_some hf
        refine x_iald X hK hw (cw_mem hC 36 (by decide)) (cw_S hC 36 rfl) hi_5 rfl dX4_isFree_56 ?_
        obtain ⟨hi_6, hf⟩ := yb_ck_some hf
        refine x_iald X hK hw (cw_mem hC 39 (by decide)) (cw_S hC 39 rfl) hi_6 rfl dX4_isFree_57 ?_
        obtain ⟨hi_7, hf⟩ := yb_ck_some hf
        refine x_iald X hK hw (ta_mem (st_town (cw_now hC)) 6 (by decide)) (ta_S (st_town (cw_now hC)) 6 rfl) hi_7 rfl dX4_isFree_58 ?_
        refine lv_iadd hx hb dX4_isFree_59 ?_
        refine lv_topi (fun x8_8 ex8_8 => ?_)
        have hf := yb_let_to ex8_8 hf
        refine lv_istore (lv' := [(8, .int x8_8), (7, .int x7_4), (0, .ref (b + 33)), (1, .int x1), (3, .int x3), (4, .int x4), (5, .int x5), (6, .int x6)]) hx hb dX4_isFree_60 hl (by decide) rfl (fun ls hl => ?_)
        refine lv_iload_n hx hb dX4_isFree_62 rfl (lv_at hl 4 rfl) ?_
        refine lv_iload hx hb dX4_isFree_63 (lv_at hl 0 rfl) ?_
        refine lv_icmp_ge (tgt := 79) hx hb dX4_isFree_65 (by decide) (fun c_9 => ?_) (fun c_9 => ?_)
        · have hf := yb_pos c_9 hf
          refine lv_aload_n hx hb dX4_isFree_79 rfl (lv_at hl 2 rfl) ?_
          refine x_getR X hK hw (cw_mem hC 33 (by decide)) (cw_S hC 33 rfl) cpX4 2 (by decide) rfl (cw_R hC 33 2 (by decide) rfl) tw_429 dX4_isFree_80 ?_
          refine lv_iload hx hb dX4_isFree_83 (lv_at hl 6 rfl) ?_
          refine x_iald X hK hw (cw_mem hC 35 (by decide)) (cw_S hC 35 rfl) hi_5 rfl dX4_isFree_85 ?_
          refine lv_topi (fun x5_10 ex5_10 => ?_)
          have hf := yb_let_to ex5_10 hf
          refine lv_istore (lv' := [(5, .int x5_10), (8, .int x8_8), (7, .int x7_4), (0, .ref (b + 33)), (1, .int x1), (3, .int x3), (4, .int x4), (6, .int x6)]) hx hb dX4_isFree_86 hl (by decide) rfl (fun ls hl => ?_)
          obtain ⟨x6_11, ex6_11, hf⟩ := yb_let_ex hf
          refine lv_iinc (v := x6_11) (lv' := [(6, .int x6_11), (5, .int x5_10), (8, .int x8_8), (7, .int x7_4), (0, .ref (b + 33)), (1, .int x1), (3, .int x3), (4, .int x4)]) hx hb dX4_isFree_88 hl (k := 7) rfl (by rw [ex6_11]; rfl) (by decide) rfl (fun ls hl => ?_)
          refine lv_goto (tgt := 6) hx hb dX4_isFree_91 (by decide) ?_
          exact ih _ _ _ _ _ _ _ _ _ _ hf hw (lv_sub hl [4, 5, 6, 7, 1, 0] rfl) hret hfin hexit
        · have hf := yb_neg c_9 hf
          refine lv_iload hx hb dX4_isFree_68 (lv_at hl 1 rfl) ?_
          refine lv_iload_n hx hb dX4_isFree_70 rfl (lv_at hl 4 rfl) ?_
          refine lv_iload hx hb dX4_isFree_71 (lv_at hl 5 rfl) ?_
          refine lv_iadd hx hb dX4_isFree_73 ?_
          refine lv_icmp_ge (tgt := 79) hx hb dX4_isFree_74 (by decide) (fun c_12 => ?_) (fun c_12 => ?_)
          · have hf := yb_pos c_12 hf
            refine lv_aload_n hx hb dX4_isFree_79 rfl (lv_at hl 2 rfl) ?_
            refine x_getR X hK hw (cw_mem hC 33 (by decide)) (cw_S hC 33 rfl) cpX4 2 (by decide) rfl (cw_R hC 33 2 (by decide) rfl) tw_429 dX4_isFree_80 ?_
            refine lv_iload hx hb dX4_isFree_83 (lv_at hl 6 rfl) ?_
            refine x_iald X hK hw (cw_mem hC 35 (by decide)) (cw_S hC 35 rfl) hi_5 rfl dX4_isFree_85 ?_
            refine lv_topi (fun x5_13 ex5_13 => ?_)
            have hf := yb_let_to ex5_13 hf
            refine lv_istore (lv' := [(5, .int x5_13), (8, .int x8_8), (7, .int x7_4), (0, .ref (b + 33)), (1, .int x1), (3, .int x3), (4, .int x4), (6, .int x6)]) hx hb dX4_isFree_86 hl (by decide) rfl (fun ls hl => ?_)
            obtain ⟨x6_14, ex6_14, hf⟩ := yb_let_ex hf
            refine lv_iinc (v := x6_14) (lv' := [(6, .int x6_14), (5, .int x5_13), (8, .int x8_8), (7, .int x7_4), (0, .ref (b + 33)), (1, .int x1), (3, .int x3), (4, .int x4)]) hx hb dX4_isFree_88 hl (k := 7) rfl (by rw [ex6_14]; rfl) (by decide) rfl (fun ls hl => ?_)
            refine lv_goto (tgt := 6) hx hb dX4_isFree_91 (by decide) ?_
            exact ih _ _ _ _ _ _ _ _ _ _ hf hw (lv_sub hl [4, 5, 6, 7, 1, 0] rfl) hret hfin hexit
          · have hf := yb_neg c_12 hf
            refine lv_iconst (v := (0 : Int32)) hx hb dX4_isFree_77 (by decide) ?_
            exact yb_retz hfin (by decide) (yb_inl hret hf) hw dX4_isFree_78
set_option maxHeartbeats 4000000 in
set_option maxRecDepth 100000 in
theorem c4_isFree (l : Launch) (D : va_G) (cz : Nat → ClassId) (ev : Nat × Nat × Nat) {b : Nat} {L : List Nat} {S : ST} {Rf : RT} (hC : CW b L S Rf) {N : Nat} {x1 : Int32} {x2 : Int32} {x3 : Int32} {x4 : Int32} {I : IT} {J : JT} {r : Int32} {I1 : IT} {J1 : JT} (hf : f4_isFree N b S Rf x1 x2 x3 x4 I J = some (r, I1, J1)) : MTi l D cz ev yX4_isFree cX4_isFree 9 (some .boolean) 0 0 [.ref (b + 33), .int x1, .int x2, .int x3, .int x4] L S Rf I J r I1 J1 := by
  unfold f4_isFree at hf
  refine MTz_of (by decide) (Nat.le_of_ble_eq_true rfl) ?_
  intro p e s m args below meth c Q ls X hK hw hl hfin
  have X : CallFix p m c cX4_isFree 9 s args gw RX4 := X
  have hx := X.1
  have hb := X.2.1
  have hl : lv_has ls 9 [(0, .ref (b + 33)), (1, .int x1), (2, .int x2), (3, .int x3), (4, .int x4)] := hl
  refine lv_iload_n hx hb dX4_isFree_0 rfl (lv_at hl 2 rfl) ?_
  refine lv_istore (lv' := [(5, .int x2), (0, .ref (b + 33)), (1, .int x1), (2, .int x2), (3, .int x3), (4, .int x4)]) hx hb dX4_isFree_1 hl (by decide) rfl (fun ls hl => ?_)
  refine lv_iconst (v := (0 : Int32)) hx hb dX4_isFree_3 (by decide) ?_
  refine lv_istore (lv' := [(6, .int (0 : Int32)), (5, .int x2), (0, .ref (b + 33)), (1, .int x1), (2, .int x2), (3, .int x3), (4, .int x4)]) hx hb dX4_isFree_4 hl (by decide) rfl (fun ls hl => ?_)
  obtain ⟨q_15, I_16, J_17, hq_18, hf⟩ := yb_b3_some hf
  refine w4_isFree_L6 hC X hK _ _ _ _ _ _ _ _ _ _ _ hq_18 hw (lv_sub hl [2, 3, 5, 6, 1, 0] rfl) (fun v hv => by rw [hv] at hf; exact hf) hfin (fun x_20 hx1 H locs ls hw hl => ?_)
  rw [hx1] at hf
  have hf := yb_sm_r hf
  refine lv_iconst (v := (1 : Int32)) hx hb dX4_isFree_94 (by decide) ?_
  exact yb_retz hfin (by decide) hf hw dX4_isFree_95
set_option maxHeartbeats 4000000 in
set_option maxRecDepth 100000 in
theorem w4_firstDay_L107 {p : Program} {l : Launch} {e : Env} {s : State} {m : MethodId} {args : Array Value} {below : List Frame} {meth : Method} {c : Code} {Q : State → Prop} {D : va_G} {cz : Nat → ClassId} {A : Nat → Prop} {ev : Nat × Nat × Nat} {b : Nat} {L : List Nat} {S : ST} {Rf : RT} (hC : CW b L S Rf) (X : CallFix p m c cX4_firstDay 10 s args gw RX4) (hK : KX D cz ev A s) {N : Nat} {x1 : Int32} {x4 : Int32} {x5 : Int32} {rM : Int32} {IM : IT} {JM : JT} :
    ∀ (n : Nat) (x9 : Int32) (I : IT) (J : JT) (q : (Int32 ⊕ (Unit))) (I1 : IT) (J1 : JT) (H : Heap) (locs : List Loc) (ls : Array Slot), f4_firstDay_L107 N b S Rf x1 x4 x5 n x9 I J = some (q, I1, J1) → WX D cz A L S Rf s.heap I J H locs → lv_has ls 10 [(0, .ref (b + 33)), (1, .int x1), (4, .int x4), (5, .int x5), (6, .ref (b + 14)), (9, .int x9)] →
    (∀ v, q = .inl v → some (v, I1, J1) = some (rM, IM, JM)) → (∀ (H : Heap) (locs : List Loc) (ls : Array Slot) (pc : Nat), WX D cz A L S Rf s.heap IM JM H locs → decode cX4_firstDay pc = .ok (.ireturn, 1) → W p l e (rmX 3 73) s m args below meth c H locs 0 0 Q (F0 m pc ls [.int rM])) →
    (∀ xq, q = .inr xq → ∀ (H : Heap) (locs : List Loc) (ls : Array Slot), WX D cz A L S Rf s.heap I1 J1 H locs → lv_has ls 10 [] → W p l e (rmX 3 73) s m args below meth c H locs 0 0 Q (F0 m 172 ls [])) →
    W p l e (rmX 3 73) s m args below meth c H locs 0 0 Q (F0 m 107 ls []) := by
  have hx := X.1
  have hb := X.2.1
  intro n
  induction n with
  | zero =>
    intro x9 I J q I1 J1 H locs ls hf
    rw [f4_firstDay_L107] at hf
    cases hf
  | succ n ih =>
    intro x9 I J q I1 J1 H locs ls hf hw hl hret hfin hexit
    rw [f4_firstDay_L107] at hf
    refine lv_iload hx hb dX4_firstDay_107 (lv_at hl 5 rfl) ?_
    refine lv_aload hx hb dX4_firstDay_109 (lv_at hl 4 rfl) ?_
    refine x_getI X hK hw (st_course (cw_now hC)).1.1 (st_course (cw_now hC)).1.2 cpX0 9 (by decide) rfl tw_319 dX4_firstDay_111 ?_
    refine lv_bipush (v := (100 : Int32)) hx hb dX4_firstDay_114 (by decide) ?_
    refine lv_iadd hx hb dX4_firstDay_116 ?_
    refine lv_icmp_ge (tgt := 172) hx hb dX4_firstDay_117 (by decide) (fun c_15 => ?_) (fun c_15 => ?_)
    · have hf := yb_pos c_15 hf
      obtain ⟨rfl, rfl, rfl⟩ := yb_inj hf
      exact hexit _ rfl _ _ _ hw (lv_sub hl [] rfl)
    · have hf := yb_neg c_15 hf
      refine lv_aload_n hx hb dX4_firstDay_120 rfl (lv_at hl 0 rfl) ?_
      refine x_getR X hK hw (cw_mem hC 33 (by decide)) (cw_S hC 33 rfl) cpX4 0 (by decide) rfl (cw_R hC 33 0 (by decide) rfl) tw_427 dX4_firstDay_121 ?_
      refine lv_iload hx hb dX4_firstDay_124 (lv_at hl 3 rfl) ?_
      refine lv_iload_n hx hb dX4_firstDay_126 rfl (lv_at hl 1 rfl) ?_
      refine lv_iload hx hb dX4_firstDay_127 (lv_at hl 5 rfl) ?_
      obtain ⟨r_16, I_17, J_18, hq_19, hf⟩ := yb_b3_some hf
      refine x_calli X hK hw (c1_canHear l D cz ev hC hq_19) (cw_mem hC 30 (by decide)) (cw_S hC 30 rfl) cpX1.1 vw_X4_127 ⟨Nat.le_of_ble_eq_true rfl, Nat.le_of_ble_eq_true rfl⟩ rfl rfl (Nat.le_of_ble_eq_true rfl) hl.1 ⟨Nat.le_refl _, Nat.le_refl _⟩ dX4_firstDay_129 (fun H locs hw => ?_)
      refine lv_if_eq (tgt := 166) hx hb dX4_firstDay_132 (by decide) (fun c_20 => ?_) (fun c_20 => ?_)
      · have hf := yb_pos c_20 hf
        obtain ⟨x9_21, ex9_21, hf⟩ := yb_let_ex hf
        refine lv_iinc (v := x9_21) (lv' := [(9, .int x9_21), (0, .ref (b + 33)), (1, .int x1), (4, .int x4), (5, .int x5), (6, .ref (b + 14))]) hx hb dX4_firstDay_166 hl (k := 5) rfl (by rw [ex9_21]; rfl) (by decide) rfl (fun ls hl => ?_)
        refine lv_goto (tgt := 107) hx hb dX4_firstDay_169 (by decide) ?_
        exact ih _ _ _ _ _ _ _ _ _ hf hw (lv_sub hl [1, 2, 3, 4, 5, 0] rfl) hret hfin hexit
      · have hf := yb_neg c_20 hf
        refine lv_aload_n hx hb dX4_firstDay_135 rfl (lv_at hl 0 rfl) ?_
        refine lv_iload_n hx hb dX4_firstDay_136 rfl (lv_at hl 1 rfl) ?_
        refine lv_iload hx hb dX4_firstDay_137 (lv_at hl 2 rfl) ?_
        refine lv_iload hx hb dX4_firstDay_139 (lv_at hl 5 rfl) ?_
        refine lv_aload_n hx hb dX4_firstDay_141 rfl (lv_at hl 0 rfl) ?_
        refine x_getR X hK hw (cw_mem hC 33 (by decide)) (cw_S hC 33 rfl) cpX4 0 (by decide) rfl (cw_R hC 33 0 (by decide) rfl) tw_427 dX4_firstDay_142 ?_
        refine x_getR X hK hw (cw_mem hC 30 (by decide)) (cw_S hC 30 rfl) cpX1 0 (by decide) rfl (cw_R hC 30 0 (by decide) rfl) tw_407 dX4_firstDay_145 ?_
        refine x_getR X hK hw (cw_now hC).1.1 (cw_now hC).1.2 cpX8 0 (by decide) rfl (cw_now hC).2.1.1 tw_345 dX4_firstDay_148 ?_
        refine x_getR X hK hw (st_town (cw_now hC)).1.1 (st_town (cw_now hC)).1.2 cpX9 6 (by decide) rfl (ta_R (st_town (cw_now hC)) 6 (by decide)) tw_216 dX4_firstDay_151 ?_
        refine lv_iload hx hb dX4_firstDay_154 (lv_at hl 3 rfl) ?_
        obtain ⟨hi_22, hf⟩ := yb_ck_some hf
        refine x_iald X hK hw (ta_mem (st_town (cw_now hC)) 6 (by decide)) (ta_S (st_town (cw_now hC)) 6 rfl) hi_22 rfl dX4_firstDay_156 ?_
        obtain ⟨r_23, I_24, J_25, hq_26, hf⟩ := yb_b3_some hf
        refine x_calli X hK hw (c4_isFree l D cz ev hC hq_26) (cw_mem hC 33 (by decide)) (cw_S hC 33 rfl) cpX4.1 vw_X4_134 ⟨Nat.le_of_ble_eq_true rfl, Nat.le_of_ble_eq_true rfl⟩ rfl rfl (Nat.le_of_ble_eq_true rfl) hl.1 ⟨Nat.le_refl _, Nat.le_refl _⟩ dX4_firstDay_157 (fun H locs hw => ?_)
        refine lv_if_eq (tgt := 166) hx hb dX4_firstDay_160 (by decide) (fun c_27 => ?_) (fun c_27 => ?_)
        · have hf := yb_pos c_27 hf
          obtain ⟨x9_28, ex9_28, hf⟩ := yb_let_ex hf
          refine lv_iinc (v := x9_28) (lv' := [(9, .int x9_28), (0, .ref (b + 33)), (1, .int x1), (4, .int x4), (5, .int x5), (6, .ref (b + 14))]) hx hb dX4_firstDay_166 hl (k := 5) rfl (by rw [ex9_28]; rfl) (by decide) rfl (fun ls hl => ?_)
          refine lv_goto (tgt := 107) hx hb dX4_firstDay_169 (by decide) ?_
          exact ih _ _ _ _ _ _ _ _ _ hf hw (lv_sub hl [1, 2, 3, 4, 5, 0] rfl) hret hfin hexit
        · have hf := yb_neg c_27 hf
          refine lv_iload hx hb dX4_firstDay_163 (lv_at hl 5 rfl) ?_
          exact yb_reti hfin (yb_inl hret hf) hw dX4_firstDay_165
set_option maxHeartbeats 4000000 in
set_option maxRecDepth 100000 in
theorem c4_firstDay (l : Launch) (D : va_G) (cz : Nat → ClassId) (ev : Nat × Nat × Nat) {b : Nat} {L : List Nat} {S : ST} {Rf : RT} (hC : CW b L S Rf) {N : Nat} {x1 : Int32} {x2 : Int32} {I : IT} {J : JT} {r : Int32} {I1 : IT} {J1 : JT} (hf : f4_firstDay N b S Rf x1 x2 I J = some (r, I1, J1)) : MTi l D cz ev yX4_firstDay cX4_firstDay 10 (some .int) 3 73 [.ref (b + 33), .int x1, .int x2] L S Rf I J r I1 J1 := by
  unfold f4_firstDay at hf
  refine MTi_of (by decide) (Nat.le_of_ble_eq_true rfl) ?_
  intro p e s m args below meth c Q ls X hK hw hl hfin
  have X : CallFix p m c cX4_firstDay 10 s args gw RX4 := X
  have hx := X.1
  have hb := X.2.1
  have hl : lv_has ls 10 [(0, .ref (b + 33)), (1, .int x1), (2, .int x2)] := hl
  refine lv_iload_n hx hb dX4_firstDay_0 rfl (lv_at hl 1 rfl) ?_
  refine lv_bipush (v := (65 : Int32)) hx hb dX4_firstDay_1 (by decide) ?_
  refine lv_imul hx hb dX4_firstDay_3 ?_
  refine lv_topi (fun x3_1 ex3_1 => ?_)
  have hf := yb_let_to ex3_1 hf
  refine lv_istore_n (lv' := [(3, .int x3_1), (0, .ref (b + 33)), (1, .int x1), (2, .int x2)]) hx hb dX4_firstDay_4 rfl hl (by decide) rfl (fun ls hl => ?_)
  refine lv_aload_n hx hb dX4_firstDay_5 rfl (lv_at hl 1 rfl) ?_
  refine x_getR X hK hw (cw_mem hC 33 (by decide)) (cw_S hC 33 rfl) cpX4 2 (by decide) rfl (cw_R hC 33 2 (by decide) rfl) tw_429 dX4_firstDay_6 ?_
  refine lv_iload_n hx hb dX4_firstDay_9 rfl (lv_at hl 3 rfl) ?_
  obtain ⟨hi_2, hf⟩ := yb_ck_some hf
  refine x_iald X hK hw (cw_mem hC 35 (by decide)) (cw_S hC 35 rfl) hi_2 rfl dX4_firstDay_10 ?_
  refine lv_topi (fun x4_3 ex4_3 => ?_)
  have hf := yb_let_to ex4_3 hf
  refine lv_istore (lv' := [(4, .int x4_3), (3, .int x3_1), (0, .ref (b + 33)), (1, .int x1), (2, .int x2)]) hx hb dX4_firstDay_11 hl (by decide) rfl (fun ls hl => ?_)
  refine lv_aload_n hx hb dX4_firstDay_13 rfl (lv_at hl 2 rfl) ?_
  refine x_getR X hK hw (cw_mem hC 33 (by decide)) (cw_S hC 33 rfl) cpX4 3 (by decide) rfl (cw_R hC 33 3 (by decide) rfl) tw_430 dX4_firstDay_14 ?_
  refine lv_iload_n hx hb dX4_firstDay_17 rfl (lv_at hl 4 rfl) ?_
  refine x_iald X hK hw (cw_mem hC 36 (by decide)) (cw_S hC 36 rfl) hi_2 rfl dX4_firstDay_18 ?_
  refine lv_aload_n hx hb dX4_firstDay_19 rfl (lv_at hl 2 rfl) ?_
  refine x_getI X hK hw (cw_mem hC 33 (by decide)) (cw_S hC 33 rfl) cpX4 14 (by decide) rfl tw_441 dX4_firstDay_20 ?_
  refine lv_icmp_ge (tgt := 43) hx hb dX4_firstDay_23 (by decide) (fun c_4 => ?_) (fun c_4 => ?_)
  · have hf := yb_pos c_4 hf
    refine lv_iconst (v := (-1 : Int32)) hx hb dX4_firstDay_43 (by decide) ?_
    exact yb_reti hfin hf hw dX4_firstDay_44
  · have hf := yb_neg c_4 hf
    refine lv_iload hx hb dX4_firstDay_26 (lv_at hl 0 rfl) ?_
    refine lv_if_le (tgt := 45) hx hb dX4_firstDay_28 (by decide) (fun c_5 => ?_) (fun c_5 => ?_)
    · have hf := yb_pos c_5 hf
      refine lv_aload_n hx hb dX4_firstDay_45 rfl (lv_at hl 2 rfl) ?_
      refine x_getR X hK hw (cw_mem hC 33 (by decide)) (cw_S hC 33 rfl) cpX4 6 (by decide) rfl (cw_R hC 33 6 (by decide) rfl) tw_433 dX4_firstDay_46 ?_
      refine lv_aload_n hx hb dX4_firstDay_49 rfl (lv_at hl 2 rfl) ?_
      refine x_getR X hK hw (cw_mem hC 33 (by decide)) (cw_S hC 33 rfl) cpX4 3 (by decide) rfl (cw_R hC 33 3 (by decide) rfl) tw_430 dX4_firstDay_50 ?_
      refine lv_iload_n hx hb dX4_firstDay_53 rfl (lv_at hl 4 rfl) ?_
      refine x_iald X hK hw (cw_mem hC 36 (by decide)) (cw_S hC 36 rfl) hi_2 rfl dX4_firstDay_54 ?_
      obtain ⟨hi_6, hf⟩ := yb_ck_some hf
      refine x_iald X hK hw (cw_mem hC 39 (by decide)) (cw_S hC 39 rfl) hi_6 rfl dX4_firstDay_55 ?_
      refine lv_topi (fun x5_7 ex5_7 => ?_)
      have hf := yb_let_to ex5_7 hf
      refine lv_istore (lv' := [(5, .int x5_7), (4, .int x4_3), (3, .int x3_1), (0, .ref (b + 33)), (1, .int x1), (2, .int x2)]) hx hb dX4_firstDay_56 hl (by decide) rfl (fun ls hl => ?_)
      refine lv_aload_n hx hb dX4_firstDay_58 rfl (lv_at hl 3 rfl) ?_
      refine x_getR X hK hw (cw_mem hC 33 (by decide)) (cw_S hC 33 rfl) cpX4 0 (by decide) rfl (cw_R hC 33 0 (by decide) rfl) tw_427 dX4_firstDay_59 ?_
      refine x_getR X hK hw (cw_mem hC 30 (by decide)) (cw_S hC 30 rfl) cpX1 0 (by decide) rfl (cw_R hC 30 0 (by decide) rfl) tw_407 dX4_firstDay_62 ?_
      refine x_getR X hK hw (cw_now hC).1.1 (cw_now hC).1.2 cpX8 1 (by decide) rfl (cw_now hC).2.2.1.1 tw_348 dX4_firstDay_65 ?_
      refine lv_astore (lv' := [(6, .ref (b + 14)), (5, .int x5_7), (4, .int x4_3), (3, .int x3_1), (0, .ref (b + 33)), (1, .int x1), (2, .int x2)]) hx hb dX4_firstDay_68 hl (by decide) rfl (fun ls hl => ?_)
      refine lv_aload hx hb dX4_firstDay_70 (lv_at hl 0 rfl) ?_
      refine lv_iload_n hx hb dX4_firstDay_72 rfl (lv_at hl 5 rfl) ?_
      obtain ⟨r_8, I_9, J_10, hq_11, hf⟩ := yb_b3_some hf
      refine x_calli X hK hw (c0_heardBy l D cz ev hC (st_course (cw_now hC)) hq_11) (st_course (cw_now hC)).1.1 (st_course (cw_now hC)).1.2 cpX0.1 vw_X4_117 ⟨Nat.le_of_ble_eq_true rfl, Nat.le_of_ble_eq_true rfl⟩ rfl rfl (Nat.le_of_ble_eq_true rfl) hl.1 ⟨Nat.le_refl _, Nat.le_refl _⟩ dX4_firstDay_73 (fun H locs hw => ?_)
      refine lv_istore (lv' := [(7, .int r_8), (6, .ref (b + 14)), (5, .int x5_7), (4, .int x4_3), (3, .int x3_1), (0, .ref (b + 33)), (1, .int x1), (2, .int x2)]) hx hb dX4_firstDay_76 hl (by decide) rfl (fun ls hl => ?_)
      refine lv_aload hx hb dX4_firstDay_78 (lv_at hl 1 rfl) ?_
      refine x_getI X hK hw (st_course (cw_now hC)).1.1 (st_course (cw_now hC)).1.2 cpX0 9 (by decide) rfl tw_319 dX4_firstDay_80 ?_
      refine lv_iload hx hb dX4_firstDay_83 (lv_at hl 0 rfl) ?_
      refine lv_if_ge (tgt := 92) hx hb dX4_firstDay_85 (by decide) (fun c_12 => ?_) (fun c_12 => ?_)
      · have hf := yb_pos c_12 hf
        refine lv_aload hx hb dX4_firstDay_92 (lv_at hl 1 rfl) ?_
        refine x_getR X hK hw (st_course (cw_now hC)).1.1 (st_course (cw_now hC)).1.2 cpX0 3 (by decide) rfl (ca_R (st_course (cw_now hC)) 3 (by decide)) tw_301 dX4_firstDay_94 ?_
        refine lv_iload hx hb dX4_firstDay_97 (lv_at hl 0 rfl) ?_
        obtain ⟨hi_13, hf⟩ := yb_ck_some hf
        refine x_iald X hK hw (ca_mem (st_course (cw_now hC)) 3 (by decide)) (ca_S (st_course (cw_now hC)) 3 rfl) hi_13 rfl dX4_firstDay_99 ?_
        refine lv_iadd hx hb dX4_firstDay_100 ?_
        refine lv_topi (fun x8_14 ex8_14 => ?_)
        have hf := yb_let_to ex8_14 hf
        refine lv_istore (lv' := [(8, .int x8_14), (7, .int r_8), (6, .ref (b + 14)), (5, .int x5_7), (4, .int x4_3), (3, .int x3_1), (0, .ref (b + 33)), (1, .int x1), (2, .int x2)]) hx hb dX4_firstDay_101 hl (by decide) rfl (fun ls hl => ?_)
        refine lv_iload hx hb dX4_firstDay_103 (lv_at hl 0 rfl) ?_
        refine lv_istore (lv' := [(9, .int x8_14), (8, .int x8_14), (7, .int r_8), (6, .ref (b + 14)), (5, .int x5_7), (4, .int x4_3), (3, .int x3_1), (0, .ref (b + 33)), (1, .int x1), (2, .int x2)]) hx hb dX4_firstDay_105 hl (by decide) rfl (fun ls hl => ?_)
        obtain ⟨q_29, I_30, J_31, hq_32, hf⟩ := yb_b3_some hf
        refine w4_firstDay_L107 hC X hK _ _ _ _ _ _ _ _ _ _ hq_32 hw (lv_sub hl [7, 8, 5, 4, 3, 0] rfl) (fun v hv => by rw [hv] at hf; exact hf) hfin (fun x_34 hx1 H locs ls hw hl => ?_)
        rw [hx1] at hf
        have hf := yb_sm_r hf
        refine lv_iconst (v := (-1 : Int32)) hx hb dX4_firstDay_172 (by decide) ?_
        exact yb_reti hfin hf hw dX4_firstDay_173
      · have hf := yb_neg c_12 hf
        refine lv_iconst (v := (0 : Int32)) hx hb dX4_firstDay_88 (by decide) ?_
        refine lv_goto (tgt := 100) hx hb dX4_firstDay_89 (by decide) ?_
        refine lv_iadd hx hb dX4_firstDay_100 ?_
        refine lv_topi (fun x8_35 ex8_35 => ?_)
        have hf := yb_let_to ex8_35 hf
        refine lv_istore (lv' := [(8, .int x8_35), (7, .int r_8), (6, .ref (b + 14)), (5, .int x5_7), (4, .int x4_3), (3, .int x3_1), (0, .ref (b + 33)), (1, .int x1), (2, .int x2)]) hx hb dX4_firstDay_101 hl (by decide) rfl (fun ls hl => ?_)
        refine lv_iload hx hb dX4_firstDay_103 (lv_at hl 0 rfl) ?_
        refine lv_istore (lv' := [(9, .int x8_35), (8, .int x8_35), (7, .int r_8), (6, .ref (b + 14)), (5, .int x5_7), (4, .int x4_3), (3, .int x3_1), (0, .ref (b + 33)), (1, .int x1), (2, .int x2)]) hx hb dX4_firstDay_105 hl (by decide) rfl (fun ls hl => ?_)
        obtain ⟨q_36, I_37, J_38, hq_39, hf⟩ := yb_b3_some hf
        refine w4_firstDay_L107 hC X hK _ _ _ _ _ _ _ _ _ _ hq_39 hw (lv_sub hl [7, 8, 5, 4, 3, 0] rfl) (fun v hv => by rw [hv] at hf; exact hf) hfin (fun x_41 hx1 H locs ls hw hl => ?_)
        rw [hx1] at hf
        have hf := yb_sm_r hf
        refine lv_iconst (v := (-1 : Int32)) hx hb dX4_firstDay_172 (by decide) ?_
        exact yb_reti hfin hf hw dX4_firstDay_173
    · have hf := yb_neg c_5 hf
      refine lv_aload_n hx hb dX4_firstDay_31 rfl (lv_at hl 2 rfl) ?_
      refine x_getR X hK hw (cw_mem hC 33 (by decide)) (cw_S hC 33 rfl) cpX4 4 (by decide) rfl (cw_R hC 33 4 (by decide) rfl) tw_431 dX4_firstDay_32 ?_
      refine lv_iload_n hx hb dX4_firstDay_35 rfl (lv_at hl 1 rfl) ?_
      refine lv_iload hx hb dX4_firstDay_36 (lv_at hl 0 rfl) ?_
      refine lv_iadd hx hb dX4_firstDay_38 ?_
      obtain ⟨hi_42, hf⟩ := yb_ck_some hf
      refine x_iald X hK hw (cw_mem hC 37 (by decide)) (cw_S hC 37 rfl) hi_42 rfl dX4_firstDay_39 ?_
      refine lv_if_ge (tgt := 45) hx hb dX4_firstDay_40 (by decide) (fun c_43 => ?_) (fun c_43 => ?_)
      · have hf := yb_pos c_43 hf
        refine lv_aload_n hx hb dX4_firstDay_45 rfl (lv_at hl 2 rfl) ?_
        refine x_getR X hK hw (cw_mem hC 33 (by decide)) (cw_S hC 33 rfl) cpX4 6 (by decide) rfl (cw_R hC 33 6 (by decide) rfl) tw_433 dX4_firstDay_46 ?_
        refine lv_aload_n hx hb dX4_firstDay_49 rfl (lv_at hl 2 rfl) ?_
        refine x_getR X hK hw (cw_mem hC 33 (by decide)) (cw_S hC 33 rfl) cpX4 3 (by decide) rfl (cw_R hC 33 3 (by decide) rfl) tw_430 dX4_firstDay_50 ?_
        refine lv_iload_n hx hb dX4_firstDay_53 rfl (lv_at hl 4 rfl) ?_
        refine x_iald X hK hw (cw_mem hC 36 (by decide)) (cw_S hC 36 rfl) hi_2 rfl dX4_firstDay_54 ?_
        obtain ⟨hi_44, hf⟩ := yb_ck_some hf
        refine x_iald X hK hw (cw_mem hC 39 (by decide)) (cw_S hC 39 rfl) hi_44 rfl dX4_firstDay_55 ?_
        refine lv_topi (fun x5_45 ex5_45 => ?_)
        have hf := yb_let_to ex5_45 hf
        refine lv_istore (lv' := [(5, .int x5_45), (4, .int x4_3), (3, .int x3_1), (0, .ref (b + 33)), (1, .int x1), (2, .int x2)]) hx hb dX4_firstDay_56 hl (by decide) rfl (fun ls hl => ?_)
        refine lv_aload_n hx hb dX4_firstDay_58 rfl (lv_at hl 3 rfl) ?_
        refine x_getR X hK hw (cw_mem hC 33 (by decide)) (cw_S hC 33 rfl) cpX4 0 (by decide) rfl (cw_R hC 33 0 (by decide) rfl) tw_427 dX4_firstDay_59 ?_
        refine x_getR X hK hw (cw_mem hC 30 (by decide)) (cw_S hC 30 rfl) cpX1 0 (by decide) rfl (cw_R hC 30 0 (by decide) rfl) tw_407 dX4_firstDay_62 ?_
        refine x_getR X hK hw (cw_now hC).1.1 (cw_now hC).1.2 cpX8 1 (by decide) rfl (cw_now hC).2.2.1.1 tw_348 dX4_firstDay_65 ?_
        refine lv_astore (lv' := [(6, .ref (b + 14)), (5, .int x5_45), (4, .int x4_3), (3, .int x3_1), (0, .ref (b + 33)), (1, .int x1), (2, .int x2)]) hx hb dX4_firstDay_68 hl (by decide) rfl (fun ls hl => ?_)
        refine lv_aload hx hb dX4_firstDay_70 (lv_at hl 0 rfl) ?_
        refine lv_iload_n hx hb dX4_firstDay_72 rfl (lv_at hl 5 rfl) ?_
        obtain ⟨r_46, I_47, J_48, hq_49, hf⟩ := yb_b3_some hf
        refine x_calli X hK hw (c0_heardBy l D cz ev hC (st_course (cw_now hC)) hq_49) (st_course (cw_now hC)).1.1 (st_course (cw_now hC)).1.2 cpX0.1 vw_X4_117 ⟨Nat.le_of_ble_eq_true rfl, Nat.le_of_ble_eq_true rfl⟩ rfl rfl (Nat.le_of_ble_eq_true rfl) hl.1 ⟨Nat.le_refl _, Nat.le_refl _⟩ dX4_firstDay_73 (fun H locs hw => ?_)
        refine lv_istore (lv' := [(7, .int r_46), (6, .ref (b + 14)), (5, .int x5_45), (4, .int x4_3), (3, .int x3_1), (0, .ref (b + 33)), (1, .int x1), (2, .int x2)]) hx hb dX4_firstDay_76 hl (by decide) rfl (fun ls hl => ?_)
        refine lv_aload hx hb dX4_firstDay_78 (lv_at hl 1 rfl) ?_
        refine x_getI X hK hw (st_course (cw_now hC)).1.1 (st_course (cw_now hC)).1.2 cpX0 9 (by decide) rfl tw_319 dX4_firstDay_80 ?_
        refine lv_iload hx hb dX4_firstDay_83 (lv_at hl 0 rfl) ?_
        refine lv_if_ge (tgt := 92) hx hb dX4_firstDay_85 (by decide) (fun c_50 => ?_) (fun c_50 => ?_)
        · have hf := yb_pos c_50 hf
          refine lv_aload hx hb dX4_firstDay_92 (lv_at hl 1 rfl) ?_
          refine x_getR X hK hw (st_course (cw_now hC)).1.1 (st_course (cw_now hC)).1.2 cpX0 3 (by decide) rfl (ca_R (st_course (cw_now hC)) 3 (by decide)) tw_301 dX4_firstDay_94 ?_
          refine lv_iload hx hb dX4_firstDay_97 (lv_at hl 0 rfl) ?_
          obtain ⟨hi_51, hf⟩ := yb_ck_some hf
          refine x_iald X hK hw (ca_mem (st_course (cw_now hC)) 3 (by decide)) (ca_S (st_course (cw_now hC)) 3 rfl) hi_51 rfl dX4_firstDay_99 ?_
          refine lv_iadd hx hb dX4_firstDay_100 ?_
          refine lv_topi (fun x8_52 ex8_52 => ?_)
          have hf := yb_let_to ex8_52 hf
          refine lv_istore (lv' := [(8, .int x8_52), (7, .int r_46), (6, .ref (b + 14)), (5, .int x5_45), (4, .int x4_3), (3, .int x3_1), (0, .ref (b + 33)), (1, .int x1), (2, .int x2)]) hx hb dX4_firstDay_101 hl (by decide) rfl (fun ls hl => ?_)
          refine lv_iload hx hb dX4_firstDay_103 (lv_at hl 0 rfl) ?_
          refine lv_istore (lv' := [(9, .int x8_52), (8, .int x8_52), (7, .int r_46), (6, .ref (b + 14)), (5, .int x5_45), (4, .int x4_3), (3, .int x3_1), (0, .ref (b + 33)), (1, .int x1), (2, .int x2)]) hx hb dX4_firstDay_105 hl (by decide) rfl (fun ls hl => ?_)
          obtain ⟨q_53, I_54, J_55, hq_56, hf⟩ := yb_b3_some hf
          refine w4_firstDay_L107 hC X hK _ _ _ _ _ _ _ _ _ _ hq_56 hw (lv_sub hl [7, 8, 5, 4, 3, 0] rfl) (fun v hv => by rw [hv] at hf; exact hf) hfin (fun x_58 hx1 H locs ls hw hl => ?_)
          rw [hx1] at hf
          have hf := yb_sm_r hf
          refine lv_iconst (v := (-1 : Int32)) hx hb dX4_firstDay_172 (by decide) ?_
          exact yb_reti hfin hf hw dX4_firstDay_173
        · have hf := yb_neg c_50 hf
          refine lv_iconst (v := (0 : Int32)) hx hb dX4_firstDay_88 (by decide) ?_
          refine lv_goto (tgt := 100) hx hb dX4_firstDay_89 (by decide) ?_
          refine lv_iadd hx hb dX4_firstDay_100 ?_
          refine lv_topi (fun x8_59 ex8_59 => ?_)
          have hf := yb_let_to ex8_59 hf
          refine lv_istore (lv' := [(8, .int x8_59), (7, .int r_46), (6, .ref (b + 14)), (5, .int x5_45), (4, .int x4_3), (3, .int x3_1), (0, .ref (b + 33)), (1, .int x1), (2, .int x2)]) hx hb dX4_firstDay_101 hl (by decide) rfl (fun ls hl => ?_)
          refine lv_iload hx hb dX4_firstDay_103 (lv_at hl 0 rfl) ?_
          refine lv_istore (lv' := [(9, .int x8_59), (8, .int x8_59), (7, .int r_46), (6, .ref (b + 14)), (5, .int x5_45), (4, .int x4_3), (3, .int x3_1), (0, .ref (b + 33)), (1, .int x1), (2, .int x2)]) hx hb dX4_firstDay_105 hl (by decide) rfl (fun ls hl => ?_)
          obtain ⟨q_60, I_61, J_62, hq_63, hf⟩ := yb_b3_some hf
          refine w4_firstDay_L107 hC X hK _ _ _ _ _ _ _ _ _ _ hq_63 hw (lv_sub hl [7, 8, 5, 4, 3, 0] rfl) (fun v hv => by rw [hv] at hf; exact hf) hfin (fun x_65 hx1 H locs ls hw hl => ?_)
          rw [hx1] at hf
          have hf := yb_sm_r hf
          refine lv_iconst (v := (-1 : Int32)) hx hb dX4_firstDay_172 (by decide) ?_
          exact yb_reti hfin hf hw dX4_firstDay_173
      · have hf := yb_neg c_43 hf
        refine lv_iconst (v := (-1 : Int32)) hx hb dX4_firstDay_43 (by decide) ?_
        exact yb_reti hfin hf hw dX4_firstDay_44
set_option maxHeartbeats 4000000 in
set_option maxRecDepth 100000 in
theorem w4_weigh_L18 {p : Program} {l : Launch} {e : Env} {s : State} {m : MethodId} {args : Array Value} {below : List Frame} {meth : Method} {c : Code} {Q : State → Prop} {D : va_G} {cz : Nat → ClassId} {A : Nat → Prop} {ev : Nat × Nat × Nat} {b : Nat} {L : List Nat} {S : ST} {Rf : RT} (hC : CW b L S Rf) (X : CallFix p m c cX4_weigh 5 s args gw RX4) (hK : KX D cz ev A s) {N : Nat} {x1 : Int32} {x2 : Int32} :
    ∀ (n : Nat) (x3 : Int32) (I : IT) (J : JT) (q : (Unit)) (I1 : IT) (J1 : JT) (H : Heap) (locs : List Loc) (ls : Array Slot), f4_weigh_L18 N b S Rf x1 x2 n x3 I J = some (q, I1, J1) → WX D cz A L S Rf s.heap I J H locs → lv_has ls 5 [(0, .ref (b + 33)), (1, .int x1), (2, .int x2), (3, .int x3)] →
    (∀ (H : Heap) (locs : List Loc) (ls : Array Slot), WX D cz A L S Rf s.heap I1 J1 H locs → lv_has ls 5 [] → W p l e (rmX 3 77) s m args below meth c H locs 0 0 Q (F0 m 90 ls [])) →
    W p l e (rmX 3 77) s m args below meth c H locs 0 0 Q (F0 m 18 ls []) := by
  have hx := X.1
  have hb := X.2.1
  intro n
  induction n with
  | zero =>
    intro x3 I J q I1 J1 H locs ls hf
    rw [f4_weigh_L18] at hf
    cases hf
  | succ n ih =>
    intro x3 I J q I1 J1 H locs ls hf hw hl hexit
    rw [f4_weigh_L18] at hf
    refine lv_iload_n hx hb dX4_weigh_18 rfl (lv_at hl 3 rfl) ?_
    refine lv_bipush (v := (65 : Int32)) hx hb dX4_weigh_19 (by decide) ?_
    refine lv_icmp_ge (tgt := 90) hx hb dX4_weigh_21 (by decide) (fun c_3 => ?_) (fun c_3 => ?_)
    · have hf := yb_pos c_3 hf
      obtain ⟨rfl, rfl, rfl⟩ := yb_inj hf
      exact hexit _ _ _ hw (lv_sub hl [] rfl)
    · have hf := yb_neg c_3 hf
      refine lv_iload_n hx hb dX4_weigh_24 rfl (lv_at hl 1 rfl) ?_
      refine lv_bipush (v := (65 : Int32)) hx hb dX4_weigh_25 (by decide) ?_
      refine lv_imul hx hb dX4_weigh_27 ?_
      refine lv_iload_n hx hb dX4_weigh_28 rfl (lv_at hl 3 rfl) ?_
      refine lv_iadd hx hb dX4_weigh_29 ?_
      refine lv_topi (fun x4_4 ex4_4 => ?_)
      have hf := yb_let_to ex4_4 hf
      refine lv_istore (lv' := [(4, .int x4_4), (0, .ref (b + 33)), (1, .int x1), (2, .int x2), (3, .int x3)]) hx hb dX4_weigh_30 hl (by decide) rfl (fun ls hl => ?_)
      refine lv_aload_n hx hb dX4_weigh_32 rfl (lv_at hl 1 rfl) ?_
      refine x_getR X hK hw (cw_mem hC 33 (by decide)) (cw_S hC 33 rfl) cpX4 4 (by decide) rfl (cw_R hC 33 4 (by decide) rfl) tw_431 dX4_weigh_33 ?_
      refine lv_iload hx hb dX4_weigh_36 (lv_at hl 0 rfl) ?_
      obtain ⟨hi_5, hf⟩ := yb_ck_some hf
      refine x_iald X hK hw (cw_mem hC 37 (by decide)) (cw_S hC 37 rfl) hi_5 rfl dX4_weigh_38 ?_
      refine lv_if_lt (tgt := 84) hx hb dX4_weigh_39 (by decide) (fun c_6 => ?_) (fun c_6 => ?_)
      · have hf := yb_pos c_6 hf
        obtain ⟨x3_7, ex3_7, hf⟩ := yb_let_ex hf
        refine lv_iinc (v := x3_7) (lv' := [(3, .int x3_7), (4, .int x4_4), (0, .ref (b + 33)), (1, .int x1), (2, .int x2)]) hx hb dX4_weigh_84 hl (k := 4) rfl (by rw [ex3_7]; rfl) (by decide) rfl (fun ls hl => ?_)
        refine lv_goto (tgt := 18) hx hb dX4_weigh_87 (by decide) ?_
        exact ih _ _ _ _ _ _ _ _ _ hf hw (lv_sub hl [2, 3, 4, 0] rfl) hexit
      · have hf := yb_neg c_6 hf
        refine lv_aload_n hx hb dX4_weigh_42 rfl (lv_at hl 1 rfl) ?_
        refine x_getR X hK hw (cw_mem hC 33 (by decide)) (cw_S hC 33 rfl) cpX4 0 (by decide) rfl (cw_R hC 33 0 (by decide) rfl) tw_427 dX4_weigh_43 ?_
        refine lv_aload_n hx hb dX4_weigh_46 rfl (lv_at hl 1 rfl) ?_
        refine x_getR X hK hw (cw_mem hC 33 (by decide)) (cw_S hC 33 rfl) cpX4 6 (by decide) rfl (cw_R hC 33 6 (by decide) rfl) tw_433 dX4_weigh_47 ?_
        refine lv_aload_n hx hb dX4_weigh_50 rfl (lv_at hl 1 rfl) ?_
        refine x_getR X hK hw (cw_mem hC 33 (by decide)) (cw_S hC 33 rfl) cpX4 3 (by decide) rfl (cw_R hC 33 3 (by decide) rfl) tw_430 dX4_weigh_51 ?_
        refine lv_iload_n hx hb dX4_weigh_54 rfl (lv_at hl 4 rfl) ?_
        obtain ⟨hi_8, hf⟩ := yb_ck_some hf
        refine x_iald X hK hw (cw_mem hC 36 (by decide)) (cw_S hC 36 rfl) hi_8 rfl dX4_weigh_55 ?_
        obtain ⟨hi_9, hf⟩ := yb_ck_some hf
        refine x_iald X hK hw (cw_mem hC 39 (by decide)) (cw_S hC 39 rfl) hi_9 rfl dX4_weigh_56 ?_
        refine lv_iconst (v := (0 : Int32)) hx hb dX4_weigh_57 (by decide) ?_
        obtain ⟨r_10, I_11, J_12, hq_13, hf⟩ := yb_b3_some hf
        refine x_callv X hK hw (c1_chargeOf l D cz ev hC hq_13) (cw_mem hC 30 (by decide)) (cw_S hC 30 rfl) cpX1.1 vw_X4_141 ⟨Nat.le_of_ble_eq_true rfl, Nat.le_of_ble_eq_true rfl⟩ rfl rfl (Nat.le_of_ble_eq_true rfl) hl.1 ⟨Nat.le_refl _, Nat.le_refl _⟩ dX4_weigh_58 (fun H locs hw => ?_)
        refine lv_aload_n hx hb dX4_weigh_61 rfl (lv_at hl 1 rfl) ?_
        refine x_getR X hK hw (cw_mem hC 33 (by decide)) (cw_S hC 33 rfl) cpX4 5 (by decide) rfl (cw_R hC 33 5 (by decide) rfl) tw_432 dX4_weigh_62 ?_
        refine lv_iload hx hb dX4_weigh_65 (lv_at hl 0 rfl) ?_
        refine lv_aload_n hx hb dX4_weigh_67 rfl (lv_at hl 1 rfl) ?_
        refine x_getR X hK hw (cw_mem hC 33 (by decide)) (cw_S hC 33 rfl) cpX4 0 (by decide) rfl (cw_R hC 33 0 (by decide) rfl) tw_427 dX4_weigh_68 ?_
        refine lv_iload_n hx hb dX4_weigh_71 rfl (lv_at hl 2 rfl) ?_
        refine lv_aload_n hx hb dX4_weigh_72 rfl (lv_at hl 1 rfl) ?_
        refine x_getR X hK hw (cw_mem hC 33 (by decide)) (cw_S hC 33 rfl) cpX4 4 (by decide) rfl (cw_R hC 33 4 (by decide) rfl) tw_431 dX4_weigh_73 ?_
        refine lv_iload hx hb dX4_weigh_76 (lv_at hl 0 rfl) ?_
        refine x_iald X hK hw (cw_mem hC 37 (by decide)) (cw_S hC 37 rfl) hi_5 rfl dX4_weigh_78 ?_
        refine lv_iload_n hx hb dX4_weigh_79 rfl (lv_at hl 3 rfl) ?_
        obtain ⟨r_14, I_15, J_16, hq_17, hf⟩ := yb_b3_some hf
        refine x_calli X hK hw (c1_rightOf l D cz ev hC hq_17) (cw_mem hC 30 (by decide)) (cw_S hC 30 rfl) cpX1.1 vw_X4_145 ⟨Nat.le_of_ble_eq_true rfl, Nat.le_of_ble_eq_true rfl⟩ rfl rfl (Nat.le_of_ble_eq_true rfl) hl.1 ⟨Nat.le_refl _, Nat.le_refl _⟩ dX4_weigh_80 (fun H locs hw => ?_)
        refine x_iast X hK hw (cw_mem hC 38 (by decide)) (cw_S hC 38 rfl) hi_5 rfl dX4_weigh_83 (fun H locs hw => ?_)
        obtain ⟨I_18, eI_18, hf⟩ := yb_let_ex hf
        have hw := yb_wI eI_18 hw
        obtain ⟨x3_19, ex3_19, hf⟩ := yb_let_ex hf
        refine lv_iinc (v := x3_19) (lv' := [(3, .int x3_19), (4, .int x4_4), (0, .ref (b + 33)), (1, .int x1), (2, .int x2)]) hx hb dX4_weigh_84 hl (k := 4) rfl (by rw [ex3_19]; rfl) (by decide) rfl (fun ls hl => ?_)
        refine lv_goto (tgt := 18) hx hb dX4_weigh_87 (by decide) ?_
        exact ih _ _ _ _ _ _ _ _ _ hf hw (lv_sub hl [2, 3, 4, 0] rfl) hexit
set_option maxHeartbeats 4000000 in
set_option maxRecDepth 100000 in
theorem c4_weigh (l : Launch) (D : va_G) (cz : Nat → ClassId) (ev : Nat × Nat × Nat) {b : Nat} {L : List Nat} {S : ST} {Rf : RT} (hC : CW b L S Rf) {N : Nat} {x1 : Int32} {I : IT} {J : JT} {r : Unit} {I1 : IT} {J1 : JT} (hf : f4_weigh N b S Rf x1 I J = some (r, I1, J1)) : MTv l D cz ev yX4_weigh cX4_weigh 5 (none) 3 77 [.ref (b + 33), .int x1] L S Rf I J r I1 J1 := by
  unfold f4_weigh at hf
  refine MTv_of (by decide) (Nat.le_of_ble_eq_true rfl) ?_
  intro p e s m args below meth c Q ls X hK hw hl hfin
  have X : CallFix p m c cX4_weigh 5 s args gw RX4 := X
  have hx := X.1
  have hb := X.2.1
  have hl : lv_has ls 5 [(0, .ref (b + 33)), (1, .int x1)] := hl
  refine lv_aload_n hx hb dX4_weigh_0 rfl (lv_at hl 0 rfl) ?_
  refine x_getR X hK hw (cw_mem hC 33 (by decide)) (cw_S hC 33 rfl) cpX4 0 (by decide) rfl (cw_R hC 33 0 (by decide) rfl) tw_427 dX4_weigh_1 ?_
  refine x_getR X hK hw (cw_mem hC 30 (by decide)) (cw_S hC 30 rfl) cpX1 0 (by decide) rfl (cw_R hC 30 0 (by decide) rfl) tw_407 dX4_weigh_4 ?_
  refine x_getR X hK hw (cw_now hC).1.1 (cw_now hC).1.2 cpX8 1 (by decide) rfl (cw_now hC).2.2.1.1 tw_348 dX4_weigh_7 ?_
  refine x_getR X hK hw (st_course (cw_now hC)).1.1 (st_course (cw_now hC)).1.2 cpX0 1 (by decide) rfl (ca_R (st_course (cw_now hC)) 1 (by decide)) tw_292 dX4_weigh_10 ?_
  refine lv_iload_n hx hb dX4_weigh_13 rfl (lv_at hl 1 rfl) ?_
  obtain ⟨hi_1, hf⟩ := yb_ck_some hf
  refine x_iald X hK hw (ca_mem (st_course (cw_now hC)) 1 (by decide)) (ca_S (st_course (cw_now hC)) 1 rfl) hi_1 rfl dX4_weigh_14 ?_
  refine lv_topi (fun x2_2 ex2_2 => ?_)
  have hf := yb_let_to ex2_2 hf
  refine lv_istore_n (lv' := [(2, .int x2_2), (0, .ref (b + 33)), (1, .int x1)]) hx hb dX4_weigh_15 rfl hl (by decide) rfl (fun ls hl => ?_)
  refine lv_iconst (v := (1 : Int32)) hx hb dX4_weigh_16 (by decide) ?_
  refine lv_istore_n (lv' := [(3, .int (1 : Int32)), (2, .int x2_2), (0, .ref (b + 33)), (1, .int x1)]) hx hb dX4_weigh_17 rfl hl (by decide) rfl (fun ls hl => ?_)
  obtain ⟨q_20, I_21, J_22, hq_23, hf⟩ := yb_b3_some hf
  refine w4_weigh_L18 hC X hK _ _ _ _ _ _ _ _ _ _ hq_23 hw (lv_sub hl [2, 3, 1, 0] rfl) (fun H locs ls hw hl => ?_)
  exact yb_retv hfin hf hw dX4_weigh_90
set_option maxHeartbeats 4000000 in
set_option maxRecDepth 100000 in
theorem w4_placeAll_L21 {p : Program} {l : Launch} {e : Env} {s : State} {m : MethodId} {args : Array Value} {below : List Frame} {meth : Method} {c : Code} {Q : State → Prop} {D : va_G} {cz : Nat → ClassId} {A : Nat → Prop} {ev : Nat × Nat × Nat} {b : Nat} {L : List Nat} {S : ST} {Rf : RT} (hC : CW b L S Rf) (X : CallFix p m c cX4_placeAll 3 s args gw RX4) (hK : KX D cz ev A s) {N : Nat} {x1 : Int32} :
    ∀ (n : Nat) (x2 : Int32) (I : IT) (J : JT) (q : (Unit)) (I1 : IT) (J1 : JT) (H : Heap) (locs : List Loc) (ls : Array Slot), f4_placeAll_L21 N b S Rf x1 n x2 I J = some (q, I1, J1) → WX D cz A L S Rf s.heap I J H locs → lv_has ls 3 [(0, .ref (b + 33)), (1, .int x1), (2, .int x2)] →
    (∀ (H : Heap) (locs : List Loc) (ls : Array Slot), WX D cz A L S Rf s.heap I1 J1 H locs → lv_has ls 3 [(0, .ref (b + 33)), (1, .int x1)] → W p l e (rmX 4 102) s m args below meth c H locs 0 0 Q (F0 m 50 ls [])) →
    W p l e (rmX 4 102) s m args below meth c H locs 0 0 Q (F0 m 21 ls []) := by
  have hx := X.1
  have hb := X.2.1
  intro n
  induction n with
  | zero =>
    intro x2 I J q I1 J1 H locs ls hf
    rw [f4_placeAll_L21] at hf
    cases hf
  | succ n ih =>
    intro x2 I J q I1 J1 H locs ls hf hw hl hexit
    rw [f4_placeAll_L21] at hf
    refine lv_iload_n hx hb dX4_placeAll_21 rfl (lv_at hl 2 rfl) ?_
    refine lv_bipush (v := (65 : Int32)) hx hb dX4_placeAll_22 (by decide) ?_
    refine lv_icmp_ge (tgt := 50) hx hb dX4_placeAll_24 (by decide) (fun c_2 => ?_) (fun c_2 => ?_)
    · have hf := yb_pos c_2 hf
      obtain ⟨rfl, rfl, rfl⟩ := yb_inj hf
      exact hexit _ _ _ hw (lv_sub hl [0, 1] rfl)
    · have hf := yb_neg c_2 hf
      refine lv_aload_n hx hb dX4_placeAll_27 rfl (lv_at hl 0 rfl) ?_
      refine x_getR X hK hw (cw_mem hC 33 (by decide)) (cw_S hC 33 rfl) cpX4 4 (by decide) rfl (cw_R hC 33 4 (by decide) rfl) tw_431 dX4_placeAll_28 ?_
      refine lv_iload_n hx hb dX4_placeAll_31 rfl (lv_at hl 1 rfl) ?_
      refine lv_bipush (v := (65 : Int32)) hx hb dX4_placeAll_32 (by decide) ?_
      refine lv_imul hx hb dX4_placeAll_34 ?_
      refine lv_iload_n hx hb dX4_placeAll_35 rfl (lv_at hl 2 rfl) ?_
      refine lv_iadd hx hb dX4_placeAll_36 ?_
      refine lv_aload_n hx hb dX4_placeAll_37 rfl (lv_at hl 0 rfl) ?_
      refine lv_iload_n hx hb dX4_placeAll_38 rfl (lv_at hl 1 rfl) ?_
      refine lv_iload_n hx hb dX4_placeAll_39 rfl (lv_at hl 2 rfl) ?_
      obtain ⟨r_3, I_4, J_5, hq_6, hf⟩ := yb_b3_some hf
      refine x_calli X hK hw (c4_firstDay l D cz ev hC hq_6) (cw_mem hC 33 (by decide)) (cw_S hC 33 rfl) cpX4.1 vw_X4_113 ⟨Nat.le_of_ble_eq_true rfl, Nat.le_of_ble_eq_true rfl⟩ rfl rfl (Nat.le_of_ble_eq_true rfl) hl.1 ⟨Nat.le_refl _, Nat.le_refl _⟩ dX4_placeAll_40 (fun H locs hw => ?_)
      obtain ⟨hi_7, hf⟩ := yb_ck_some hf
      refine x_iast X hK hw (cw_mem hC 37 (by decide)) (cw_S hC 37 rfl) hi_7 rfl dX4_placeAll_43 (fun H locs hw => ?_)
      obtain ⟨I_8, eI_8, hf⟩ := yb_let_ex hf
      have hw := yb_wI eI_8 hw
      obtain ⟨x2_9, ex2_9, hf⟩ := yb_let_ex hf
      refine lv_iinc (v := x2_9) (lv' := [(2, .int x2_9), (0, .ref (b + 33)), (1, .int x1)]) hx hb dX4_placeAll_44 hl (k := 2) rfl (by rw [ex2_9]; rfl) (by decide) rfl (fun ls hl => ?_)
      refine lv_goto (tgt := 21) hx hb dX4_placeAll_47 (by decide) ?_
      exact ih _ _ _ _ _ _ _ _ _ hf hw (lv_sub hl [1, 2, 0] rfl) hexit
set_option maxHeartbeats 4000000 in
set_option maxRecDepth 100000 in
theorem w4_placeAll_L2 {p : Program} {l : Launch} {e : Env} {s : State} {m : MethodId} {args : Array Value} {below : List Frame} {meth : Method} {c : Code} {Q : State → Prop} {D : va_G} {cz : Nat → ClassId} {A : Nat → Prop} {ev : Nat × Nat × Nat} {b : Nat} {L : List Nat} {S : ST} {Rf : RT} (hC : CW b L S Rf) (X : CallFix p m c cX4_placeAll 3 s args gw RX4) (hK : KX D cz ev A s) {N : Nat} :
    ∀ (n : Nat) (x1 : Int32) (I : IT) (J : JT) (q : (Unit)) (I1 : IT) (J1 : JT) (H : Heap) (locs : List Loc) (ls : Array Slot), f4_placeAll_L2 N b S Rf n x1 I J = some (q, I1, J1) → WX D cz A L S Rf s.heap I J H locs → lv_has ls 3 [(0, .ref (b + 33)), (1, .int x1)] →
    (∀ (H : Heap) (locs : List Loc) (ls : Array Slot), WX D cz A L S Rf s.heap I1 J1 H locs → lv_has ls 3 [] → W p l e (rmX 4 102) s m args below meth c H locs 0 0 Q (F0 m 61 ls [])) →
    W p l e (rmX 4 102) s m args below meth c H locs 0 0 Q (F0 m 2 ls []) := by
  have hx := X.1
  have hb := X.2.1
  intro n
  induction n with
  | zero =>
    intro x1 I J q I1 J1 H locs ls hf
    rw [f4_placeAll_L2] at hf
    cases hf
  | succ n ih =>
    intro x1 I J q I1 J1 H locs ls hf hw hl hexit
    rw [f4_placeAll_L2] at hf
    refine lv_iload_n hx hb dX4_placeAll_2 rfl (lv_at hl 1 rfl) ?_
    refine lv_aload_n hx hb dX4_placeAll_3 rfl (lv_at hl 0 rfl) ?_
    refine x_getR X hK hw (cw_mem hC 33 (by decide)) (cw_S hC 33 rfl) cpX4 0 (by decide) rfl (cw_R hC 33 0 (by decide) rfl) tw_427 dX4_placeAll_4 ?_
    refine x_getR X hK hw (cw_mem hC 30 (by decide)) (cw_S hC 30 rfl) cpX1 0 (by decide) rfl (cw_R hC 30 0 (by decide) rfl) tw_407 dX4_placeAll_7 ?_
    refine x_getR X hK hw (cw_now hC).1.1 (cw_now hC).1.2 cpX8 0 (by decide) rfl (cw_now hC).2.1.1 tw_345 dX4_placeAll_10 ?_
    refine x_getI X hK hw (st_town (cw_now hC)).1.1 (st_town (cw_now hC)).1.2 cpX9 13 (by decide) rfl tw_241 dX4_placeAll_13 ?_
    refine lv_icmp_ge (tgt := 61) hx hb dX4_placeAll_16 (by decide) (fun c_1 => ?_) (fun c_1 => ?_)
    · have hf := yb_pos c_1 hf
      obtain ⟨rfl, rfl, rfl⟩ := yb_inj hf
      exact hexit _ _ _ hw (lv_sub hl [] rfl)
    · have hf := yb_neg c_1 hf
      refine lv_iconst (v := (1 : Int32)) hx hb dX4_placeAll_19 (by decide) ?_
      refine lv_istore_n (lv' := [(2, .int (1 : Int32)), (0, .ref (b + 33)), (1, .int x1)]) hx hb dX4_placeAll_20 rfl hl (by decide) rfl (fun ls hl => ?_)
      obtain ⟨q_10, I_11, J_12, hq_13, hf⟩ := yb_b3_some hf
      refine w4_placeAll_L21 hC X hK _ _ _ _ _ _ _ _ _ _ hq_13 hw (lv_sub hl [1, 2, 0] rfl) (fun H locs ls hw hl => ?_)
      refine lv_aload_n hx hb dX4_placeAll_50 rfl (lv_at hl 0 rfl) ?_
      refine lv_iload_n hx hb dX4_placeAll_51 rfl (lv_at hl 1 rfl) ?_
      obtain ⟨r_14, I_15, J_16, hq_17, hf⟩ := yb_b3_some hf
      refine x_callv X hK hw (c4_weigh l D cz ev hC hq_17) (cw_mem hC 33 (by decide)) (cw_S hC 33 rfl) cpX4.1 vw_X4_100 ⟨Nat.le_of_ble_eq_true rfl, Nat.le_of_ble_eq_true rfl⟩ rfl rfl (Nat.le_of_ble_eq_true rfl) hl.1 ⟨Nat.le_refl _, Nat.le_refl _⟩ dX4_placeAll_52 (fun H locs hw => ?_)
      obtain ⟨x1_18, ex1_18, hf⟩ := yb_let_ex hf
      refine lv_iinc (v := x1_18) (lv' := [(1, .int x1_18), (0, .ref (b + 33))]) hx hb dX4_placeAll_55 hl (k := 1) rfl (by rw [ex1_18]; rfl) (by decide) rfl (fun ls hl => ?_)
      refine lv_goto (tgt := 2) hx hb dX4_placeAll_58 (by decide) ?_
      exact ih _ _ _ _ _ _ _ _ _ hf hw (lv_sub hl [1, 0] rfl) hexit
set_option maxHeartbeats 4000000 in
set_option maxRecDepth 100000 in
theorem c4_placeAll (l : Launch) (D : va_G) (cz : Nat → ClassId) (ev : Nat × Nat × Nat) {b : Nat} {L : List Nat} {S : ST} {Rf : RT} (hC : CW b L S Rf) {N : Nat} {I : IT} {J : JT} {r : Unit} {I1 : IT} {J1 : JT} (hf : f4_placeAll N b S Rf I J = some (r, I1, J1)) : MTv l D cz ev yX4_placeAll cX4_placeAll 3 (none) 4 102 [.ref (b + 33)] L S Rf I J r I1 J1 := by
  unfold f4_placeAll at hf
  refine MTv_of (by decide) (Nat.le_of_ble_eq_true rfl) ?_
  intro p e s m args below meth c Q ls X hK hw hl hfin
  have X : CallFix p m c cX4_placeAll 3 s args gw RX4 := X
  have hx := X.1
  have hb := X.2.1
  have hl : lv_has ls 3 [(0, .ref (b + 33))] := hl
  refine lv_iconst (v := (0 : Int32)) hx hb dX4_placeAll_0 (by decide) ?_
  refine lv_istore_n (lv' := [(1, .int (0 : Int32)), (0, .ref (b + 33))]) hx hb dX4_placeAll_1 rfl hl (by decide) rfl (fun ls hl => ?_)
  obtain ⟨q_19, I_20, J_21, hq_22, hf⟩ := yb_b3_some hf
  refine w4_placeAll_L2 hC X hK _ _ _ _ _ _ _ _ _ _ hq_22 hw (lv_sub hl [1, 0] rfl) (fun H locs ls hw hl => ?_)
  exact yb_retv hfin hf hw dX4_placeAll_61
set_option maxHeartbeats 4000000 in
set_option maxRecDepth 100000 in
theorem w4_keepIfBetter_L37 {p : Program} {l : Launch} {e : Env} {s : State} {m : MethodId} {args : Array Value} {below : List Frame} {meth : Method} {c : Code} {Q : State → Prop} {D : va_G} {cz : Nat → ClassId} {A : Nat → Prop} {ev : Nat × Nat × Nat} {b : Nat} {L : List Nat} {S : ST} {Rf : RT} (hC : CW b L S Rf) (X : CallFix p m c cX4_keepIfBetter 4 s args gw RX4) (hK : KX D cz ev A s) {N : Nat} :
    ∀ (n : Nat) (x3 : Int32) (I : IT) (J : JT) (q : (Unit)) (I1 : IT) (J1 : JT) (H : Heap) (locs : List Loc) (ls : Array Slot), f4_keepIfBetter_L37 N b S Rf n x3 I J = some (q, I1, J1) → WX D cz A L S Rf s.heap I J H locs → lv_has ls 4 [(0, .ref (b + 33)), (3, .int x3)] →
    (∀ (H : Heap) (locs : List Loc) (ls : Array Slot), WX D cz A L S Rf s.heap I1 J1 H locs → lv_has ls 4 [] → W p l e (rmX 0 0) s m args below meth c H locs 0 0 Q (F0 m 97 ls [])) →
    W p l e (rmX 0 0) s m args below meth c H locs 0 0 Q (F0 m 37 ls []) := by
  have hx := X.1
  have hb := X.2.1
  intro n
  induction n with
  | zero =>
    intro x3 I J q I1 J1 H locs ls hf
    rw [f4_keepIfBetter_L37] at hf
    cases hf
  | succ n ih =>
    intro x3 I J q I1 J1 H locs ls hf hw hl hexit
    rw [f4_keepIfBetter_L37] at hf
    refine lv_iload_n hx hb dX4_keepIfBetter_37 rfl (lv_at hl 1 rfl) ?_
    refine lv_aload_n hx hb dX4_keepIfBetter_38 rfl (lv_at hl 0 rfl) ?_
    refine x_getI X hK hw (cw_mem hC 33 (by decide)) (cw_S hC 33 rfl) cpX4 14 (by decide) rfl tw_441 dX4_keepIfBetter_39 ?_
    refine lv_icmp_ge (tgt := 97) hx hb dX4_keepIfBetter_42 (by decide) (fun c_5 => ?_) (fun c_5 => ?_)
    · have hf := yb_pos c_5 hf
      obtain ⟨rfl, rfl, rfl⟩ := yb_inj hf
      exact hexit _ _ _ hw (lv_sub hl [] rfl)
    · have hf := yb_neg c_5 hf
      refine lv_iload_n hx hb dX4_keepIfBetter_45 rfl (lv_at hl 1 rfl) ?_
      refine lv_iconst (v := (4 : Int32)) hx hb dX4_keepIfBetter_46 (by decide) ?_
      refine lv_icmp_ge (tgt := 97) hx hb dX4_keepIfBetter_47 (by decide) (fun c_6 => ?_) (fun c_6 => ?_)
      · have hf := yb_pos c_6 hf
        obtain ⟨rfl, rfl, rfl⟩ := yb_inj hf
        exact hexit _ _ _ hw (lv_sub hl [] rfl)
      · have hf := yb_neg c_6 hf
        refine lv_aload_n hx hb dX4_keepIfBetter_50 rfl (lv_at hl 0 rfl) ?_
        refine x_getR X hK hw (cw_mem hC 33 (by decide)) (cw_S hC 33 rfl) cpX4 11 (by decide) rfl (cw_R hC 33 11 (by decide) rfl) tw_438 dX4_keepIfBetter_51 ?_
        refine lv_iload_n hx hb dX4_keepIfBetter_54 rfl (lv_at hl 1 rfl) ?_
        refine lv_aload_n hx hb dX4_keepIfBetter_55 rfl (lv_at hl 0 rfl) ?_
        refine x_getR X hK hw (cw_mem hC 33 (by decide)) (cw_S hC 33 rfl) cpX4 6 (by decide) rfl (cw_R hC 33 6 (by decide) rfl) tw_433 dX4_keepIfBetter_56 ?_
        refine lv_aload_n hx hb dX4_keepIfBetter_59 rfl (lv_at hl 0 rfl) ?_
        refine x_getR X hK hw (cw_mem hC 33 (by decide)) (cw_S hC 33 rfl) cpX4 7 (by decide) rfl (cw_R hC 33 7 (by decide) rfl) tw_434 dX4_keepIfBetter_60 ?_
        refine lv_iload_n hx hb dX4_keepIfBetter_63 rfl (lv_at hl 1 rfl) ?_
        obtain ⟨hi_7, hf⟩ := yb_ck_some hf
        refine x_iald X hK hw (cw_mem hC 40 (by decide)) (cw_S hC 40 rfl) hi_7 rfl dX4_keepIfBetter_64 ?_
        obtain ⟨hi_8, hf⟩ := yb_ck_some hf
        refine x_iald X hK hw (cw_mem hC 39 (by decide)) (cw_S hC 39 rfl) hi_8 rfl dX4_keepIfBetter_65 ?_
        refine x_iast X hK hw (cw_mem hC 44 (by decide)) (cw_S hC 44 rfl) hi_7 rfl dX4_keepIfBetter_66 (fun H locs hw => ?_)
        obtain ⟨I_9, eI_9, hf⟩ := yb_let_ex hf
        have hw := yb_wI eI_9 hw
        refine lv_aload_n hx hb dX4_keepIfBetter_67 rfl (lv_at hl 0 rfl) ?_
        refine x_getR X hK hw (cw_mem hC 33 (by decide)) (cw_S hC 33 rfl) cpX4 12 (by decide) rfl (cw_R hC 33 12 (by decide) rfl) tw_439 dX4_keepIfBetter_68 ?_
        refine lv_iload_n hx hb dX4_keepIfBetter_71 rfl (lv_at hl 1 rfl) ?_
        refine lv_aload_n hx hb dX4_keepIfBetter_72 rfl (lv_at hl 0 rfl) ?_
        refine x_getR X hK hw (cw_mem hC 33 (by decide)) (cw_S hC 33 rfl) cpX4 8 (by decide) rfl (cw_R hC 33 8 (by decide) rfl) tw_435 dX4_keepIfBetter_73 ?_
        refine lv_iload_n hx hb dX4_keepIfBetter_76 rfl (lv_at hl 1 rfl) ?_
        refine x_iald X hK hw (cw_mem hC 41 (by decide)) (cw_S hC 41 rfl) hi_7 rfl dX4_keepIfBetter_77 ?_
        refine x_iast X hK hw (cw_mem hC 45 (by decide)) (cw_S hC 45 rfl) hi_7 rfl dX4_keepIfBetter_78 (fun H locs hw => ?_)
        obtain ⟨I_10, eI_10, hf⟩ := yb_let_ex hf
        have hw := yb_wI eI_10 hw
        refine lv_aload_n hx hb dX4_keepIfBetter_79 rfl (lv_at hl 0 rfl) ?_
        refine x_getR X hK hw (cw_mem hC 33 (by decide)) (cw_S hC 33 rfl) cpX4 13 (by decide) rfl (cw_R hC 33 13 (by decide) rfl) tw_440 dX4_keepIfBetter_80 ?_
        refine lv_iload_n hx hb dX4_keepIfBetter_83 rfl (lv_at hl 1 rfl) ?_
        refine lv_aload_n hx hb dX4_keepIfBetter_84 rfl (lv_at hl 0 rfl) ?_
        refine x_getR X hK hw (cw_mem hC 33 (by decide)) (cw_S hC 33 rfl) cpX4 9 (by decide) rfl (cw_R hC 33 9 (by decide) rfl) tw_436 dX4_keepIfBetter_85 ?_
        refine lv_iload_n hx hb dX4_keepIfBetter_88 rfl (lv_at hl 1 rfl) ?_
        refine x_iald X hK hw (cw_mem hC 42 (by decide)) (cw_S hC 42 rfl) hi_7 rfl dX4_keepIfBetter_89 ?_
        refine x_iast X hK hw (cw_mem hC 46 (by decide)) (cw_S hC 46 rfl) hi_7 rfl dX4_keepIfBetter_90 (fun H locs hw => ?_)
        obtain ⟨I_11, eI_11, hf⟩ := yb_let_ex hf
        have hw := yb_wI eI_11 hw
        obtain ⟨x3_12, ex3_12, hf⟩ := yb_let_ex hf
        refine lv_iinc (v := x3_12) (lv' := [(3, .int x3_12), (0, .ref (b + 33))]) hx hb dX4_keepIfBetter_91 hl (k := 1) rfl (by rw [ex3_12]; rfl) (by decide) rfl (fun ls hl => ?_)
        refine lv_goto (tgt := 37) hx hb dX4_keepIfBetter_94 (by decide) ?_
        exact ih _ _ _ _ _ _ _ _ _ hf hw (lv_sub hl [1, 0] rfl) hexit
set_option maxHeartbeats 4000000 in
set_option maxRecDepth 100000 in
theorem c4_keepIfBetter (l : Launch) (D : va_G) (cz : Nat → ClassId) (ev : Nat × Nat × Nat) {b : Nat} {L : List Nat} {S : ST} {Rf : RT} (hC : CW b L S Rf) {N : Nat} {x1 : Int32} {x2 : Int32} {I : IT} {J : JT} {r : Unit} {I1 : IT} {J1 : JT} (hf : f4_keepIfBetter N b S Rf x1 x2 I J = some (r, I1, J1)) : MTv l D cz ev yX4_keepIfBetter cX4_keepIfBetter 4 (none) 0 0 [.ref (b + 33), .int x1, .int x2] L S Rf I J r I1 J1 := by
  unfold f4_keepIfBetter at hf
  refine MTv_of (by decide) (Nat.le_of_ble_eq_true rfl) ?_
  intro p e s m args below meth c Q ls X hK hw hl hfin
  have X : CallFix p m c cX4_keepIfBetter 4 s args gw RX4 := X
  have hx := X.1
  have hb := X.2.1
  have hl : lv_has ls 4 [(0, .ref (b + 33)), (1, .int x1), (2, .int x2)] := hl
  refine lv_iload_n hx hb dX4_keepIfBetter_0 rfl (lv_at hl 1 rfl) ?_
  refine lv_aload_n hx hb dX4_keepIfBetter_1 rfl (lv_at hl 0 rfl) ?_
  refine x_getI X hK hw (cw_mem hC 33 (by decide)) (cw_S hC 33 rfl) cpX4 15 (by decide) rfl tw_442 dX4_keepIfBetter_2 ?_
  refine lv_icmp_lt (tgt := 24) hx hb dX4_keepIfBetter_5 (by decide) (fun c_1 => ?_) (fun c_1 => ?_)
  · have hf := yb_pos c_1 hf
    exact yb_retv hfin hf hw dX4_keepIfBetter_24
  · have hf := yb_neg c_1 hf
    refine lv_iload_n hx hb dX4_keepIfBetter_8 rfl (lv_at hl 1 rfl) ?_
    refine lv_aload_n hx hb dX4_keepIfBetter_9 rfl (lv_at hl 0 rfl) ?_
    refine x_getI X hK hw (cw_mem hC 33 (by decide)) (cw_S hC 33 rfl) cpX4 15 (by decide) rfl tw_442 dX4_keepIfBetter_10 ?_
    refine lv_icmp_ne (tgt := 25) hx hb dX4_keepIfBetter_13 (by decide) (fun c_2 => ?_) (fun c_2 => ?_)
    · have hf := yb_neg c_2 hf
      refine lv_aload_n hx hb dX4_keepIfBetter_25 rfl (lv_at hl 0 rfl) ?_
      refine lv_iload_n hx hb dX4_keepIfBetter_26 rfl (lv_at hl 1 rfl) ?_
      refine x_putI X hK hw (cw_mem hC 33 (by decide)) (cw_S hC 33 rfl) cpX4 15 (by decide) rfl rfl rfl tw_442 dX4_keepIfBetter_27 (fun H locs hw => ?_)
      obtain ⟨I_3, eI_3, hf⟩ := yb_let_ex hf
      have hw := yb_wI eI_3 hw
      refine lv_aload_n hx hb dX4_keepIfBetter_30 rfl (lv_at hl 0 rfl) ?_
      refine lv_iload_n hx hb dX4_keepIfBetter_31 rfl (lv_at hl 2 rfl) ?_
      refine x_putI X hK hw (cw_mem hC 33 (by decide)) (cw_S hC 33 rfl) cpX4 16 (by decide) rfl rfl rfl tw_443 dX4_keepIfBetter_32 (fun H locs hw => ?_)
      obtain ⟨I_4, eI_4, hf⟩ := yb_let_ex hf
      have hw := yb_wI eI_4 hw
      refine lv_iconst (v := (0 : Int32)) hx hb dX4_keepIfBetter_35 (by decide) ?_
      refine lv_istore_n (lv' := [(3, .int (0 : Int32)), (0, .ref (b + 33)), (1, .int x1), (2, .int x2)]) hx hb dX4_keepIfBetter_36 rfl hl (by decide) rfl (fun ls hl => ?_)
      obtain ⟨q_13, I_14, J_15, hq_16, hf⟩ := yb_b3_some hf
      refine w4_keepIfBetter_L37 hC X hK _ _ _ _ _ _ _ _ _ _ hq_16 hw (lv_sub hl [1, 0] rfl) (fun H locs ls hw hl => ?_)
      exact yb_retv hfin hf hw dX4_keepIfBetter_97
    · have hf := yb_pos c_2 hf
      refine lv_iload_n hx hb dX4_keepIfBetter_16 rfl (lv_at hl 2 rfl) ?_
      refine lv_aload_n hx hb dX4_keepIfBetter_17 rfl (lv_at hl 0 rfl) ?_
      refine x_getI X hK hw (cw_mem hC 33 (by decide)) (cw_S hC 33 rfl) cpX4 16 (by decide) rfl tw_443 dX4_keepIfBetter_18 ?_
      refine lv_icmp_lt (tgt := 25) hx hb dX4_keepIfBetter_21 (by decide) (fun c_17 => ?_) (fun c_17 => ?_)
      · have hf := yb_pos c_17 hf
        refine lv_aload_n hx hb dX4_keepIfBetter_25 rfl (lv_at hl 0 rfl) ?_
        refine lv_iload_n hx hb dX4_keepIfBetter_26 rfl (lv_at hl 1 rfl) ?_
        refine x_putI X hK hw (cw_mem hC 33 (by decide)) (cw_S hC 33 rfl) cpX4 15 (by decide) rfl rfl rfl tw_442 dX4_keepIfBetter_27 (fun H locs hw => ?_)
        obtain ⟨I_18, eI_18, hf⟩ := yb_let_ex hf
        have hw := yb_wI eI_18 hw
        refine lv_aload_n hx hb dX4_keepIfBetter_30 rfl (lv_at hl 0 rfl) ?_
        refine lv_iload_n hx hb dX4_keepIfBetter_31 rfl (lv_at hl 2 rfl) ?_
        refine x_putI X hK hw (cw_mem hC 33 (by decide)) (cw_S hC 33 rfl) cpX4 16 (by decide) rfl rfl rfl tw_443 dX4_keepIfBetter_32 (fun H locs hw => ?_)
        obtain ⟨I_19, eI_19, hf⟩ := yb_let_ex hf
        have hw := yb_wI eI_19 hw
        refine lv_iconst (v := (0 : Int32)) hx hb dX4_keepIfBetter_35 (by decide) ?_
        refine lv_istore_n (lv' := [(3, .int (0 : Int32)), (0, .ref (b + 33)), (1, .int x1), (2, .int x2)]) hx hb dX4_keepIfBetter_36 rfl hl (by decide) rfl (fun ls hl => ?_)
        obtain ⟨q_20, I_21, J_22, hq_23, hf⟩ := yb_b3_some hf
        refine w4_keepIfBetter_L37 hC X hK _ _ _ _ _ _ _ _ _ _ hq_23 hw (lv_sub hl [1, 0] rfl) (fun H locs ls hw hl => ?_)
        exact yb_retv hfin hf hw dX4_keepIfBetter_97
      · have hf := yb_neg c_17 hf
        exact yb_retv hfin hf hw dX4_keepIfBetter_24
set_option maxHeartbeats 4000000 in
set_option maxRecDepth 100000 in
theorem c6_put (l : Launch) (D : va_G) (cz : Nat → ClassId) (ev : Nat × Nat × Nat) {b : Nat} {L : List Nat} {S : ST} {Rf : RT} (hC : CW b L S Rf) {x1 : Int32} {I : IT} {J : JT} {r : Unit} {I1 : IT} {J1 : JT} (hf : f6_put b S Rf x1 I J = some (r, I1, J1)) : MTv l D cz ev yX6_put cX6_put 2 (none) 0 0 [.ref (b + 62), .int x1] L S Rf I J r I1 J1 := by
  unfold f6_put at hf
  refine MTv_of (by decide) (Nat.le_of_ble_eq_true rfl) ?_
  intro p e s m args below meth c Q ls X hK hw hl hfin
  have X : CallFix p m c cX6_put 2 s args gw RX6 := X
  have hx := X.1
  have hb := X.2.1
  have hl : lv_has ls 2 [(0, .ref (b + 62)), (1, .int x1)] := hl
  refine lv_aload_n hx hb dX6_put_0 rfl (lv_at hl 0 rfl) ?_
  refine x_getI X hK hw (cw_mem hC 62 (by decide)) (cw_S hC 62 rfl) cpX6 2 (by decide) rfl tw_546 dX6_put_1 ?_
  refine lv_sipush (v := (400 : Int32)) hx hb dX6_put_4 (by decide) ?_
  refine lv_icmp_ge (tgt := 30) hx hb dX6_put_7 (by decide) (fun c_1 => ?_) (fun c_1 => ?_)
  · have hf := yb_pos c_1 hf
    exact yb_retv hfin hf hw dX6_put_30
  · have hf := yb_neg c_1 hf
    refine lv_aload_n hx hb dX6_put_10 rfl (lv_at hl 0 rfl) ?_
    refine x_getR X hK hw (cw_mem hC 62 (by decide)) (cw_S hC 62 rfl) cpX6 1 (by decide) rfl (cw_R hC 62 1 (by decide) rfl) tw_545 dX6_put_11 ?_
    refine lv_aload_n hx hb dX6_put_14 rfl (lv_at hl 0 rfl) ?_
    refine x_getI X hK hw (cw_mem hC 62 (by decide)) (cw_S hC 62 rfl) cpX6 2 (by decide) rfl tw_546 dX6_put_15 ?_
    refine lv_iload_n hx hb dX6_put_18 rfl (lv_at hl 1 rfl) ?_
    obtain ⟨hi_2, hf⟩ := yb_ck_some hf
    refine x_iast X hK hw (cw_mem hC 63 (by decide)) (cw_S hC 63 rfl) hi_2 rfl dX6_put_19 (fun H locs hw => ?_)
    obtain ⟨I_3, eI_3, hf⟩ := yb_let_ex hf
    have hw := yb_wI eI_3 hw
    refine lv_aload_n hx hb dX6_put_20 rfl (lv_at hl 0 rfl) ?_
    refine lv_dup hx hb dX6_put_21 rfl ?_
    refine x_getI X hK hw (cw_mem hC 62 (by decide)) (cw_S hC 62 rfl) cpX6 2 (by decide) rfl tw_546 dX6_put_22 ?_
    refine lv_iconst (v := (1 : Int32)) hx hb dX6_put_25 (by decide) ?_
    refine lv_iadd hx hb dX6_put_26 ?_
    refine x_putI X hK hw (cw_mem hC 62 (by decide)) (cw_S hC 62 rfl) cpX6 2 (by decide) rfl rfl rfl tw_546 dX6_put_27 (fun H locs hw => ?_)
    obtain ⟨I_4, eI_4, hf⟩ := yb_let_ex hf
    have hw := yb_wI eI_4 hw
    exact yb_retv hfin hf hw dX6_put_30
set_option maxHeartbeats 4000000 in
set_option maxRecDepth 100000 in
theorem c6_readsValue (l : Launch) (D : va_G) (cz : Nat → ClassId) (ev : Nat × Nat × Nat) {b : Nat} {L : List Nat} {S : ST} {Rf : RT} (hC : CW b L S Rf) {N : Nat} {I : IT} {J : JT} {r : Int32} {I1 : IT} {J1 : JT} (hf : f6_readsValue N b S Rf I J = some (r, I1, J1)) : MTi l D cz ev yX6_readsValue cX6_readsValue 4 (some .boolean) 5 110 [.ref (b + 62)] L S Rf I J r I1 J1 := by
  unfold f6_readsValue at hf
  refine MTz_of (by decide) (Nat.le_of_ble_eq_true rfl) ?_
  intro p e s m args below meth c Q ls X hK hw hl hfin
  have X : CallFix p m c cX6_readsValue 4 s args gw RX6 := X
  have hx := X.1
  have hb := X.2.1
  have hl : lv_has ls 4 [(0, .ref (b + 62))] := hl
  refine lv_aload_n hx hb dX6_readsValue_0 rfl (lv_at hl 0 rfl) ?_
  refine x_getR X hK hw (cw_mem hC 62 (by decide)) (cw_S hC 62 rfl) cpX6 0 (by decide) rfl (cw_R hC 62 0 (by decide) rfl) tw_544 dX6_readsValue_1 ?_
  refine x_getI X hK hw (cw_mem hC 2 (by decide)) (cw_S hC 2 rfl) cpX3 2 (by decide) rfl tw_159 dX6_readsValue_4 ?_
  refine lv_topi (fun x1_1 ex1_1 => ?_)
  have hf := yb_let_to ex1_1 hf
  refine lv_istore_n (lv' := [(1, .int x1_1), (0, .ref (b + 62))]) hx hb dX6_readsValue_7 rfl hl (by decide) rfl (fun ls hl => ?_)
  refine lv_aload_n hx hb dX6_readsValue_8 rfl (lv_at hl 1 rfl) ?_
  refine x_getR X hK hw (cw_mem hC 62 (by decide)) (cw_S hC 62 rfl) cpX6 0 (by decide) rfl (cw_R hC 62 0 (by decide) rfl) tw_544 dX6_readsValue_9 ?_
  obtain ⟨r_2, I_3, J_4, hq_5, hf⟩ := yb_b3_some hf
  refine x_calli X hK hw (c3_atDigit l D cz ev hC hq_5) (cw_mem hC 2 (by decide)) (cw_S hC 2 rfl) cpX3.1 vw_X6_112 ⟨Nat.le_of_ble_eq_true rfl, Nat.le_of_ble_eq_true rfl⟩ rfl rfl (Nat.le_of_ble_eq_true rfl) hl.1 ⟨Nat.le_refl _, Nat.le_refl _⟩ dX6_readsValue_12 (fun H locs hw => ?_)
  refine lv_if_eq (tgt := 35) hx hb dX6_readsValue_15 (by decide) (fun c_6 => ?_) (fun c_6 => ?_)
  · have hf := yb_pos c_6 hf
    refine lv_aload_n hx hb dX6_readsValue_35 rfl (lv_at hl 1 rfl) ?_
    refine x_getR X hK hw (cw_mem hC 62 (by decide)) (cw_S hC 62 rfl) cpX6 0 (by decide) rfl (cw_R hC 62 0 (by decide) rfl) tw_544 dX6_readsValue_36 ?_
    obtain ⟨r_7, I_8, J_9, hq_10, hf⟩ := yb_b3_some hf
    refine x_calli X hK hw (c3_word l D cz ev hC hq_10) (cw_mem hC 2 (by decide)) (cw_S hC 2 rfl) cpX3.1 vw_X6_37 ⟨Nat.le_of_ble_eq_true rfl, Nat.le_of_ble_eq_true rfl⟩ rfl rfl (Nat.le_of_ble_eq_true rfl) hl.1 ⟨Nat.le_refl _, Nat.le_refl _⟩ dX6_readsValue_39 (fun H locs hw => ?_)
    refine lv_istore_n (lv' := [(3, .int r_7), (1, .int x1_1), (0, .ref (b + 62))]) hx hb dX6_readsValue_42 rfl hl (by decide) rfl (fun ls hl => ?_)
    refine lv_iload_n hx hb dX6_readsValue_43 rfl (lv_at hl 0 rfl) ?_
    refine lv_if_lt (tgt := 53) hx hb dX6_readsValue_44 (by decide) (fun c_11 => ?_) (fun c_11 => ?_)
    · have hf := yb_pos c_11 hf
      refine lv_aload_n hx hb dX6_readsValue_53 rfl (lv_at hl 2 rfl) ?_
      refine x_getR X hK hw (cw_mem hC 62 (by decide)) (cw_S hC 62 rfl) cpX6 0 (by decide) rfl (cw_R hC 62 0 (by decide) rfl) tw_544 dX6_readsValue_54 ?_
      refine lv_iconst (v := (0 : Int32)) hx hb dX6_readsValue_57 (by decide) ?_
      obtain ⟨r_12, I_13, J_14, hq_15, hf⟩ := yb_b3_some hf
      refine x_calli X hK hw (c3_fail l D cz ev hC hq_15) (cw_mem hC 2 (by decide)) (cw_S hC 2 rfl) cpX3.1 vw_X6_43 ⟨Nat.le_of_ble_eq_true rfl, Nat.le_of_ble_eq_true rfl⟩ rfl rfl (Nat.le_of_ble_eq_true rfl) hl.1 ⟨Nat.le_refl _, Nat.le_refl _⟩ dX6_readsValue_58 (fun H locs hw => ?_)
      obtain ⟨hz_16, hf⟩ := yb_ck_some hf
      exact yb_retz hfin hz_16 hf hw dX6_readsValue_61
    · have hf := yb_neg c_11 hf
      refine lv_iload_n hx hb dX6_readsValue_47 rfl (lv_at hl 0 rfl) ?_
      refine lv_bipush (v := (12 : Int32)) hx hb dX6_readsValue_48 (by decide) ?_
      refine lv_icmp_lt (tgt := 62) hx hb dX6_readsValue_50 (by decide) (fun c_17 => ?_) (fun c_17 => ?_)
      · have hf := yb_pos c_17 hf
        refine lv_aload_n hx hb dX6_readsValue_62 rfl (lv_at hl 2 rfl) ?_
        refine x_getR X hK hw (cw_mem hC 62 (by decide)) (cw_S hC 62 rfl) cpX6 0 (by decide) rfl (cw_R hC 62 0 (by decide) rfl) tw_544 dX6_readsValue_63 ?_
        obtain ⟨r_18, I_19, J_20, hq_21, hf⟩ := yb_b3_some hf
        refine x_callv X hK hw (c3_passWord l D cz ev hC hq_21) (cw_mem hC 2 (by decide)) (cw_S hC 2 rfl) cpX3.1 vw_X6_47 ⟨Nat.le_of_ble_eq_true rfl, Nat.le_of_ble_eq_true rfl⟩ rfl rfl (Nat.le_of_ble_eq_true rfl) hl.1 ⟨Nat.le_refl _, Nat.le_refl _⟩ dX6_readsValue_66 (fun H locs hw => ?_)
        refine lv_ldc (v := (100000 : Int32)) hx hb X.2.2.2.1 (X.2.2.2.2 _ tw_804) dX6_readsValue_69 ?_
        refine lv_iload_n hx hb dX6_readsValue_71 rfl (lv_at hl 0 rfl) ?_
        refine lv_iadd hx hb dX6_readsValue_72 ?_
        refine lv_topi (fun x2_22 ex2_22 => ?_)
        have hf := yb_let_to ex2_22 hf
        refine lv_istore_n (lv' := [(2, .int x2_22), (3, .int r_7), (1, .int x1_1), (0, .ref (b + 62))]) hx hb dX6_readsValue_73 rfl hl (by decide) rfl (fun ls hl => ?_)
        refine lv_aload_n hx hb dX6_readsValue_74 rfl (lv_at hl 3 rfl) ?_
        refine x_getI X hK hw (cw_mem hC 62 (by decide)) (cw_S hC 62 rfl) cpX6 3 (by decide) rfl tw_547 dX6_readsValue_75 ?_
        refine lv_bipush (v := (60 : Int32)) hx hb dX6_readsValue_78 (by decide) ?_
        refine lv_icmp_lt (tgt := 93) hx hb dX6_readsValue_80 (by decide) (fun c_23 => ?_) (fun c_23 => ?_)
        · have hf := yb_pos c_23 hf
          refine lv_aload_n hx hb dX6_readsValue_93 rfl (lv_at hl 3 rfl) ?_
          refine lv_dup hx hb dX6_readsValue_94 rfl ?_
          refine x_getI X hK hw (cw_mem hC 62 (by decide)) (cw_S hC 62 rfl) cpX6 3 (by decide) rfl tw_547 dX6_readsValue_95 ?_
          refine lv_iconst (v := (1 : Int32)) hx hb dX6_readsValue_98 (by decide) ?_
          refine lv_iadd hx hb dX6_readsValue_99 ?_
          refine x_putI X hK hw (cw_mem hC 62 (by decide)) (cw_S hC 62 rfl) cpX6 3 (by decide) rfl rfl rfl tw_547 dX6_readsValue_100 (fun H locs hw => ?_)
          obtain ⟨I_24, eI_24, hf⟩ := yb_let_ex hf
          have hw := yb_wI eI_24 hw
          refine lv_aload_n hx hb dX6_readsValue_103 rfl (lv_at hl 3 rfl) ?_
          refine lv_iload_n hx hb dX6_readsValue_104 rfl (lv_at hl 0 rfl) ?_
          obtain ⟨r_25, I_26, J_27, hq_28, hf⟩ := yb_b3_some hf
          refine x_callv X hK hw (c6_put l D cz ev hC hq_28) (cw_mem hC 62 (by decide)) (cw_S hC 62 rfl) cpX6.1 vw_X6_59 ⟨Nat.le_of_ble_eq_true rfl, Nat.le_of_ble_eq_true rfl⟩ rfl rfl (Nat.le_of_ble_eq_true rfl) hl.1 ⟨Nat.le_refl _, Nat.le_refl _⟩ dX6_readsValue_105 (fun H locs hw => ?_)
          refine lv_iconst (v := (1 : Int32)) hx hb dX6_readsValue_108 (by decide) ?_
          exact yb_retz hfin (by decide) hf hw dX6_readsValue_109
        · have hf := yb_neg c_23 hf
          refine lv_aload_n hx hb dX6_readsValue_83 rfl (lv_at hl 3 rfl) ?_
          refine x_getR X hK hw (cw_mem hC 62 (by decide)) (cw_S hC 62 rfl) cpX6 0 (by decide) rfl (cw_R hC 62 0 (by decide) rfl) tw_544 dX6_readsValue_84 ?_
          refine lv_iload_n hx hb dX6_readsValue_87 rfl (lv_at hl 2 rfl) ?_
          refine lv_iconst (v := (3 : Int32)) hx hb dX6_readsValue_88 (by decide) ?_
          obtain ⟨r_29, I_30, J_31, hq_32, hf⟩ := yb_b3_some hf
          refine x_calli X hK hw (c3_failAt l D cz ev hC hq_32) (cw_mem hC 2 (by decide)) (cw_S hC 2 rfl) cpX3.1 vw_X6_121 ⟨Nat.le_of_ble_eq_true rfl, Nat.le_of_ble_eq_true rfl⟩ rfl rfl (Nat.le_of_ble_eq_true rfl) hl.1 ⟨Nat.le_refl _, Nat.le_refl _⟩ dX6_readsValue_89 (fun H locs hw => ?_)
          obtain ⟨hz_33, hf⟩ := yb_ck_some hf
          exact yb_retz hfin hz_33 hf hw dX6_readsValue_92
      · have hf := yb_neg c_17 hf
        refine lv_aload_n hx hb dX6_readsValue_53 rfl (lv_at hl 2 rfl) ?_
        refine x_getR X hK hw (cw_mem hC 62 (by decide)) (cw_S hC 62 rfl) cpX6 0 (by decide) rfl (cw_R hC 62 0 (by decide) rfl) tw_544 dX6_readsValue_54 ?_
        refine lv_iconst (v := (0 : Int32)) hx hb dX6_readsValue_57 (by decide) ?_
        obtain ⟨r_34, I_35, J_36, hq_37, hf⟩ := yb_b3_some hf
        refine x_calli X hK hw (c3_fail l D cz ev hC hq_37) (cw_mem hC 2 (by decide)) (cw_S hC 2 rfl) cpX3.1 vw_X6_43 ⟨Nat.le_of_ble_eq_true rfl, Nat.le_of_ble_eq_true rfl⟩ rfl rfl (Nat.le_of_ble_eq_true rfl) hl.1 ⟨Nat.le_refl _, Nat.le_refl _⟩ dX6_readsValue_58 (fun H locs hw => ?_)
        obtain ⟨hz_38, hf⟩ := yb_ck_some hf
        exact yb_retz hfin hz_38 hf hw dX6_readsValue_61
  · have hf := yb_neg c_6 hf
    refine lv_aload_n hx hb dX6_readsValue_18 rfl (lv_at hl 1 rfl) ?_
    refine x_getR X hK hw (cw_mem hC 62 (by decide)) (cw_S hC 62 rfl) cpX6 0 (by decide) rfl (cw_R hC 62 0 (by decide) rfl) tw_544 dX6_readsValue_19 ?_
    refine lv_iconst (v := (0 : Int32)) hx hb dX6_readsValue_22 (by decide) ?_
    refine lv_ldc (v := (99999 : Int32)) hx hb X.2.2.2.1 (X.2.2.2.2 _ tw_802) dX6_readsValue_23 ?_
    obtain ⟨r_39, I_40, J_41, hq_42, hf⟩ := yb_b3_some hf
    refine x_calli X hK hw (c3_number l D cz ev hC hq_42) (cw_mem hC 2 (by decide)) (cw_S hC 2 rfl) cpX3.1 vw_X6_116 ⟨Nat.le_of_ble_eq_true rfl, Nat.le_of_ble_eq_true rfl⟩ rfl rfl (Nat.le_of_ble_eq_true rfl) hl.1 ⟨Nat.le_refl _, Nat.le_refl _⟩ dX6_readsValue_25 (fun H locs hw => ?_)
    refine lv_istore_n (lv' := [(2, .int r_39), (1, .int x1_1), (0, .ref (b + 62))]) hx hb dX6_readsValue_28 rfl hl (by decide) rfl (fun ls hl => ?_)
    refine lv_iload_n hx hb dX6_readsValue_29 rfl (lv_at hl 0 rfl) ?_
    refine lv_if_ge (tgt := 74) hx hb dX6_readsValue_30 (by decide) (fun c_43 => ?_) (fun c_43 => ?_)
    · have hf := yb_pos c_43 hf
      refine lv_aload_n hx hb dX6_readsValue_74 rfl (lv_at hl 2 rfl) ?_
      refine x_getI X hK hw (cw_mem hC 62 (by decide)) (cw_S hC 62 rfl) cpX6 3 (by decide) rfl tw_547 dX6_readsValue_75 ?_
      refine lv_bipush (v := (60 : Int32)) hx hb dX6_readsValue_78 (by decide) ?_
      refine lv_icmp_lt (tgt := 93) hx hb dX6_readsValue_80 (by decide) (fun c_44 => ?_) (fun c_44 => ?_)
      · have hf := yb_pos c_44 hf
        refine lv_aload_n hx hb dX6_readsValue_93 rfl (lv_at hl 2 rfl) ?_
        refine lv_dup hx hb dX6_readsValue_94 rfl ?_
        refine x_getI X hK hw (cw_mem hC 62 (by decide)) (cw_S hC 62 rfl) cpX6 3 (by decide) rfl tw_547 dX6_readsValue_95 ?_
        refine lv_iconst (v := (1 : Int32)) hx hb dX6_readsValue_98 (by decide) ?_
        refine lv_iadd hx hb dX6_readsValue_99 ?_
        refine x_putI X hK hw (cw_mem hC 62 (by decide)) (cw_S hC 62 rfl) cpX6 3 (by decide) rfl rfl rfl tw_547 dX6_readsValue_100 (fun H locs hw => ?_)
        obtain ⟨I_45, eI_45, hf⟩ := yb_let_ex hf
        have hw := yb_wI eI_45 hw
        refine lv_aload_n hx hb dX6_readsValue_103 rfl (lv_at hl 2 rfl) ?_
        refine lv_iload_n hx hb dX6_readsValue_104 rfl (lv_at hl 0 rfl) ?_
        obtain ⟨r_46, I_47, J_48, hq_49, hf⟩ := yb_b3_some hf
        refine x_callv X hK hw (c6_put l D cz ev hC hq_49) (cw_mem hC 62 (by decide)) (cw_S hC 62 rfl) cpX6.1 vw_X6_59 ⟨Nat.le_of_ble_eq_true rfl, Nat.le_of_ble_eq_true rfl⟩ rfl rfl (Nat.le_of_ble_eq_true rfl) hl.1 ⟨Nat.le_refl _, Nat.le_refl _⟩ dX6_readsValue_105 (fun H locs hw => ?_)
        refine lv_iconst (v := (1 : Int32)) hx hb dX6_readsValue_108 (by decide) ?_
        exact yb_retz hfin (by decide) hf hw dX6_readsValue_109
      · have hf := yb_neg c_44 hf
        refine lv_aload_n hx hb dX6_readsValue_83 rfl (lv_at hl 2 rfl) ?_
        refine x_getR X hK hw (cw_mem hC 62 (by decide)) (cw_S hC 62 rfl) cpX6 0 (by decide) rfl (cw_R hC 62 0 (by decide) rfl) tw_544 dX6_readsValue_84 ?_
        refine lv_iload_n hx hb dX6_readsValue_87 rfl (lv_at hl 1 rfl) ?_
        refine lv_iconst (v := (3 : Int32)) hx hb dX6_readsValue_88 (by decide) ?_
        obtain ⟨r_50, I_51, J_52, hq_53, hf⟩ := yb_b3_some hf
        refine x_calli X hK hw (c3_failAt l D cz ev hC hq_53) (cw_mem hC 2 (by decide)) (cw_S hC 2 rfl) cpX3.1 vw_X6_121 ⟨Nat.le_of_ble_eq_true rfl, Nat.le_of_ble_eq_true rfl⟩ rfl rfl (Nat.le_of_ble_eq_true rfl) hl.1 ⟨Nat.le_refl _, Nat.le_refl _⟩ dX6_readsValue_89 (fun H locs hw => ?_)
        obtain ⟨hz_54, hf⟩ := yb_ck_some hf
        exact yb_retz hfin hz_54 hf hw dX6_readsValue_92
    · have hf := yb_neg c_43 hf
      refine lv_iconst (v := (0 : Int32)) hx hb dX6_readsValue_33 (by decide) ?_
      exact yb_retz hfin (by decide) hf hw dX6_readsValue_34
set_option maxHeartbeats 4000000 in
set_option maxRecDepth 100000 in
theorem c6_timesOrBy (l : Launch) (D : va_G) (cz : Nat → ClassId) (ev : Nat × Nat × Nat) {b : Nat} {L : List Nat} {S : ST} {Rf : RT} (hC : CW b L S Rf) {I : IT} {J : JT} {r : Int32} {I1 : IT} {J1 : JT} (hf : f6_timesOrBy b S Rf I J = some (r, I1, J1)) : MTi l D cz ev yX6_timesOrBy cX6_timesOrBy 1 (some .int) 1 20 [.ref (b + 62)] L S Rf I J r I1 J1 := by
  unfold f6_timesOrBy at hf
  refine MTi_of (by decide) (Nat.le_of_ble_eq_true rfl) ?_
  intro p e s m args below meth c Q ls X hK hw hl hfin
  have X : CallFix p m c cX6_timesOrBy 1 s args gw RX6 := X
  have hx := X.1
  have hb := X.2.1
  have hl : lv_has ls 1 [(0, .ref (b + 62))] := hl
  refine lv_aload_n hx hb dX6_timesOrBy_0 rfl (lv_at hl 0 rfl) ?_
  refine x_getR X hK hw (cw_mem hC 62 (by decide)) (cw_S hC 62 rfl) cpX6 0 (by decide) rfl (cw_R hC 62 0 (by decide) rfl) tw_544 dX6_timesOrBy_1 ?_
  obtain ⟨r_1, I_2, J_3, hq_4, hf⟩ := yb_b3_some hf
  refine x_calli X hK hw (c3_sign l D cz ev hC hq_4) (cw_mem hC 2 (by decide)) (cw_S hC 2 rfl) cpX3.1 vw_X6_63 ⟨Nat.le_of_ble_eq_true rfl, Nat.le_of_ble_eq_true rfl⟩ rfl rfl (Nat.le_of_ble_eq_true rfl) hl.1 ⟨Nat.le_refl _, Nat.le_refl _⟩ dX6_timesOrBy_4 (fun H locs hw => ?_)
  by_cases c_5 : r_1 = (37 : Int32)
  · have hf := yb_pos c_5 hf
    refine lv_lookup (off := 39) (tgt := 46) hx hb dX6_timesOrBy_7 (by decide) (by rw [c_5]; rfl) (by decide) ?_
    refine lv_ldc (v := (200004 : Int32)) hx hb X.2.2.2.1 (X.2.2.2.2 _ tw_817) dX6_timesOrBy_46 ?_
    exact yb_reti hfin hf hw dX6_timesOrBy_48
  have hf := yb_neg c_5 hf
  by_cases c_6 : r_1 = (42 : Int32)
  · have hf := yb_pos c_6 hf
    refine lv_lookup (off := 33) (tgt := 40) hx hb dX6_timesOrBy_7 (by decide) (by rw [c_6]; rfl) (by decide) ?_
    refine lv_ldc (v := (200002 : Int32)) hx hb X.2.2.2.1 (X.2.2.2.2 _ tw_815) dX6_timesOrBy_40 ?_
    exact yb_reti hfin hf hw dX6_timesOrBy_42
  have hf := yb_neg c_6 hf
  by_cases c_7 : r_1 = (47 : Int32)
  · have hf := yb_pos c_7 hf
    refine lv_lookup (off := 36) (tgt := 43) hx hb dX6_timesOrBy_7 (by decide) (by rw [c_7]; rfl) (by decide) ?_
    refine lv_ldc (v := (200003 : Int32)) hx hb X.2.2.2.1 (X.2.2.2.2 _ tw_816) dX6_timesOrBy_43 ?_
    exact yb_reti hfin hf hw dX6_timesOrBy_45
  have hf := yb_neg c_7 hf
  refine lv_lookup (off := 42) (tgt := 49) hx hb dX6_timesOrBy_7 (by decide) (by show Op.lookupswitch.offset [(37, 39), (42, 33), (47, 36)] 42 _ = 42; rw [lv_osw (a := 37) c_5 rfl, lv_osw (a := 42) c_6 rfl, lv_osw (a := 47) c_7 rfl]; rfl) (by decide) ?_
  refine lv_iconst (v := (-1 : Int32)) hx hb dX6_timesOrBy_49 (by decide) ?_
  exact yb_reti hfin hf hw dX6_timesOrBy_50
set_option maxHeartbeats 4000000 in
set_option maxRecDepth 100000 in
theorem c6_plusOrMinus (l : Launch) (D : va_G) (cz : Nat → ClassId) (ev : Nat × Nat × Nat) {b : Nat} {L : List Nat} {S : ST} {Rf : RT} (hC : CW b L S Rf) {I : IT} {J : JT} {r : Int32} {I1 : IT} {J1 : JT} (hf : f6_plusOrMinus b S Rf I J = some (r, I1, J1)) : MTi l D cz ev yX6_plusOrMinus cX6_plusOrMinus 1 (some .int) 1 20 [.ref (b + 62)] L S Rf I J r I1 J1 := by
  unfold f6_plusOrMinus at hf
  refine MTi_of (by decide) (Nat.le_of_ble_eq_true rfl) ?_
  intro p e s m args below meth c Q ls X hK hw hl hfin
  have X : CallFix p m c cX6_plusOrMinus 1 s args gw RX6 := X
  have hx := X.1
  have hb := X.2.1
  have hl : lv_has ls 1 [(0, .ref (b + 62))] := hl
  refine lv_aload_n hx hb dX6_plusOrMinus_0 rfl (lv_at hl 0 rfl) ?_
  refine x_getR X hK hw (cw_mem hC 62 (by decide)) (cw_S hC 62 rfl) cpX6 0 (by decide) rfl (cw_R hC 62 0 (by decide) rfl) tw_544 dX6_plusOrMinus_1 ?_
  obtain ⟨r_1, I_2, J_3, hq_4, hf⟩ := yb_b3_some hf
  refine x_calli X hK hw (c3_sign l D cz ev hC hq_4) (cw_mem hC 2 (by decide)) (cw_S hC 2 rfl) cpX3.1 vw_X6_63 ⟨Nat.le_of_ble_eq_true rfl, Nat.le_of_ble_eq_true rfl⟩ rfl rfl (Nat.le_of_ble_eq_true rfl) hl.1 ⟨Nat.le_refl _, Nat.le_refl _⟩ dX6_plusOrMinus_4 (fun H locs hw => ?_)
  by_cases c_5 : r_1 = (43 : Int32)
  · have hf := yb_pos c_5 hf
    refine lv_lookup (off := 25) (tgt := 32) hx hb dX6_plusOrMinus_7 (by decide) (by rw [c_5]; rfl) (by decide) ?_
    refine lv_ldc (v := (200000 : Int32)) hx hb X.2.2.2.1 (X.2.2.2.2 _ tw_822) dX6_plusOrMinus_32 ?_
    exact yb_reti hfin hf hw dX6_plusOrMinus_34
  have hf := yb_neg c_5 hf
  by_cases c_6 : r_1 = (45 : Int32)
  · have hf := yb_pos c_6 hf
    refine lv_lookup (off := 28) (tgt := 35) hx hb dX6_plusOrMinus_7 (by decide) (by rw [c_6]; rfl) (by decide) ?_
    refine lv_ldc (v := (200001 : Int32)) hx hb X.2.2.2.1 (X.2.2.2.2 _ tw_823) dX6_plusOrMinus_35 ?_
    exact yb_reti hfin hf hw dX6_plusOrMinus_37
  have hf := yb_neg c_6 hf
  refine lv_lookup (off := 31) (tgt := 38) hx hb dX6_plusOrMinus_7 (by decide) (by show Op.lookupswitch.offset [(43, 25), (45, 28)] 31 _ = 31; rw [lv_osw (a := 43) c_5 rfl, lv_osw (a := 45) c_6 rfl]; rfl) (by decide) ?_
  refine lv_iconst (v := (-1 : Int32)) hx hb dX6_plusOrMinus_38 (by decide) ?_
  exact yb_reti hfin hf hw dX6_plusOrMinus_39
set_option maxHeartbeats 4000000 in
set_option maxRecDepth 100000 in
theorem w6_readsSum_L6 {p : Program} {l : Launch} {e : Env} {s : State} {m : MethodId} {args : Array Value} {below : List Frame} {meth : Method} {c : Code} {Q : State → Prop} {D : va_G} {cz : Nat → ClassId} {A : Nat → Prop} {ev : Nat × Nat × Nat} {b : Nat} {L : List Nat} {S : ST} {Rf : RT} (hC : CW b L S Rf) (X : CallFix p m c cX6_readsSum 4 s args gw RX6) (hK : KX D cz ev A s) {N : Nat} {rM : Int32} {IM : IT} {JM : JT} :
    ∀ (n : Nat) (x1 : Int32) (x2 : Int32) (x3 : Int32) (I : IT) (J : JT) (q : (Int32 ⊕ (Unit))) (I1 : IT) (J1 : JT) (H : Heap) (locs : List Loc) (ls : Array Slot), f6_readsSum_L6 N b S Rf n x1 x2 x3 I J = some (q, I1, J1) → WX D cz A L S Rf s.heap I J H locs → lv_has ls 4 [(0, .ref (b + 62)), (1, .int x1), (2, .int x2), (3, .int x3)] →
    (∀ v, q = .inl v → some (v, I1, J1) = some (rM, IM, JM)) → (∀ (H : Heap) (locs : List Loc) (ls : Array Slot) (pc : Nat), bz rM = true → WX D cz A L S Rf s.heap IM JM H locs → decode cX6_readsSum pc = .ok (.ireturn, 1) → W p l e (rmX 6 133) s m args below meth c H locs 0 0 Q (F0 m pc ls [.int rM])) →
    (∀ xq, q = .inr xq → ∀ (H : Heap) (locs : List Loc) (ls : Array Slot), WX D cz A L S Rf s.heap I1 J1 H locs → lv_has ls 4 [] → W p l e (rmX 6 133) s m args below meth c H locs 0 0 Q (F0 m 77 ls [])) →
    W p l e (rmX 6 133) s m args below meth c H locs 0 0 Q (F0 m 6 ls []) := by
  have hx := X.1
  have hb := X.2.1
  intro n
  induction n with
  | zero =>
    intro x1 x2 x3 I J q I1 J1 H locs ls hf
    rw [f6_readsSum_L6] at hf
    cases hf
  | succ n ih =>
    intro x1 x2 x3 I J q I1 J1 H locs ls hf hw hl hret hfin hexit
    rw [f6_readsSum_L6] at hf
    refine lv_iload_n hx hb dX6_readsSum_6 rfl (lv_at hl 3 rfl) ?_
    refine lv_sipush (v := (400 : Int32)) hx hb dX6_readsSum_7 (by decide) ?_
    refine lv_icmp_ge (tgt := 77) hx hb dX6_readsSum_10 (by decide) (fun c_1 => ?_) (fun c_1 => ?_)
    · have hf := yb_pos c_1 hf
      obtain ⟨rfl, rfl, rfl⟩ := yb_inj hf
      exact hexit _ rfl _ _ _ hw (lv_sub hl [] rfl)
    · have hf := yb_neg c_1 hf
      refine lv_aload_n hx hb dX6_readsSum_13 rfl (lv_at hl 0 rfl) ?_
      obtain ⟨r_2, I_3, J_4, hq_5, hf⟩ := yb_b3_some hf
      refine x_calli X hK hw (c6_readsValue l D cz ev hC hq_5) (cw_mem hC 62 (by decide)) (cw_S hC 62 rfl) cpX6.1 vw_X6_98 ⟨Nat.le_of_ble_eq_true rfl, Nat.le_of_ble_eq_true rfl⟩ rfl rfl (Nat.le_of_ble_eq_true rfl) hl.1 ⟨Nat.le_refl _, Nat.le_refl _⟩ dX6_readsSum_14 (fun H locs hw => ?_)
      refine lv_if_ne (tgt := 22) hx hb dX6_readsSum_17 (by decide) (fun c_6 => ?_) (fun c_6 => ?_)
      · have hf := yb_neg c_6 hf
        refine lv_iload_n hx hb dX6_readsSum_22 rfl (lv_at hl 1 rfl) ?_
        refine lv_iconst (v := (-1 : Int32)) hx hb dX6_readsSum_23 (by decide) ?_
        refine lv_icmp_eq (tgt := 32) hx hb dX6_readsSum_24 (by decide) (fun c_7 => ?_) (fun c_7 => ?_)
        · have hf := yb_pos c_7 hf
          refine lv_aload_n hx hb dX6_readsSum_32 rfl (lv_at hl 0 rfl) ?_
          obtain ⟨r_8, I_9, J_10, hq_11, hf⟩ := yb_b3_some hf
          refine x_calli X hK hw (c6_timesOrBy l D cz ev hC hq_11) (cw_mem hC 62 (by decide)) (cw_S hC 62 rfl) cpX6.1 vw_X6_101 ⟨Nat.le_of_ble_eq_true rfl, Nat.le_of_ble_eq_true rfl⟩ rfl rfl (Nat.le_of_ble_eq_true rfl) hl.1 ⟨Nat.le_refl _, Nat.le_refl _⟩ dX6_readsSum_33 (fun H locs hw => ?_)
          refine lv_istore_n (lv' := [(1, .int r_8), (0, .ref (b + 62)), (2, .int x2), (3, .int x3)]) hx hb dX6_readsSum_36 rfl hl (by decide) rfl (fun ls hl => ?_)
          refine lv_iload_n hx hb dX6_readsSum_37 rfl (lv_at hl 0 rfl) ?_
          refine lv_iconst (v := (-1 : Int32)) hx hb dX6_readsSum_38 (by decide) ?_
          refine lv_icmp_ne (tgt := 64) hx hb dX6_readsSum_39 (by decide) (fun c_12 => ?_) (fun c_12 => ?_)
          · have hf := yb_neg c_12 hf
            refine lv_aload_n hx hb dX6_readsSum_64 rfl (lv_at hl 1 rfl) ?_
            refine x_getR X hK hw (cw_mem hC 62 (by decide)) (cw_S hC 62 rfl) cpX6 0 (by decide) rfl (cw_R hC 62 0 (by decide) rfl) tw_544 dX6_readsSum_65 ?_
            obtain ⟨r_13, I_14, J_15, hq_16, hf⟩ := yb_b3_some hf
            refine x_callv X hK hw (c3_passSign l D cz ev hC hq_16) (cw_mem hC 2 (by decide)) (cw_S hC 2 rfl) cpX3.1 vw_X6_66 ⟨Nat.le_of_ble_eq_true rfl, Nat.le_of_ble_eq_true rfl⟩ rfl rfl (Nat.le_of_ble_eq_true rfl) hl.1 ⟨Nat.le_refl _, Nat.le_refl _⟩ dX6_readsSum_68 (fun H locs hw => ?_)
            obtain ⟨x3_17, ex3_17, hf⟩ := yb_let_ex hf
            refine lv_iinc (v := x3_17) (lv' := [(3, .int x3_17), (1, .int r_8), (0, .ref (b + 62)), (2, .int x2)]) hx hb dX6_readsSum_71 hl (k := 3) rfl (by rw [ex3_17]; rfl) (by decide) rfl (fun ls hl => ?_)
            refine lv_goto (tgt := 6) hx hb dX6_readsSum_74 (by decide) ?_
            exact ih _ _ _ _ _ _ _ _ _ _ _ hf hw (lv_sub hl [2, 1, 3, 0] rfl) hret hfin hexit
          · have hf := yb_pos c_12 hf
            refine lv_iload_n hx hb dX6_readsSum_42 rfl (lv_at hl 2 rfl) ?_
            refine lv_iconst (v := (-1 : Int32)) hx hb dX6_readsSum_43 (by decide) ?_
            refine lv_icmp_eq (tgt := 52) hx hb dX6_readsSum_44 (by decide) (fun c_18 => ?_) (fun c_18 => ?_)
            · have hf := yb_pos c_18 hf
              refine lv_aload_n hx hb dX6_readsSum_52 rfl (lv_at hl 1 rfl) ?_
              obtain ⟨r_19, I_20, J_21, hq_22, hf⟩ := yb_b3_some hf
              refine x_calli X hK hw (c6_plusOrMinus l D cz ev hC hq_22) (cw_mem hC 62 (by decide)) (cw_S hC 62 rfl) cpX6.1 vw_X6_104 ⟨Nat.le_of_ble_eq_true rfl, Nat.le_of_ble_eq_true rfl⟩ rfl rfl (Nat.le_of_ble_eq_true rfl) hl.1 ⟨Nat.le_refl _, Nat.le_refl _⟩ dX6_readsSum_53 (fun H locs hw => ?_)
              refine lv_istore_n (lv' := [(2, .int r_19), (1, .int r_8), (0, .ref (b + 62)), (3, .int x3)]) hx hb dX6_readsSum_56 rfl hl (by decide) rfl (fun ls hl => ?_)
              refine lv_iload_n hx hb dX6_readsSum_57 rfl (lv_at hl 0 rfl) ?_
              refine lv_iconst (v := (-1 : Int32)) hx hb dX6_readsSum_58 (by decide) ?_
              refine lv_icmp_ne (tgt := 64) hx hb dX6_readsSum_59 (by decide) (fun c_23 => ?_) (fun c_23 => ?_)
              · have hf := yb_neg c_23 hf
                refine lv_aload_n hx hb dX6_readsSum_64 rfl (lv_at hl 2 rfl) ?_
                refine x_getR X hK hw (cw_mem hC 62 (by decide)) (cw_S hC 62 rfl) cpX6 0 (by decide) rfl (cw_R hC 62 0 (by decide) rfl) tw_544 dX6_readsSum_65 ?_
                obtain ⟨r_24, I_25, J_26, hq_27, hf⟩ := yb_b3_some hf
                refine x_callv X hK hw (c3_passSign l D cz ev hC hq_27) (cw_mem hC 2 (by decide)) (cw_S hC 2 rfl) cpX3.1 vw_X6_66 ⟨Nat.le_of_ble_eq_true rfl, Nat.le_of_ble_eq_true rfl⟩ rfl rfl (Nat.le_of_ble_eq_true rfl) hl.1 ⟨Nat.le_refl _, Nat.le_refl _⟩ dX6_readsSum_68 (fun H locs hw => ?_)
                obtain ⟨x3_28, ex3_28, hf⟩ := yb_let_ex hf
                refine lv_iinc (v := x3_28) (lv' := [(3, .int x3_28), (2, .int r_19), (1, .int r_8), (0, .ref (b + 62))]) hx hb dX6_readsSum_71 hl (k := 3) rfl (by rw [ex3_28]; rfl) (by decide) rfl (fun ls hl => ?_)
                refine lv_goto (tgt := 6) hx hb dX6_readsSum_74 (by decide) ?_
                exact ih _ _ _ _ _ _ _ _ _ _ _ hf hw (lv_sub hl [3, 2, 1, 0] rfl) hret hfin hexit
              · have hf := yb_pos c_23 hf
                refine lv_iconst (v := (1 : Int32)) hx hb dX6_readsSum_62 (by decide) ?_
                exact yb_retz hfin (by decide) (yb_inl hret hf) hw dX6_readsSum_63
            · have hf := yb_neg c_18 hf
              refine lv_aload_n hx hb dX6_readsSum_47 rfl (lv_at hl 1 rfl) ?_
              refine lv_iload_n hx hb dX6_readsSum_48 rfl (lv_at hl 2 rfl) ?_
              obtain ⟨r_29, I_30, J_31, hq_32, hf⟩ := yb_b3_some hf
              refine x_callv X hK hw (c6_put l D cz ev hC hq_32) (cw_mem hC 62 (by decide)) (cw_S hC 62 rfl) cpX6.1 vw_X6_59 ⟨Nat.le_of_ble_eq_true rfl, Nat.le_of_ble_eq_true rfl⟩ rfl rfl (Nat.le_of_ble_eq_true rfl) hl.1 ⟨Nat.le_refl _, Nat.le_refl _⟩ dX6_readsSum_49 (fun H locs hw => ?_)
              refine lv_aload_n hx hb dX6_readsSum_52 rfl (lv_at hl 1 rfl) ?_
              obtain ⟨r_33, I_34, J_35, hq_36, hf⟩ := yb_b3_some hf
              refine x_calli X hK hw (c6_plusOrMinus l D cz ev hC hq_36) (cw_mem hC 62 (by decide)) (cw_S hC 62 rfl) cpX6.1 vw_X6_104 ⟨Nat.le_of_ble_eq_true rfl, Nat.le_of_ble_eq_true rfl⟩ rfl rfl (Nat.le_of_ble_eq_true rfl) hl.1 ⟨Nat.le_refl _, Nat.le_refl _⟩ dX6_readsSum_53 (fun H locs hw => ?_)
              refine lv_istore_n (lv' := [(2, .int r_33), (1, .int r_8), (0, .ref (b + 62)), (3, .int x3)]) hx hb dX6_readsSum_56 rfl hl (by decide) rfl (fun ls hl => ?_)
              refine lv_iload_n hx hb dX6_readsSum_57 rfl (lv_at hl 0 rfl) ?_
              refine lv_iconst (v := (-1 : Int32)) hx hb dX6_readsSum_58 (by decide) ?_
              refine lv_icmp_ne (tgt := 64) hx hb dX6_readsSum_59 (by decide) (fun c_37 => ?_) (fun c_37 => ?_)
              · have hf := yb_neg c_37 hf
                refine lv_aload_n hx hb dX6_readsSum_64 rfl (lv_at hl 2 rfl) ?_
                refine x_getR X hK hw (cw_mem hC 62 (by decide)) (cw_S hC 62 rfl) cpX6 0 (by decide) rfl (cw_R hC 62 0 (by decide) rfl) tw_544 dX6_readsSum_65 ?_
                obtain ⟨r_38, I_39, J_40, hq_41, hf⟩ := yb_b3_some hf
                refine x_callv X hK hw (c3_passSign l D cz ev hC hq_41) (cw_mem hC 2 (by decide)) (cw_S hC 2 rfl) cpX3.1 vw_X6_66 ⟨Nat.le_of_ble_eq_true rfl, Nat.le_of_ble_eq_true rfl⟩ rfl rfl (Nat.le_of_ble_eq_true rfl) hl.1 ⟨Nat.le_refl _, Nat.le_refl _⟩ dX6_readsSum_68 (fun H locs hw => ?_)
                obtain ⟨x3_42, ex3_42, hf⟩ := yb_let_ex hf
                refine lv_iinc (v := x3_42) (lv' := [(3, .int x3_42), (2, .int r_33), (1, .int r_8), (0, .ref (b + 62))]) hx hb dX6_readsSum_71 hl (k := 3) rfl (by rw [ex3_42]; rfl) (by decide) rfl (fun ls hl => ?_)
                refine lv_goto (tgt := 6) hx hb dX6_readsSum_74 (by decide) ?_
                exact ih _ _ _ _ _ _ _ _ _ _ _ hf hw (lv_sub hl [3, 2, 1, 0] rfl) hret hfin hexit
              · have hf := yb_pos c_37 hf
                refine lv_iconst (v := (1 : Int32)) hx hb dX6_readsSum_62 (by decide) ?_
                exact yb_retz hfin (by decide) (yb_inl hret hf) hw dX6_readsSum_63
        · have hf := yb_neg c_7 hf
          refine lv_aload_n hx hb dX6_readsSum_27 rfl (lv_at hl 0 rfl) ?_
          refine lv_iload_n hx hb dX6_readsSum_28 rfl (lv_at hl 1 rfl) ?_
          obtain ⟨r_43, I_44, J_45, hq_46, hf⟩ := yb_b3_some hf
          refine x_callv X hK hw (c6_put l D cz ev hC hq_46) (cw_mem hC 62 (by decide)) (cw_S hC 62 rfl) cpX6.1 vw_X6_59 ⟨Nat.le_of_ble_eq_true rfl, Nat.le_of_ble_eq_true rfl⟩ rfl rfl (Nat.le_of_ble_eq_true rfl) hl.1 ⟨Nat.le_refl _, Nat.le_refl _⟩ dX6_readsSum_29 (fun H locs hw => ?_)
          refine lv_aload_n hx hb dX6_readsSum_32 rfl (lv_at hl 0 rfl) ?_
          obtain ⟨r_47, I_48, J_49, hq_50, hf⟩ := yb_b3_some hf
          refine x_calli X hK hw (c6_timesOrBy l D cz ev hC hq_50) (cw_mem hC 62 (by decide)) (cw_S hC 62 rfl) cpX6.1 vw_X6_101 ⟨Nat.le_of_ble_eq_true rfl, Nat.le_of_ble_eq_true rfl⟩ rfl rfl (Nat.le_of_ble_eq_true rfl) hl.1 ⟨Nat.le_refl _, Nat.le_refl _⟩ dX6_readsSum_33 (fun H locs hw => ?_)
          refine lv_istore_n (lv' := [(1, .int r_47), (0, .ref (b + 62)), (2, .int x2), (3, .int x3)]) hx hb dX6_readsSum_36 rfl hl (by decide) rfl (fun ls hl => ?_)
          refine lv_iload_n hx hb dX6_readsSum_37 rfl (lv_at hl 0 rfl) ?_
          refine lv_iconst (v := (-1 : Int32)) hx hb dX6_readsSum_38 (by decide) ?_
          refine lv_icmp_ne (tgt := 64) hx hb dX6_readsSum_39 (by decide) (fun c_51 => ?_) (fun c_51 => ?_)
          · have hf := yb_neg c_51 hf
            refine lv_aload_n hx hb dX6_readsSum_64 rfl (lv_at hl 1 rfl) ?_
            refine x_getR X hK hw (cw_mem hC 62 (by decide)) (cw_S hC 62 rfl) cpX6 0 (by decide) rfl (cw_R hC 62 0 (by decide) rfl) tw_544 dX6_readsSum_65 ?_
            obtain ⟨r_52, I_53, J_54, hq_55, hf⟩ := yb_b3_some hf
            refine x_callv X hK hw (c3_passSign l D cz ev hC hq_55) (cw_mem hC 2 (by decide)) (cw_S hC 2 rfl) cpX3.1 vw_X6_66 ⟨Nat.le_of_ble_eq_true rfl, Nat.le_of_ble_eq_true rfl⟩ rfl rfl (Nat.le_of_ble_eq_true rfl) hl.1 ⟨Nat.le_refl _, Nat.le_refl _⟩ dX6_readsSum_68 (fun H locs hw => ?_)
            obtain ⟨x3_56, ex3_56, hf⟩ := yb_let_ex hf
            refine lv_iinc (v := x3_56) (lv' := [(3, .int x3_56), (1, .int r_47), (0, .ref (b + 62)), (2, .int x2)]) hx hb dX6_readsSum_71 hl (k := 3) rfl (by rw [ex3_56]; rfl) (by decide) rfl (fun ls hl => ?_)
            refine lv_goto (tgt := 6) hx hb dX6_readsSum_74 (by decide) ?_
            exact ih _ _ _ _ _ _ _ _ _ _ _ hf hw (lv_sub hl [2, 1, 3, 0] rfl) hret hfin hexit
          · have hf := yb_pos c_51 hf
            refine lv_iload_n hx hb dX6_readsSum_42 rfl (lv_at hl 2 rfl) ?_
            refine lv_iconst (v := (-1 : Int32)) hx hb dX6_readsSum_43 (by decide) ?_
            refine lv_icmp_eq (tgt := 52) hx hb dX6_readsSum_44 (by decide) (fun c_57 => ?_) (fun c_57 => ?_)
            · have hf := yb_pos c_57 hf
              refine lv_aload_n hx hb dX6_readsSum_52 rfl (lv_at hl 1 rfl) ?_
              obtain ⟨r_58, I_59, J_60, hq_61, hf⟩ := yb_b3_some hf
              refine x_calli X hK hw (c6_plusOrMinus l D cz ev hC hq_61) (cw_mem hC 62 (by decide)) (cw_S hC 62 rfl) cpX6.1 vw_X6_104 ⟨Nat.le_of_ble_eq_true rfl, Nat.le_of_ble_eq_true rfl⟩ rfl rfl (Nat.le_of_ble_eq_true rfl) hl.1 ⟨Nat.le_refl _, Nat.le_refl _⟩ dX6_readsSum_53 (fun H locs hw => ?_)
              refine lv_istore_n (lv' := [(2, .int r_58), (1, .int r_47), (0, .ref (b + 62)), (3, .int x3)]) hx hb dX6_readsSum_56 rfl hl (by decide) rfl (fun ls hl => ?_)
              refine lv_iload_n hx hb dX6_readsSum_57 rfl (lv_at hl 0 rfl) ?_
              refine lv_iconst (v := (-1 : Int32)) hx hb dX6_readsSum_58 (by decide) ?_
              refine lv_icmp_ne (tgt := 64) hx hb dX6_readsSum_59 (by decide) (fun c_62 => ?_) (fun c_62 => ?_)
              · have hf := yb_neg c_62 hf
                refine lv_aload_n hx hb dX6_readsSum_64 rfl (lv_at hl 2 rfl) ?_
                refine x_getR X hK hw (cw_mem hC 62 (by decide)) (cw_S hC 62 rfl) cpX6 0 (by decide) rfl (cw_R hC 62 0 (by decide) rfl) tw_544 dX6_readsSum_65 ?_
                obtain ⟨r_63, I_64, J_65, hq_66, hf⟩ := yb_b3_some hf
                refine x_callv X hK hw (c3_passSign l D cz ev hC hq_66) (cw_mem hC 2 (by decide)) (cw_S hC 2 rfl) cpX3.1 vw_X6_66 ⟨Nat.le_of_ble_eq_true rfl, Nat.le_of_ble_eq_true rfl⟩ rfl rfl (Nat.le_of_ble_eq_true rfl) hl.1 ⟨Nat.le_refl _, Nat.le_refl _⟩ dX6_readsSum_68 (fun H locs hw => ?_)
                obtain ⟨x3_67, ex3_67, hf⟩ := yb_let_ex hf
                refine lv_iinc (v := x3_67) (lv' := [(3, .int x3_67), (2, .int r_58), (1, .int r_47), (0, .ref (b + 62))]) hx hb dX6_readsSum_71 hl (k := 3) rfl (by rw [ex3_67]; rfl) (by decide) rfl (fun ls hl => ?_)
                refine lv_goto (tgt := 6) hx hb dX6_readsSum_74 (by decide) ?_
                exact ih _ _ _ _ _ _ _ _ _ _ _ hf hw (lv_sub hl [3, 2, 1, 0] rfl) hret hfin hexit
              · have hf := yb_pos c_62 hf
                refine lv_iconst (v := (1 : Int32)) hx hb dX6_readsSum_62 (by decide) ?_
                exact yb_retz hfin (by decide) (yb_inl hret hf) hw dX6_readsSum_63
            · have hf := yb_neg c_57 hf
              refine lv_aload_n hx hb dX6_readsSum_47 rfl (lv_at hl 1 rfl) ?_
              refine lv_iload_n hx hb dX6_readsSum_48 rfl (lv_at hl 2 rfl) ?_
              obtain ⟨r_68, I_69, J_70, hq_71, hf⟩ := yb_b3_some hf
              refine x_callv X hK hw (c6_put l D cz ev hC hq_71) (cw_mem hC 62 (by decide)) (cw_S hC 62 rfl) cpX6.1 vw_X6_59 ⟨Nat.le_of_ble_eq_true rfl, Nat.le_of_ble_eq_true rfl⟩ rfl rfl (Nat.le_of_ble_eq_true rfl) hl.1 ⟨Nat.le_refl _, Nat.le_refl _⟩ dX6_readsSum_49 (fun H locs hw => ?_)
              refine lv_aload_n hx hb dX6_readsSum_52 rfl (lv_at hl 1 rfl) ?_
              obtain ⟨r_72, I_73, J_74, hq_75, hf⟩ := yb_b3_some hf
              refine x_calli X hK hw (c6_plusOrMinus l D cz ev hC hq_75) (cw_mem hC 62 (by decide)) (cw_S hC 62 rfl) cpX6.1 vw_X6_104 ⟨Nat.le_of_ble_eq_true rfl, Nat.le_of_ble_eq_true rfl⟩ rfl rfl (Nat.le_of_ble_eq_true rfl) hl.1 ⟨Nat.le_refl _, Nat.le_refl _⟩ dX6_readsSum_53 (fun H locs hw => ?_)
              refine lv_istore_n (lv' := [(2, .int r_72), (1, .int r_47), (0, .ref (b + 62)), (3, .int x3)]) hx hb dX6_readsSum_56 rfl hl (by decide) rfl (fun ls hl => ?_)
              refine lv_iload_n hx hb dX6_readsSum_57 rfl (lv_at hl 0 rfl) ?_
              refine lv_iconst (v := (-1 : Int32)) hx hb dX6_readsSum_58 (by decide) ?_
              refine lv_icmp_ne (tgt := 64) hx hb dX6_readsSum_59 (by decide) (fun c_76 => ?_) (fun c_76 => ?_)
              · have hf := yb_neg c_76 hf
                refine lv_aload_n hx hb dX6_readsSum_64 rfl (lv_at hl 2 rfl) ?_
                refine x_getR X hK hw (cw_mem hC 62 (by decide)) (cw_S hC 62 rfl) cpX6 0 (by decide) rfl (cw_R hC 62 0 (by decide) rfl) tw_544 dX6_readsSum_65 ?_
                obtain ⟨r_77, I_78, J_79, hq_80, hf⟩ := yb_b3_some hf
                refine x_callv X hK hw (c3_passSign l D cz ev hC hq_80) (cw_mem hC 2 (by decide)) (cw_S hC 2 rfl) cpX3.1 vw_X6_66 ⟨Nat.le_of_ble_eq_true rfl, Nat.le_of_ble_eq_true rfl⟩ rfl rfl (Nat.le_of_ble_eq_true rfl) hl.1 ⟨Nat.le_refl _, Nat.le_refl _⟩ dX6_readsSum_68 (fun H locs hw => ?_)
                obtain ⟨x3_81, ex3_81, hf⟩ := yb_let_ex hf
                refine lv_iinc (v := x3_81) (lv' := [(3, .int x3_81), (2, .int r_72), (1, .int r_47), (0, .ref (b + 62))]) hx hb dX6_readsSum_71 hl (k := 3) rfl (by rw [ex3_81]; rfl) (by decide) rfl (fun ls hl => ?_)
                refine lv_goto (tgt := 6) hx hb dX6_readsSum_74 (by decide) ?_
                exact ih _ _ _ _ _ _ _ _ _ _ _ hf hw (lv_sub hl [3, 2, 1, 0] rfl) hret hfin hexit
              · have hf := yb_pos c_76 hf
                refine lv_iconst (v := (1 : Int32)) hx hb dX6_readsSum_62 (by decide) ?_
                exact yb_retz hfin (by decide) (yb_inl hret hf) hw dX6_readsSum_63
      · have hf := yb_pos c_6 hf
        refine lv_iconst (v := (0 : Int32)) hx hb dX6_readsSum_20 (by decide) ?_
        exact yb_retz hfin (by decide) (yb_inl hret hf) hw dX6_readsSum_21
set_option maxHeartbeats 4000000 in
set_option maxRecDepth 100000 in
theorem c6_readsSum (l : Launch) (D : va_G) (cz : Nat → ClassId) (ev : Nat × Nat × Nat) {b : Nat} {L : List Nat} {S : ST} {Rf : RT} (hC : CW b L S Rf) {N : Nat} {I : IT} {J : JT} {r : Int32} {I1 : IT} {J1 : JT} (hf : f6_readsSum N b S Rf I J = some (r, I1, J1)) : MTi l D cz ev yX6_readsSum cX6_readsSum 4 (some .boolean) 6 133 [.ref (b + 62)] L S Rf I J r I1 J1 := by
  unfold f6_readsSum at hf
  refine MTz_of (by decide) (Nat.le_of_ble_eq_true rfl) ?_
  intro p e s m args below meth c Q ls X hK hw hl hfin
  have X : CallFix p m c cX6_readsSum 4 s args gw RX6 := X
  have hx := X.1
  have hb := X.2.1
  have hl : lv_has ls 4 [(0, .ref (b + 62))] := hl
  refine lv_iconst (v := (-1 : Int32)) hx hb dX6_readsSum_0 (by decide) ?_
  refine lv_istore_n (lv' := [(1, .int (-1 : Int32)), (0, .ref (b + 62))]) hx hb dX6_readsSum_1 rfl hl (by decide) rfl (fun ls hl => ?_)
  refine lv_iconst (v := (-1 : Int32)) hx hb dX6_readsSum_2 (by decide) ?_
  refine lv_istore_n (lv' := [(2, .int (-1 : Int32)), (1, .int (-1 : Int32)), (0, .ref (b + 62))]) hx hb dX6_readsSum_3 rfl hl (by decide) rfl (fun ls hl => ?_)
  refine lv_iconst (v := (0 : Int32)) hx hb dX6_readsSum_4 (by decide) ?_
  refine lv_istore_n (lv' := [(3, .int (0 : Int32)), (2, .int (-1 : Int32)), (1, .int (-1 : Int32)), (0, .ref (b + 62))]) hx hb dX6_readsSum_5 rfl hl (by decide) rfl (fun ls hl => ?_)
  obtain ⟨q_82, I_83, J_84, hq_85, hf⟩ := yb_b3_some hf
  refine w6_readsSum_L6 hC X hK _ _ _ _ _ _ _ _ _ _ _ _ hq_85 hw (lv_sub hl [3, 2, 1, 0] rfl) (fun v hv => by rw [hv] at hf; exact hf) hfin (fun x_87 hx1 H locs ls hw hl => ?_)
  rw [hx1] at hf
  have hf := yb_sm_r hf
  refine lv_iconst (v := (0 : Int32)) hx hb dX6_readsSum_77 (by decide) ?_
  exact yb_retz hfin (by decide) hf hw dX6_readsSum_78
set_option maxHeartbeats 4000000 in
set_option maxRecDepth 100000 in
theorem c6_comparison (l : Launch) (D : va_G) (cz : Nat → ClassId) (ev : Nat × Nat × Nat) {b : Nat} {L : List Nat} {S : ST} {Rf : RT} (hC : CW b L S Rf) {I : IT} {J : JT} {r : Int32} {I1 : IT} {J1 : JT} (hf : f6_comparison b S Rf I J = some (r, I1, J1)) : MTi l D cz ev yX6_comparison cX6_comparison 3 (some .int) 1 20 [.ref (b + 62)] L S Rf I J r I1 J1 := by
  unfold f6_comparison at hf
  refine MTi_of (by decide) (Nat.le_of_ble_eq_true rfl) ?_
  intro p e s m args below meth c Q ls X hK hw hl hfin
  have X : CallFix p m c cX6_comparison 3 s args gw RX6 := X
  have hx := X.1
  have hb := X.2.1
  have hl : lv_has ls 3 [(0, .ref (b + 62))] := hl
  refine lv_aload_n hx hb dX6_comparison_0 rfl (lv_at hl 0 rfl) ?_
  refine x_getR X hK hw (cw_mem hC 62 (by decide)) (cw_S hC 62 rfl) cpX6 0 (by decide) rfl (cw_R hC 62 0 (by decide) rfl) tw_544 dX6_comparison_1 ?_
  refine x_getI X hK hw (cw_mem hC 2 (by decide)) (cw_S hC 2 rfl) cpX3 2 (by decide) rfl tw_159 dX6_comparison_4 ?_
  refine lv_iconst (v := (1 : Int32)) hx hb dX6_comparison_7 (by decide) ?_
  refine lv_iadd hx hb dX6_comparison_8 ?_
  refine lv_topi (fun x1_1 ex1_1 => ?_)
  have hf := yb_let_to ex1_1 hf
  refine lv_istore_n (lv' := [(1, .int x1_1), (0, .ref (b + 62))]) hx hb dX6_comparison_9 rfl hl (by decide) rfl (fun ls hl => ?_)
  refine lv_iload_n hx hb dX6_comparison_10 rfl (lv_at hl 0 rfl) ?_
  refine lv_aload_n hx hb dX6_comparison_11 rfl (lv_at hl 1 rfl) ?_
  refine x_getR X hK hw (cw_mem hC 62 (by decide)) (cw_S hC 62 rfl) cpX6 0 (by decide) rfl (cw_R hC 62 0 (by decide) rfl) tw_544 dX6_comparison_12 ?_
  refine x_getI X hK hw (cw_mem hC 2 (by decide)) (cw_S hC 2 rfl) cpX3 1 (by decide) rfl tw_157 dX6_comparison_15 ?_
  refine lv_icmp_ge (tgt := 39) hx hb dX6_comparison_18 (by decide) (fun c_2 => ?_) (fun c_2 => ?_)
  · have hf := yb_pos c_2 hf
    refine lv_iconst (v := (0 : Int32)) hx hb dX6_comparison_39 (by decide) ?_
    refine lv_istore_n (lv' := [(2, .int (0 : Int32)), (1, .int x1_1), (0, .ref (b + 62))]) hx hb dX6_comparison_40 rfl hl (by decide) rfl (fun ls hl => ?_)
    refine lv_aload_n hx hb dX6_comparison_41 rfl (lv_at hl 2 rfl) ?_
    refine x_getR X hK hw (cw_mem hC 62 (by decide)) (cw_S hC 62 rfl) cpX6 0 (by decide) rfl (cw_R hC 62 0 (by decide) rfl) tw_544 dX6_comparison_42 ?_
    obtain ⟨r_3, I_4, J_5, hq_6, hf⟩ := yb_b3_some hf
    refine x_calli X hK hw (c3_sign l D cz ev hC hq_6) (cw_mem hC 2 (by decide)) (cw_S hC 2 rfl) cpX3.1 vw_X6_63 ⟨Nat.le_of_ble_eq_true rfl, Nat.le_of_ble_eq_true rfl⟩ rfl rfl (Nat.le_of_ble_eq_true rfl) hl.1 ⟨Nat.le_refl _, Nat.le_refl _⟩ dX6_comparison_45 (fun H locs hw => ?_)
    by_cases c_7 : r_3 = (60 : Int32)
    · have hf := yb_pos c_7 hf
      refine lv_tableIn (off := 28) (tgt := 76) hx hb dX6_comparison_48 (by rw [c_7]; decide) (by rw [c_7]; decide) (by rw [c_7]; rfl) (by decide) ?_
      refine lv_iload_n hx hb dX6_comparison_76 rfl (lv_at hl 0 rfl) ?_
      refine lv_if_eq (tgt := 85) hx hb dX6_comparison_77 (by decide) (fun _ => ?_) (fun c_8 => absurd (by decide) c_8)
      refine lv_ldc (v := (200005 : Int32)) hx hb X.2.2.2.1 (X.2.2.2.2 _ tw_842) dX6_comparison_85 ?_
      exact yb_reti hfin hf hw dX6_comparison_87
    have hf := yb_neg c_7 hf
    by_cases c_9 : r_3 = (61 : Int32)
    · have hf := yb_pos c_9 hf
      refine lv_tableIn (off := 40) (tgt := 88) hx hb dX6_comparison_48 (by rw [c_9]; decide) (by rw [c_9]; decide) (by rw [c_9]; rfl) (by decide) ?_
      refine lv_ldc (v := (200007 : Int32)) hx hb X.2.2.2.1 (X.2.2.2.2 _ tw_843) dX6_comparison_88 ?_
      exact yb_reti hfin hf hw dX6_comparison_90
    have hf := yb_neg c_9 hf
    by_cases c_10 : r_3 = (62 : Int32)
    · have hf := yb_pos c_10 hf
      refine lv_tableIn (off := 43) (tgt := 91) hx hb dX6_comparison_48 (by rw [c_10]; decide) (by rw [c_10]; decide) (by rw [c_10]; rfl) (by decide) ?_
      refine lv_iload_n hx hb dX6_comparison_91 rfl (lv_at hl 0 rfl) ?_
      refine lv_if_eq (tgt := 100) hx hb dX6_comparison_92 (by decide) (fun _ => ?_) (fun c_11 => absurd (by decide) c_11)
      refine lv_ldc (v := (200009 : Int32)) hx hb X.2.2.2.1 (X.2.2.2.2 _ tw_845) dX6_comparison_100 ?_
      exact yb_reti hfin hf hw dX6_comparison_102
    have hf := yb_neg c_10 hf
    refine lv_tableOut (tgt := 103) hx hb dX6_comparison_48 (by
        rcases Int.lt_or_le (r_3).toInt 60 with g1 | g1
        · exact Or.inl g1
        · rcases Int.lt_or_le 62 (r_3).toInt with g2 | g2
          · exact Or.inr g2
          · exfalso
            have g3 : (r_3).toInt = 60 ∨ (r_3).toInt = 61 ∨ (r_3).toInt = 62 := by omega
            rcases g3 with g3 | g3 | g3
            · exact c_7 (yb_sw (60 : Int32) g3 rfl)
            · exact c_9 (yb_sw (61 : Int32) g3 rfl)
            · exact c_10 (yb_sw (62 : Int32) g3 rfl)) (by decide) ?_
    refine lv_iconst (v := (-1 : Int32)) hx hb dX6_comparison_103 (by decide) ?_
    exact yb_reti hfin hf hw dX6_comparison_104
  · have hf := yb_neg c_2 hf
    refine lv_aload_n hx hb dX6_comparison_21 rfl (lv_at hl 1 rfl) ?_
    refine x_getR X hK hw (cw_mem hC 62 (by decide)) (cw_S hC 62 rfl) cpX6 0 (by decide) rfl (cw_R hC 62 0 (by decide) rfl) tw_544 dX6_comparison_22 ?_
    refine x_getR X hK hw (cw_mem hC 2 (by decide)) (cw_S hC 2 rfl) cpX3 0 (by decide) rfl (cw_R hC 2 0 (by decide) rfl) tw_155 dX6_comparison_25 ?_
    refine lv_iload_n hx hb dX6_comparison_28 rfl (lv_at hl 0 rfl) ?_
    obtain ⟨hi_12, hf⟩ := yb_ck_some hf
    refine x_iald X hK hw (cw_mem hC 1 (by decide)) (cw_S hC 1 rfl) hi_12 rfl dX6_comparison_29 ?_
    refine lv_bipush (v := (61 : Int32)) hx hb dX6_comparison_30 (by decide) ?_
    refine lv_icmp_ne (tgt := 39) hx hb dX6_comparison_32 (by decide) (fun c_13 => ?_) (fun c_13 => ?_)
    · have hf := yb_neg c_13 hf
      refine lv_iconst (v := (0 : Int32)) hx hb dX6_comparison_39 (by decide) ?_
      refine lv_istore_n (lv' := [(2, .int (0 : Int32)), (1, .int x1_1), (0, .ref (b + 62))]) hx hb dX6_comparison_40 rfl hl (by decide) rfl (fun ls hl => ?_)
      refine lv_aload_n hx hb dX6_comparison_41 rfl (lv_at hl 2 rfl) ?_
      refine x_getR X hK hw (cw_mem hC 62 (by decide)) (cw_S hC 62 rfl) cpX6 0 (by decide) rfl (cw_R hC 62 0 (by decide) rfl) tw_544 dX6_comparison_42 ?_
      obtain ⟨r_14, I_15, J_16, hq_17, hf⟩ := yb_b3_some hf
      refine x_calli X hK hw (c3_sign l D cz ev hC hq_17) (cw_mem hC 2 (by decide)) (cw_S hC 2 rfl) cpX3.1 vw_X6_63 ⟨Nat.le_of_ble_eq_true rfl, Nat.le_of_ble_eq_true rfl⟩ rfl rfl (Nat.le_of_ble_eq_true rfl) hl.1 ⟨Nat.le_refl _, Nat.le_refl _⟩ dX6_comparison_45 (fun H locs hw => ?_)
      by_cases c_18 : r_14 = (60 : Int32)
      · have hf := yb_pos c_18 hf
        refine lv_tableIn (off := 28) (tgt := 76) hx hb dX6_comparison_48 (by rw [c_18]; decide) (by rw [c_18]; decide) (by rw [c_18]; rfl) (by decide) ?_
        refine lv_iload_n hx hb dX6_comparison_76 rfl (lv_at hl 0 rfl) ?_
        refine lv_if_eq (tgt := 85) hx hb dX6_comparison_77 (by decide) (fun _ => ?_) (fun c_19 => absurd (by decide) c_19)
        refine lv_ldc (v := (200005 : Int32)) hx hb X.2.2.2.1 (X.2.2.2.2 _ tw_842) dX6_comparison_85 ?_
        exact yb_reti hfin hf hw dX6_comparison_87
      have hf := yb_neg c_18 hf
      by_cases c_20 : r_14 = (61 : Int32)
      · have hf := yb_pos c_20 hf
        refine lv_tableIn (off := 40) (tgt := 88) hx hb dX6_comparison_48 (by rw [c_20]; decide) (by rw [c_20]; decide) (by rw [c_20]; rfl) (by decide) ?_
        refine lv_ldc (v := (200007 : Int32)) hx hb X.2.2.2.1 (X.2.2.2.2 _ tw_843) dX6_comparison_88 ?_
        exact yb_reti hfin hf hw dX6_comparison_90
      have hf := yb_neg c_20 hf
      by_cases c_21 : r_14 = (62 : Int32)
      · have hf := yb_pos c_21 hf
        refine lv_tableIn (off := 43) (tgt := 91) hx hb dX6_comparison_48 (by rw [c_21]; decide) (by rw [c_21]; decide) (by rw [c_21]; rfl) (by decide) ?_
        refine lv_iload_n hx hb dX6_comparison_91 rfl (lv_at hl 0 rfl) ?_
        refine lv_if_eq (tgt := 100) hx hb dX6_comparison_92 (by decide) (fun _ => ?_) (fun c_22 => absurd (by decide) c_22)
        refine lv_ldc (v := (200009 : Int32)) hx hb X.2.2.2.1 (X.2.2.2.2 _ tw_845) dX6_comparison_100 ?_
        exact yb_reti hfin hf hw dX6_comparison_102
      have hf := yb_neg c_21 hf
      refine lv_tableOut (tgt := 103) hx hb dX6_comparison_48 (by
          rcases Int.lt_or_le (r_14).toInt 60 with g1 | g1
          · exact Or.inl g1
          · rcases Int.lt_or_le 62 (r_14).toInt with g2 | g2
            · exact Or.inr g2
            · exfalso
              have g3 : (r_14).toInt = 60 ∨ (r_14).toInt = 61 ∨ (r_14).toInt = 62 := by omega
              rcases g3 with g3 | g3 | g3
              · exact c_18 (yb_sw (60 : Int32) g3 rfl)
              · exact c_20 (yb_sw (61 : Int32) g3 rfl)
              · exact c_21 (yb_sw (62 : Int32) g3 rfl)) (by decide) ?_
      refine lv_iconst (v := (-1 : Int32)) hx hb dX6_comparison_103 (by decide) ?_
      exact yb_reti hfin hf hw dX6_comparison_104
    · have hf := yb_pos c_13 hf
      refine lv_iconst (v := (1 : Int32)) hx hb dX6_comparison_35 (by decide) ?_
      refine lv_goto (tgt := 40) hx hb dX6_comparison_36 (by decide) ?_
      refine lv_istore_n (lv' := [(2, .int (1 : Int32)), (1, .int x1_1), (0, .ref (b + 62))]) hx hb dX6_comparison_40 rfl hl (by decide) rfl (fun ls hl => ?_)
      refine lv_aload_n hx hb dX6_comparison_41 rfl (lv_at hl 2 rfl) ?_
      refine x_getR X hK hw (cw_mem hC 62 (by decide)) (cw_S hC 62 rfl) cpX6 0 (by decide) rfl (cw_R hC 62 0 (by decide) rfl) tw_544 dX6_comparison_42 ?_
      obtain ⟨r_23, I_24, J_25, hq_26, hf⟩ := yb_b3_some hf
      refine x_calli X hK hw (c3_sign l D cz ev hC hq_26) (cw_mem hC 2 (by decide)) (cw_S hC 2 rfl) cpX3.1 vw_X6_63 ⟨Nat.le_of_ble_eq_true rfl, Nat.le_of_ble_eq_true rfl⟩ rfl rfl (Nat.le_of_ble_eq_true rfl) hl.1 ⟨Nat.le_refl _, Nat.le_refl _⟩ dX6_comparison_45 (fun H locs hw => ?_)
      by_cases c_27 : r_23 = (60 : Int32)
      · have hf := yb_pos c_27 hf
        refine lv_tableIn (off := 28) (tgt := 76) hx hb dX6_comparison_48 (by rw [c_27]; decide) (by rw [c_27]; decide) (by rw [c_27]; rfl) (by decide) ?_
        refine lv_iload_n hx hb dX6_comparison_76 rfl (lv_at hl 0 rfl) ?_
        refine lv_if_eq (tgt := 85) hx hb dX6_comparison_77 (by decide) (fun c_28 => absurd c_28 (by decide)) (fun _ => ?_)
        refine lv_ldc (v := (200006 : Int32)) hx hb X.2.2.2.1 (X.2.2.2.2 _ tw_841) dX6_comparison_80 ?_
        refine lv_goto (tgt := 87) hx hb dX6_comparison_82 (by decide) ?_
        exact yb_reti hfin hf hw dX6_comparison_87
      have hf := yb_neg c_27 hf
      by_cases c_29 : r_23 = (61 : Int32)
      · have hf := yb_pos c_29 hf
        refine lv_tableIn (off := 40) (tgt := 88) hx hb dX6_comparison_48 (by rw [c_29]; decide) (by rw [c_29]; decide) (by rw [c_29]; rfl) (by decide) ?_
        refine lv_ldc (v := (200007 : Int32)) hx hb X.2.2.2.1 (X.2.2.2.2 _ tw_843) dX6_comparison_88 ?_
        exact yb_reti hfin hf hw dX6_comparison_90
      have hf := yb_neg c_29 hf
      by_cases c_30 : r_23 = (62 : Int32)
      · have hf := yb_pos c_30 hf
        refine lv_tableIn (off := 43) (tgt := 91) hx hb dX6_comparison_48 (by rw [c_30]; decide) (by rw [c_30]; decide) (by rw [c_30]; rfl) (by decide) ?_
        refine lv_iload_n hx hb dX6_comparison_91 rfl (lv_at hl 0 rfl) ?_
        refine lv_if_eq (tgt := 100) hx hb dX6_comparison_92 (by decide) (fun c_31 => absurd c_31 (by decide)) (fun _ => ?_)
        refine lv_ldc (v := (200008 : Int32)) hx hb X.2.2.2.1 (X.2.2.2.2 _ tw_844) dX6_comparison_95 ?_
        refine lv_goto (tgt := 102) hx hb dX6_comparison_97 (by decide) ?_
        exact yb_reti hfin hf hw dX6_comparison_102
      have hf := yb_neg c_30 hf
      refine lv_tableOut (tgt := 103) hx hb dX6_comparison_48 (by
          rcases Int.lt_or_le (r_23).toInt 60 with g1 | g1
          · exact Or.inl g1
          · rcases Int.lt_or_le 62 (r_23).toInt with g2 | g2
            · exact Or.inr g2
            · exfalso
              have g3 : (r_23).toInt = 60 ∨ (r_23).toInt = 61 ∨ (r_23).toInt = 62 := by omega
              rcases g3 with g3 | g3 | g3
              · exact c_27 (yb_sw (60 : Int32) g3 rfl)
              · exact c_29 (yb_sw (61 : Int32) g3 rfl)
              · exact c_30 (yb_sw (62 : Int32) g3 rfl)) (by decide) ?_
      refine lv_iconst (v := (-1 : Int32)) hx hb dX6_comparison_103 (by decide) ?_
      exact yb_reti hfin hf hw dX6_comparison_104
set_option maxHeartbeats 4000000 in
set_option maxRecDepth 100000 in
theorem c6_readsComparison (l : Launch) (D : va_G) (cz : Nat → ClassId) (ev : Nat × Nat × Nat) {b : Nat} {L : List Nat} {S : ST} {Rf : RT} (hC : CW b L S Rf) {N : Nat} {I : IT} {J : JT} {r : Int32} {I1 : IT} {J1 : JT} (hf : f6_readsComparison N b S Rf I J = some (r, I1, J1)) : MTi l D cz ev yX6_readsComparison cX6_readsComparison 3 (some .int) 2 43 [.ref (b + 62)] L S Rf I J r I1 J1 := by
  unfold f6_readsComparison at hf
  refine MTi_of (by decide) (Nat.le_of_ble_eq_true rfl) ?_
  intro p e s m args below meth c Q ls X hK hw hl hfin
  have X : CallFix p m c cX6_readsComparison 3 s args gw RX6 := X
  have hx := X.1
  have hb := X.2.1
  have hl : lv_has ls 3 [(0, .ref (b + 62))] := hl
  refine lv_aload_n hx hb dX6_readsComparison_0 rfl (lv_at hl 0 rfl) ?_
  obtain ⟨r_1, I_2, J_3, hq_4, hf⟩ := yb_b3_some hf
  refine x_calli X hK hw (c6_comparison l D cz ev hC hq_4) (cw_mem hC 62 (by decide)) (cw_S hC 62 rfl) cpX6.1 vw_X6_78 ⟨Nat.le_of_ble_eq_true rfl, Nat.le_of_ble_eq_true rfl⟩ rfl rfl (Nat.le_of_ble_eq_true rfl) hl.1 ⟨Nat.le_refl _, Nat.le_refl _⟩ dX6_readsComparison_1 (fun H locs hw => ?_)
  refine lv_istore_n (lv' := [(1, .int r_1), (0, .ref (b + 62))]) hx hb dX6_readsComparison_4 rfl hl (by decide) rfl (fun ls hl => ?_)
  refine lv_iload_n hx hb dX6_readsComparison_5 rfl (lv_at hl 0 rfl) ?_
  refine lv_iconst (v := (-1 : Int32)) hx hb dX6_readsComparison_6 (by decide) ?_
  refine lv_icmp_ne (tgt := 21) hx hb dX6_readsComparison_7 (by decide) (fun c_5 => ?_) (fun c_5 => ?_)
  · have hf := yb_neg c_5 hf
    refine lv_aload_n hx hb dX6_readsComparison_21 rfl (lv_at hl 1 rfl) ?_
    refine x_getI X hK hw (cw_mem hC 62 (by decide)) (cw_S hC 62 rfl) cpX6 3 (by decide) rfl tw_547 dX6_readsComparison_22 ?_
    refine lv_bipush (v := (60 : Int32)) hx hb dX6_readsComparison_25 (by decide) ?_
    refine lv_icmp_lt (tgt := 41) hx hb dX6_readsComparison_27 (by decide) (fun c_6 => ?_) (fun c_6 => ?_)
    · have hf := yb_pos c_6 hf
      refine lv_aload_n hx hb dX6_readsComparison_41 rfl (lv_at hl 1 rfl) ?_
      refine lv_dup hx hb dX6_readsComparison_42 rfl ?_
      refine x_getI X hK hw (cw_mem hC 62 (by decide)) (cw_S hC 62 rfl) cpX6 3 (by decide) rfl tw_547 dX6_readsComparison_43 ?_
      refine lv_iconst (v := (1 : Int32)) hx hb dX6_readsComparison_46 (by decide) ?_
      refine lv_iadd hx hb dX6_readsComparison_47 ?_
      refine x_putI X hK hw (cw_mem hC 62 (by decide)) (cw_S hC 62 rfl) cpX6 3 (by decide) rfl rfl rfl tw_547 dX6_readsComparison_48 (fun H locs hw => ?_)
      obtain ⟨I_7, eI_7, hf⟩ := yb_let_ex hf
      have hw := yb_wI eI_7 hw
      refine lv_iload_n hx hb dX6_readsComparison_51 rfl (lv_at hl 0 rfl) ?_
      refine lv_ldc (v := (200006 : Int32)) hx hb X.2.2.2.1 (X.2.2.2.2 _ tw_841) dX6_readsComparison_52 ?_
      refine lv_icmp_eq (tgt := 63) hx hb dX6_readsComparison_54 (by decide) (fun c_8 => ?_) (fun c_8 => ?_)
      · have hf := yb_pos c_8 hf
        refine lv_iconst (v := (1 : Int32)) hx hb dX6_readsComparison_63 (by decide) ?_
        refine lv_goto (tgt := 68) hx hb dX6_readsComparison_64 (by decide) ?_
        refine lv_istore_n (lv' := [(2, .int (1 : Int32)), (1, .int r_1), (0, .ref (b + 62))]) hx hb dX6_readsComparison_68 rfl hl (by decide) rfl (fun ls hl => ?_)
        refine lv_aload_n hx hb dX6_readsComparison_69 rfl (lv_at hl 2 rfl) ?_
        refine x_getR X hK hw (cw_mem hC 62 (by decide)) (cw_S hC 62 rfl) cpX6 0 (by decide) rfl (cw_R hC 62 0 (by decide) rfl) tw_544 dX6_readsComparison_70 ?_
        refine lv_aload_n hx hb dX6_readsComparison_73 rfl (lv_at hl 2 rfl) ?_
        refine x_getR X hK hw (cw_mem hC 62 (by decide)) (cw_S hC 62 rfl) cpX6 0 (by decide) rfl (cw_R hC 62 0 (by decide) rfl) tw_544 dX6_readsComparison_74 ?_
        refine x_getI X hK hw (cw_mem hC 2 (by decide)) (cw_S hC 2 rfl) cpX3 2 (by decide) rfl tw_159 dX6_readsComparison_77 ?_
        refine lv_iload_n hx hb dX6_readsComparison_80 rfl (lv_at hl 0 rfl) ?_
        refine lv_if_eq (tgt := 88) hx hb dX6_readsComparison_81 (by decide) (fun c_9 => absurd c_9 (by decide)) (fun _ => ?_)
        refine lv_iconst (v := (2 : Int32)) hx hb dX6_readsComparison_84 (by decide) ?_
        refine lv_goto (tgt := 89) hx hb dX6_readsComparison_85 (by decide) ?_
        refine lv_iadd hx hb dX6_readsComparison_89 ?_
        obtain ⟨r_10, I_11, J_12, hq_13, hf⟩ := yb_b3_some hf
        refine x_callv X hK hw (c3_moveTo l D cz ev hC hq_13) (cw_mem hC 2 (by decide)) (cw_S hC 2 rfl) cpX3.1 vw_X6_86 ⟨Nat.le_of_ble_eq_true rfl, Nat.le_of_ble_eq_true rfl⟩ rfl rfl (Nat.le_of_ble_eq_true rfl) hl.1 ⟨Nat.le_refl _, Nat.le_refl _⟩ dX6_readsComparison_90 (fun H locs hw => ?_)
        refine lv_iload_n hx hb dX6_readsComparison_93 rfl (lv_at hl 1 rfl) ?_
        exact yb_reti hfin hf hw dX6_readsComparison_94
      · have hf := yb_neg c_8 hf
        refine lv_iload_n hx hb dX6_readsComparison_57 rfl (lv_at hl 0 rfl) ?_
        refine lv_ldc (v := (200008 : Int32)) hx hb X.2.2.2.1 (X.2.2.2.2 _ tw_844) dX6_readsComparison_58 ?_
        refine lv_icmp_ne (tgt := 67) hx hb dX6_readsComparison_60 (by decide) (fun c_14 => ?_) (fun c_14 => ?_)
        · have hf := yb_neg c_14 hf
          refine lv_iconst (v := (0 : Int32)) hx hb dX6_readsComparison_67 (by decide) ?_
          refine lv_istore_n (lv' := [(2, .int (0 : Int32)), (1, .int r_1), (0, .ref (b + 62))]) hx hb dX6_readsComparison_68 rfl hl (by decide) rfl (fun ls hl => ?_)
          refine lv_aload_n hx hb dX6_readsComparison_69 rfl (lv_at hl 2 rfl) ?_
          refine x_getR X hK hw (cw_mem hC 62 (by decide)) (cw_S hC 62 rfl) cpX6 0 (by decide) rfl (cw_R hC 62 0 (by decide) rfl) tw_544 dX6_readsComparison_70 ?_
          refine lv_aload_n hx hb dX6_readsComparison_73 rfl (lv_at hl 2 rfl) ?_
          refine x_getR X hK hw (cw_mem hC 62 (by decide)) (cw_S hC 62 rfl) cpX6 0 (by decide) rfl (cw_R hC 62 0 (by decide) rfl) tw_544 dX6_readsComparison_74 ?_
          refine x_getI X hK hw (cw_mem hC 2 (by decide)) (cw_S hC 2 rfl) cpX3 2 (by decide) rfl tw_159 dX6_readsComparison_77 ?_
          refine lv_iload_n hx hb dX6_readsComparison_80 rfl (lv_at hl 0 rfl) ?_
          refine lv_if_eq (tgt := 88) hx hb dX6_readsComparison_81 (by decide) (fun _ => ?_) (fun c_15 => absurd (by decide) c_15)
          refine lv_iconst (v := (1 : Int32)) hx hb dX6_readsComparison_88 (by decide) ?_
          refine lv_iadd hx hb dX6_readsComparison_89 ?_
          obtain ⟨r_16, I_17, J_18, hq_19, hf⟩ := yb_b3_some hf
          refine x_callv X hK hw (c3_moveTo l D cz ev hC hq_19) (cw_mem hC 2 (by decide)) (cw_S hC 2 rfl) cpX3.1 vw_X6_86 ⟨Nat.le_of_ble_eq_true rfl, Nat.le_of_ble_eq_true rfl⟩ rfl rfl (Nat.le_of_ble_eq_true rfl) hl.1 ⟨Nat.le_refl _, Nat.le_refl _⟩ dX6_readsComparison_90 (fun H locs hw => ?_)
          refine lv_iload_n hx hb dX6_readsComparison_93 rfl (lv_at hl 1 rfl) ?_
          exact yb_reti hfin hf hw dX6_readsComparison_94
        · have hf := yb_pos c_14 hf
          refine lv_iconst (v := (1 : Int32)) hx hb dX6_readsComparison_63 (by decide) ?_
          refine lv_goto (tgt := 68) hx hb dX6_readsComparison_64 (by decide) ?_
          refine lv_istore_n (lv' := [(2, .int (1 : Int32)), (1, .int r_1), (0, .ref (b + 62))]) hx hb dX6_readsComparison_68 rfl hl (by decide) rfl (fun ls hl => ?_)
          refine lv_aload_n hx hb dX6_readsComparison_69 rfl (lv_at hl 2 rfl) ?_
          refine x_getR X hK hw (cw_mem hC 62 (by decide)) (cw_S hC 62 rfl) cpX6 0 (by decide) rfl (cw_R hC 62 0 (by decide) rfl) tw_544 dX6_readsComparison_70 ?_
          refine lv_aload_n hx hb dX6_readsComparison_73 rfl (lv_at hl 2 rfl) ?_
          refine x_getR X hK hw (cw_mem hC 62 (by decide)) (cw_S hC 62 rfl) cpX6 0 (by decide) rfl (cw_R hC 62 0 (by decide) rfl) tw_544 dX6_readsComparison_74 ?_
          refine x_getI X hK hw (cw_mem hC 2 (by decide)) (cw_S hC 2 rfl) cpX3 2 (by decide) rfl tw_159 dX6_readsComparison_77 ?_
          refine lv_iload_n hx hb dX6_readsComparison_80 rfl (lv_at hl 0 rfl) ?_
          refine lv_if_eq (tgt := 88) hx hb dX6_readsComparison_81 (by decide) (fun c_20 => absurd c_20 (by decide)) (fun _ => ?_)
          refine lv_iconst (v := (2 : Int32)) hx hb dX6_readsComparison_84 (by decide) ?_
          refine lv_goto (tgt := 89) hx hb dX6_readsComparison_85 (by decide) ?_
          refine lv_iadd hx hb dX6_readsComparison_89 ?_
          obtain ⟨r_21, I_22, J_23, hq_24, hf⟩ := yb_b3_some hf
          refine x_callv X hK hw (c3_moveTo l D cz ev hC hq_24) (cw_mem hC 2 (by decide)) (cw_S hC 2 rfl) cpX3.1 vw_X6_86 ⟨Nat.le_of_ble_eq_true rfl, Nat.le_of_ble_eq_true rfl⟩ rfl rfl (Nat.le_of_ble_eq_true rfl) hl.1 ⟨Nat.le_refl _, Nat.le_refl _⟩ dX6_readsComparison_90 (fun H locs hw => ?_)
          refine lv_iload_n hx hb dX6_readsComparison_93 rfl (lv_at hl 1 rfl) ?_
          exact yb_reti hfin hf hw dX6_readsComparison_94
    · have hf := yb_neg c_6 hf
      refine lv_aload_n hx hb dX6_readsComparison_30 rfl (lv_at hl 1 rfl) ?_
      refine x_getR X hK hw (cw_mem hC 62 (by decide)) (cw_S hC 62 rfl) cpX6 0 (by decide) rfl (cw_R hC 62 0 (by decide) rfl) tw_544 dX6_readsComparison_31 ?_
      refine lv_iconst (v := (3 : Int32)) hx hb dX6_readsComparison_34 (by decide) ?_
      obtain ⟨r_25, I_26, J_27, hq_28, hf⟩ := yb_b3_some hf
      refine x_calli X hK hw (c3_fail l D cz ev hC hq_28) (cw_mem hC 2 (by decide)) (cw_S hC 2 rfl) cpX3.1 vw_X6_43 ⟨Nat.le_of_ble_eq_true rfl, Nat.le_of_ble_eq_true rfl⟩ rfl rfl (Nat.le_of_ble_eq_true rfl) hl.1 ⟨Nat.le_refl _, Nat.le_refl _⟩ dX6_readsComparison_35 (fun H locs hw => ?_)
      refine lv_pop hx hb dX6_readsComparison_38 rfl ?_
      refine lv_iconst (v := (-1 : Int32)) hx hb dX6_readsComparison_39 (by decide) ?_
      exact yb_reti hfin hf hw dX6_readsComparison_40
  · have hf := yb_pos c_5 hf
    refine lv_aload_n hx hb dX6_readsComparison_10 rfl (lv_at hl 1 rfl) ?_
    refine x_getR X hK hw (cw_mem hC 62 (by decide)) (cw_S hC 62 rfl) cpX6 0 (by decide) rfl (cw_R hC 62 0 (by decide) rfl) tw_544 dX6_readsComparison_11 ?_
    refine lv_iconst (v := (0 : Int32)) hx hb dX6_readsComparison_14 (by decide) ?_
    obtain ⟨r_29, I_30, J_31, hq_32, hf⟩ := yb_b3_some hf
    refine x_calli X hK hw (c3_fail l D cz ev hC hq_32) (cw_mem hC 2 (by decide)) (cw_S hC 2 rfl) cpX3.1 vw_X6_43 ⟨Nat.le_of_ble_eq_true rfl, Nat.le_of_ble_eq_true rfl⟩ rfl rfl (Nat.le_of_ble_eq_true rfl) hl.1 ⟨Nat.le_refl _, Nat.le_refl _⟩ dX6_readsComparison_15 (fun H locs hw => ?_)
    refine lv_pop hx hb dX6_readsComparison_18 rfl ?_
    refine lv_iconst (v := (-1 : Int32)) hx hb dX6_readsComparison_19 (by decide) ?_
    exact yb_reti hfin hf hw dX6_readsComparison_20
set_option maxHeartbeats 4000000 in
set_option maxRecDepth 100000 in
theorem w8_factsAllow_L3 {p : Program} {l : Launch} {e : Env} {s : State} {m : MethodId} {args : Array Value} {below : List Frame} {meth : Method} {c : Code} {Q : State → Prop} {D : va_G} {cz : Nat → ClassId} {A : Nat → Prop} {ev : Nat × Nat × Nat} {b : Nat} {L : List Nat} {S : ST} {Rf : RT} (hC : CW b L S Rf) {t0 : Nat} (h0 : StateAt L S Rf t0) (X : CallFix p m c cX8_factsAllow 10 s args gw RX8) (hK : KX D cz ev A s) {N : Nat} {x1 : Int32} {x2 : Int32} {x3 : Int32} {x4 : Int32} {x5 : Int32} {rM : Int32} {IM : IT} {JM : JT} :
    ∀ (n : Nat) (x6 : Int32) (I : IT) (J : JT) (q : (Int32 ⊕ (Unit))) (I1 : IT) (J1 : JT) (H : Heap) (locs : List Loc) (ls : Array Slot), f8_factsAllow_L3 N b S Rf t0 x1 x2 x3 x4 x5 n x6 I J = some (q, I1, J1) → WX D cz A L S Rf s.heap I J H locs → lv_has ls 10 [(0, .ref t0), (1, .int x1), (2, .int x2), (3, .int x3), (4, .int x4), (5, .int x5), (6, .int x6)] →
    (∀ v, q = .inl v → some (v, I1, J1) = some (rM, IM, JM)) → (∀ (H : Heap) (locs : List Loc) (ls : Array Slot) (pc : Nat), bz rM = true → WX D cz A L S Rf s.heap IM JM H locs → decode cX8_factsAllow pc = .ok (.ireturn, 1) → W p l e (rmX 0 0) s m args below meth c H locs 0 0 Q (F0 m pc ls [.int rM])) →
    (∀ xq, q = .inr xq → ∀ (H : Heap) (locs : List Loc) (ls : Array Slot), WX D cz A L S Rf s.heap I1 J1 H locs → lv_has ls 10 [] → W p l e (rmX 0 0) s m args below meth c H locs 0 0 Q (F0 m 127 ls [])) →
    W p l e (rmX 0 0) s m args below meth c H locs 0 0 Q (F0 m 3 ls []) := by
  have hx := X.1
  have hb := X.2.1
  intro n
  induction n with
  | zero =>
    intro x6 I J q I1 J1 H locs ls hf
    rw [f8_factsAllow_L3] at hf
    cases hf
  | succ n ih =>
    intro x6 I J q I1 J1 H locs ls hf hw hl hret hfin hexit
    rw [f8_factsAllow_L3] at hf
    refine lv_iload hx hb dX8_factsAllow_3 (lv_at hl 6 rfl) ?_
    refine lv_aload_n hx hb dX8_factsAllow_5 rfl (lv_at hl 0 rfl) ?_
    refine x_getI X hK hw h0.1.1 h0.1.2 cpX8 5 (by decide) rfl tw_355 dX8_factsAllow_6 ?_
    refine lv_icmp_ge (tgt := 127) hx hb dX8_factsAllow_9 (by decide) (fun c_1 => ?_) (fun c_1 => ?_)
    · have hf := yb_pos c_1 hf
      obtain ⟨rfl, rfl, rfl⟩ := yb_inj hf
      exact hexit _ rfl _ _ _ hw (lv_sub hl [] rfl)
    · have hf := yb_neg c_1 hf
      refine lv_aload_n hx hb dX8_factsAllow_12 rfl (lv_at hl 0 rfl) ?_
      refine x_getR X hK hw h0.1.1 h0.1.2 cpX8 2 (by decide) rfl (st_R h0 0 (by decide)) tw_352 dX8_factsAllow_13 ?_
      refine lv_iload hx hb dX8_factsAllow_16 (lv_at hl 6 rfl) ?_
      obtain ⟨hi_2, hf⟩ := yb_ck_some hf
      refine x_iald X hK hw (st_mem h0 0 (by decide)) (st_S h0 0 (by decide)) hi_2 rfl dX8_factsAllow_18 ?_
      refine lv_iload_n hx hb dX8_factsAllow_19 rfl (lv_at hl 1 rfl) ?_
      refine lv_icmp_ne (tgt := 121) hx hb dX8_factsAllow_20 (by decide) (fun c_3 => ?_) (fun c_3 => ?_)
      · have hf := yb_neg c_3 hf
        obtain ⟨x6_4, ex6_4, hf⟩ := yb_let_ex hf
        refine lv_iinc (v := x6_4) (lv' := [(6, .int x6_4), (0, .ref t0), (1, .int x1), (2, .int x2), (3, .int x3), (4, .int x4), (5, .int x5)]) hx hb dX8_factsAllow_121 hl (k := 6) rfl (by rw [ex6_4]; rfl) (by decide) rfl (fun ls hl => ?_)
        refine lv_goto (tgt := 3) hx hb dX8_factsAllow_124 (by decide) ?_
        exact ih _ _ _ _ _ _ _ _ _ hf hw (lv_sub hl [1, 2, 3, 4, 5, 6, 0] rfl) hret hfin hexit
      · have hf := yb_pos c_3 hf
        refine lv_aload_n hx hb dX8_factsAllow_23 rfl (lv_at hl 0 rfl) ?_
        refine x_getR X hK hw h0.1.1 h0.1.2 cpX8 3 (by decide) rfl (st_R h0 1 (by decide)) tw_353 dX8_factsAllow_24 ?_
        refine lv_iload hx hb dX8_factsAllow_27 (lv_at hl 6 rfl) ?_
        refine x_iald X hK hw (st_mem h0 1 (by decide)) (st_S h0 1 (by decide)) hi_2 rfl dX8_factsAllow_29 ?_
        refine lv_iconst (v := (1 : Int32)) hx hb dX8_factsAllow_30 (by decide) ?_
        refine lv_ishr hx hb dX8_factsAllow_31 ?_
        refine lv_topi (fun x7_5 ex7_5 => ?_)
        have hf := yb_let_to ex7_5 hf
        refine lv_istore (lv' := [(7, .int x7_5), (0, .ref t0), (1, .int x1), (2, .int x2), (3, .int x3), (4, .int x4), (5, .int x5), (6, .int x6)]) hx hb dX8_factsAllow_32 hl (by decide) rfl (fun ls hl => ?_)
        refine lv_iload hx hb dX8_factsAllow_34 (lv_at hl 0 rfl) ?_
        refine lv_if_ne (tgt := 43) hx hb dX8_factsAllow_36 (by decide) (fun c_6 => ?_) (fun c_6 => ?_)
        · have hf := yb_neg c_6 hf
          refine lv_iload hx hb dX8_factsAllow_43 (lv_at hl 0 rfl) ?_
          refine lv_iconst (v := (1 : Int32)) hx hb dX8_factsAllow_45 (by decide) ?_
          refine lv_icmp_ne (tgt := 53) hx hb dX8_factsAllow_46 (by decide) (fun c_7 => ?_) (fun c_7 => ?_)
          · have hf := yb_neg c_7 hf
            refine lv_iload hx hb dX8_factsAllow_53 (lv_at hl 0 rfl) ?_
            refine lv_iconst (v := (2 : Int32)) hx hb dX8_factsAllow_55 (by decide) ?_
            refine lv_icmp_ne (tgt := 64) hx hb dX8_factsAllow_56 (by decide) (fun c_8 => ?_) (fun c_8 => ?_)
            · have hf := yb_neg c_8 hf
              refine lv_iload hx hb dX8_factsAllow_64 (lv_at hl 6 rfl) ?_
              refine lv_istore (lv' := [(8, .int x5), (7, .int x7_5), (0, .ref t0), (1, .int x1), (2, .int x2), (3, .int x3), (4, .int x4), (5, .int x5), (6, .int x6)]) hx hb dX8_factsAllow_66 hl (by decide) rfl (fun ls hl => ?_)
              refine lv_aload_n hx hb dX8_factsAllow_68 rfl (lv_at hl 2 rfl) ?_
              refine x_getR X hK hw h0.1.1 h0.1.2 cpX8 3 (by decide) rfl (st_R h0 1 (by decide)) tw_353 dX8_factsAllow_69 ?_
              refine lv_iload hx hb dX8_factsAllow_72 (lv_at hl 8 rfl) ?_
              refine x_iald X hK hw (st_mem h0 1 (by decide)) (st_S h0 1 (by decide)) hi_2 rfl dX8_factsAllow_74 ?_
              refine lv_iconst (v := (1 : Int32)) hx hb dX8_factsAllow_75 (by decide) ?_
              refine lv_iand hx hb dX8_factsAllow_76 ?_
              refine lv_if_ne (tgt := 84) hx hb dX8_factsAllow_77 (by decide) (fun c_9 => ?_) (fun c_9 => ?_)
              · have hf := yb_neg c_9 hf
                refine lv_iconst (v := (0 : Int32)) hx hb dX8_factsAllow_84 (by decide) ?_
                refine lv_istore (lv' := [(9, .int (0 : Int32)), (8, .int x5), (7, .int x7_5), (0, .ref t0), (1, .int x1), (2, .int x2), (3, .int x3), (4, .int x4), (5, .int x5), (6, .int x6)]) hx hb dX8_factsAllow_85 hl (by decide) rfl (fun ls hl => ?_)
                refine lv_iload hx hb dX8_factsAllow_87 (lv_at hl 0 rfl) ?_
                refine lv_if_eq (tgt := 107) hx hb dX8_factsAllow_89 (by decide) (fun _ => ?_) (fun c_10 => absurd (by decide) c_10)
                refine lv_iload hx hb dX8_factsAllow_107 (lv_at hl 1 rfl) ?_
                refine lv_aload_n hx hb dX8_factsAllow_109 rfl (lv_at hl 3 rfl) ?_
                refine x_getR X hK hw h0.1.1 h0.1.2 cpX8 4 (by decide) rfl (st_R h0 2 (by decide)) tw_354 dX8_factsAllow_110 ?_
                refine lv_iload hx hb dX8_factsAllow_113 (lv_at hl 9 rfl) ?_
                refine x_iald X hK hw (st_mem h0 2 (by decide)) (st_S h0 2 (by decide)) hi_2 rfl dX8_factsAllow_115 ?_
                refine lv_icmp_le (tgt := 121) hx hb dX8_factsAllow_116 (by decide) (fun c_11 => ?_) (fun c_11 => ?_)
                · have hf := yb_pos c_11 hf
                  obtain ⟨x6_12, ex6_12, hf⟩ := yb_let_ex hf
                  refine lv_iinc (v := x6_12) (lv' := [(6, .int x6_12), (9, .int (0 : Int32)), (8, .int x5), (7, .int x7_5), (0, .ref t0), (1, .int x1), (2, .int x2), (3, .int x3), (4, .int x4), (5, .int x5)]) hx hb dX8_factsAllow_121 hl (k := 9) rfl (by rw [ex6_12]; rfl) (by decide) rfl (fun ls hl => ?_)
                  refine lv_goto (tgt := 3) hx hb dX8_factsAllow_124 (by decide) ?_
                  exact ih _ _ _ _ _ _ _ _ _ hf hw (lv_sub hl [4, 5, 6, 7, 8, 9, 0] rfl) hret hfin hexit
                · have hf := yb_neg c_11 hf
                  refine lv_iconst (v := (0 : Int32)) hx hb dX8_factsAllow_119 (by decide) ?_
                  exact yb_retz hfin (by decide) (yb_inl hret hf) hw dX8_factsAllow_120
              · have hf := yb_pos c_9 hf
                refine lv_iconst (v := (1 : Int32)) hx hb dX8_factsAllow_80 (by decide) ?_
                refine lv_goto (tgt := 85) hx hb dX8_factsAllow_81 (by decide) ?_
                refine lv_istore (lv' := [(9, .int (1 : Int32)), (8, .int x5), (7, .int x7_5), (0, .ref t0), (1, .int x1), (2, .int x2), (3, .int x3), (4, .int x4), (5, .int x5), (6, .int x6)]) hx hb dX8_factsAllow_85 hl (by decide) rfl (fun ls hl => ?_)
                refine lv_iload hx hb dX8_factsAllow_87 (lv_at hl 0 rfl) ?_
                refine lv_if_eq (tgt := 107) hx hb dX8_factsAllow_89 (by decide) (fun c_13 => absurd c_13 (by decide)) (fun _ => ?_)
                refine lv_iload hx hb dX8_factsAllow_92 (lv_at hl 1 rfl) ?_
                refine lv_aload_n hx hb dX8_factsAllow_94 rfl (lv_at hl 3 rfl) ?_
                refine x_getR X hK hw h0.1.1 h0.1.2 cpX8 4 (by decide) rfl (st_R h0 2 (by decide)) tw_354 dX8_factsAllow_95 ?_
                refine lv_iload hx hb dX8_factsAllow_98 (lv_at hl 9 rfl) ?_
                refine x_iald X hK hw (st_mem h0 2 (by decide)) (st_S h0 2 (by decide)) hi_2 rfl dX8_factsAllow_100 ?_
                refine lv_icmp_ge (tgt := 121) hx hb dX8_factsAllow_101 (by decide) (fun c_14 => ?_) (fun c_14 => ?_)
                · have hf := yb_pos c_14 hf
                  obtain ⟨x6_15, ex6_15, hf⟩ := yb_let_ex hf
                  refine lv_iinc (v := x6_15) (lv' := [(6, .int x6_15), (9, .int (1 : Int32)), (8, .int x5), (7, .int x7_5), (0, .ref t0), (1, .int x1), (2, .int x2), (3, .int x3), (4, .int x4), (5, .int x5)]) hx hb dX8_factsAllow_121 hl (k := 9) rfl (by rw [ex6_15]; rfl) (by decide) rfl (fun ls hl => ?_)
                  refine lv_goto (tgt := 3) hx hb dX8_factsAllow_124 (by decide) ?_
                  exact ih _ _ _ _ _ _ _ _ _ hf hw (lv_sub hl [4, 5, 6, 7, 8, 9, 0] rfl) hret hfin hexit
                · have hf := yb_neg c_14 hf
                  refine lv_goto (tgt := 119) hx hb dX8_factsAllow_104 (by decide) ?_
                  refine lv_iconst (v := (0 : Int32)) hx hb dX8_factsAllow_119 (by decide) ?_
                  exact yb_retz hfin (by decide) (yb_inl hret hf) hw dX8_factsAllow_120
            · have hf := yb_pos c_8 hf
              refine lv_iload hx hb dX8_factsAllow_59 (lv_at hl 5 rfl) ?_
              refine lv_goto (tgt := 66) hx hb dX8_factsAllow_61 (by decide) ?_
              refine lv_istore (lv' := [(8, .int x4), (7, .int x7_5), (0, .ref t0), (1, .int x1), (2, .int x2), (3, .int x3), (4, .int x4), (5, .int x5), (6, .int x6)]) hx hb dX8_factsAllow_66 hl (by decide) rfl (fun ls hl => ?_)
              refine lv_aload_n hx hb dX8_factsAllow_68 rfl (lv_at hl 2 rfl) ?_
              refine x_getR X hK hw h0.1.1 h0.1.2 cpX8 3 (by decide) rfl (st_R h0 1 (by decide)) tw_353 dX8_factsAllow_69 ?_
              refine lv_iload hx hb dX8_factsAllow_72 (lv_at hl 8 rfl) ?_
              refine x_iald X hK hw (st_mem h0 1 (by decide)) (st_S h0 1 (by decide)) hi_2 rfl dX8_factsAllow_74 ?_
              refine lv_iconst (v := (1 : Int32)) hx hb dX8_factsAllow_75 (by decide) ?_
              refine lv_iand hx hb dX8_factsAllow_76 ?_
              refine lv_if_ne (tgt := 84) hx hb dX8_factsAllow_77 (by decide) (fun c_16 => ?_) (fun c_16 => ?_)
              · have hf := yb_neg c_16 hf
                refine lv_iconst (v := (0 : Int32)) hx hb dX8_factsAllow_84 (by decide) ?_
                refine lv_istore (lv' := [(9, .int (0 : Int32)), (8, .int x4), (7, .int x7_5), (0, .ref t0), (1, .int x1), (2, .int x2), (3, .int x3), (4, .int x4), (5, .int x5), (6, .int x6)]) hx hb dX8_factsAllow_85 hl (by decide) rfl (fun ls hl => ?_)
                refine lv_iload hx hb dX8_factsAllow_87 (lv_at hl 0 rfl) ?_
                refine lv_if_eq (tgt := 107) hx hb dX8_factsAllow_89 (by decide) (fun _ => ?_) (fun c_17 => absurd (by decide) c_17)
                refine lv_iload hx hb dX8_factsAllow_107 (lv_at hl 1 rfl) ?_
                refine lv_aload_n hx hb dX8_factsAllow_109 rfl (lv_at hl 3 rfl) ?_
                refine x_getR X hK hw h0.1.1 h0.1.2 cpX8 4 (by decide) rfl (st_R h0 2 (by decide)) tw_354 dX8_factsAllow_110 ?_
                refine lv_iload hx hb dX8_factsAllow_113 (lv_at hl 9 rfl) ?_
                refine x_iald X hK hw (st_mem h0 2 (by decide)) (st_S h0 2 (by decide)) hi_2 rfl dX8_factsAllow_115 ?_
                refine lv_icmp_le (tgt := 121) hx hb dX8_factsAllow_116 (by decide) (fun c_18 => ?_) (fun c_18 => ?_)
                · have hf := yb_pos c_18 hf
                  obtain ⟨x6_19, ex6_19, hf⟩ := yb_let_ex hf
                  refine lv_iinc (v := x6_19) (lv' := [(6, .int x6_19), (9, .int (0 : Int32)), (8, .int x4), (7, .int x7_5), (0, .ref t0), (1, .int x1), (2, .int x2), (3, .int x3), (4, .int x4), (5, .int x5)]) hx hb dX8_factsAllow_121 hl (k := 9) rfl (by rw [ex6_19]; rfl) (by decide) rfl (fun ls hl => ?_)
                  refine lv_goto (tgt := 3) hx hb dX8_factsAllow_124 (by decide) ?_
                  exact ih _ _ _ _ _ _ _ _ _ hf hw (lv_sub hl [4, 5, 6, 7, 8, 9, 0] rfl) hret hfin hexit
                · have hf := yb_neg c_18 hf
                  refine lv_iconst (v := (0 : Int32)) hx hb dX8_factsAllow_119 (by decide) ?_
                  exact yb_retz hfin (by decide) (yb_inl hret hf) hw dX8_factsAllow_120
              · have hf := yb_pos c_16 hf
                refine lv_iconst (v := (1 : Int32)) hx hb dX8_factsAllow_80 (by decide) ?_
                refine lv_goto (tgt := 85) hx hb dX8_factsAllow_81 (by decide) ?_
                refine lv_istore (lv' := [(9, .int (1 : Int32)), (8, .int x4), (7, .int x7_5), (0, .ref t0), (1, .int x1), (2, .int x2), (3, .int x3), (4, .int x4), (5, .int x5), (6, .int x6)]) hx hb dX8_factsAllow_85 hl (by decide) rfl (fun ls hl => ?_)
                refine lv_iload hx hb dX8_factsAllow_87 (lv_at hl 0 rfl) ?_
                refine lv_if_eq (tgt := 107) hx hb dX8_factsAllow_89 (by decide) (fun c_20 => absurd c_20 (by decide)) (fun _ => ?_)
                refine lv_iload hx hb dX8_factsAllow_92 (lv_at hl 1 rfl) ?_
                refine lv_aload_n hx hb dX8_factsAllow_94 rfl (lv_at hl 3 rfl) ?_
                refine x_getR X hK hw h0.1.1 h0.1.2 cpX8 4 (by decide) rfl (st_R h0 2 (by decide)) tw_354 dX8_factsAllow_95 ?_
                refine lv_iload hx hb dX8_factsAllow_98 (lv_at hl 9 rfl) ?_
                refine x_iald X hK hw (st_mem h0 2 (by decide)) (st_S h0 2 (by decide)) hi_2 rfl dX8_factsAllow_100 ?_
                refine lv_icmp_ge (tgt := 121) hx hb dX8_factsAllow_101 (by decide) (fun c_21 => ?_) (fun c_21 => ?_)
                · have hf := yb_pos c_21 hf
                  obtain ⟨x6_22, ex6_22, hf⟩ := yb_let_ex hf
                  refine lv_iinc (v := x6_22) (lv' := [(6, .int x6_22), (9, .int (1 : Int32)), (8, .int x4), (7, .int x7_5), (0, .ref t0), (1, .int x1), (2, .int x2), (3, .int x3), (4, .int x4), (5, .int x5)]) hx hb dX8_factsAllow_121 hl (k := 9) rfl (by rw [ex6_22]; rfl) (by decide) rfl (fun ls hl => ?_)
                  refine lv_goto (tgt := 3) hx hb dX8_factsAllow_124 (by decide) ?_
                  exact ih _ _ _ _ _ _ _ _ _ hf hw (lv_sub hl [4, 5, 6, 7, 8, 9, 0] rfl) hret hfin hexit
                · have hf := yb_neg c_21 hf
                  refine lv_goto (tgt := 119) hx hb dX8_factsAllow_104 (by decide) ?_
                  refine lv_iconst (v := (0 : Int32)) hx hb dX8_factsAllow_119 (by decide) ?_
                  exact yb_retz hfin (by decide) (yb_inl hret hf) hw dX8_factsAllow_120
          · have hf := yb_pos c_7 hf
            refine lv_iload_n hx hb dX8_factsAllow_49 rfl (lv_at hl 4 rfl) ?_
            refine lv_goto (tgt := 66) hx hb dX8_factsAllow_50 (by decide) ?_
            refine lv_istore (lv' := [(8, .int x3), (7, .int x7_5), (0, .ref t0), (1, .int x1), (2, .int x2), (3, .int x3), (4, .int x4), (5, .int x5), (6, .int x6)]) hx hb dX8_factsAllow_66 hl (by decide) rfl (fun ls hl => ?_)
            refine lv_aload_n hx hb dX8_factsAllow_68 rfl (lv_at hl 2 rfl) ?_
            refine x_getR X hK hw h0.1.1 h0.1.2 cpX8 3 (by decide) rfl (st_R h0 1 (by decide)) tw_353 dX8_factsAllow_69 ?_
            refine lv_iload hx hb dX8_factsAllow_72 (lv_at hl 8 rfl) ?_
            refine x_iald X hK hw (st_mem h0 1 (by decide)) (st_S h0 1 (by decide)) hi_2 rfl dX8_factsAllow_74 ?_
            refine lv_iconst (v := (1 : Int32)) hx hb dX8_factsAllow_75 (by decide) ?_
            refine lv_iand hx hb dX8_factsAllow_76 ?_
            refine lv_if_ne (tgt := 84) hx hb dX8_factsAllow_77 (by decide) (fun c_23 => ?_) (fun c_23 => ?_)
            · have hf := yb_neg c_23 hf
              refine lv_iconst (v := (0 : Int32)) hx hb dX8_factsAllow_84 (by decide) ?_
              refine lv_istore (lv' := [(9, .int (0 : Int32)), (8, .int x3), (7, .int x7_5), (0, .ref t0), (1, .int x1), (2, .int x2), (3, .int x3), (4, .int x4), (5, .int x5), (6, .int x6)]) hx hb dX8_factsAllow_85 hl (by decide) rfl (fun ls hl => ?_)
              refine lv_iload hx hb dX8_factsAllow_87 (lv_at hl 0 rfl) ?_
              refine lv_if_eq (tgt := 107) hx hb dX8_factsAllow_89 (by decide) (fun _ => ?_) (fun c_24 => absurd (by decide) c_24)
              refine lv_iload hx hb dX8_factsAllow_107 (lv_at hl 1 rfl) ?_
              refine lv_aload_n hx hb dX8_factsAllow_109 rfl (lv_at hl 3 rfl) ?_
              refine x_getR X hK hw h0.1.1 h0.1.2 cpX8 4 (by decide) rfl (st_R h0 2 (by decide)) tw_354 dX8_factsAllow_110 ?_
              refine lv_iload hx hb dX8_factsAllow_113 (lv_at hl 9 rfl) ?_
              refine x_iald X hK hw (st_mem h0 2 (by decide)) (st_S h0 2 (by decide)) hi_2 rfl dX8_factsAllow_115 ?_
              refine lv_icmp_le (tgt := 121) hx hb dX8_factsAllow_116 (by decide) (fun c_25 => ?_) (fun c_25 => ?_)
              · have hf := yb_pos c_25 hf
                obtain ⟨x6_26, ex6_26, hf⟩ := yb_let_ex hf
                refine lv_iinc (v := x6_26) (lv' := [(6, .int x6_26), (9, .int (0 : Int32)), (8, .int x3), (7, .int x7_5), (0, .ref t0), (1, .int x1), (2, .int x2), (3, .int x3), (4, .int x4), (5, .int x5)]) hx hb dX8_factsAllow_121 hl (k := 9) rfl (by rw [ex6_26]; rfl) (by decide) rfl (fun ls hl => ?_)
                refine lv_goto (tgt := 3) hx hb dX8_factsAllow_124 (by decide) ?_
                exact ih _ _ _ _ _ _ _ _ _ hf hw (lv_sub hl [4, 5, 6, 7, 8, 9, 0] rfl) hret hfin hexit
              · have hf := yb_neg c_25 hf
                refine lv_iconst (v := (0 : Int32)) hx hb dX8_factsAllow_119 (by decide) ?_
                exact yb_retz hfin (by decide) (yb_inl hret hf) hw dX8_factsAllow_120
            · have hf := yb_pos c_23 hf
              refine lv_iconst (v := (1 : Int32)) hx hb dX8_factsAllow_80 (by decide) ?_
              refine lv_goto (tgt := 85) hx hb dX8_factsAllow_81 (by decide) ?_
              refine lv_istore (lv' := [(9, .int (1 : Int32)), (8, .int x3), (7, .int x7_5), (0, .ref t0), (1, .int x1), (2, .int x2), (3, .int x3), (4, .int x4), (5, .int x5), (6, .int x6)]) hx hb dX8_factsAllow_85 hl (by decide) rfl (fun ls hl => ?_)
              refine lv_iload hx hb dX8_factsAllow_87 (lv_at hl 0 rfl) ?_
              refine lv_if_eq (tgt := 107) hx hb dX8_factsAllow_89 (by decide) (fun c_27 => absurd c_27 (by decide)) (fun _ => ?_)
              refine lv_iload hx hb dX8_factsAllow_92 (lv_at hl 1 rfl) ?_
              refine lv_aload_n hx hb dX8_factsAllow_94 rfl (lv_at hl 3 rfl) ?_
              refine x_getR X hK hw h0.1.1 h0.1.2 cpX8 4 (by decide) rfl (st_R h0 2 (by decide)) tw_354 dX8_factsAllow_95 ?_
              refine lv_iload hx hb dX8_factsAllow_98 (lv_at hl 9 rfl) ?_
              refine x_iald X hK hw (st_mem h0 2 (by decide)) (st_S h0 2 (by decide)) hi_2 rfl dX8_factsAllow_100 ?_
              refine lv_icmp_ge (tgt := 121) hx hb dX8_factsAllow_101 (by decide) (fun c_28 => ?_) (fun c_28 => ?_)
              · have hf := yb_pos c_28 hf
                obtain ⟨x6_29, ex6_29, hf⟩ := yb_let_ex hf
                refine lv_iinc (v := x6_29) (lv' := [(6, .int x6_29), (9, .int (1 : Int32)), (8, .int x3), (7, .int x7_5), (0, .ref t0), (1, .int x1), (2, .int x2), (3, .int x3), (4, .int x4), (5, .int x5)]) hx hb dX8_factsAllow_121 hl (k := 9) rfl (by rw [ex6_29]; rfl) (by decide) rfl (fun ls hl => ?_)
                refine lv_goto (tgt := 3) hx hb dX8_factsAllow_124 (by decide) ?_
                exact ih _ _ _ _ _ _ _ _ _ hf hw (lv_sub hl [4, 5, 6, 7, 8, 9, 0] rfl) hret hfin hexit
              · have hf := yb_neg c_28 hf
                refine lv_goto (tgt := 119) hx hb dX8_factsAllow_104 (by decide) ?_
                refine lv_iconst (v := (0 : Int32)) hx hb dX8_factsAllow_119 (by decide) ?_
                exact yb_retz hfin (by decide) (yb_inl hret hf) hw dX8_factsAllow_120
        · have hf := yb_pos c_6 hf
          refine lv_iload_n hx hb dX8_factsAllow_39 rfl (lv_at hl 3 rfl) ?_
          refine lv_goto (tgt := 66) hx hb dX8_factsAllow_40 (by decide) ?_
          refine lv_istore (lv' := [(8, .int x2), (7, .int x7_5), (0, .ref t0), (1, .int x1), (2, .int x2), (3, .int x3), (4, .int x4), (5, .int x5), (6, .int x6)]) hx hb dX8_factsAllow_66 hl (by decide) rfl (fun ls hl => ?_)
          refine lv_aload_n hx hb dX8_factsAllow_68 rfl (lv_at hl 2 rfl) ?_
          refine x_getR X hK hw h0.1.1 h0.1.2 cpX8 3 (by decide) rfl (st_R h0 1 (by decide)) tw_353 dX8_factsAllow_69 ?_
          refine lv_iload hx hb dX8_factsAllow_72 (lv_at hl 8 rfl) ?_
          refine x_iald X hK hw (st_mem h0 1 (by decide)) (st_S h0 1 (by decide)) hi_2 rfl dX8_factsAllow_74 ?_
          refine lv_iconst (v := (1 : Int32)) hx hb dX8_factsAllow_75 (by decide) ?_
          refine lv_iand hx hb dX8_factsAllow_76 ?_
          refine lv_if_ne (tgt := 84) hx hb dX8_factsAllow_77 (by decide) (fun c_30 => ?_) (fun c_30 => ?_)
          · have hf := yb_neg c_30 hf
            refine lv_iconst (v := (0 : Int32)) hx hb dX8_factsAllow_84 (by decide) ?_
            refine lv_istore (lv' := [(9, .int (0 : Int32)), (8, .int x2), (7, .int x7_5), (0, .ref t0), (1, .int x1), (2, .int x2), (3, .int x3), (4, .int x4), (5, .int x5), (6, .int x6)]) hx hb dX8_factsAllow_85 hl (by decide) rfl (fun ls hl => ?_)
            refine lv_iload hx hb dX8_factsAllow_87 (lv_at hl 0 rfl) ?_
            refine lv_if_eq (tgt := 107) hx hb dX8_factsAllow_89 (by decide) (fun _ => ?_) (fun c_31 => absurd (by decide) c_31)
            refine lv_iload hx hb dX8_factsAllow_107 (lv_at hl 1 rfl) ?_
            refine lv_aload_n hx hb dX8_factsAllow_109 rfl (lv_at hl 3 rfl) ?_
            refine x_getR X hK hw h0.1.1 h0.1.2 cpX8 4 (by decide) rfl (st_R h0 2 (by decide)) tw_354 dX8_factsAllow_110 ?_
            refine lv_iload hx hb dX8_factsAllow_113 (lv_at hl 9 rfl) ?_
            refine x_iald X hK hw (st_mem h0 2 (by decide)) (st_S h0 2 (by decide)) hi_2 rfl dX8_factsAllow_115 ?_
            refine lv_icmp_le (tgt := 121) hx hb dX8_factsAllow_116 (by decide) (fun c_32 => ?_) (fun c_32 => ?_)
            · have hf := yb_pos c_32 hf
              obtain ⟨x6_33, ex6_33, hf⟩ := yb_let_ex hf
              refine lv_iinc (v := x6_33) (lv' := [(6, .int x6_33), (9, .int (0 : Int32)), (8, .int x2), (7, .int x7_5), (0, .ref t0), (1, .int x1), (2, .int x2), (3, .int x3), (4, .int x4), (5, .int x5)]) hx hb dX8_factsAllow_121 hl (k := 9) rfl (by rw [ex6_33]; rfl) (by decide) rfl (fun ls hl => ?_)
              refine lv_goto (tgt := 3) hx hb dX8_factsAllow_124 (by decide) ?_
              exact ih _ _ _ _ _ _ _ _ _ hf hw (lv_sub hl [4, 5, 6, 7, 8, 9, 0] rfl) hret hfin hexit
            · have hf := yb_neg c_32 hf
              refine lv_iconst (v := (0 : Int32)) hx hb dX8_factsAllow_119 (by decide) ?_
              exact yb_retz hfin (by decide) (yb_inl hret hf) hw dX8_factsAllow_120
          · have hf := yb_pos c_30 hf
            refine lv_iconst (v := (1 : Int32)) hx hb dX8_factsAllow_80 (by decide) ?_
            refine lv_goto (tgt := 85) hx hb dX8_factsAllow_81 (by decide) ?_
            refine lv_istore (lv' := [(9, .int (1 : Int32)), (8, .int x2), (7, .int x7_5), (0, .ref t0), (1, .int x1), (2, .int x2), (3, .int x3), (4, .int x4), (5, .int x5), (6, .int x6)]) hx hb dX8_factsAllow_85 hl (by decide) rfl (fun ls hl => ?_)
            refine lv_iload hx hb dX8_factsAllow_87 (lv_at hl 0 rfl) ?_
            refine lv_if_eq (tgt := 107) hx hb dX8_factsAllow_89 (by decide) (fun c_34 => absurd c_34 (by decide)) (fun _ => ?_)
            refine lv_iload hx hb dX8_factsAllow_92 (lv_at hl 1 rfl) ?_
            refine lv_aload_n hx hb dX8_factsAllow_94 rfl (lv_at hl 3 rfl) ?_
            refine x_getR X hK hw h0.1.1 h0.1.2 cpX8 4 (by decide) rfl (st_R h0 2 (by decide)) tw_354 dX8_factsAllow_95 ?_
            refine lv_iload hx hb dX8_factsAllow_98 (lv_at hl 9 rfl) ?_
            refine x_iald X hK hw (st_mem h0 2 (by decide)) (st_S h0 2 (by decide)) hi_2 rfl dX8_factsAllow_100 ?_
            refine lv_icmp_ge (tgt := 121) hx hb dX8_factsAllow_101 (by decide) (fun c_35 => ?_) (fun c_35 => ?_)
            · have hf := yb_pos c_35 hf
              obtain ⟨x6_36, ex6_36, hf⟩ := yb_let_ex hf
              refine lv_iinc (v := x6_36) (lv' := [(6, .int x6_36), (9, .int (1 : Int32)), (8, .int x2), (7, .int x7_5), (0, .ref t0), (1, .int x1), (2, .int x2), (3, .int x3), (4, .int x4), (5, .int x5)]) hx hb dX8_factsAllow_121 hl (k := 9) rfl (by rw [ex6_36]; rfl) (by decide) rfl (fun ls hl => ?_)
              refine lv_goto (tgt := 3) hx hb dX8_factsAllow_124 (by decide) ?_
              exact ih _ _ _ _ _ _ _ _ _ hf hw (lv_sub hl [4, 5, 6, 7, 8, 9, 0] rfl) hret hfin hexit
            · have hf := yb_neg c_35 hf
              refine lv_goto (tgt := 119) hx hb dX8_factsAllow_104 (by decide) ?_
              refine lv_iconst (v := (0 : Int32)) hx hb dX8_factsAllow_119 (by decide) ?_
              exact yb_retz hfin (by decide) (yb_inl hret hf) hw dX8_factsAllow_120
set_option maxHeartbeats 4000000 in
set_option maxRecDepth 100000 in
theorem c8_factsAllow (l : Launch) (D : va_G) (cz : Nat → ClassId) (ev : Nat × Nat × Nat) {b : Nat} {L : List Nat} {S : ST} {Rf : RT} (hC : CW b L S Rf) {t0 : Nat} (h0 : StateAt L S Rf t0) {N : Nat} {x1 : Int32} {x2 : Int32} {x3 : Int32} {x4 : Int32} {x5 : Int32} {I : IT} {J : JT} {r : Int32} {I1 : IT} {J1 : JT} (hf : f8_factsAllow N b S Rf t0 x1 x2 x3 x4 x5 I J = some (r, I1, J1)) : MTi l D cz ev yX8_factsAllow cX8_factsAllow 10 (some .boolean) 0 0 [.ref t0, .int x1, .int x2, .int x3, .int x4, .int x5] L S Rf I J r I1 J1 := by
  unfold f8_factsAllow at hf
  refine MTz_of (by decide) (Nat.le_of_ble_eq_true rfl) ?_
  intro p e s m args below meth c Q ls X hK hw hl hfin
  have X : CallFix p m c cX8_factsAllow 10 s args gw RX8 := X
  have hx := X.1
  have hb := X.2.1
  have hl : lv_has ls 10 [(0, .ref t0), (1, .int x1), (2, .int x2), (3, .int x3), (4, .int x4), (5, .int x5)] := hl
  refine lv_iconst (v := (0 : Int32)) hx hb dX8_factsAllow_0 (by decide) ?_
  refine lv_istore (lv' := [(6, .int (0 : Int32)), (0, .ref t0), (1, .int x1), (2, .int x2), (3, .int x3), (4, .int x4), (5, .int x5)]) hx hb dX8_factsAllow_1 hl (by decide) rfl (fun ls hl => ?_)
  obtain ⟨q_37, I_38, J_39, hq_40, hf⟩ := yb_b3_some hf
  refine w8_factsAllow_L3 hC h0 X hK _ _ _ _ _ _ _ _ _ _ hq_40 hw (lv_sub hl [1, 2, 3, 4, 5, 6, 0] rfl) (fun v hv => by rw [hv] at hf; exact hf) hfin (fun x_42 hx1 H locs ls hw hl => ?_)
  rw [hx1] at hf
  have hf := yb_sm_r hf
  refine lv_iconst (v := (1 : Int32)) hx hb dX8_factsAllow_127 (by decide) ?_
  exact yb_retz hfin (by decide) hf hw dX8_factsAllow_128
set_option maxHeartbeats 4000000 in
set_option maxRecDepth 100000 in
theorem c7_weigh (l : Launch) (D : va_G) (cz : Nat → ClassId) (ev : Nat × Nat × Nat) {b : Nat} {L : List Nat} {S : ST} {Rf : RT} (hC : CW b L S Rf) {N : Nat} {x1 : Int32} {x2 : Int32} {x3 : Int32} {I : IT} {J : JT} {r : Unit} {I1 : IT} {J1 : JT} (hf : f7_weigh N b S Rf x1 x2 x3 I J = some (r, I1, J1)) : MTv l D cz ev yX7_weigh cX7_weigh 6 (none) 3 77 [.ref (b + 48), .int x1, .int x2, .int x3] L S Rf I J r I1 J1 := by
  unfold f7_weigh at hf
  refine MTv_of (by decide) (Nat.le_of_ble_eq_true rfl) ?_
  intro p e s m args below meth c Q ls X hK hw hl hfin
  have X : CallFix p m c cX7_weigh 6 s args gw RX7 := X
  have hx := X.1
  have hb := X.2.1
  have hl : lv_has ls 6 [(0, .ref (b + 48)), (1, .int x1), (2, .int x2), (3, .int x3)] := hl
  refine lv_aload_n hx hb dX7_weigh_0 rfl (lv_at hl 0 rfl) ?_
  refine x_getR X hK hw (cw_mem hC 48 (by decide)) (cw_S hC 48 rfl) cpX7 0 (by decide) rfl (cw_R hC 48 0 (by decide) rfl) tw_485 dX7_weigh_1 ?_
  refine x_getR X hK hw (cw_mem hC 30 (by decide)) (cw_S hC 30 rfl) cpX1 0 (by decide) rfl (cw_R hC 30 0 (by decide) rfl) tw_406 dX7_weigh_4 ?_
  refine lv_astore (lv' := [(4, .ref (b + 4)), (0, .ref (b + 48)), (1, .int x1), (2, .int x2), (3, .int x3)]) hx hb dX7_weigh_7 hl (by decide) rfl (fun ls hl => ?_)
  refine lv_aload_n hx hb dX7_weigh_9 rfl (lv_at hl 1 rfl) ?_
  refine x_getR X hK hw (cw_mem hC 48 (by decide)) (cw_S hC 48 rfl) cpX7 0 (by decide) rfl (cw_R hC 48 0 (by decide) rfl) tw_485 dX7_weigh_10 ?_
  refine lv_iload_n hx hb dX7_weigh_13 rfl (lv_at hl 3 rfl) ?_
  refine lv_iload_n hx hb dX7_weigh_14 rfl (lv_at hl 4 rfl) ?_
  refine lv_iconst (v := (0 : Int32)) hx hb dX7_weigh_15 (by decide) ?_
  obtain ⟨r_1, I_2, J_3, hq_4, hf⟩ := yb_b3_some hf
  refine x_calli X hK hw (c1_rightOf l D cz ev hC hq_4) (cw_mem hC 30 (by decide)) (cw_S hC 30 rfl) cpX1.1 vw_X7_73 ⟨Nat.le_of_ble_eq_true rfl, Nat.le_of_ble_eq_true rfl⟩ rfl rfl (Nat.le_of_ble_eq_true rfl) hl.1 ⟨Nat.le_refl _, Nat.le_refl _⟩ dX7_weigh_16 (fun H locs hw => ?_)
  refine lv_istore (lv' := [(5, .int r_1), (4, .ref (b + 4)), (0, .ref (b + 48)), (1, .int x1), (2, .int x2), (3, .int x3)]) hx hb dX7_weigh_19 hl (by decide) rfl (fun ls hl => ?_)
  refine lv_aload hx hb dX7_weigh_21 (lv_at hl 1 rfl) ?_
  refine lv_iload_n hx hb dX7_weigh_23 rfl (lv_at hl 3 rfl) ?_
  refine lv_aload hx hb dX7_weigh_24 (lv_at hl 1 rfl) ?_
  refine x_getR X hK hw (cw_now hC).1.1 (cw_now hC).1.2 cpX8 0 (by decide) rfl (cw_now hC).2.1.1 tw_344 dX7_weigh_26 ?_
  refine x_getR X hK hw (st_town (cw_now hC)).1.1 (st_town (cw_now hC)).1.2 cpX9 0 (by decide) rfl (ta_R (st_town (cw_now hC)) 0 (by decide)) tw_192 dX7_weigh_29 ?_
  refine lv_iload_n hx hb dX7_weigh_32 rfl (lv_at hl 4 rfl) ?_
  obtain ⟨hi_5, hf⟩ := yb_ck_some hf
  refine x_iald X hK hw (ta_mem (st_town (cw_now hC)) 0 (by decide)) (ta_S (st_town (cw_now hC)) 0 rfl) hi_5 rfl dX7_weigh_33 ?_
  refine lv_iload_n hx hb dX7_weigh_34 rfl (lv_at hl 5 rfl) ?_
  refine lv_iadd hx hb dX7_weigh_35 ?_
  refine lv_aload hx hb dX7_weigh_36 (lv_at hl 1 rfl) ?_
  refine x_getR X hK hw (cw_now hC).1.1 (cw_now hC).1.2 cpX8 1 (by decide) rfl (cw_now hC).2.2.1.1 tw_349 dX7_weigh_38 ?_
  refine x_getR X hK hw (st_course (cw_now hC)).1.1 (st_course (cw_now hC)).1.2 cpX0 0 (by decide) rfl (ca_R (st_course (cw_now hC)) 0 (by decide)) tw_288 dX7_weigh_41 ?_
  refine lv_iload_n hx hb dX7_weigh_44 rfl (lv_at hl 4 rfl) ?_
  refine x_iald X hK hw (ca_mem (st_course (cw_now hC)) 0 (by decide)) (ca_S (st_course (cw_now hC)) 0 rfl) hi_5 rfl dX7_weigh_45 ?_
  refine lv_iload_n hx hb dX7_weigh_46 rfl (lv_at hl 5 rfl) ?_
  refine lv_iload hx hb dX7_weigh_47 (lv_at hl 0 rfl) ?_
  obtain ⟨r_6, I_7, J_8, hq_9, hf⟩ := yb_b3_some hf
  refine x_calli X hK hw (c8_factsAllow l D cz ev hC (cw_now hC) hq_9) (cw_now hC).1.1 (cw_now hC).1.2 cpX8.1 vw_X7_89 ⟨Nat.le_of_ble_eq_true rfl, Nat.le_of_ble_eq_true rfl⟩ rfl rfl (Nat.le_of_ble_eq_true rfl) hl.1 ⟨Nat.le_refl _, Nat.le_refl _⟩ dX7_weigh_49 (fun H locs hw => ?_)
  refine lv_if_ne (tgt := 56) hx hb dX7_weigh_52 (by decide) (fun c_10 => ?_) (fun c_10 => ?_)
  · have hf := yb_neg c_10 hf
    refine lv_aload_n hx hb dX7_weigh_56 rfl (lv_at hl 2 rfl) ?_
    refine x_getI X hK hw (cw_mem hC 48 (by decide)) (cw_S hC 48 rfl) cpX7 4 (by decide) rfl tw_489 dX7_weigh_57 ?_
    refine lv_if_ne (tgt := 73) hx hb dX7_weigh_60 (by decide) (fun c_11 => ?_) (fun c_11 => ?_)
    · have hf := yb_neg c_11 hf
      refine lv_aload_n hx hb dX7_weigh_73 rfl (lv_at hl 2 rfl) ?_
      refine lv_dup hx hb dX7_weigh_74 rfl ?_
      refine x_getI X hK hw (cw_mem hC 48 (by decide)) (cw_S hC 48 rfl) cpX7 4 (by decide) rfl tw_489 dX7_weigh_75 ?_
      refine lv_iconst (v := (1 : Int32)) hx hb dX7_weigh_78 (by decide) ?_
      refine lv_iadd hx hb dX7_weigh_79 ?_
      refine x_putI X hK hw (cw_mem hC 48 (by decide)) (cw_S hC 48 rfl) cpX7 4 (by decide) rfl rfl rfl tw_489 dX7_weigh_80 (fun H locs hw => ?_)
      obtain ⟨I_12, eI_12, hf⟩ := yb_let_ex hf
      have hw := yb_wI eI_12 hw
      refine lv_aload_n hx hb dX7_weigh_83 rfl (lv_at hl 2 rfl) ?_
      refine lv_dup hx hb dX7_weigh_84 rfl ?_
      refine x_getI X hK hw (cw_mem hC 48 (by decide)) (cw_S hC 48 rfl) cpX7 7 (by decide) rfl tw_495 dX7_weigh_85 ?_
      refine lv_iconst (v := (1 : Int32)) hx hb dX7_weigh_88 (by decide) ?_
      refine lv_iload_n hx hb dX7_weigh_89 rfl (lv_at hl 4 rfl) ?_
      refine lv_ishl hx hb dX7_weigh_90 ?_
      refine lv_ior hx hb dX7_weigh_91 ?_
      refine x_putI X hK hw (cw_mem hC 48 (by decide)) (cw_S hC 48 rfl) cpX7 7 (by decide) rfl rfl rfl tw_495 dX7_weigh_92 (fun H locs hw => ?_)
      obtain ⟨I_13, eI_13, hf⟩ := yb_let_ex hf
      have hw := yb_wI eI_13 hw
      refine lv_aload_n hx hb dX7_weigh_95 rfl (lv_at hl 2 rfl) ?_
      refine x_getR X hK hw (cw_mem hC 48 (by decide)) (cw_S hC 48 rfl) cpX7 1 (by decide) rfl (cw_R hC 48 1 (by decide) rfl) tw_486 dX7_weigh_96 ?_
      refine lv_iload_n hx hb dX7_weigh_99 rfl (lv_at hl 4 rfl) ?_
      refine lv_dup2_11 hx hb dX7_weigh_100 rfl rfl ?_
      refine x_iald X hK hw (cw_mem hC 49 (by decide)) (cw_S hC 49 rfl) hi_5 rfl dX7_weigh_101 ?_
      refine lv_iconst (v := (1 : Int32)) hx hb dX7_weigh_102 (by decide) ?_
      refine lv_iadd hx hb dX7_weigh_103 ?_
      refine x_iast X hK hw (cw_mem hC 49 (by decide)) (cw_S hC 49 rfl) hi_5 rfl dX7_weigh_104 (fun H locs hw => ?_)
      obtain ⟨I_14, eI_14, hf⟩ := yb_let_ex hf
      have hw := yb_wI eI_14 hw
      refine lv_aload_n hx hb dX7_weigh_105 rfl (lv_at hl 2 rfl) ?_
      refine x_getR X hK hw (cw_mem hC 48 (by decide)) (cw_S hC 48 rfl) cpX7 2 (by decide) rfl (cw_R hC 48 2 (by decide) rfl) tw_487 dX7_weigh_106 ?_
      refine lv_iload_n hx hb dX7_weigh_109 rfl (lv_at hl 5 rfl) ?_
      refine lv_dup2_11 hx hb dX7_weigh_110 rfl rfl ?_
      obtain ⟨hi_15, hf⟩ := yb_ck_some hf
      refine x_iald X hK hw (cw_mem hC 50 (by decide)) (cw_S hC 50 rfl) hi_15 rfl dX7_weigh_111 ?_
      refine lv_iconst (v := (1 : Int32)) hx hb dX7_weigh_112 (by decide) ?_
      refine lv_iadd hx hb dX7_weigh_113 ?_
      refine x_iast X hK hw (cw_mem hC 50 (by decide)) (cw_S hC 50 rfl) hi_15 rfl dX7_weigh_114 (fun H locs hw => ?_)
      obtain ⟨I_16, eI_16, hf⟩ := yb_let_ex hf
      have hw := yb_wI eI_16 hw
      refine lv_aload_n hx hb dX7_weigh_115 rfl (lv_at hl 2 rfl) ?_
      refine x_getR X hK hw (cw_mem hC 48 (by decide)) (cw_S hC 48 rfl) cpX7 3 (by decide) rfl (cw_R hC 48 3 (by decide) rfl) tw_488 dX7_weigh_116 ?_
      refine lv_iload hx hb dX7_weigh_119 (lv_at hl 0 rfl) ?_
      refine lv_dup2_11 hx hb dX7_weigh_121 rfl rfl ?_
      obtain ⟨hi_17, hf⟩ := yb_ck_some hf
      refine x_iald X hK hw (cw_mem hC 51 (by decide)) (cw_S hC 51 rfl) hi_17 rfl dX7_weigh_122 ?_
      refine lv_iconst (v := (1 : Int32)) hx hb dX7_weigh_123 (by decide) ?_
      refine lv_iadd hx hb dX7_weigh_124 ?_
      refine x_iast X hK hw (cw_mem hC 51 (by decide)) (cw_S hC 51 rfl) hi_17 rfl dX7_weigh_125 (fun H locs hw => ?_)
      obtain ⟨I_18, eI_18, hf⟩ := yb_let_ex hf
      have hw := yb_wI eI_18 hw
      exact yb_retv hfin hf hw dX7_weigh_126
    · have hf := yb_pos c_11 hf
      refine lv_aload_n hx hb dX7_weigh_63 rfl (lv_at hl 2 rfl) ?_
      refine lv_iload_n hx hb dX7_weigh_64 rfl (lv_at hl 4 rfl) ?_
      refine x_putI X hK hw (cw_mem hC 48 (by decide)) (cw_S hC 48 rfl) cpX7 5 (by decide) rfl rfl rfl tw_491 dX7_weigh_65 (fun H locs hw => ?_)
      obtain ⟨I_19, eI_19, hf⟩ := yb_let_ex hf
      have hw := yb_wI eI_19 hw
      refine lv_aload_n hx hb dX7_weigh_68 rfl (lv_at hl 2 rfl) ?_
      refine lv_iload_n hx hb dX7_weigh_69 rfl (lv_at hl 5 rfl) ?_
      refine x_putI X hK hw (cw_mem hC 48 (by decide)) (cw_S hC 48 rfl) cpX7 6 (by decide) rfl rfl rfl tw_493 dX7_weigh_70 (fun H locs hw => ?_)
      obtain ⟨I_20, eI_20, hf⟩ := yb_let_ex hf
      have hw := yb_wI eI_20 hw
      refine lv_aload_n hx hb dX7_weigh_73 rfl (lv_at hl 2 rfl) ?_
      refine lv_dup hx hb dX7_weigh_74 rfl ?_
      refine x_getI X hK hw (cw_mem hC 48 (by decide)) (cw_S hC 48 rfl) cpX7 4 (by decide) rfl tw_489 dX7_weigh_75 ?_
      refine lv_iconst (v := (1 : Int32)) hx hb dX7_weigh_78 (by decide) ?_
      refine lv_iadd hx hb dX7_weigh_79 ?_
      refine x_putI X hK hw (cw_mem hC 48 (by decide)) (cw_S hC 48 rfl) cpX7 4 (by decide) rfl rfl rfl tw_489 dX7_weigh_80 (fun H locs hw => ?_)
      obtain ⟨I_21, eI_21, hf⟩ := yb_let_ex hf
      have hw := yb_wI eI_21 hw
      refine lv_aload_n hx hb dX7_weigh_83 rfl (lv_at hl 2 rfl) ?_
      refine lv_dup hx hb dX7_weigh_84 rfl ?_
      refine x_getI X hK hw (cw_mem hC 48 (by decide)) (cw_S hC 48 rfl) cpX7 7 (by decide) rfl tw_495 dX7_weigh_85 ?_
      refine lv_iconst (v := (1 : Int32)) hx hb dX7_weigh_88 (by decide) ?_
      refine lv_iload_n hx hb dX7_weigh_89 rfl (lv_at hl 4 rfl) ?_
      refine lv_ishl hx hb dX7_weigh_90 ?_
      refine lv_ior hx hb dX7_weigh_91 ?_
      refine x_putI X hK hw (cw_mem hC 48 (by decide)) (cw_S hC 48 rfl) cpX7 7 (by decide) rfl rfl rfl tw_495 dX7_weigh_92 (fun H locs hw => ?_)
      obtain ⟨I_22, eI_22, hf⟩ := yb_let_ex hf
      have hw := yb_wI eI_22 hw
      refine lv_aload_n hx hb dX7_weigh_95 rfl (lv_at hl 2 rfl) ?_
      refine x_getR X hK hw (cw_mem hC 48 (by decide)) (cw_S hC 48 rfl) cpX7 1 (by decide) rfl (cw_R hC 48 1 (by decide) rfl) tw_486 dX7_weigh_96 ?_
      refine lv_iload_n hx hb dX7_weigh_99 rfl (lv_at hl 4 rfl) ?_
      refine lv_dup2_11 hx hb dX7_weigh_100 rfl rfl ?_
      refine x_iald X hK hw (cw_mem hC 49 (by decide)) (cw_S hC 49 rfl) hi_5 rfl dX7_weigh_101 ?_
      refine lv_iconst (v := (1 : Int32)) hx hb dX7_weigh_102 (by decide) ?_
      refine lv_iadd hx hb dX7_weigh_103 ?_
      refine x_iast X hK hw (cw_mem hC 49 (by decide)) (cw_S hC 49 rfl) hi_5 rfl dX7_weigh_104 (fun H locs hw => ?_)
      obtain ⟨I_23, eI_23, hf⟩ := yb_let_ex hf
      have hw := yb_wI eI_23 hw
      refine lv_aload_n hx hb dX7_weigh_105 rfl (lv_at hl 2 rfl) ?_
      refine x_getR X hK hw (cw_mem hC 48 (by decide)) (cw_S hC 48 rfl) cpX7 2 (by decide) rfl (cw_R hC 48 2 (by decide) rfl) tw_487 dX7_weigh_106 ?_
      refine lv_iload_n hx hb dX7_weigh_109 rfl (lv_at hl 5 rfl) ?_
      refine lv_dup2_11 hx hb dX7_weigh_110 rfl rfl ?_
      obtain ⟨hi_24, hf⟩ := yb_ck_some hf
      refine x_iald X hK hw (cw_mem hC 50 (by decide)) (cw_S hC 50 rfl) hi_24 rfl dX7_weigh_111 ?_
      refine lv_iconst (v := (1 : Int32)) hx hb dX7_weigh_112 (by decide) ?_
      refine lv_iadd hx hb dX7_weigh_113 ?_
      refine x_iast X hK hw (cw_mem hC 50 (by decide)) (cw_S hC 50 rfl) hi_24 rfl dX7_weigh_114 (fun H locs hw => ?_)
      obtain ⟨I_25, eI_25, hf⟩ := yb_let_ex hf
      have hw := yb_wI eI_25 hw
      refine lv_aload_n hx hb dX7_weigh_115 rfl (lv_at hl 2 rfl) ?_
      refine x_getR X hK hw (cw_mem hC 48 (by decide)) (cw_S hC 48 rfl) cpX7 3 (by decide) rfl (cw_R hC 48 3 (by decide) rfl) tw_488 dX7_weigh_116 ?_
      refine lv_iload hx hb dX7_weigh_119 (lv_at hl 0 rfl) ?_
      refine lv_dup2_11 hx hb dX7_weigh_121 rfl rfl ?_
      obtain ⟨hi_26, hf⟩ := yb_ck_some hf
      refine x_iald X hK hw (cw_mem hC 51 (by decide)) (cw_S hC 51 rfl) hi_26 rfl dX7_weigh_122 ?_
      refine lv_iconst (v := (1 : Int32)) hx hb dX7_weigh_123 (by decide) ?_
      refine lv_iadd hx hb dX7_weigh_124 ?_
      refine x_iast X hK hw (cw_mem hC 51 (by decide)) (cw_S hC 51 rfl) hi_26 rfl dX7_weigh_125 (fun H locs hw => ?_)
      obtain ⟨I_27, eI_27, hf⟩ := yb_let_ex hf
      have hw := yb_wI eI_27 hw
      exact yb_retv hfin hf hw dX7_weigh_126
  · have hf := yb_pos c_10 hf
    exact yb_retv hfin hf hw dX7_weigh_55
set_option maxHeartbeats 4000000 in
set_option maxRecDepth 100000 in
theorem w7_sift_L76 {p : Program} {l : Launch} {e : Env} {s : State} {m : MethodId} {args : Array Value} {below : List Frame} {meth : Method} {c : Code} {Q : State → Prop} {D : va_G} {cz : Nat → ClassId} {A : Nat → Prop} {ev : Nat × Nat × Nat} {b : Nat} {L : List Nat} {S : ST} {Rf : RT} (hC : CW b L S Rf) (X : CallFix p m c cX7_sift 4 s args gw RX7) (hK : KX D cz ev A s) {N : Nat} {x1 : Int32} {x2 : Int32} :
    ∀ (n : Nat) (x3 : Int32) (I : IT) (J : JT) (q : (Unit)) (I1 : IT) (J1 : JT) (H : Heap) (locs : List Loc) (ls : Array Slot), f7_sift_L76 N b S Rf x1 x2 n x3 I J = some (q, I1, J1) → WX D cz A L S Rf s.heap I J H locs → lv_has ls 4 [(0, .ref (b + 48)), (1, .int x1), (2, .int x2), (3, .int x3)] →
    (∀ (H : Heap) (locs : List Loc) (ls : Array Slot), WX D cz A L S Rf s.heap I1 J1 H locs → lv_has ls 4 [(0, .ref (b + 48)), (1, .int x1), (2, .int x2)] → W p l e (rmX 4 102) s m args below meth c H locs 0 0 Q (F0 m 108 ls [])) →
    W p l e (rmX 4 102) s m args below meth c H locs 0 0 Q (F0 m 76 ls []) := by
  have hx := X.1
  have hb := X.2.1
  intro n
  induction n with
  | zero =>
    intro x3 I J q I1 J1 H locs ls hf
    rw [f7_sift_L76] at hf
    cases hf
  | succ n ih =>
    intro x3 I J q I1 J1 H locs ls hf hw hl hexit
    rw [f7_sift_L76] at hf
    refine lv_iload_n hx hb dX7_sift_76 rfl (lv_at hl 3 rfl) ?_
    refine lv_bipush (v := (61 : Int32)) hx hb dX7_sift_77 (by decide) ?_
    refine lv_icmp_ge (tgt := 108) hx hb dX7_sift_79 (by decide) (fun c_22 => ?_) (fun c_22 => ?_)
    · have hf := yb_pos c_22 hf
      obtain ⟨rfl, rfl, rfl⟩ := yb_inj hf
      exact hexit _ _ _ hw (lv_sub hl [0, 1, 2] rfl)
    · have hf := yb_neg c_22 hf
      refine lv_aload_n hx hb dX7_sift_82 rfl (lv_at hl 0 rfl) ?_
      refine x_getR X hK hw (cw_mem hC 48 (by decide)) (cw_S hC 48 rfl) cpX7 0 (by decide) rfl (cw_R hC 48 0 (by decide) rfl) tw_485 dX7_sift_83 ?_
      refine lv_iload_n hx hb dX7_sift_86 rfl (lv_at hl 1 rfl) ?_
      refine lv_iload_n hx hb dX7_sift_87 rfl (lv_at hl 2 rfl) ?_
      refine lv_iload_n hx hb dX7_sift_88 rfl (lv_at hl 3 rfl) ?_
      obtain ⟨r_23, I_24, J_25, hq_26, hf⟩ := yb_b3_some hf
      refine x_calli X hK hw (c1_canHear l D cz ev hC hq_26) (cw_mem hC 30 (by decide)) (cw_S hC 30 rfl) cpX1.1 vw_X7_65 ⟨Nat.le_of_ble_eq_true rfl, Nat.le_of_ble_eq_true rfl⟩ rfl rfl (Nat.le_of_ble_eq_true rfl) hl.1 ⟨Nat.le_refl _, Nat.le_refl _⟩ dX7_sift_89 (fun H locs hw => ?_)
      refine lv_if_eq (tgt := 102) hx hb dX7_sift_92 (by decide) (fun c_27 => ?_) (fun c_27 => ?_)
      · have hf := yb_pos c_27 hf
        obtain ⟨x3_28, ex3_28, hf⟩ := yb_let_ex hf
        refine lv_iinc (v := x3_28) (lv' := [(3, .int x3_28), (0, .ref (b + 48)), (1, .int x1), (2, .int x2)]) hx hb dX7_sift_102 hl (k := 3) rfl (by rw [ex3_28]; rfl) (by decide) rfl (fun ls hl => ?_)
        refine lv_goto (tgt := 76) hx hb dX7_sift_105 (by decide) ?_
        exact ih _ _ _ _ _ _ _ _ _ hf hw (lv_sub hl [1, 2, 3, 0] rfl) hexit
      · have hf := yb_neg c_27 hf
        refine lv_aload_n hx hb dX7_sift_95 rfl (lv_at hl 0 rfl) ?_
        refine lv_iload_n hx hb dX7_sift_96 rfl (lv_at hl 1 rfl) ?_
        refine lv_iload_n hx hb dX7_sift_97 rfl (lv_at hl 2 rfl) ?_
        refine lv_iload_n hx hb dX7_sift_98 rfl (lv_at hl 3 rfl) ?_
        obtain ⟨r_29, I_30, J_31, hq_32, hf⟩ := yb_b3_some hf
        refine x_callv X hK hw (c7_weigh l D cz ev hC hq_32) (cw_mem hC 48 (by decide)) (cw_S hC 48 rfl) cpX7.1 vw_X7_69 ⟨Nat.le_of_ble_eq_true rfl, Nat.le_of_ble_eq_true rfl⟩ rfl rfl (Nat.le_of_ble_eq_true rfl) hl.1 ⟨Nat.le_refl _, Nat.le_refl _⟩ dX7_sift_99 (fun H locs hw => ?_)
        obtain ⟨x3_33, ex3_33, hf⟩ := yb_let_ex hf
        refine lv_iinc (v := x3_33) (lv' := [(3, .int x3_33), (0, .ref (b + 48)), (1, .int x1), (2, .int x2)]) hx hb dX7_sift_102 hl (k := 3) rfl (by rw [ex3_33]; rfl) (by decide) rfl (fun ls hl => ?_)
        refine lv_goto (tgt := 76) hx hb dX7_sift_105 (by decide) ?_
        exact ih _ _ _ _ _ _ _ _ _ hf hw (lv_sub hl [1, 2, 3, 0] rfl) hexit
set_option maxHeartbeats 4000000 in
set_option maxRecDepth 100000 in
theorem w7_sift_L57 {p : Program} {l : Launch} {e : Env} {s : State} {m : MethodId} {args : Array Value} {below : List Frame} {meth : Method} {c : Code} {Q : State → Prop} {D : va_G} {cz : Nat → ClassId} {A : Nat → Prop} {ev : Nat × Nat × Nat} {b : Nat} {L : List Nat} {S : ST} {Rf : RT} (hC : CW b L S Rf) (X : CallFix p m c cX7_sift 4 s args gw RX7) (hK : KX D cz ev A s) {N : Nat} {x1 : Int32} :
    ∀ (n : Nat) (x2 : Int32) (I : IT) (J : JT) (q : (Unit)) (I1 : IT) (J1 : JT) (H : Heap) (locs : List Loc) (ls : Array Slot), f7_sift_L57 N b S Rf x1 n x2 I J = some (q, I1, J1) → WX D cz A L S Rf s.heap I J H locs → lv_has ls 4 [(0, .ref (b + 48)), (1, .int x1), (2, .int x2)] →
    (∀ (H : Heap) (locs : List Loc) (ls : Array Slot), WX D cz A L S Rf s.heap I1 J1 H locs → lv_has ls 4 [] → W p l e (rmX 4 102) s m args below meth c H locs 0 0 Q (F0 m 114 ls [])) →
    W p l e (rmX 4 102) s m args below meth c H locs 0 0 Q (F0 m 57 ls []) := by
  have hx := X.1
  have hb := X.2.1
  intro n
  induction n with
  | zero =>
    intro x2 I J q I1 J1 H locs ls hf
    rw [f7_sift_L57] at hf
    cases hf
  | succ n ih =>
    intro x2 I J q I1 J1 H locs ls hf hw hl hexit
    rw [f7_sift_L57] at hf
    refine lv_iload_n hx hb dX7_sift_57 rfl (lv_at hl 2 rfl) ?_
    refine lv_aload_n hx hb dX7_sift_58 rfl (lv_at hl 0 rfl) ?_
    refine x_getR X hK hw (cw_mem hC 48 (by decide)) (cw_S hC 48 rfl) cpX7 0 (by decide) rfl (cw_R hC 48 0 (by decide) rfl) tw_485 dX7_sift_59 ?_
    refine x_getR X hK hw (cw_mem hC 30 (by decide)) (cw_S hC 30 rfl) cpX1 0 (by decide) rfl (cw_R hC 30 0 (by decide) rfl) tw_406 dX7_sift_62 ?_
    refine x_getR X hK hw (cw_now hC).1.1 (cw_now hC).1.2 cpX8 0 (by decide) rfl (cw_now hC).2.1.1 tw_344 dX7_sift_65 ?_
    refine x_getI X hK hw (st_town (cw_now hC)).1.1 (st_town (cw_now hC)).1.2 cpX9 13 (by decide) rfl tw_240 dX7_sift_68 ?_
    refine lv_icmp_ge (tgt := 114) hx hb dX7_sift_71 (by decide) (fun c_21 => ?_) (fun c_21 => ?_)
    · have hf := yb_pos c_21 hf
      obtain ⟨rfl, rfl, rfl⟩ := yb_inj hf
      exact hexit _ _ _ hw (lv_sub hl [] rfl)
    · have hf := yb_neg c_21 hf
      refine lv_iconst (v := (0 : Int32)) hx hb dX7_sift_74 (by decide) ?_
      refine lv_istore_n (lv' := [(3, .int (0 : Int32)), (0, .ref (b + 48)), (1, .int x1), (2, .int x2)]) hx hb dX7_sift_75 rfl hl (by decide) rfl (fun ls hl => ?_)
      obtain ⟨q_34, I_35, J_36, hq_37, hf⟩ := yb_b3_some hf
      refine w7_sift_L76 hC X hK _ _ _ _ _ _ _ _ _ _ hq_37 hw (lv_sub hl [1, 2, 3, 0] rfl) (fun H locs ls hw hl => ?_)
      obtain ⟨x2_38, ex2_38, hf⟩ := yb_let_ex hf
      refine lv_iinc (v := x2_38) (lv' := [(2, .int x2_38), (0, .ref (b + 48)), (1, .int x1)]) hx hb dX7_sift_108 hl (k := 2) rfl (by rw [ex2_38]; rfl) (by decide) rfl (fun ls hl => ?_)
      refine lv_goto (tgt := 57) hx hb dX7_sift_111 (by decide) ?_
      exact ih _ _ _ _ _ _ _ _ _ hf hw (lv_sub hl [1, 2, 0] rfl) hexit
set_option maxHeartbeats 4000000 in
set_option maxRecDepth 100000 in
theorem c7_sift (l : Launch) (D : va_G) (cz : Nat → ClassId) (ev : Nat × Nat × Nat) {b : Nat} {L : List Nat} {S : ST} {Rf : RT} (hC : CW b L S Rf) {N : Nat} {x1 : Int32} {I : IT} {J : JT} {r : Unit} {I1 : IT} {J1 : JT} (hf : f7_sift N b S Rf x1 I J = some (r, I1, J1)) : MTv l D cz ev yX7_sift cX7_sift 4 (none) 4 102 [.ref (b + 48), .int x1] L S Rf I J r I1 J1 := by
  unfold f7_sift at hf
  refine MTv_of (by decide) (Nat.le_of_ble_eq_true rfl) ?_
  intro p e s m args below meth c Q ls X hK hw hl hfin
  have X : CallFix p m c cX7_sift 4 s args gw RX7 := X
  have hx := X.1
  have hb := X.2.1
  have hl : lv_has ls 4 [(0, .ref (b + 48)), (1, .int x1)] := hl
  refine lv_aload_n hx hb dX7_sift_0 rfl (lv_at hl 0 rfl) ?_
  refine lv_iconst (v := (0 : Int32)) hx hb dX7_sift_1 (by decide) ?_
  refine x_putI X hK hw (cw_mem hC 48 (by decide)) (cw_S hC 48 rfl) cpX7 4 (by decide) rfl rfl rfl tw_489 dX7_sift_2 (fun H locs hw => ?_)
  obtain ⟨I_1, eI_1, hf⟩ := yb_let_ex hf
  have hw := yb_wI eI_1 hw
  refine lv_aload_n hx hb dX7_sift_5 rfl (lv_at hl 0 rfl) ?_
  refine lv_bipush (v := (-2 : Int32)) hx hb dX7_sift_6 (by decide) ?_
  refine x_putI X hK hw (cw_mem hC 48 (by decide)) (cw_S hC 48 rfl) cpX7 5 (by decide) rfl rfl rfl tw_491 dX7_sift_8 (fun H locs hw => ?_)
  obtain ⟨I_2, eI_2, hf⟩ := yb_let_ex hf
  have hw := yb_wI eI_2 hw
  refine lv_aload_n hx hb dX7_sift_11 rfl (lv_at hl 0 rfl) ?_
  refine lv_bipush (v := (-2 : Int32)) hx hb dX7_sift_12 (by decide) ?_
  refine x_putI X hK hw (cw_mem hC 48 (by decide)) (cw_S hC 48 rfl) cpX7 6 (by decide) rfl rfl rfl tw_493 dX7_sift_14 (fun H locs hw => ?_)
  obtain ⟨I_3, eI_3, hf⟩ := yb_let_ex hf
  have hw := yb_wI eI_3 hw
  refine lv_aload_n hx hb dX7_sift_17 rfl (lv_at hl 0 rfl) ?_
  refine lv_iconst (v := (0 : Int32)) hx hb dX7_sift_18 (by decide) ?_
  refine x_putI X hK hw (cw_mem hC 48 (by decide)) (cw_S hC 48 rfl) cpX7 7 (by decide) rfl rfl rfl tw_495 dX7_sift_19 (fun H locs hw => ?_)
  obtain ⟨I_4, eI_4, hf⟩ := yb_let_ex hf
  have hw := yb_wI eI_4 hw
  refine lv_aload_n hx hb dX7_sift_22 rfl (lv_at hl 0 rfl) ?_
  refine x_getR X hK hw (cw_mem hC 48 (by decide)) (cw_S hC 48 rfl) cpX7 1 (by decide) rfl (cw_R hC 48 1 (by decide) rfl) tw_486 dX7_sift_23 ?_
  refine lv_iconst (v := (0 : Int32)) hx hb dX7_sift_26 (by decide) ?_
  obtain ⟨r_8, I_5, J_6, hq_7, hf⟩ := yb_b3_some hf
  refine x_callsv X hK hw (cJ_fill_53178 l D cz ev (cw_mem hC 49 (by decide)) (cw_S hC 49 rfl) hq_7) sw_X7_38 ⟨Nat.le_of_ble_eq_true rfl, Nat.le_of_ble_eq_true rfl⟩ rfl rfl (Nat.le_of_ble_eq_true rfl) hl.1 ⟨Nat.le_refl _, Nat.le_refl _⟩ dX7_sift_27 (fun H locs hw => ?_)
  refine lv_aload_n hx hb dX7_sift_30 rfl (lv_at hl 0 rfl) ?_
  refine x_getR X hK hw (cw_mem hC 48 (by decide)) (cw_S hC 48 rfl) cpX7 2 (by decide) rfl (cw_R hC 48 2 (by decide) rfl) tw_487 dX7_sift_31 ?_
  refine lv_iconst (v := (0 : Int32)) hx hb dX7_sift_34 (by decide) ?_
  obtain ⟨r_12, I_9, J_10, hq_11, hf⟩ := yb_b3_some hf
  refine x_callsv X hK hw (cJ_fill_53178 l D cz ev (cw_mem hC 50 (by decide)) (cw_S hC 50 rfl) hq_11) sw_X7_38 ⟨Nat.le_of_ble_eq_true rfl, Nat.le_of_ble_eq_true rfl⟩ rfl rfl (Nat.le_of_ble_eq_true rfl) hl.1 ⟨Nat.le_refl _, Nat.le_refl _⟩ dX7_sift_35 (fun H locs hw => ?_)
  refine lv_aload_n hx hb dX7_sift_38 rfl (lv_at hl 0 rfl) ?_
  refine x_getR X hK hw (cw_mem hC 48 (by decide)) (cw_S hC 48 rfl) cpX7 3 (by decide) rfl (cw_R hC 48 3 (by decide) rfl) tw_488 dX7_sift_39 ?_
  refine lv_iconst (v := (0 : Int32)) hx hb dX7_sift_42 (by decide) ?_
  obtain ⟨r_16, I_13, J_14, hq_15, hf⟩ := yb_b3_some hf
  refine x_callsv X hK hw (cJ_fill_53178 l D cz ev (cw_mem hC 51 (by decide)) (cw_S hC 51 rfl) hq_15) sw_X7_38 ⟨Nat.le_of_ble_eq_true rfl, Nat.le_of_ble_eq_true rfl⟩ rfl rfl (Nat.le_of_ble_eq_true rfl) hl.1 ⟨Nat.le_refl _, Nat.le_refl _⟩ dX7_sift_43 (fun H locs hw => ?_)
  refine lv_aload_n hx hb dX7_sift_46 rfl (lv_at hl 0 rfl) ?_
  refine x_getR X hK hw (cw_mem hC 48 (by decide)) (cw_S hC 48 rfl) cpX7 0 (by decide) rfl (cw_R hC 48 0 (by decide) rfl) tw_485 dX7_sift_47 ?_
  refine lv_iload_n hx hb dX7_sift_50 rfl (lv_at hl 1 rfl) ?_
  refine lv_iconst (v := (0 : Int32)) hx hb dX7_sift_51 (by decide) ?_
  obtain ⟨r_17, I_18, J_19, hq_20, hf⟩ := yb_b3_some hf
  refine x_callv X hK hw (c1_chargeOf l D cz ev hC hq_20) (cw_mem hC 30 (by decide)) (cw_S hC 30 rfl) cpX1.1 vw_X7_44 ⟨Nat.le_of_ble_eq_true rfl, Nat.le_of_ble_eq_true rfl⟩ rfl rfl (Nat.le_of_ble_eq_true rfl) hl.1 ⟨Nat.le_refl _, Nat.le_refl _⟩ dX7_sift_52 (fun H locs hw => ?_)
  refine lv_iconst (v := (0 : Int32)) hx hb dX7_sift_55 (by decide) ?_
  refine lv_istore_n (lv' := [(2, .int (0 : Int32)), (0, .ref (b + 48)), (1, .int x1)]) hx hb dX7_sift_56 rfl hl (by decide) rfl (fun ls hl => ?_)
  obtain ⟨q_39, I_40, J_41, hq_42, hf⟩ := yb_b3_some hf
  refine w7_sift_L57 hC X hK _ _ _ _ _ _ _ _ _ _ hq_42 hw (lv_sub hl [1, 2, 0] rfl) (fun H locs ls hw hl => ?_)
  exact yb_retv hfin hf hw dX7_sift_114
set_option maxHeartbeats 4000000 in
set_option maxRecDepth 100000 in
theorem w7_most_L4 {p : Program} {l : Launch} {e : Env} {s : State} {m : MethodId} {args : Array Value} {below : List Frame} {meth : Method} {c : Code} {Q : State → Prop} {D : va_G} {cz : Nat → ClassId} {A : Nat → Prop} {ev : Nat × Nat × Nat} {b : Nat} {L : List Nat} {S : ST} {Rf : RT} (hC : CW b L S Rf) {t0 : Nat} {n0 : Nat} (h0 : IArr L S Rf t0 n0) (X : CallFix p m c cX7_most 3 s args gw RX7) (hK : KX D cz ev A s) {N : Nat} :
    ∀ (n : Nat) (x1 : Int32) (x2 : Int32) (I : IT) (J : JT) (q : (Int32)) (I1 : IT) (J1 : JT) (H : Heap) (locs : List Loc) (ls : Array Slot), f7_most_L4 N b S Rf t0 n0 n x1 x2 I J = some (q, I1, J1) → WX D cz A L S Rf s.heap I J H locs → lv_has ls 3 [(0, .ref t0), (1, .int x1), (2, .int x2)] →
    (∀ (H : Heap) (locs : List Loc) (ls : Array Slot), WX D cz A L S Rf s.heap I1 J1 H locs → lv_has ls 3 [(1, .int q)] → W p l e (rmX 1 40) s m args below meth c H locs 0 0 Q (F0 m 24 ls [])) →
    W p l e (rmX 1 40) s m args below meth c H locs 0 0 Q (F0 m 4 ls []) := by
  have hx := X.1
  have hb := X.2.1
  intro n
  induction n with
  | zero =>
    intro x1 x2 I J q I1 J1 H locs ls hf
    rw [f7_most_L4] at hf
    cases hf
  | succ n ih =>
    intro x1 x2 I J q I1 J1 H locs ls hf hw hl hexit
    rw [f7_most_L4] at hf
    refine lv_iload_n hx hb dX7_most_4 rfl (lv_at hl 2 rfl) ?_
    refine lv_aload_n hx hb dX7_most_5 rfl (lv_at hl 0 rfl) ?_
    refine x_alen X hK hw h0.1 h0.2 dX7_most_6 ?_
    refine lv_icmp_ge (tgt := 24) hx hb dX7_most_7 (by decide) (fun c_1 => ?_) (fun c_1 => ?_)
    · have hf := yb_pos c_1 hf
      obtain ⟨rfl, rfl, rfl⟩ := yb_inj hf
      exact hexit _ _ _ hw (lv_sub hl [1] rfl)
    · have hf := yb_neg c_1 hf
      refine lv_iload_n hx hb dX7_most_10 rfl (lv_at hl 1 rfl) ?_
      refine lv_aload_n hx hb dX7_most_11 rfl (lv_at hl 0 rfl) ?_
      refine lv_iload_n hx hb dX7_most_12 rfl (lv_at hl 2 rfl) ?_
      obtain ⟨hi_2, hf⟩ := yb_ck_some hf
      refine x_iald X hK hw h0.1 h0.2 hi_2 rfl dX7_most_13 ?_
      refine va_mmax hx hb (X.2.2.1.trans hl.1.symm) X.2.2.2.1 (X.2.2.2.2 _ tw_1193) (X.2.2.2.2 _ tw_1096) (X.2.2.2.2 _ tw_131) (X.2.2.2.2 _ tw_1097) (Nat.le_of_ble_eq_true rfl) (Nat.le_of_ble_eq_true rfl) (Nat.le_refl _) (Nat.le_refl _) dX7_most_14 ?_
      refine lv_topi (fun x1_3 ex1_3 => ?_)
      have hf := yb_let_to ex1_3 hf
      refine lv_istore_n (lv' := [(1, .int x1_3), (0, .ref t0), (2, .int x2)]) hx hb dX7_most_17 rfl hl (by decide) rfl (fun ls hl => ?_)
      obtain ⟨x2_4, ex2_4, hf⟩ := yb_let_ex hf
      refine lv_iinc (v := x2_4) (lv' := [(2, .int x2_4), (1, .int x1_3), (0, .ref t0)]) hx hb dX7_most_18 hl (k := 2) rfl (by rw [ex2_4]; rfl) (by decide) rfl (fun ls hl => ?_)
      refine lv_goto (tgt := 4) hx hb dX7_most_21 (by decide) ?_
      exact ih _ _ _ _ _ _ _ _ _ _ hf hw (lv_sub hl [2, 1, 0] rfl) hexit
set_option maxHeartbeats 4000000 in
set_option maxRecDepth 100000 in
theorem c7_most (l : Launch) (D : va_G) (cz : Nat → ClassId) (ev : Nat × Nat × Nat) {b : Nat} {L : List Nat} {S : ST} {Rf : RT} (hC : CW b L S Rf) {t0 : Nat} {n0 : Nat} (h0 : IArr L S Rf t0 n0) {N : Nat} {I : IT} {J : JT} {r : Int32} {I1 : IT} {J1 : JT} (hf : f7_most N b S Rf t0 n0 I J = some (r, I1, J1)) : MTi l D cz ev yX7_most cX7_most 3 (some .int) 1 40 [.ref t0] L S Rf I J r I1 J1 := by
  unfold f7_most at hf
  refine MTi_of (by decide) (Nat.le_of_ble_eq_true rfl) ?_
  intro p e s m args below meth c Q ls X hK hw hl hfin
  have X : CallFix p m c cX7_most 3 s args gw RX7 := X
  have hx := X.1
  have hb := X.2.1
  have hl : lv_has ls 3 [(0, .ref t0)] := hl
  refine lv_iconst (v := (0 : Int32)) hx hb dX7_most_0 (by decide) ?_
  refine lv_istore_n (lv' := [(1, .int (0 : Int32)), (0, .ref t0)]) hx hb dX7_most_1 rfl hl (by decide) rfl (fun ls hl => ?_)
  refine lv_iconst (v := (0 : Int32)) hx hb dX7_most_2 (by decide) ?_
  refine lv_istore_n (lv' := [(2, .int (0 : Int32)), (1, .int (0 : Int32)), (0, .ref t0)]) hx hb dX7_most_3 rfl hl (by decide) rfl (fun ls hl => ?_)
  obtain ⟨q_5, I_6, J_7, hq_8, hf⟩ := yb_b3_some hf
  refine w7_most_L4 hC h0 X hK _ _ _ _ _ _ _ _ _ _ _ hq_8 hw (lv_sub hl [2, 1, 0] rfl) (fun H locs ls hw hl => ?_)
  refine lv_iload_n hx hb dX7_most_24 rfl (lv_at hl 0 rfl) ?_
  exact yb_reti hfin hf hw dX7_most_25
set_option maxHeartbeats 4000000 in
set_option maxRecDepth 100000 in
theorem c7_part (l : Launch) (D : va_G) (cz : Nat → ClassId) (ev : Nat × Nat × Nat) {b : Nat} {L : List Nat} {S : ST} {Rf : RT} (hC : CW b L S Rf) {N : Nat} {x1 : Int32} {I : IT} {J : JT} {r : Int32} {I1 : IT} {J1 : JT} (hf : f7_part N b S Rf x1 I J = some (r, I1, J1)) : MTi l D cz ev yX7_part cX7_part 4 (some .int) 2 62 [.ref (b + 48), .int x1] L S Rf I J r I1 J1 := by
  unfold f7_part at hf
  refine MTi_of (by decide) (Nat.le_of_ble_eq_true rfl) ?_
  intro p e s m args below meth c Q ls X hK hw hl hfin
  have X : CallFix p m c cX7_part 4 s args gw RX7 := X
  have hx := X.1
  have hb := X.2.1
  have hl : lv_has ls 4 [(0, .ref (b + 48)), (1, .int x1)] := hl
  refine lv_aload_n hx hb dX7_part_0 rfl (lv_at hl 0 rfl) ?_
  refine x_getI X hK hw (cw_mem hC 48 (by decide)) (cw_S hC 48 rfl) cpX7 4 (by decide) rfl tw_489 dX7_part_1 ?_
  refine lv_if_ne (tgt := 10) hx hb dX7_part_4 (by decide) (fun c_1 => ?_) (fun c_1 => ?_)
  · have hf := yb_neg c_1 hf
    refine lv_iconst (v := (0 : Int32)) hx hb dX7_part_10 (by decide) ?_
    refine lv_istore_n (lv' := [(2, .int (0 : Int32)), (0, .ref (b + 48)), (1, .int x1)]) hx hb dX7_part_11 rfl hl (by decide) rfl (fun ls hl => ?_)
    refine lv_aload_n hx hb dX7_part_12 rfl (lv_at hl 1 rfl) ?_
    refine x_getR X hK hw (cw_mem hC 48 (by decide)) (cw_S hC 48 rfl) cpX7 1 (by decide) rfl (cw_R hC 48 1 (by decide) rfl) tw_486 dX7_part_13 ?_
    obtain ⟨r_2, I_3, J_4, hq_5, hf⟩ := yb_b3_some hf
    refine x_callsi X hK hw (c7_most l D cz ev hC ⟨(cw_mem hC 49 (by decide)), (cw_S hC 49 rfl)⟩ hq_5) sw_X7_93 ⟨Nat.le_of_ble_eq_true rfl, Nat.le_of_ble_eq_true rfl⟩ rfl rfl (Nat.le_of_ble_eq_true rfl) hl.1 ⟨Nat.le_refl _, Nat.le_refl _⟩ dX7_part_16 (fun H locs hw => ?_)
    refine lv_istore_n (lv' := [(3, .int r_2), (2, .int (0 : Int32)), (0, .ref (b + 48)), (1, .int x1)]) hx hb dX7_part_19 rfl hl (by decide) rfl (fun ls hl => ?_)
    refine lv_aload_n hx hb dX7_part_20 rfl (lv_at hl 2 rfl) ?_
    refine x_getR X hK hw (cw_mem hC 48 (by decide)) (cw_S hC 48 rfl) cpX7 2 (by decide) rfl (cw_R hC 48 2 (by decide) rfl) tw_487 dX7_part_21 ?_
    obtain ⟨r_6, I_7, J_8, hq_9, hf⟩ := yb_b3_some hf
    refine x_callsi X hK hw (c7_most l D cz ev hC ⟨(cw_mem hC 50 (by decide)), (cw_S hC 50 rfl)⟩ hq_9) sw_X7_93 ⟨Nat.le_of_ble_eq_true rfl, Nat.le_of_ble_eq_true rfl⟩ rfl rfl (Nat.le_of_ble_eq_true rfl) hl.1 ⟨Nat.le_refl _, Nat.le_refl _⟩ dX7_part_24 (fun H locs hw => ?_)
    refine lv_iload_n hx hb dX7_part_27 rfl (lv_at hl 0 rfl) ?_
    refine lv_icmp_ge (tgt := 41) hx hb dX7_part_28 (by decide) (fun c_10 => ?_) (fun c_10 => ?_)
    · have hf := yb_pos c_10 hf
      refine lv_aload_n hx hb dX7_part_41 rfl (lv_at hl 2 rfl) ?_
      refine x_getR X hK hw (cw_mem hC 48 (by decide)) (cw_S hC 48 rfl) cpX7 3 (by decide) rfl (cw_R hC 48 3 (by decide) rfl) tw_488 dX7_part_42 ?_
      obtain ⟨r_11, I_12, J_13, hq_14, hf⟩ := yb_b3_some hf
      refine x_callsi X hK hw (c7_most l D cz ev hC ⟨(cw_mem hC 51 (by decide)), (cw_S hC 51 rfl)⟩ hq_14) sw_X7_93 ⟨Nat.le_of_ble_eq_true rfl, Nat.le_of_ble_eq_true rfl⟩ rfl rfl (Nat.le_of_ble_eq_true rfl) hl.1 ⟨Nat.le_refl _, Nat.le_refl _⟩ dX7_part_45 (fun H locs hw => ?_)
      refine lv_iload_n hx hb dX7_part_48 rfl (lv_at hl 0 rfl) ?_
      refine lv_icmp_ge (tgt := 62) hx hb dX7_part_49 (by decide) (fun c_15 => ?_) (fun c_15 => ?_)
      · have hf := yb_pos c_15 hf
        refine lv_iload_n hx hb dX7_part_62 rfl (lv_at hl 3 rfl) ?_
        refine lv_if_eq (tgt := 70) hx hb dX7_part_63 (by decide) (fun c_16 => ?_) (fun c_16 => ?_)
        · have hf := yb_pos c_16 hf
          refine lv_iload_n hx hb dX7_part_70 rfl (lv_at hl 0 rfl) ?_
          exact yb_reti hfin hf hw dX7_part_71
        · have hf := yb_neg c_16 hf
          refine lv_iload_n hx hb dX7_part_66 rfl (lv_at hl 1 rfl) ?_
          refine lv_goto (tgt := 71) hx hb dX7_part_67 (by decide) ?_
          exact yb_reti hfin hf hw dX7_part_71
      · have hf := yb_neg c_15 hf
        refine lv_iconst (v := (2 : Int32)) hx hb dX7_part_52 (by decide) ?_
        refine lv_istore_n (lv' := [(2, .int (2 : Int32)), (3, .int r_2), (0, .ref (b + 48)), (1, .int x1)]) hx hb dX7_part_53 rfl hl (by decide) rfl (fun ls hl => ?_)
        refine lv_aload_n hx hb dX7_part_54 rfl (lv_at hl 2 rfl) ?_
        refine x_getR X hK hw (cw_mem hC 48 (by decide)) (cw_S hC 48 rfl) cpX7 3 (by decide) rfl (cw_R hC 48 3 (by decide) rfl) tw_488 dX7_part_55 ?_
        obtain ⟨r_17, I_18, J_19, hq_20, hf⟩ := yb_b3_some hf
        refine x_callsi X hK hw (c7_most l D cz ev hC ⟨(cw_mem hC 51 (by decide)), (cw_S hC 51 rfl)⟩ hq_20) sw_X7_93 ⟨Nat.le_of_ble_eq_true rfl, Nat.le_of_ble_eq_true rfl⟩ rfl rfl (Nat.le_of_ble_eq_true rfl) hl.1 ⟨Nat.le_refl _, Nat.le_refl _⟩ dX7_part_58 (fun H locs hw => ?_)
        refine lv_istore_n (lv' := [(3, .int r_17), (2, .int (2 : Int32)), (0, .ref (b + 48)), (1, .int x1)]) hx hb dX7_part_61 rfl hl (by decide) rfl (fun ls hl => ?_)
        refine lv_iload_n hx hb dX7_part_62 rfl (lv_at hl 3 rfl) ?_
        refine lv_if_eq (tgt := 70) hx hb dX7_part_63 (by decide) (fun c_21 => ?_) (fun c_21 => ?_)
        · have hf := yb_pos c_21 hf
          refine lv_iload_n hx hb dX7_part_70 rfl (lv_at hl 0 rfl) ?_
          exact yb_reti hfin hf hw dX7_part_71
        · have hf := yb_neg c_21 hf
          refine lv_iload_n hx hb dX7_part_66 rfl (lv_at hl 1 rfl) ?_
          refine lv_goto (tgt := 71) hx hb dX7_part_67 (by decide) ?_
          exact yb_reti hfin hf hw dX7_part_71
    · have hf := yb_neg c_10 hf
      refine lv_iconst (v := (1 : Int32)) hx hb dX7_part_31 (by decide) ?_
      refine lv_istore_n (lv' := [(2, .int (1 : Int32)), (3, .int r_2), (0, .ref (b + 48)), (1, .int x1)]) hx hb dX7_part_32 rfl hl (by decide) rfl (fun ls hl => ?_)
      refine lv_aload_n hx hb dX7_part_33 rfl (lv_at hl 2 rfl) ?_
      refine x_getR X hK hw (cw_mem hC 48 (by decide)) (cw_S hC 48 rfl) cpX7 2 (by decide) rfl (cw_R hC 48 2 (by decide) rfl) tw_487 dX7_part_34 ?_
      obtain ⟨r_22, I_23, J_24, hq_25, hf⟩ := yb_b3_some hf
      refine x_callsi X hK hw (c7_most l D cz ev hC ⟨(cw_mem hC 50 (by decide)), (cw_S hC 50 rfl)⟩ hq_25) sw_X7_93 ⟨Nat.le_of_ble_eq_true rfl, Nat.le_of_ble_eq_true rfl⟩ rfl rfl (Nat.le_of_ble_eq_true rfl) hl.1 ⟨Nat.le_refl _, Nat.le_refl _⟩ dX7_part_37 (fun H locs hw => ?_)
      refine lv_istore_n (lv' := [(3, .int r_22), (2, .int (1 : Int32)), (0, .ref (b + 48)), (1, .int x1)]) hx hb dX7_part_40 rfl hl (by decide) rfl (fun ls hl => ?_)
      refine lv_aload_n hx hb dX7_part_41 rfl (lv_at hl 2 rfl) ?_
      refine x_getR X hK hw (cw_mem hC 48 (by decide)) (cw_S hC 48 rfl) cpX7 3 (by decide) rfl (cw_R hC 48 3 (by decide) rfl) tw_488 dX7_part_42 ?_
      obtain ⟨r_26, I_27, J_28, hq_29, hf⟩ := yb_b3_some hf
      refine x_callsi X hK hw (c7_most l D cz ev hC ⟨(cw_mem hC 51 (by decide)), (cw_S hC 51 rfl)⟩ hq_29) sw_X7_93 ⟨Nat.le_of_ble_eq_true rfl, Nat.le_of_ble_eq_true rfl⟩ rfl rfl (Nat.le_of_ble_eq_true rfl) hl.1 ⟨Nat.le_refl _, Nat.le_refl _⟩ dX7_part_45 (fun H locs hw => ?_)
      refine lv_iload_n hx hb dX7_part_48 rfl (lv_at hl 0 rfl) ?_
      refine lv_icmp_ge (tgt := 62) hx hb dX7_part_49 (by decide) (fun c_30 => ?_) (fun c_30 => ?_)
      · have hf := yb_pos c_30 hf
        refine lv_iload_n hx hb dX7_part_62 rfl (lv_at hl 3 rfl) ?_
        refine lv_if_eq (tgt := 70) hx hb dX7_part_63 (by decide) (fun c_31 => ?_) (fun c_31 => ?_)
        · have hf := yb_pos c_31 hf
          refine lv_iload_n hx hb dX7_part_70 rfl (lv_at hl 0 rfl) ?_
          exact yb_reti hfin hf hw dX7_part_71
        · have hf := yb_neg c_31 hf
          refine lv_iload_n hx hb dX7_part_66 rfl (lv_at hl 1 rfl) ?_
          refine lv_goto (tgt := 71) hx hb dX7_part_67 (by decide) ?_
          exact yb_reti hfin hf hw dX7_part_71
      · have hf := yb_neg c_30 hf
        refine lv_iconst (v := (2 : Int32)) hx hb dX7_part_52 (by decide) ?_
        refine lv_istore_n (lv' := [(2, .int (2 : Int32)), (3, .int r_22), (0, .ref (b + 48)), (1, .int x1)]) hx hb dX7_part_53 rfl hl (by decide) rfl (fun ls hl => ?_)
        refine lv_aload_n hx hb dX7_part_54 rfl (lv_at hl 2 rfl) ?_
        refine x_getR X hK hw (cw_mem hC 48 (by decide)) (cw_S hC 48 rfl) cpX7 3 (by decide) rfl (cw_R hC 48 3 (by decide) rfl) tw_488 dX7_part_55 ?_
        obtain ⟨r_32, I_33, J_34, hq_35, hf⟩ := yb_b3_some hf
        refine x_callsi X hK hw (c7_most l D cz ev hC ⟨(cw_mem hC 51 (by decide)), (cw_S hC 51 rfl)⟩ hq_35) sw_X7_93 ⟨Nat.le_of_ble_eq_true rfl, Nat.le_of_ble_eq_true rfl⟩ rfl rfl (Nat.le_of_ble_eq_true rfl) hl.1 ⟨Nat.le_refl _, Nat.le_refl _⟩ dX7_part_58 (fun H locs hw => ?_)
        refine lv_istore_n (lv' := [(3, .int r_32), (2, .int (2 : Int32)), (0, .ref (b + 48)), (1, .int x1)]) hx hb dX7_part_61 rfl hl (by decide) rfl (fun ls hl => ?_)
        refine lv_iload_n hx hb dX7_part_62 rfl (lv_at hl 3 rfl) ?_
        refine lv_if_eq (tgt := 70) hx hb dX7_part_63 (by decide) (fun c_36 => ?_) (fun c_36 => ?_)
        · have hf := yb_pos c_36 hf
          refine lv_iload_n hx hb dX7_part_70 rfl (lv_at hl 0 rfl) ?_
          exact yb_reti hfin hf hw dX7_part_71
        · have hf := yb_neg c_36 hf
          refine lv_iload_n hx hb dX7_part_66 rfl (lv_at hl 1 rfl) ?_
          refine lv_goto (tgt := 71) hx hb dX7_part_67 (by decide) ?_
          exact yb_reti hfin hf hw dX7_part_71
  · have hf := yb_pos c_1 hf
    refine lv_bipush (v := (-2 : Int32)) hx hb dX7_part_7 (by decide) ?_
    exact yb_reti hfin hf hw dX7_part_9
set_option maxHeartbeats 4000000 in
set_option maxRecDepth 100000 in
theorem c9_copy (l : Launch) (D : va_G) (cz : Nat → ClassId) (ev : Nat × Nat × Nat) {b : Nat} {L : List Nat} {S : ST} {Rf : RT} (hC : CW b L S Rf) {t0 : Nat} (h0 : TownAt L S Rf t0) {t1 : Nat} (h1 : TownAt L S Rf t1) {I : IT} {J : JT} {r : Unit} {I1 : IT} {J1 : JT} (hf : f9_copy b S Rf t0 t1 I J = some (r, I1, J1)) : MTv l D cz ev yX9_copy cX9_copy 2 (none) 1 100 [.ref t0, .ref t1] L S Rf I J r I1 J1 := by
  unfold f9_copy at hf
  refine MTv_of (by decide) (Nat.le_of_ble_eq_true rfl) ?_
  intro p e s m args below meth c Q ls X hK hw hl hfin
  have X : CallFix p m c cX9_copy 2 s args gw RX9 := X
  have hx := X.1
  have hb := X.2.1
  have hl : lv_has ls 2 [(0, .ref t0), (1, .ref t1)] := hl
  refine lv_aload_n hx hb dX9_copy_0 rfl (lv_at hl 0 rfl) ?_
  refine lv_aload_n hx hb dX9_copy_1 rfl (lv_at hl 1 rfl) ?_
  refine x_getI X hK hw h1.1.1 h1.1.2 cpX9 8 (by decide) rfl tw_223 dX9_copy_2 ?_
  obtain ⟨hz_2, hf⟩ := yb_ck_some hf
  refine x_putZ X hK hw h0.1.1 h0.1.2 cpX9 8 (by decide) hz_2 rfl rfl rfl tw_223 dX9_copy_5 (fun H locs hw => ?_)
  obtain ⟨I_1, eI_1, hf⟩ := yb_let_ex hf
  have hw := yb_wI eI_1 hw
  refine lv_aload_n hx hb dX9_copy_8 rfl (lv_at hl 0 rfl) ?_
  refine lv_aload_n hx hb dX9_copy_9 rfl (lv_at hl 1 rfl) ?_
  refine x_getI X hK hw h1.1.1 h1.1.2 cpX9 9 (by decide) rfl tw_226 dX9_copy_10 ?_
  refine x_putI X hK hw h0.1.1 h0.1.2 cpX9 9 (by decide) rfl rfl rfl tw_226 dX9_copy_13 (fun H locs hw => ?_)
  obtain ⟨I_3, eI_3, hf⟩ := yb_let_ex hf
  have hw := yb_wI eI_3 hw
  refine lv_aload_n hx hb dX9_copy_16 rfl (lv_at hl 0 rfl) ?_
  refine lv_aload_n hx hb dX9_copy_17 rfl (lv_at hl 1 rfl) ?_
  refine x_getI X hK hw h1.1.1 h1.1.2 cpX9 10 (by decide) rfl tw_229 dX9_copy_18 ?_
  refine x_putI X hK hw h0.1.1 h0.1.2 cpX9 10 (by decide) rfl rfl rfl tw_229 dX9_copy_21 (fun H locs hw => ?_)
  obtain ⟨I_4, eI_4, hf⟩ := yb_let_ex hf
  have hw := yb_wI eI_4 hw
  refine lv_aload_n hx hb dX9_copy_24 rfl (lv_at hl 0 rfl) ?_
  refine lv_aload_n hx hb dX9_copy_25 rfl (lv_at hl 1 rfl) ?_
  refine x_getI X hK hw h1.1.1 h1.1.2 cpX9 11 (by decide) rfl tw_233 dX9_copy_26 ?_
  refine x_putI X hK hw h0.1.1 h0.1.2 cpX9 11 (by decide) rfl rfl rfl tw_233 dX9_copy_29 (fun H locs hw => ?_)
  obtain ⟨I_5, eI_5, hf⟩ := yb_let_ex hf
  have hw := yb_wI eI_5 hw
  refine lv_aload_n hx hb dX9_copy_32 rfl (lv_at hl 0 rfl) ?_
  refine lv_aload_n hx hb dX9_copy_33 rfl (lv_at hl 1 rfl) ?_
  refine x_getI X hK hw h1.1.1 h1.1.2 cpX9 12 (by decide) rfl tw_236 dX9_copy_34 ?_
  refine x_putI X hK hw h0.1.1 h0.1.2 cpX9 12 (by decide) rfl rfl rfl tw_236 dX9_copy_37 (fun H locs hw => ?_)
  obtain ⟨I_6, eI_6, hf⟩ := yb_let_ex hf
  have hw := yb_wI eI_6 hw
  refine lv_aload_n hx hb dX9_copy_40 rfl (lv_at hl 0 rfl) ?_
  refine lv_aload_n hx hb dX9_copy_41 rfl (lv_at hl 1 rfl) ?_
  refine x_getI X hK hw h1.1.1 h1.1.2 cpX9 13 (by decide) rfl tw_239 dX9_copy_42 ?_
  refine x_putI X hK hw h0.1.1 h0.1.2 cpX9 13 (by decide) rfl rfl rfl tw_239 dX9_copy_45 (fun H locs hw => ?_)
  obtain ⟨I_7, eI_7, hf⟩ := yb_let_ex hf
  have hw := yb_wI eI_7 hw
  refine lv_aload_n hx hb dX9_copy_48 rfl (lv_at hl 0 rfl) ?_
  refine lv_aload_n hx hb dX9_copy_49 rfl (lv_at hl 1 rfl) ?_
  refine x_getI X hK hw h1.1.1 h1.1.2 cpX9 14 (by decide) rfl tw_244 dX9_copy_50 ?_
  refine x_putI X hK hw h0.1.1 h0.1.2 cpX9 14 (by decide) rfl rfl rfl tw_244 dX9_copy_53 (fun H locs hw => ?_)
  obtain ⟨I_8, eI_8, hf⟩ := yb_let_ex hf
  have hw := yb_wI eI_8 hw
  refine lv_aload_n hx hb dX9_copy_56 rfl (lv_at hl 1 rfl) ?_
  refine x_getR X hK hw h1.1.1 h1.1.2 cpX9 0 (by decide) rfl (ta_R h1 0 (by decide)) tw_190 dX9_copy_57 ?_
  refine lv_iconst (v := (0 : Int32)) hx hb dX9_copy_60 (by decide) ?_
  refine lv_aload_n hx hb dX9_copy_61 rfl (lv_at hl 0 rfl) ?_
  refine x_getR X hK hw h0.1.1 h0.1.2 cpX9 0 (by decide) rfl (ta_R h0 0 (by decide)) tw_190 dX9_copy_62 ?_
  refine lv_iconst (v := (0 : Int32)) hx hb dX9_copy_65 (by decide) ?_
  refine lv_bipush (v := (7 : Int32)) hx hb dX9_copy_66 (by decide) ?_
  refine x_acopy X hK hw (ta_mem h1 0 (by decide)) (ta_S h1 0 rfl) (ta_mem h0 0 (by decide)) (ta_S h0 0 rfl) (k := 7) rfl (by decide) (by decide) (by decide) (Nat.le_of_ble_eq_true rfl) (by decide) tw_764 hl.1 dX9_copy_68 (fun H locs hw => ?_)
  obtain ⟨I_9, eI_9, hf⟩ := yb_let_ex hf
  have hw := yb_wI eI_9 hw
  refine lv_aload_n hx hb dX9_copy_71 rfl (lv_at hl 1 rfl) ?_
  refine x_getR X hK hw h1.1.1 h1.1.2 cpX9 1 (by decide) rfl (ta_R h1 1 (by decide)) tw_196 dX9_copy_72 ?_
  refine lv_iconst (v := (0 : Int32)) hx hb dX9_copy_75 (by decide) ?_
  refine lv_aload_n hx hb dX9_copy_76 rfl (lv_at hl 0 rfl) ?_
  refine x_getR X hK hw h0.1.1 h0.1.2 cpX9 1 (by decide) rfl (ta_R h0 1 (by decide)) tw_196 dX9_copy_77 ?_
  refine lv_iconst (v := (0 : Int32)) hx hb dX9_copy_80 (by decide) ?_
  refine lv_bipush (v := (7 : Int32)) hx hb dX9_copy_81 (by decide) ?_
  refine x_acopy X hK hw (ta_mem h1 1 (by decide)) (ta_S h1 1 rfl) (ta_mem h0 1 (by decide)) (ta_S h0 1 rfl) (k := 7) rfl (by decide) (by decide) (by decide) (Nat.le_of_ble_eq_true rfl) (by decide) tw_764 hl.1 dX9_copy_83 (fun H locs hw => ?_)
  obtain ⟨I_10, eI_10, hf⟩ := yb_let_ex hf
  have hw := yb_wI eI_10 hw
  refine lv_aload_n hx hb dX9_copy_86 rfl (lv_at hl 1 rfl) ?_
  refine x_getR X hK hw h1.1.1 h1.1.2 cpX9 2 (by decide) rfl (ta_R h1 2 (by decide)) tw_199 dX9_copy_87 ?_
  refine lv_iconst (v := (0 : Int32)) hx hb dX9_copy_90 (by decide) ?_
  refine lv_aload_n hx hb dX9_copy_91 rfl (lv_at hl 0 rfl) ?_
  refine x_getR X hK hw h0.1.1 h0.1.2 cpX9 2 (by decide) rfl (ta_R h0 2 (by decide)) tw_199 dX9_copy_92 ?_
  refine lv_iconst (v := (0 : Int32)) hx hb dX9_copy_95 (by decide) ?_
  refine lv_bipush (v := (7 : Int32)) hx hb dX9_copy_96 (by decide) ?_
  refine x_acopy X hK hw (ta_mem h1 2 (by decide)) (ta_S h1 2 rfl) (ta_mem h0 2 (by decide)) (ta_S h0 2 rfl) (k := 7) rfl (by decide) (by decide) (by decide) (Nat.le_of_ble_eq_true rfl) (by decide) tw_764 hl.1 dX9_copy_98 (fun H locs hw => ?_)
  obtain ⟨I_11, eI_11, hf⟩ := yb_let_ex hf
  have hw := yb_wI eI_11 hw
  refine lv_aload_n hx hb dX9_copy_101 rfl (lv_at hl 1 rfl) ?_
  refine x_getR X hK hw h1.1.1 h1.1.2 cpX9 3 (by decide) rfl (ta_R h1 3 (by decide)) tw_203 dX9_copy_102 ?_
  refine lv_iconst (v := (0 : Int32)) hx hb dX9_copy_105 (by decide) ?_
  refine lv_aload_n hx hb dX9_copy_106 rfl (lv_at hl 0 rfl) ?_
  refine x_getR X hK hw h0.1.1 h0.1.2 cpX9 3 (by decide) rfl (ta_R h0 3 (by decide)) tw_203 dX9_copy_107 ?_
  refine lv_iconst (v := (0 : Int32)) hx hb dX9_copy_110 (by decide) ?_
  refine lv_bipush (v := (7 : Int32)) hx hb dX9_copy_111 (by decide) ?_
  refine x_acopy X hK hw (ta_mem h1 3 (by decide)) (ta_S h1 3 rfl) (ta_mem h0 3 (by decide)) (ta_S h0 3 rfl) (k := 7) rfl (by decide) (by decide) (by decide) (Nat.le_of_ble_eq_true rfl) (by decide) tw_764 hl.1 dX9_copy_113 (fun H locs hw => ?_)
  obtain ⟨I_12, eI_12, hf⟩ := yb_let_ex hf
  have hw := yb_wI eI_12 hw
  refine lv_aload_n hx hb dX9_copy_116 rfl (lv_at hl 1 rfl) ?_
  refine x_getR X hK hw h1.1.1 h1.1.2 cpX9 4 (by decide) rfl (ta_R h1 4 (by decide)) tw_206 dX9_copy_117 ?_
  refine lv_iconst (v := (0 : Int32)) hx hb dX9_copy_120 (by decide) ?_
  refine lv_aload_n hx hb dX9_copy_121 rfl (lv_at hl 0 rfl) ?_
  refine x_getR X hK hw h0.1.1 h0.1.2 cpX9 4 (by decide) rfl (ta_R h0 4 (by decide)) tw_206 dX9_copy_122 ?_
  refine lv_iconst (v := (0 : Int32)) hx hb dX9_copy_125 (by decide) ?_
  refine lv_bipush (v := (6 : Int32)) hx hb dX9_copy_126 (by decide) ?_
  refine x_acopy X hK hw (ta_mem h1 4 (by decide)) (ta_S h1 4 rfl) (ta_mem h0 4 (by decide)) (ta_S h0 4 rfl) (k := 6) rfl (by decide) (by decide) (by decide) (Nat.le_of_ble_eq_true rfl) (by decide) tw_764 hl.1 dX9_copy_128 (fun H locs hw => ?_)
  obtain ⟨I_13, eI_13, hf⟩ := yb_let_ex hf
  have hw := yb_wI eI_13 hw
  refine lv_aload_n hx hb dX9_copy_131 rfl (lv_at hl 1 rfl) ?_
  refine x_getR X hK hw h1.1.1 h1.1.2 cpX9 5 (by decide) rfl (ta_R h1 5 (by decide)) tw_210 dX9_copy_132 ?_
  refine lv_iconst (v := (0 : Int32)) hx hb dX9_copy_135 (by decide) ?_
  refine lv_aload_n hx hb dX9_copy_136 rfl (lv_at hl 0 rfl) ?_
  refine x_getR X hK hw h0.1.1 h0.1.2 cpX9 5 (by decide) rfl (ta_R h0 5 (by decide)) tw_210 dX9_copy_137 ?_
  refine lv_iconst (v := (0 : Int32)) hx hb dX9_copy_140 (by decide) ?_
  refine lv_bipush (v := (6 : Int32)) hx hb dX9_copy_141 (by decide) ?_
  refine x_acopy X hK hw (ta_mem h1 5 (by decide)) (ta_S h1 5 rfl) (ta_mem h0 5 (by decide)) (ta_S h0 5 rfl) (k := 6) rfl (by decide) (by decide) (by decide) (Nat.le_of_ble_eq_true rfl) (by decide) tw_764 hl.1 dX9_copy_143 (fun H locs hw => ?_)
  obtain ⟨I_14, eI_14, hf⟩ := yb_let_ex hf
  have hw := yb_wI eI_14 hw
  refine lv_aload_n hx hb dX9_copy_146 rfl (lv_at hl 1 rfl) ?_
  refine x_getR X hK hw h1.1.1 h1.1.2 cpX9 6 (by decide) rfl (ta_R h1 6 (by decide)) tw_214 dX9_copy_147 ?_
  refine lv_iconst (v := (0 : Int32)) hx hb dX9_copy_150 (by decide) ?_
  refine lv_aload_n hx hb dX9_copy_151 rfl (lv_at hl 0 rfl) ?_
  refine x_getR X hK hw h0.1.1 h0.1.2 cpX9 6 (by decide) rfl (ta_R h0 6 (by decide)) tw_214 dX9_copy_152 ?_
  refine lv_iconst (v := (0 : Int32)) hx hb dX9_copy_155 (by decide) ?_
  refine lv_bipush (v := (6 : Int32)) hx hb dX9_copy_156 (by decide) ?_
  refine x_acopy X hK hw (ta_mem h1 6 (by decide)) (ta_S h1 6 rfl) (ta_mem h0 6 (by decide)) (ta_S h0 6 rfl) (k := 6) rfl (by decide) (by decide) (by decide) (Nat.le_of_ble_eq_true rfl) (by decide) tw_764 hl.1 dX9_copy_158 (fun H locs hw => ?_)
  obtain ⟨I_15, eI_15, hf⟩ := yb_let_ex hf
  have hw := yb_wI eI_15 hw
  refine lv_aload_n hx hb dX9_copy_161 rfl (lv_at hl 1 rfl) ?_
  refine x_getR X hK hw h1.1.1 h1.1.2 cpX9 7 (by decide) rfl (ta_R h1 7 (by decide)) tw_219 dX9_copy_162 ?_
  refine lv_iconst (v := (0 : Int32)) hx hb dX9_copy_165 (by decide) ?_
  refine lv_aload_n hx hb dX9_copy_166 rfl (lv_at hl 0 rfl) ?_
  refine x_getR X hK hw h0.1.1 h0.1.2 cpX9 7 (by decide) rfl (ta_R h0 7 (by decide)) tw_219 dX9_copy_167 ?_
  refine lv_iconst (v := (0 : Int32)) hx hb dX9_copy_170 (by decide) ?_
  refine lv_bipush (v := (6 : Int32)) hx hb dX9_copy_171 (by decide) ?_
  refine x_acopy X hK hw (ta_mem h1 7 (by decide)) (ta_S h1 7 rfl) (ta_mem h0 7 (by decide)) (ta_S h0 7 rfl) (k := 6) rfl (by decide) (by decide) (by decide) (Nat.le_of_ble_eq_true rfl) (by decide) tw_764 hl.1 dX9_copy_173 (fun H locs hw => ?_)
  obtain ⟨I_16, eI_16, hf⟩ := yb_let_ex hf
  have hw := yb_wI eI_16 hw
  exact yb_retv hfin hf hw dX9_copy_176
set_option maxHeartbeats 4000000 in
set_option maxRecDepth 100000 in
theorem c8_copy (l : Launch) (D : va_G) (cz : Nat → ClassId) (ev : Nat × Nat × Nat) {b : Nat} {L : List Nat} {S : ST} {Rf : RT} (hC : CW b L S Rf) {t0 : Nat} (h0 : StateAt L S Rf t0) {t1 : Nat} (h1 : StateAt L S Rf t1) {I : IT} {J : JT} {r : Unit} {I1 : IT} {J1 : JT} (hf : f8_copy b S Rf t0 t1 I J = some (r, I1, J1)) : MTv l D cz ev yX8_copy cX8_copy 2 (none) 2 121 [.ref t0, .ref t1] L S Rf I J r I1 J1 := by
  unfold f8_copy at hf
  refine MTv_of (by decide) (Nat.le_of_ble_eq_true rfl) ?_
  intro p e s m args below meth c Q ls X hK hw hl hfin
  have X : CallFix p m c cX8_copy 2 s args gw RX8 := X
  have hx := X.1
  have hb := X.2.1
  have hl : lv_has ls 2 [(0, .ref t0), (1, .ref t1)] := hl
  refine lv_aload_n hx hb dX8_copy_0 rfl (lv_at hl 0 rfl) ?_
  refine x_getR X hK hw h0.1.1 h0.1.2 cpX8 0 (by decide) rfl h0.2.1.1 tw_342 dX8_copy_1 ?_
  refine lv_aload_n hx hb dX8_copy_4 rfl (lv_at hl 1 rfl) ?_
  refine x_getR X hK hw h1.1.1 h1.1.2 cpX8 0 (by decide) rfl h1.2.1.1 tw_342 dX8_copy_5 ?_
  obtain ⟨r_1, I_2, J_3, hq_4, hf⟩ := yb_b3_some hf
  refine x_callv X hK hw (c9_copy l D cz ev hC (st_town h0) (st_town h1) hq_4) (st_town h0).1.1 (st_town h0).1.2 cpX9.1 vw_X8_39 ⟨Nat.le_of_ble_eq_true rfl, Nat.le_of_ble_eq_true rfl⟩ rfl rfl (Nat.le_of_ble_eq_true rfl) hl.1 ⟨Nat.le_refl _, Nat.le_refl _⟩ dX8_copy_8 (fun H locs hw => ?_)
  refine lv_aload_n hx hb dX8_copy_11 rfl (lv_at hl 0 rfl) ?_
  refine x_getR X hK hw h0.1.1 h0.1.2 cpX8 1 (by decide) rfl h0.2.2.1.1 tw_347 dX8_copy_12 ?_
  refine lv_aload_n hx hb dX8_copy_15 rfl (lv_at hl 1 rfl) ?_
  refine x_getR X hK hw h1.1.1 h1.1.2 cpX8 1 (by decide) rfl h1.2.2.1.1 tw_347 dX8_copy_16 ?_
  obtain ⟨r_5, I_6, J_7, hq_8, hf⟩ := yb_b3_some hf
  refine x_callv X hK hw (c0_copy l D cz ev hC (st_course h0) (st_course h1) hq_8) (st_course h0).1.1 (st_course h0).1.2 cpX0.1 vw_X8_43 ⟨Nat.le_of_ble_eq_true rfl, Nat.le_of_ble_eq_true rfl⟩ rfl rfl (Nat.le_of_ble_eq_true rfl) hl.1 ⟨Nat.le_refl _, Nat.le_refl _⟩ dX8_copy_19 (fun H locs hw => ?_)
  refine lv_aload_n hx hb dX8_copy_22 rfl (lv_at hl 0 rfl) ?_
  refine lv_aload_n hx hb dX8_copy_23 rfl (lv_at hl 1 rfl) ?_
  refine x_getI X hK hw h1.1.1 h1.1.2 cpX8 5 (by decide) rfl tw_355 dX8_copy_24 ?_
  refine x_putI X hK hw h0.1.1 h0.1.2 cpX8 5 (by decide) rfl rfl rfl tw_355 dX8_copy_27 (fun H locs hw => ?_)
  obtain ⟨I_9, eI_9, hf⟩ := yb_let_ex hf
  have hw := yb_wI eI_9 hw
  refine lv_aload_n hx hb dX8_copy_30 rfl (lv_at hl 1 rfl) ?_
  refine x_getR X hK hw h1.1.1 h1.1.2 cpX8 2 (by decide) rfl (st_R h1 0 (by decide)) tw_352 dX8_copy_31 ?_
  refine lv_iconst (v := (0 : Int32)) hx hb dX8_copy_34 (by decide) ?_
  refine lv_aload_n hx hb dX8_copy_35 rfl (lv_at hl 0 rfl) ?_
  refine x_getR X hK hw h0.1.1 h0.1.2 cpX8 2 (by decide) rfl (st_R h0 0 (by decide)) tw_352 dX8_copy_36 ?_
  refine lv_iconst (v := (0 : Int32)) hx hb dX8_copy_39 (by decide) ?_
  refine lv_bipush (v := (10 : Int32)) hx hb dX8_copy_40 (by decide) ?_
  refine x_acopy X hK hw (st_mem h1 0 (by decide)) (st_S h1 0 (by decide)) (st_mem h0 0 (by decide)) (st_S h0 0 (by decide)) (k := 10) rfl (by decide) (by decide) (by decide) (Nat.le_of_ble_eq_true rfl) (by decide) tw_1240 hl.1 dX8_copy_42 (fun H locs hw => ?_)
  obtain ⟨I_10, eI_10, hf⟩ := yb_let_ex hf
  have hw := yb_wI eI_10 hw
  refine lv_aload_n hx hb dX8_copy_45 rfl (lv_at hl 1 rfl) ?_
  refine x_getR X hK hw h1.1.1 h1.1.2 cpX8 3 (by decide) rfl (st_R h1 1 (by decide)) tw_353 dX8_copy_46 ?_
  refine lv_iconst (v := (0 : Int32)) hx hb dX8_copy_49 (by decide) ?_
  refine lv_aload_n hx hb dX8_copy_50 rfl (lv_at hl 0 rfl) ?_
  refine x_getR X hK hw h0.1.1 h0.1.2 cpX8 3 (by decide) rfl (st_R h0 1 (by decide)) tw_353 dX8_copy_51 ?_
  refine lv_iconst (v := (0 : Int32)) hx hb dX8_copy_54 (by decide) ?_
  refine lv_bipush (v := (10 : Int32)) hx hb dX8_copy_55 (by decide) ?_
  refine x_acopy X hK hw (st_mem h1 1 (by decide)) (st_S h1 1 (by decide)) (st_mem h0 1 (by decide)) (st_S h0 1 (by decide)) (k := 10) rfl (by decide) (by decide) (by decide) (Nat.le_of_ble_eq_true rfl) (by decide) tw_1240 hl.1 dX8_copy_57 (fun H locs hw => ?_)
  obtain ⟨I_11, eI_11, hf⟩ := yb_let_ex hf
  have hw := yb_wI eI_11 hw
  refine lv_aload_n hx hb dX8_copy_60 rfl (lv_at hl 1 rfl) ?_
  refine x_getR X hK hw h1.1.1 h1.1.2 cpX8 4 (by decide) rfl (st_R h1 2 (by decide)) tw_354 dX8_copy_61 ?_
  refine lv_iconst (v := (0 : Int32)) hx hb dX8_copy_64 (by decide) ?_
  refine lv_aload_n hx hb dX8_copy_65 rfl (lv_at hl 0 rfl) ?_
  refine x_getR X hK hw h0.1.1 h0.1.2 cpX8 4 (by decide) rfl (st_R h0 2 (by decide)) tw_354 dX8_copy_66 ?_
  refine lv_iconst (v := (0 : Int32)) hx hb dX8_copy_69 (by decide) ?_
  refine lv_bipush (v := (10 : Int32)) hx hb dX8_copy_70 (by decide) ?_
  refine x_acopy X hK hw (st_mem h1 2 (by decide)) (st_S h1 2 (by decide)) (st_mem h0 2 (by decide)) (st_S h0 2 (by decide)) (k := 10) rfl (by decide) (by decide) (by decide) (Nat.le_of_ble_eq_true rfl) (by decide) tw_1240 hl.1 dX8_copy_72 (fun H locs hw => ?_)
  obtain ⟨I_12, eI_12, hf⟩ := yb_let_ex hf
  have hw := yb_wI eI_12 hw
  refine lv_aload_n hx hb dX8_copy_75 rfl (lv_at hl 0 rfl) ?_
  refine lv_aload_n hx hb dX8_copy_76 rfl (lv_at hl 1 rfl) ?_
  refine x_getI X hK hw h1.1.1 h1.1.2 cpX8 6 (by decide) rfl tw_357 dX8_copy_77 ?_
  refine x_putI X hK hw h0.1.1 h0.1.2 cpX8 6 (by decide) rfl rfl rfl tw_357 dX8_copy_80 (fun H locs hw => ?_)
  obtain ⟨I_13, eI_13, hf⟩ := yb_let_ex hf
  have hw := yb_wI eI_13 hw
  refine lv_aload_n hx hb dX8_copy_83 rfl (lv_at hl 0 rfl) ?_
  refine lv_aload_n hx hb dX8_copy_84 rfl (lv_at hl 1 rfl) ?_
  refine x_getI X hK hw h1.1.1 h1.1.2 cpX8 7 (by decide) rfl tw_360 dX8_copy_85 ?_
  refine x_putI X hK hw h0.1.1 h0.1.2 cpX8 7 (by decide) rfl rfl rfl tw_360 dX8_copy_88 (fun H locs hw => ?_)
  obtain ⟨I_14, eI_14, hf⟩ := yb_let_ex hf
  have hw := yb_wI eI_14 hw
  exact yb_retv hfin hf hw dX8_copy_91
set_option maxHeartbeats 4000000 in
set_option maxRecDepth 100000 in
theorem c8_settle (l : Launch) (D : va_G) (cz : Nat → ClassId) (ev : Nat × Nat × Nat) {b : Nat} {L : List Nat} {S : ST} {Rf : RT} (hC : CW b L S Rf) {t0 : Nat} (h0 : StateAt L S Rf t0) {t1 : Nat} (h1 : TownAt L S Rf t1) {N : Nat} {I : IT} {J : JT} {r : Unit} {I1 : IT} {J1 : JT} (hf : f8_settle N b S Rf t0 t1 I J = some (r, I1, J1)) : MTv l D cz ev yX8_settle cX8_settle 2 (none) 2 121 [.ref t0, .ref t1] L S Rf I J r I1 J1 := by
  unfold f8_settle at hf
  refine MTv_of (by decide) (Nat.le_of_ble_eq_true rfl) ?_
  intro p e s m args below meth c Q ls X hK hw hl hfin
  have X : CallFix p m c cX8_settle 2 s args gw RX8 := X
  have hx := X.1
  have hb := X.2.1
  have hl : lv_has ls 2 [(0, .ref t0), (1, .ref t1)] := hl
  refine lv_aload_n hx hb dX8_settle_0 rfl (lv_at hl 0 rfl) ?_
  refine x_getR X hK hw h0.1.1 h0.1.2 cpX8 0 (by decide) rfl h0.2.1.1 tw_342 dX8_settle_1 ?_
  refine lv_aload_n hx hb dX8_settle_4 rfl (lv_at hl 1 rfl) ?_
  obtain ⟨r_1, I_2, J_3, hq_4, hf⟩ := yb_b3_some hf
  refine x_callv X hK hw (c9_copy l D cz ev hC (st_town h0) h1 hq_4) (st_town h0).1.1 (st_town h0).1.2 cpX9.1 vw_X8_39 ⟨Nat.le_of_ble_eq_true rfl, Nat.le_of_ble_eq_true rfl⟩ rfl rfl (Nat.le_of_ble_eq_true rfl) hl.1 ⟨Nat.le_refl _, Nat.le_refl _⟩ dX8_settle_5 (fun H locs hw => ?_)
  refine lv_aload_n hx hb dX8_settle_8 rfl (lv_at hl 0 rfl) ?_
  refine x_getR X hK hw h0.1.1 h0.1.2 cpX8 1 (by decide) rfl h0.2.2.1.1 tw_347 dX8_settle_9 ?_
  refine lv_aload_n hx hb dX8_settle_12 rfl (lv_at hl 1 rfl) ?_
  obtain ⟨r_5, I_6, J_7, hq_8, hf⟩ := yb_b3_some hf
  refine x_callv X hK hw (c0_start l D cz ev hC (st_course h0) h1 hq_8) (st_course h0).1.1 (st_course h0).1.2 cpX0.1 vw_X8_58 ⟨Nat.le_of_ble_eq_true rfl, Nat.le_of_ble_eq_true rfl⟩ rfl rfl (Nat.le_of_ble_eq_true rfl) hl.1 ⟨Nat.le_refl _, Nat.le_refl _⟩ dX8_settle_13 (fun H locs hw => ?_)
  refine lv_aload_n hx hb dX8_settle_16 rfl (lv_at hl 0 rfl) ?_
  refine lv_iconst (v := (0 : Int32)) hx hb dX8_settle_17 (by decide) ?_
  refine x_putI X hK hw h0.1.1 h0.1.2 cpX8 5 (by decide) rfl rfl rfl tw_355 dX8_settle_18 (fun H locs hw => ?_)
  obtain ⟨I_9, eI_9, hf⟩ := yb_let_ex hf
  have hw := yb_wI eI_9 hw
  exact yb_retv hfin hf hw dX8_settle_21
set_option maxHeartbeats 4000000 in
set_option maxRecDepth 100000 in
theorem c8_addFact (l : Launch) (D : va_G) (cz : Nat → ClassId) (ev : Nat × Nat × Nat) {b : Nat} {L : List Nat} {S : ST} {Rf : RT} (hC : CW b L S Rf) {t0 : Nat} (h0 : StateAt L S Rf t0) {x1 : Int32} {x2 : Int32} {x3 : Int32} {I : IT} {J : JT} {r : Unit} {I1 : IT} {J1 : JT} (hf : f8_addFact b S Rf t0 x1 x2 x3 I J = some (r, I1, J1)) : MTv l D cz ev yX8_addFact cX8_addFact 4 (none) 0 0 [.ref t0, .int x1, .int x2, .int x3] L S Rf I J r I1 J1 := by
  unfold f8_addFact at hf
  refine MTv_of (by decide) (Nat.le_of_ble_eq_true rfl) ?_
  intro p e s m args below meth c Q ls X hK hw hl hfin
  have X : CallFix p m c cX8_addFact 4 s args gw RX8 := X
  have hx := X.1
  have hb := X.2.1
  have hl : lv_has ls 4 [(0, .ref t0), (1, .int x1), (2, .int x2), (3, .int x3)] := hl
  refine lv_aload_n hx hb dX8_addFact_0 rfl (lv_at hl 0 rfl) ?_
  refine x_getI X hK hw h0.1.1 h0.1.2 cpX8 5 (by decide) rfl tw_355 dX8_addFact_1 ?_
  refine lv_bipush (v := (10 : Int32)) hx hb dX8_addFact_4 (by decide) ?_
  refine lv_icmp_ge (tgt := 49) hx hb dX8_addFact_6 (by decide) (fun c_1 => ?_) (fun c_1 => ?_)
  · have hf := yb_pos c_1 hf
    exact yb_retv hfin hf hw dX8_addFact_49
  · have hf := yb_neg c_1 hf
    refine lv_aload_n hx hb dX8_addFact_9 rfl (lv_at hl 0 rfl) ?_
    refine x_getR X hK hw h0.1.1 h0.1.2 cpX8 2 (by decide) rfl (st_R h0 0 (by decide)) tw_352 dX8_addFact_10 ?_
    refine lv_aload_n hx hb dX8_addFact_13 rfl (lv_at hl 0 rfl) ?_
    refine x_getI X hK hw h0.1.1 h0.1.2 cpX8 5 (by decide) rfl tw_355 dX8_addFact_14 ?_
    refine lv_iload_n hx hb dX8_addFact_17 rfl (lv_at hl 1 rfl) ?_
    obtain ⟨hi_2, hf⟩ := yb_ck_some hf
    refine x_iast X hK hw (st_mem h0 0 (by decide)) (st_S h0 0 (by decide)) hi_2 rfl dX8_addFact_18 (fun H locs hw => ?_)
    obtain ⟨I_3, eI_3, hf⟩ := yb_let_ex hf
    have hw := yb_wI eI_3 hw
    refine lv_aload_n hx hb dX8_addFact_19 rfl (lv_at hl 0 rfl) ?_
    refine x_getR X hK hw h0.1.1 h0.1.2 cpX8 3 (by decide) rfl (st_R h0 1 (by decide)) tw_353 dX8_addFact_20 ?_
    refine lv_aload_n hx hb dX8_addFact_23 rfl (lv_at hl 0 rfl) ?_
    refine x_getI X hK hw h0.1.1 h0.1.2 cpX8 5 (by decide) rfl tw_355 dX8_addFact_24 ?_
    refine lv_iload_n hx hb dX8_addFact_27 rfl (lv_at hl 2 rfl) ?_
    obtain ⟨hi_4, hf⟩ := yb_ck_some hf
    refine x_iast X hK hw (st_mem h0 1 (by decide)) (st_S h0 1 (by decide)) hi_4 rfl dX8_addFact_28 (fun H locs hw => ?_)
    obtain ⟨I_5, eI_5, hf⟩ := yb_let_ex hf
    have hw := yb_wI eI_5 hw
    refine lv_aload_n hx hb dX8_addFact_29 rfl (lv_at hl 0 rfl) ?_
    refine x_getR X hK hw h0.1.1 h0.1.2 cpX8 4 (by decide) rfl (st_R h0 2 (by decide)) tw_354 dX8_addFact_30 ?_
    refine lv_aload_n hx hb dX8_addFact_33 rfl (lv_at hl 0 rfl) ?_
    refine x_getI X hK hw h0.1.1 h0.1.2 cpX8 5 (by decide) rfl tw_355 dX8_addFact_34 ?_
    refine lv_iload_n hx hb dX8_addFact_37 rfl (lv_at hl 3 rfl) ?_
    obtain ⟨hi_6, hf⟩ := yb_ck_some hf
    refine x_iast X hK hw (st_mem h0 2 (by decide)) (st_S h0 2 (by decide)) hi_6 rfl dX8_addFact_38 (fun H locs hw => ?_)
    obtain ⟨I_7, eI_7, hf⟩ := yb_let_ex hf
    have hw := yb_wI eI_7 hw
    refine lv_aload_n hx hb dX8_addFact_39 rfl (lv_at hl 0 rfl) ?_
    refine lv_dup hx hb dX8_addFact_40 rfl ?_
    refine x_getI X hK hw h0.1.1 h0.1.2 cpX8 5 (by decide) rfl tw_355 dX8_addFact_41 ?_
    refine lv_iconst (v := (1 : Int32)) hx hb dX8_addFact_44 (by decide) ?_
    refine lv_iadd hx hb dX8_addFact_45 ?_
    refine x_putI X hK hw h0.1.1 h0.1.2 cpX8 5 (by decide) rfl rfl rfl tw_355 dX8_addFact_46 (fun H locs hw => ?_)
    obtain ⟨I_8, eI_8, hf⟩ := yb_let_ex hf
    have hw := yb_wI eI_8 hw
    exact yb_retv hfin hf hw dX8_addFact_49
