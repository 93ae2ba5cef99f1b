set_option maxHeartbeats 4000000 in
set_option maxRecDepth 100000 in
theorem c12_canHear (l : Launch) (D : va_G) (cz : Nat → ClassId) (ev : Nat × Nat × Nat) (mb : Nat) {N : Nat} {x1 : Int32} {x2 : Int32} {x3 : Int32} {I : IT} {J : JT} {r : Int32} {I1 : IT} {J1 : JT} (hf : f12_canHear N mb x1 x2 x3 I J = some (r, I1, J1)) : MTi l D cz ev yX12_canHear cX12_canHear 4 (some .boolean) 4 91 [.ref mb, .int x1, .int x2, .int x3] (mlL mb) (mlS mb) (mlR mb) I J r I1 J1 := by
  unfold f12_canHear at hf
  refine MTz_of (by decide) (Nat.le_of_ble_eq_true rfl) ?_
  intro p e s m args below meth c Q ls X hK hw hl hfin
  have X : CallFix p m c cX12_canHear 4 s args gw RX12 := X
  have hx := X.1
  have hb := X.2.1
  have hl : lv_has ls 4 [(0, .ref mb), (1, .int x1), (2, .int x2), (3, .int x3)] := hl
  refine lv_iload_n hx hb dX12_canHear_0 rfl (lv_at hl 3 rfl) ?_
  refine lv_aload_n hx hb dX12_canHear_1 rfl (lv_at hl 0 rfl) ?_
  refine lv_iload_n hx hb dX12_canHear_2 rfl (lv_at hl 1 rfl) ?_
  refine lv_iconst (v := (3 : Int32)) hx hb dX12_canHear_3 (by decide) ?_
  obtain ⟨r_1, I_2, J_3, hq_4, hf⟩ := yb_b3_some hf
  refine x_calli X hK hw (c12_caseOf l D cz ev mb hq_4) (ml_mem0 mb) (ml_S0 mb) cpX12.1 vw_X12_331 ⟨Nat.le_of_ble_eq_true rfl, Nat.le_of_ble_eq_true rfl⟩ rfl rfl (Nat.le_of_ble_eq_true rfl) hl.1 ⟨Nat.le_refl _, Nat.le_refl _⟩ dX12_canHear_4 (fun H locs hw => ?_)
  refine lv_icmp_lt (tgt := 35) hx hb dX12_canHear_7 (by decide) (fun c_5 => ?_) (fun c_5 => ?_)
  · have hf := yb_pos c_5 hf
    refine lv_iconst (v := (0 : Int32)) hx hb dX12_canHear_35 (by decide) ?_
    exact yb_retz hfin (by decide) hf hw dX12_canHear_36
  · have hf := yb_neg c_5 hf
    refine lv_aload_n hx hb dX12_canHear_10 rfl (lv_at hl 0 rfl) ?_
    refine lv_iload_n hx hb dX12_canHear_11 rfl (lv_at hl 2 rfl) ?_
    refine lv_aload_n hx hb dX12_canHear_12 rfl (lv_at hl 0 rfl) ?_
    refine lv_iload_n hx hb dX12_canHear_13 rfl (lv_at hl 1 rfl) ?_
    refine lv_iconst (v := (0 : Int32)) hx hb dX12_canHear_14 (by decide) ?_
    obtain ⟨r_6, I_7, J_8, hq_9, hf⟩ := yb_b3_some hf
    refine x_calli X hK hw (c12_caseOf l D cz ev mb hq_9) (ml_mem0 mb) (ml_S0 mb) cpX12.1 vw_X12_331 ⟨Nat.le_of_ble_eq_true rfl, Nat.le_of_ble_eq_true rfl⟩ rfl rfl (Nat.le_of_ble_eq_true rfl) hl.1 ⟨Nat.le_refl _, Nat.le_refl _⟩ dX12_canHear_15 (fun H locs hw => ?_)
    refine lv_aload_n hx hb dX12_canHear_18 rfl (lv_at hl 0 rfl) ?_
    refine lv_iload_n hx hb dX12_canHear_19 rfl (lv_at hl 1 rfl) ?_
    refine lv_iconst (v := (2 : Int32)) hx hb dX12_canHear_20 (by decide) ?_
    obtain ⟨r_10, I_11, J_12, hq_13, hf⟩ := yb_b3_some hf
    refine x_calli X hK hw (c12_caseOf l D cz ev mb hq_13) (ml_mem0 mb) (ml_S0 mb) cpX12.1 vw_X12_331 ⟨Nat.le_of_ble_eq_true rfl, Nat.le_of_ble_eq_true rfl⟩ rfl rfl (Nat.le_of_ble_eq_true rfl) hl.1 ⟨Nat.le_refl _, Nat.le_refl _⟩ dX12_canHear_21 (fun H locs hw => ?_)
    refine lv_iload_n hx hb dX12_canHear_24 rfl (lv_at hl 3 rfl) ?_
    obtain ⟨r_14, I_15, J_16, hq_17, hf⟩ := yb_b3_some hf
    refine x_calli X hK hw (c12_canSit l D cz ev mb hq_17) (ml_mem0 mb) (ml_S0 mb) cpX12.1 vw_X12_334 ⟨Nat.le_of_ble_eq_true rfl, Nat.le_of_ble_eq_true rfl⟩ rfl rfl (Nat.le_of_ble_eq_true rfl) hl.1 ⟨Nat.le_refl _, Nat.le_refl _⟩ dX12_canHear_25 (fun H locs hw => ?_)
    refine lv_if_eq (tgt := 35) hx hb dX12_canHear_28 (by decide) (fun c_18 => ?_) (fun c_18 => ?_)
    · have hf := yb_pos c_18 hf
      refine lv_iconst (v := (0 : Int32)) hx hb dX12_canHear_35 (by decide) ?_
      exact yb_retz hfin (by decide) hf hw dX12_canHear_36
    · have hf := yb_neg c_18 hf
      refine lv_iconst (v := (1 : Int32)) hx hb dX12_canHear_31 (by decide) ?_
      refine lv_goto (tgt := 36) hx hb dX12_canHear_32 (by decide) ?_
      exact yb_retz hfin (by decide) hf hw dX12_canHear_36
set_option maxHeartbeats 4000000 in
set_option maxRecDepth 100000 in
theorem w12_hearsNow_L2 {p : Program} {l : Launch} {e : Env} {s : State} {m : MethodId} {args : Array Value} {below : List Frame} {meth : Method} {c : Code} {Q : State → Prop} {D : va_G} {cz : Nat → ClassId} {A : Nat → Prop} {ev : Nat × Nat × Nat} {mb : Nat} (X : CallFix p m c cX12_hearsNow 3 s args gw RX12) (hK : KX D cz ev A s) {N : Nat} {x1 : Int32} {rM : Int32} {IM : IT} {JM : JT} :
    ∀ (n : Nat) (x2 : Int32) (I : IT) (J : JT) (q : (Int32 ⊕ (Unit))) (I1 : IT) (J1 : JT) (H : Heap) (locs : List Loc) (ls : Array Slot), f12_hearsNow_L2 N mb x1 n x2 I J = some (q, I1, J1) → WX D cz A (mlL mb) (mlS mb) (mlR mb) s.heap I J H locs → lv_has ls 3 [(0, .ref mb), (1, .int x1), (2, .int x2)] →
    (∀ v, q = .inl v → some (v, I1, J1) = some (rM, IM, JM)) → (∀ (H : Heap) (locs : List Loc) (ls : Array Slot) (pc : Nat), WX D cz A (mlL mb) (mlS mb) (mlR mb) s.heap IM JM H locs → decode cX12_hearsNow pc = .ok (.ireturn, 1) → W p l e (rmX 1 22) s m args below meth c H locs 0 0 Q (F0 m pc ls [.int rM])) →
    (∀ xq, q = .inr xq → ∀ (H : Heap) (locs : List Loc) (ls : Array Slot), WX D cz A (mlL mb) (mlS mb) (mlR mb) s.heap I1 J1 H locs → lv_has ls 3 [] → W p l e (rmX 1 22) s m args below meth c H locs 0 0 Q (F0 m 30 ls [])) →
    W p l e (rmX 1 22) s m args below meth c H locs 0 0 Q (F0 m 2 ls []) := by
  have hx := X.1
  have hb := X.2.1
  intro n
  induction n with
  | zero =>
    intro x2 I J q I1 J1 H locs ls hf
    rw [f12_hearsNow_L2] at hf
    cases hf
  | succ n ih =>
    intro x2 I J q I1 J1 H locs ls hf hw hl hret hfin hexit
    rw [f12_hearsNow_L2] at hf
    refine lv_iload_n hx hb dX12_hearsNow_2 rfl (lv_at hl 2 rfl) ?_
    refine lv_aload_n hx hb dX12_hearsNow_3 rfl (lv_at hl 0 rfl) ?_
    refine x_getR X hK hw (ml_mem0 mb) (ml_S0 mb) cpX12 20 (by decide) rfl (ml_R mb 20 rfl) tw_1271 dX12_hearsNow_4 ?_
    refine lv_iconst (v := (3 : Int32)) hx hb dX12_hearsNow_7 (by decide) ?_
    refine x_iald X hK hw (ml_mem mb 10 (by decide)) (ml_S mb 10 rfl) (by decide) rfl dX12_hearsNow_8 ?_
    refine lv_icmp_ge (tgt := 30) hx hb dX12_hearsNow_9 (by decide) (fun c_1 => ?_) (fun c_1 => ?_)
    · have hf := yb_pos c_1 hf
      obtain ⟨rfl, rfl, rfl⟩ := yb_inj hf
      exact hexit _ rfl _ _ _ hw (lv_sub hl [] rfl)
    · have hf := yb_neg c_1 hf
      refine lv_aload_n hx hb dX12_hearsNow_12 rfl (lv_at hl 0 rfl) ?_
      refine lv_iload_n hx hb dX12_hearsNow_13 rfl (lv_at hl 2 rfl) ?_
      refine lv_iconst (v := (4 : Int32)) hx hb dX12_hearsNow_14 (by decide) ?_
      obtain ⟨r_2, I_3, J_4, hq_5, hf⟩ := yb_b3_some hf
      refine x_calli X hK hw (c12_caseOf l D cz ev mb hq_5) (ml_mem0 mb) (ml_S0 mb) cpX12.1 vw_X12_331 ⟨Nat.le_of_ble_eq_true rfl, Nat.le_of_ble_eq_true rfl⟩ rfl rfl (Nat.le_of_ble_eq_true rfl) hl.1 ⟨Nat.le_refl _, Nat.le_refl _⟩ dX12_hearsNow_15 (fun H locs hw => ?_)
      refine lv_iload_n hx hb dX12_hearsNow_18 rfl (lv_at hl 1 rfl) ?_
      refine lv_icmp_ne (tgt := 24) hx hb dX12_hearsNow_19 (by decide) (fun c_6 => ?_) (fun c_6 => ?_)
      · have hf := yb_neg c_6 hf
        obtain ⟨x2_7, ex2_7, hf⟩ := yb_let_ex hf
        refine lv_iinc (v := x2_7) (lv' := [(2, .int x2_7), (0, .ref mb), (1, .int x1)]) hx hb dX12_hearsNow_24 hl (k := 2) rfl (by rw [ex2_7]; rfl) (by decide) rfl (fun ls hl => ?_)
        refine lv_goto (tgt := 2) hx hb dX12_hearsNow_27 (by decide) ?_
        exact ih _ _ _ _ _ _ _ _ _ hf hw (lv_sub hl [1, 2, 0] rfl) hret hfin hexit
      · have hf := yb_pos c_6 hf
        refine lv_iload_n hx hb dX12_hearsNow_22 rfl (lv_at hl 2 rfl) ?_
        exact yb_reti hfin (yb_inl hret hf) hw dX12_hearsNow_23
set_option maxHeartbeats 4000000 in
set_option maxRecDepth 100000 in
theorem c12_hearsNow (l : Launch) (D : va_G) (cz : Nat → ClassId) (ev : Nat × Nat × Nat) (mb : Nat) {N : Nat} {x1 : Int32} {I : IT} {J : JT} {r : Int32} {I1 : IT} {J1 : JT} (hf : f12_hearsNow N mb x1 I J = some (r, I1, J1)) : MTi l D cz ev yX12_hearsNow cX12_hearsNow 3 (some .int) 1 22 [.ref mb, .int x1] (mlL mb) (mlS mb) (mlR mb) I J r I1 J1 := by
  unfold f12_hearsNow at hf
  refine MTi_of (by decide) (Nat.le_of_ble_eq_true rfl) ?_
  intro p e s m args below meth c Q ls X hK hw hl hfin
  have X : CallFix p m c cX12_hearsNow 3 s args gw RX12 := X
  have hx := X.1
  have hb := X.2.1
  have hl : lv_has ls 3 [(0, .ref mb), (1, .int x1)] := hl
  refine lv_iconst (v := (0 : Int32)) hx hb dX12_hearsNow_0 (by decide) ?_
  refine lv_istore_n (lv' := [(2, .int (0 : Int32)), (0, .ref mb), (1, .int x1)]) hx hb dX12_hearsNow_1 rfl hl (by decide) rfl (fun ls hl => ?_)
  obtain ⟨q_8, I_9, J_10, hq_11, hf⟩ := yb_b3_some hf
  refine w12_hearsNow_L2 X hK _ _ _ _ _ _ _ _ _ _ hq_11 hw (lv_sub hl [1, 2, 0] rfl) (fun v hv => by rw [hv] at hf; exact hf) hfin (fun x_13 hx1 H locs ls hw hl => ?_)
  rw [hx1] at hf
  have hf := yb_sm_r hf
  refine lv_iconst (v := (-1 : Int32)) hx hb dX12_hearsNow_30 (by decide) ?_
  exact yb_reti hfin hf hw dX12_hearsNow_31
set_option maxHeartbeats 4000000 in
set_option maxRecDepth 100000 in
theorem c12_force (l : Launch) (D : va_G) (cz : Nat → ClassId) (ev : Nat × Nat × Nat) (mb : Nat) {x1 : Int32} {I : IT} {J : JT} {r : Int32} {I1 : IT} {J1 : JT} (hf : f12_force mb x1 I J = some (r, I1, J1)) : MTi l D cz ev yX12_force cX12_force 3 (some .int) 1 21 [.ref mb, .int x1] (mlL mb) (mlS mb) (mlR mb) I J r I1 J1 := by
  unfold f12_force at hf
  refine MTi_of (by decide) (Nat.le_of_ble_eq_true rfl) ?_
  intro p e s m args below meth c Q ls X hK hw hl hfin
  have X : CallFix p m c cX12_force 3 s args gw RX12 := X
  have hx := X.1
  have hb := X.2.1
  have hl : lv_has ls 3 [(0, .ref mb), (1, .int x1)] := hl
  refine lv_iload_n hx hb dX12_force_0 rfl (lv_at hl 1 rfl) ?_
  refine lv_iconst (v := (-1 : Int32)) hx hb dX12_force_1 (by decide) ?_
  refine lv_icmp_eq (tgt := 16) hx hb dX12_force_2 (by decide) (fun c_1 => ?_) (fun c_1 => ?_)
  · have hf := yb_pos c_1 hf
    refine lv_aload_n hx hb dX12_force_16 rfl (lv_at hl 0 rfl) ?_
    refine x_getI X hK hw (ml_mem0 mb) (ml_S0 mb) cpX12 21 (by decide) rfl tw_1272 dX12_force_17 ?_
    refine lv_topi (fun x2_2 ex2_2 => ?_)
    have hf := yb_let_to ex2_2 hf
    refine lv_istore_n (lv' := [(2, .int x2_2), (0, .ref mb), (1, .int x1)]) hx hb dX12_force_20 rfl hl (by decide) rfl (fun ls hl => ?_)
    refine lv_aload_n hx hb dX12_force_21 rfl (lv_at hl 1 rfl) ?_
    refine lv_iload_n hx hb dX12_force_22 rfl (lv_at hl 2 rfl) ?_
    refine x_putI X hK hw (ml_mem0 mb) (ml_S0 mb) cpX12 21 (by decide) rfl rfl rfl tw_1272 dX12_force_23 (fun H locs hw => ?_)
    obtain ⟨I_3, eI_3, hf⟩ := yb_let_ex hf
    have hw := yb_wI eI_3 hw
    refine lv_iload_n hx hb dX12_force_26 rfl (lv_at hl 0 rfl) ?_
    exact yb_reti hfin hf hw dX12_force_27
  · have hf := yb_neg c_1 hf
    refine lv_aload_n hx hb dX12_force_5 rfl (lv_at hl 0 rfl) ?_
    refine lv_iload_n hx hb dX12_force_6 rfl (lv_at hl 1 rfl) ?_
    obtain ⟨r_4, I_5, J_6, hq_7, hf⟩ := yb_b3_some hf
    refine x_calli X hK hw (c12_isRule l D cz ev mb hq_7) (ml_mem0 mb) (ml_S0 mb) cpX12.1 vw_X12_338 ⟨Nat.le_of_ble_eq_true rfl, Nat.le_of_ble_eq_true rfl⟩ rfl rfl (Nat.le_of_ble_eq_true rfl) hl.1 ⟨Nat.le_refl _, Nat.le_refl _⟩ dX12_force_7 (fun H locs hw => ?_)
    refine lv_if_ne (tgt := 16) hx hb dX12_force_10 (by decide) (fun c_8 => ?_) (fun c_8 => ?_)
    · have hf := yb_neg c_8 hf
      refine lv_aload_n hx hb dX12_force_16 rfl (lv_at hl 0 rfl) ?_
      refine x_getI X hK hw (ml_mem0 mb) (ml_S0 mb) cpX12 21 (by decide) rfl tw_1272 dX12_force_17 ?_
      refine lv_topi (fun x2_9 ex2_9 => ?_)
      have hf := yb_let_to ex2_9 hf
      refine lv_istore_n (lv' := [(2, .int x2_9), (0, .ref mb), (1, .int x1)]) hx hb dX12_force_20 rfl hl (by decide) rfl (fun ls hl => ?_)
      refine lv_aload_n hx hb dX12_force_21 rfl (lv_at hl 1 rfl) ?_
      refine lv_iload_n hx hb dX12_force_22 rfl (lv_at hl 2 rfl) ?_
      refine x_putI X hK hw (ml_mem0 mb) (ml_S0 mb) cpX12 21 (by decide) rfl rfl rfl tw_1272 dX12_force_23 (fun H locs hw => ?_)
      obtain ⟨I_10, eI_10, hf⟩ := yb_let_ex hf
      have hw := yb_wI eI_10 hw
      refine lv_iload_n hx hb dX12_force_26 rfl (lv_at hl 0 rfl) ?_
      exact yb_reti hfin hf hw dX12_force_27
    · have hf := yb_pos c_8 hf
      refine lv_bipush (v := (-2 : Int32)) hx hb dX12_force_13 (by decide) ?_
      exact yb_reti hfin hf hw dX12_force_15
set_option maxHeartbeats 4000000 in
set_option maxRecDepth 100000 in
theorem c12_person (l : Launch) (D : va_G) (cz : Nat → ClassId) (ev : Nat × Nat × Nat) (mb : Nat) {N : Nat} {x1 : Int32} {x2 : Int32} {I : IT} {J : JT} {r : Int32} {I1 : IT} {J1 : JT} (hf : f12_person N mb x1 x2 I J = some (r, I1, J1)) : MTi l D cz ev yX12_person cX12_person 4 (some .int) 3 66 [.ref mb, .int x1, .int x2] (mlL mb) (mlS mb) (mlR mb) I J r I1 J1 := by
  unfold f12_person at hf
  refine MTi_of (by decide) (Nat.le_of_ble_eq_true rfl) ?_
  intro p e s m args below meth c Q ls X hK hw hl hfin
  have X : CallFix p m c cX12_person 4 s args gw RX12 := X
  have hx := X.1
  have hb := X.2.1
  have hl : lv_has ls 4 [(0, .ref mb), (1, .int x1), (2, .int x2)] := hl
  refine lv_aload_n hx hb dX12_person_0 rfl (lv_at hl 0 rfl) ?_
  refine lv_iload_n hx hb dX12_person_1 rfl (lv_at hl 1 rfl) ?_
  obtain ⟨r_1, I_2, J_3, hq_4, hf⟩ := yb_b3_some hf
  refine x_calli X hK hw (c12_isPerson l D cz ev mb hq_4) (ml_mem0 mb) (ml_S0 mb) cpX12.1 vw_X12_341 ⟨Nat.le_of_ble_eq_true rfl, Nat.le_of_ble_eq_true rfl⟩ rfl rfl (Nat.le_of_ble_eq_true rfl) hl.1 ⟨Nat.le_refl _, Nat.le_refl _⟩ dX12_person_2 (fun H locs hw => ?_)
  refine lv_if_ne (tgt := 10) hx hb dX12_person_5 (by decide) (fun c_5 => ?_) (fun c_5 => ?_)
  · have hf := yb_neg c_5 hf
    refine lv_aload_n hx hb dX12_person_10 rfl (lv_at hl 0 rfl) ?_
    refine x_getR X hK hw (ml_mem0 mb) (ml_S0 mb) cpX12 20 (by decide) rfl (ml_R mb 20 rfl) tw_1271 dX12_person_11 ?_
    refine lv_iconst (v := (4 : Int32)) hx hb dX12_person_14 (by decide) ?_
    refine x_iald X hK hw (ml_mem mb 10 (by decide)) (ml_S mb 10 rfl) (by decide) rfl dX12_person_15 ?_
    refine lv_topi (fun x3_6 ex3_6 => ?_)
    have hf := yb_let_to ex3_6 hf
    refine lv_istore_n (lv' := [(3, .int x3_6), (0, .ref mb), (1, .int x1), (2, .int x2)]) hx hb dX12_person_16 rfl hl (by decide) rfl (fun ls hl => ?_)
    refine lv_iload_n hx hb dX12_person_17 rfl (lv_at hl 3 rfl) ?_
    by_cases c_7 : x2 = (0 : Int32)
    · have hf := yb_pos c_7 hf
      refine lv_tableIn (off := 46) (tgt := 64) hx hb dX12_person_18 (by rw [c_7]; decide) (by rw [c_7]; decide) (by rw [c_7]; rfl) (by decide) ?_
      refine lv_aload_n hx hb dX12_person_64 rfl (lv_at hl 1 rfl) ?_
      refine lv_iload_n hx hb dX12_person_65 rfl (lv_at hl 2 rfl) ?_
      refine lv_iload_n hx hb dX12_person_66 rfl (lv_at hl 0 rfl) ?_
      obtain ⟨r_8, I_9, J_10, hq_11, hf⟩ := yb_b3_some hf
      refine x_calli X hK hw (c12_ageOn l D cz ev mb hq_11) (ml_mem0 mb) (ml_S0 mb) cpX12.1 vw_X12_316 ⟨Nat.le_of_ble_eq_true rfl, Nat.le_of_ble_eq_true rfl⟩ rfl rfl (Nat.le_of_ble_eq_true rfl) hl.1 ⟨Nat.le_refl _, Nat.le_refl _⟩ dX12_person_67 (fun H locs hw => ?_)
      exact yb_reti hfin hf hw dX12_person_70
    have hf := yb_neg c_7 hf
    by_cases c_12 : x2 = (1 : Int32)
    · have hf := yb_pos c_12 hf
      refine lv_tableIn (off := 53) (tgt := 71) hx hb dX12_person_18 (by rw [c_12]; decide) (by rw [c_12]; decide) (by rw [c_12]; rfl) (by decide) ?_
      refine lv_aload_n hx hb dX12_person_71 rfl (lv_at hl 1 rfl) ?_
      refine lv_iload_n hx hb dX12_person_72 rfl (lv_at hl 2 rfl) ?_
      refine lv_iload_n hx hb dX12_person_73 rfl (lv_at hl 3 rfl) ?_
      obtain ⟨r_13, I_14, J_15, hq_16, hf⟩ := yb_b3_some hf
      refine x_calli X hK hw (c12_personOf l D cz ev mb hq_16) (ml_mem0 mb) (ml_S0 mb) cpX12.1 vw_X12_312 ⟨Nat.le_of_ble_eq_true rfl, Nat.le_of_ble_eq_true rfl⟩ rfl rfl (Nat.le_of_ble_eq_true rfl) hl.1 ⟨Nat.le_refl _, Nat.le_refl _⟩ dX12_person_74 (fun H locs hw => ?_)
      exact yb_reti hfin hf hw dX12_person_77
    have hf := yb_neg c_12 hf
    by_cases c_17 : x2 = (2 : Int32)
    · have hf := yb_pos c_17 hf
      refine lv_tableIn (off := 53) (tgt := 71) hx hb dX12_person_18 (by rw [c_17]; decide) (by rw [c_17]; decide) (by rw [c_17]; rfl) (by decide) ?_
      refine lv_aload_n hx hb dX12_person_71 rfl (lv_at hl 1 rfl) ?_
      refine lv_iload_n hx hb dX12_person_72 rfl (lv_at hl 2 rfl) ?_
      refine lv_iload_n hx hb dX12_person_73 rfl (lv_at hl 3 rfl) ?_
      obtain ⟨r_18, I_19, J_20, hq_21, hf⟩ := yb_b3_some hf
      refine x_calli X hK hw (c12_personOf l D cz ev mb hq_21) (ml_mem0 mb) (ml_S0 mb) cpX12.1 vw_X12_312 ⟨Nat.le_of_ble_eq_true rfl, Nat.le_of_ble_eq_true rfl⟩ rfl rfl (Nat.le_of_ble_eq_true rfl) hl.1 ⟨Nat.le_refl _, Nat.le_refl _⟩ dX12_person_74 (fun H locs hw => ?_)
      exact yb_reti hfin hf hw dX12_person_77
    have hf := yb_neg c_17 hf
    by_cases c_22 : x2 = (3 : Int32)
    · have hf := yb_pos c_22 hf
      refine lv_tableIn (off := 53) (tgt := 71) hx hb dX12_person_18 (by rw [c_22]; decide) (by rw [c_22]; decide) (by rw [c_22]; rfl) (by decide) ?_
      refine lv_aload_n hx hb dX12_person_71 rfl (lv_at hl 1 rfl) ?_
      refine lv_iload_n hx hb dX12_person_72 rfl (lv_at hl 2 rfl) ?_
      refine lv_iload_n hx hb dX12_person_73 rfl (lv_at hl 3 rfl) ?_
      obtain ⟨r_23, I_24, J_25, hq_26, hf⟩ := yb_b3_some hf
      refine x_calli X hK hw (c12_personOf l D cz ev mb hq_26) (ml_mem0 mb) (ml_S0 mb) cpX12.1 vw_X12_312 ⟨Nat.le_of_ble_eq_true rfl, Nat.le_of_ble_eq_true rfl⟩ rfl rfl (Nat.le_of_ble_eq_true rfl) hl.1 ⟨Nat.le_refl _, Nat.le_refl _⟩ dX12_person_74 (fun H locs hw => ?_)
      exact yb_reti hfin hf hw dX12_person_77
    have hf := yb_neg c_22 hf
    by_cases c_27 : x2 = (4 : Int32)
    · have hf := yb_pos c_27 hf
      refine lv_tableIn (off := 60) (tgt := 78) hx hb dX12_person_18 (by rw [c_27]; decide) (by rw [c_27]; decide) (by rw [c_27]; rfl) (by decide) ?_
      refine lv_aload_n hx hb dX12_person_78 rfl (lv_at hl 1 rfl) ?_
      refine lv_iload_n hx hb dX12_person_79 rfl (lv_at hl 2 rfl) ?_
      refine lv_iload_n hx hb dX12_person_80 rfl (lv_at hl 0 rfl) ?_
      obtain ⟨r_28, I_29, J_30, hq_31, hf⟩ := yb_b3_some hf
      refine x_calli X hK hw (c12_birthdayIn l D cz ev mb hq_31) (ml_mem0 mb) (ml_S0 mb) cpX12.1 vw_X12_328 ⟨Nat.le_of_ble_eq_true rfl, Nat.le_of_ble_eq_true rfl⟩ rfl rfl (Nat.le_of_ble_eq_true rfl) hl.1 ⟨Nat.le_refl _, Nat.le_refl _⟩ dX12_person_81 (fun H locs hw => ?_)
      exact yb_reti hfin hf hw dX12_person_84
    have hf := yb_neg c_27 hf
    by_cases c_32 : x2 = (5 : Int32)
    · have hf := yb_pos c_32 hf
      refine lv_tableIn (off := 67) (tgt := 85) hx hb dX12_person_18 (by rw [c_32]; decide) (by rw [c_32]; decide) (by rw [c_32]; rfl) (by decide) ?_
      refine lv_aload_n hx hb dX12_person_85 rfl (lv_at hl 1 rfl) ?_
      refine lv_iload_n hx hb dX12_person_86 rfl (lv_at hl 2 rfl) ?_
      obtain ⟨r_33, I_34, J_35, hq_36, hf⟩ := yb_b3_some hf
      refine x_calli X hK hw (c12_hearsNow l D cz ev mb hq_36) (ml_mem0 mb) (ml_S0 mb) cpX12.1 vw_X12_344 ⟨Nat.le_of_ble_eq_true rfl, Nat.le_of_ble_eq_true rfl⟩ rfl rfl (Nat.le_of_ble_eq_true rfl) hl.1 ⟨Nat.le_refl _, Nat.le_refl _⟩ dX12_person_87 (fun H locs hw => ?_)
      exact yb_reti hfin hf hw dX12_person_90
    have hf := yb_neg c_32 hf
    by_cases c_37 : x2 = (6 : Int32)
    · have hf := yb_pos c_37 hf
      refine lv_tableIn (off := 73) (tgt := 91) hx hb dX12_person_18 (by rw [c_37]; decide) (by rw [c_37]; decide) (by rw [c_37]; rfl) (by decide) ?_
      refine lv_aload_n hx hb dX12_person_91 rfl (lv_at hl 1 rfl) ?_
      refine lv_iload_n hx hb dX12_person_92 rfl (lv_at hl 2 rfl) ?_
      refine lv_iconst (v := (4 : Int32)) hx hb dX12_person_93 (by decide) ?_
      obtain ⟨r_38, I_39, J_40, hq_41, hf⟩ := yb_b3_some hf
      refine x_calli X hK hw (c12_personOf l D cz ev mb hq_41) (ml_mem0 mb) (ml_S0 mb) cpX12.1 vw_X12_312 ⟨Nat.le_of_ble_eq_true rfl, Nat.le_of_ble_eq_true rfl⟩ rfl rfl (Nat.le_of_ble_eq_true rfl) hl.1 ⟨Nat.le_refl _, Nat.le_refl _⟩ dX12_person_94 (fun H locs hw => ?_)
      exact yb_reti hfin hf hw dX12_person_97
    have hf := yb_neg c_37 hf
    by_cases c_42 : x2 = (7 : Int32)
    · have hf := yb_pos c_42 hf
      refine lv_tableIn (off := 80) (tgt := 98) hx hb dX12_person_18 (by rw [c_42]; decide) (by rw [c_42]; decide) (by rw [c_42]; rfl) (by decide) ?_
      refine lv_aload_n hx hb dX12_person_98 rfl (lv_at hl 1 rfl) ?_
      refine lv_iload_n hx hb dX12_person_99 rfl (lv_at hl 2 rfl) ?_
      refine lv_iload_n hx hb dX12_person_100 rfl (lv_at hl 0 rfl) ?_
      obtain ⟨r_43, I_44, J_45, hq_46, hf⟩ := yb_b3_some hf
      refine x_calli X hK hw (c12_sitsOn l D cz ev mb hq_46) (ml_mem0 mb) (ml_S0 mb) cpX12.1 vw_X12_325 ⟨Nat.le_of_ble_eq_true rfl, Nat.le_of_ble_eq_true rfl⟩ rfl rfl (Nat.le_of_ble_eq_true rfl) hl.1 ⟨Nat.le_refl _, Nat.le_refl _⟩ dX12_person_101 (fun H locs hw => ?_)
      refine lv_if_eq (tgt := 111) hx hb dX12_person_104 (by decide) (fun c_47 => ?_) (fun c_47 => ?_)
      · have hf := yb_pos c_47 hf
        refine lv_iconst (v := (0 : Int32)) hx hb dX12_person_111 (by decide) ?_
        exact yb_reti hfin hf hw dX12_person_112
      · have hf := yb_neg c_47 hf
        refine lv_iconst (v := (1 : Int32)) hx hb dX12_person_107 (by decide) ?_
        refine lv_goto (tgt := 112) hx hb dX12_person_108 (by decide) ?_
        exact yb_reti hfin hf hw dX12_person_112
    have hf := yb_neg c_42 hf
    refine lv_tableOut (tgt := 113) hx hb dX12_person_18 (by
        rcases Int.lt_or_le (x2).toInt 0 with g1 | g1
        · exact Or.inl g1
        · rcases Int.lt_or_le 7 (x2).toInt with g2 | g2
          · exact Or.inr g2
          · exfalso
            have g3 : (x2).toInt = 0 ∨ (x2).toInt = 1 ∨ (x2).toInt = 2 ∨ (x2).toInt = 3 ∨ (x2).toInt = 4 ∨ (x2).toInt = 5 ∨ (x2).toInt = 6 ∨ (x2).toInt = 7 := by omega
            rcases g3 with g3 | g3 | g3 | g3 | g3 | g3 | g3 | g3
            · exact c_7 (yb_sw (0 : Int32) g3 rfl)
            · exact c_12 (yb_sw (1 : Int32) g3 rfl)
            · exact c_17 (yb_sw (2 : Int32) g3 rfl)
            · exact c_22 (yb_sw (3 : Int32) g3 rfl)
            · exact c_27 (yb_sw (4 : Int32) g3 rfl)
            · exact c_32 (yb_sw (5 : Int32) g3 rfl)
            · exact c_37 (yb_sw (6 : Int32) g3 rfl)
            · exact c_42 (yb_sw (7 : Int32) g3 rfl)) (by decide) ?_
    refine lv_iconst (v := (-1 : Int32)) hx hb dX12_person_113 (by decide) ?_
    exact yb_reti hfin hf hw dX12_person_114
  · have hf := yb_pos c_5 hf
    refine lv_iconst (v := (-1 : Int32)) hx hb dX12_person_8 (by decide) ?_
    exact yb_reti hfin hf hw dX12_person_9
set_option maxHeartbeats 4000000 in
set_option maxRecDepth 100000 in
theorem c12_trial (l : Launch) (D : va_G) (cz : Nat → ClassId) (ev : Nat × Nat × Nat) (mb : Nat) {x1 : Int32} {x2 : Int32} {I : IT} {J : JT} {r : Int32} {I1 : IT} {J1 : JT} (hf : f12_trial mb x1 x2 I J = some (r, I1, J1)) : MTi l D cz ev yX12_trial cX12_trial 3 (some .int) 1 25 [.ref mb, .int x1, .int x2] (mlL mb) (mlS mb) (mlR mb) I J r I1 J1 := by
  unfold f12_trial at hf
  refine MTi_of (by decide) (Nat.le_of_ble_eq_true rfl) ?_
  intro p e s m args below meth c Q ls X hK hw hl hfin
  have X : CallFix p m c cX12_trial 3 s args gw RX12 := X
  have hx := X.1
  have hb := X.2.1
  have hl : lv_has ls 3 [(0, .ref mb), (1, .int x1), (2, .int x2)] := hl
  refine lv_aload_n hx hb dX12_trial_0 rfl (lv_at hl 0 rfl) ?_
  refine lv_iload_n hx hb dX12_trial_1 rfl (lv_at hl 1 rfl) ?_
  obtain ⟨r_1, I_2, J_3, hq_4, hf⟩ := yb_b3_some hf
  refine x_calli X hK hw (c12_isCase l D cz ev mb hq_4) (ml_mem0 mb) (ml_S0 mb) cpX12.1 vw_X12_347 ⟨Nat.le_of_ble_eq_true rfl, Nat.le_of_ble_eq_true rfl⟩ rfl rfl (Nat.le_of_ble_eq_true rfl) hl.1 ⟨Nat.le_refl _, Nat.le_refl _⟩ dX12_trial_2 (fun H locs hw => ?_)
  refine lv_if_eq (tgt := 29) hx hb dX12_trial_5 (by decide) (fun c_5 => ?_) (fun c_5 => ?_)
  · have hf := yb_pos c_5 hf
    refine lv_bipush (v := (-2 : Int32)) hx hb dX12_trial_29 (by decide) ?_
    exact yb_reti hfin hf hw dX12_trial_31
  · have hf := yb_neg c_5 hf
    refine lv_iload_n hx hb dX12_trial_8 rfl (lv_at hl 2 rfl) ?_
    refine lv_i2l hx hb dX12_trial_9 rfl ?_
    refine lv_lconst (v := (0 : Int64)) hx hb dX12_trial_10 (by decide) ?_
    refine lv_ldc2 (v := (9 : Int64)) hx hb X.2.2.2.1 (X.2.2.2.2 _ tw_1622) dX12_trial_11 ?_
    obtain ⟨r_6, I_7, J_8, hq_9, hf⟩ := yb_b3_some hf
    refine x_callsi X hK hw (c12_in l D cz ev mb hq_9) sw_X12_142 ⟨Nat.le_of_ble_eq_true rfl, Nat.le_of_ble_eq_true rfl⟩ rfl rfl (Nat.le_of_ble_eq_true rfl) hl.1 ⟨Nat.le_refl _, Nat.le_refl _⟩ dX12_trial_14 (fun H locs hw => ?_)
    refine lv_if_eq (tgt := 29) hx hb dX12_trial_17 (by decide) (fun c_10 => ?_) (fun c_10 => ?_)
    · have hf := yb_pos c_10 hf
      refine lv_bipush (v := (-2 : Int32)) hx hb dX12_trial_29 (by decide) ?_
      exact yb_reti hfin hf hw dX12_trial_31
    · have hf := yb_neg c_10 hf
      refine lv_aload_n hx hb dX12_trial_20 rfl (lv_at hl 0 rfl) ?_
      refine lv_iload_n hx hb dX12_trial_21 rfl (lv_at hl 1 rfl) ?_
      refine lv_iload_n hx hb dX12_trial_22 rfl (lv_at hl 2 rfl) ?_
      obtain ⟨r_11, I_12, J_13, hq_14, hf⟩ := yb_b3_some hf
      refine x_calli X hK hw (c12_caseOf l D cz ev mb hq_14) (ml_mem0 mb) (ml_S0 mb) cpX12.1 vw_X12_331 ⟨Nat.le_of_ble_eq_true rfl, Nat.le_of_ble_eq_true rfl⟩ rfl rfl (Nat.le_of_ble_eq_true rfl) hl.1 ⟨Nat.le_refl _, Nat.le_refl _⟩ dX12_trial_23 (fun H locs hw => ?_)
      refine lv_goto (tgt := 31) hx hb dX12_trial_26 (by decide) ?_
      exact yb_reti hfin hf hw dX12_trial_31
set_option maxHeartbeats 4000000 in
set_option maxRecDepth 100000 in
theorem c12_can (l : Launch) (D : va_G) (cz : Nat → ClassId) (ev : Nat × Nat × Nat) (mb : Nat) {N : Nat} {x1 : Int32} {x2 : Int32} {x3 : Int32} {I : IT} {J : JT} {r : Int32} {I1 : IT} {J1 : JT} (hf : f12_can N mb x1 x2 x3 I J = some (r, I1, J1)) : MTi l D cz ev yX12_can cX12_can 4 (some .int) 5 114 [.ref mb, .int x1, .int x2, .int x3] (mlL mb) (mlS mb) (mlR mb) I J r I1 J1 := by
  unfold f12_can at hf
  refine MTi_of (by decide) (Nat.le_of_ble_eq_true rfl) ?_
  intro p e s m args below meth c Q ls X hK hw hl hfin
  have X : CallFix p m c cX12_can 4 s args gw RX12 := X
  have hx := X.1
  have hb := X.2.1
  have hl : lv_has ls 4 [(0, .ref mb), (1, .int x1), (2, .int x2), (3, .int x3)] := hl
  refine lv_aload_n hx hb dX12_can_0 rfl (lv_at hl 0 rfl) ?_
  refine lv_iload_n hx hb dX12_can_1 rfl (lv_at hl 1 rfl) ?_
  obtain ⟨r_1, I_2, J_3, hq_4, hf⟩ := yb_b3_some hf
  refine x_calli X hK hw (c12_isCase l D cz ev mb hq_4) (ml_mem0 mb) (ml_S0 mb) cpX12.1 vw_X12_347 ⟨Nat.le_of_ble_eq_true rfl, Nat.le_of_ble_eq_true rfl⟩ rfl rfl (Nat.le_of_ble_eq_true rfl) hl.1 ⟨Nat.le_refl _, Nat.le_refl _⟩ dX12_can_2 (fun H locs hw => ?_)
  refine lv_if_eq (tgt := 28) hx hb dX12_can_5 (by decide) (fun c_5 => ?_) (fun c_5 => ?_)
  · have hf := yb_pos c_5 hf
    refine lv_iconst (v := (-1 : Int32)) hx hb dX12_can_28 (by decide) ?_
    exact yb_reti hfin hf hw dX12_can_29
  · have hf := yb_neg c_5 hf
    refine lv_aload_n hx hb dX12_can_8 rfl (lv_at hl 0 rfl) ?_
    refine lv_iload_n hx hb dX12_can_9 rfl (lv_at hl 2 rfl) ?_
    obtain ⟨r_6, I_7, J_8, hq_9, hf⟩ := yb_b3_some hf
    refine x_calli X hK hw (c12_isPerson l D cz ev mb hq_9) (ml_mem0 mb) (ml_S0 mb) cpX12.1 vw_X12_341 ⟨Nat.le_of_ble_eq_true rfl, Nat.le_of_ble_eq_true rfl⟩ rfl rfl (Nat.le_of_ble_eq_true rfl) hl.1 ⟨Nat.le_refl _, Nat.le_refl _⟩ dX12_can_10 (fun H locs hw => ?_)
    refine lv_if_eq (tgt := 28) hx hb dX12_can_13 (by decide) (fun c_10 => ?_) (fun c_10 => ?_)
    · have hf := yb_pos c_10 hf
      refine lv_iconst (v := (-1 : Int32)) hx hb dX12_can_28 (by decide) ?_
      exact yb_reti hfin hf hw dX12_can_29
    · have hf := yb_neg c_10 hf
      refine lv_iload_n hx hb dX12_can_16 rfl (lv_at hl 3 rfl) ?_
      refine lv_i2l hx hb dX12_can_17 rfl ?_
      refine lv_lconst (v := (0 : Int64)) hx hb dX12_can_18 (by decide) ?_
      refine lv_ldc2 (v := (999 : Int64)) hx hb X.2.2.2.1 (X.2.2.2.2 _ tw_1627) dX12_can_19 ?_
      obtain ⟨r_11, I_12, J_13, hq_14, hf⟩ := yb_b3_some hf
      refine x_callsi X hK hw (c12_in l D cz ev mb hq_14) sw_X12_142 ⟨Nat.le_of_ble_eq_true rfl, Nat.le_of_ble_eq_true rfl⟩ rfl rfl (Nat.le_of_ble_eq_true rfl) hl.1 ⟨Nat.le_refl _, Nat.le_refl _⟩ dX12_can_22 (fun H locs hw => ?_)
      refine lv_if_ne (tgt := 30) hx hb dX12_can_25 (by decide) (fun c_15 => ?_) (fun c_15 => ?_)
      · have hf := yb_neg c_15 hf
        refine lv_aload_n hx hb dX12_can_30 rfl (lv_at hl 0 rfl) ?_
        refine lv_iload_n hx hb dX12_can_31 rfl (lv_at hl 1 rfl) ?_
        refine lv_iload_n hx hb dX12_can_32 rfl (lv_at hl 2 rfl) ?_
        refine lv_iload_n hx hb dX12_can_33 rfl (lv_at hl 3 rfl) ?_
        obtain ⟨r_16, I_17, J_18, hq_19, hf⟩ := yb_b3_some hf
        refine x_calli X hK hw (c12_canHear l D cz ev mb hq_19) (ml_mem0 mb) (ml_S0 mb) cpX12.1 vw_X12_354 ⟨Nat.le_of_ble_eq_true rfl, Nat.le_of_ble_eq_true rfl⟩ rfl rfl (Nat.le_of_ble_eq_true rfl) hl.1 ⟨Nat.le_refl _, Nat.le_refl _⟩ dX12_can_34 (fun H locs hw => ?_)
        refine lv_if_eq (tgt := 44) hx hb dX12_can_37 (by decide) (fun c_20 => ?_) (fun c_20 => ?_)
        · have hf := yb_pos c_20 hf
          refine lv_iconst (v := (0 : Int32)) hx hb dX12_can_44 (by decide) ?_
          exact yb_reti hfin hf hw dX12_can_45
        · have hf := yb_neg c_20 hf
          refine lv_iconst (v := (1 : Int32)) hx hb dX12_can_40 (by decide) ?_
          refine lv_goto (tgt := 45) hx hb dX12_can_41 (by decide) ?_
          exact yb_reti hfin hf hw dX12_can_45
      · have hf := yb_pos c_15 hf
        refine lv_iconst (v := (-1 : Int32)) hx hb dX12_can_28 (by decide) ?_
        exact yb_reti hfin hf hw dX12_can_29
set_option maxHeartbeats 4000000 in
set_option maxRecDepth 100000 in
theorem w12_summedBy_L2 {p : Program} {l : Launch} {e : Env} {s : State} {m : MethodId} {args : Array Value} {below : List Frame} {meth : Method} {c : Code} {Q : State → Prop} {D : va_G} {cz : Nat → ClassId} {A : Nat → Prop} {ev : Nat × Nat × Nat} {mb : Nat} (X : CallFix p m c cX12_summedBy 4 s args gw RX12) (hK : KX D cz ev A s) {N : Nat} {x1 : Int32} {rM : Int64} {IM : IT} {JM : JT} :
    ∀ (n : Nat) (x2 : Int32) (I : IT) (J : JT) (q : (Int64 ⊕ (Unit))) (I1 : IT) (J1 : JT) (H : Heap) (locs : List Loc) (ls : Array Slot), f12_summedBy_L2 N mb x1 n x2 I J = some (q, I1, J1) → WX D cz A (mlL mb) (mlS mb) (mlR mb) s.heap I J H locs → lv_has ls 4 [(0, .ref mb), (1, .int x1), (2, .int x2)] →
    (∀ v, q = .inl v → some (v, I1, J1) = some (rM, IM, JM)) → (∀ (H : Heap) (locs : List Loc) (ls : Array Slot) (pc : Nat), WX D cz A (mlL mb) (mlS mb) (mlR mb) s.heap IM JM H locs → decode cX12_summedBy pc = .ok (.lreturn, 1) → W p l e (rmX 2 54) s m args below meth c H locs 0 0 Q (F0 m pc ls [.long rM])) →
    (∀ xq, q = .inr xq → ∀ (H : Heap) (locs : List Loc) (ls : Array Slot), WX D cz A (mlL mb) (mlS mb) (mlR mb) s.heap I1 J1 H locs → lv_has ls 4 [] → W p l e (rmX 2 54) s m args below meth c H locs 0 0 Q (F0 m 84 ls [])) →
    W p l e (rmX 2 54) s m args below meth c H locs 0 0 Q (F0 m 2 ls []) := by
  have hx := X.1
  have hb := X.2.1
  intro n
  induction n with
  | zero =>
    intro x2 I J q I1 J1 H locs ls hf
    rw [f12_summedBy_L2] at hf
    cases hf
  | succ n ih =>
    intro x2 I J q I1 J1 H locs ls hf hw hl hret hfin hexit
    rw [f12_summedBy_L2] at hf
    refine lv_iload_n hx hb dX12_summedBy_2 rfl (lv_at hl 2 rfl) ?_
    refine lv_aload_n hx hb dX12_summedBy_3 rfl (lv_at hl 0 rfl) ?_
    refine x_getR X hK hw (ml_mem0 mb) (ml_S0 mb) cpX12 6 (by decide) rfl (ml_R mb 6 rfl) tw_1257 dX12_summedBy_4 ?_
    refine lv_iload_n hx hb dX12_summedBy_7 rfl (lv_at hl 1 rfl) ?_
    obtain ⟨hi_1, hf⟩ := yb_ck_some hf
    refine x_iald X hK hw (ml_mem mb 5 (by decide)) (ml_S mb 5 rfl) hi_1 rfl dX12_summedBy_8 ?_
    refine lv_icmp_ge (tgt := 84) hx hb dX12_summedBy_9 (by decide) (fun c_2 => ?_) (fun c_2 => ?_)
    · have hf := yb_pos c_2 hf
      obtain ⟨rfl, rfl, rfl⟩ := yb_inj hf
      exact hexit _ rfl _ _ _ hw (lv_sub hl [] rfl)
    · have hf := yb_neg c_2 hf
      refine lv_bipush (v := (48 : Int32)) hx hb dX12_summedBy_12 (by decide) ?_
      refine lv_iload_n hx hb dX12_summedBy_14 rfl (lv_at hl 1 rfl) ?_
      refine lv_imul hx hb dX12_summedBy_15 ?_
      refine lv_iconst (v := (4 : Int32)) hx hb dX12_summedBy_16 (by decide) ?_
      refine lv_iload_n hx hb dX12_summedBy_17 rfl (lv_at hl 2 rfl) ?_
      refine lv_imul hx hb dX12_summedBy_18 ?_
      refine lv_iadd hx hb dX12_summedBy_19 ?_
      refine lv_topi (fun x3_3 ex3_3 => ?_)
      have hf := yb_let_to ex3_3 hf
      refine lv_istore_n (lv' := [(3, .int x3_3), (0, .ref mb), (1, .int x1), (2, .int x2)]) hx hb dX12_summedBy_20 rfl hl (by decide) rfl (fun ls hl => ?_)
      refine lv_aload_n hx hb dX12_summedBy_21 rfl (lv_at hl 1 rfl) ?_
      refine x_getR X hK hw (ml_mem0 mb) (ml_S0 mb) cpX12 5 (by decide) rfl (ml_R mb 5 rfl) tw_1256 dX12_summedBy_22 ?_
      refine lv_iload_n hx hb dX12_summedBy_25 rfl (lv_at hl 0 rfl) ?_
      refine lv_iconst (v := (2 : Int32)) hx hb dX12_summedBy_26 (by decide) ?_
      refine lv_iadd hx hb dX12_summedBy_27 ?_
      obtain ⟨hi_4, hf⟩ := yb_ck_some hf
      refine x_iald X hK hw (ml_mem mb 4 (by decide)) (ml_S mb 4 rfl) hi_4 rfl dX12_summedBy_28 ?_
      refine lv_if_lt (tgt := 58) hx hb dX12_summedBy_29 (by decide) (fun c_5 => ?_) (fun c_5 => ?_)
      · have hf := yb_pos c_5 hf
        refine lv_aload_n hx hb dX12_summedBy_58 rfl (lv_at hl 1 rfl) ?_
        refine lv_iload_n hx hb dX12_summedBy_59 rfl (lv_at hl 2 rfl) ?_
        refine lv_aload_n hx hb dX12_summedBy_60 rfl (lv_at hl 1 rfl) ?_
        refine x_getR X hK hw (ml_mem0 mb) (ml_S0 mb) cpX12 5 (by decide) rfl (ml_R mb 5 rfl) tw_1256 dX12_summedBy_61 ?_
        refine lv_iload_n hx hb dX12_summedBy_64 rfl (lv_at hl 0 rfl) ?_
        obtain ⟨hi_6, hf⟩ := yb_ck_some hf
        refine x_iald X hK hw (ml_mem mb 4 (by decide)) (ml_S mb 4 rfl) hi_6 rfl dX12_summedBy_65 ?_
        refine lv_aload_n hx hb dX12_summedBy_66 rfl (lv_at hl 1 rfl) ?_
        refine x_getR X hK hw (ml_mem0 mb) (ml_S0 mb) cpX12 5 (by decide) rfl (ml_R mb 5 rfl) tw_1256 dX12_summedBy_67 ?_
        refine lv_iload_n hx hb dX12_summedBy_70 rfl (lv_at hl 0 rfl) ?_
        refine lv_iconst (v := (1 : Int32)) hx hb dX12_summedBy_71 (by decide) ?_
        refine lv_iadd hx hb dX12_summedBy_72 ?_
        obtain ⟨hi_7, hf⟩ := yb_ck_some hf
        refine x_iald X hK hw (ml_mem mb 4 (by decide)) (ml_S mb 4 rfl) hi_7 rfl dX12_summedBy_73 ?_
        obtain ⟨r_8, I_9, J_10, hq_11, hf⟩ := yb_b3_some hf
        refine x_calll X hK hw (c12_reckons l D cz ev mb hq_11) (ml_mem0 mb) (ml_S0 mb) cpX12.1 vw_X12_357 ⟨Nat.le_of_ble_eq_true rfl, Nat.le_of_ble_eq_true rfl⟩ rfl rfl (Nat.le_of_ble_eq_true rfl) hl.1 ⟨Nat.le_refl _, Nat.le_refl _⟩ dX12_summedBy_74 (fun H locs hw => ?_)
        exact yb_retl hfin (yb_inl hret hf) hw dX12_summedBy_77
      · have hf := yb_neg c_5 hf
        refine lv_aload_n hx hb dX12_summedBy_32 rfl (lv_at hl 1 rfl) ?_
        refine lv_iload_n hx hb dX12_summedBy_33 rfl (lv_at hl 2 rfl) ?_
        refine lv_aload_n hx hb dX12_summedBy_34 rfl (lv_at hl 1 rfl) ?_
        refine x_getR X hK hw (ml_mem0 mb) (ml_S0 mb) cpX12 5 (by decide) rfl (ml_R mb 5 rfl) tw_1256 dX12_summedBy_35 ?_
        refine lv_iload_n hx hb dX12_summedBy_38 rfl (lv_at hl 0 rfl) ?_
        refine lv_iconst (v := (2 : Int32)) hx hb dX12_summedBy_39 (by decide) ?_
        refine lv_iadd hx hb dX12_summedBy_40 ?_
        refine x_iald X hK hw (ml_mem mb 4 (by decide)) (ml_S mb 4 rfl) hi_4 rfl dX12_summedBy_41 ?_
        refine lv_aload_n hx hb dX12_summedBy_42 rfl (lv_at hl 1 rfl) ?_
        refine x_getR X hK hw (ml_mem0 mb) (ml_S0 mb) cpX12 5 (by decide) rfl (ml_R mb 5 rfl) tw_1256 dX12_summedBy_43 ?_
        refine lv_iload_n hx hb dX12_summedBy_46 rfl (lv_at hl 0 rfl) ?_
        refine lv_iconst (v := (3 : Int32)) hx hb dX12_summedBy_47 (by decide) ?_
        refine lv_iadd hx hb dX12_summedBy_48 ?_
        obtain ⟨hi_12, hf⟩ := yb_ck_some hf
        refine x_iald X hK hw (ml_mem mb 4 (by decide)) (ml_S mb 4 rfl) hi_12 rfl dX12_summedBy_49 ?_
        obtain ⟨r_13, I_14, J_15, hq_16, hf⟩ := yb_b3_some hf
        refine x_calll X hK hw (c12_reckons l D cz ev mb hq_16) (ml_mem0 mb) (ml_S0 mb) cpX12.1 vw_X12_357 ⟨Nat.le_of_ble_eq_true rfl, Nat.le_of_ble_eq_true rfl⟩ rfl rfl (Nat.le_of_ble_eq_true rfl) hl.1 ⟨Nat.le_refl _, Nat.le_refl _⟩ dX12_summedBy_50 (fun H locs hw => ?_)
        refine lv_lconst (v := (1 : Int64)) hx hb dX12_summedBy_53 (by decide) ?_
        refine W.lcmp hx hb dX12_summedBy_54 ?_
        refine lv_if_ne (tgt := 78) hx hb dX12_summedBy_55 (by decide) (fun c_17 => ?_) (fun c_17 => ?_)
        · have hf := yb_neg c_17 hf
          obtain ⟨x2_18, ex2_18, hf⟩ := yb_let_ex hf
          refine lv_iinc (v := x2_18) (lv' := [(2, .int x2_18), (3, .int x3_3), (0, .ref mb), (1, .int x1)]) hx hb dX12_summedBy_78 hl (k := 3) rfl (by rw [ex2_18]; rfl) (by decide) rfl (fun ls hl => ?_)
          refine lv_goto (tgt := 2) hx hb dX12_summedBy_81 (by decide) ?_
          exact ih _ _ _ _ _ _ _ _ _ hf hw (lv_sub hl [2, 3, 0] rfl) hret hfin hexit
        · have hf := yb_pos c_17 hf
          refine lv_aload_n hx hb dX12_summedBy_58 rfl (lv_at hl 1 rfl) ?_
          refine lv_iload_n hx hb dX12_summedBy_59 rfl (lv_at hl 2 rfl) ?_
          refine lv_aload_n hx hb dX12_summedBy_60 rfl (lv_at hl 1 rfl) ?_
          refine x_getR X hK hw (ml_mem0 mb) (ml_S0 mb) cpX12 5 (by decide) rfl (ml_R mb 5 rfl) tw_1256 dX12_summedBy_61 ?_
          refine lv_iload_n hx hb dX12_summedBy_64 rfl (lv_at hl 0 rfl) ?_
          obtain ⟨hi_19, hf⟩ := yb_ck_some hf
          refine x_iald X hK hw (ml_mem mb 4 (by decide)) (ml_S mb 4 rfl) hi_19 rfl dX12_summedBy_65 ?_
          refine lv_aload_n hx hb dX12_summedBy_66 rfl (lv_at hl 1 rfl) ?_
          refine x_getR X hK hw (ml_mem0 mb) (ml_S0 mb) cpX12 5 (by decide) rfl (ml_R mb 5 rfl) tw_1256 dX12_summedBy_67 ?_
          refine lv_iload_n hx hb dX12_summedBy_70 rfl (lv_at hl 0 rfl) ?_
          refine lv_iconst (v := (1 : Int32)) hx hb dX12_summedBy_71 (by decide) ?_
          refine lv_iadd hx hb dX12_summedBy_72 ?_
          obtain ⟨hi_20, hf⟩ := yb_ck_some hf
          refine x_iald X hK hw (ml_mem mb 4 (by decide)) (ml_S mb 4 rfl) hi_20 rfl dX12_summedBy_73 ?_
          obtain ⟨r_21, I_22, J_23, hq_24, hf⟩ := yb_b3_some hf
          refine x_calll X hK hw (c12_reckons l D cz ev mb hq_24) (ml_mem0 mb) (ml_S0 mb) cpX12.1 vw_X12_357 ⟨Nat.le_of_ble_eq_true rfl, Nat.le_of_ble_eq_true rfl⟩ rfl rfl (Nat.le_of_ble_eq_true rfl) hl.1 ⟨Nat.le_refl _, Nat.le_refl _⟩ dX12_summedBy_74 (fun H locs hw => ?_)
          exact yb_retl hfin (yb_inl hret hf) hw dX12_summedBy_77
set_option maxHeartbeats 4000000 in
set_option maxRecDepth 100000 in
theorem c12_summedBy (l : Launch) (D : va_G) (cz : Nat → ClassId) (ev : Nat × Nat × Nat) (mb : Nat) {N : Nat} {x1 : Int32} {I : IT} {J : JT} {r : Int64} {I1 : IT} {J1 : JT} (hf : f12_summedBy N mb x1 I J = some (r, I1, J1)) : MTl l D cz ev yX12_summedBy cX12_summedBy 4 (some .long) 2 54 [.ref mb, .int x1] (mlL mb) (mlS mb) (mlR mb) I J r I1 J1 := by
  unfold f12_summedBy at hf
  refine MTl_of (by decide) (Nat.le_of_ble_eq_true rfl) ?_
  intro p e s m args below meth c Q ls X hK hw hl hfin
  have X : CallFix p m c cX12_summedBy 4 s args gw RX12 := X
  have hx := X.1
  have hb := X.2.1
  have hl : lv_has ls 4 [(0, .ref mb), (1, .int x1)] := hl
  refine lv_iconst (v := (0 : Int32)) hx hb dX12_summedBy_0 (by decide) ?_
  refine lv_istore_n (lv' := [(2, .int (0 : Int32)), (0, .ref mb), (1, .int x1)]) hx hb dX12_summedBy_1 rfl hl (by decide) rfl (fun ls hl => ?_)
  obtain ⟨q_25, I_26, J_27, hq_28, hf⟩ := yb_b3_some hf
  refine w12_summedBy_L2 X hK _ _ _ _ _ _ _ _ _ _ hq_28 hw (lv_sub hl [1, 2, 0] rfl) (fun v hv => by rw [hv] at hf; exact hf) hfin (fun x_30 hx1 H locs ls hw hl => ?_)
  rw [hx1] at hf
  have hf := yb_sm_r hf
  refine lv_lconst (v := (0 : Int64)) hx hb dX12_summedBy_84 (by decide) ?_
  exact yb_retl hfin hf hw dX12_summedBy_85
set_option maxHeartbeats 4000000 in
set_option maxRecDepth 100000 in
theorem c12_rightIn (l : Launch) (D : va_G) (cz : Nat → ClassId) (ev : Nat × Nat × Nat) (mb : Nat) {N : Nat} {x1 : Int32} {x2 : Int32} {x3 : Int32} {x4 : Int32} {x5 : Int32} {x6 : Int32} {x7 : Int32} {I : IT} {J : JT} {r : Int32} {I1 : IT} {J1 : JT} (hf : f12_rightIn N mb x1 x2 x3 x4 x5 x6 x7 I J = some (r, I1, J1)) : MTi l D cz ev yX12_rightIn cX12_rightIn 10 (some .int) 3 77 [.ref mb, .int x1, .int x2, .int x3, .int x4, .int x5, .int x6, .int x7] (mlL mb) (mlS mb) (mlR mb) I J r I1 J1 := by
  unfold f12_rightIn at hf
  refine MTi_of (by decide) (Nat.le_of_ble_eq_true rfl) ?_
  intro p e s m args below meth c Q ls X hK hw hl hfin
  have X : CallFix p m c cX12_rightIn 10 s args gw RX12 := X
  have hx := X.1
  have hb := X.2.1
  have hl : lv_has ls 10 [(0, .ref mb), (1, .int x1), (2, .int x2), (3, .int x3), (4, .int x4), (5, .int x5), (6, .int x6), (7, .int x7)] := hl
  refine lv_ldc2 (v := (50 : Int64)) hx hb X.2.2.2.1 (X.2.2.2.2 _ tw_1655) dX12_rightIn_0 ?_
  refine lv_iconst (v := (5 : Int32)) hx hb dX12_rightIn_3 (by decide) ?_
  refine lv_aload_n hx hb dX12_rightIn_4 rfl (lv_at hl 0 rfl) ?_
  refine lv_iload_n hx hb dX12_rightIn_5 rfl (lv_at hl 1 rfl) ?_
  refine lv_iconst (v := (1 : Int32)) hx hb dX12_rightIn_6 (by decide) ?_
  obtain ⟨r_1, I_2, J_3, hq_4, hf⟩ := yb_b3_some hf
  refine x_calli X hK hw (c12_personOf l D cz ev mb hq_4) (ml_mem0 mb) (ml_S0 mb) cpX12.1 vw_X12_312 ⟨Nat.le_of_ble_eq_true rfl, Nat.le_of_ble_eq_true rfl⟩ rfl rfl (Nat.le_of_ble_eq_true rfl) hl.1 ⟨Nat.le_refl _, Nat.le_refl _⟩ dX12_rightIn_7 (fun H locs hw => ?_)
  refine lv_imul hx hb dX12_rightIn_10 ?_
  refine lv_i2l hx hb dX12_rightIn_11 rfl ?_
  refine lv_ladd hx hb dX12_rightIn_12 ?_
  refine lv_iconst (v := (4 : Int32)) hx hb dX12_rightIn_13 (by decide) ?_
  refine lv_iload_n hx hb dX12_rightIn_14 rfl (lv_at hl 3 rfl) ?_
  refine lv_imul hx hb dX12_rightIn_15 ?_
  refine lv_i2l hx hb dX12_rightIn_16 rfl ?_
  refine lv_lsub hx hb dX12_rightIn_17 ?_
  refine lv_iconst (v := (3 : Int32)) hx hb dX12_rightIn_18 (by decide) ?_
  refine lv_aload_n hx hb dX12_rightIn_19 rfl (lv_at hl 0 rfl) ?_
  refine lv_iload_n hx hb dX12_rightIn_20 rfl (lv_at hl 1 rfl) ?_
  refine lv_iconst (v := (2 : Int32)) hx hb dX12_rightIn_21 (by decide) ?_
  obtain ⟨r_5, I_6, J_7, hq_8, hf⟩ := yb_b3_some hf
  refine x_calli X hK hw (c12_personOf l D cz ev mb hq_8) (ml_mem0 mb) (ml_S0 mb) cpX12.1 vw_X12_312 ⟨Nat.le_of_ble_eq_true rfl, Nat.le_of_ble_eq_true rfl⟩ rfl rfl (Nat.le_of_ble_eq_true rfl) hl.1 ⟨Nat.le_refl _, Nat.le_refl _⟩ dX12_rightIn_22 (fun H locs hw => ?_)
  refine lv_imul hx hb dX12_rightIn_25 ?_
  refine lv_i2l hx hb dX12_rightIn_26 rfl ?_
  refine lv_lsub hx hb dX12_rightIn_27 ?_
  refine lv_topl (fun x8_9 ex8_9 => ?_)
  have hf := yb_let_to ex8_9 hf
  refine lv_lstore (lv' := [(8, .long x8_9), (0, .ref mb), (1, .int x1), (2, .int x2), (3, .int x3), (4, .int x4), (5, .int x5), (6, .int x6), (7, .int x7)]) hx hb dX12_rightIn_28 hl (by decide) rfl (fun ls hl => ?_)
  refine lv_aload_n hx hb dX12_rightIn_30 rfl (lv_at hl 1 rfl) ?_
  refine x_getI X hK hw (ml_mem0 mb) (ml_S0 mb) cpX12 21 (by decide) rfl tw_1272 dX12_rightIn_31 ?_
  refine lv_if_lt (tgt := 187) hx hb dX12_rightIn_34 (by decide) (fun c_10 => ?_) (fun c_10 => ?_)
  · have hf := yb_pos c_10 hf
    refine lv_lload hx hb dX12_rightIn_187 (lv_at hl 0 rfl) ?_
    refine lv_lconst (v := (0 : Int64)) hx hb dX12_rightIn_189 (by decide) ?_
    refine W.lcmp hx hb dX12_rightIn_190 ?_
    refine lv_if_ge (tgt := 198) hx hb dX12_rightIn_191 (by decide) (fun c_11 => ?_) (fun c_11 => ?_)
    · have hf := yb_pos c_11 hf
      refine lv_lload hx hb dX12_rightIn_198 (lv_at hl 0 rfl) ?_
      refine lv_ldc2 (v := (100 : Int64)) hx hb X.2.2.2.1 (X.2.2.2.2 _ tw_1675) dX12_rightIn_200 ?_
      refine W.lcmp hx hb dX12_rightIn_203 ?_
      refine lv_if_le (tgt := 212) hx hb dX12_rightIn_204 (by decide) (fun c_12 => ?_) (fun c_12 => ?_)
      · have hf := yb_pos c_12 hf
        refine lv_lload hx hb dX12_rightIn_212 (lv_at hl 0 rfl) ?_
        refine lv_l2i hx hb dX12_rightIn_214 rfl ?_
        exact yb_reti hfin hf hw dX12_rightIn_215
      · have hf := yb_neg c_12 hf
        refine lv_bipush (v := (100 : Int32)) hx hb dX12_rightIn_207 (by decide) ?_
        refine lv_goto (tgt := 215) hx hb dX12_rightIn_209 (by decide) ?_
        exact yb_reti hfin hf hw dX12_rightIn_215
    · have hf := yb_neg c_11 hf
      refine lv_iconst (v := (0 : Int32)) hx hb dX12_rightIn_194 (by decide) ?_
      refine lv_goto (tgt := 215) hx hb dX12_rightIn_195 (by decide) ?_
      exact yb_reti hfin hf hw dX12_rightIn_215
  · have hf := yb_neg c_10 hf
    refine lv_aload_n hx hb dX12_rightIn_37 rfl (lv_at hl 1 rfl) ?_
    refine x_getR X hK hw (ml_mem0 mb) (ml_S0 mb) cpX12 19 (by decide) rfl (ml_R mb 19 rfl) tw_1270 dX12_rightIn_38 ?_
    refine lv_iconst (v := (0 : Int32)) hx hb dX12_rightIn_41 (by decide) ?_
    refine lv_iload_n hx hb dX12_rightIn_42 rfl (lv_at hl 2 rfl) ?_
    refine lv_i2l hx hb dX12_rightIn_43 rfl ?_
    refine x_last X hK hw (ml_mem mb 9 (by decide)) (ml_S mb 9 rfl) (by decide) rfl dX12_rightIn_44 (fun H locs hw => ?_)
    obtain ⟨J_13, eJ_13, hf⟩ := yb_let_ex hf
    have hw := yb_wJ eJ_13 hw
    refine lv_aload_n hx hb dX12_rightIn_45 rfl (lv_at hl 1 rfl) ?_
    refine x_getR X hK hw (ml_mem0 mb) (ml_S0 mb) cpX12 19 (by decide) rfl (ml_R mb 19 rfl) tw_1270 dX12_rightIn_46 ?_
    refine lv_iconst (v := (1 : Int32)) hx hb dX12_rightIn_49 (by decide) ?_
    refine lv_aload_n hx hb dX12_rightIn_50 rfl (lv_at hl 1 rfl) ?_
    refine lv_iload_n hx hb dX12_rightIn_51 rfl (lv_at hl 2 rfl) ?_
    refine lv_iconst (v := (1 : Int32)) hx hb dX12_rightIn_52 (by decide) ?_
    obtain ⟨r_14, I_15, J_16, hq_17, hf⟩ := yb_b3_some hf
    refine x_calli X hK hw (c12_personOf l D cz ev mb hq_17) (ml_mem0 mb) (ml_S0 mb) cpX12.1 vw_X12_312 ⟨Nat.le_of_ble_eq_true rfl, Nat.le_of_ble_eq_true rfl⟩ rfl rfl (Nat.le_of_ble_eq_true rfl) hl.1 ⟨Nat.le_refl _, Nat.le_refl _⟩ dX12_rightIn_53 (fun H locs hw => ?_)
    refine lv_i2l hx hb dX12_rightIn_56 rfl ?_
    refine x_last X hK hw (ml_mem mb 9 (by decide)) (ml_S mb 9 rfl) (by decide) rfl dX12_rightIn_57 (fun H locs hw => ?_)
    obtain ⟨J_18, eJ_18, hf⟩ := yb_let_ex hf
    have hw := yb_wJ eJ_18 hw
    refine lv_aload_n hx hb dX12_rightIn_58 rfl (lv_at hl 1 rfl) ?_
    refine x_getR X hK hw (ml_mem0 mb) (ml_S0 mb) cpX12 19 (by decide) rfl (ml_R mb 19 rfl) tw_1270 dX12_rightIn_59 ?_
    refine lv_iconst (v := (2 : Int32)) hx hb dX12_rightIn_62 (by decide) ?_
    refine lv_aload_n hx hb dX12_rightIn_63 rfl (lv_at hl 1 rfl) ?_
    refine lv_iload_n hx hb dX12_rightIn_64 rfl (lv_at hl 2 rfl) ?_
    refine lv_iload hx hb dX12_rightIn_65 (lv_at hl 6 rfl) ?_
    obtain ⟨r_19, I_20, J_21, hq_22, hf⟩ := yb_b3_some hf
    refine x_calli X hK hw (c12_ageOn l D cz ev mb hq_22) (ml_mem0 mb) (ml_S0 mb) cpX12.1 vw_X12_316 ⟨Nat.le_of_ble_eq_true rfl, Nat.le_of_ble_eq_true rfl⟩ rfl rfl (Nat.le_of_ble_eq_true rfl) hl.1 ⟨Nat.le_refl _, Nat.le_refl _⟩ dX12_rightIn_67 (fun H locs hw => ?_)
    refine lv_i2l hx hb dX12_rightIn_70 rfl ?_
    refine x_last X hK hw (ml_mem mb 9 (by decide)) (ml_S mb 9 rfl) (by decide) rfl dX12_rightIn_71 (fun H locs hw => ?_)
    obtain ⟨J_23, eJ_23, hf⟩ := yb_let_ex hf
    have hw := yb_wJ eJ_23 hw
    refine lv_aload_n hx hb dX12_rightIn_72 rfl (lv_at hl 1 rfl) ?_
    refine x_getR X hK hw (ml_mem0 mb) (ml_S0 mb) cpX12 19 (by decide) rfl (ml_R mb 19 rfl) tw_1270 dX12_rightIn_73 ?_
    refine lv_iconst (v := (3 : Int32)) hx hb dX12_rightIn_76 (by decide) ?_
    refine lv_aload_n hx hb dX12_rightIn_77 rfl (lv_at hl 1 rfl) ?_
    refine lv_iload_n hx hb dX12_rightIn_78 rfl (lv_at hl 2 rfl) ?_
    refine lv_iconst (v := (2 : Int32)) hx hb dX12_rightIn_79 (by decide) ?_
    obtain ⟨r_24, I_25, J_26, hq_27, hf⟩ := yb_b3_some hf
    refine x_calli X hK hw (c12_personOf l D cz ev mb hq_27) (ml_mem0 mb) (ml_S0 mb) cpX12.1 vw_X12_312 ⟨Nat.le_of_ble_eq_true rfl, Nat.le_of_ble_eq_true rfl⟩ rfl rfl (Nat.le_of_ble_eq_true rfl) hl.1 ⟨Nat.le_refl _, Nat.le_refl _⟩ dX12_rightIn_80 (fun H locs hw => ?_)
    refine lv_i2l hx hb dX12_rightIn_83 rfl ?_
    refine x_last X hK hw (ml_mem mb 9 (by decide)) (ml_S mb 9 rfl) (by decide) rfl dX12_rightIn_84 (fun H locs hw => ?_)
    obtain ⟨J_28, eJ_28, hf⟩ := yb_let_ex hf
    have hw := yb_wJ eJ_28 hw
    refine lv_aload_n hx hb dX12_rightIn_85 rfl (lv_at hl 1 rfl) ?_
    refine x_getR X hK hw (ml_mem0 mb) (ml_S0 mb) cpX12 19 (by decide) rfl (ml_R mb 19 rfl) tw_1270 dX12_rightIn_86 ?_
    refine lv_iconst (v := (4 : Int32)) hx hb dX12_rightIn_89 (by decide) ?_
    refine lv_iload_n hx hb dX12_rightIn_90 rfl (lv_at hl 3 rfl) ?_
    refine lv_i2l hx hb dX12_rightIn_91 rfl ?_
    refine x_last X hK hw (ml_mem mb 9 (by decide)) (ml_S mb 9 rfl) (by decide) rfl dX12_rightIn_92 (fun H locs hw => ?_)
    obtain ⟨J_29, eJ_29, hf⟩ := yb_let_ex hf
    have hw := yb_wJ eJ_29 hw
    refine lv_aload_n hx hb dX12_rightIn_93 rfl (lv_at hl 1 rfl) ?_
    refine x_getR X hK hw (ml_mem0 mb) (ml_S0 mb) cpX12 19 (by decide) rfl (ml_R mb 19 rfl) tw_1270 dX12_rightIn_94 ?_
    refine lv_iconst (v := (5 : Int32)) hx hb dX12_rightIn_97 (by decide) ?_
    refine lv_iload_n hx hb dX12_rightIn_98 rfl (lv_at hl 4 rfl) ?_
    refine lv_i2l hx hb dX12_rightIn_99 rfl ?_
    refine x_last X hK hw (ml_mem mb 9 (by decide)) (ml_S mb 9 rfl) (by decide) rfl dX12_rightIn_100 (fun H locs hw => ?_)
    obtain ⟨J_30, eJ_30, hf⟩ := yb_let_ex hf
    have hw := yb_wJ eJ_30 hw
    refine lv_aload_n hx hb dX12_rightIn_101 rfl (lv_at hl 1 rfl) ?_
    refine x_getR X hK hw (ml_mem0 mb) (ml_S0 mb) cpX12 19 (by decide) rfl (ml_R mb 19 rfl) tw_1270 dX12_rightIn_102 ?_
    refine lv_bipush (v := (6 : Int32)) hx hb dX12_rightIn_105 (by decide) ?_
    refine lv_iload hx hb dX12_rightIn_107 (lv_at hl 5 rfl) ?_
    refine lv_i2l hx hb dX12_rightIn_109 rfl ?_
    refine x_last X hK hw (ml_mem mb 9 (by decide)) (ml_S mb 9 rfl) (by decide) rfl dX12_rightIn_110 (fun H locs hw => ?_)
    obtain ⟨J_31, eJ_31, hf⟩ := yb_let_ex hf
    have hw := yb_wJ eJ_31 hw
    refine lv_aload_n hx hb dX12_rightIn_111 rfl (lv_at hl 1 rfl) ?_
    refine x_getR X hK hw (ml_mem0 mb) (ml_S0 mb) cpX12 19 (by decide) rfl (ml_R mb 19 rfl) tw_1270 dX12_rightIn_112 ?_
    refine lv_bipush (v := (7 : Int32)) hx hb dX12_rightIn_115 (by decide) ?_
    refine lv_aload_n hx hb dX12_rightIn_117 rfl (lv_at hl 1 rfl) ?_
    refine lv_iload_n hx hb dX12_rightIn_118 rfl (lv_at hl 3 rfl) ?_
    refine lv_iconst (v := (0 : Int32)) hx hb dX12_rightIn_119 (by decide) ?_
    obtain ⟨r_32, I_33, J_34, hq_35, hf⟩ := yb_b3_some hf
    refine x_calli X hK hw (c12_personOf l D cz ev mb hq_35) (ml_mem0 mb) (ml_S0 mb) cpX12.1 vw_X12_312 ⟨Nat.le_of_ble_eq_true rfl, Nat.le_of_ble_eq_true rfl⟩ rfl rfl (Nat.le_of_ble_eq_true rfl) hl.1 ⟨Nat.le_refl _, Nat.le_refl _⟩ dX12_rightIn_120 (fun H locs hw => ?_)
    refine lv_aload_n hx hb dX12_rightIn_123 rfl (lv_at hl 1 rfl) ?_
    refine lv_iload_n hx hb dX12_rightIn_124 rfl (lv_at hl 2 rfl) ?_
    refine lv_iconst (v := (0 : Int32)) hx hb dX12_rightIn_125 (by decide) ?_
    obtain ⟨r_36, I_37, J_38, hq_39, hf⟩ := yb_b3_some hf
    refine x_calli X hK hw (c12_personOf l D cz ev mb hq_39) (ml_mem0 mb) (ml_S0 mb) cpX12.1 vw_X12_312 ⟨Nat.le_of_ble_eq_true rfl, Nat.le_of_ble_eq_true rfl⟩ rfl rfl (Nat.le_of_ble_eq_true rfl) hl.1 ⟨Nat.le_refl _, Nat.le_refl _⟩ dX12_rightIn_126 (fun H locs hw => ?_)
    refine lv_isub hx hb dX12_rightIn_129 ?_
    refine lv_i2l hx hb dX12_rightIn_130 rfl ?_
    refine x_last X hK hw (ml_mem mb 9 (by decide)) (ml_S mb 9 rfl) (by decide) rfl dX12_rightIn_131 (fun H locs hw => ?_)
    obtain ⟨J_40, eJ_40, hf⟩ := yb_let_ex hf
    have hw := yb_wJ eJ_40 hw
    refine lv_aload_n hx hb dX12_rightIn_132 rfl (lv_at hl 1 rfl) ?_
    refine x_getR X hK hw (ml_mem0 mb) (ml_S0 mb) cpX12 19 (by decide) rfl (ml_R mb 19 rfl) tw_1270 dX12_rightIn_133 ?_
    refine lv_bipush (v := (8 : Int32)) hx hb dX12_rightIn_136 (by decide) ?_
    refine lv_iload hx hb dX12_rightIn_138 (lv_at hl 6 rfl) ?_
    refine lv_i2l hx hb dX12_rightIn_140 rfl ?_
    refine x_last X hK hw (ml_mem mb 9 (by decide)) (ml_S mb 9 rfl) (by decide) rfl dX12_rightIn_141 (fun H locs hw => ?_)
    obtain ⟨J_41, eJ_41, hf⟩ := yb_let_ex hf
    have hw := yb_wJ eJ_41 hw
    refine lv_aload_n hx hb dX12_rightIn_142 rfl (lv_at hl 1 rfl) ?_
    refine x_getR X hK hw (ml_mem0 mb) (ml_S0 mb) cpX12 19 (by decide) rfl (ml_R mb 19 rfl) tw_1270 dX12_rightIn_143 ?_
    refine lv_bipush (v := (9 : Int32)) hx hb dX12_rightIn_146 (by decide) ?_
    refine lv_iload hx hb dX12_rightIn_148 (lv_at hl 7 rfl) ?_
    refine lv_i2l hx hb dX12_rightIn_150 rfl ?_
    refine x_last X hK hw (ml_mem mb 9 (by decide)) (ml_S mb 9 rfl) (by decide) rfl dX12_rightIn_151 (fun H locs hw => ?_)
    obtain ⟨J_42, eJ_42, hf⟩ := yb_let_ex hf
    have hw := yb_wJ eJ_42 hw
    refine lv_aload_n hx hb dX12_rightIn_152 rfl (lv_at hl 1 rfl) ?_
    refine x_getR X hK hw (ml_mem0 mb) (ml_S0 mb) cpX12 19 (by decide) rfl (ml_R mb 19 rfl) tw_1270 dX12_rightIn_153 ?_
    refine lv_bipush (v := (10 : Int32)) hx hb dX12_rightIn_156 (by decide) ?_
    refine lv_iload hx hb dX12_rightIn_158 (lv_at hl 8 rfl) ?_
    refine lv_i2l hx hb dX12_rightIn_160 rfl ?_
    refine x_last X hK hw (ml_mem mb 9 (by decide)) (ml_S mb 9 rfl) (by decide) rfl dX12_rightIn_161 (fun H locs hw => ?_)
    obtain ⟨J_43, eJ_43, hf⟩ := yb_let_ex hf
    have hw := yb_wJ eJ_43 hw
    refine lv_aload_n hx hb dX12_rightIn_162 rfl (lv_at hl 1 rfl) ?_
    refine x_getR X hK hw (ml_mem0 mb) (ml_S0 mb) cpX12 19 (by decide) rfl (ml_R mb 19 rfl) tw_1270 dX12_rightIn_163 ?_
    refine lv_bipush (v := (11 : Int32)) hx hb dX12_rightIn_166 (by decide) ?_
    refine lv_aload_n hx hb dX12_rightIn_168 rfl (lv_at hl 1 rfl) ?_
    refine lv_iload_n hx hb dX12_rightIn_169 rfl (lv_at hl 2 rfl) ?_
    refine lv_iload hx hb dX12_rightIn_170 (lv_at hl 6 rfl) ?_
    obtain ⟨r_44, I_45, J_46, hq_47, hf⟩ := yb_b3_some hf
    refine x_calli X hK hw (c12_birthdayIn l D cz ev mb hq_47) (ml_mem0 mb) (ml_S0 mb) cpX12.1 vw_X12_328 ⟨Nat.le_of_ble_eq_true rfl, Nat.le_of_ble_eq_true rfl⟩ rfl rfl (Nat.le_of_ble_eq_true rfl) hl.1 ⟨Nat.le_refl _, Nat.le_refl _⟩ dX12_rightIn_172 (fun H locs hw => ?_)
    refine lv_i2l hx hb dX12_rightIn_175 rfl ?_
    refine x_last X hK hw (ml_mem mb 9 (by decide)) (ml_S mb 9 rfl) (by decide) rfl dX12_rightIn_176 (fun H locs hw => ?_)
    obtain ⟨J_48, eJ_48, hf⟩ := yb_let_ex hf
    have hw := yb_wJ eJ_48 hw
    refine lv_aload_n hx hb dX12_rightIn_177 rfl (lv_at hl 1 rfl) ?_
    refine lv_aload_n hx hb dX12_rightIn_178 rfl (lv_at hl 1 rfl) ?_
    refine x_getI X hK hw (ml_mem0 mb) (ml_S0 mb) cpX12 21 (by decide) rfl tw_1272 dX12_rightIn_179 ?_
    obtain ⟨r_49, I_50, J_51, hq_52, hf⟩ := yb_b3_some hf
    refine x_calll X hK hw (c12_summedBy l D cz ev mb hq_52) (ml_mem0 mb) (ml_S0 mb) cpX12.1 vw_X12_363 ⟨Nat.le_of_ble_eq_true rfl, Nat.le_of_ble_eq_true rfl⟩ rfl rfl (Nat.le_of_ble_eq_true rfl) hl.1 ⟨Nat.le_refl _, Nat.le_refl _⟩ dX12_rightIn_182 (fun H locs hw => ?_)
    refine lv_lstore (lv' := [(8, .long r_49), (0, .ref mb), (1, .int x1), (2, .int x2), (3, .int x3), (4, .int x4), (5, .int x5), (6, .int x6), (7, .int x7)]) hx hb dX12_rightIn_185 hl (by decide) rfl (fun ls hl => ?_)
    refine lv_lload hx hb dX12_rightIn_187 (lv_at hl 0 rfl) ?_
    refine lv_lconst (v := (0 : Int64)) hx hb dX12_rightIn_189 (by decide) ?_
    refine W.lcmp hx hb dX12_rightIn_190 ?_
    refine lv_if_ge (tgt := 198) hx hb dX12_rightIn_191 (by decide) (fun c_53 => ?_) (fun c_53 => ?_)
    · have hf := yb_pos c_53 hf
      refine lv_lload hx hb dX12_rightIn_198 (lv_at hl 0 rfl) ?_
      refine lv_ldc2 (v := (100 : Int64)) hx hb X.2.2.2.1 (X.2.2.2.2 _ tw_1675) dX12_rightIn_200 ?_
      refine W.lcmp hx hb dX12_rightIn_203 ?_
      refine lv_if_le (tgt := 212) hx hb dX12_rightIn_204 (by decide) (fun c_54 => ?_) (fun c_54 => ?_)
      · have hf := yb_pos c_54 hf
        refine lv_lload hx hb dX12_rightIn_212 (lv_at hl 0 rfl) ?_
        refine lv_l2i hx hb dX12_rightIn_214 rfl ?_
        exact yb_reti hfin hf hw dX12_rightIn_215
      · have hf := yb_neg c_54 hf
        refine lv_bipush (v := (100 : Int32)) hx hb dX12_rightIn_207 (by decide) ?_
        refine lv_goto (tgt := 215) hx hb dX12_rightIn_209 (by decide) ?_
        exact yb_reti hfin hf hw dX12_rightIn_215
    · have hf := yb_neg c_53 hf
      refine lv_iconst (v := (0 : Int32)) hx hb dX12_rightIn_194 (by decide) ?_
      refine lv_goto (tgt := 215) hx hb dX12_rightIn_195 (by decide) ?_
      exact yb_reti hfin hf hw dX12_rightIn_215
set_option maxHeartbeats 4000000 in
set_option maxRecDepth 100000 in
theorem c12_rightOf (l : Launch) (D : va_G) (cz : Nat → ClassId) (ev : Nat × Nat × Nat) (mb : Nat) {N : Nat} {x1 : Int32} {x2 : Int32} {x3 : Int32} {I : IT} {J : JT} {r : Int32} {I1 : IT} {J1 : JT} (hf : f12_rightOf N mb x1 x2 x3 I J = some (r, I1, J1)) : MTi l D cz ev yX12_rightOf cX12_rightOf 4 (some .int) 4 106 [.ref mb, .int x1, .int x2, .int x3] (mlL mb) (mlS mb) (mlR mb) I J r I1 J1 := by
  unfold f12_rightOf at hf
  refine MTi_of (by decide) (Nat.le_of_ble_eq_true rfl) ?_
  intro p e s m args below meth c Q ls X hK hw hl hfin
  have X : CallFix p m c cX12_rightOf 4 s args gw RX12 := X
  have hx := X.1
  have hb := X.2.1
  have hl : lv_has ls 4 [(0, .ref mb), (1, .int x1), (2, .int x2), (3, .int x3)] := hl
  refine lv_aload_n hx hb dX12_rightOf_0 rfl (lv_at hl 0 rfl) ?_
  refine lv_iload_n hx hb dX12_rightOf_1 rfl (lv_at hl 2 rfl) ?_
  refine lv_aload_n hx hb dX12_rightOf_2 rfl (lv_at hl 0 rfl) ?_
  refine lv_iload_n hx hb dX12_rightOf_3 rfl (lv_at hl 1 rfl) ?_
  refine lv_iconst (v := (0 : Int32)) hx hb dX12_rightOf_4 (by decide) ?_
  obtain ⟨r_1, I_2, J_3, hq_4, hf⟩ := yb_b3_some hf
  refine x_calli X hK hw (c12_caseOf l D cz ev mb hq_4) (ml_mem0 mb) (ml_S0 mb) cpX12.1 vw_X12_331 ⟨Nat.le_of_ble_eq_true rfl, Nat.le_of_ble_eq_true rfl⟩ rfl rfl (Nat.le_of_ble_eq_true rfl) hl.1 ⟨Nat.le_refl _, Nat.le_refl _⟩ dX12_rightOf_5 (fun H locs hw => ?_)
  refine lv_aload_n hx hb dX12_rightOf_8 rfl (lv_at hl 0 rfl) ?_
  refine lv_iload_n hx hb dX12_rightOf_9 rfl (lv_at hl 1 rfl) ?_
  refine lv_iconst (v := (1 : Int32)) hx hb dX12_rightOf_10 (by decide) ?_
  obtain ⟨r_5, I_6, J_7, hq_8, hf⟩ := yb_b3_some hf
  refine x_calli X hK hw (c12_caseOf l D cz ev mb hq_8) (ml_mem0 mb) (ml_S0 mb) cpX12.1 vw_X12_331 ⟨Nat.le_of_ble_eq_true rfl, Nat.le_of_ble_eq_true rfl⟩ rfl rfl (Nat.le_of_ble_eq_true rfl) hl.1 ⟨Nat.le_refl _, Nat.le_refl _⟩ dX12_rightOf_11 (fun H locs hw => ?_)
  refine lv_aload_n hx hb dX12_rightOf_14 rfl (lv_at hl 0 rfl) ?_
  refine lv_iload_n hx hb dX12_rightOf_15 rfl (lv_at hl 1 rfl) ?_
  refine lv_iconst (v := (2 : Int32)) hx hb dX12_rightOf_16 (by decide) ?_
  obtain ⟨r_9, I_10, J_11, hq_12, hf⟩ := yb_b3_some hf
  refine x_calli X hK hw (c12_caseOf l D cz ev mb hq_12) (ml_mem0 mb) (ml_S0 mb) cpX12.1 vw_X12_331 ⟨Nat.le_of_ble_eq_true rfl, Nat.le_of_ble_eq_true rfl⟩ rfl rfl (Nat.le_of_ble_eq_true rfl) hl.1 ⟨Nat.le_refl _, Nat.le_refl _⟩ dX12_rightOf_17 (fun H locs hw => ?_)
  refine lv_iload_n hx hb dX12_rightOf_20 rfl (lv_at hl 3 rfl) ?_
  refine lv_aload_n hx hb dX12_rightOf_21 rfl (lv_at hl 0 rfl) ?_
  refine lv_iload_n hx hb dX12_rightOf_22 rfl (lv_at hl 2 rfl) ?_
  refine lv_iconst (v := (4 : Int32)) hx hb dX12_rightOf_23 (by decide) ?_
  obtain ⟨r_13, I_14, J_15, hq_16, hf⟩ := yb_b3_some hf
  refine x_calli X hK hw (c12_personOf l D cz ev mb hq_16) (ml_mem0 mb) (ml_S0 mb) cpX12.1 vw_X12_312 ⟨Nat.le_of_ble_eq_true rfl, Nat.le_of_ble_eq_true rfl⟩ rfl rfl (Nat.le_of_ble_eq_true rfl) hl.1 ⟨Nat.le_refl _, Nat.le_refl _⟩ dX12_rightOf_24 (fun H locs hw => ?_)
  refine lv_aload_n hx hb dX12_rightOf_27 rfl (lv_at hl 0 rfl) ?_
  refine lv_iload_n hx hb dX12_rightOf_28 rfl (lv_at hl 1 rfl) ?_
  refine lv_bipush (v := (9 : Int32)) hx hb dX12_rightOf_29 (by decide) ?_
  obtain ⟨r_17, I_18, J_19, hq_20, hf⟩ := yb_b3_some hf
  refine x_calli X hK hw (c12_caseOf l D cz ev mb hq_20) (ml_mem0 mb) (ml_S0 mb) cpX12.1 vw_X12_331 ⟨Nat.le_of_ble_eq_true rfl, Nat.le_of_ble_eq_true rfl⟩ rfl rfl (Nat.le_of_ble_eq_true rfl) hl.1 ⟨Nat.le_refl _, Nat.le_refl _⟩ dX12_rightOf_31 (fun H locs hw => ?_)
  obtain ⟨r_21, I_22, J_23, hq_24, hf⟩ := yb_b3_some hf
  refine x_calli X hK hw (c12_rightIn l D cz ev mb hq_24) (ml_mem0 mb) (ml_S0 mb) cpX12.1 vw_X12_369 ⟨Nat.le_of_ble_eq_true rfl, Nat.le_of_ble_eq_true rfl⟩ rfl rfl (Nat.le_of_ble_eq_true rfl) hl.1 ⟨Nat.le_refl _, Nat.le_refl _⟩ dX12_rightOf_34 (fun H locs hw => ?_)
  exact yb_reti hfin hf hw dX12_rightOf_37
set_option maxHeartbeats 4000000 in
set_option maxRecDepth 100000 in
theorem c12_right (l : Launch) (D : va_G) (cz : Nat → ClassId) (ev : Nat × Nat × Nat) (mb : Nat) {N : Nat} {x1 : Int32} {x2 : Int32} {I : IT} {J : JT} {r : Int32} {I1 : IT} {J1 : JT} (hf : f12_right N mb x1 x2 I J = some (r, I1, J1)) : MTi l D cz ev yX12_right cX12_right 3 (some .int) 5 129 [.ref mb, .int x1, .int x2] (mlL mb) (mlS mb) (mlR mb) I J r I1 J1 := by
  unfold f12_right at hf
  refine MTi_of (by decide) (Nat.le_of_ble_eq_true rfl) ?_
  intro p e s m args below meth c Q ls X hK hw hl hfin
  have X : CallFix p m c cX12_right 3 s args gw RX12 := X
  have hx := X.1
  have hb := X.2.1
  have hl : lv_has ls 3 [(0, .ref mb), (1, .int x1), (2, .int x2)] := hl
  refine lv_aload_n hx hb dX12_right_0 rfl (lv_at hl 0 rfl) ?_
  refine lv_iload_n hx hb dX12_right_1 rfl (lv_at hl 1 rfl) ?_
  obtain ⟨r_1, I_2, J_3, hq_4, hf⟩ := yb_b3_some hf
  refine x_calli X hK hw (c12_isCase l D cz ev mb hq_4) (ml_mem0 mb) (ml_S0 mb) cpX12.1 vw_X12_347 ⟨Nat.le_of_ble_eq_true rfl, Nat.le_of_ble_eq_true rfl⟩ rfl rfl (Nat.le_of_ble_eq_true rfl) hl.1 ⟨Nat.le_refl _, Nat.le_refl _⟩ dX12_right_2 (fun H locs hw => ?_)
  refine lv_if_eq (tgt := 31) hx hb dX12_right_5 (by decide) (fun c_5 => ?_) (fun c_5 => ?_)
  · have hf := yb_pos c_5 hf
    refine lv_iconst (v := (-1 : Int32)) hx hb dX12_right_31 (by decide) ?_
    exact yb_reti hfin hf hw dX12_right_32
  · have hf := yb_neg c_5 hf
    refine lv_aload_n hx hb dX12_right_8 rfl (lv_at hl 0 rfl) ?_
    refine lv_iload_n hx hb dX12_right_9 rfl (lv_at hl 2 rfl) ?_
    obtain ⟨r_6, I_7, J_8, hq_9, hf⟩ := yb_b3_some hf
    refine x_calli X hK hw (c12_isPerson l D cz ev mb hq_9) (ml_mem0 mb) (ml_S0 mb) cpX12.1 vw_X12_341 ⟨Nat.le_of_ble_eq_true rfl, Nat.le_of_ble_eq_true rfl⟩ rfl rfl (Nat.le_of_ble_eq_true rfl) hl.1 ⟨Nat.le_refl _, Nat.le_refl _⟩ dX12_right_10 (fun H locs hw => ?_)
    refine lv_if_eq (tgt := 31) hx hb dX12_right_13 (by decide) (fun c_10 => ?_) (fun c_10 => ?_)
    · have hf := yb_pos c_10 hf
      refine lv_iconst (v := (-1 : Int32)) hx hb dX12_right_31 (by decide) ?_
      exact yb_reti hfin hf hw dX12_right_32
    · have hf := yb_neg c_10 hf
      refine lv_aload_n hx hb dX12_right_16 rfl (lv_at hl 0 rfl) ?_
      refine lv_iload_n hx hb dX12_right_17 rfl (lv_at hl 1 rfl) ?_
      refine lv_iload_n hx hb dX12_right_18 rfl (lv_at hl 2 rfl) ?_
      refine lv_aload_n hx hb dX12_right_19 rfl (lv_at hl 0 rfl) ?_
      refine x_getR X hK hw (ml_mem0 mb) (ml_S0 mb) cpX12 20 (by decide) rfl (ml_R mb 20 rfl) tw_1271 dX12_right_20 ?_
      refine lv_iconst (v := (4 : Int32)) hx hb dX12_right_23 (by decide) ?_
      refine x_iald X hK hw (ml_mem mb 10 (by decide)) (ml_S mb 10 rfl) (by decide) rfl dX12_right_24 ?_
      obtain ⟨r_11, I_12, J_13, hq_14, hf⟩ := yb_b3_some hf
      refine x_calli X hK hw (c12_rightOf l D cz ev mb hq_14) (ml_mem0 mb) (ml_S0 mb) cpX12.1 vw_X12_373 ⟨Nat.le_of_ble_eq_true rfl, Nat.le_of_ble_eq_true rfl⟩ rfl rfl (Nat.le_of_ble_eq_true rfl) hl.1 ⟨Nat.le_refl _, Nat.le_refl _⟩ dX12_right_25 (fun H locs hw => ?_)
      refine lv_goto (tgt := 32) hx hb dX12_right_28 (by decide) ?_
      exact yb_reti hfin hf hw dX12_right_32
set_option maxHeartbeats 4000000 in
set_option maxRecDepth 100000 in
theorem w12_keepsAct_L52 {p : Program} {l : Launch} {e : Env} {s : State} {m : MethodId} {args : Array Value} {below : List Frame} {meth : Method} {c : Code} {Q : State → Prop} {D : va_G} {cz : Nat → ClassId} {A : Nat → Prop} {ev : Nat × Nat × Nat} {mb : Nat} (X : CallFix p m c cX12_keepsAct 2 s args gw RX12) (hK : KX D cz ev A s) {N : Nat} :
    ∀ (n : Nat) (x1 : Int32) (I : IT) (J : JT) (q : (Unit)) (I1 : IT) (J1 : JT) (H : Heap) (locs : List Loc) (ls : Array Slot), f12_keepsAct_L52 N mb n x1 I J = some (q, I1, J1) → WX D cz A (mlL mb) (mlS mb) (mlR mb) s.heap I J H locs → lv_has ls 2 [(0, .ref mb), (1, .int x1)] →
    (∀ (H : Heap) (locs : List Loc) (ls : Array Slot), WX D cz A (mlL mb) (mlS mb) (mlR mb) s.heap I1 J1 H locs → lv_has ls 2 [(0, .ref mb)] → W p l e (rmX 0 0) s m args below meth c H locs 0 0 Q (F0 m 84 ls [])) →
    W p l e (rmX 0 0) s m args below meth c H locs 0 0 Q (F0 m 52 ls []) := by
  have hx := X.1
  have hb := X.2.1
  intro n
  induction n with
  | zero =>
    intro x1 I J q I1 J1 H locs ls hf
    rw [f12_keepsAct_L52] at hf
    cases hf
  | succ n ih =>
    intro x1 I J q I1 J1 H locs ls hf hw hl hexit
    rw [f12_keepsAct_L52] at hf
    refine lv_iload_n hx hb dX12_keepsAct_52 rfl (lv_at hl 1 rfl) ?_
    refine lv_bipush (v := (111 : Int32)) hx hb dX12_keepsAct_53 (by decide) ?_
    refine lv_icmp_ge (tgt := 84) hx hb dX12_keepsAct_55 (by decide) (fun c_2 => ?_) (fun c_2 => ?_)
    · have hf := yb_pos c_2 hf
      obtain ⟨rfl, rfl, rfl⟩ := yb_inj hf
      exact hexit _ _ _ hw (lv_sub hl [0] rfl)
    · have hf := yb_neg c_2 hf
      refine lv_aload_n hx hb dX12_keepsAct_58 rfl (lv_at hl 0 rfl) ?_
      refine x_getR X hK hw (ml_mem0 mb) (ml_S0 mb) cpX12 23 (by decide) rfl (ml_R mb 23 rfl) tw_1274 dX12_keepsAct_59 ?_
      refine lv_bipush (v := (111 : Int32)) hx hb dX12_keepsAct_62 (by decide) ?_
      refine lv_aload_n hx hb dX12_keepsAct_64 rfl (lv_at hl 0 rfl) ?_
      refine x_getI X hK hw (ml_mem0 mb) (ml_S0 mb) cpX12 24 (by decide) rfl tw_1275 dX12_keepsAct_65 ?_
      refine lv_imul hx hb dX12_keepsAct_68 ?_
      refine lv_iload_n hx hb dX12_keepsAct_69 rfl (lv_at hl 1 rfl) ?_
      refine lv_iadd hx hb dX12_keepsAct_70 ?_
      refine lv_aload_n hx hb dX12_keepsAct_71 rfl (lv_at hl 0 rfl) ?_
      refine x_getR X hK hw (ml_mem0 mb) (ml_S0 mb) cpX12 20 (by decide) rfl (ml_R mb 20 rfl) tw_1271 dX12_keepsAct_72 ?_
      refine lv_iload_n hx hb dX12_keepsAct_75 rfl (lv_at hl 1 rfl) ?_
      obtain ⟨hi_3, hf⟩ := yb_ck_some hf
      refine x_iald X hK hw (ml_mem mb 10 (by decide)) (ml_S mb 10 rfl) hi_3 rfl dX12_keepsAct_76 ?_
      obtain ⟨hi_4, hf⟩ := yb_ck_some hf
      refine x_iast X hK hw (ml_mem mb 11 (by decide)) (ml_S mb 11 rfl) hi_4 rfl dX12_keepsAct_77 (fun H locs hw => ?_)
      obtain ⟨I_5, eI_5, hf⟩ := yb_let_ex hf
      have hw := yb_wI eI_5 hw
      obtain ⟨x1_6, ex1_6, hf⟩ := yb_let_ex hf
      refine lv_iinc (v := x1_6) (lv' := [(1, .int x1_6), (0, .ref mb)]) hx hb dX12_keepsAct_78 hl (k := 1) rfl (by rw [ex1_6]; rfl) (by decide) rfl (fun ls hl => ?_)
      refine lv_goto (tgt := 52) hx hb dX12_keepsAct_81 (by decide) ?_
      exact ih _ _ _ _ _ _ _ _ _ hf hw (lv_sub hl [1, 0] rfl) hexit
set_option maxHeartbeats 4000000 in
set_option maxRecDepth 100000 in
theorem w12_keepsAct_L12 {p : Program} {l : Launch} {e : Env} {s : State} {m : MethodId} {args : Array Value} {below : List Frame} {meth : Method} {c : Code} {Q : State → Prop} {D : va_G} {cz : Nat → ClassId} {A : Nat → Prop} {ev : Nat × Nat × Nat} {mb : Nat} (X : CallFix p m c cX12_keepsAct 2 s args gw RX12) (hK : KX D cz ev A s) {N : Nat} :
    ∀ (n : Nat) (x1 : Int32) (I : IT) (J : JT) (q : (Unit)) (I1 : IT) (J1 : JT) (H : Heap) (locs : List Loc) (ls : Array Slot), f12_keepsAct_L12 N mb n x1 I J = some (q, I1, J1) → WX D cz A (mlL mb) (mlS mb) (mlR mb) s.heap I J H locs → lv_has ls 2 [(0, .ref mb), (1, .int x1)] →
    (∀ (H : Heap) (locs : List Loc) (ls : Array Slot), WX D cz A (mlL mb) (mlS mb) (mlR mb) s.heap I1 J1 H locs → lv_has ls 2 [(0, .ref mb)] → W p l e (rmX 0 0) s m args below meth c H locs 0 0 Q (F0 m 40 ls [])) →
    W p l e (rmX 0 0) s m args below meth c H locs 0 0 Q (F0 m 12 ls []) := by
  have hx := X.1
  have hb := X.2.1
  intro n
  induction n with
  | zero =>
    intro x1 I J q I1 J1 H locs ls hf
    rw [f12_keepsAct_L12] at hf
    cases hf
  | succ n ih =>
    intro x1 I J q I1 J1 H locs ls hf hw hl hexit
    rw [f12_keepsAct_L12] at hf
    refine lv_iload_n hx hb dX12_keepsAct_12 rfl (lv_at hl 1 rfl) ?_
    refine lv_sipush (v := (2220 : Int32)) hx hb dX12_keepsAct_13 (by decide) ?_
    refine lv_icmp_ge (tgt := 40) hx hb dX12_keepsAct_16 (by decide) (fun c_12 => ?_) (fun c_12 => ?_)
    · have hf := yb_pos c_12 hf
      obtain ⟨rfl, rfl, rfl⟩ := yb_inj hf
      exact hexit _ _ _ hw (lv_sub hl [0] rfl)
    · have hf := yb_neg c_12 hf
      refine lv_aload_n hx hb dX12_keepsAct_19 rfl (lv_at hl 0 rfl) ?_
      refine x_getR X hK hw (ml_mem0 mb) (ml_S0 mb) cpX12 23 (by decide) rfl (ml_R mb 23 rfl) tw_1274 dX12_keepsAct_20 ?_
      refine lv_iload_n hx hb dX12_keepsAct_23 rfl (lv_at hl 1 rfl) ?_
      refine lv_bipush (v := (111 : Int32)) hx hb dX12_keepsAct_24 (by decide) ?_
      refine lv_isub hx hb dX12_keepsAct_26 ?_
      refine lv_aload_n hx hb dX12_keepsAct_27 rfl (lv_at hl 0 rfl) ?_
      refine x_getR X hK hw (ml_mem0 mb) (ml_S0 mb) cpX12 23 (by decide) rfl (ml_R mb 23 rfl) tw_1274 dX12_keepsAct_28 ?_
      refine lv_iload_n hx hb dX12_keepsAct_31 rfl (lv_at hl 1 rfl) ?_
      obtain ⟨hi_13, hf⟩ := yb_ck_some hf
      refine x_iald X hK hw (ml_mem mb 11 (by decide)) (ml_S mb 11 rfl) hi_13 rfl dX12_keepsAct_32 ?_
      obtain ⟨hi_14, hf⟩ := yb_ck_some hf
      refine x_iast X hK hw (ml_mem mb 11 (by decide)) (ml_S mb 11 rfl) hi_14 rfl dX12_keepsAct_33 (fun H locs hw => ?_)
      obtain ⟨I_15, eI_15, hf⟩ := yb_let_ex hf
      have hw := yb_wI eI_15 hw
      obtain ⟨x1_16, ex1_16, hf⟩ := yb_let_ex hf
      refine lv_iinc (v := x1_16) (lv' := [(1, .int x1_16), (0, .ref mb)]) hx hb dX12_keepsAct_34 hl (k := 1) rfl (by rw [ex1_16]; rfl) (by decide) rfl (fun ls hl => ?_)
      refine lv_goto (tgt := 12) hx hb dX12_keepsAct_37 (by decide) ?_
      exact ih _ _ _ _ _ _ _ _ _ hf hw (lv_sub hl [1, 0] rfl) hexit
set_option maxHeartbeats 4000000 in
set_option maxRecDepth 100000 in
theorem c12_keepsAct (l : Launch) (D : va_G) (cz : Nat → ClassId) (ev : Nat × Nat × Nat) (mb : Nat) {N : Nat} {I : IT} {J : JT} {r : Unit} {I1 : IT} {J1 : JT} (hf : f12_keepsAct N mb I J = some (r, I1, J1)) : MTv l D cz ev yX12_keepsAct cX12_keepsAct 2 (none) 0 0 [.ref mb] (mlL mb) (mlS mb) (mlR mb) I J r I1 J1 := by
  unfold f12_keepsAct at hf
  refine MTv_of (by decide) (Nat.le_of_ble_eq_true rfl) ?_
  intro p e s m args below meth c Q ls X hK hw hl hfin
  have X : CallFix p m c cX12_keepsAct 2 s args gw RX12 := X
  have hx := X.1
  have hb := X.2.1
  have hl : lv_has ls 2 [(0, .ref mb)] := hl
  refine lv_aload_n hx hb dX12_keepsAct_0 rfl (lv_at hl 0 rfl) ?_
  refine x_getI X hK hw (ml_mem0 mb) (ml_S0 mb) cpX12 24 (by decide) rfl tw_1275 dX12_keepsAct_1 ?_
  refine lv_bipush (v := (20 : Int32)) hx hb dX12_keepsAct_4 (by decide) ?_
  refine lv_icmp_ne (tgt := 50) hx hb dX12_keepsAct_6 (by decide) (fun c_1 => ?_) (fun c_1 => ?_)
  · have hf := yb_neg c_1 hf
    refine lv_iconst (v := (0 : Int32)) hx hb dX12_keepsAct_50 (by decide) ?_
    refine lv_istore_n (lv' := [(1, .int (0 : Int32)), (0, .ref mb)]) hx hb dX12_keepsAct_51 rfl hl (by decide) rfl (fun ls hl => ?_)
    obtain ⟨q_7, I_8, J_9, hq_10, hf⟩ := yb_b3_some hf
    refine w12_keepsAct_L52 X hK _ _ _ _ _ _ _ _ _ _ hq_10 hw (lv_sub hl [1, 0] rfl) (fun H locs ls hw hl => ?_)
    refine lv_aload_n hx hb dX12_keepsAct_84 rfl (lv_at hl 0 rfl) ?_
    refine lv_dup hx hb dX12_keepsAct_85 rfl ?_
    refine x_getI X hK hw (ml_mem0 mb) (ml_S0 mb) cpX12 24 (by decide) rfl tw_1275 dX12_keepsAct_86 ?_
    refine lv_iconst (v := (1 : Int32)) hx hb dX12_keepsAct_89 (by decide) ?_
    refine lv_iadd hx hb dX12_keepsAct_90 ?_
    refine x_putI X hK hw (ml_mem0 mb) (ml_S0 mb) cpX12 24 (by decide) rfl rfl rfl tw_1275 dX12_keepsAct_91 (fun H locs hw => ?_)
    obtain ⟨I_11, eI_11, hf⟩ := yb_let_ex hf
    have hw := yb_wI eI_11 hw
    exact yb_retv hfin hf hw dX12_keepsAct_94
  · have hf := yb_pos c_1 hf
    refine lv_bipush (v := (111 : Int32)) hx hb dX12_keepsAct_9 (by decide) ?_
    refine lv_istore_n (lv' := [(1, .int (111 : Int32)), (0, .ref mb)]) hx hb dX12_keepsAct_11 rfl hl (by decide) rfl (fun ls hl => ?_)
    obtain ⟨q_17, I_18, J_19, hq_20, hf⟩ := yb_b3_some hf
    refine w12_keepsAct_L12 X hK _ _ _ _ _ _ _ _ _ _ hq_20 hw (lv_sub hl [1, 0] rfl) (fun H locs ls hw hl => ?_)
    refine lv_aload_n hx hb dX12_keepsAct_40 rfl (lv_at hl 0 rfl) ?_
    refine lv_dup hx hb dX12_keepsAct_41 rfl ?_
    refine x_getI X hK hw (ml_mem0 mb) (ml_S0 mb) cpX12 24 (by decide) rfl tw_1275 dX12_keepsAct_42 ?_
    refine lv_iconst (v := (1 : Int32)) hx hb dX12_keepsAct_45 (by decide) ?_
    refine lv_isub hx hb dX12_keepsAct_46 ?_
    refine x_putI X hK hw (ml_mem0 mb) (ml_S0 mb) cpX12 24 (by decide) rfl rfl rfl tw_1275 dX12_keepsAct_47 (fun H locs hw => ?_)
    obtain ⟨I_21, eI_21, hf⟩ := yb_let_ex hf
    have hw := yb_wI eI_21 hw
    refine lv_iconst (v := (0 : Int32)) hx hb dX12_keepsAct_50 (by decide) ?_
    refine lv_istore_n (lv' := [(1, .int (0 : Int32)), (0, .ref mb)]) hx hb dX12_keepsAct_51 rfl hl (by decide) rfl (fun ls hl => ?_)
    obtain ⟨q_22, I_23, J_24, hq_25, hf⟩ := yb_b3_some hf
    refine w12_keepsAct_L52 X hK _ _ _ _ _ _ _ _ _ _ hq_25 hw (lv_sub hl [1, 0] rfl) (fun H locs ls hw hl => ?_)
    refine lv_aload_n hx hb dX12_keepsAct_84 rfl (lv_at hl 0 rfl) ?_
    refine lv_dup hx hb dX12_keepsAct_85 rfl ?_
    refine x_getI X hK hw (ml_mem0 mb) (ml_S0 mb) cpX12 24 (by decide) rfl tw_1275 dX12_keepsAct_86 ?_
    refine lv_iconst (v := (1 : Int32)) hx hb dX12_keepsAct_89 (by decide) ?_
    refine lv_iadd hx hb dX12_keepsAct_90 ?_
    refine x_putI X hK hw (ml_mem0 mb) (ml_S0 mb) cpX12 24 (by decide) rfl rfl rfl tw_1275 dX12_keepsAct_91 (fun H locs hw => ?_)
    obtain ⟨I_26, eI_26, hf⟩ := yb_let_ex hf
    have hw := yb_wI eI_26 hw
    exact yb_retv hfin hf hw dX12_keepsAct_94
set_option maxHeartbeats 4000000 in
set_option maxRecDepth 100000 in
theorem w12_undo_L21 {p : Program} {l : Launch} {e : Env} {s : State} {m : MethodId} {args : Array Value} {below : List Frame} {meth : Method} {c : Code} {Q : State → Prop} {D : va_G} {cz : Nat → ClassId} {A : Nat → Prop} {ev : Nat × Nat × Nat} {mb : Nat} (X : CallFix p m c cX12_undo 2 s args gw RX12) (hK : KX D cz ev A s) {N : Nat} :
    ∀ (n : Nat) (x1 : Int32) (I : IT) (J : JT) (q : (Unit)) (I1 : IT) (J1 : JT) (H : Heap) (locs : List Loc) (ls : Array Slot), f12_undo_L21 N mb n x1 I J = some (q, I1, J1) → WX D cz A (mlL mb) (mlS mb) (mlR mb) s.heap I J H locs → lv_has ls 2 [(0, .ref mb), (1, .int x1)] →
    (∀ (H : Heap) (locs : List Loc) (ls : Array Slot), WX D cz A (mlL mb) (mlS mb) (mlR mb) s.heap I1 J1 H locs → lv_has ls 2 [(0, .ref mb)] → W p l e (rmX 0 0) s m args below meth c H locs 0 0 Q (F0 m 53 ls [])) →
    W p l e (rmX 0 0) s m args below meth c H locs 0 0 Q (F0 m 21 ls []) := by
  have hx := X.1
  have hb := X.2.1
  intro n
  induction n with
  | zero =>
    intro x1 I J q I1 J1 H locs ls hf
    rw [f12_undo_L21] at hf
    cases hf
  | succ n ih =>
    intro x1 I J q I1 J1 H locs ls hf hw hl hexit
    rw [f12_undo_L21] at hf
    refine lv_iload_n hx hb dX12_undo_21 rfl (lv_at hl 1 rfl) ?_
    refine lv_bipush (v := (111 : Int32)) hx hb dX12_undo_22 (by decide) ?_
    refine lv_icmp_ge (tgt := 53) hx hb dX12_undo_24 (by decide) (fun c_3 => ?_) (fun c_3 => ?_)
    · have hf := yb_pos c_3 hf
      obtain ⟨rfl, rfl, rfl⟩ := yb_inj hf
      exact hexit _ _ _ hw (lv_sub hl [0] rfl)
    · have hf := yb_neg c_3 hf
      refine lv_aload_n hx hb dX12_undo_27 rfl (lv_at hl 0 rfl) ?_
      refine x_getR X hK hw (ml_mem0 mb) (ml_S0 mb) cpX12 20 (by decide) rfl (ml_R mb 20 rfl) tw_1271 dX12_undo_28 ?_
      refine lv_iload_n hx hb dX12_undo_31 rfl (lv_at hl 1 rfl) ?_
      refine lv_aload_n hx hb dX12_undo_32 rfl (lv_at hl 0 rfl) ?_
      refine x_getR X hK hw (ml_mem0 mb) (ml_S0 mb) cpX12 23 (by decide) rfl (ml_R mb 23 rfl) tw_1274 dX12_undo_33 ?_
      refine lv_bipush (v := (111 : Int32)) hx hb dX12_undo_36 (by decide) ?_
      refine lv_aload_n hx hb dX12_undo_38 rfl (lv_at hl 0 rfl) ?_
      refine x_getI X hK hw (ml_mem0 mb) (ml_S0 mb) cpX12 24 (by decide) rfl tw_1275 dX12_undo_39 ?_
      refine lv_imul hx hb dX12_undo_42 ?_
      refine lv_iload_n hx hb dX12_undo_43 rfl (lv_at hl 1 rfl) ?_
      refine lv_iadd hx hb dX12_undo_44 ?_
      obtain ⟨hi_4, hf⟩ := yb_ck_some hf
      refine x_iald X hK hw (ml_mem mb 11 (by decide)) (ml_S mb 11 rfl) hi_4 rfl dX12_undo_45 ?_
      obtain ⟨hi_5, hf⟩ := yb_ck_some hf
      refine x_iast X hK hw (ml_mem mb 10 (by decide)) (ml_S mb 10 rfl) hi_5 rfl dX12_undo_46 (fun H locs hw => ?_)
      obtain ⟨I_6, eI_6, hf⟩ := yb_let_ex hf
      have hw := yb_wI eI_6 hw
      obtain ⟨x1_7, ex1_7, hf⟩ := yb_let_ex hf
      refine lv_iinc (v := x1_7) (lv' := [(1, .int x1_7), (0, .ref mb)]) hx hb dX12_undo_47 hl (k := 1) rfl (by rw [ex1_7]; rfl) (by decide) rfl (fun ls hl => ?_)
      refine lv_goto (tgt := 21) hx hb dX12_undo_50 (by decide) ?_
      exact ih _ _ _ _ _ _ _ _ _ hf hw (lv_sub hl [1, 0] rfl) hexit
set_option maxHeartbeats 4000000 in
set_option maxRecDepth 100000 in
theorem c12_undo (l : Launch) (D : va_G) (cz : Nat → ClassId) (ev : Nat × Nat × Nat) (mb : Nat) {N : Nat} {I : IT} {J : JT} {r : Int32} {I1 : IT} {J1 : JT} (hf : f12_undo N mb I J = some (r, I1, J1)) : MTi l D cz ev yX12_undo cX12_undo 2 (some .int) 0 0 [.ref mb] (mlL mb) (mlS mb) (mlR mb) I J r I1 J1 := by
  unfold f12_undo at hf
  refine MTi_of (by decide) (Nat.le_of_ble_eq_true rfl) ?_
  intro p e s m args below meth c Q ls X hK hw hl hfin
  have X : CallFix p m c cX12_undo 2 s args gw RX12 := X
  have hx := X.1
  have hb := X.2.1
  have hl : lv_has ls 2 [(0, .ref mb)] := hl
  refine lv_aload_n hx hb dX12_undo_0 rfl (lv_at hl 0 rfl) ?_
  refine x_getI X hK hw (ml_mem0 mb) (ml_S0 mb) cpX12 24 (by decide) rfl tw_1275 dX12_undo_1 ?_
  refine lv_if_ne (tgt := 9) hx hb dX12_undo_4 (by decide) (fun c_1 => ?_) (fun c_1 => ?_)
  · have hf := yb_neg c_1 hf
    refine lv_aload_n hx hb dX12_undo_9 rfl (lv_at hl 0 rfl) ?_
    refine lv_dup hx hb dX12_undo_10 rfl ?_
    refine x_getI X hK hw (ml_mem0 mb) (ml_S0 mb) cpX12 24 (by decide) rfl tw_1275 dX12_undo_11 ?_
    refine lv_iconst (v := (1 : Int32)) hx hb dX12_undo_14 (by decide) ?_
    refine lv_isub hx hb dX12_undo_15 ?_
    refine x_putI X hK hw (ml_mem0 mb) (ml_S0 mb) cpX12 24 (by decide) rfl rfl rfl tw_1275 dX12_undo_16 (fun H locs hw => ?_)
    obtain ⟨I_2, eI_2, hf⟩ := yb_let_ex hf
    have hw := yb_wI eI_2 hw
    refine lv_iconst (v := (0 : Int32)) hx hb dX12_undo_19 (by decide) ?_
    refine lv_istore_n (lv' := [(1, .int (0 : Int32)), (0, .ref mb)]) hx hb dX12_undo_20 rfl hl (by decide) rfl (fun ls hl => ?_)
    obtain ⟨q_8, I_9, J_10, hq_11, hf⟩ := yb_b3_some hf
    refine w12_undo_L21 X hK _ _ _ _ _ _ _ _ _ _ hq_11 hw (lv_sub hl [1, 0] rfl) (fun H locs ls hw hl => ?_)
    refine lv_aload_n hx hb dX12_undo_53 rfl (lv_at hl 0 rfl) ?_
    refine x_getI X hK hw (ml_mem0 mb) (ml_S0 mb) cpX12 24 (by decide) rfl tw_1275 dX12_undo_54 ?_
    exact yb_reti hfin hf hw dX12_undo_57
  · have hf := yb_pos c_1 hf
    refine lv_iconst (v := (-1 : Int32)) hx hb dX12_undo_7 (by decide) ?_
    exact yb_reti hfin hf hw dX12_undo_8
set_option maxHeartbeats 4000000 in
set_option maxRecDepth 100000 in
theorem c12_isRuled (l : Launch) (D : va_G) (cz : Nat → ClassId) (ev : Nat × Nat × Nat) (mb : Nat) {x1 : Int32} {I : IT} {J : JT} {r : Unit} {I1 : IT} {J1 : JT} (hf : f12_isRuled mb x1 I J = some (r, I1, J1)) : MTv l D cz ev yX12_isRuled cX12_isRuled 4 (none) 2 44 [.ref mb, .int x1] (mlL mb) (mlS mb) (mlR mb) I J r I1 J1 := by
  unfold f12_isRuled at hf
  refine MTv_of (by decide) (Nat.le_of_ble_eq_true rfl) ?_
  intro p e s m args below meth c Q ls X hK hw hl hfin
  have X : CallFix p m c cX12_isRuled 4 s args gw RX12 := X
  have hx := X.1
  have hb := X.2.1
  have hl : lv_has ls 4 [(0, .ref mb), (1, .int x1)] := hl
  refine lv_bipush (v := (45 : Int32)) hx hb dX12_isRuled_0 (by decide) ?_
  refine lv_bipush (v := (11 : Int32)) hx hb dX12_isRuled_2 (by decide) ?_
  refine lv_iload_n hx hb dX12_isRuled_4 rfl (lv_at hl 1 rfl) ?_
  refine lv_imul hx hb dX12_isRuled_5 ?_
  refine lv_iadd hx hb dX12_isRuled_6 ?_
  refine lv_topi (fun x2_1 ex2_1 => ?_)
  have hf := yb_let_to ex2_1 hf
  refine lv_istore_n (lv' := [(2, .int x2_1), (0, .ref mb), (1, .int x1)]) hx hb dX12_isRuled_7 rfl hl (by decide) rfl (fun ls hl => ?_)
  refine lv_aload_n hx hb dX12_isRuled_8 rfl (lv_at hl 1 rfl) ?_
  refine x_getR X hK hw (ml_mem0 mb) (ml_S0 mb) cpX12 20 (by decide) rfl (ml_R mb 20 rfl) tw_1271 dX12_isRuled_9 ?_
  refine lv_iload_n hx hb dX12_isRuled_12 rfl (lv_at hl 0 rfl) ?_
  refine lv_iconst (v := (4 : Int32)) hx hb dX12_isRuled_13 (by decide) ?_
  refine lv_iadd hx hb dX12_isRuled_14 ?_
  obtain ⟨hi_2, hf⟩ := yb_ck_some hf
  refine x_iald X hK hw (ml_mem mb 10 (by decide)) (ml_S mb 10 rfl) hi_2 rfl dX12_isRuled_15 ?_
  refine lv_topi (fun x3_3 ex3_3 => ?_)
  have hf := yb_let_to ex3_3 hf
  refine lv_istore_n (lv' := [(3, .int x3_3), (2, .int x2_1), (0, .ref mb), (1, .int x1)]) hx hb dX12_isRuled_16 rfl hl (by decide) rfl (fun ls hl => ?_)
  refine lv_aload_n hx hb dX12_isRuled_17 rfl (lv_at hl 2 rfl) ?_
  refine x_getR X hK hw (ml_mem0 mb) (ml_S0 mb) cpX12 20 (by decide) rfl (ml_R mb 20 rfl) tw_1271 dX12_isRuled_18 ?_
  refine lv_iload_n hx hb dX12_isRuled_21 rfl (lv_at hl 1 rfl) ?_
  refine lv_iconst (v := (4 : Int32)) hx hb dX12_isRuled_22 (by decide) ?_
  refine lv_iadd hx hb dX12_isRuled_23 ?_
  refine lv_iconst (v := (-1 : Int32)) hx hb dX12_isRuled_24 (by decide) ?_
  refine x_iast X hK hw (ml_mem mb 10 (by decide)) (ml_S mb 10 rfl) hi_2 rfl dX12_isRuled_25 (fun H locs hw => ?_)
  obtain ⟨I_4, eI_4, hf⟩ := yb_let_ex hf
  have hw := yb_wI eI_4 hw
  refine lv_aload_n hx hb dX12_isRuled_26 rfl (lv_at hl 2 rfl) ?_
  refine x_getR X hK hw (ml_mem0 mb) (ml_S0 mb) cpX12 20 (by decide) rfl (ml_R mb 20 rfl) tw_1271 dX12_isRuled_27 ?_
  refine lv_iload_n hx hb dX12_isRuled_30 rfl (lv_at hl 1 rfl) ?_
  refine lv_bipush (v := (6 : Int32)) hx hb dX12_isRuled_31 (by decide) ?_
  refine lv_iadd hx hb dX12_isRuled_33 ?_
  refine lv_iload_n hx hb dX12_isRuled_34 rfl (lv_at hl 0 rfl) ?_
  obtain ⟨hi_5, hf⟩ := yb_ck_some hf
  refine x_iast X hK hw (ml_mem mb 10 (by decide)) (ml_S mb 10 rfl) hi_5 rfl dX12_isRuled_35 (fun H locs hw => ?_)
  obtain ⟨I_6, eI_6, hf⟩ := yb_let_ex hf
  have hw := yb_wI eI_6 hw
  refine lv_aload_n hx hb dX12_isRuled_36 rfl (lv_at hl 2 rfl) ?_
  refine x_getR X hK hw (ml_mem0 mb) (ml_S0 mb) cpX12 20 (by decide) rfl (ml_R mb 20 rfl) tw_1271 dX12_isRuled_37 ?_
  refine lv_iload_n hx hb dX12_isRuled_40 rfl (lv_at hl 1 rfl) ?_
  refine lv_bipush (v := (7 : Int32)) hx hb dX12_isRuled_41 (by decide) ?_
  refine lv_iadd hx hb dX12_isRuled_43 ?_
  refine lv_aload_n hx hb dX12_isRuled_44 rfl (lv_at hl 2 rfl) ?_
  refine x_getR X hK hw (ml_mem0 mb) (ml_S0 mb) cpX12 20 (by decide) rfl (ml_R mb 20 rfl) tw_1271 dX12_isRuled_45 ?_
  refine lv_iload_n hx hb dX12_isRuled_48 rfl (lv_at hl 1 rfl) ?_
  refine lv_bipush (v := (10 : Int32)) hx hb dX12_isRuled_49 (by decide) ?_
  refine lv_iadd hx hb dX12_isRuled_51 ?_
  obtain ⟨hi_7, hf⟩ := yb_ck_some hf
  refine x_iald X hK hw (ml_mem mb 10 (by decide)) (ml_S mb 10 rfl) hi_7 rfl dX12_isRuled_52 ?_
  obtain ⟨hi_8, hf⟩ := yb_ck_some hf
  refine x_iast X hK hw (ml_mem mb 10 (by decide)) (ml_S mb 10 rfl) hi_8 rfl dX12_isRuled_53 (fun H locs hw => ?_)
  obtain ⟨I_9, eI_9, hf⟩ := yb_let_ex hf
  have hw := yb_wI eI_9 hw
  refine lv_aload_n hx hb dX12_isRuled_54 rfl (lv_at hl 2 rfl) ?_
  refine x_getR X hK hw (ml_mem0 mb) (ml_S0 mb) cpX12 20 (by decide) rfl (ml_R mb 20 rfl) tw_1271 dX12_isRuled_55 ?_
  refine lv_iload_n hx hb dX12_isRuled_58 rfl (lv_at hl 1 rfl) ?_
  refine lv_bipush (v := (8 : Int32)) hx hb dX12_isRuled_59 (by decide) ?_
  refine lv_iadd hx hb dX12_isRuled_61 ?_
  refine lv_aload_n hx hb dX12_isRuled_62 rfl (lv_at hl 2 rfl) ?_
  refine lv_iload_n hx hb dX12_isRuled_63 rfl (lv_at hl 0 rfl) ?_
  refine lv_aload_n hx hb dX12_isRuled_64 rfl (lv_at hl 2 rfl) ?_
  refine x_getR X hK hw (ml_mem0 mb) (ml_S0 mb) cpX12 20 (by decide) rfl (ml_R mb 20 rfl) tw_1271 dX12_isRuled_65 ?_
  refine lv_iconst (v := (4 : Int32)) hx hb dX12_isRuled_68 (by decide) ?_
  refine x_iald X hK hw (ml_mem mb 10 (by decide)) (ml_S mb 10 rfl) (by decide) rfl dX12_isRuled_69 ?_
  obtain ⟨r_10, I_11, J_12, hq_13, hf⟩ := yb_b3_some hf
  refine x_calli X hK hw (c12_ageOn l D cz ev mb hq_13) (ml_mem0 mb) (ml_S0 mb) cpX12.1 vw_X12_316 ⟨Nat.le_of_ble_eq_true rfl, Nat.le_of_ble_eq_true rfl⟩ rfl rfl (Nat.le_of_ble_eq_true rfl) hl.1 ⟨Nat.le_refl _, Nat.le_refl _⟩ dX12_isRuled_70 (fun H locs hw => ?_)
  obtain ⟨hi_14, hf⟩ := yb_ck_some hf
  refine x_iast X hK hw (ml_mem mb 10 (by decide)) (ml_S mb 10 rfl) hi_14 rfl dX12_isRuled_73 (fun H locs hw => ?_)
  obtain ⟨I_15, eI_15, hf⟩ := yb_let_ex hf
  have hw := yb_wI eI_15 hw
  refine lv_aload_n hx hb dX12_isRuled_74 rfl (lv_at hl 2 rfl) ?_
  refine x_getR X hK hw (ml_mem0 mb) (ml_S0 mb) cpX12 20 (by decide) rfl (ml_R mb 20 rfl) tw_1271 dX12_isRuled_75 ?_
  refine lv_iload_n hx hb dX12_isRuled_78 rfl (lv_at hl 1 rfl) ?_
  refine lv_bipush (v := (9 : Int32)) hx hb dX12_isRuled_79 (by decide) ?_
  refine lv_iadd hx hb dX12_isRuled_81 ?_
  refine lv_dup2_11 hx hb dX12_isRuled_82 rfl rfl ?_
  obtain ⟨hi_16, hf⟩ := yb_ck_some hf
  refine x_iald X hK hw (ml_mem mb 10 (by decide)) (ml_S mb 10 rfl) hi_16 rfl dX12_isRuled_83 ?_
  refine lv_iconst (v := (1 : Int32)) hx hb dX12_isRuled_84 (by decide) ?_
  refine lv_iadd hx hb dX12_isRuled_85 ?_
  refine x_iast X hK hw (ml_mem mb 10 (by decide)) (ml_S mb 10 rfl) hi_16 rfl dX12_isRuled_86 (fun H locs hw => ?_)
  obtain ⟨I_17, eI_17, hf⟩ := yb_let_ex hf
  have hw := yb_wI eI_17 hw
  refine lv_aload_n hx hb dX12_isRuled_87 rfl (lv_at hl 2 rfl) ?_
  refine x_getR X hK hw (ml_mem0 mb) (ml_S0 mb) cpX12 20 (by decide) rfl (ml_R mb 20 rfl) tw_1271 dX12_isRuled_88 ?_
  refine lv_bipush (v := (10 : Int32)) hx hb dX12_isRuled_91 (by decide) ?_
  refine lv_iconst (v := (5 : Int32)) hx hb dX12_isRuled_93 (by decide) ?_
  refine lv_iload_n hx hb dX12_isRuled_94 rfl (lv_at hl 0 rfl) ?_
  refine lv_imul hx hb dX12_isRuled_95 ?_
  refine lv_iadd hx hb dX12_isRuled_96 ?_
  refine lv_iconst (v := (4 : Int32)) hx hb dX12_isRuled_97 (by decide) ?_
  refine lv_iadd hx hb dX12_isRuled_98 ?_
  refine lv_dup2_11 hx hb dX12_isRuled_99 rfl rfl ?_
  obtain ⟨hi_18, hf⟩ := yb_ck_some hf
  refine x_iald X hK hw (ml_mem mb 10 (by decide)) (ml_S mb 10 rfl) hi_18 rfl dX12_isRuled_100 ?_
  refine lv_iconst (v := (1 : Int32)) hx hb dX12_isRuled_101 (by decide) ?_
  refine lv_iadd hx hb dX12_isRuled_102 ?_
  refine x_iast X hK hw (ml_mem mb 10 (by decide)) (ml_S mb 10 rfl) hi_18 rfl dX12_isRuled_103 (fun H locs hw => ?_)
  obtain ⟨I_19, eI_19, hf⟩ := yb_let_ex hf
  have hw := yb_wI eI_19 hw
  exact yb_retv hfin hf hw dX12_isRuled_104
set_option maxHeartbeats 4000000 in
set_option maxRecDepth 100000 in
theorem w12_passes_L4 {p : Program} {l : Launch} {e : Env} {s : State} {m : MethodId} {args : Array Value} {below : List Frame} {meth : Method} {c : Code} {Q : State → Prop} {D : va_G} {cz : Nat → ClassId} {A : Nat → Prop} {ev : Nat × Nat × Nat} {mb : Nat} (X : CallFix p m c cX12_passes 3 s args gw RX12) (hK : KX D cz ev A s) {N : Nat} :
    ∀ (n : Nat) (x1 : Int32) (x2 : Int32) (I : IT) (J : JT) (q : (Int32)) (I1 : IT) (J1 : JT) (H : Heap) (locs : List Loc) (ls : Array Slot), f12_passes_L4 N mb n x1 x2 I J = some (q, I1, J1) → WX D cz A (mlL mb) (mlS mb) (mlR mb) s.heap I J H locs → lv_has ls 3 [(0, .ref mb), (1, .int x1), (2, .int x2)] →
    (∀ (H : Heap) (locs : List Loc) (ls : Array Slot), WX D cz A (mlL mb) (mlS mb) (mlR mb) s.heap I1 J1 H locs → lv_has ls 3 [(0, .ref mb), (1, .int q)] → W p l e (rmX 3 67) s m args below meth c H locs 0 0 Q (F0 m 73 ls [])) →
    W p l e (rmX 3 67) s m args below meth c H locs 0 0 Q (F0 m 4 ls []) := by
  have hx := X.1
  have hb := X.2.1
  intro n
  induction n with
  | zero =>
    intro x1 x2 I J q I1 J1 H locs ls hf
    rw [f12_passes_L4] at hf
    cases hf
  | succ n ih =>
    intro x1 x2 I J q I1 J1 H locs ls hf hw hl hexit
    rw [f12_passes_L4] at hf
    refine lv_iload_n hx hb dX12_passes_4 rfl (lv_at hl 2 rfl) ?_
    refine lv_aload_n hx hb dX12_passes_5 rfl (lv_at hl 0 rfl) ?_
    refine x_getR X hK hw (ml_mem0 mb) (ml_S0 mb) cpX12 20 (by decide) rfl (ml_R mb 20 rfl) tw_1271 dX12_passes_6 ?_
    refine lv_iconst (v := (3 : Int32)) hx hb dX12_passes_9 (by decide) ?_
    refine x_iald X hK hw (ml_mem mb 10 (by decide)) (ml_S mb 10 rfl) (by decide) rfl dX12_passes_10 ?_
    refine lv_icmp_ge (tgt := 73) hx hb dX12_passes_11 (by decide) (fun c_1 => ?_) (fun c_1 => ?_)
    · have hf := yb_pos c_1 hf
      obtain ⟨rfl, rfl, rfl⟩ := yb_inj hf
      exact hexit _ _ _ hw (lv_sub hl [0, 1] rfl)
    · have hf := yb_neg c_1 hf
      refine lv_aload_n hx hb dX12_passes_14 rfl (lv_at hl 0 rfl) ?_
      refine lv_iload_n hx hb dX12_passes_15 rfl (lv_at hl 2 rfl) ?_
      refine lv_iconst (v := (4 : Int32)) hx hb dX12_passes_16 (by decide) ?_
      obtain ⟨r_2, I_3, J_4, hq_5, hf⟩ := yb_b3_some hf
      refine x_calli X hK hw (c12_caseOf l D cz ev mb hq_5) (ml_mem0 mb) (ml_S0 mb) cpX12.1 vw_X12_331 ⟨Nat.le_of_ble_eq_true rfl, Nat.le_of_ble_eq_true rfl⟩ rfl rfl (Nat.le_of_ble_eq_true rfl) hl.1 ⟨Nat.le_refl _, Nat.le_refl _⟩ dX12_passes_17 (fun H locs hw => ?_)
      refine lv_if_ge (tgt := 26) hx hb dX12_passes_20 (by decide) (fun c_6 => ?_) (fun c_6 => ?_)
      · have hf := yb_pos c_6 hf
        refine lv_aload_n hx hb dX12_passes_26 rfl (lv_at hl 0 rfl) ?_
        refine x_getR X hK hw (ml_mem0 mb) (ml_S0 mb) cpX12 20 (by decide) rfl (ml_R mb 20 rfl) tw_1271 dX12_passes_27 ?_
        refine lv_bipush (v := (45 : Int32)) hx hb dX12_passes_30 (by decide) ?_
        refine lv_bipush (v := (11 : Int32)) hx hb dX12_passes_32 (by decide) ?_
        refine lv_iload_n hx hb dX12_passes_34 rfl (lv_at hl 2 rfl) ?_
        refine lv_imul hx hb dX12_passes_35 ?_
        refine lv_iadd hx hb dX12_passes_36 ?_
        refine lv_iconst (v := (5 : Int32)) hx hb dX12_passes_37 (by decide) ?_
        refine lv_iadd hx hb dX12_passes_38 ?_
        refine lv_dup2_11 hx hb dX12_passes_39 rfl rfl ?_
        obtain ⟨hi_7, hf⟩ := yb_ck_some hf
        refine x_iald X hK hw (ml_mem mb 10 (by decide)) (ml_S mb 10 rfl) hi_7 rfl dX12_passes_40 ?_
        refine lv_iconst (v := (1 : Int32)) hx hb dX12_passes_41 (by decide) ?_
        refine lv_isub hx hb dX12_passes_42 ?_
        refine x_iast X hK hw (ml_mem mb 10 (by decide)) (ml_S mb 10 rfl) hi_7 rfl dX12_passes_43 (fun H locs hw => ?_)
        obtain ⟨I_8, eI_8, hf⟩ := yb_let_ex hf
        have hw := yb_wI eI_8 hw
        refine lv_aload_n hx hb dX12_passes_44 rfl (lv_at hl 0 rfl) ?_
        refine lv_iload_n hx hb dX12_passes_45 rfl (lv_at hl 2 rfl) ?_
        refine lv_iconst (v := (5 : Int32)) hx hb dX12_passes_46 (by decide) ?_
        obtain ⟨r_9, I_10, J_11, hq_12, hf⟩ := yb_b3_some hf
        refine x_calli X hK hw (c12_caseOf l D cz ev mb hq_12) (ml_mem0 mb) (ml_S0 mb) cpX12.1 vw_X12_331 ⟨Nat.le_of_ble_eq_true rfl, Nat.le_of_ble_eq_true rfl⟩ rfl rfl (Nat.le_of_ble_eq_true rfl) hl.1 ⟨Nat.le_refl _, Nat.le_refl _⟩ dX12_passes_47 (fun H locs hw => ?_)
        refine lv_if_le (tgt := 56) hx hb dX12_passes_50 (by decide) (fun c_13 => ?_) (fun c_13 => ?_)
        · have hf := yb_pos c_13 hf
          refine lv_aload_n hx hb dX12_passes_56 rfl (lv_at hl 0 rfl) ?_
          refine lv_iload_n hx hb dX12_passes_57 rfl (lv_at hl 2 rfl) ?_
          obtain ⟨r_14, I_15, J_16, hq_17, hf⟩ := yb_b3_some hf
          refine x_callv X hK hw (c12_isRuled l D cz ev mb hq_17) (ml_mem0 mb) (ml_S0 mb) cpX12.1 vw_X12_377 ⟨Nat.le_of_ble_eq_true rfl, Nat.le_of_ble_eq_true rfl⟩ rfl rfl (Nat.le_of_ble_eq_true rfl) hl.1 ⟨Nat.le_refl _, Nat.le_refl _⟩ dX12_passes_58 (fun H locs hw => ?_)
          refine lv_iload_n hx hb dX12_passes_61 rfl (lv_at hl 1 rfl) ?_
          refine lv_iconst (v := (1 : Int32)) hx hb dX12_passes_62 (by decide) ?_
          refine lv_iload_n hx hb dX12_passes_63 rfl (lv_at hl 2 rfl) ?_
          refine lv_ishl hx hb dX12_passes_64 ?_
          refine lv_ior hx hb dX12_passes_65 ?_
          refine lv_topi (fun x1_18 ex1_18 => ?_)
          have hf := yb_let_to ex1_18 hf
          refine lv_istore_n (lv' := [(1, .int x1_18), (0, .ref mb), (2, .int x2)]) hx hb dX12_passes_66 rfl hl (by decide) rfl (fun ls hl => ?_)
          obtain ⟨x2_19, ex2_19, hf⟩ := yb_let_ex hf
          refine lv_iinc (v := x2_19) (lv' := [(2, .int x2_19), (1, .int x1_18), (0, .ref mb)]) hx hb dX12_passes_67 hl (k := 2) rfl (by rw [ex2_19]; rfl) (by decide) rfl (fun ls hl => ?_)
          refine lv_goto (tgt := 4) hx hb dX12_passes_70 (by decide) ?_
          exact ih _ _ _ _ _ _ _ _ _ _ hf hw (lv_sub hl [2, 1, 0] rfl) hexit
        · have hf := yb_neg c_13 hf
          refine lv_goto (tgt := 67) hx hb dX12_passes_53 (by decide) ?_
          obtain ⟨x2_20, ex2_20, hf⟩ := yb_let_ex hf
          refine lv_iinc (v := x2_20) (lv' := [(2, .int x2_20), (0, .ref mb), (1, .int x1)]) hx hb dX12_passes_67 hl (k := 2) rfl (by rw [ex2_20]; rfl) (by decide) rfl (fun ls hl => ?_)
          refine lv_goto (tgt := 4) hx hb dX12_passes_70 (by decide) ?_
          exact ih _ _ _ _ _ _ _ _ _ _ hf hw (lv_sub hl [1, 2, 0] rfl) hexit
      · have hf := yb_neg c_6 hf
        refine lv_goto (tgt := 67) hx hb dX12_passes_23 (by decide) ?_
        obtain ⟨x2_21, ex2_21, hf⟩ := yb_let_ex hf
        refine lv_iinc (v := x2_21) (lv' := [(2, .int x2_21), (0, .ref mb), (1, .int x1)]) hx hb dX12_passes_67 hl (k := 2) rfl (by rw [ex2_21]; rfl) (by decide) rfl (fun ls hl => ?_)
        refine lv_goto (tgt := 4) hx hb dX12_passes_70 (by decide) ?_
        exact ih _ _ _ _ _ _ _ _ _ _ hf hw (lv_sub hl [1, 2, 0] rfl) hexit
set_option maxHeartbeats 4000000 in
set_option maxRecDepth 100000 in
theorem c12_passes (l : Launch) (D : va_G) (cz : Nat → ClassId) (ev : Nat × Nat × Nat) (mb : Nat) {N : Nat} {I : IT} {J : JT} {r : Int32} {I1 : IT} {J1 : JT} (hf : f12_passes N mb I J = some (r, I1, J1)) : MTi l D cz ev yX12_passes cX12_passes 3 (some .int) 3 67 [.ref mb] (mlL mb) (mlS mb) (mlR mb) I J r I1 J1 := by
  unfold f12_passes at hf
  refine MTi_of (by decide) (Nat.le_of_ble_eq_true rfl) ?_
  intro p e s m args below meth c Q ls X hK hw hl hfin
  have X : CallFix p m c cX12_passes 3 s args gw RX12 := X
  have hx := X.1
  have hb := X.2.1
  have hl : lv_has ls 3 [(0, .ref mb)] := hl
  refine lv_iconst (v := (0 : Int32)) hx hb dX12_passes_0 (by decide) ?_
  refine lv_istore_n (lv' := [(1, .int (0 : Int32)), (0, .ref mb)]) hx hb dX12_passes_1 rfl hl (by decide) rfl (fun ls hl => ?_)
  refine lv_iconst (v := (0 : Int32)) hx hb dX12_passes_2 (by decide) ?_
  refine lv_istore_n (lv' := [(2, .int (0 : Int32)), (1, .int (0 : Int32)), (0, .ref mb)]) hx hb dX12_passes_3 rfl hl (by decide) rfl (fun ls hl => ?_)
  obtain ⟨q_22, I_23, J_24, hq_25, hf⟩ := yb_b3_some hf
  refine w12_passes_L4 X hK _ _ _ _ _ _ _ _ _ _ _ hq_25 hw (lv_sub hl [2, 1, 0] rfl) (fun H locs ls hw hl => ?_)
  refine lv_aload_n hx hb dX12_passes_73 rfl (lv_at hl 0 rfl) ?_
  refine x_getR X hK hw (ml_mem0 mb) (ml_S0 mb) cpX12 20 (by decide) rfl (ml_R mb 20 rfl) tw_1271 dX12_passes_74 ?_
  refine lv_iconst (v := (4 : Int32)) hx hb dX12_passes_77 (by decide) ?_
  refine lv_dup2_11 hx hb dX12_passes_78 rfl rfl ?_
  refine x_iald X hK hw (ml_mem mb 10 (by decide)) (ml_S mb 10 rfl) (by decide) rfl dX12_passes_79 ?_
  refine lv_iconst (v := (1 : Int32)) hx hb dX12_passes_80 (by decide) ?_
  refine lv_iadd hx hb dX12_passes_81 ?_
  refine x_iast X hK hw (ml_mem mb 10 (by decide)) (ml_S mb 10 rfl) (by decide) rfl dX12_passes_82 (fun H locs hw => ?_)
  obtain ⟨I_26, eI_26, hf⟩ := yb_let_ex hf
  have hw := yb_wI eI_26 hw
  refine lv_iload_n hx hb dX12_passes_83 rfl (lv_at hl 1 rfl) ?_
  exact yb_reti hfin hf hw dX12_passes_84
set_option maxHeartbeats 4000000 in
set_option maxRecDepth 100000 in
theorem w12_bits_L4 {p : Program} {l : Launch} {e : Env} {s : State} {m : MethodId} {args : Array Value} {below : List Frame} {meth : Method} {c : Code} {Q : State → Prop} {D : va_G} {cz : Nat → ClassId} {A : Nat → Prop} {ev : Nat × Nat × Nat} {mb : Nat} (X : CallFix p m c cX12_bits 3 s args gw RX12) (hK : KX D cz ev A s) {N : Nat} :
    ∀ (n : Nat) (x1 : Int32) (x2 : Int32) (I : IT) (J : JT) (q : (Int32)) (I1 : IT) (J1 : JT) (H : Heap) (locs : List Loc) (ls : Array Slot), f12_bits_L4 N mb n x1 x2 I J = some (q, I1, J1) → WX D cz A (mlL mb) (mlS mb) (mlR mb) s.heap I J H locs → lv_has ls 3 [(1, .int x1), (2, .int x2)] →
    (∀ (H : Heap) (locs : List Loc) (ls : Array Slot), WX D cz A (mlL mb) (mlS mb) (mlR mb) s.heap I1 J1 H locs → lv_has ls 3 [(1, .int q)] → W p l e (rmX 0 0) s m args below meth c H locs 0 0 Q (F0 m 20 ls [])) →
    W p l e (rmX 0 0) s m args below meth c H locs 0 0 Q (F0 m 4 ls []) := by
  have hx := X.1
  have hb := X.2.1
  intro n
  induction n with
  | zero =>
    intro x1 x2 I J q I1 J1 H locs ls hf
    rw [f12_bits_L4] at hf
    cases hf
  | succ n ih =>
    intro x1 x2 I J q I1 J1 H locs ls hf hw hl hexit
    rw [f12_bits_L4] at hf
    refine lv_iload_n hx hb dX12_bits_4 rfl (lv_at hl 1 rfl) ?_
    refine lv_if_eq (tgt := 20) hx hb dX12_bits_5 (by decide) (fun c_1 => ?_) (fun c_1 => ?_)
    · have hf := yb_pos c_1 hf
      obtain ⟨rfl, rfl, rfl⟩ := yb_inj hf
      exact hexit _ _ _ hw (lv_sub hl [0] rfl)
    · have hf := yb_neg c_1 hf
      obtain ⟨x1_2, ex1_2, hf⟩ := yb_let_ex hf
      refine lv_iinc (v := x1_2) (lv' := [(1, .int x1_2), (2, .int x2)]) hx hb dX12_bits_8 hl (k := 0) rfl (by rw [ex1_2]; rfl) (by decide) rfl (fun ls hl => ?_)
      refine lv_iload_n hx hb dX12_bits_11 rfl (lv_at hl 1 rfl) ?_
      refine lv_iload_n hx hb dX12_bits_12 rfl (lv_at hl 1 rfl) ?_
      refine lv_iconst (v := (1 : Int32)) hx hb dX12_bits_13 (by decide) ?_
      refine lv_isub hx hb dX12_bits_14 ?_
      refine lv_iand hx hb dX12_bits_15 ?_
      refine lv_topi (fun x2_3 ex2_3 => ?_)
      have hf := yb_let_to ex2_3 hf
      refine lv_istore_n (lv' := [(2, .int x2_3), (1, .int x1_2)]) hx hb dX12_bits_16 rfl hl (by decide) rfl (fun ls hl => ?_)
      refine lv_goto (tgt := 4) hx hb dX12_bits_17 (by decide) ?_
      exact ih _ _ _ _ _ _ _ _ _ _ hf hw (lv_sub hl [1, 0] rfl) hexit
set_option maxHeartbeats 4000000 in
set_option maxRecDepth 100000 in
theorem c12_bits (l : Launch) (D : va_G) (cz : Nat → ClassId) (ev : Nat × Nat × Nat) (mb : Nat) {N : Nat} {x0 : Int32} {I : IT} {J : JT} {r : Int32} {I1 : IT} {J1 : JT} (hf : f12_bits N mb x0 I J = some (r, I1, J1)) : MTi l D cz ev yX12_bits cX12_bits 3 (some .int) 0 0 [.int x0] (mlL mb) (mlS mb) (mlR mb) I J r I1 J1 := by
  unfold f12_bits at hf
  refine MTi_of (by decide) (Nat.le_of_ble_eq_true rfl) ?_
  intro p e s m args below meth c Q ls X hK hw hl hfin
  have X : CallFix p m c cX12_bits 3 s args gw RX12 := X
  have hx := X.1
  have hb := X.2.1
  have hl : lv_has ls 3 [(0, .int x0)] := hl
  refine lv_iconst (v := (0 : Int32)) hx hb dX12_bits_0 (by decide) ?_
  refine lv_istore_n (lv' := [(1, .int (0 : Int32)), (0, .int x0)]) hx hb dX12_bits_1 rfl hl (by decide) rfl (fun ls hl => ?_)
  refine lv_iload_n hx hb dX12_bits_2 rfl (lv_at hl 1 rfl) ?_
  refine lv_istore_n (lv' := [(2, .int x0), (1, .int (0 : Int32)), (0, .int x0)]) hx hb dX12_bits_3 rfl hl (by decide) rfl (fun ls hl => ?_)
  obtain ⟨q_4, I_5, J_6, hq_7, hf⟩ := yb_b3_some hf
  refine w12_bits_L4 X hK _ _ _ _ _ _ _ _ _ _ _ hq_7 hw (lv_sub hl [1, 0] rfl) (fun H locs ls hw hl => ?_)
  refine lv_iload_n hx hb dX12_bits_20 rfl (lv_at hl 0 rfl) ?_
  exact yb_reti hfin hf hw dX12_bits_21
set_option maxHeartbeats 4000000 in
set_option maxRecDepth 100000 in
theorem c12_day (l : Launch) (D : va_G) (cz : Nat → ClassId) (ev : Nat × Nat × Nat) (mb : Nat) {N : Nat} {I : IT} {J : JT} {r : Int32} {I1 : IT} {J1 : JT} (hf : f12_day N mb I J = some (r, I1, J1)) : MTi l D cz ev yX12_day cX12_day 1 (some .int) 4 89 [.ref mb] (mlL mb) (mlS mb) (mlR mb) I J r I1 J1 := by
  unfold f12_day at hf
  refine MTi_of (by decide) (Nat.le_of_ble_eq_true rfl) ?_
  intro p e s m args below meth c Q ls X hK hw hl hfin
  have X : CallFix p m c cX12_day 1 s args gw RX12 := X
  have hx := X.1
  have hb := X.2.1
  have hl : lv_has ls 1 [(0, .ref mb)] := hl
  refine lv_aload_n hx hb dX12_day_0 rfl (lv_at hl 0 rfl) ?_
  obtain ⟨r_1, I_2, J_3, hq_4, hf⟩ := yb_b3_some hf
  refine x_calli X hK hw (c12_isTown l D cz ev mb hq_4) (ml_mem0 mb) (ml_S0 mb) cpX12.1 vw_X12_380 ⟨Nat.le_of_ble_eq_true rfl, Nat.le_of_ble_eq_true rfl⟩ rfl rfl (Nat.le_of_ble_eq_true rfl) hl.1 ⟨Nat.le_refl _, Nat.le_refl _⟩ dX12_day_1 (fun H locs hw => ?_)
  refine lv_if_eq (tgt := 19) hx hb dX12_day_4 (by decide) (fun c_5 => ?_) (fun c_5 => ?_)
  · have hf := yb_pos c_5 hf
    refine lv_iconst (v := (-1 : Int32)) hx hb dX12_day_19 (by decide) ?_
    exact yb_reti hfin hf hw dX12_day_20
  · have hf := yb_neg c_5 hf
    refine lv_aload_n hx hb dX12_day_7 rfl (lv_at hl 0 rfl) ?_
    refine x_getR X hK hw (ml_mem0 mb) (ml_S0 mb) cpX12 20 (by decide) rfl (ml_R mb 20 rfl) tw_1271 dX12_day_8 ?_
    refine lv_iconst (v := (4 : Int32)) hx hb dX12_day_11 (by decide) ?_
    refine x_iald X hK hw (ml_mem mb 10 (by decide)) (ml_S mb 10 rfl) (by decide) rfl dX12_day_12 ?_
    refine lv_sipush (v := (999 : Int32)) hx hb dX12_day_13 (by decide) ?_
    refine lv_icmp_ne (tgt := 21) hx hb dX12_day_16 (by decide) (fun c_6 => ?_) (fun c_6 => ?_)
    · have hf := yb_neg c_6 hf
      refine lv_aload_n hx hb dX12_day_21 rfl (lv_at hl 0 rfl) ?_
      obtain ⟨r_7, I_8, J_9, hq_10, hf⟩ := yb_b3_some hf
      refine x_callv X hK hw (c12_keepsAct l D cz ev mb hq_10) (ml_mem0 mb) (ml_S0 mb) cpX12.1 vw_X12_383 ⟨Nat.le_of_ble_eq_true rfl, Nat.le_of_ble_eq_true rfl⟩ rfl rfl (Nat.le_of_ble_eq_true rfl) hl.1 ⟨Nat.le_refl _, Nat.le_refl _⟩ dX12_day_22 (fun H locs hw => ?_)
      refine lv_aload_n hx hb dX12_day_25 rfl (lv_at hl 0 rfl) ?_
      obtain ⟨r_11, I_12, J_13, hq_14, hf⟩ := yb_b3_some hf
      refine x_calli X hK hw (c12_passes l D cz ev mb hq_14) (ml_mem0 mb) (ml_S0 mb) cpX12.1 vw_X12_386 ⟨Nat.le_of_ble_eq_true rfl, Nat.le_of_ble_eq_true rfl⟩ rfl rfl (Nat.le_of_ble_eq_true rfl) hl.1 ⟨Nat.le_refl _, Nat.le_refl _⟩ dX12_day_26 (fun H locs hw => ?_)
      obtain ⟨r_15, I_16, J_17, hq_18, hf⟩ := yb_b3_some hf
      refine x_callsi X hK hw (c12_bits l D cz ev mb hq_18) sw_X12_389 ⟨Nat.le_of_ble_eq_true rfl, Nat.le_of_ble_eq_true rfl⟩ rfl rfl (Nat.le_of_ble_eq_true rfl) hl.1 ⟨Nat.le_refl _, Nat.le_refl _⟩ dX12_day_29 (fun H locs hw => ?_)
      exact yb_reti hfin hf hw dX12_day_32
    · have hf := yb_pos c_6 hf
      refine lv_iconst (v := (-1 : Int32)) hx hb dX12_day_19 (by decide) ?_
      exact yb_reti hfin hf hw dX12_day_20
set_option maxHeartbeats 4000000 in
set_option maxRecDepth 100000 in
theorem c12_mayHear (l : Launch) (D : va_G) (cz : Nat → ClassId) (ev : Nat × Nat × Nat) (mb : Nat) {N : Nat} {x1 : Int32} {x2 : Int32} {I : IT} {J : JT} {r : Int32} {I1 : IT} {J1 : JT} (hf : f12_mayHear N mb x1 x2 I J = some (r, I1, J1)) : MTi l D cz ev yX12_mayHear cX12_mayHear 3 (some .boolean) 5 114 [.ref mb, .int x1, .int x2] (mlL mb) (mlS mb) (mlR mb) I J r I1 J1 := by
  unfold f12_mayHear at hf
  refine MTz_of (by decide) (Nat.le_of_ble_eq_true rfl) ?_
  intro p e s m args below meth c Q ls X hK hw hl hfin
  have X : CallFix p m c cX12_mayHear 3 s args gw RX12 := X
  have hx := X.1
  have hb := X.2.1
  have hl : lv_has ls 3 [(0, .ref mb), (1, .int x1), (2, .int x2)] := hl
  refine lv_aload_n hx hb dX12_mayHear_0 rfl (lv_at hl 0 rfl) ?_
  refine lv_iload_n hx hb dX12_mayHear_1 rfl (lv_at hl 1 rfl) ?_
  refine lv_iconst (v := (4 : Int32)) hx hb dX12_mayHear_2 (by decide) ?_
  obtain ⟨r_1, I_2, J_3, hq_4, hf⟩ := yb_b3_some hf
  refine x_calli X hK hw (c12_caseOf l D cz ev mb hq_4) (ml_mem0 mb) (ml_S0 mb) cpX12.1 vw_X12_331 ⟨Nat.le_of_ble_eq_true rfl, Nat.le_of_ble_eq_true rfl⟩ rfl rfl (Nat.le_of_ble_eq_true rfl) hl.1 ⟨Nat.le_refl _, Nat.le_refl _⟩ dX12_mayHear_3 (fun H locs hw => ?_)
  refine lv_if_ge (tgt := 32) hx hb dX12_mayHear_6 (by decide) (fun c_5 => ?_) (fun c_5 => ?_)
  · have hf := yb_pos c_5 hf
    refine lv_iconst (v := (0 : Int32)) hx hb dX12_mayHear_32 (by decide) ?_
    exact yb_retz hfin (by decide) hf hw dX12_mayHear_33
  · have hf := yb_neg c_5 hf
    refine lv_aload_n hx hb dX12_mayHear_9 rfl (lv_at hl 0 rfl) ?_
    refine lv_iload_n hx hb dX12_mayHear_10 rfl (lv_at hl 2 rfl) ?_
    obtain ⟨r_6, I_7, J_8, hq_9, hf⟩ := yb_b3_some hf
    refine x_calli X hK hw (c12_hearsNow l D cz ev mb hq_9) (ml_mem0 mb) (ml_S0 mb) cpX12.1 vw_X12_344 ⟨Nat.le_of_ble_eq_true rfl, Nat.le_of_ble_eq_true rfl⟩ rfl rfl (Nat.le_of_ble_eq_true rfl) hl.1 ⟨Nat.le_refl _, Nat.le_refl _⟩ dX12_mayHear_11 (fun H locs hw => ?_)
    refine lv_if_ge (tgt := 32) hx hb dX12_mayHear_14 (by decide) (fun c_10 => ?_) (fun c_10 => ?_)
    · have hf := yb_pos c_10 hf
      refine lv_iconst (v := (0 : Int32)) hx hb dX12_mayHear_32 (by decide) ?_
      exact yb_retz hfin (by decide) hf hw dX12_mayHear_33
    · have hf := yb_neg c_10 hf
      refine lv_aload_n hx hb dX12_mayHear_17 rfl (lv_at hl 0 rfl) ?_
      refine lv_iload_n hx hb dX12_mayHear_18 rfl (lv_at hl 1 rfl) ?_
      refine lv_iload_n hx hb dX12_mayHear_19 rfl (lv_at hl 2 rfl) ?_
      refine lv_aload_n hx hb dX12_mayHear_20 rfl (lv_at hl 0 rfl) ?_
      refine x_getR X hK hw (ml_mem0 mb) (ml_S0 mb) cpX12 20 (by decide) rfl (ml_R mb 20 rfl) tw_1271 dX12_mayHear_21 ?_
      refine lv_iconst (v := (4 : Int32)) hx hb dX12_mayHear_24 (by decide) ?_
      refine x_iald X hK hw (ml_mem mb 10 (by decide)) (ml_S mb 10 rfl) (by decide) rfl dX12_mayHear_25 ?_
      obtain ⟨r_11, I_12, J_13, hq_14, hf⟩ := yb_b3_some hf
      refine x_calli X hK hw (c12_canHear l D cz ev mb hq_14) (ml_mem0 mb) (ml_S0 mb) cpX12.1 vw_X12_354 ⟨Nat.le_of_ble_eq_true rfl, Nat.le_of_ble_eq_true rfl⟩ rfl rfl (Nat.le_of_ble_eq_true rfl) hl.1 ⟨Nat.le_refl _, Nat.le_refl _⟩ dX12_mayHear_26 (fun H locs hw => ?_)
      refine lv_if_ne (tgt := 34) hx hb dX12_mayHear_29 (by decide) (fun c_15 => ?_) (fun c_15 => ?_)
      · have hf := yb_neg c_15 hf
        refine lv_aload_n hx hb dX12_mayHear_34 rfl (lv_at hl 0 rfl) ?_
        refine lv_iload_n hx hb dX12_mayHear_35 rfl (lv_at hl 1 rfl) ?_
        refine lv_bipush (v := (9 : Int32)) hx hb dX12_mayHear_36 (by decide) ?_
        obtain ⟨r_16, I_17, J_18, hq_19, hf⟩ := yb_b3_some hf
        refine x_calli X hK hw (c12_caseOf l D cz ev mb hq_19) (ml_mem0 mb) (ml_S0 mb) cpX12.1 vw_X12_331 ⟨Nat.le_of_ble_eq_true rfl, Nat.le_of_ble_eq_true rfl⟩ rfl rfl (Nat.le_of_ble_eq_true rfl) hl.1 ⟨Nat.le_refl _, Nat.le_refl _⟩ dX12_mayHear_38 (fun H locs hw => ?_)
        refine lv_if_eq (tgt := 59) hx hb dX12_mayHear_41 (by decide) (fun c_20 => ?_) (fun c_20 => ?_)
        · have hf := yb_pos c_20 hf
          refine lv_iconst (v := (1 : Int32)) hx hb dX12_mayHear_59 (by decide) ?_
          refine lv_goto (tgt := 64) hx hb dX12_mayHear_60 (by decide) ?_
          exact yb_retz hfin (by decide) hf hw dX12_mayHear_64
        · have hf := yb_neg c_20 hf
          refine lv_aload_n hx hb dX12_mayHear_44 rfl (lv_at hl 0 rfl) ?_
          refine lv_iload_n hx hb dX12_mayHear_45 rfl (lv_at hl 2 rfl) ?_
          refine lv_aload_n hx hb dX12_mayHear_46 rfl (lv_at hl 0 rfl) ?_
          refine lv_iload_n hx hb dX12_mayHear_47 rfl (lv_at hl 1 rfl) ?_
          refine lv_bipush (v := (6 : Int32)) hx hb dX12_mayHear_48 (by decide) ?_
          obtain ⟨r_21, I_22, J_23, hq_24, hf⟩ := yb_b3_some hf
          refine x_calli X hK hw (c12_caseOf l D cz ev mb hq_24) (ml_mem0 mb) (ml_S0 mb) cpX12.1 vw_X12_331 ⟨Nat.le_of_ble_eq_true rfl, Nat.le_of_ble_eq_true rfl⟩ rfl rfl (Nat.le_of_ble_eq_true rfl) hl.1 ⟨Nat.le_refl _, Nat.le_refl _⟩ dX12_mayHear_50 (fun H locs hw => ?_)
          obtain ⟨r_25, I_26, J_27, hq_28, hf⟩ := yb_b3_some hf
          refine x_calli X hK hw (c12_isYounger l D cz ev mb hq_28) (ml_mem0 mb) (ml_S0 mb) cpX12.1 vw_X12_319 ⟨Nat.le_of_ble_eq_true rfl, Nat.le_of_ble_eq_true rfl⟩ rfl rfl (Nat.le_of_ble_eq_true rfl) hl.1 ⟨Nat.le_refl _, Nat.le_refl _⟩ dX12_mayHear_53 (fun H locs hw => ?_)
          refine lv_if_eq (tgt := 63) hx hb dX12_mayHear_56 (by decide) (fun c_29 => ?_) (fun c_29 => ?_)
          · have hf := yb_pos c_29 hf
            refine lv_iconst (v := (0 : Int32)) hx hb dX12_mayHear_63 (by decide) ?_
            exact yb_retz hfin (by decide) hf hw dX12_mayHear_64
          · have hf := yb_neg c_29 hf
            refine lv_iconst (v := (1 : Int32)) hx hb dX12_mayHear_59 (by decide) ?_
            refine lv_goto (tgt := 64) hx hb dX12_mayHear_60 (by decide) ?_
            exact yb_retz hfin (by decide) hf hw dX12_mayHear_64
      · have hf := yb_pos c_15 hf
        refine lv_iconst (v := (0 : Int32)) hx hb dX12_mayHear_32 (by decide) ?_
        exact yb_retz hfin (by decide) hf hw dX12_mayHear_33
set_option maxHeartbeats 4000000 in
set_option maxRecDepth 100000 in
theorem c12_begins (l : Launch) (D : va_G) (cz : Nat → ClassId) (ev : Nat × Nat × Nat) (mb : Nat) {N : Nat} {x1 : Int32} {x2 : Int32} {I : IT} {J : JT} {r : Int32} {I1 : IT} {J1 : JT} (hf : f12_begins N mb x1 x2 I J = some (r, I1, J1)) : MTi l D cz ev yX12_begins cX12_begins 5 (some .int) 5 129 [.ref mb, .int x1, .int x2] (mlL mb) (mlS mb) (mlR mb) I J r I1 J1 := by
  unfold f12_begins at hf
  refine MTi_of (by decide) (Nat.le_of_ble_eq_true rfl) ?_
  intro p e s m args below meth c Q ls X hK hw hl hfin
  have X : CallFix p m c cX12_begins 5 s args gw RX12 := X
  have hx := X.1
  have hb := X.2.1
  have hl : lv_has ls 5 [(0, .ref mb), (1, .int x1), (2, .int x2)] := hl
  refine lv_bipush (v := (45 : Int32)) hx hb dX12_begins_0 (by decide) ?_
  refine lv_bipush (v := (11 : Int32)) hx hb dX12_begins_2 (by decide) ?_
  refine lv_iload_n hx hb dX12_begins_4 rfl (lv_at hl 1 rfl) ?_
  refine lv_imul hx hb dX12_begins_5 ?_
  refine lv_iadd hx hb dX12_begins_6 ?_
  refine lv_topi (fun x3_1 ex3_1 => ?_)
  have hf := yb_let_to ex3_1 hf
  refine lv_istore_n (lv' := [(3, .int x3_1), (0, .ref mb), (1, .int x1), (2, .int x2)]) hx hb dX12_begins_7 rfl hl (by decide) rfl (fun ls hl => ?_)
  refine lv_aload_n hx hb dX12_begins_8 rfl (lv_at hl 1 rfl) ?_
  refine lv_iload_n hx hb dX12_begins_9 rfl (lv_at hl 2 rfl) ?_
  refine lv_iload_n hx hb dX12_begins_10 rfl (lv_at hl 3 rfl) ?_
  refine lv_aload_n hx hb dX12_begins_11 rfl (lv_at hl 1 rfl) ?_
  refine x_getR X hK hw (ml_mem0 mb) (ml_S0 mb) cpX12 20 (by decide) rfl (ml_R mb 20 rfl) tw_1271 dX12_begins_12 ?_
  refine lv_iconst (v := (4 : Int32)) hx hb dX12_begins_15 (by decide) ?_
  refine x_iald X hK hw (ml_mem mb 10 (by decide)) (ml_S mb 10 rfl) (by decide) rfl dX12_begins_16 ?_
  obtain ⟨r_2, I_3, J_4, hq_5, hf⟩ := yb_b3_some hf
  refine x_calli X hK hw (c12_rightOf l D cz ev mb hq_5) (ml_mem0 mb) (ml_S0 mb) cpX12.1 vw_X12_373 ⟨Nat.le_of_ble_eq_true rfl, Nat.le_of_ble_eq_true rfl⟩ rfl rfl (Nat.le_of_ble_eq_true rfl) hl.1 ⟨Nat.le_refl _, Nat.le_refl _⟩ dX12_begins_17 (fun H locs hw => ?_)
  refine lv_istore (lv' := [(4, .int r_2), (3, .int x3_1), (0, .ref mb), (1, .int x1), (2, .int x2)]) hx hb dX12_begins_20 hl (by decide) rfl (fun ls hl => ?_)
  refine lv_aload_n hx hb dX12_begins_22 rfl (lv_at hl 2 rfl) ?_
  refine x_getR X hK hw (ml_mem0 mb) (ml_S0 mb) cpX12 20 (by decide) rfl (ml_R mb 20 rfl) tw_1271 dX12_begins_23 ?_
  refine lv_iload_n hx hb dX12_begins_26 rfl (lv_at hl 1 rfl) ?_
  refine lv_iconst (v := (4 : Int32)) hx hb dX12_begins_27 (by decide) ?_
  refine lv_iadd hx hb dX12_begins_28 ?_
  refine lv_iload_n hx hb dX12_begins_29 rfl (lv_at hl 4 rfl) ?_
  obtain ⟨hi_6, hf⟩ := yb_ck_some hf
  refine x_iast X hK hw (ml_mem mb 10 (by decide)) (ml_S mb 10 rfl) hi_6 rfl dX12_begins_30 (fun H locs hw => ?_)
  obtain ⟨I_7, eI_7, hf⟩ := yb_let_ex hf
  have hw := yb_wI eI_7 hw
  refine lv_aload_n hx hb dX12_begins_31 rfl (lv_at hl 2 rfl) ?_
  refine x_getR X hK hw (ml_mem0 mb) (ml_S0 mb) cpX12 20 (by decide) rfl (ml_R mb 20 rfl) tw_1271 dX12_begins_32 ?_
  refine lv_iload_n hx hb dX12_begins_35 rfl (lv_at hl 1 rfl) ?_
  refine lv_iconst (v := (5 : Int32)) hx hb dX12_begins_36 (by decide) ?_
  refine lv_iadd hx hb dX12_begins_37 ?_
  refine lv_aload_n hx hb dX12_begins_38 rfl (lv_at hl 2 rfl) ?_
  refine x_getR X hK hw (ml_mem0 mb) (ml_S0 mb) cpX12 20 (by decide) rfl (ml_R mb 20 rfl) tw_1271 dX12_begins_39 ?_
  refine lv_iload_n hx hb dX12_begins_42 rfl (lv_at hl 1 rfl) ?_
  refine lv_iconst (v := (2 : Int32)) hx hb dX12_begins_43 (by decide) ?_
  refine lv_iadd hx hb dX12_begins_44 ?_
  obtain ⟨hi_8, hf⟩ := yb_ck_some hf
  refine x_iald X hK hw (ml_mem mb 10 (by decide)) (ml_S mb 10 rfl) hi_8 rfl dX12_begins_45 ?_
  obtain ⟨hi_9, hf⟩ := yb_ck_some hf
  refine x_iast X hK hw (ml_mem mb 10 (by decide)) (ml_S mb 10 rfl) hi_9 rfl dX12_begins_46 (fun H locs hw => ?_)
  obtain ⟨I_10, eI_10, hf⟩ := yb_let_ex hf
  have hw := yb_wI eI_10 hw
  refine lv_aload_n hx hb dX12_begins_47 rfl (lv_at hl 2 rfl) ?_
  refine x_getR X hK hw (ml_mem0 mb) (ml_S0 mb) cpX12 20 (by decide) rfl (ml_R mb 20 rfl) tw_1271 dX12_begins_48 ?_
  refine lv_iload_n hx hb dX12_begins_51 rfl (lv_at hl 1 rfl) ?_
  refine lv_bipush (v := (10 : Int32)) hx hb dX12_begins_52 (by decide) ?_
  refine lv_iadd hx hb dX12_begins_54 ?_
  refine lv_iload hx hb dX12_begins_55 (lv_at hl 0 rfl) ?_
  obtain ⟨hi_11, hf⟩ := yb_ck_some hf
  refine x_iast X hK hw (ml_mem mb 10 (by decide)) (ml_S mb 10 rfl) hi_11 rfl dX12_begins_57 (fun H locs hw => ?_)
  obtain ⟨I_12, eI_12, hf⟩ := yb_let_ex hf
  have hw := yb_wI eI_12 hw
  refine lv_iload hx hb dX12_begins_58 (lv_at hl 0 rfl) ?_
  exact yb_reti hfin hf hw dX12_begins_60
set_option maxHeartbeats 4000000 in
set_option maxRecDepth 100000 in
theorem c12_hear (l : Launch) (D : va_G) (cz : Nat → ClassId) (ev : Nat × Nat × Nat) (mb : Nat) {N : Nat} {x1 : Int32} {x2 : Int32} {I : IT} {J : JT} {r : Int32} {I1 : IT} {J1 : JT} (hf : f12_hear N mb x1 x2 I J = some (r, I1, J1)) : MTi l D cz ev yX12_hear cX12_hear 3 (some .int) 6 153 [.ref mb, .int x1, .int x2] (mlL mb) (mlS mb) (mlR mb) I J r I1 J1 := by
  unfold f12_hear at hf
  refine MTi_of (by decide) (Nat.le_of_ble_eq_true rfl) ?_
  intro p e s m args below meth c Q ls X hK hw hl hfin
  have X : CallFix p m c cX12_hear 3 s args gw RX12 := X
  have hx := X.1
  have hb := X.2.1
  have hl : lv_has ls 3 [(0, .ref mb), (1, .int x1), (2, .int x2)] := hl
  refine lv_aload_n hx hb dX12_hear_0 rfl (lv_at hl 0 rfl) ?_
  refine lv_iload_n hx hb dX12_hear_1 rfl (lv_at hl 1 rfl) ?_
  obtain ⟨r_1, I_2, J_3, hq_4, hf⟩ := yb_b3_some hf
  refine x_calli X hK hw (c12_isCase l D cz ev mb hq_4) (ml_mem0 mb) (ml_S0 mb) cpX12.1 vw_X12_347 ⟨Nat.le_of_ble_eq_true rfl, Nat.le_of_ble_eq_true rfl⟩ rfl rfl (Nat.le_of_ble_eq_true rfl) hl.1 ⟨Nat.le_refl _, Nat.le_refl _⟩ dX12_hear_2 (fun H locs hw => ?_)
  refine lv_if_eq (tgt := 25) hx hb dX12_hear_5 (by decide) (fun c_5 => ?_) (fun c_5 => ?_)
  · have hf := yb_pos c_5 hf
    refine lv_iconst (v := (-1 : Int32)) hx hb dX12_hear_25 (by decide) ?_
    exact yb_reti hfin hf hw dX12_hear_26
  · have hf := yb_neg c_5 hf
    refine lv_aload_n hx hb dX12_hear_8 rfl (lv_at hl 0 rfl) ?_
    refine lv_iload_n hx hb dX12_hear_9 rfl (lv_at hl 2 rfl) ?_
    obtain ⟨r_6, I_7, J_8, hq_9, hf⟩ := yb_b3_some hf
    refine x_calli X hK hw (c12_isPerson l D cz ev mb hq_9) (ml_mem0 mb) (ml_S0 mb) cpX12.1 vw_X12_341 ⟨Nat.le_of_ble_eq_true rfl, Nat.le_of_ble_eq_true rfl⟩ rfl rfl (Nat.le_of_ble_eq_true rfl) hl.1 ⟨Nat.le_refl _, Nat.le_refl _⟩ dX12_hear_10 (fun H locs hw => ?_)
    refine lv_if_eq (tgt := 25) hx hb dX12_hear_13 (by decide) (fun c_10 => ?_) (fun c_10 => ?_)
    · have hf := yb_pos c_10 hf
      refine lv_iconst (v := (-1 : Int32)) hx hb dX12_hear_25 (by decide) ?_
      exact yb_reti hfin hf hw dX12_hear_26
    · have hf := yb_neg c_10 hf
      refine lv_aload_n hx hb dX12_hear_16 rfl (lv_at hl 0 rfl) ?_
      refine lv_iload_n hx hb dX12_hear_17 rfl (lv_at hl 1 rfl) ?_
      refine lv_iload_n hx hb dX12_hear_18 rfl (lv_at hl 2 rfl) ?_
      obtain ⟨r_11, I_12, J_13, hq_14, hf⟩ := yb_b3_some hf
      refine x_calli X hK hw (c12_mayHear l D cz ev mb hq_14) (ml_mem0 mb) (ml_S0 mb) cpX12.1 vw_X12_392 ⟨Nat.le_of_ble_eq_true rfl, Nat.le_of_ble_eq_true rfl⟩ rfl rfl (Nat.le_of_ble_eq_true rfl) hl.1 ⟨Nat.le_refl _, Nat.le_refl _⟩ dX12_hear_19 (fun H locs hw => ?_)
      refine lv_if_ne (tgt := 27) hx hb dX12_hear_22 (by decide) (fun c_15 => ?_) (fun c_15 => ?_)
      · have hf := yb_neg c_15 hf
        refine lv_aload_n hx hb dX12_hear_27 rfl (lv_at hl 0 rfl) ?_
        obtain ⟨r_16, I_17, J_18, hq_19, hf⟩ := yb_b3_some hf
        refine x_callv X hK hw (c12_keepsAct l D cz ev mb hq_19) (ml_mem0 mb) (ml_S0 mb) cpX12.1 vw_X12_383 ⟨Nat.le_of_ble_eq_true rfl, Nat.le_of_ble_eq_true rfl⟩ rfl rfl (Nat.le_of_ble_eq_true rfl) hl.1 ⟨Nat.le_refl _, Nat.le_refl _⟩ dX12_hear_28 (fun H locs hw => ?_)
        refine lv_aload_n hx hb dX12_hear_31 rfl (lv_at hl 0 rfl) ?_
        refine lv_iload_n hx hb dX12_hear_32 rfl (lv_at hl 1 rfl) ?_
        refine lv_iload_n hx hb dX12_hear_33 rfl (lv_at hl 2 rfl) ?_
        obtain ⟨r_20, I_21, J_22, hq_23, hf⟩ := yb_b3_some hf
        refine x_calli X hK hw (c12_begins l D cz ev mb hq_23) (ml_mem0 mb) (ml_S0 mb) cpX12.1 vw_X12_395 ⟨Nat.le_of_ble_eq_true rfl, Nat.le_of_ble_eq_true rfl⟩ rfl rfl (Nat.le_of_ble_eq_true rfl) hl.1 ⟨Nat.le_refl _, Nat.le_refl _⟩ dX12_hear_34 (fun H locs hw => ?_)
        exact yb_reti hfin hf hw dX12_hear_37
      · have hf := yb_pos c_15 hf
        refine lv_iconst (v := (-1 : Int32)) hx hb dX12_hear_25 (by decide) ?_
        exact yb_reti hfin hf hw dX12_hear_26
set_option maxHeartbeats 4000000 in
set_option maxRecDepth 100000 in
theorem c12_teach (l : Launch) (D : va_G) (cz : Nat → ClassId) (ev : Nat × Nat × Nat) (mb : Nat) {N : Nat} {x1 : Int32} {I : IT} {J : JT} {r : Int32} {I1 : IT} {J1 : JT} (hf : f12_teach N mb x1 I J = some (r, I1, J1)) : MTi l D cz ev yX12_teach cX12_teach 2 (some .int) 1 22 [.ref mb, .int x1] (mlL mb) (mlS mb) (mlR mb) I J r I1 J1 := by
  unfold f12_teach at hf
  refine MTi_of (by decide) (Nat.le_of_ble_eq_true rfl) ?_
  intro p e s m args below meth c Q ls X hK hw hl hfin
  have X : CallFix p m c cX12_teach 2 s args gw RX12 := X
  have hx := X.1
  have hb := X.2.1
  have hl : lv_has ls 2 [(0, .ref mb), (1, .int x1)] := hl
  refine lv_aload_n hx hb dX12_teach_0 rfl (lv_at hl 0 rfl) ?_
  refine lv_iload_n hx hb dX12_teach_1 rfl (lv_at hl 1 rfl) ?_
  obtain ⟨r_1, I_2, J_3, hq_4, hf⟩ := yb_b3_some hf
  refine x_calli X hK hw (c12_isPerson l D cz ev mb hq_4) (ml_mem0 mb) (ml_S0 mb) cpX12.1 vw_X12_341 ⟨Nat.le_of_ble_eq_true rfl, Nat.le_of_ble_eq_true rfl⟩ rfl rfl (Nat.le_of_ble_eq_true rfl) hl.1 ⟨Nat.le_refl _, Nat.le_refl _⟩ dX12_teach_2 (fun H locs hw => ?_)
  refine lv_if_eq (tgt := 19) hx hb dX12_teach_5 (by decide) (fun c_5 => ?_) (fun c_5 => ?_)
  · have hf := yb_pos c_5 hf
    refine lv_iconst (v := (-1 : Int32)) hx hb dX12_teach_19 (by decide) ?_
    exact yb_reti hfin hf hw dX12_teach_20
  · have hf := yb_neg c_5 hf
    refine lv_aload_n hx hb dX12_teach_8 rfl (lv_at hl 0 rfl) ?_
    refine lv_iload_n hx hb dX12_teach_9 rfl (lv_at hl 1 rfl) ?_
    refine lv_iconst (v := (1 : Int32)) hx hb dX12_teach_10 (by decide) ?_
    obtain ⟨r_6, I_7, J_8, hq_9, hf⟩ := yb_b3_some hf
    refine x_calli X hK hw (c12_personOf l D cz ev mb hq_9) (ml_mem0 mb) (ml_S0 mb) cpX12.1 vw_X12_312 ⟨Nat.le_of_ble_eq_true rfl, Nat.le_of_ble_eq_true rfl⟩ rfl rfl (Nat.le_of_ble_eq_true rfl) hl.1 ⟨Nat.le_refl _, Nat.le_refl _⟩ dX12_teach_11 (fun H locs hw => ?_)
    refine lv_bipush (v := (9 : Int32)) hx hb dX12_teach_14 (by decide) ?_
    refine lv_icmp_ne (tgt := 21) hx hb dX12_teach_16 (by decide) (fun c_10 => ?_) (fun c_10 => ?_)
    · have hf := yb_neg c_10 hf
      refine lv_aload_n hx hb dX12_teach_21 rfl (lv_at hl 0 rfl) ?_
      obtain ⟨r_11, I_12, J_13, hq_14, hf⟩ := yb_b3_some hf
      refine x_callv X hK hw (c12_keepsAct l D cz ev mb hq_14) (ml_mem0 mb) (ml_S0 mb) cpX12.1 vw_X12_383 ⟨Nat.le_of_ble_eq_true rfl, Nat.le_of_ble_eq_true rfl⟩ rfl rfl (Nat.le_of_ble_eq_true rfl) hl.1 ⟨Nat.le_refl _, Nat.le_refl _⟩ dX12_teach_22 (fun H locs hw => ?_)
      refine lv_aload_n hx hb dX12_teach_25 rfl (lv_at hl 0 rfl) ?_
      refine x_getR X hK hw (ml_mem0 mb) (ml_S0 mb) cpX12 20 (by decide) rfl (ml_R mb 20 rfl) tw_1271 dX12_teach_26 ?_
      refine lv_bipush (v := (10 : Int32)) hx hb dX12_teach_29 (by decide) ?_
      refine lv_iconst (v := (5 : Int32)) hx hb dX12_teach_31 (by decide) ?_
      refine lv_iload_n hx hb dX12_teach_32 rfl (lv_at hl 1 rfl) ?_
      refine lv_imul hx hb dX12_teach_33 ?_
      refine lv_iadd hx hb dX12_teach_34 ?_
      refine lv_iconst (v := (1 : Int32)) hx hb dX12_teach_35 (by decide) ?_
      refine lv_iadd hx hb dX12_teach_36 ?_
      refine lv_dup2_11 hx hb dX12_teach_37 rfl rfl ?_
      obtain ⟨hi_15, hf⟩ := yb_ck_some hf
      refine x_iald X hK hw (ml_mem mb 10 (by decide)) (ml_S mb 10 rfl) hi_15 rfl dX12_teach_38 ?_
      refine lv_iconst (v := (1 : Int32)) hx hb dX12_teach_39 (by decide) ?_
      refine lv_iadd hx hb dX12_teach_40 ?_
      refine x_iast X hK hw (ml_mem mb 10 (by decide)) (ml_S mb 10 rfl) hi_15 rfl dX12_teach_41 (fun H locs hw => ?_)
      obtain ⟨I_16, eI_16, hf⟩ := yb_let_ex hf
      have hw := yb_wI eI_16 hw
      refine lv_aload_n hx hb dX12_teach_42 rfl (lv_at hl 0 rfl) ?_
      refine lv_iload_n hx hb dX12_teach_43 rfl (lv_at hl 1 rfl) ?_
      refine lv_iconst (v := (1 : Int32)) hx hb dX12_teach_44 (by decide) ?_
      obtain ⟨r_17, I_18, J_19, hq_20, hf⟩ := yb_b3_some hf
      refine x_calli X hK hw (c12_personOf l D cz ev mb hq_20) (ml_mem0 mb) (ml_S0 mb) cpX12.1 vw_X12_312 ⟨Nat.le_of_ble_eq_true rfl, Nat.le_of_ble_eq_true rfl⟩ rfl rfl (Nat.le_of_ble_eq_true rfl) hl.1 ⟨Nat.le_refl _, Nat.le_refl _⟩ dX12_teach_45 (fun H locs hw => ?_)
      exact yb_reti hfin hf hw dX12_teach_48
    · have hf := yb_pos c_10 hf
      refine lv_iconst (v := (-1 : Int32)) hx hb dX12_teach_19 (by decide) ?_
      exact yb_reti hfin hf hw dX12_teach_20
set_option maxHeartbeats 4000000 in
set_option maxRecDepth 100000 in
theorem w12_soonest_L25 {p : Program} {l : Launch} {e : Env} {s : State} {m : MethodId} {args : Array Value} {below : List Frame} {meth : Method} {c : Code} {Q : State → Prop} {D : va_G} {cz : Nat → ClassId} {A : Nat → Prop} {ev : Nat × Nat × Nat} {mb : Nat} (X : CallFix p m c cX12_soonest 4 s args gw RX12) (hK : KX D cz ev A s) {N : Nat} {x1 : Int32} {x2 : Int32} {rM : Int32} {IM : IT} {JM : JT} :
    ∀ (n : Nat) (x3 : Int32) (I : IT) (J : JT) (q : (Int32 ⊕ (Unit))) (I1 : IT) (J1 : JT) (H : Heap) (locs : List Loc) (ls : Array Slot), f12_soonest_L25 N mb x1 x2 n x3 I J = some (q, I1, J1) → WX D cz A (mlL mb) (mlS mb) (mlR mb) s.heap I J H locs → lv_has ls 4 [(0, .ref mb), (1, .int x1), (2, .int x2), (3, .int x3)] →
    (∀ v, q = .inl v → some (v, I1, J1) = some (rM, IM, JM)) → (∀ (H : Heap) (locs : List Loc) (ls : Array Slot) (pc : Nat), WX D cz A (mlL mb) (mlS mb) (mlR mb) s.heap IM JM H locs → decode cX12_soonest pc = .ok (.ireturn, 1) → W p l e (rmX 5 114) s m args below meth c H locs 0 0 Q (F0 m pc ls [.int rM])) →
    (∀ xq, q = .inr xq → ∀ (H : Heap) (locs : List Loc) (ls : Array Slot), WX D cz A (mlL mb) (mlS mb) (mlR mb) s.heap I1 J1 H locs → lv_has ls 4 [] → W p l e (rmX 5 114) s m args below meth c H locs 0 0 Q (F0 m 56 ls [])) →
    W p l e (rmX 5 114) s m args below meth c H locs 0 0 Q (F0 m 25 ls []) := by
  have hx := X.1
  have hb := X.2.1
  intro n
  induction n with
  | zero =>
    intro x3 I J q I1 J1 H locs ls hf
    rw [f12_soonest_L25] at hf
    cases hf
  | succ n ih =>
    intro x3 I J q I1 J1 H locs ls hf hw hl hret hfin hexit
    rw [f12_soonest_L25] at hf
    refine lv_iload_n hx hb dX12_soonest_25 rfl (lv_at hl 3 rfl) ?_
    refine lv_aload_n hx hb dX12_soonest_26 rfl (lv_at hl 0 rfl) ?_
    refine x_getR X hK hw (ml_mem0 mb) (ml_S0 mb) cpX12 20 (by decide) rfl (ml_R mb 20 rfl) tw_1271 dX12_soonest_27 ?_
    refine lv_iconst (v := (4 : Int32)) hx hb dX12_soonest_30 (by decide) ?_
    refine x_iald X hK hw (ml_mem mb 10 (by decide)) (ml_S mb 10 rfl) (by decide) rfl dX12_soonest_31 ?_
    refine lv_bipush (v := (100 : Int32)) hx hb dX12_soonest_32 (by decide) ?_
    refine lv_iadd hx hb dX12_soonest_34 ?_
    refine lv_icmp_ge (tgt := 56) hx hb dX12_soonest_35 (by decide) (fun c_12 => ?_) (fun c_12 => ?_)
    · have hf := yb_pos c_12 hf
      obtain ⟨rfl, rfl, rfl⟩ := yb_inj hf
      exact hexit _ rfl _ _ _ hw (lv_sub hl [] rfl)
    · have hf := yb_neg c_12 hf
      refine lv_aload_n hx hb dX12_soonest_38 rfl (lv_at hl 0 rfl) ?_
      refine lv_iload_n hx hb dX12_soonest_39 rfl (lv_at hl 1 rfl) ?_
      refine lv_iload_n hx hb dX12_soonest_40 rfl (lv_at hl 2 rfl) ?_
      refine lv_iload_n hx hb dX12_soonest_41 rfl (lv_at hl 3 rfl) ?_
      obtain ⟨r_13, I_14, J_15, hq_16, hf⟩ := yb_b3_some hf
      refine x_calli X hK hw (c12_canHear l D cz ev mb hq_16) (ml_mem0 mb) (ml_S0 mb) cpX12.1 vw_X12_354 ⟨Nat.le_of_ble_eq_true rfl, Nat.le_of_ble_eq_true rfl⟩ rfl rfl (Nat.le_of_ble_eq_true rfl) hl.1 ⟨Nat.le_refl _, Nat.le_refl _⟩ dX12_soonest_42 (fun H locs hw => ?_)
      refine lv_if_eq (tgt := 50) hx hb dX12_soonest_45 (by decide) (fun c_17 => ?_) (fun c_17 => ?_)
      · have hf := yb_pos c_17 hf
        obtain ⟨x3_18, ex3_18, hf⟩ := yb_let_ex hf
        refine lv_iinc (v := x3_18) (lv' := [(3, .int x3_18), (0, .ref mb), (1, .int x1), (2, .int x2)]) hx hb dX12_soonest_50 hl (k := 3) rfl (by rw [ex3_18]; rfl) (by decide) rfl (fun ls hl => ?_)
        refine lv_goto (tgt := 25) hx hb dX12_soonest_53 (by decide) ?_
        exact ih _ _ _ _ _ _ _ _ _ hf hw (lv_sub hl [1, 2, 3, 0] rfl) hret hfin hexit
      · have hf := yb_neg c_17 hf
        refine lv_iload_n hx hb dX12_soonest_48 rfl (lv_at hl 3 rfl) ?_
        exact yb_reti hfin (yb_inl hret hf) hw dX12_soonest_49
set_option maxHeartbeats 4000000 in
set_option maxRecDepth 100000 in
theorem c12_soonest (l : Launch) (D : va_G) (cz : Nat → ClassId) (ev : Nat × Nat × Nat) (mb : Nat) {N : Nat} {x1 : Int32} {x2 : Int32} {I : IT} {J : JT} {r : Int32} {I1 : IT} {J1 : JT} (hf : f12_soonest N mb x1 x2 I J = some (r, I1, J1)) : MTi l D cz ev yX12_soonest cX12_soonest 4 (some .int) 5 114 [.ref mb, .int x1, .int x2] (mlL mb) (mlS mb) (mlR mb) I J r I1 J1 := by
  unfold f12_soonest at hf
  refine MTi_of (by decide) (Nat.le_of_ble_eq_true rfl) ?_
  intro p e s m args below meth c Q ls X hK hw hl hfin
  have X : CallFix p m c cX12_soonest 4 s args gw RX12 := X
  have hx := X.1
  have hb := X.2.1
  have hl : lv_has ls 4 [(0, .ref mb), (1, .int x1), (2, .int x2)] := hl
  refine lv_aload_n hx hb dX12_soonest_0 rfl (lv_at hl 0 rfl) ?_
  refine lv_iload_n hx hb dX12_soonest_1 rfl (lv_at hl 1 rfl) ?_
  obtain ⟨r_1, I_2, J_3, hq_4, hf⟩ := yb_b3_some hf
  refine x_calli X hK hw (c12_isCase l D cz ev mb hq_4) (ml_mem0 mb) (ml_S0 mb) cpX12.1 vw_X12_347 ⟨Nat.le_of_ble_eq_true rfl, Nat.le_of_ble_eq_true rfl⟩ rfl rfl (Nat.le_of_ble_eq_true rfl) hl.1 ⟨Nat.le_refl _, Nat.le_refl _⟩ dX12_soonest_2 (fun H locs hw => ?_)
  refine lv_if_eq (tgt := 16) hx hb dX12_soonest_5 (by decide) (fun c_5 => ?_) (fun c_5 => ?_)
  · have hf := yb_pos c_5 hf
    refine lv_iconst (v := (-1 : Int32)) hx hb dX12_soonest_16 (by decide) ?_
    exact yb_reti hfin hf hw dX12_soonest_17
  · have hf := yb_neg c_5 hf
    refine lv_aload_n hx hb dX12_soonest_8 rfl (lv_at hl 0 rfl) ?_
    refine lv_iload_n hx hb dX12_soonest_9 rfl (lv_at hl 2 rfl) ?_
    obtain ⟨r_6, I_7, J_8, hq_9, hf⟩ := yb_b3_some hf
    refine x_calli X hK hw (c12_isPerson l D cz ev mb hq_9) (ml_mem0 mb) (ml_S0 mb) cpX12.1 vw_X12_341 ⟨Nat.le_of_ble_eq_true rfl, Nat.le_of_ble_eq_true rfl⟩ rfl rfl (Nat.le_of_ble_eq_true rfl) hl.1 ⟨Nat.le_refl _, Nat.le_refl _⟩ dX12_soonest_10 (fun H locs hw => ?_)
    refine lv_if_ne (tgt := 18) hx hb dX12_soonest_13 (by decide) (fun c_10 => ?_) (fun c_10 => ?_)
    · have hf := yb_neg c_10 hf
      refine lv_aload_n hx hb dX12_soonest_18 rfl (lv_at hl 0 rfl) ?_
      refine x_getR X hK hw (ml_mem0 mb) (ml_S0 mb) cpX12 20 (by decide) rfl (ml_R mb 20 rfl) tw_1271 dX12_soonest_19 ?_
      refine lv_iconst (v := (4 : Int32)) hx hb dX12_soonest_22 (by decide) ?_
      refine x_iald X hK hw (ml_mem mb 10 (by decide)) (ml_S mb 10 rfl) (by decide) rfl dX12_soonest_23 ?_
      refine lv_topi (fun x3_11 ex3_11 => ?_)
      have hf := yb_let_to ex3_11 hf
      refine lv_istore_n (lv' := [(3, .int x3_11), (0, .ref mb), (1, .int x1), (2, .int x2)]) hx hb dX12_soonest_24 rfl hl (by decide) rfl (fun ls hl => ?_)
      obtain ⟨q_19, I_20, J_21, hq_22, hf⟩ := yb_b3_some hf
      refine w12_soonest_L25 X hK _ _ _ _ _ _ _ _ _ _ hq_22 hw (lv_sub hl [1, 2, 3, 0] rfl) (fun v hv => by rw [hv] at hf; exact hf) hfin (fun x_24 hx1 H locs ls hw hl => ?_)
      rw [hx1] at hf
      have hf := yb_sm_r hf
      refine lv_bipush (v := (-2 : Int32)) hx hb dX12_soonest_56 (by decide) ?_
      exact yb_reti hfin hf hw dX12_soonest_58
    · have hf := yb_pos c_10 hf
      refine lv_iconst (v := (-1 : Int32)) hx hb dX12_soonest_16 (by decide) ?_
      exact yb_reti hfin hf hw dX12_soonest_17
set_option maxHeartbeats 4000000 in
set_option maxRecDepth 100000 in
theorem c12_spot (l : Launch) (D : va_G) (cz : Nat → ClassId) (ev : Nat × Nat × Nat) (mb : Nat) {x0 : Int32} {x1 : Int32} {x2 : Int32} {I : IT} {J : JT} {r : Int32} {I1 : IT} {J1 : JT} (hf : f12_spot mb x0 x1 x2 I J = some (r, I1, J1)) : MTi l D cz ev yX12_spot cX12_spot 3 (some .int) 0 0 [.int x0, .int x1, .int x2] (mlL mb) (mlS mb) (mlR mb) I J r I1 J1 := by
  unfold f12_spot at hf
  refine MTi_of (by decide) (Nat.le_of_ble_eq_true rfl) ?_
  intro p e s m args below meth c Q ls X hK hw hl hfin
  have X : CallFix p m c cX12_spot 3 s args gw RX12 := X
  have hx := X.1
  have hb := X.2.1
  have hl : lv_has ls 3 [(0, .int x0), (1, .int x1), (2, .int x2)] := hl
  refine lv_iload_n hx hb dX12_spot_0 rfl (lv_at hl 0 rfl) ?_
  refine lv_bipush (v := (7 : Int32)) hx hb dX12_spot_1 (by decide) ?_
  refine lv_imul hx hb dX12_spot_3 ?_
  refine lv_iload_n hx hb dX12_spot_4 rfl (lv_at hl 1 rfl) ?_
  refine lv_iadd hx hb dX12_spot_5 ?_
  refine lv_bipush (v := (100 : Int32)) hx hb dX12_spot_6 (by decide) ?_
  refine lv_imul hx hb dX12_spot_8 ?_
  refine lv_iload_n hx hb dX12_spot_9 rfl (lv_at hl 2 rfl) ?_
  refine lv_iadd hx hb dX12_spot_10 ?_
  exact yb_reti hfin hf hw dX12_spot_11
set_option maxHeartbeats 4000000 in
set_option maxRecDepth 100000 in
theorem w12_fillsOpen_L7 {p : Program} {l : Launch} {e : Env} {s : State} {m : MethodId} {args : Array Value} {below : List Frame} {meth : Method} {c : Code} {Q : State → Prop} {D : va_G} {cz : Nat → ClassId} {A : Nat → Prop} {ev : Nat × Nat × Nat} {mb : Nat} (X : CallFix p m c cX12_fillsOpen 2 s args gw RX12) (hK : KX D cz ev A s) {N : Nat} :
    ∀ (n : Nat) (x1 : Int32) (I : IT) (J : JT) (q : (Unit)) (I1 : IT) (J1 : JT) (H : Heap) (locs : List Loc) (ls : Array Slot), f12_fillsOpen_L7 N mb n x1 I J = some (q, I1, J1) → WX D cz A (mlL mb) (mlS mb) (mlR mb) s.heap I J H locs → lv_has ls 2 [(0, .ref mb), (1, .int x1)] →
    (∀ (H : Heap) (locs : List Loc) (ls : Array Slot), WX D cz A (mlL mb) (mlS mb) (mlR mb) s.heap I1 J1 H locs → lv_has ls 2 [] → W p l e (rmX 1 22) s m args below meth c H locs 0 0 Q (F0 m 65 ls [])) →
    W p l e (rmX 1 22) s m args below meth c H locs 0 0 Q (F0 m 7 ls []) := by
  have hx := X.1
  have hb := X.2.1
  intro n
  induction n with
  | zero =>
    intro x1 I J q I1 J1 H locs ls hf
    rw [f12_fillsOpen_L7] at hf
    cases hf
  | succ n ih =>
    intro x1 I J q I1 J1 H locs ls hf hw hl hexit
    rw [f12_fillsOpen_L7] at hf
    refine lv_iload_n hx hb dX12_fillsOpen_7 rfl (lv_at hl 1 rfl) ?_
    refine lv_aload_n hx hb dX12_fillsOpen_8 rfl (lv_at hl 0 rfl) ?_
    refine x_getR X hK hw (ml_mem0 mb) (ml_S0 mb) cpX12 20 (by decide) rfl (ml_R mb 20 rfl) tw_1271 dX12_fillsOpen_9 ?_
    refine lv_iconst (v := (3 : Int32)) hx hb dX12_fillsOpen_12 (by decide) ?_
    refine x_iald X hK hw (ml_mem mb 10 (by decide)) (ml_S mb 10 rfl) (by decide) rfl dX12_fillsOpen_13 ?_
    refine lv_icmp_ge (tgt := 65) hx hb dX12_fillsOpen_14 (by decide) (fun c_2 => ?_) (fun c_2 => ?_)
    · have hf := yb_pos c_2 hf
      obtain ⟨rfl, rfl, rfl⟩ := yb_inj hf
      exact hexit _ _ _ hw (lv_sub hl [] rfl)
    · have hf := yb_neg c_2 hf
      refine lv_aload_n hx hb dX12_fillsOpen_17 rfl (lv_at hl 0 rfl) ?_
      refine lv_iload_n hx hb dX12_fillsOpen_18 rfl (lv_at hl 1 rfl) ?_
      refine lv_iconst (v := (4 : Int32)) hx hb dX12_fillsOpen_19 (by decide) ?_
      obtain ⟨r_3, I_4, J_5, hq_6, hf⟩ := yb_b3_some hf
      refine x_calli X hK hw (c12_caseOf l D cz ev mb hq_6) (ml_mem0 mb) (ml_S0 mb) cpX12.1 vw_X12_331 ⟨Nat.le_of_ble_eq_true rfl, Nat.le_of_ble_eq_true rfl⟩ rfl rfl (Nat.le_of_ble_eq_true rfl) hl.1 ⟨Nat.le_refl _, Nat.le_refl _⟩ dX12_fillsOpen_20 (fun H locs hw => ?_)
      refine lv_if_ge (tgt := 59) hx hb dX12_fillsOpen_23 (by decide) (fun c_7 => ?_) (fun c_7 => ?_)
      · have hf := yb_pos c_7 hf
        obtain ⟨x1_8, ex1_8, hf⟩ := yb_let_ex hf
        refine lv_iinc (v := x1_8) (lv' := [(1, .int x1_8), (0, .ref mb)]) hx hb dX12_fillsOpen_59 hl (k := 1) rfl (by rw [ex1_8]; rfl) (by decide) rfl (fun ls hl => ?_)
        refine lv_goto (tgt := 7) hx hb dX12_fillsOpen_62 (by decide) ?_
        exact ih _ _ _ _ _ _ _ _ _ hf hw (lv_sub hl [1, 0] rfl) hexit
      · have hf := yb_neg c_7 hf
        refine lv_aload_n hx hb dX12_fillsOpen_26 rfl (lv_at hl 0 rfl) ?_
        refine lv_iload_n hx hb dX12_fillsOpen_27 rfl (lv_at hl 1 rfl) ?_
        refine lv_bipush (v := (9 : Int32)) hx hb dX12_fillsOpen_28 (by decide) ?_
        obtain ⟨r_9, I_10, J_11, hq_12, hf⟩ := yb_b3_some hf
        refine x_calli X hK hw (c12_caseOf l D cz ev mb hq_12) (ml_mem0 mb) (ml_S0 mb) cpX12.1 vw_X12_331 ⟨Nat.le_of_ble_eq_true rfl, Nat.le_of_ble_eq_true rfl⟩ rfl rfl (Nat.le_of_ble_eq_true rfl) hl.1 ⟨Nat.le_refl _, Nat.le_refl _⟩ dX12_fillsOpen_30 (fun H locs hw => ?_)
        refine lv_if_le (tgt := 39) hx hb dX12_fillsOpen_33 (by decide) (fun c_13 => ?_) (fun c_13 => ?_)
        · have hf := yb_pos c_13 hf
          refine lv_aload_n hx hb dX12_fillsOpen_39 rfl (lv_at hl 0 rfl) ?_
          refine x_getR X hK hw (ml_mem0 mb) (ml_S0 mb) cpX12 26 (by decide) rfl (ml_R mb 26 rfl) tw_1277 dX12_fillsOpen_40 ?_
          refine lv_aload_n hx hb dX12_fillsOpen_43 rfl (lv_at hl 0 rfl) ?_
          refine x_getI X hK hw (ml_mem0 mb) (ml_S0 mb) cpX12 25 (by decide) rfl tw_1276 dX12_fillsOpen_44 ?_
          refine lv_iload_n hx hb dX12_fillsOpen_47 rfl (lv_at hl 1 rfl) ?_
          obtain ⟨hi_14, hf⟩ := yb_ck_some hf
          refine x_iast X hK hw (ml_mem mb 12 (by decide)) (ml_S mb 12 rfl) hi_14 rfl dX12_fillsOpen_48 (fun H locs hw => ?_)
          obtain ⟨I_15, eI_15, hf⟩ := yb_let_ex hf
          have hw := yb_wI eI_15 hw
          refine lv_aload_n hx hb dX12_fillsOpen_49 rfl (lv_at hl 0 rfl) ?_
          refine lv_dup hx hb dX12_fillsOpen_50 rfl ?_
          refine x_getI X hK hw (ml_mem0 mb) (ml_S0 mb) cpX12 25 (by decide) rfl tw_1276 dX12_fillsOpen_51 ?_
          refine lv_iconst (v := (1 : Int32)) hx hb dX12_fillsOpen_54 (by decide) ?_
          refine lv_iadd hx hb dX12_fillsOpen_55 ?_
          refine x_putI X hK hw (ml_mem0 mb) (ml_S0 mb) cpX12 25 (by decide) rfl rfl rfl tw_1276 dX12_fillsOpen_56 (fun H locs hw => ?_)
          obtain ⟨I_16, eI_16, hf⟩ := yb_let_ex hf
          have hw := yb_wI eI_16 hw
          obtain ⟨x1_17, ex1_17, hf⟩ := yb_let_ex hf
          refine lv_iinc (v := x1_17) (lv' := [(1, .int x1_17), (0, .ref mb)]) hx hb dX12_fillsOpen_59 hl (k := 1) rfl (by rw [ex1_17]; rfl) (by decide) rfl (fun ls hl => ?_)
          refine lv_goto (tgt := 7) hx hb dX12_fillsOpen_62 (by decide) ?_
          exact ih _ _ _ _ _ _ _ _ _ hf hw (lv_sub hl [1, 0] rfl) hexit
        · have hf := yb_neg c_13 hf
          refine lv_goto (tgt := 59) hx hb dX12_fillsOpen_36 (by decide) ?_
          obtain ⟨x1_18, ex1_18, hf⟩ := yb_let_ex hf
          refine lv_iinc (v := x1_18) (lv' := [(1, .int x1_18), (0, .ref mb)]) hx hb dX12_fillsOpen_59 hl (k := 1) rfl (by rw [ex1_18]; rfl) (by decide) rfl (fun ls hl => ?_)
          refine lv_goto (tgt := 7) hx hb dX12_fillsOpen_62 (by decide) ?_
          exact ih _ _ _ _ _ _ _ _ _ hf hw (lv_sub hl [1, 0] rfl) hexit
set_option maxHeartbeats 4000000 in
set_option maxRecDepth 100000 in
theorem c12_fillsOpen (l : Launch) (D : va_G) (cz : Nat → ClassId) (ev : Nat × Nat × Nat) (mb : Nat) {N : Nat} {I : IT} {J : JT} {r : Unit} {I1 : IT} {J1 : JT} (hf : f12_fillsOpen N mb I J = some (r, I1, J1)) : MTv l D cz ev yX12_fillsOpen cX12_fillsOpen 2 (none) 1 22 [.ref mb] (mlL mb) (mlS mb) (mlR mb) I J r I1 J1 := by
  unfold f12_fillsOpen at hf
  refine MTv_of (by decide) (Nat.le_of_ble_eq_true rfl) ?_
  intro p e s m args below meth c Q ls X hK hw hl hfin
  have X : CallFix p m c cX12_fillsOpen 2 s args gw RX12 := X
  have hx := X.1
  have hb := X.2.1
  have hl : lv_has ls 2 [(0, .ref mb)] := hl
  refine lv_aload_n hx hb dX12_fillsOpen_0 rfl (lv_at hl 0 rfl) ?_
  refine lv_iconst (v := (0 : Int32)) hx hb dX12_fillsOpen_1 (by decide) ?_
  refine x_putI X hK hw (ml_mem0 mb) (ml_S0 mb) cpX12 25 (by decide) rfl rfl rfl tw_1276 dX12_fillsOpen_2 (fun H locs hw => ?_)
  obtain ⟨I_1, eI_1, hf⟩ := yb_let_ex hf
  have hw := yb_wI eI_1 hw
  refine lv_iconst (v := (0 : Int32)) hx hb dX12_fillsOpen_5 (by decide) ?_
  refine lv_istore_n (lv' := [(1, .int (0 : Int32)), (0, .ref mb)]) hx hb dX12_fillsOpen_6 rfl hl (by decide) rfl (fun ls hl => ?_)
  obtain ⟨q_19, I_20, J_21, hq_22, hf⟩ := yb_b3_some hf
  refine w12_fillsOpen_L7 X hK _ _ _ _ _ _ _ _ _ _ hq_22 hw (lv_sub hl [1, 0] rfl) (fun H locs ls hw hl => ?_)
  exact yb_retv hfin hf hw dX12_fillsOpen_65
set_option maxHeartbeats 4000000 in
set_option maxRecDepth 100000 in
theorem w12_fillsSpots_L24 {p : Program} {l : Launch} {e : Env} {s : State} {m : MethodId} {args : Array Value} {below : List Frame} {meth : Method} {c : Code} {Q : State → Prop} {D : va_G} {cz : Nat → ClassId} {A : Nat → Prop} {ev : Nat × Nat × Nat} {mb : Nat} (X : CallFix p m c cX12_fillsSpots 5 s args gw RX12) (hK : KX D cz ev A s) {N : Nat} {x1 : Int32} {x2 : Int32} :
    ∀ (n : Nat) (x3 : Int32) (I : IT) (J : JT) (q : (Unit)) (I1 : IT) (J1 : JT) (H : Heap) (locs : List Loc) (ls : Array Slot), f12_fillsSpots_L24 N mb x1 x2 n x3 I J = some (q, I1, J1) → WX D cz A (mlL mb) (mlS mb) (mlR mb) s.heap I J H locs → lv_has ls 5 [(0, .ref mb), (1, .int x1), (2, .int x2), (3, .int x3)] →
    (∀ (H : Heap) (locs : List Loc) (ls : Array Slot), WX D cz A (mlL mb) (mlS mb) (mlR mb) s.heap I1 J1 H locs → lv_has ls 5 [(0, .ref mb), (1, .int x1), (2, .int x2)] → W p l e (rmX 5 129) s m args below meth c H locs 0 0 Q (F0 m 109 ls [])) →
    W p l e (rmX 5 129) s m args below meth c H locs 0 0 Q (F0 m 24 ls []) := by
  have hx := X.1
  have hb := X.2.1
  intro n
  induction n with
  | zero =>
    intro x3 I J q I1 J1 H locs ls hf
    rw [f12_fillsSpots_L24] at hf
    cases hf
  | succ n ih =>
    intro x3 I J q I1 J1 H locs ls hf hw hl hexit
    rw [f12_fillsSpots_L24] at hf
    refine lv_iload_n hx hb dX12_fillsSpots_24 rfl (lv_at hl 3 rfl) ?_
    refine lv_bipush (v := (100 : Int32)) hx hb dX12_fillsSpots_25 (by decide) ?_
    refine lv_icmp_ge (tgt := 109) hx hb dX12_fillsSpots_27 (by decide) (fun c_3 => ?_) (fun c_3 => ?_)
    · have hf := yb_pos c_3 hf
      obtain ⟨rfl, rfl, rfl⟩ := yb_inj hf
      exact hexit _ _ _ hw (lv_sub hl [0, 1, 2] rfl)
    · have hf := yb_neg c_3 hf
      refine lv_aload_n hx hb dX12_fillsSpots_30 rfl (lv_at hl 0 rfl) ?_
      refine lv_aload_n hx hb dX12_fillsSpots_31 rfl (lv_at hl 0 rfl) ?_
      refine x_getR X hK hw (ml_mem0 mb) (ml_S0 mb) cpX12 26 (by decide) rfl (ml_R mb 26 rfl) tw_1277 dX12_fillsSpots_32 ?_
      refine lv_iload_n hx hb dX12_fillsSpots_35 rfl (lv_at hl 1 rfl) ?_
      obtain ⟨hi_4, hf⟩ := yb_ck_some hf
      refine x_iald X hK hw (ml_mem mb 12 (by decide)) (ml_S mb 12 rfl) hi_4 rfl dX12_fillsSpots_36 ?_
      refine lv_iload_n hx hb dX12_fillsSpots_37 rfl (lv_at hl 2 rfl) ?_
      refine lv_aload_n hx hb dX12_fillsSpots_38 rfl (lv_at hl 0 rfl) ?_
      refine x_getR X hK hw (ml_mem0 mb) (ml_S0 mb) cpX12 20 (by decide) rfl (ml_R mb 20 rfl) tw_1271 dX12_fillsSpots_39 ?_
      refine lv_iconst (v := (4 : Int32)) hx hb dX12_fillsSpots_42 (by decide) ?_
      refine x_iald X hK hw (ml_mem mb 10 (by decide)) (ml_S mb 10 rfl) (by decide) rfl dX12_fillsSpots_43 ?_
      refine lv_iload_n hx hb dX12_fillsSpots_44 rfl (lv_at hl 3 rfl) ?_
      refine lv_iadd hx hb dX12_fillsSpots_45 ?_
      obtain ⟨r_5, I_6, J_7, hq_8, hf⟩ := yb_b3_some hf
      refine x_calli X hK hw (c12_canHear l D cz ev mb hq_8) (ml_mem0 mb) (ml_S0 mb) cpX12.1 vw_X12_354 ⟨Nat.le_of_ble_eq_true rfl, Nat.le_of_ble_eq_true rfl⟩ rfl rfl (Nat.le_of_ble_eq_true rfl) hl.1 ⟨Nat.le_refl _, Nat.le_refl _⟩ dX12_fillsSpots_46 (fun H locs hw => ?_)
      refine lv_istore (lv' := [(4, .int r_5), (0, .ref mb), (1, .int x1), (2, .int x2), (3, .int x3)]) hx hb dX12_fillsSpots_49 hl (by decide) rfl (fun ls hl => ?_)
      refine lv_aload_n hx hb dX12_fillsSpots_51 rfl (lv_at hl 1 rfl) ?_
      refine x_getR X hK hw (ml_mem0 mb) (ml_S0 mb) cpX12 27 (by decide) rfl (ml_R mb 27 rfl) tw_1278 dX12_fillsSpots_52 ?_
      refine lv_iload_n hx hb dX12_fillsSpots_55 rfl (lv_at hl 2 rfl) ?_
      refine lv_iload_n hx hb dX12_fillsSpots_56 rfl (lv_at hl 3 rfl) ?_
      refine lv_iload_n hx hb dX12_fillsSpots_57 rfl (lv_at hl 4 rfl) ?_
      obtain ⟨r_9, I_10, J_11, hq_12, hf⟩ := yb_b3_some hf
      refine x_callsi X hK hw (c12_spot l D cz ev mb hq_12) sw_X12_401 ⟨Nat.le_of_ble_eq_true rfl, Nat.le_of_ble_eq_true rfl⟩ rfl rfl (Nat.le_of_ble_eq_true rfl) hl.1 ⟨Nat.le_refl _, Nat.le_refl _⟩ dX12_fillsSpots_58 (fun H locs hw => ?_)
      refine lv_iload hx hb dX12_fillsSpots_61 (lv_at hl 0 rfl) ?_
      obtain ⟨hi_13, hf⟩ := yb_ck_some hf
      refine x_zast X hK hw (ml_mem mb 13 (by decide)) (ml_S mb 13 rfl) hi_13 rfl dX12_fillsSpots_63 (fun H locs hw => ?_)
      obtain ⟨I_14, eI_14, hf⟩ := yb_let_ex hf
      have hw := yb_wI eI_14 hw
      refine lv_aload_n hx hb dX12_fillsSpots_64 rfl (lv_at hl 1 rfl) ?_
      refine x_getR X hK hw (ml_mem0 mb) (ml_S0 mb) cpX12 28 (by decide) rfl (ml_R mb 28 rfl) tw_1279 dX12_fillsSpots_65 ?_
      refine lv_iload_n hx hb dX12_fillsSpots_68 rfl (lv_at hl 2 rfl) ?_
      refine lv_iload_n hx hb dX12_fillsSpots_69 rfl (lv_at hl 3 rfl) ?_
      refine lv_iload_n hx hb dX12_fillsSpots_70 rfl (lv_at hl 4 rfl) ?_
      obtain ⟨r_15, I_16, J_17, hq_18, hf⟩ := yb_b3_some hf
      refine x_callsi X hK hw (c12_spot l D cz ev mb hq_18) sw_X12_401 ⟨Nat.le_of_ble_eq_true rfl, Nat.le_of_ble_eq_true rfl⟩ rfl rfl (Nat.le_of_ble_eq_true rfl) hl.1 ⟨Nat.le_refl _, Nat.le_refl _⟩ dX12_fillsSpots_71 (fun H locs hw => ?_)
      refine lv_iload hx hb dX12_fillsSpots_74 (lv_at hl 0 rfl) ?_
      refine lv_if_eq (tgt := 101) hx hb dX12_fillsSpots_76 (by decide) (fun c_19 => ?_) (fun c_19 => ?_)
      · have hf := yb_pos c_19 hf
        refine lv_iconst (v := (0 : Int32)) hx hb dX12_fillsSpots_101 (by decide) ?_
        obtain ⟨hi_20, hf⟩ := yb_ck_some hf
        refine x_iast X hK hw (ml_mem mb 14 (by decide)) (ml_S mb 14 rfl) hi_20 rfl dX12_fillsSpots_102 (fun H locs hw => ?_)
        obtain ⟨I_21, eI_21, hf⟩ := yb_let_ex hf
        have hw := yb_wI eI_21 hw
        obtain ⟨x3_22, ex3_22, hf⟩ := yb_let_ex hf
        refine lv_iinc (v := x3_22) (lv' := [(3, .int x3_22), (4, .int r_5), (0, .ref mb), (1, .int x1), (2, .int x2)]) hx hb dX12_fillsSpots_103 hl (k := 4) rfl (by rw [ex3_22]; rfl) (by decide) rfl (fun ls hl => ?_)
        refine lv_goto (tgt := 24) hx hb dX12_fillsSpots_106 (by decide) ?_
        exact ih _ _ _ _ _ _ _ _ _ hf hw (lv_sub hl [2, 3, 4, 0] rfl) hexit
      · have hf := yb_neg c_19 hf
        refine lv_aload_n hx hb dX12_fillsSpots_79 rfl (lv_at hl 1 rfl) ?_
        refine lv_aload_n hx hb dX12_fillsSpots_80 rfl (lv_at hl 1 rfl) ?_
        refine x_getR X hK hw (ml_mem0 mb) (ml_S0 mb) cpX12 26 (by decide) rfl (ml_R mb 26 rfl) tw_1277 dX12_fillsSpots_81 ?_
        refine lv_iload_n hx hb dX12_fillsSpots_84 rfl (lv_at hl 2 rfl) ?_
        refine x_iald X hK hw (ml_mem mb 12 (by decide)) (ml_S mb 12 rfl) hi_4 rfl dX12_fillsSpots_85 ?_
        refine lv_iload_n hx hb dX12_fillsSpots_86 rfl (lv_at hl 3 rfl) ?_
        refine lv_aload_n hx hb dX12_fillsSpots_87 rfl (lv_at hl 1 rfl) ?_
        refine x_getR X hK hw (ml_mem0 mb) (ml_S0 mb) cpX12 20 (by decide) rfl (ml_R mb 20 rfl) tw_1271 dX12_fillsSpots_88 ?_
        refine lv_iconst (v := (4 : Int32)) hx hb dX12_fillsSpots_91 (by decide) ?_
        refine x_iald X hK hw (ml_mem mb 10 (by decide)) (ml_S mb 10 rfl) (by decide) rfl dX12_fillsSpots_92 ?_
        refine lv_iload_n hx hb dX12_fillsSpots_93 rfl (lv_at hl 4 rfl) ?_
        refine lv_iadd hx hb dX12_fillsSpots_94 ?_
        obtain ⟨r_23, I_24, J_25, hq_26, hf⟩ := yb_b3_some hf
        refine x_calli X hK hw (c12_rightOf l D cz ev mb hq_26) (ml_mem0 mb) (ml_S0 mb) cpX12.1 vw_X12_373 ⟨Nat.le_of_ble_eq_true rfl, Nat.le_of_ble_eq_true rfl⟩ rfl rfl (Nat.le_of_ble_eq_true rfl) hl.1 ⟨Nat.le_refl _, Nat.le_refl _⟩ dX12_fillsSpots_95 (fun H locs hw => ?_)
        refine lv_goto (tgt := 102) hx hb dX12_fillsSpots_98 (by decide) ?_
        obtain ⟨hi_27, hf⟩ := yb_ck_some hf
        refine x_iast X hK hw (ml_mem mb 14 (by decide)) (ml_S mb 14 rfl) hi_27 rfl dX12_fillsSpots_102 (fun H locs hw => ?_)
        obtain ⟨I_28, eI_28, hf⟩ := yb_let_ex hf
        have hw := yb_wI eI_28 hw
        obtain ⟨x3_29, ex3_29, hf⟩ := yb_let_ex hf
        refine lv_iinc (v := x3_29) (lv' := [(3, .int x3_29), (4, .int r_5), (0, .ref mb), (1, .int x1), (2, .int x2)]) hx hb dX12_fillsSpots_103 hl (k := 4) rfl (by rw [ex3_29]; rfl) (by decide) rfl (fun ls hl => ?_)
        refine lv_goto (tgt := 24) hx hb dX12_fillsSpots_106 (by decide) ?_
        exact ih _ _ _ _ _ _ _ _ _ hf hw (lv_sub hl [2, 3, 4, 0] rfl) hexit
set_option maxHeartbeats 4000000 in
set_option maxRecDepth 100000 in
theorem w12_fillsSpots_L12 {p : Program} {l : Launch} {e : Env} {s : State} {m : MethodId} {args : Array Value} {below : List Frame} {meth : Method} {c : Code} {Q : State → Prop} {D : va_G} {cz : Nat → ClassId} {A : Nat → Prop} {ev : Nat × Nat × Nat} {mb : Nat} (X : CallFix p m c cX12_fillsSpots 5 s args gw RX12) (hK : KX D cz ev A s) {N : Nat} {x1 : Int32} :
    ∀ (n : Nat) (x2 : Int32) (I : IT) (J : JT) (q : (Unit)) (I1 : IT) (J1 : JT) (H : Heap) (locs : List Loc) (ls : Array Slot), f12_fillsSpots_L12 N mb x1 n x2 I J = some (q, I1, J1) → WX D cz A (mlL mb) (mlS mb) (mlR mb) s.heap I J H locs → lv_has ls 5 [(0, .ref mb), (1, .int x1), (2, .int x2)] →
    (∀ (H : Heap) (locs : List Loc) (ls : Array Slot), WX D cz A (mlL mb) (mlS mb) (mlR mb) s.heap I1 J1 H locs → lv_has ls 5 [(0, .ref mb), (1, .int x1)] → W p l e (rmX 5 129) s m args below meth c H locs 0 0 Q (F0 m 115 ls [])) →
    W p l e (rmX 5 129) s m args below meth c H locs 0 0 Q (F0 m 12 ls []) := by
  have hx := X.1
  have hb := X.2.1
  intro n
  induction n with
  | zero =>
    intro x2 I J q I1 J1 H locs ls hf
    rw [f12_fillsSpots_L12] at hf
    cases hf
  | succ n ih =>
    intro x2 I J q I1 J1 H locs ls hf hw hl hexit
    rw [f12_fillsSpots_L12] at hf
    refine lv_iload_n hx hb dX12_fillsSpots_12 rfl (lv_at hl 2 rfl) ?_
    refine lv_aload_n hx hb dX12_fillsSpots_13 rfl (lv_at hl 0 rfl) ?_
    refine x_getR X hK hw (ml_mem0 mb) (ml_S0 mb) cpX12 20 (by decide) rfl (ml_R mb 20 rfl) tw_1271 dX12_fillsSpots_14 ?_
    refine lv_iconst (v := (2 : Int32)) hx hb dX12_fillsSpots_17 (by decide) ?_
    refine x_iald X hK hw (ml_mem mb 10 (by decide)) (ml_S mb 10 rfl) (by decide) rfl dX12_fillsSpots_18 ?_
    refine lv_icmp_ge (tgt := 115) hx hb dX12_fillsSpots_19 (by decide) (fun c_2 => ?_) (fun c_2 => ?_)
    · have hf := yb_pos c_2 hf
      obtain ⟨rfl, rfl, rfl⟩ := yb_inj hf
      exact hexit _ _ _ hw (lv_sub hl [0, 1] rfl)
    · have hf := yb_neg c_2 hf
      refine lv_iconst (v := (0 : Int32)) hx hb dX12_fillsSpots_22 (by decide) ?_
      refine lv_istore_n (lv' := [(3, .int (0 : Int32)), (0, .ref mb), (1, .int x1), (2, .int x2)]) hx hb dX12_fillsSpots_23 rfl hl (by decide) rfl (fun ls hl => ?_)
      obtain ⟨q_30, I_31, J_32, hq_33, hf⟩ := yb_b3_some hf
      refine w12_fillsSpots_L24 X hK _ _ _ _ _ _ _ _ _ _ hq_33 hw (lv_sub hl [1, 2, 3, 0] rfl) (fun H locs ls hw hl => ?_)
      obtain ⟨x2_34, ex2_34, hf⟩ := yb_let_ex hf
      refine lv_iinc (v := x2_34) (lv' := [(2, .int x2_34), (0, .ref mb), (1, .int x1)]) hx hb dX12_fillsSpots_109 hl (k := 2) rfl (by rw [ex2_34]; rfl) (by decide) rfl (fun ls hl => ?_)
      refine lv_goto (tgt := 12) hx hb dX12_fillsSpots_112 (by decide) ?_
      exact ih _ _ _ _ _ _ _ _ _ hf hw (lv_sub hl [1, 2, 0] rfl) hexit
set_option maxHeartbeats 4000000 in
set_option maxRecDepth 100000 in
theorem w12_fillsSpots_L2 {p : Program} {l : Launch} {e : Env} {s : State} {m : MethodId} {args : Array Value} {below : List Frame} {meth : Method} {c : Code} {Q : State → Prop} {D : va_G} {cz : Nat → ClassId} {A : Nat → Prop} {ev : Nat × Nat × Nat} {mb : Nat} (X : CallFix p m c cX12_fillsSpots 5 s args gw RX12) (hK : KX D cz ev A s) {N : Nat} :
    ∀ (n : Nat) (x1 : Int32) (I : IT) (J : JT) (q : (Unit)) (I1 : IT) (J1 : JT) (H : Heap) (locs : List Loc) (ls : Array Slot), f12_fillsSpots_L2 N mb n x1 I J = some (q, I1, J1) → WX D cz A (mlL mb) (mlS mb) (mlR mb) s.heap I J H locs → lv_has ls 5 [(0, .ref mb), (1, .int x1)] →
    (∀ (H : Heap) (locs : List Loc) (ls : Array Slot), WX D cz A (mlL mb) (mlS mb) (mlR mb) s.heap I1 J1 H locs → lv_has ls 5 [] → W p l e (rmX 5 129) s m args below meth c H locs 0 0 Q (F0 m 121 ls [])) →
    W p l e (rmX 5 129) s m args below meth c H locs 0 0 Q (F0 m 2 ls []) := by
  have hx := X.1
  have hb := X.2.1
  intro n
  induction n with
  | zero =>
    intro x1 I J q I1 J1 H locs ls hf
    rw [f12_fillsSpots_L2] at hf
    cases hf
  | succ n ih =>
    intro x1 I J q I1 J1 H locs ls hf hw hl hexit
    rw [f12_fillsSpots_L2] at hf
    refine lv_iload_n hx hb dX12_fillsSpots_2 rfl (lv_at hl 1 rfl) ?_
    refine lv_aload_n hx hb dX12_fillsSpots_3 rfl (lv_at hl 0 rfl) ?_
    refine x_getI X hK hw (ml_mem0 mb) (ml_S0 mb) cpX12 25 (by decide) rfl tw_1276 dX12_fillsSpots_4 ?_
    refine lv_icmp_ge (tgt := 121) hx hb dX12_fillsSpots_7 (by decide) (fun c_1 => ?_) (fun c_1 => ?_)
    · have hf := yb_pos c_1 hf
      obtain ⟨rfl, rfl, rfl⟩ := yb_inj hf
      exact hexit _ _ _ hw (lv_sub hl [] rfl)
    · have hf := yb_neg c_1 hf
      refine lv_iconst (v := (0 : Int32)) hx hb dX12_fillsSpots_10 (by decide) ?_
      refine lv_istore_n (lv' := [(2, .int (0 : Int32)), (0, .ref mb), (1, .int x1)]) hx hb dX12_fillsSpots_11 rfl hl (by decide) rfl (fun ls hl => ?_)
      obtain ⟨q_35, I_36, J_37, hq_38, hf⟩ := yb_b3_some hf
      refine w12_fillsSpots_L12 X hK _ _ _ _ _ _ _ _ _ _ hq_38 hw (lv_sub hl [1, 2, 0] rfl) (fun H locs ls hw hl => ?_)
      obtain ⟨x1_39, ex1_39, hf⟩ := yb_let_ex hf
      refine lv_iinc (v := x1_39) (lv' := [(1, .int x1_39), (0, .ref mb)]) hx hb dX12_fillsSpots_115 hl (k := 1) rfl (by rw [ex1_39]; rfl) (by decide) rfl (fun ls hl => ?_)
      refine lv_goto (tgt := 2) hx hb dX12_fillsSpots_118 (by decide) ?_
      exact ih _ _ _ _ _ _ _ _ _ hf hw (lv_sub hl [1, 0] rfl) hexit
set_option maxHeartbeats 4000000 in
set_option maxRecDepth 100000 in
theorem c12_fillsSpots (l : Launch) (D : va_G) (cz : Nat → ClassId) (ev : Nat × Nat × Nat) (mb : Nat) {N : Nat} {I : IT} {J : JT} {r : Unit} {I1 : IT} {J1 : JT} (hf : f12_fillsSpots N mb I J = some (r, I1, J1)) : MTv l D cz ev yX12_fillsSpots cX12_fillsSpots 5 (none) 5 129 [.ref mb] (mlL mb) (mlS mb) (mlR mb) I J r I1 J1 := by
  unfold f12_fillsSpots at hf
  refine MTv_of (by decide) (Nat.le_of_ble_eq_true rfl) ?_
  intro p e s m args below meth c Q ls X hK hw hl hfin
  have X : CallFix p m c cX12_fillsSpots 5 s args gw RX12 := X
  have hx := X.1
  have hb := X.2.1
  have hl : lv_has ls 5 [(0, .ref mb)] := hl
  refine lv_iconst (v := (0 : Int32)) hx hb dX12_fillsSpots_0 (by decide) ?_
  refine lv_istore_n (lv' := [(1, .int (0 : Int32)), (0, .ref mb)]) hx hb dX12_fillsSpots_1 rfl hl (by decide) rfl (fun ls hl => ?_)
  obtain ⟨q_40, I_41, J_42, hq_43, hf⟩ := yb_b3_some hf
  refine w12_fillsSpots_L2 X hK _ _ _ _ _ _ _ _ _ _ hq_43 hw (lv_sub hl [1, 0] rfl) (fun H locs ls hw hl => ?_)
  exact yb_retv hfin hf hw dX12_fillsSpots_121
set_option maxHeartbeats 4000000 in
set_option maxRecDepth 100000 in
theorem c12_lengthOf (l : Launch) (D : va_G) (cz : Nat → ClassId) (ev : Nat × Nat × Nat) (mb : Nat) {x1 : Int32} {I : IT} {J : JT} {r : Int32} {I1 : IT} {J1 : JT} (hf : f12_lengthOf mb x1 I J = some (r, I1, J1)) : MTi l D cz ev yX12_lengthOf cX12_lengthOf 2 (some .int) 1 22 [.ref mb, .int x1] (mlL mb) (mlS mb) (mlR mb) I J r I1 J1 := by
  unfold f12_lengthOf at hf
  refine MTi_of (by decide) (Nat.le_of_ble_eq_true rfl) ?_
  intro p e s m args below meth c Q ls X hK hw hl hfin
  have X : CallFix p m c cX12_lengthOf 2 s args gw RX12 := X
  have hx := X.1
  have hb := X.2.1
  have hl : lv_has ls 2 [(0, .ref mb), (1, .int x1)] := hl
  refine lv_aload_n hx hb dX12_lengthOf_0 rfl (lv_at hl 0 rfl) ?_
  refine lv_aload_n hx hb dX12_lengthOf_1 rfl (lv_at hl 0 rfl) ?_
  refine x_getR X hK hw (ml_mem0 mb) (ml_S0 mb) cpX12 26 (by decide) rfl (ml_R mb 26 rfl) tw_1277 dX12_lengthOf_2 ?_
  refine lv_iload_n hx hb dX12_lengthOf_5 rfl (lv_at hl 1 rfl) ?_
  obtain ⟨hi_1, hf⟩ := yb_ck_some hf
  refine x_iald X hK hw (ml_mem mb 12 (by decide)) (ml_S mb 12 rfl) hi_1 rfl dX12_lengthOf_6 ?_
  refine lv_iconst (v := (2 : Int32)) hx hb dX12_lengthOf_7 (by decide) ?_
  obtain ⟨r_2, I_3, J_4, hq_5, hf⟩ := yb_b3_some hf
  refine x_calli X hK hw (c12_caseOf l D cz ev mb hq_5) (ml_mem0 mb) (ml_S0 mb) cpX12.1 vw_X12_331 ⟨Nat.le_of_ble_eq_true rfl, Nat.le_of_ble_eq_true rfl⟩ rfl rfl (Nat.le_of_ble_eq_true rfl) hl.1 ⟨Nat.le_refl _, Nat.le_refl _⟩ dX12_lengthOf_8 (fun H locs hw => ?_)
  exact yb_reti hfin hf hw dX12_lengthOf_11
set_option maxHeartbeats 4000000 in
set_option maxRecDepth 100000 in
theorem w12_isBusy_L28 {p : Program} {l : Launch} {e : Env} {s : State} {m : MethodId} {args : Array Value} {below : List Frame} {meth : Method} {c : Code} {Q : State → Prop} {D : va_G} {cz : Nat → ClassId} {A : Nat → Prop} {ev : Nat × Nat × Nat} {mb : Nat} (X : CallFix p m c cX12_isBusy 7 s args gw RX12) (hK : KX D cz ev A s) {N : Nat} {x1 : Int32} {x2 : Int32} {x3 : Int32} {x4 : Int32} {rM : Int32} {IM : IT} {JM : JT} :
    ∀ (n : Nat) (x6 : Int32) (I : IT) (J : JT) (q : (Int32 ⊕ (Unit))) (I1 : IT) (J1 : JT) (H : Heap) (locs : List Loc) (ls : Array Slot), f12_isBusy_L28 N mb x1 x2 x3 x4 n x6 I J = some (q, I1, J1) → WX D cz A (mlL mb) (mlS mb) (mlR mb) s.heap I J H locs → lv_has ls 7 [(0, .ref mb), (1, .int x1), (2, .int x2), (3, .int x3), (4, .int x4), (6, .int x6)] →
    (∀ v, q = .inl v → some (v, I1, J1) = some (rM, IM, JM)) → (∀ (H : Heap) (locs : List Loc) (ls : Array Slot) (pc : Nat), bz rM = true → WX D cz A (mlL mb) (mlS mb) (mlR mb) s.heap IM JM H locs → decode cX12_isBusy pc = .ok (.ireturn, 1) → W p l e (rmX 2 44) s m args below meth c H locs 0 0 Q (F0 m pc ls [.int rM])) →
    (∀ xq, q = .inr xq → ∀ (H : Heap) (locs : List Loc) (ls : Array Slot), WX D cz A (mlL mb) (mlS mb) (mlR mb) s.heap I1 J1 H locs → lv_has ls 7 [] → W p l e (rmX 2 44) s m args below meth c H locs 0 0 Q (F0 m 90 ls [])) →
    W p l e (rmX 2 44) s m args below meth c H locs 0 0 Q (F0 m 28 ls []) := by
  have hx := X.1
  have hb := X.2.1
  intro n
  induction n with
  | zero =>
    intro x6 I J q I1 J1 H locs ls hf
    rw [f12_isBusy_L28] at hf
    cases hf
  | succ n ih =>
    intro x6 I J q I1 J1 H locs ls hf hw hl hret hfin hexit
    rw [f12_isBusy_L28] at hf
    refine lv_iload hx hb dX12_isBusy_28 (lv_at hl 5 rfl) ?_
    refine lv_iload_n hx hb dX12_isBusy_30 rfl (lv_at hl 1 rfl) ?_
    refine lv_icmp_ge (tgt := 90) hx hb dX12_isBusy_31 (by decide) (fun c_6 => ?_) (fun c_6 => ?_)
    · have hf := yb_pos c_6 hf
      obtain ⟨rfl, rfl, rfl⟩ := yb_inj hf
      exact hexit _ rfl _ _ _ hw (lv_sub hl [] rfl)
    · have hf := yb_neg c_6 hf
      refine lv_aload_n hx hb dX12_isBusy_34 rfl (lv_at hl 0 rfl) ?_
      refine x_getR X hK hw (ml_mem0 mb) (ml_S0 mb) cpX12 30 (by decide) rfl (ml_R mb 30 rfl) tw_1281 dX12_isBusy_35 ?_
      refine lv_iload hx hb dX12_isBusy_38 (lv_at hl 5 rfl) ?_
      obtain ⟨hi_7, hf⟩ := yb_ck_some hf
      refine x_iald X hK hw (ml_mem mb 16 (by decide)) (ml_S mb 16 rfl) hi_7 rfl dX12_isBusy_40 ?_
      refine lv_iload_n hx hb dX12_isBusy_41 rfl (lv_at hl 2 rfl) ?_
      refine lv_icmp_ne (tgt := 84) hx hb dX12_isBusy_42 (by decide) (fun c_8 => ?_) (fun c_8 => ?_)
      · have hf := yb_neg c_8 hf
        obtain ⟨x6_9, ex6_9, hf⟩ := yb_let_ex hf
        refine lv_iinc (v := x6_9) (lv' := [(6, .int x6_9), (0, .ref mb), (1, .int x1), (2, .int x2), (3, .int x3), (4, .int x4)]) hx hb dX12_isBusy_84 hl (k := 5) rfl (by rw [ex6_9]; rfl) (by decide) rfl (fun ls hl => ?_)
        refine lv_goto (tgt := 28) hx hb dX12_isBusy_87 (by decide) ?_
        exact ih _ _ _ _ _ _ _ _ _ hf hw (lv_sub hl [1, 2, 3, 4, 5, 0] rfl) hret hfin hexit
      · have hf := yb_pos c_8 hf
        refine lv_iload_n hx hb dX12_isBusy_45 rfl (lv_at hl 3 rfl) ?_
        refine lv_aload_n hx hb dX12_isBusy_46 rfl (lv_at hl 0 rfl) ?_
        refine x_getR X hK hw (ml_mem0 mb) (ml_S0 mb) cpX12 31 (by decide) rfl (ml_R mb 31 rfl) tw_1282 dX12_isBusy_47 ?_
        refine lv_iload hx hb dX12_isBusy_50 (lv_at hl 5 rfl) ?_
        refine x_iald X hK hw (ml_mem mb 17 (by decide)) (ml_S mb 17 rfl) hi_7 rfl dX12_isBusy_52 ?_
        refine lv_aload_n hx hb dX12_isBusy_53 rfl (lv_at hl 0 rfl) ?_
        refine lv_aload_n hx hb dX12_isBusy_54 rfl (lv_at hl 0 rfl) ?_
        refine x_getR X hK hw (ml_mem0 mb) (ml_S0 mb) cpX12 29 (by decide) rfl (ml_R mb 29 rfl) tw_1280 dX12_isBusy_55 ?_
        refine lv_iload hx hb dX12_isBusy_58 (lv_at hl 5 rfl) ?_
        refine x_iald X hK hw (ml_mem mb 15 (by decide)) (ml_S mb 15 rfl) hi_7 rfl dX12_isBusy_60 ?_
        obtain ⟨r_10, I_11, J_12, hq_13, hf⟩ := yb_b3_some hf
        refine x_calli X hK hw (c12_lengthOf l D cz ev mb hq_13) (ml_mem0 mb) (ml_S0 mb) cpX12.1 vw_X12_404 ⟨Nat.le_of_ble_eq_true rfl, Nat.le_of_ble_eq_true rfl⟩ rfl rfl (Nat.le_of_ble_eq_true rfl) hl.1 ⟨Nat.le_refl _, Nat.le_refl _⟩ dX12_isBusy_61 (fun H locs hw => ?_)
        refine lv_iadd hx hb dX12_isBusy_64 ?_
        refine lv_icmp_ge (tgt := 84) hx hb dX12_isBusy_65 (by decide) (fun c_14 => ?_) (fun c_14 => ?_)
        · have hf := yb_pos c_14 hf
          obtain ⟨x6_15, ex6_15, hf⟩ := yb_let_ex hf
          refine lv_iinc (v := x6_15) (lv' := [(6, .int x6_15), (0, .ref mb), (1, .int x1), (2, .int x2), (3, .int x3), (4, .int x4)]) hx hb dX12_isBusy_84 hl (k := 5) rfl (by rw [ex6_15]; rfl) (by decide) rfl (fun ls hl => ?_)
          refine lv_goto (tgt := 28) hx hb dX12_isBusy_87 (by decide) ?_
          exact ih _ _ _ _ _ _ _ _ _ hf hw (lv_sub hl [1, 2, 3, 4, 5, 0] rfl) hret hfin hexit
        · have hf := yb_neg c_14 hf
          refine lv_aload_n hx hb dX12_isBusy_68 rfl (lv_at hl 0 rfl) ?_
          refine x_getR X hK hw (ml_mem0 mb) (ml_S0 mb) cpX12 31 (by decide) rfl (ml_R mb 31 rfl) tw_1282 dX12_isBusy_69 ?_
          refine lv_iload hx hb dX12_isBusy_72 (lv_at hl 5 rfl) ?_
          refine x_iald X hK hw (ml_mem mb 17 (by decide)) (ml_S mb 17 rfl) hi_7 rfl dX12_isBusy_74 ?_
          refine lv_iload_n hx hb dX12_isBusy_75 rfl (lv_at hl 3 rfl) ?_
          refine lv_iload hx hb dX12_isBusy_76 (lv_at hl 4 rfl) ?_
          refine lv_iadd hx hb dX12_isBusy_78 ?_
          refine lv_icmp_ge (tgt := 84) hx hb dX12_isBusy_79 (by decide) (fun c_16 => ?_) (fun c_16 => ?_)
          · have hf := yb_pos c_16 hf
            obtain ⟨x6_17, ex6_17, hf⟩ := yb_let_ex hf
            refine lv_iinc (v := x6_17) (lv' := [(6, .int x6_17), (0, .ref mb), (1, .int x1), (2, .int x2), (3, .int x3), (4, .int x4)]) hx hb dX12_isBusy_84 hl (k := 5) rfl (by rw [ex6_17]; rfl) (by decide) rfl (fun ls hl => ?_)
            refine lv_goto (tgt := 28) hx hb dX12_isBusy_87 (by decide) ?_
            exact ih _ _ _ _ _ _ _ _ _ hf hw (lv_sub hl [1, 2, 3, 4, 5, 0] rfl) hret hfin hexit
          · have hf := yb_neg c_16 hf
            refine lv_iconst (v := (1 : Int32)) hx hb dX12_isBusy_82 (by decide) ?_
            exact yb_retz hfin (by decide) (yb_inl hret hf) hw dX12_isBusy_83
set_option maxHeartbeats 4000000 in
set_option maxRecDepth 100000 in
theorem c12_isBusy (l : Launch) (D : va_G) (cz : Nat → ClassId) (ev : Nat × Nat × Nat) (mb : Nat) {N : Nat} {x1 : Int32} {x2 : Int32} {x3 : Int32} {x4 : Int32} {I : IT} {J : JT} {r : Int32} {I1 : IT} {J1 : JT} (hf : f12_isBusy N mb x1 x2 x3 x4 I J = some (r, I1, J1)) : MTi l D cz ev yX12_isBusy cX12_isBusy 7 (some .boolean) 2 44 [.ref mb, .int x1, .int x2, .int x3, .int x4] (mlL mb) (mlS mb) (mlR mb) I J r I1 J1 := by
  unfold f12_isBusy at hf
  refine MTz_of (by decide) (Nat.le_of_ble_eq_true rfl) ?_
  intro p e s m args below meth c Q ls X hK hw hl hfin
  have X : CallFix p m c cX12_isBusy 7 s args gw RX12 := X
  have hx := X.1
  have hb := X.2.1
  have hl : lv_has ls 7 [(0, .ref mb), (1, .int x1), (2, .int x2), (3, .int x3), (4, .int x4)] := hl
  refine lv_aload_n hx hb dX12_isBusy_0 rfl (lv_at hl 0 rfl) ?_
  refine lv_iload_n hx hb dX12_isBusy_1 rfl (lv_at hl 2 rfl) ?_
  obtain ⟨r_1, I_2, J_3, hq_4, hf⟩ := yb_b3_some hf
  refine x_calli X hK hw (c12_hearsNow l D cz ev mb hq_4) (ml_mem0 mb) (ml_S0 mb) cpX12.1 vw_X12_344 ⟨Nat.le_of_ble_eq_true rfl, Nat.le_of_ble_eq_true rfl⟩ rfl rfl (Nat.le_of_ble_eq_true rfl) hl.1 ⟨Nat.le_refl _, Nat.le_refl _⟩ dX12_isBusy_2 (fun H locs hw => ?_)
  refine lv_istore (lv' := [(5, .int r_1), (0, .ref mb), (1, .int x1), (2, .int x2), (3, .int x3), (4, .int x4)]) hx hb dX12_isBusy_5 hl (by decide) rfl (fun ls hl => ?_)
  refine lv_iload hx hb dX12_isBusy_7 (lv_at hl 0 rfl) ?_
  refine lv_if_lt (tgt := 25) hx hb dX12_isBusy_9 (by decide) (fun c_5 => ?_) (fun c_5 => ?_)
  · have hf := yb_pos c_5 hf
    refine lv_iconst (v := (0 : Int32)) hx hb dX12_isBusy_25 (by decide) ?_
    refine lv_istore (lv' := [(6, .int (0 : Int32)), (5, .int r_1), (0, .ref mb), (1, .int x1), (2, .int x2), (3, .int x3), (4, .int x4)]) hx hb dX12_isBusy_26 hl (by decide) rfl (fun ls hl => ?_)
    obtain ⟨q_18, I_19, J_20, hq_21, hf⟩ := yb_b3_some hf
    refine w12_isBusy_L28 X hK _ _ _ _ _ _ _ _ _ _ hq_21 hw (lv_sub hl [2, 3, 4, 5, 6, 0] rfl) (fun v hv => by rw [hv] at hf; exact hf) hfin (fun x_23 hx1 H locs ls hw hl => ?_)
    rw [hx1] at hf
    have hf := yb_sm_r hf
    refine lv_iconst (v := (0 : Int32)) hx hb dX12_isBusy_90 (by decide) ?_
    exact yb_retz hfin (by decide) hf hw dX12_isBusy_91
  · have hf := yb_neg c_5 hf
    refine lv_iload_n hx hb dX12_isBusy_12 rfl (lv_at hl 4 rfl) ?_
    refine lv_aload_n hx hb dX12_isBusy_13 rfl (lv_at hl 1 rfl) ?_
    refine lv_iload hx hb dX12_isBusy_14 (lv_at hl 0 rfl) ?_
    refine lv_iconst (v := (5 : Int32)) hx hb dX12_isBusy_16 (by decide) ?_
    obtain ⟨r_24, I_25, J_26, hq_27, hf⟩ := yb_b3_some hf
    refine x_calli X hK hw (c12_caseOf l D cz ev mb hq_27) (ml_mem0 mb) (ml_S0 mb) cpX12.1 vw_X12_331 ⟨Nat.le_of_ble_eq_true rfl, Nat.le_of_ble_eq_true rfl⟩ rfl rfl (Nat.le_of_ble_eq_true rfl) hl.1 ⟨Nat.le_refl _, Nat.le_refl _⟩ dX12_isBusy_17 (fun H locs hw => ?_)
    refine lv_icmp_ge (tgt := 25) hx hb dX12_isBusy_20 (by decide) (fun c_28 => ?_) (fun c_28 => ?_)
    · have hf := yb_pos c_28 hf
      refine lv_iconst (v := (0 : Int32)) hx hb dX12_isBusy_25 (by decide) ?_
      refine lv_istore (lv' := [(6, .int (0 : Int32)), (5, .int r_1), (0, .ref mb), (1, .int x1), (2, .int x2), (3, .int x3), (4, .int x4)]) hx hb dX12_isBusy_26 hl (by decide) rfl (fun ls hl => ?_)
      obtain ⟨q_29, I_30, J_31, hq_32, hf⟩ := yb_b3_some hf
      refine w12_isBusy_L28 X hK _ _ _ _ _ _ _ _ _ _ hq_32 hw (lv_sub hl [2, 3, 4, 5, 6, 0] rfl) (fun v hv => by rw [hv] at hf; exact hf) hfin (fun x_34 hx1 H locs ls hw hl => ?_)
      rw [hx1] at hf
      have hf := yb_sm_r hf
      refine lv_iconst (v := (0 : Int32)) hx hb dX12_isBusy_90 (by decide) ?_
      exact yb_retz hfin (by decide) hf hw dX12_isBusy_91
    · have hf := yb_neg c_28 hf
      refine lv_iconst (v := (1 : Int32)) hx hb dX12_isBusy_23 (by decide) ?_
      exact yb_retz hfin (by decide) hf hw dX12_isBusy_24
set_option maxHeartbeats 4000000 in
set_option maxRecDepth 100000 in
theorem w12_firstDay_L3 {p : Program} {l : Launch} {e : Env} {s : State} {m : MethodId} {args : Array Value} {below : List Frame} {meth : Method} {c : Code} {Q : State → Prop} {D : va_G} {cz : Nat → ClassId} {A : Nat → Prop} {ev : Nat × Nat × Nat} {mb : Nat} (X : CallFix p m c cX12_firstDay 5 s args gw RX12) (hK : KX D cz ev A s) {N : Nat} {x1 : Int32} {x2 : Int32} {x3 : Int32} {rM : Int32} {IM : IT} {JM : JT} :
    ∀ (n : Nat) (x4 : Int32) (I : IT) (J : JT) (q : (Int32 ⊕ (Unit))) (I1 : IT) (J1 : JT) (H : Heap) (locs : List Loc) (ls : Array Slot), f12_firstDay_L3 N mb x1 x2 x3 n x4 I J = some (q, I1, J1) → WX D cz A (mlL mb) (mlS mb) (mlR mb) s.heap I J H locs → lv_has ls 5 [(0, .ref mb), (1, .int x1), (2, .int x2), (3, .int x3), (4, .int x4)] →
    (∀ v, q = .inl v → some (v, I1, J1) = some (rM, IM, JM)) → (∀ (H : Heap) (locs : List Loc) (ls : Array Slot) (pc : Nat), WX D cz A (mlL mb) (mlS mb) (mlR mb) s.heap IM JM H locs → decode cX12_firstDay pc = .ok (.ireturn, 1) → W p l e (rmX 3 70) s m args below meth c H locs 0 0 Q (F0 m pc ls [.int rM])) →
    (∀ xq, q = .inr xq → ∀ (H : Heap) (locs : List Loc) (ls : Array Slot), WX D cz A (mlL mb) (mlS mb) (mlR mb) s.heap I1 J1 H locs → lv_has ls 5 [] → W p l e (rmX 3 70) s m args below meth c H locs 0 0 Q (F0 m 50 ls [])) →
    W p l e (rmX 3 70) s m args below meth c H locs 0 0 Q (F0 m 3 ls []) := by
  have hx := X.1
  have hb := X.2.1
  intro n
  induction n with
  | zero =>
    intro x4 I J q I1 J1 H locs ls hf
    rw [f12_firstDay_L3] at hf
    cases hf
  | succ n ih =>
    intro x4 I J q I1 J1 H locs ls hf hw hl hret hfin hexit
    rw [f12_firstDay_L3] at hf
    refine lv_iload hx hb dX12_firstDay_3 (lv_at hl 4 rfl) ?_
    refine lv_bipush (v := (100 : Int32)) hx hb dX12_firstDay_5 (by decide) ?_
    refine lv_icmp_ge (tgt := 50) hx hb dX12_firstDay_7 (by decide) (fun c_1 => ?_) (fun c_1 => ?_)
    · have hf := yb_pos c_1 hf
      obtain ⟨rfl, rfl, rfl⟩ := yb_inj hf
      exact hexit _ rfl _ _ _ hw (lv_sub hl [] rfl)
    · have hf := yb_neg c_1 hf
      refine lv_aload_n hx hb dX12_firstDay_10 rfl (lv_at hl 0 rfl) ?_
      refine x_getR X hK hw (ml_mem0 mb) (ml_S0 mb) cpX12 27 (by decide) rfl (ml_R mb 27 rfl) tw_1278 dX12_firstDay_11 ?_
      refine lv_iload_n hx hb dX12_firstDay_14 rfl (lv_at hl 2 rfl) ?_
      refine lv_iload_n hx hb dX12_firstDay_15 rfl (lv_at hl 3 rfl) ?_
      refine lv_iload hx hb dX12_firstDay_16 (lv_at hl 4 rfl) ?_
      obtain ⟨r_2, I_3, J_4, hq_5, hf⟩ := yb_b3_some hf
      refine x_callsi X hK hw (c12_spot l D cz ev mb hq_5) sw_X12_401 ⟨Nat.le_of_ble_eq_true rfl, Nat.le_of_ble_eq_true rfl⟩ rfl rfl (Nat.le_of_ble_eq_true rfl) hl.1 ⟨Nat.le_refl _, Nat.le_refl _⟩ dX12_firstDay_18 (fun H locs hw => ?_)
      obtain ⟨hi_6, hf⟩ := yb_ck_some hf
      refine x_zald X hK hw (ml_mem mb 13 (by decide)) (ml_S mb 13 rfl) hi_6 rfl dX12_firstDay_21 ?_
      refine lv_if_eq (tgt := 44) hx hb dX12_firstDay_22 (by decide) (fun c_7 => ?_) (fun c_7 => ?_)
      · have hf := yb_pos c_7 hf
        obtain ⟨x4_8, ex4_8, hf⟩ := yb_let_ex hf
        refine lv_iinc (v := x4_8) (lv' := [(4, .int x4_8), (0, .ref mb), (1, .int x1), (2, .int x2), (3, .int x3)]) hx hb dX12_firstDay_44 hl (k := 4) rfl (by rw [ex4_8]; rfl) (by decide) rfl (fun ls hl => ?_)
        refine lv_goto (tgt := 3) hx hb dX12_firstDay_47 (by decide) ?_
        exact ih _ _ _ _ _ _ _ _ _ hf hw (lv_sub hl [1, 2, 3, 4, 0] rfl) hret hfin hexit
      · have hf := yb_neg c_7 hf
        refine lv_aload_n hx hb dX12_firstDay_25 rfl (lv_at hl 0 rfl) ?_
        refine lv_iload_n hx hb dX12_firstDay_26 rfl (lv_at hl 1 rfl) ?_
        refine lv_iload_n hx hb dX12_firstDay_27 rfl (lv_at hl 3 rfl) ?_
        refine lv_iload hx hb dX12_firstDay_28 (lv_at hl 4 rfl) ?_
        refine lv_aload_n hx hb dX12_firstDay_30 rfl (lv_at hl 0 rfl) ?_
        refine lv_iload_n hx hb dX12_firstDay_31 rfl (lv_at hl 2 rfl) ?_
        obtain ⟨r_9, I_10, J_11, hq_12, hf⟩ := yb_b3_some hf
        refine x_calli X hK hw (c12_lengthOf l D cz ev mb hq_12) (ml_mem0 mb) (ml_S0 mb) cpX12.1 vw_X12_404 ⟨Nat.le_of_ble_eq_true rfl, Nat.le_of_ble_eq_true rfl⟩ rfl rfl (Nat.le_of_ble_eq_true rfl) hl.1 ⟨Nat.le_refl _, Nat.le_refl _⟩ dX12_firstDay_32 (fun H locs hw => ?_)
        obtain ⟨r_13, I_14, J_15, hq_16, hf⟩ := yb_b3_some hf
        refine x_calli X hK hw (c12_isBusy l D cz ev mb hq_16) (ml_mem0 mb) (ml_S0 mb) cpX12.1 vw_X12_407 ⟨Nat.le_of_ble_eq_true rfl, Nat.le_of_ble_eq_true rfl⟩ rfl rfl (Nat.le_of_ble_eq_true rfl) hl.1 ⟨Nat.le_refl _, Nat.le_refl _⟩ dX12_firstDay_35 (fun H locs hw => ?_)
        refine lv_if_ne (tgt := 44) hx hb dX12_firstDay_38 (by decide) (fun c_17 => ?_) (fun c_17 => ?_)
        · have hf := yb_neg c_17 hf
          obtain ⟨x4_18, ex4_18, hf⟩ := yb_let_ex hf
          refine lv_iinc (v := x4_18) (lv' := [(4, .int x4_18), (0, .ref mb), (1, .int x1), (2, .int x2), (3, .int x3)]) hx hb dX12_firstDay_44 hl (k := 4) rfl (by rw [ex4_18]; rfl) (by decide) rfl (fun ls hl => ?_)
          refine lv_goto (tgt := 3) hx hb dX12_firstDay_47 (by decide) ?_
          exact ih _ _ _ _ _ _ _ _ _ hf hw (lv_sub hl [1, 2, 3, 4, 0] rfl) hret hfin hexit
        · have hf := yb_pos c_17 hf
          refine lv_iload hx hb dX12_firstDay_41 (lv_at hl 4 rfl) ?_
          exact yb_reti hfin (yb_inl hret hf) hw dX12_firstDay_43
set_option maxHeartbeats 4000000 in
set_option maxRecDepth 100000 in
theorem c12_firstDay (l : Launch) (D : va_G) (cz : Nat → ClassId) (ev : Nat × Nat × Nat) (mb : Nat) {N : Nat} {x1 : Int32} {x2 : Int32} {x3 : Int32} {I : IT} {J : JT} {r : Int32} {I1 : IT} {J1 : JT} (hf : f12_firstDay N mb x1 x2 x3 I J = some (r, I1, J1)) : MTi l D cz ev yX12_firstDay cX12_firstDay 5 (some .int) 3 70 [.ref mb, .int x1, .int x2, .int x3] (mlL mb) (mlS mb) (mlR mb) I J r I1 J1 := by
  unfold f12_firstDay at hf
  refine MTi_of (by decide) (Nat.le_of_ble_eq_true rfl) ?_
  intro p e s m args below meth c Q ls X hK hw hl hfin
  have X : CallFix p m c cX12_firstDay 5 s args gw RX12 := X
  have hx := X.1
  have hb := X.2.1
  have hl : lv_has ls 5 [(0, .ref mb), (1, .int x1), (2, .int x2), (3, .int x3)] := hl
  refine lv_iconst (v := (0 : Int32)) hx hb dX12_firstDay_0 (by decide) ?_
  refine lv_istore (lv' := [(4, .int (0 : Int32)), (0, .ref mb), (1, .int x1), (2, .int x2), (3, .int x3)]) hx hb dX12_firstDay_1 hl (by decide) rfl (fun ls hl => ?_)
  obtain ⟨q_19, I_20, J_21, hq_22, hf⟩ := yb_b3_some hf
  refine w12_firstDay_L3 X hK _ _ _ _ _ _ _ _ _ _ hq_22 hw (lv_sub hl [1, 2, 3, 4, 0] rfl) (fun v hv => by rw [hv] at hf; exact hf) hfin (fun x_24 hx1 H locs ls hw hl => ?_)
  rw [hx1] at hf
  have hf := yb_sm_r hf
  refine lv_iconst (v := (-1 : Int32)) hx hb dX12_firstDay_50 (by decide) ?_
  exact yb_reti hfin hf hw dX12_firstDay_51
set_option maxHeartbeats 4000000 in
set_option maxRecDepth 100000 in
theorem w12_isAhead_L2 {p : Program} {l : Launch} {e : Env} {s : State} {m : MethodId} {args : Array Value} {below : List Frame} {meth : Method} {c : Code} {Q : State → Prop} {D : va_G} {cz : Nat → ClassId} {A : Nat → Prop} {ev : Nat × Nat × Nat} {mb : Nat} (X : CallFix p m c cX12_isAhead 2 s args gw RX12) (hK : KX D cz ev A s) {N : Nat} {rM : Int32} {IM : IT} {JM : JT} :
    ∀ (n : Nat) (x1 : Int32) (I : IT) (J : JT) (q : (Int32 ⊕ (Unit))) (I1 : IT) (J1 : JT) (H : Heap) (locs : List Loc) (ls : Array Slot), f12_isAhead_L2 N mb n x1 I J = some (q, I1, J1) → WX D cz A (mlL mb) (mlS mb) (mlR mb) s.heap I J H locs → lv_has ls 2 [(0, .ref mb), (1, .int x1)] →
    (∀ v, q = .inl v → some (v, I1, J1) = some (rM, IM, JM)) → (∀ (H : Heap) (locs : List Loc) (ls : Array Slot) (pc : Nat), bz rM = true → WX D cz A (mlL mb) (mlS mb) (mlR mb) s.heap IM JM H locs → decode cX12_isAhead pc = .ok (.ireturn, 1) → W p l e (rmX 0 0) s m args below meth c H locs 0 0 Q (F0 m pc ls [.int rM])) →
    (∀ xq, q = .inr xq → ∀ (H : Heap) (locs : List Loc) (ls : Array Slot), WX D cz A (mlL mb) (mlS mb) (mlR mb) s.heap I1 J1 H locs → lv_has ls 2 [(0, .ref mb)] → W p l e (rmX 0 0) s m args below meth c H locs 0 0 Q (F0 m 52 ls [])) →
    W p l e (rmX 0 0) s m args below meth c H locs 0 0 Q (F0 m 2 ls []) := by
  have hx := X.1
  have hb := X.2.1
  intro n
  induction n with
  | zero =>
    intro x1 I J q I1 J1 H locs ls hf
    rw [f12_isAhead_L2] at hf
    cases hf
  | succ n ih =>
    intro x1 I J q I1 J1 H locs ls hf hw hl hret hfin hexit
    rw [f12_isAhead_L2] at hf
    refine lv_iload_n hx hb dX12_isAhead_2 rfl (lv_at hl 1 rfl) ?_
    refine lv_aload_n hx hb dX12_isAhead_3 rfl (lv_at hl 0 rfl) ?_
    refine x_getI X hK hw (ml_mem0 mb) (ml_S0 mb) cpX12 25 (by decide) rfl tw_1276 dX12_isAhead_4 ?_
    refine lv_icmp_ge (tgt := 52) hx hb dX12_isAhead_7 (by decide) (fun c_1 => ?_) (fun c_1 => ?_)
    · have hf := yb_pos c_1 hf
      obtain ⟨rfl, rfl, rfl⟩ := yb_inj hf
      exact hexit _ rfl _ _ _ hw (lv_sub hl [0] rfl)
    · have hf := yb_neg c_1 hf
      refine lv_aload_n hx hb dX12_isAhead_10 rfl (lv_at hl 0 rfl) ?_
      refine x_getR X hK hw (ml_mem0 mb) (ml_S0 mb) cpX12 29 (by decide) rfl (ml_R mb 29 rfl) tw_1280 dX12_isAhead_11 ?_
      refine lv_iload_n hx hb dX12_isAhead_14 rfl (lv_at hl 1 rfl) ?_
      obtain ⟨hi_2, hf⟩ := yb_ck_some hf
      refine x_iald X hK hw (ml_mem mb 15 (by decide)) (ml_S mb 15 rfl) hi_2 rfl dX12_isAhead_15 ?_
      refine lv_aload_n hx hb dX12_isAhead_16 rfl (lv_at hl 0 rfl) ?_
      refine x_getR X hK hw (ml_mem0 mb) (ml_S0 mb) cpX12 32 (by decide) rfl (ml_R mb 32 rfl) tw_1283 dX12_isAhead_17 ?_
      refine lv_iload_n hx hb dX12_isAhead_20 rfl (lv_at hl 1 rfl) ?_
      refine x_iald X hK hw (ml_mem mb 18 (by decide)) (ml_S mb 18 rfl) hi_2 rfl dX12_isAhead_21 ?_
      refine lv_icmp_eq (tgt := 46) hx hb dX12_isAhead_22 (by decide) (fun c_3 => ?_) (fun c_3 => ?_)
      · have hf := yb_pos c_3 hf
        obtain ⟨x1_4, ex1_4, hf⟩ := yb_let_ex hf
        refine lv_iinc (v := x1_4) (lv' := [(1, .int x1_4), (0, .ref mb)]) hx hb dX12_isAhead_46 hl (k := 1) rfl (by rw [ex1_4]; rfl) (by decide) rfl (fun ls hl => ?_)
        refine lv_goto (tgt := 2) hx hb dX12_isAhead_49 (by decide) ?_
        exact ih _ _ _ _ _ _ _ _ _ hf hw (lv_sub hl [1, 0] rfl) hret hfin hexit
      · have hf := yb_neg c_3 hf
        refine lv_aload_n hx hb dX12_isAhead_25 rfl (lv_at hl 0 rfl) ?_
        refine x_getR X hK hw (ml_mem0 mb) (ml_S0 mb) cpX12 29 (by decide) rfl (ml_R mb 29 rfl) tw_1280 dX12_isAhead_26 ?_
        refine lv_iload_n hx hb dX12_isAhead_29 rfl (lv_at hl 1 rfl) ?_
        refine x_iald X hK hw (ml_mem mb 15 (by decide)) (ml_S mb 15 rfl) hi_2 rfl dX12_isAhead_30 ?_
        refine lv_aload_n hx hb dX12_isAhead_31 rfl (lv_at hl 0 rfl) ?_
        refine x_getR X hK hw (ml_mem0 mb) (ml_S0 mb) cpX12 32 (by decide) rfl (ml_R mb 32 rfl) tw_1283 dX12_isAhead_32 ?_
        refine lv_iload_n hx hb dX12_isAhead_35 rfl (lv_at hl 1 rfl) ?_
        refine x_iald X hK hw (ml_mem mb 18 (by decide)) (ml_S mb 18 rfl) hi_2 rfl dX12_isAhead_36 ?_
        refine lv_icmp_ge (tgt := 44) hx hb dX12_isAhead_37 (by decide) (fun c_5 => ?_) (fun c_5 => ?_)
        · have hf := yb_pos c_5 hf
          refine lv_iconst (v := (0 : Int32)) hx hb dX12_isAhead_44 (by decide) ?_
          exact yb_retz hfin (by decide) (yb_inl hret hf) hw dX12_isAhead_45
        · have hf := yb_neg c_5 hf
          refine lv_iconst (v := (1 : Int32)) hx hb dX12_isAhead_40 (by decide) ?_
          refine lv_goto (tgt := 45) hx hb dX12_isAhead_41 (by decide) ?_
          exact yb_retz hfin (by decide) (yb_inl hret hf) hw dX12_isAhead_45
set_option maxHeartbeats 4000000 in
set_option maxRecDepth 100000 in
theorem w12_isAhead_L54 {p : Program} {l : Launch} {e : Env} {s : State} {m : MethodId} {args : Array Value} {below : List Frame} {meth : Method} {c : Code} {Q : State → Prop} {D : va_G} {cz : Nat → ClassId} {A : Nat → Prop} {ev : Nat × Nat × Nat} {mb : Nat} (X : CallFix p m c cX12_isAhead 2 s args gw RX12) (hK : KX D cz ev A s) {N : Nat} {rM : Int32} {IM : IT} {JM : JT} :
    ∀ (n : Nat) (x1 : Int32) (I : IT) (J : JT) (q : (Int32 ⊕ (Unit))) (I1 : IT) (J1 : JT) (H : Heap) (locs : List Loc) (ls : Array Slot), f12_isAhead_L54 N mb n x1 I J = some (q, I1, J1) → WX D cz A (mlL mb) (mlS mb) (mlR mb) s.heap I J H locs → lv_has ls 2 [(0, .ref mb), (1, .int x1)] →
    (∀ v, q = .inl v → some (v, I1, J1) = some (rM, IM, JM)) → (∀ (H : Heap) (locs : List Loc) (ls : Array Slot) (pc : Nat), bz rM = true → WX D cz A (mlL mb) (mlS mb) (mlR mb) s.heap IM JM H locs → decode cX12_isAhead pc = .ok (.ireturn, 1) → W p l e (rmX 0 0) s m args below meth c H locs 0 0 Q (F0 m pc ls [.int rM])) →
    (∀ xq, q = .inr xq → ∀ (H : Heap) (locs : List Loc) (ls : Array Slot), WX D cz A (mlL mb) (mlS mb) (mlR mb) s.heap I1 J1 H locs → lv_has ls 2 [] → W p l e (rmX 0 0) s m args below meth c H locs 0 0 Q (F0 m 104 ls [])) →
    W p l e (rmX 0 0) s m args below meth c H locs 0 0 Q (F0 m 54 ls []) := by
  have hx := X.1
  have hb := X.2.1
  intro n
  induction n with
  | zero =>
    intro x1 I J q I1 J1 H locs ls hf
    rw [f12_isAhead_L54] at hf
    cases hf
  | succ n ih =>
    intro x1 I J q I1 J1 H locs ls hf hw hl hret hfin hexit
    rw [f12_isAhead_L54] at hf
    refine lv_iload_n hx hb dX12_isAhead_54 rfl (lv_at hl 1 rfl) ?_
    refine lv_aload_n hx hb dX12_isAhead_55 rfl (lv_at hl 0 rfl) ?_
    refine x_getI X hK hw (ml_mem0 mb) (ml_S0 mb) cpX12 25 (by decide) rfl tw_1276 dX12_isAhead_56 ?_
    refine lv_icmp_ge (tgt := 104) hx hb dX12_isAhead_59 (by decide) (fun c_12 => ?_) (fun c_12 => ?_)
    · have hf := yb_pos c_12 hf
      obtain ⟨rfl, rfl, rfl⟩ := yb_inj hf
      exact hexit _ rfl _ _ _ hw (lv_sub hl [] rfl)
    · have hf := yb_neg c_12 hf
      refine lv_aload_n hx hb dX12_isAhead_62 rfl (lv_at hl 0 rfl) ?_
      refine x_getR X hK hw (ml_mem0 mb) (ml_S0 mb) cpX12 30 (by decide) rfl (ml_R mb 30 rfl) tw_1281 dX12_isAhead_63 ?_
      refine lv_iload_n hx hb dX12_isAhead_66 rfl (lv_at hl 1 rfl) ?_
      obtain ⟨hi_13, hf⟩ := yb_ck_some hf
      refine x_iald X hK hw (ml_mem mb 16 (by decide)) (ml_S mb 16 rfl) hi_13 rfl dX12_isAhead_67 ?_
      refine lv_aload_n hx hb dX12_isAhead_68 rfl (lv_at hl 0 rfl) ?_
      refine x_getR X hK hw (ml_mem0 mb) (ml_S0 mb) cpX12 33 (by decide) rfl (ml_R mb 33 rfl) tw_1284 dX12_isAhead_69 ?_
      refine lv_iload_n hx hb dX12_isAhead_72 rfl (lv_at hl 1 rfl) ?_
      refine x_iald X hK hw (ml_mem mb 19 (by decide)) (ml_S mb 19 rfl) hi_13 rfl dX12_isAhead_73 ?_
      refine lv_icmp_eq (tgt := 98) hx hb dX12_isAhead_74 (by decide) (fun c_14 => ?_) (fun c_14 => ?_)
      · have hf := yb_pos c_14 hf
        obtain ⟨x1_15, ex1_15, hf⟩ := yb_let_ex hf
        refine lv_iinc (v := x1_15) (lv' := [(1, .int x1_15), (0, .ref mb)]) hx hb dX12_isAhead_98 hl (k := 1) rfl (by rw [ex1_15]; rfl) (by decide) rfl (fun ls hl => ?_)
        refine lv_goto (tgt := 54) hx hb dX12_isAhead_101 (by decide) ?_
        exact ih _ _ _ _ _ _ _ _ _ hf hw (lv_sub hl [1, 0] rfl) hret hfin hexit
      · have hf := yb_neg c_14 hf
        refine lv_aload_n hx hb dX12_isAhead_77 rfl (lv_at hl 0 rfl) ?_
        refine x_getR X hK hw (ml_mem0 mb) (ml_S0 mb) cpX12 30 (by decide) rfl (ml_R mb 30 rfl) tw_1281 dX12_isAhead_78 ?_
        refine lv_iload_n hx hb dX12_isAhead_81 rfl (lv_at hl 1 rfl) ?_
        refine x_iald X hK hw (ml_mem mb 16 (by decide)) (ml_S mb 16 rfl) hi_13 rfl dX12_isAhead_82 ?_
        refine lv_aload_n hx hb dX12_isAhead_83 rfl (lv_at hl 0 rfl) ?_
        refine x_getR X hK hw (ml_mem0 mb) (ml_S0 mb) cpX12 33 (by decide) rfl (ml_R mb 33 rfl) tw_1284 dX12_isAhead_84 ?_
        refine lv_iload_n hx hb dX12_isAhead_87 rfl (lv_at hl 1 rfl) ?_
        refine x_iald X hK hw (ml_mem mb 19 (by decide)) (ml_S mb 19 rfl) hi_13 rfl dX12_isAhead_88 ?_
        refine lv_icmp_ge (tgt := 96) hx hb dX12_isAhead_89 (by decide) (fun c_16 => ?_) (fun c_16 => ?_)
        · have hf := yb_pos c_16 hf
          refine lv_iconst (v := (0 : Int32)) hx hb dX12_isAhead_96 (by decide) ?_
          exact yb_retz hfin (by decide) (yb_inl hret hf) hw dX12_isAhead_97
        · have hf := yb_neg c_16 hf
          refine lv_iconst (v := (1 : Int32)) hx hb dX12_isAhead_92 (by decide) ?_
          refine lv_goto (tgt := 97) hx hb dX12_isAhead_93 (by decide) ?_
          exact yb_retz hfin (by decide) (yb_inl hret hf) hw dX12_isAhead_97
set_option maxHeartbeats 4000000 in
set_option maxRecDepth 100000 in
theorem c12_isAhead (l : Launch) (D : va_G) (cz : Nat → ClassId) (ev : Nat × Nat × Nat) (mb : Nat) {N : Nat} {I : IT} {J : JT} {r : Int32} {I1 : IT} {J1 : JT} (hf : f12_isAhead N mb I J = some (r, I1, J1)) : MTi l D cz ev yX12_isAhead cX12_isAhead 2 (some .boolean) 0 0 [.ref mb] (mlL mb) (mlS mb) (mlR mb) I J r I1 J1 := by
  unfold f12_isAhead at hf
  refine MTz_of (by decide) (Nat.le_of_ble_eq_true rfl) ?_
  intro p e s m args below meth c Q ls X hK hw hl hfin
  have X : CallFix p m c cX12_isAhead 2 s args gw RX12 := X
  have hx := X.1
  have hb := X.2.1
  have hl : lv_has ls 2 [(0, .ref mb)] := hl
  refine lv_iconst (v := (0 : Int32)) hx hb dX12_isAhead_0 (by decide) ?_
  refine lv_istore_n (lv' := [(1, .int (0 : Int32)), (0, .ref mb)]) hx hb dX12_isAhead_1 rfl hl (by decide) rfl (fun ls hl => ?_)
  obtain ⟨q_6, I_7, J_8, hq_9, hf⟩ := yb_b3_some hf
  refine w12_isAhead_L2 X hK _ _ _ _ _ _ _ _ _ _ hq_9 hw (lv_sub hl [1, 0] rfl) (fun v hv => by rw [hv] at hf; exact hf) hfin (fun x_11 hx1 H locs ls hw hl => ?_)
  rw [hx1] at hf
  have hf := yb_sm_r hf
  refine lv_iconst (v := (0 : Int32)) hx hb dX12_isAhead_52 (by decide) ?_
  refine lv_istore_n (lv' := [(1, .int (0 : Int32)), (0, .ref mb)]) hx hb dX12_isAhead_53 rfl hl (by decide) rfl (fun ls hl => ?_)
  obtain ⟨q_17, I_18, J_19, hq_20, hf⟩ := yb_b3_some hf
  refine w12_isAhead_L54 X hK _ _ _ _ _ _ _ _ _ _ hq_20 hw (lv_sub hl [1, 0] rfl) (fun v hv => by rw [hv] at hf; exact hf) hfin (fun x_22 hx1 H locs ls hw hl => ?_)
  rw [hx1] at hf
  have hf := yb_sm_r hf
  refine lv_iconst (v := (0 : Int32)) hx hb dX12_isAhead_104 (by decide) ?_
  exact yb_retz hfin (by decide) hf hw dX12_isAhead_105
set_option maxHeartbeats 4000000 in
set_option maxRecDepth 100000 in
theorem w12_countsRow_L6 {p : Program} {l : Launch} {e : Env} {s : State} {m : MethodId} {args : Array Value} {below : List Frame} {meth : Method} {c : Code} {Q : State → Prop} {D : va_G} {cz : Nat → ClassId} {A : Nat → Prop} {ev : Nat × Nat × Nat} {mb : Nat} (X : CallFix p m c cX12_countsRow 5 s args gw RX12) (hK : KX D cz ev A s) {N : Nat} :
    ∀ (n : Nat) (x1 : Int32) (x2 : Int32) (x3 : Int32) (I : IT) (J : JT) (q : (Int32 × Int32)) (I1 : IT) (J1 : JT) (H : Heap) (locs : List Loc) (ls : Array Slot), f12_countsRow_L6 N mb n x1 x2 x3 I J = some (q, I1, J1) → WX D cz A (mlL mb) (mlS mb) (mlR mb) s.heap I J H locs → lv_has ls 5 [(0, .ref mb), (1, .int x1), (2, .int x2), (3, .int x3)] →
    (∀ (H : Heap) (locs : List Loc) (ls : Array Slot), WX D cz A (mlL mb) (mlS mb) (mlR mb) s.heap I1 J1 H locs → lv_has ls 5 [(0, .ref mb), (1, .int q.1), (2, .int q.2)] → W p l e (rmX 2 43) s m args below meth c H locs 0 0 Q (F0 m 83 ls [])) →
    W p l e (rmX 2 43) s m args below meth c H locs 0 0 Q (F0 m 6 ls []) := by
  have hx := X.1
  have hb := X.2.1
  intro n
  induction n with
  | zero =>
    intro x1 x2 x3 I J q I1 J1 H locs ls hf
    rw [f12_countsRow_L6] at hf
    cases hf
  | succ n ih =>
    intro x1 x2 x3 I J q I1 J1 H locs ls hf hw hl hexit
    rw [f12_countsRow_L6] at hf
    refine lv_iload_n hx hb dX12_countsRow_6 rfl (lv_at hl 3 rfl) ?_
    refine lv_aload_n hx hb dX12_countsRow_7 rfl (lv_at hl 0 rfl) ?_
    refine x_getI X hK hw (ml_mem0 mb) (ml_S0 mb) cpX12 25 (by decide) rfl tw_1276 dX12_countsRow_8 ?_
    refine lv_icmp_ge (tgt := 83) hx hb dX12_countsRow_11 (by decide) (fun c_1 => ?_) (fun c_1 => ?_)
    · have hf := yb_pos c_1 hf
      obtain ⟨rfl, rfl, rfl⟩ := yb_inj hf
      exact hexit _ _ _ hw (lv_sub hl [0, 1, 2] rfl)
    · have hf := yb_neg c_1 hf
      refine lv_aload_n hx hb dX12_countsRow_14 rfl (lv_at hl 0 rfl) ?_
      refine x_getR X hK hw (ml_mem0 mb) (ml_S0 mb) cpX12 31 (by decide) rfl (ml_R mb 31 rfl) tw_1282 dX12_countsRow_15 ?_
      refine lv_iload_n hx hb dX12_countsRow_18 rfl (lv_at hl 3 rfl) ?_
      obtain ⟨hi_2, hf⟩ := yb_ck_some hf
      refine x_iald X hK hw (ml_mem mb 17 (by decide)) (ml_S mb 17 rfl) hi_2 rfl dX12_countsRow_19 ?_
      refine lv_aload_n hx hb dX12_countsRow_20 rfl (lv_at hl 0 rfl) ?_
      refine lv_aload_n hx hb dX12_countsRow_21 rfl (lv_at hl 0 rfl) ?_
      refine x_getR X hK hw (ml_mem0 mb) (ml_S0 mb) cpX12 29 (by decide) rfl (ml_R mb 29 rfl) tw_1280 dX12_countsRow_22 ?_
      refine lv_iload_n hx hb dX12_countsRow_25 rfl (lv_at hl 3 rfl) ?_
      refine x_iald X hK hw (ml_mem mb 15 (by decide)) (ml_S mb 15 rfl) hi_2 rfl dX12_countsRow_26 ?_
      obtain ⟨r_3, I_4, J_5, hq_6, hf⟩ := yb_b3_some hf
      refine x_calli X hK hw (c12_lengthOf l D cz ev mb hq_6) (ml_mem0 mb) (ml_S0 mb) cpX12.1 vw_X12_404 ⟨Nat.le_of_ble_eq_true rfl, Nat.le_of_ble_eq_true rfl⟩ rfl rfl (Nat.le_of_ble_eq_true rfl) hl.1 ⟨Nat.le_refl _, Nat.le_refl _⟩ dX12_countsRow_27 (fun H locs hw => ?_)
      refine lv_iadd hx hb dX12_countsRow_30 ?_
      refine lv_iconst (v := (1 : Int32)) hx hb dX12_countsRow_31 (by decide) ?_
      refine lv_isub hx hb dX12_countsRow_32 ?_
      refine lv_topi (fun x4_7 ex4_7 => ?_)
      have hf := yb_let_to ex4_7 hf
      refine lv_istore (lv' := [(4, .int x4_7), (0, .ref mb), (1, .int x1), (2, .int x2), (3, .int x3)]) hx hb dX12_countsRow_33 hl (by decide) rfl (fun ls hl => ?_)
      refine lv_iload_n hx hb dX12_countsRow_35 rfl (lv_at hl 2 rfl) ?_
      refine lv_aload_n hx hb dX12_countsRow_36 rfl (lv_at hl 1 rfl) ?_
      refine x_getR X hK hw (ml_mem0 mb) (ml_S0 mb) cpX12 28 (by decide) rfl (ml_R mb 28 rfl) tw_1279 dX12_countsRow_37 ?_
      refine lv_aload_n hx hb dX12_countsRow_40 rfl (lv_at hl 1 rfl) ?_
      refine x_getR X hK hw (ml_mem0 mb) (ml_S0 mb) cpX12 29 (by decide) rfl (ml_R mb 29 rfl) tw_1280 dX12_countsRow_41 ?_
      refine lv_iload_n hx hb dX12_countsRow_44 rfl (lv_at hl 4 rfl) ?_
      refine x_iald X hK hw (ml_mem mb 15 (by decide)) (ml_S mb 15 rfl) hi_2 rfl dX12_countsRow_45 ?_
      refine lv_aload_n hx hb dX12_countsRow_46 rfl (lv_at hl 1 rfl) ?_
      refine x_getR X hK hw (ml_mem0 mb) (ml_S0 mb) cpX12 30 (by decide) rfl (ml_R mb 30 rfl) tw_1281 dX12_countsRow_47 ?_
      refine lv_iload_n hx hb dX12_countsRow_50 rfl (lv_at hl 4 rfl) ?_
      refine x_iald X hK hw (ml_mem mb 16 (by decide)) (ml_S mb 16 rfl) hi_2 rfl dX12_countsRow_51 ?_
      refine lv_aload_n hx hb dX12_countsRow_52 rfl (lv_at hl 1 rfl) ?_
      refine x_getR X hK hw (ml_mem0 mb) (ml_S0 mb) cpX12 31 (by decide) rfl (ml_R mb 31 rfl) tw_1282 dX12_countsRow_53 ?_
      refine lv_iload_n hx hb dX12_countsRow_56 rfl (lv_at hl 4 rfl) ?_
      refine x_iald X hK hw (ml_mem mb 17 (by decide)) (ml_S mb 17 rfl) hi_2 rfl dX12_countsRow_57 ?_
      obtain ⟨r_8, I_9, J_10, hq_11, hf⟩ := yb_b3_some hf
      refine x_callsi X hK hw (c12_spot l D cz ev mb hq_11) sw_X12_401 ⟨Nat.le_of_ble_eq_true rfl, Nat.le_of_ble_eq_true rfl⟩ rfl rfl (Nat.le_of_ble_eq_true rfl) hl.1 ⟨Nat.le_refl _, Nat.le_refl _⟩ dX12_countsRow_58 (fun H locs hw => ?_)
      obtain ⟨hi_12, hf⟩ := yb_ck_some hf
      refine x_iald X hK hw (ml_mem mb 14 (by decide)) (ml_S mb 14 rfl) hi_12 rfl dX12_countsRow_61 ?_
      refine lv_iadd hx hb dX12_countsRow_62 ?_
      refine lv_topi (fun x1_13 ex1_13 => ?_)
      have hf := yb_let_to ex1_13 hf
      refine lv_istore_n (lv' := [(1, .int x1_13), (4, .int x4_7), (0, .ref mb), (2, .int x2), (3, .int x3)]) hx hb dX12_countsRow_63 rfl hl (by decide) rfl (fun ls hl => ?_)
      refine lv_iload hx hb dX12_countsRow_64 (lv_at hl 1 rfl) ?_
      refine lv_iload_n hx hb dX12_countsRow_66 rfl (lv_at hl 3 rfl) ?_
      refine lv_icmp_le (tgt := 75) hx hb dX12_countsRow_67 (by decide) (fun c_14 => ?_) (fun c_14 => ?_)
      · have hf := yb_pos c_14 hf
        refine lv_iload_n hx hb dX12_countsRow_75 rfl (lv_at hl 3 rfl) ?_
        refine lv_istore_n (lv' := [(2, .int x2), (1, .int x1_13), (4, .int x4_7), (0, .ref mb), (3, .int x3)]) hx hb dX12_countsRow_76 rfl hl (by decide) rfl (fun ls hl => ?_)
        obtain ⟨x3_15, ex3_15, hf⟩ := yb_let_ex hf
        refine lv_iinc (v := x3_15) (lv' := [(3, .int x3_15), (2, .int x2), (1, .int x1_13), (4, .int x4_7), (0, .ref mb)]) hx hb dX12_countsRow_77 hl (k := 4) rfl (by rw [ex3_15]; rfl) (by decide) rfl (fun ls hl => ?_)
        refine lv_goto (tgt := 6) hx hb dX12_countsRow_80 (by decide) ?_
        exact ih _ _ _ _ _ _ _ _ _ _ _ hf hw (lv_sub hl [4, 2, 1, 0] rfl) hexit
      · have hf := yb_neg c_14 hf
        refine lv_iload hx hb dX12_countsRow_70 (lv_at hl 1 rfl) ?_
        refine lv_goto (tgt := 76) hx hb dX12_countsRow_72 (by decide) ?_
        refine lv_istore_n (lv' := [(2, .int x4_7), (1, .int x1_13), (4, .int x4_7), (0, .ref mb), (3, .int x3)]) hx hb dX12_countsRow_76 rfl hl (by decide) rfl (fun ls hl => ?_)
        obtain ⟨x3_16, ex3_16, hf⟩ := yb_let_ex hf
        refine lv_iinc (v := x3_16) (lv' := [(3, .int x3_16), (2, .int x4_7), (1, .int x1_13), (4, .int x4_7), (0, .ref mb)]) hx hb dX12_countsRow_77 hl (k := 4) rfl (by rw [ex3_16]; rfl) (by decide) rfl (fun ls hl => ?_)
        refine lv_goto (tgt := 6) hx hb dX12_countsRow_80 (by decide) ?_
        exact ih _ _ _ _ _ _ _ _ _ _ _ hf hw (lv_sub hl [4, 2, 1, 0] rfl) hexit
set_option maxHeartbeats 4000000 in
set_option maxRecDepth 100000 in
theorem w12_countsRow_L144 {p : Program} {l : Launch} {e : Env} {s : State} {m : MethodId} {args : Array Value} {below : List Frame} {meth : Method} {c : Code} {Q : State → Prop} {D : va_G} {cz : Nat → ClassId} {A : Nat → Prop} {ev : Nat × Nat × Nat} {mb : Nat} (X : CallFix p m c cX12_countsRow 5 s args gw RX12) (hK : KX D cz ev A s) {N : Nat} :
    ∀ (n : Nat) (x3 : Int32) (I : IT) (J : JT) (q : (Unit)) (I1 : IT) (J1 : JT) (H : Heap) (locs : List Loc) (ls : Array Slot), f12_countsRow_L144 N mb n x3 I J = some (q, I1, J1) → WX D cz A (mlL mb) (mlS mb) (mlR mb) s.heap I J H locs → lv_has ls 5 [(0, .ref mb), (3, .int x3)] →
    (∀ (H : Heap) (locs : List Loc) (ls : Array Slot), WX D cz A (mlL mb) (mlS mb) (mlR mb) s.heap I1 J1 H locs → lv_has ls 5 [] → W p l e (rmX 2 43) s m args below meth c H locs 0 0 Q (F0 m 194 ls [])) →
    W p l e (rmX 2 43) s m args below meth c H locs 0 0 Q (F0 m 144 ls []) := by
  have hx := X.1
  have hb := X.2.1
  intro n
  induction n with
  | zero =>
    intro x3 I J q I1 J1 H locs ls hf
    rw [f12_countsRow_L144] at hf
    cases hf
  | succ n ih =>
    intro x3 I J q I1 J1 H locs ls hf hw hl hexit
    rw [f12_countsRow_L144] at hf
    refine lv_iload_n hx hb dX12_countsRow_144 rfl (lv_at hl 1 rfl) ?_
    refine lv_aload_n hx hb dX12_countsRow_145 rfl (lv_at hl 0 rfl) ?_
    refine x_getI X hK hw (ml_mem0 mb) (ml_S0 mb) cpX12 25 (by decide) rfl tw_1276 dX12_countsRow_146 ?_
    refine lv_icmp_ge (tgt := 194) hx hb dX12_countsRow_149 (by decide) (fun c_26 => ?_) (fun c_26 => ?_)
    · have hf := yb_pos c_26 hf
      obtain ⟨rfl, rfl, rfl⟩ := yb_inj hf
      exact hexit _ _ _ hw (lv_sub hl [] rfl)
    · have hf := yb_neg c_26 hf
      refine lv_aload_n hx hb dX12_countsRow_152 rfl (lv_at hl 0 rfl) ?_
      refine x_getR X hK hw (ml_mem0 mb) (ml_S0 mb) cpX12 32 (by decide) rfl (ml_R mb 32 rfl) tw_1283 dX12_countsRow_153 ?_
      refine lv_iload_n hx hb dX12_countsRow_156 rfl (lv_at hl 1 rfl) ?_
      refine lv_aload_n hx hb dX12_countsRow_157 rfl (lv_at hl 0 rfl) ?_
      refine x_getR X hK hw (ml_mem0 mb) (ml_S0 mb) cpX12 29 (by decide) rfl (ml_R mb 29 rfl) tw_1280 dX12_countsRow_158 ?_
      refine lv_iload_n hx hb dX12_countsRow_161 rfl (lv_at hl 1 rfl) ?_
      obtain ⟨hi_27, hf⟩ := yb_ck_some hf
      refine x_iald X hK hw (ml_mem mb 15 (by decide)) (ml_S mb 15 rfl) hi_27 rfl dX12_countsRow_162 ?_
      refine x_iast X hK hw (ml_mem mb 18 (by decide)) (ml_S mb 18 rfl) hi_27 rfl dX12_countsRow_163 (fun H locs hw => ?_)
      obtain ⟨I_28, eI_28, hf⟩ := yb_let_ex hf
      have hw := yb_wI eI_28 hw
      refine lv_aload_n hx hb dX12_countsRow_164 rfl (lv_at hl 0 rfl) ?_
      refine x_getR X hK hw (ml_mem0 mb) (ml_S0 mb) cpX12 33 (by decide) rfl (ml_R mb 33 rfl) tw_1284 dX12_countsRow_165 ?_
      refine lv_iload_n hx hb dX12_countsRow_168 rfl (lv_at hl 1 rfl) ?_
      refine lv_aload_n hx hb dX12_countsRow_169 rfl (lv_at hl 0 rfl) ?_
      refine x_getR X hK hw (ml_mem0 mb) (ml_S0 mb) cpX12 30 (by decide) rfl (ml_R mb 30 rfl) tw_1281 dX12_countsRow_170 ?_
      refine lv_iload_n hx hb dX12_countsRow_173 rfl (lv_at hl 1 rfl) ?_
      refine x_iald X hK hw (ml_mem mb 16 (by decide)) (ml_S mb 16 rfl) hi_27 rfl dX12_countsRow_174 ?_
      refine x_iast X hK hw (ml_mem mb 19 (by decide)) (ml_S mb 19 rfl) hi_27 rfl dX12_countsRow_175 (fun H locs hw => ?_)
      obtain ⟨I_29, eI_29, hf⟩ := yb_let_ex hf
      have hw := yb_wI eI_29 hw
      refine lv_aload_n hx hb dX12_countsRow_176 rfl (lv_at hl 0 rfl) ?_
      refine x_getR X hK hw (ml_mem0 mb) (ml_S0 mb) cpX12 34 (by decide) rfl (ml_R mb 34 rfl) tw_1285 dX12_countsRow_177 ?_
      refine lv_iload_n hx hb dX12_countsRow_180 rfl (lv_at hl 1 rfl) ?_
      refine lv_aload_n hx hb dX12_countsRow_181 rfl (lv_at hl 0 rfl) ?_
      refine x_getR X hK hw (ml_mem0 mb) (ml_S0 mb) cpX12 31 (by decide) rfl (ml_R mb 31 rfl) tw_1282 dX12_countsRow_182 ?_
      refine lv_iload_n hx hb dX12_countsRow_185 rfl (lv_at hl 1 rfl) ?_
      refine x_iald X hK hw (ml_mem mb 17 (by decide)) (ml_S mb 17 rfl) hi_27 rfl dX12_countsRow_186 ?_
      refine x_iast X hK hw (ml_mem mb 20 (by decide)) (ml_S mb 20 rfl) hi_27 rfl dX12_countsRow_187 (fun H locs hw => ?_)
      obtain ⟨I_30, eI_30, hf⟩ := yb_let_ex hf
      have hw := yb_wI eI_30 hw
      obtain ⟨x3_31, ex3_31, hf⟩ := yb_let_ex hf
      refine lv_iinc (v := x3_31) (lv' := [(3, .int x3_31), (0, .ref mb)]) hx hb dX12_countsRow_188 hl (k := 1) rfl (by rw [ex3_31]; rfl) (by decide) rfl (fun ls hl => ?_)
      refine lv_goto (tgt := 144) hx hb dX12_countsRow_191 (by decide) ?_
      exact ih _ _ _ _ _ _ _ _ _ hf hw (lv_sub hl [1, 0] rfl) hexit
set_option maxHeartbeats 4000000 in
set_option maxRecDepth 100000 in
theorem c12_countsRow (l : Launch) (D : va_G) (cz : Nat → ClassId) (ev : Nat × Nat × Nat) (mb : Nat) {N : Nat} {I : IT} {J : JT} {r : Unit} {I1 : IT} {J1 : JT} (hf : f12_countsRow N mb I J = some (r, I1, J1)) : MTv l D cz ev yX12_countsRow cX12_countsRow 5 (none) 2 43 [.ref mb] (mlL mb) (mlS mb) (mlR mb) I J r I1 J1 := by
  unfold f12_countsRow at hf
  refine MTv_of (by decide) (Nat.le_of_ble_eq_true rfl) ?_
  intro p e s m args below meth c Q ls X hK hw hl hfin
  have X : CallFix p m c cX12_countsRow 5 s args gw RX12 := X
  have hx := X.1
  have hb := X.2.1
  have hl : lv_has ls 5 [(0, .ref mb)] := hl
  refine lv_iconst (v := (0 : Int32)) hx hb dX12_countsRow_0 (by decide) ?_
  refine lv_istore_n (lv' := [(1, .int (0 : Int32)), (0, .ref mb)]) hx hb dX12_countsRow_1 rfl hl (by decide) rfl (fun ls hl => ?_)
  refine lv_iconst (v := (-1 : Int32)) hx hb dX12_countsRow_2 (by decide) ?_
  refine lv_istore_n (lv' := [(2, .int (-1 : Int32)), (1, .int (0 : Int32)), (0, .ref mb)]) hx hb dX12_countsRow_3 rfl hl (by decide) rfl (fun ls hl => ?_)
  refine lv_iconst (v := (0 : Int32)) hx hb dX12_countsRow_4 (by decide) ?_
  refine lv_istore_n (lv' := [(3, .int (0 : Int32)), (2, .int (-1 : Int32)), (1, .int (0 : Int32)), (0, .ref mb)]) hx hb dX12_countsRow_5 rfl hl (by decide) rfl (fun ls hl => ?_)
  obtain ⟨q_17, I_18, J_19, hq_20, hf⟩ := yb_b3_some hf
  refine w12_countsRow_L6 X hK _ _ _ _ _ _ _ _ _ _ _ _ hq_20 hw (lv_sub hl [3, 2, 1, 0] rfl) (fun H locs ls hw hl => ?_)
  refine lv_iload_n hx hb dX12_countsRow_83 rfl (lv_at hl 1 rfl) ?_
  refine lv_aload_n hx hb dX12_countsRow_84 rfl (lv_at hl 0 rfl) ?_
  refine x_getI X hK hw (ml_mem0 mb) (ml_S0 mb) cpX12 35 (by decide) rfl tw_1286 dX12_countsRow_85 ?_
  refine lv_icmp_lt (tgt := 107) hx hb dX12_countsRow_88 (by decide) (fun c_21 => ?_) (fun c_21 => ?_)
  · have hf := yb_pos c_21 hf
    exact yb_retv hfin hf hw dX12_countsRow_107
  · have hf := yb_neg c_21 hf
    refine lv_iload_n hx hb dX12_countsRow_91 rfl (lv_at hl 1 rfl) ?_
    refine lv_aload_n hx hb dX12_countsRow_92 rfl (lv_at hl 0 rfl) ?_
    refine x_getI X hK hw (ml_mem0 mb) (ml_S0 mb) cpX12 35 (by decide) rfl tw_1286 dX12_countsRow_93 ?_
    refine lv_icmp_ne (tgt := 108) hx hb dX12_countsRow_96 (by decide) (fun c_22 => ?_) (fun c_22 => ?_)
    · have hf := yb_neg c_22 hf
      refine lv_iload_n hx hb dX12_countsRow_108 rfl (lv_at hl 1 rfl) ?_
      refine lv_aload_n hx hb dX12_countsRow_109 rfl (lv_at hl 0 rfl) ?_
      refine x_getI X hK hw (ml_mem0 mb) (ml_S0 mb) cpX12 35 (by decide) rfl tw_1286 dX12_countsRow_110 ?_
      refine lv_icmp_ne (tgt := 132) hx hb dX12_countsRow_113 (by decide) (fun c_23 => ?_) (fun c_23 => ?_)
      · have hf := yb_neg c_23 hf
        refine lv_aload_n hx hb dX12_countsRow_132 rfl (lv_at hl 0 rfl) ?_
        refine lv_iload_n hx hb dX12_countsRow_133 rfl (lv_at hl 1 rfl) ?_
        refine x_putI X hK hw (ml_mem0 mb) (ml_S0 mb) cpX12 35 (by decide) rfl rfl rfl tw_1286 dX12_countsRow_134 (fun H locs hw => ?_)
        obtain ⟨I_24, eI_24, hf⟩ := yb_let_ex hf
        have hw := yb_wI eI_24 hw
        refine lv_aload_n hx hb dX12_countsRow_137 rfl (lv_at hl 0 rfl) ?_
        refine lv_iload_n hx hb dX12_countsRow_138 rfl (lv_at hl 2 rfl) ?_
        refine x_putI X hK hw (ml_mem0 mb) (ml_S0 mb) cpX12 36 (by decide) rfl rfl rfl tw_1287 dX12_countsRow_139 (fun H locs hw => ?_)
        obtain ⟨I_25, eI_25, hf⟩ := yb_let_ex hf
        have hw := yb_wI eI_25 hw
        refine lv_iconst (v := (0 : Int32)) hx hb dX12_countsRow_142 (by decide) ?_
        refine lv_istore_n (lv' := [(3, .int (0 : Int32)), (0, .ref mb), (1, .int q_17.1), (2, .int q_17.2)]) hx hb dX12_countsRow_143 rfl hl (by decide) rfl (fun ls hl => ?_)
        obtain ⟨q_32, I_33, J_34, hq_35, hf⟩ := yb_b3_some hf
        refine w12_countsRow_L144 X hK _ _ _ _ _ _ _ _ _ _ hq_35 hw (lv_sub hl [1, 0] rfl) (fun H locs ls hw hl => ?_)
        exact yb_retv hfin hf hw dX12_countsRow_194
      · have hf := yb_pos c_23 hf
        refine lv_iload_n hx hb dX12_countsRow_116 rfl (lv_at hl 2 rfl) ?_
        refine lv_aload_n hx hb dX12_countsRow_117 rfl (lv_at hl 0 rfl) ?_
        refine x_getI X hK hw (ml_mem0 mb) (ml_S0 mb) cpX12 36 (by decide) rfl tw_1287 dX12_countsRow_118 ?_
        refine lv_icmp_ne (tgt := 132) hx hb dX12_countsRow_121 (by decide) (fun c_36 => ?_) (fun c_36 => ?_)
        · have hf := yb_neg c_36 hf
          refine lv_aload_n hx hb dX12_countsRow_132 rfl (lv_at hl 0 rfl) ?_
          refine lv_iload_n hx hb dX12_countsRow_133 rfl (lv_at hl 1 rfl) ?_
          refine x_putI X hK hw (ml_mem0 mb) (ml_S0 mb) cpX12 35 (by decide) rfl rfl rfl tw_1286 dX12_countsRow_134 (fun H locs hw => ?_)
          obtain ⟨I_37, eI_37, hf⟩ := yb_let_ex hf
          have hw := yb_wI eI_37 hw
          refine lv_aload_n hx hb dX12_countsRow_137 rfl (lv_at hl 0 rfl) ?_
          refine lv_iload_n hx hb dX12_countsRow_138 rfl (lv_at hl 2 rfl) ?_
          refine x_putI X hK hw (ml_mem0 mb) (ml_S0 mb) cpX12 36 (by decide) rfl rfl rfl tw_1287 dX12_countsRow_139 (fun H locs hw => ?_)
          obtain ⟨I_38, eI_38, hf⟩ := yb_let_ex hf
          have hw := yb_wI eI_38 hw
          refine lv_iconst (v := (0 : Int32)) hx hb dX12_countsRow_142 (by decide) ?_
          refine lv_istore_n (lv' := [(3, .int (0 : Int32)), (0, .ref mb), (1, .int q_17.1), (2, .int q_17.2)]) hx hb dX12_countsRow_143 rfl hl (by decide) rfl (fun ls hl => ?_)
          obtain ⟨q_39, I_40, J_41, hq_42, hf⟩ := yb_b3_some hf
          refine w12_countsRow_L144 X hK _ _ _ _ _ _ _ _ _ _ hq_42 hw (lv_sub hl [1, 0] rfl) (fun H locs ls hw hl => ?_)
          exact yb_retv hfin hf hw dX12_countsRow_194
        · have hf := yb_pos c_36 hf
          refine lv_aload_n hx hb dX12_countsRow_124 rfl (lv_at hl 0 rfl) ?_
          obtain ⟨r_43, I_44, J_45, hq_46, hf⟩ := yb_b3_some hf
          refine x_calli X hK hw (c12_isAhead l D cz ev mb hq_46) (ml_mem0 mb) (ml_S0 mb) cpX12.1 vw_X12_416 ⟨Nat.le_of_ble_eq_true rfl, Nat.le_of_ble_eq_true rfl⟩ rfl rfl (Nat.le_of_ble_eq_true rfl) hl.1 ⟨Nat.le_refl _, Nat.le_refl _⟩ dX12_countsRow_125 (fun H locs hw => ?_)
          refine lv_if_ne (tgt := 132) hx hb dX12_countsRow_128 (by decide) (fun c_47 => ?_) (fun c_47 => ?_)
          · have hf := yb_neg c_47 hf
            refine lv_aload_n hx hb dX12_countsRow_132 rfl (lv_at hl 0 rfl) ?_
            refine lv_iload_n hx hb dX12_countsRow_133 rfl (lv_at hl 1 rfl) ?_
            refine x_putI X hK hw (ml_mem0 mb) (ml_S0 mb) cpX12 35 (by decide) rfl rfl rfl tw_1286 dX12_countsRow_134 (fun H locs hw => ?_)
            obtain ⟨I_48, eI_48, hf⟩ := yb_let_ex hf
            have hw := yb_wI eI_48 hw
            refine lv_aload_n hx hb dX12_countsRow_137 rfl (lv_at hl 0 rfl) ?_
            refine lv_iload_n hx hb dX12_countsRow_138 rfl (lv_at hl 2 rfl) ?_
            refine x_putI X hK hw (ml_mem0 mb) (ml_S0 mb) cpX12 36 (by decide) rfl rfl rfl tw_1287 dX12_countsRow_139 (fun H locs hw => ?_)
            obtain ⟨I_49, eI_49, hf⟩ := yb_let_ex hf
            have hw := yb_wI eI_49 hw
            refine lv_iconst (v := (0 : Int32)) hx hb dX12_countsRow_142 (by decide) ?_
            refine lv_istore_n (lv' := [(3, .int (0 : Int32)), (0, .ref mb), (1, .int q_17.1), (2, .int q_17.2)]) hx hb dX12_countsRow_143 rfl hl (by decide) rfl (fun ls hl => ?_)
            obtain ⟨q_50, I_51, J_52, hq_53, hf⟩ := yb_b3_some hf
            refine w12_countsRow_L144 X hK _ _ _ _ _ _ _ _ _ _ hq_53 hw (lv_sub hl [1, 0] rfl) (fun H locs ls hw hl => ?_)
            exact yb_retv hfin hf hw dX12_countsRow_194
          · have hf := yb_pos c_47 hf
            exact yb_retv hfin hf hw dX12_countsRow_131
    · have hf := yb_pos c_22 hf
      refine lv_iload_n hx hb dX12_countsRow_99 rfl (lv_at hl 2 rfl) ?_
      refine lv_aload_n hx hb dX12_countsRow_100 rfl (lv_at hl 0 rfl) ?_
      refine x_getI X hK hw (ml_mem0 mb) (ml_S0 mb) cpX12 36 (by decide) rfl tw_1287 dX12_countsRow_101 ?_
      refine lv_icmp_le (tgt := 108) hx hb dX12_countsRow_104 (by decide) (fun c_54 => ?_) (fun c_54 => ?_)
      · have hf := yb_pos c_54 hf
        refine lv_iload_n hx hb dX12_countsRow_108 rfl (lv_at hl 1 rfl) ?_
        refine lv_aload_n hx hb dX12_countsRow_109 rfl (lv_at hl 0 rfl) ?_
        refine x_getI X hK hw (ml_mem0 mb) (ml_S0 mb) cpX12 35 (by decide) rfl tw_1286 dX12_countsRow_110 ?_
        refine lv_icmp_ne (tgt := 132) hx hb dX12_countsRow_113 (by decide) (fun c_55 => ?_) (fun c_55 => ?_)
        · have hf := yb_neg c_55 hf
          refine lv_aload_n hx hb dX12_countsRow_132 rfl (lv_at hl 0 rfl) ?_
          refine lv_iload_n hx hb dX12_countsRow_133 rfl (lv_at hl 1 rfl) ?_
          refine x_putI X hK hw (ml_mem0 mb) (ml_S0 mb) cpX12 35 (by decide) rfl rfl rfl tw_1286 dX12_countsRow_134 (fun H locs hw => ?_)
          obtain ⟨I_56, eI_56, hf⟩ := yb_let_ex hf
          have hw := yb_wI eI_56 hw
          refine lv_aload_n hx hb dX12_countsRow_137 rfl (lv_at hl 0 rfl) ?_
          refine lv_iload_n hx hb dX12_countsRow_138 rfl (lv_at hl 2 rfl) ?_
          refine x_putI X hK hw (ml_mem0 mb) (ml_S0 mb) cpX12 36 (by decide) rfl rfl rfl tw_1287 dX12_countsRow_139 (fun H locs hw => ?_)
          obtain ⟨I_57, eI_57, hf⟩ := yb_let_ex hf
          have hw := yb_wI eI_57 hw
          refine lv_iconst (v := (0 : Int32)) hx hb dX12_countsRow_142 (by decide) ?_
          refine lv_istore_n (lv' := [(3, .int (0 : Int32)), (0, .ref mb), (1, .int q_17.1), (2, .int q_17.2)]) hx hb dX12_countsRow_143 rfl hl (by decide) rfl (fun ls hl => ?_)
          obtain ⟨q_58, I_59, J_60, hq_61, hf⟩ := yb_b3_some hf
          refine w12_countsRow_L144 X hK _ _ _ _ _ _ _ _ _ _ hq_61 hw (lv_sub hl [1, 0] rfl) (fun H locs ls hw hl => ?_)
          exact yb_retv hfin hf hw dX12_countsRow_194
        · have hf := yb_pos c_55 hf
          refine lv_iload_n hx hb dX12_countsRow_116 rfl (lv_at hl 2 rfl) ?_
          refine lv_aload_n hx hb dX12_countsRow_117 rfl (lv_at hl 0 rfl) ?_
          refine x_getI X hK hw (ml_mem0 mb) (ml_S0 mb) cpX12 36 (by decide) rfl tw_1287 dX12_countsRow_118 ?_
          refine lv_icmp_ne (tgt := 132) hx hb dX12_countsRow_121 (by decide) (fun c_62 => ?_) (fun c_62 => ?_)
          · have hf := yb_neg c_62 hf
            refine lv_aload_n hx hb dX12_countsRow_132 rfl (lv_at hl 0 rfl) ?_
            refine lv_iload_n hx hb dX12_countsRow_133 rfl (lv_at hl 1 rfl) ?_
            refine x_putI X hK hw (ml_mem0 mb) (ml_S0 mb) cpX12 35 (by decide) rfl rfl rfl tw_1286 dX12_countsRow_134 (fun H locs hw => ?_)
            obtain ⟨I_63, eI_63, hf⟩ := yb_let_ex hf
            have hw := yb_wI eI_63 hw
            refine lv_aload_n hx hb dX12_countsRow_137 rfl (lv_at hl 0 rfl) ?_
            refine lv_iload_n hx hb dX12_countsRow_138 rfl (lv_at hl 2 rfl) ?_
            refine x_putI X hK hw (ml_mem0 mb) (ml_S0 mb) cpX12 36 (by decide) rfl rfl rfl tw_1287 dX12_countsRow_139 (fun H locs hw => ?_)
            obtain ⟨I_64, eI_64, hf⟩ := yb_let_ex hf
            have hw := yb_wI eI_64 hw
            refine lv_iconst (v := (0 : Int32)) hx hb dX12_countsRow_142 (by decide) ?_
            refine lv_istore_n (lv' := [(3, .int (0 : Int32)), (0, .ref mb), (1, .int q_17.1), (2, .int q_17.2)]) hx hb dX12_countsRow_143 rfl hl (by decide) rfl (fun ls hl => ?_)
            obtain ⟨q_65, I_66, J_67, hq_68, hf⟩ := yb_b3_some hf
            refine w12_countsRow_L144 X hK _ _ _ _ _ _ _ _ _ _ hq_68 hw (lv_sub hl [1, 0] rfl) (fun H locs ls hw hl => ?_)
            exact yb_retv hfin hf hw dX12_countsRow_194
          · have hf := yb_pos c_62 hf
            refine lv_aload_n hx hb dX12_countsRow_124 rfl (lv_at hl 0 rfl) ?_
            obtain ⟨r_69, I_70, J_71, hq_72, hf⟩ := yb_b3_some hf
            refine x_calli X hK hw (c12_isAhead l D cz ev mb hq_72) (ml_mem0 mb) (ml_S0 mb) cpX12.1 vw_X12_416 ⟨Nat.le_of_ble_eq_true rfl, Nat.le_of_ble_eq_true rfl⟩ rfl rfl (Nat.le_of_ble_eq_true rfl) hl.1 ⟨Nat.le_refl _, Nat.le_refl _⟩ dX12_countsRow_125 (fun H locs hw => ?_)
            refine lv_if_ne (tgt := 132) hx hb dX12_countsRow_128 (by decide) (fun c_73 => ?_) (fun c_73 => ?_)
            · have hf := yb_neg c_73 hf
              refine lv_aload_n hx hb dX12_countsRow_132 rfl (lv_at hl 0 rfl) ?_
              refine lv_iload_n hx hb dX12_countsRow_133 rfl (lv_at hl 1 rfl) ?_
              refine x_putI X hK hw (ml_mem0 mb) (ml_S0 mb) cpX12 35 (by decide) rfl rfl rfl tw_1286 dX12_countsRow_134 (fun H locs hw => ?_)
              obtain ⟨I_74, eI_74, hf⟩ := yb_let_ex hf
              have hw := yb_wI eI_74 hw
              refine lv_aload_n hx hb dX12_countsRow_137 rfl (lv_at hl 0 rfl) ?_
              refine lv_iload_n hx hb dX12_countsRow_138 rfl (lv_at hl 2 rfl) ?_
              refine x_putI X hK hw (ml_mem0 mb) (ml_S0 mb) cpX12 36 (by decide) rfl rfl rfl tw_1287 dX12_countsRow_139 (fun H locs hw => ?_)
              obtain ⟨I_75, eI_75, hf⟩ := yb_let_ex hf
              have hw := yb_wI eI_75 hw
              refine lv_iconst (v := (0 : Int32)) hx hb dX12_countsRow_142 (by decide) ?_
              refine lv_istore_n (lv' := [(3, .int (0 : Int32)), (0, .ref mb), (1, .int q_17.1), (2, .int q_17.2)]) hx hb dX12_countsRow_143 rfl hl (by decide) rfl (fun ls hl => ?_)
              obtain ⟨q_76, I_77, J_78, hq_79, hf⟩ := yb_b3_some hf
              refine w12_countsRow_L144 X hK _ _ _ _ _ _ _ _ _ _ hq_79 hw (lv_sub hl [1, 0] rfl) (fun H locs ls hw hl => ?_)
              exact yb_retv hfin hf hw dX12_countsRow_194
            · have hf := yb_pos c_73 hf
              exact yb_retv hfin hf hw dX12_countsRow_131
      · have hf := yb_neg c_54 hf
        exact yb_retv hfin hf hw dX12_countsRow_107
set_option maxHeartbeats 4000000 in
set_option maxRecDepth 100000 in
theorem w12_goesOnAt_L70 {p : Program} {l : Launch} {e : Env} {s : State} {m : MethodId} {args : Array Value} {below : List Frame} {meth : Method} {c : Code} {Q : State → Prop} {D : va_G} {cz : Nat → ClassId} {A : Nat → Prop} {ev : Nat × Nat × Nat} {mb : Nat} (X : CallFix p m c cX12_goesOnAt 4 s args gw RX12) (hK : KX D cz ev A s) {N : Nat} {x1 : Int32} :
    ∀ (n : Nat) (x2 : Int32) (x3 : Int32) (I : IT) (J : JT) (q : (Int32)) (I1 : IT) (J1 : JT) (H : Heap) (locs : List Loc) (ls : Array Slot), f12_goesOnAt_L70 N mb x1 n x2 x3 I J = some (q, I1, J1) → WX D cz A (mlL mb) (mlS mb) (mlR mb) s.heap I J H locs → lv_has ls 4 [(0, .ref mb), (1, .int x1), (2, .int x2), (3, .int x3)] →
    (∀ (H : Heap) (locs : List Loc) (ls : Array Slot), WX D cz A (mlL mb) (mlS mb) (mlR mb) s.heap I1 J1 H locs → lv_has ls 4 [(0, .ref mb), (1, .int x1), (2, .int q)] → W p l e (rmX 4 94) s m args below meth c H locs 0 0 Q (F0 m 106 ls [])) →
    W p l e (rmX 4 94) s m args below meth c H locs 0 0 Q (F0 m 70 ls []) := by
  have hx := X.1
  have hb := X.2.1
  intro n
  induction n with
  | zero =>
    intro x2 x3 I J q I1 J1 H locs ls hf
    rw [f12_goesOnAt_L70] at hf
    cases hf
  | succ n ih =>
    intro x2 x3 I J q I1 J1 H locs ls hf hw hl hexit
    rw [f12_goesOnAt_L70] at hf
    refine lv_iload_n hx hb dX12_goesOnAt_70 rfl (lv_at hl 3 rfl) ?_
    refine lv_iload_n hx hb dX12_goesOnAt_71 rfl (lv_at hl 1 rfl) ?_
    refine lv_icmp_ge (tgt := 106) hx hb dX12_goesOnAt_72 (by decide) (fun c_6 => ?_) (fun c_6 => ?_)
    · have hf := yb_pos c_6 hf
      obtain ⟨rfl, rfl, rfl⟩ := yb_inj hf
      exact hexit _ _ _ hw (lv_sub hl [0, 1, 2] rfl)
    · have hf := yb_neg c_6 hf
      refine lv_iload_n hx hb dX12_goesOnAt_75 rfl (lv_at hl 2 rfl) ?_
      refine lv_if_ne (tgt := 94) hx hb dX12_goesOnAt_76 (by decide) (fun c_7 => ?_) (fun c_7 => ?_)
      · have hf := yb_neg c_7 hf
        refine lv_iconst (v := (1 : Int32)) hx hb dX12_goesOnAt_94 (by decide) ?_
        refine lv_goto (tgt := 99) hx hb dX12_goesOnAt_95 (by decide) ?_
        refine lv_istore_n (lv' := [(2, .int (1 : Int32)), (0, .ref mb), (1, .int x1), (3, .int x3)]) hx hb dX12_goesOnAt_99 rfl hl (by decide) rfl (fun ls hl => ?_)
        obtain ⟨x3_8, ex3_8, hf⟩ := yb_let_ex hf
        refine lv_iinc (v := x3_8) (lv' := [(3, .int x3_8), (2, .int (1 : Int32)), (0, .ref mb), (1, .int x1)]) hx hb dX12_goesOnAt_100 hl (k := 3) rfl (by rw [ex3_8]; rfl) (by decide) rfl (fun ls hl => ?_)
        refine lv_goto (tgt := 70) hx hb dX12_goesOnAt_103 (by decide) ?_
        exact ih _ _ _ _ _ _ _ _ _ _ hf hw (lv_sub hl [2, 3, 1, 0] rfl) hexit
      · have hf := yb_pos c_7 hf
        refine lv_aload_n hx hb dX12_goesOnAt_79 rfl (lv_at hl 0 rfl) ?_
        refine x_getR X hK hw (ml_mem0 mb) (ml_S0 mb) cpX12 29 (by decide) rfl (ml_R mb 29 rfl) tw_1280 dX12_goesOnAt_80 ?_
        refine lv_iload_n hx hb dX12_goesOnAt_83 rfl (lv_at hl 3 rfl) ?_
        obtain ⟨hi_9, hf⟩ := yb_ck_some hf
        refine x_iald X hK hw (ml_mem mb 15 (by decide)) (ml_S mb 15 rfl) hi_9 rfl dX12_goesOnAt_84 ?_
        refine lv_aload_n hx hb dX12_goesOnAt_85 rfl (lv_at hl 0 rfl) ?_
        refine x_getR X hK hw (ml_mem0 mb) (ml_S0 mb) cpX12 29 (by decide) rfl (ml_R mb 29 rfl) tw_1280 dX12_goesOnAt_86 ?_
        refine lv_iload_n hx hb dX12_goesOnAt_89 rfl (lv_at hl 1 rfl) ?_
        obtain ⟨hi_10, hf⟩ := yb_ck_some hf
        refine x_iald X hK hw (ml_mem mb 15 (by decide)) (ml_S mb 15 rfl) hi_10 rfl dX12_goesOnAt_90 ?_
        refine lv_icmp_ne (tgt := 98) hx hb dX12_goesOnAt_91 (by decide) (fun c_11 => ?_) (fun c_11 => ?_)
        · have hf := yb_neg c_11 hf
          refine lv_iconst (v := (0 : Int32)) hx hb dX12_goesOnAt_98 (by decide) ?_
          refine lv_istore_n (lv' := [(2, .int (0 : Int32)), (0, .ref mb), (1, .int x1), (3, .int x3)]) hx hb dX12_goesOnAt_99 rfl hl (by decide) rfl (fun ls hl => ?_)
          obtain ⟨x3_12, ex3_12, hf⟩ := yb_let_ex hf
          refine lv_iinc (v := x3_12) (lv' := [(3, .int x3_12), (2, .int (0 : Int32)), (0, .ref mb), (1, .int x1)]) hx hb dX12_goesOnAt_100 hl (k := 3) rfl (by rw [ex3_12]; rfl) (by decide) rfl (fun ls hl => ?_)
          refine lv_goto (tgt := 70) hx hb dX12_goesOnAt_103 (by decide) ?_
          exact ih _ _ _ _ _ _ _ _ _ _ hf hw (lv_sub hl [2, 3, 1, 0] rfl) hexit
        · have hf := yb_pos c_11 hf
          refine lv_iconst (v := (1 : Int32)) hx hb dX12_goesOnAt_94 (by decide) ?_
          refine lv_goto (tgt := 99) hx hb dX12_goesOnAt_95 (by decide) ?_
          refine lv_istore_n (lv' := [(2, .int (1 : Int32)), (0, .ref mb), (1, .int x1), (3, .int x3)]) hx hb dX12_goesOnAt_99 rfl hl (by decide) rfl (fun ls hl => ?_)
          obtain ⟨x3_13, ex3_13, hf⟩ := yb_let_ex hf
          refine lv_iinc (v := x3_13) (lv' := [(3, .int x3_13), (2, .int (1 : Int32)), (0, .ref mb), (1, .int x1)]) hx hb dX12_goesOnAt_100 hl (k := 3) rfl (by rw [ex3_13]; rfl) (by decide) rfl (fun ls hl => ?_)
          refine lv_goto (tgt := 70) hx hb dX12_goesOnAt_103 (by decide) ?_
          exact ih _ _ _ _ _ _ _ _ _ _ hf hw (lv_sub hl [2, 3, 1, 0] rfl) hexit
set_option maxHeartbeats 4000000 in
set_option maxRecDepth 100000 in
theorem w12_goesOnAt_L0 {p : Program} {l : Launch} {e : Env} {s : State} {m : MethodId} {args : Array Value} {below : List Frame} {meth : Method} {c : Code} {Q : State → Prop} {D : va_G} {cz : Nat → ClassId} {A : Nat → Prop} {ev : Nat × Nat × Nat} {mb : Nat} (X : CallFix p m c cX12_goesOnAt 4 s args gw RX12) (hK : KX D cz ev A s) {N : Nat} {x1 : Int32} {rM : Int32} {IM : IT} {JM : JT} :
    ∀ (n : Nat) (I : IT) (J : JT) (q : (Int32 ⊕ (Unit))) (I1 : IT) (J1 : JT) (H : Heap) (locs : List Loc) (ls : Array Slot), f12_goesOnAt_L0 N mb x1 n I J = some (q, I1, J1) → WX D cz A (mlL mb) (mlS mb) (mlR mb) s.heap I J H locs → lv_has ls 4 [(0, .ref mb), (1, .int x1)] →
    (∀ v, q = .inl v → some (v, I1, J1) = some (rM, IM, JM)) → (∀ (H : Heap) (locs : List Loc) (ls : Array Slot) (pc : Nat), bz rM = true → WX D cz A (mlL mb) (mlS mb) (mlR mb) s.heap IM JM H locs → decode cX12_goesOnAt pc = .ok (.ireturn, 1) → W p l e (rmX 4 94) s m args below meth c H locs 0 0 Q (F0 m pc ls [.int rM])) →
    W p l e (rmX 4 94) s m args below meth c H locs 0 0 Q (F0 m 0 ls []) := by
  have hx := X.1
  have hb := X.2.1
  intro n
  induction n with
  | zero =>
    intro  I J q I1 J1 H locs ls hf
    rw [f12_goesOnAt_L0] at hf
    cases hf
  | succ n ih =>
    intro  I J q I1 J1 H locs ls hf hw hl hret hfin 
    rw [f12_goesOnAt_L0] at hf
    refine lv_aload_n hx hb dX12_goesOnAt_0 rfl (lv_at hl 0 rfl) ?_
    refine x_getR X hK hw (ml_mem0 mb) (ml_S0 mb) cpX12 30 (by decide) rfl (ml_R mb 30 rfl) tw_1281 dX12_goesOnAt_1 ?_
    refine lv_iload_n hx hb dX12_goesOnAt_4 rfl (lv_at hl 1 rfl) ?_
    refine lv_dup2_11 hx hb dX12_goesOnAt_5 rfl rfl ?_
    obtain ⟨hi_1, hf⟩ := yb_ck_some hf
    refine x_iald X hK hw (ml_mem mb 16 (by decide)) (ml_S mb 16 rfl) hi_1 rfl dX12_goesOnAt_6 ?_
    refine lv_iconst (v := (1 : Int32)) hx hb dX12_goesOnAt_7 (by decide) ?_
    refine lv_iadd hx hb dX12_goesOnAt_8 ?_
    refine x_iast X hK hw (ml_mem mb 16 (by decide)) (ml_S mb 16 rfl) hi_1 rfl dX12_goesOnAt_9 (fun H locs hw => ?_)
    obtain ⟨I_2, eI_2, hf⟩ := yb_let_ex hf
    have hw := yb_wI eI_2 hw
    refine lv_aload_n hx hb dX12_goesOnAt_10 rfl (lv_at hl 0 rfl) ?_
    refine x_getR X hK hw (ml_mem0 mb) (ml_S0 mb) cpX12 30 (by decide) rfl (ml_R mb 30 rfl) tw_1281 dX12_goesOnAt_11 ?_
    refine lv_iload_n hx hb dX12_goesOnAt_14 rfl (lv_at hl 1 rfl) ?_
    refine x_iald X hK hw (ml_mem mb 16 (by decide)) (ml_S mb 16 rfl) hi_1 rfl dX12_goesOnAt_15 ?_
    refine lv_aload_n hx hb dX12_goesOnAt_16 rfl (lv_at hl 0 rfl) ?_
    refine x_getR X hK hw (ml_mem0 mb) (ml_S0 mb) cpX12 20 (by decide) rfl (ml_R mb 20 rfl) tw_1271 dX12_goesOnAt_17 ?_
    refine lv_iconst (v := (2 : Int32)) hx hb dX12_goesOnAt_20 (by decide) ?_
    refine x_iald X hK hw (ml_mem mb 10 (by decide)) (ml_S mb 10 rfl) (by decide) rfl dX12_goesOnAt_21 ?_
    refine lv_icmp_ne (tgt := 42) hx hb dX12_goesOnAt_22 (by decide) (fun c_3 => ?_) (fun c_3 => ?_)
    · have hf := yb_neg c_3 hf
      refine lv_aload_n hx hb dX12_goesOnAt_42 rfl (lv_at hl 0 rfl) ?_
      refine x_getR X hK hw (ml_mem0 mb) (ml_S0 mb) cpX12 29 (by decide) rfl (ml_R mb 29 rfl) tw_1280 dX12_goesOnAt_43 ?_
      refine lv_iload_n hx hb dX12_goesOnAt_46 rfl (lv_at hl 1 rfl) ?_
      refine x_iald X hK hw (ml_mem mb 15 (by decide)) (ml_S mb 15 rfl) hi_1 rfl dX12_goesOnAt_47 ?_
      refine lv_aload_n hx hb dX12_goesOnAt_48 rfl (lv_at hl 0 rfl) ?_
      refine x_getI X hK hw (ml_mem0 mb) (ml_S0 mb) cpX12 25 (by decide) rfl tw_1276 dX12_goesOnAt_49 ?_
      refine lv_icmp_eq (tgt := 64) hx hb dX12_goesOnAt_52 (by decide) (fun c_4 => ?_) (fun c_4 => ?_)
      · have hf := yb_pos c_4 hf
        refine lv_iconst (v := (0 : Int32)) hx hb dX12_goesOnAt_64 (by decide) ?_
        exact yb_retz hfin (by decide) (yb_inl hret hf) hw dX12_goesOnAt_65
      · have hf := yb_neg c_4 hf
        refine lv_aload_n hx hb dX12_goesOnAt_55 rfl (lv_at hl 0 rfl) ?_
        refine x_getR X hK hw (ml_mem0 mb) (ml_S0 mb) cpX12 20 (by decide) rfl (ml_R mb 20 rfl) tw_1271 dX12_goesOnAt_56 ?_
        refine lv_iconst (v := (2 : Int32)) hx hb dX12_goesOnAt_59 (by decide) ?_
        refine x_iald X hK hw (ml_mem mb 10 (by decide)) (ml_S mb 10 rfl) (by decide) rfl dX12_goesOnAt_60 ?_
        refine lv_if_ne (tgt := 66) hx hb dX12_goesOnAt_61 (by decide) (fun c_5 => ?_) (fun c_5 => ?_)
        · have hf := yb_neg c_5 hf
          refine lv_iconst (v := (0 : Int32)) hx hb dX12_goesOnAt_66 (by decide) ?_
          refine lv_istore_n (lv' := [(2, .int (0 : Int32)), (0, .ref mb), (1, .int x1)]) hx hb dX12_goesOnAt_67 rfl hl (by decide) rfl (fun ls hl => ?_)
          refine lv_iconst (v := (0 : Int32)) hx hb dX12_goesOnAt_68 (by decide) ?_
          refine lv_istore_n (lv' := [(3, .int (0 : Int32)), (2, .int (0 : Int32)), (0, .ref mb), (1, .int x1)]) hx hb dX12_goesOnAt_69 rfl hl (by decide) rfl (fun ls hl => ?_)
          obtain ⟨q_14, I_15, J_16, hq_17, hf⟩ := yb_b3_some hf
          refine w12_goesOnAt_L70 X hK _ _ _ _ _ _ _ _ _ _ _ hq_17 hw (lv_sub hl [2, 3, 1, 0] rfl) (fun H locs ls hw hl => ?_)
          refine lv_iload_n hx hb dX12_goesOnAt_106 rfl (lv_at hl 2 rfl) ?_
          refine lv_if_eq (tgt := 113) hx hb dX12_goesOnAt_107 (by decide) (fun c_18 => ?_) (fun c_18 => ?_)
          · have hf := yb_pos c_18 hf
            refine lv_aload_n hx hb dX12_goesOnAt_113 rfl (lv_at hl 0 rfl) ?_
            refine x_getR X hK hw (ml_mem0 mb) (ml_S0 mb) cpX12 31 (by decide) rfl (ml_R mb 31 rfl) tw_1282 dX12_goesOnAt_114 ?_
            refine lv_iload_n hx hb dX12_goesOnAt_117 rfl (lv_at hl 1 rfl) ?_
            refine lv_aload_n hx hb dX12_goesOnAt_118 rfl (lv_at hl 0 rfl) ?_
            refine lv_iload_n hx hb dX12_goesOnAt_119 rfl (lv_at hl 1 rfl) ?_
            refine lv_aload_n hx hb dX12_goesOnAt_120 rfl (lv_at hl 0 rfl) ?_
            refine x_getR X hK hw (ml_mem0 mb) (ml_S0 mb) cpX12 29 (by decide) rfl (ml_R mb 29 rfl) tw_1280 dX12_goesOnAt_121 ?_
            refine lv_iload_n hx hb dX12_goesOnAt_124 rfl (lv_at hl 1 rfl) ?_
            refine x_iald X hK hw (ml_mem mb 15 (by decide)) (ml_S mb 15 rfl) hi_1 rfl dX12_goesOnAt_125 ?_
            refine lv_aload_n hx hb dX12_goesOnAt_126 rfl (lv_at hl 0 rfl) ?_
            refine x_getR X hK hw (ml_mem0 mb) (ml_S0 mb) cpX12 30 (by decide) rfl (ml_R mb 30 rfl) tw_1281 dX12_goesOnAt_127 ?_
            refine lv_iload_n hx hb dX12_goesOnAt_130 rfl (lv_at hl 1 rfl) ?_
            refine x_iald X hK hw (ml_mem mb 16 (by decide)) (ml_S mb 16 rfl) hi_1 rfl dX12_goesOnAt_131 ?_
            obtain ⟨r_19, I_20, J_21, hq_22, hf⟩ := yb_b3_some hf
            refine x_calli X hK hw (c12_firstDay l D cz ev mb hq_22) (ml_mem0 mb) (ml_S0 mb) cpX12.1 vw_X12_419 ⟨Nat.le_of_ble_eq_true rfl, Nat.le_of_ble_eq_true rfl⟩ rfl rfl (Nat.le_of_ble_eq_true rfl) hl.1 ⟨Nat.le_refl _, Nat.le_refl _⟩ dX12_goesOnAt_132 (fun H locs hw => ?_)
            refine x_iast X hK hw (ml_mem mb 17 (by decide)) (ml_S mb 17 rfl) hi_1 rfl dX12_goesOnAt_135 (fun H locs hw => ?_)
            obtain ⟨I_23, eI_23, hf⟩ := yb_let_ex hf
            have hw := yb_wI eI_23 hw
            refine lv_aload_n hx hb dX12_goesOnAt_136 rfl (lv_at hl 0 rfl) ?_
            refine x_getR X hK hw (ml_mem0 mb) (ml_S0 mb) cpX12 31 (by decide) rfl (ml_R mb 31 rfl) tw_1282 dX12_goesOnAt_137 ?_
            refine lv_iload_n hx hb dX12_goesOnAt_140 rfl (lv_at hl 1 rfl) ?_
            refine x_iald X hK hw (ml_mem mb 17 (by decide)) (ml_S mb 17 rfl) hi_1 rfl dX12_goesOnAt_141 ?_
            refine lv_if_lt (tgt := 147) hx hb dX12_goesOnAt_142 (by decide) (fun c_24 => ?_) (fun c_24 => ?_)
            · have hf := yb_pos c_24 hf
              refine lv_goto (tgt := 0) hx hb dX12_goesOnAt_147 (by decide) ?_
              exact ih  _ _ _ _ _ _ _ _ hf hw (lv_sub hl [0, 1] rfl) hret hfin
            · have hf := yb_neg c_24 hf
              refine lv_iconst (v := (1 : Int32)) hx hb dX12_goesOnAt_145 (by decide) ?_
              exact yb_retz hfin (by decide) (yb_inl hret hf) hw dX12_goesOnAt_146
          · have hf := yb_neg c_18 hf
            refine lv_goto (tgt := 0) hx hb dX12_goesOnAt_110 (by decide) ?_
            exact ih  _ _ _ _ _ _ _ _ hf hw (lv_sub hl [0, 1] rfl) hret hfin
        · have hf := yb_pos c_5 hf
          refine lv_iconst (v := (0 : Int32)) hx hb dX12_goesOnAt_64 (by decide) ?_
          exact yb_retz hfin (by decide) (yb_inl hret hf) hw dX12_goesOnAt_65
    · have hf := yb_pos c_3 hf
      refine lv_aload_n hx hb dX12_goesOnAt_25 rfl (lv_at hl 0 rfl) ?_
      refine x_getR X hK hw (ml_mem0 mb) (ml_S0 mb) cpX12 30 (by decide) rfl (ml_R mb 30 rfl) tw_1281 dX12_goesOnAt_26 ?_
      refine lv_iload_n hx hb dX12_goesOnAt_29 rfl (lv_at hl 1 rfl) ?_
      refine lv_iconst (v := (0 : Int32)) hx hb dX12_goesOnAt_30 (by decide) ?_
      refine x_iast X hK hw (ml_mem mb 16 (by decide)) (ml_S mb 16 rfl) hi_1 rfl dX12_goesOnAt_31 (fun H locs hw => ?_)
      obtain ⟨I_25, eI_25, hf⟩ := yb_let_ex hf
      have hw := yb_wI eI_25 hw
      refine lv_aload_n hx hb dX12_goesOnAt_32 rfl (lv_at hl 0 rfl) ?_
      refine x_getR X hK hw (ml_mem0 mb) (ml_S0 mb) cpX12 29 (by decide) rfl (ml_R mb 29 rfl) tw_1280 dX12_goesOnAt_33 ?_
      refine lv_iload_n hx hb dX12_goesOnAt_36 rfl (lv_at hl 1 rfl) ?_
      refine lv_dup2_11 hx hb dX12_goesOnAt_37 rfl rfl ?_
      refine x_iald X hK hw (ml_mem mb 15 (by decide)) (ml_S mb 15 rfl) hi_1 rfl dX12_goesOnAt_38 ?_
      refine lv_iconst (v := (1 : Int32)) hx hb dX12_goesOnAt_39 (by decide) ?_
      refine lv_iadd hx hb dX12_goesOnAt_40 ?_
      refine x_iast X hK hw (ml_mem mb 15 (by decide)) (ml_S mb 15 rfl) hi_1 rfl dX12_goesOnAt_41 (fun H locs hw => ?_)
      obtain ⟨I_26, eI_26, hf⟩ := yb_let_ex hf
      have hw := yb_wI eI_26 hw
      refine lv_aload_n hx hb dX12_goesOnAt_42 rfl (lv_at hl 0 rfl) ?_
      refine x_getR X hK hw (ml_mem0 mb) (ml_S0 mb) cpX12 29 (by decide) rfl (ml_R mb 29 rfl) tw_1280 dX12_goesOnAt_43 ?_
      refine lv_iload_n hx hb dX12_goesOnAt_46 rfl (lv_at hl 1 rfl) ?_
      refine x_iald X hK hw (ml_mem mb 15 (by decide)) (ml_S mb 15 rfl) hi_1 rfl dX12_goesOnAt_47 ?_
      refine lv_aload_n hx hb dX12_goesOnAt_48 rfl (lv_at hl 0 rfl) ?_
      refine x_getI X hK hw (ml_mem0 mb) (ml_S0 mb) cpX12 25 (by decide) rfl tw_1276 dX12_goesOnAt_49 ?_
      refine lv_icmp_eq (tgt := 64) hx hb dX12_goesOnAt_52 (by decide) (fun c_27 => ?_) (fun c_27 => ?_)
      · have hf := yb_pos c_27 hf
        refine lv_iconst (v := (0 : Int32)) hx hb dX12_goesOnAt_64 (by decide) ?_
        exact yb_retz hfin (by decide) (yb_inl hret hf) hw dX12_goesOnAt_65
      · have hf := yb_neg c_27 hf
        refine lv_aload_n hx hb dX12_goesOnAt_55 rfl (lv_at hl 0 rfl) ?_
        refine x_getR X hK hw (ml_mem0 mb) (ml_S0 mb) cpX12 20 (by decide) rfl (ml_R mb 20 rfl) tw_1271 dX12_goesOnAt_56 ?_
        refine lv_iconst (v := (2 : Int32)) hx hb dX12_goesOnAt_59 (by decide) ?_
        refine x_iald X hK hw (ml_mem mb 10 (by decide)) (ml_S mb 10 rfl) (by decide) rfl dX12_goesOnAt_60 ?_
        refine lv_if_ne (tgt := 66) hx hb dX12_goesOnAt_61 (by decide) (fun c_28 => ?_) (fun c_28 => ?_)
        · have hf := yb_neg c_28 hf
          refine lv_iconst (v := (0 : Int32)) hx hb dX12_goesOnAt_66 (by decide) ?_
          refine lv_istore_n (lv' := [(2, .int (0 : Int32)), (0, .ref mb), (1, .int x1)]) hx hb dX12_goesOnAt_67 rfl hl (by decide) rfl (fun ls hl => ?_)
          refine lv_iconst (v := (0 : Int32)) hx hb dX12_goesOnAt_68 (by decide) ?_
          refine lv_istore_n (lv' := [(3, .int (0 : Int32)), (2, .int (0 : Int32)), (0, .ref mb), (1, .int x1)]) hx hb dX12_goesOnAt_69 rfl hl (by decide) rfl (fun ls hl => ?_)
          obtain ⟨q_29, I_30, J_31, hq_32, hf⟩ := yb_b3_some hf
          refine w12_goesOnAt_L70 X hK _ _ _ _ _ _ _ _ _ _ _ hq_32 hw (lv_sub hl [2, 3, 1, 0] rfl) (fun H locs ls hw hl => ?_)
          refine lv_iload_n hx hb dX12_goesOnAt_106 rfl (lv_at hl 2 rfl) ?_
          refine lv_if_eq (tgt := 113) hx hb dX12_goesOnAt_107 (by decide) (fun c_33 => ?_) (fun c_33 => ?_)
          · have hf := yb_pos c_33 hf
            refine lv_aload_n hx hb dX12_goesOnAt_113 rfl (lv_at hl 0 rfl) ?_
            refine x_getR X hK hw (ml_mem0 mb) (ml_S0 mb) cpX12 31 (by decide) rfl (ml_R mb 31 rfl) tw_1282 dX12_goesOnAt_114 ?_
            refine lv_iload_n hx hb dX12_goesOnAt_117 rfl (lv_at hl 1 rfl) ?_
            refine lv_aload_n hx hb dX12_goesOnAt_118 rfl (lv_at hl 0 rfl) ?_
            refine lv_iload_n hx hb dX12_goesOnAt_119 rfl (lv_at hl 1 rfl) ?_
            refine lv_aload_n hx hb dX12_goesOnAt_120 rfl (lv_at hl 0 rfl) ?_
            refine x_getR X hK hw (ml_mem0 mb) (ml_S0 mb) cpX12 29 (by decide) rfl (ml_R mb 29 rfl) tw_1280 dX12_goesOnAt_121 ?_
            refine lv_iload_n hx hb dX12_goesOnAt_124 rfl (lv_at hl 1 rfl) ?_
            refine x_iald X hK hw (ml_mem mb 15 (by decide)) (ml_S mb 15 rfl) hi_1 rfl dX12_goesOnAt_125 ?_
            refine lv_aload_n hx hb dX12_goesOnAt_126 rfl (lv_at hl 0 rfl) ?_
            refine x_getR X hK hw (ml_mem0 mb) (ml_S0 mb) cpX12 30 (by decide) rfl (ml_R mb 30 rfl) tw_1281 dX12_goesOnAt_127 ?_
            refine lv_iload_n hx hb dX12_goesOnAt_130 rfl (lv_at hl 1 rfl) ?_
            refine x_iald X hK hw (ml_mem mb 16 (by decide)) (ml_S mb 16 rfl) hi_1 rfl dX12_goesOnAt_131 ?_
            obtain ⟨r_34, I_35, J_36, hq_37, hf⟩ := yb_b3_some hf
            refine x_calli X hK hw (c12_firstDay l D cz ev mb hq_37) (ml_mem0 mb) (ml_S0 mb) cpX12.1 vw_X12_419 ⟨Nat.le_of_ble_eq_true rfl, Nat.le_of_ble_eq_true rfl⟩ rfl rfl (Nat.le_of_ble_eq_true rfl) hl.1 ⟨Nat.le_refl _, Nat.le_refl _⟩ dX12_goesOnAt_132 (fun H locs hw => ?_)
            refine x_iast X hK hw (ml_mem mb 17 (by decide)) (ml_S mb 17 rfl) hi_1 rfl dX12_goesOnAt_135 (fun H locs hw => ?_)
            obtain ⟨I_38, eI_38, hf⟩ := yb_let_ex hf
            have hw := yb_wI eI_38 hw
            refine lv_aload_n hx hb dX12_goesOnAt_136 rfl (lv_at hl 0 rfl) ?_
            refine x_getR X hK hw (ml_mem0 mb) (ml_S0 mb) cpX12 31 (by decide) rfl (ml_R mb 31 rfl) tw_1282 dX12_goesOnAt_137 ?_
            refine lv_iload_n hx hb dX12_goesOnAt_140 rfl (lv_at hl 1 rfl) ?_
            refine x_iald X hK hw (ml_mem mb 17 (by decide)) (ml_S mb 17 rfl) hi_1 rfl dX12_goesOnAt_141 ?_
            refine lv_if_lt (tgt := 147) hx hb dX12_goesOnAt_142 (by decide) (fun c_39 => ?_) (fun c_39 => ?_)
            · have hf := yb_pos c_39 hf
              refine lv_goto (tgt := 0) hx hb dX12_goesOnAt_147 (by decide) ?_
              exact ih  _ _ _ _ _ _ _ _ hf hw (lv_sub hl [0, 1] rfl) hret hfin
            · have hf := yb_neg c_39 hf
              refine lv_iconst (v := (1 : Int32)) hx hb dX12_goesOnAt_145 (by decide) ?_
              exact yb_retz hfin (by decide) (yb_inl hret hf) hw dX12_goesOnAt_146
          · have hf := yb_neg c_33 hf
            refine lv_goto (tgt := 0) hx hb dX12_goesOnAt_110 (by decide) ?_
            exact ih  _ _ _ _ _ _ _ _ hf hw (lv_sub hl [0, 1] rfl) hret hfin
        · have hf := yb_pos c_28 hf
          refine lv_iconst (v := (0 : Int32)) hx hb dX12_goesOnAt_64 (by decide) ?_
          exact yb_retz hfin (by decide) (yb_inl hret hf) hw dX12_goesOnAt_65
set_option maxHeartbeats 4000000 in
set_option maxRecDepth 100000 in
theorem c12_goesOnAt (l : Launch) (D : va_G) (cz : Nat → ClassId) (ev : Nat × Nat × Nat) (mb : Nat) {N : Nat} {x1 : Int32} {I : IT} {J : JT} {r : Int32} {I1 : IT} {J1 : JT} (hf : f12_goesOnAt N mb x1 I J = some (r, I1, J1)) : MTi l D cz ev yX12_goesOnAt cX12_goesOnAt 4 (some .boolean) 4 94 [.ref mb, .int x1] (mlL mb) (mlS mb) (mlR mb) I J r I1 J1 := by
  unfold f12_goesOnAt at hf
  refine MTz_of (by decide) (Nat.le_of_ble_eq_true rfl) ?_
  intro p e s m args below meth c Q ls X hK hw hl hfin
  have X : CallFix p m c cX12_goesOnAt 4 s args gw RX12 := X
  have hx := X.1
  have hb := X.2.1
  have hl : lv_has ls 4 [(0, .ref mb), (1, .int x1)] := hl
  obtain ⟨q_40, I_41, J_42, hq_43, hf⟩ := yb_b3_some hf
  refine w12_goesOnAt_L0 X hK _  _ _ _ _ _ _ _ _ hq_43 hw (lv_sub hl [0, 1] rfl) (fun v hv => by rw [hv] at hf; exact hf) hfin
