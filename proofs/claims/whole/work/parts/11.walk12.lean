set_option maxHeartbeats 4000000 in
set_option maxRecDepth 100000 in
theorem w12_years_L61 {p : Program} {l : Launch} {e : Env} {s : State} {m : MethodId} {args : Array Value} {below : List Frame} {meth : Method} {c : Code} {Q : State → Prop} {D : va_G} {cz : Nat → ClassId} {A : Nat → Prop} {ev : Nat × Nat × Nat} {mb : Nat} (X : CallFix p m c cX12_years 10 s args gw RX12) (hK : KX D cz ev A s) {N : Nat} {x1 : Int32} {x2 : Int32} {x3 : Int32} {x4 : Int32} {x5 : Int32} :
    ∀ (n : Nat) (x6 : Int32) (I : IT) (J : JT) (q : (Unit)) (I1 : IT) (J1 : JT) (H : Heap) (locs : List Loc) (ls : Array Slot), f12_years_L61 N mb x1 x2 x3 x4 x5 n x6 I J = some (q, I1, J1) → WX D cz A (mlL mb) (mlS mb) (mlR mb) s.heap I J H locs → lv_has ls 10 [(0, .ref mb), (1, .int x1), (2, .int x2), (3, .int x3), (4, .int x4), (5, .int x5), (6, .int x6)] →
    (∀ (H : Heap) (locs : List Loc) (ls : Array Slot), WX D cz A (mlL mb) (mlS mb) (mlR mb) s.heap I1 J1 H locs → lv_has ls 10 [(0, .ref mb), (1, .int x1), (2, .int x2), (3, .int x3), (4, .int x4), (5, .int x5)] → W p l e (rmX 7 175) s m args below meth c H locs 0 0 Q (F0 m 88 ls [])) →
    W p l e (rmX 7 175) s m args below meth c H locs 0 0 Q (F0 m 61 ls []) := by
  have hx := X.1
  have hb := X.2.1
  intro n
  induction n with
  | zero =>
    intro x6 I J q I1 J1 H locs ls hf
    rw [f12_years_L61] at hf
    cases hf
  | succ n ih =>
    intro x6 I J q I1 J1 H locs ls hf hw hl hexit
    rw [f12_years_L61] at hf
    refine lv_iload hx hb dX12_years_61 (lv_at hl 6 rfl) ?_
    refine lv_bipush (v := (111 : Int32)) hx hb dX12_years_63 (by decide) ?_
    refine lv_icmp_ge (tgt := 88) hx hb dX12_years_65 (by decide) (fun c_22 => ?_) (fun c_22 => ?_)
    · have hf := yb_pos c_22 hf
      obtain ⟨rfl, rfl, rfl⟩ := yb_inj hf
      exact hexit _ _ _ hw (lv_sub hl [0, 1, 2, 3, 4, 5] rfl)
    · have hf := yb_neg c_22 hf
      refine lv_aload_n hx hb dX12_years_68 rfl (lv_at hl 0 rfl) ?_
      refine x_getR X hK hw (ml_mem0 mb) (ml_S0 mb) cpX12 42 (by decide) rfl (ml_R mb 42 rfl) tw_1293 dX12_years_69 ?_
      refine lv_iload hx hb dX12_years_72 (lv_at hl 6 rfl) ?_
      refine lv_aload_n hx hb dX12_years_74 rfl (lv_at hl 0 rfl) ?_
      refine x_getR X hK hw (ml_mem0 mb) (ml_S0 mb) cpX12 20 (by decide) rfl (ml_R mb 20 rfl) tw_1271 dX12_years_75 ?_
      refine lv_iload hx hb dX12_years_78 (lv_at hl 6 rfl) ?_
      obtain ⟨hi_23, hf⟩ := yb_ck_some hf
      refine x_iald X hK hw (ml_mem mb 10 (by decide)) (ml_S mb 10 rfl) hi_23 rfl dX12_years_80 ?_
      obtain ⟨hi_24, hf⟩ := yb_ck_some hf
      refine x_iast X hK hw (ml_mem mb 25 (by decide)) (ml_S mb 25 rfl) hi_24 rfl dX12_years_81 (fun H locs hw => ?_)
      obtain ⟨I_25, eI_25, hf⟩ := yb_let_ex hf
      have hw := yb_wI eI_25 hw
      obtain ⟨x6_26, ex6_26, hf⟩ := yb_let_ex hf
      refine lv_iinc (v := x6_26) (lv' := [(6, .int x6_26), (0, .ref mb), (1, .int x1), (2, .int x2), (3, .int x3), (4, .int x4), (5, .int x5)]) hx hb dX12_years_82 hl (k := 6) rfl (by rw [ex6_26]; rfl) (by decide) rfl (fun ls hl => ?_)
      refine lv_goto (tgt := 61) hx hb dX12_years_85 (by decide) ?_
      exact ih _ _ _ _ _ _ _ _ _ hf hw (lv_sub hl [1, 2, 3, 4, 5, 6, 0] rfl) hexit
set_option maxHeartbeats 4000000 in
set_option maxRecDepth 100000 in
theorem w12_years_L138 {p : Program} {l : Launch} {e : Env} {s : State} {m : MethodId} {args : Array Value} {below : List Frame} {meth : Method} {c : Code} {Q : State → Prop} {D : va_G} {cz : Nat → ClassId} {A : Nat → Prop} {ev : Nat × Nat × Nat} {mb : Nat} (X : CallFix p m c cX12_years 10 s args gw RX12) (hK : KX D cz ev A s) {N : Nat} {x1 : Int32} {x2 : Int32} {x3 : Int32} {x5 : Int32} {x6 : Int32} {x7 : Int32} {x8 : Int32} :
    ∀ (n : Nat) (x4 : Int32) (x9 : Int32) (I : IT) (J : JT) (q : (Int32)) (I1 : IT) (J1 : JT) (H : Heap) (locs : List Loc) (ls : Array Slot), f12_years_L138 N mb x1 x2 x3 x5 x6 x7 x8 n x4 x9 I J = some (q, I1, J1) → WX D cz A (mlL mb) (mlS mb) (mlR mb) s.heap I J H locs → lv_has ls 10 [(0, .ref mb), (1, .int x1), (2, .int x2), (3, .int x3), (4, .int x4), (5, .int x5), (6, .int x6), (7, .int x7), (8, .int x8), (9, .int x9)] →
    (∀ (H : Heap) (locs : List Loc) (ls : Array Slot), WX D cz A (mlL mb) (mlS mb) (mlR mb) s.heap I1 J1 H locs → lv_has ls 10 [(0, .ref mb), (1, .int x1), (2, .int x2), (3, .int x3), (4, .int q), (5, .int x5), (6, .int x6), (7, .int x7)] → W p l e (rmX 7 175) s m args below meth c H locs 0 0 Q (F0 m 192 ls [])) →
    W p l e (rmX 7 175) s m args below meth c H locs 0 0 Q (F0 m 138 ls []) := by
  have hx := X.1
  have hb := X.2.1
  intro n
  induction n with
  | zero =>
    intro x4 x9 I J q I1 J1 H locs ls hf
    rw [f12_years_L138] at hf
    cases hf
  | succ n ih =>
    intro x4 x9 I J q I1 J1 H locs ls hf hw hl hexit
    rw [f12_years_L138] at hf
    refine lv_iload hx hb dX12_years_138 (lv_at hl 9 rfl) ?_
    refine lv_aload_n hx hb dX12_years_140 rfl (lv_at hl 0 rfl) ?_
    refine x_getR X hK hw (ml_mem0 mb) (ml_S0 mb) cpX12 20 (by decide) rfl (ml_R mb 20 rfl) tw_1271 dX12_years_141 ?_
    refine lv_iconst (v := (3 : Int32)) hx hb dX12_years_144 (by decide) ?_
    refine x_iald X hK hw (ml_mem mb 10 (by decide)) (ml_S mb 10 rfl) (by decide) rfl dX12_years_145 ?_
    refine lv_icmp_ge (tgt := 192) hx hb dX12_years_146 (by decide) (fun c_47 => ?_) (fun c_47 => ?_)
    · have hf := yb_pos c_47 hf
      obtain ⟨rfl, rfl, rfl⟩ := yb_inj hf
      exact hexit _ _ _ hw (lv_sub hl [0, 1, 2, 3, 4, 5, 6, 7] rfl)
    · have hf := yb_neg c_47 hf
      refine lv_iload hx hb dX12_years_149 (lv_at hl 8 rfl) ?_
      refine lv_iload hx hb dX12_years_151 (lv_at hl 9 rfl) ?_
      obtain ⟨r_48, I_49, J_50, hq_51, hf⟩ := yb_b3_some hf
      refine x_callsi X hK hw (c12_isOf l D cz ev mb hq_51) sw_X12_322 ⟨Nat.le_of_ble_eq_true rfl, Nat.le_of_ble_eq_true rfl⟩ rfl rfl (Nat.le_of_ble_eq_true rfl) hl.1 ⟨Nat.le_refl _, Nat.le_refl _⟩ dX12_years_153 (fun H locs hw => ?_)
      refine lv_if_eq (tgt := 186) hx hb dX12_years_156 (by decide) (fun c_52 => ?_) (fun c_52 => ?_)
      · have hf := yb_pos c_52 hf
        obtain ⟨x9_53, ex9_53, hf⟩ := yb_let_ex hf
        refine lv_iinc (v := x9_53) (lv' := [(9, .int x9_53), (0, .ref mb), (1, .int x1), (2, .int x2), (3, .int x3), (4, .int x4), (5, .int x5), (6, .int x6), (7, .int x7), (8, .int x8)]) hx hb dX12_years_186 hl (k := 9) rfl (by rw [ex9_53]; rfl) (by decide) rfl (fun ls hl => ?_)
        refine lv_goto (tgt := 138) hx hb dX12_years_189 (by decide) ?_
        exact ih _ _ _ _ _ _ _ _ _ _ hf hw (lv_sub hl [1, 2, 3, 4, 5, 6, 7, 8, 9, 0] rfl) hexit
      · have hf := yb_neg c_52 hf
        refine lv_iload hx hb dX12_years_159 (lv_at hl 4 rfl) ?_
        refine lv_aload_n hx hb dX12_years_161 rfl (lv_at hl 0 rfl) ?_
        refine lv_bipush (v := (100 : Int32)) hx hb dX12_years_162 (by decide) ?_
        obtain ⟨r_54, I_55, J_56, hq_57, hf⟩ := yb_b3_some hf
        refine x_calli X hK hw (c12_draw l D cz ev mb hq_57) (ml_mem0 mb) (ml_S0 mb) cpX12.1 vw_X12_499 ⟨Nat.le_of_ble_eq_true rfl, Nat.le_of_ble_eq_true rfl⟩ rfl rfl (Nat.le_of_ble_eq_true rfl) hl.1 ⟨Nat.le_refl _, Nat.le_refl _⟩ dX12_years_164 (fun H locs hw => ?_)
        refine lv_aload_n hx hb dX12_years_167 rfl (lv_at hl 0 rfl) ?_
        refine lv_iload hx hb dX12_years_168 (lv_at hl 9 rfl) ?_
        refine lv_bipush (v := (7 : Int32)) hx hb dX12_years_170 (by decide) ?_
        obtain ⟨r_58, I_59, J_60, hq_61, hf⟩ := yb_b3_some hf
        refine x_calli X hK hw (c12_caseOf l D cz ev mb hq_61) (ml_mem0 mb) (ml_S0 mb) cpX12.1 vw_X12_331 ⟨Nat.le_of_ble_eq_true rfl, Nat.le_of_ble_eq_true rfl⟩ rfl rfl (Nat.le_of_ble_eq_true rfl) hl.1 ⟨Nat.le_refl _, Nat.le_refl _⟩ dX12_years_172 (fun H locs hw => ?_)
        refine lv_icmp_ge (tgt := 182) hx hb dX12_years_175 (by decide) (fun c_62 => ?_) (fun c_62 => ?_)
        · have hf := yb_pos c_62 hf
          refine lv_iconst (v := (0 : Int32)) hx hb dX12_years_182 (by decide) ?_
          refine lv_iadd hx hb dX12_years_183 ?_
          refine lv_topi (fun x4_63 ex4_63 => ?_)
          have hf := yb_let_to ex4_63 hf
          refine lv_istore (lv' := [(4, .int x4_63), (0, .ref mb), (1, .int x1), (2, .int x2), (3, .int x3), (5, .int x5), (6, .int x6), (7, .int x7), (8, .int x8), (9, .int x9)]) hx hb dX12_years_184 hl (by decide) rfl (fun ls hl => ?_)
          obtain ⟨x9_64, ex9_64, hf⟩ := yb_let_ex hf
          refine lv_iinc (v := x9_64) (lv' := [(9, .int x9_64), (4, .int x4_63), (0, .ref mb), (1, .int x1), (2, .int x2), (3, .int x3), (5, .int x5), (6, .int x6), (7, .int x7), (8, .int x8)]) hx hb dX12_years_186 hl (k := 9) rfl (by rw [ex9_64]; rfl) (by decide) rfl (fun ls hl => ?_)
          refine lv_goto (tgt := 138) hx hb dX12_years_189 (by decide) ?_
          exact ih _ _ _ _ _ _ _ _ _ _ hf hw (lv_sub hl [2, 3, 4, 5, 1, 6, 7, 8, 9, 0] rfl) hexit
        · have hf := yb_neg c_62 hf
          refine lv_iconst (v := (1 : Int32)) hx hb dX12_years_178 (by decide) ?_
          refine lv_goto (tgt := 183) hx hb dX12_years_179 (by decide) ?_
          refine lv_iadd hx hb dX12_years_183 ?_
          refine lv_topi (fun x4_65 ex4_65 => ?_)
          have hf := yb_let_to ex4_65 hf
          refine lv_istore (lv' := [(4, .int x4_65), (0, .ref mb), (1, .int x1), (2, .int x2), (3, .int x3), (5, .int x5), (6, .int x6), (7, .int x7), (8, .int x8), (9, .int x9)]) hx hb dX12_years_184 hl (by decide) rfl (fun ls hl => ?_)
          obtain ⟨x9_66, ex9_66, hf⟩ := yb_let_ex hf
          refine lv_iinc (v := x9_66) (lv' := [(9, .int x9_66), (4, .int x4_65), (0, .ref mb), (1, .int x1), (2, .int x2), (3, .int x3), (5, .int x5), (6, .int x6), (7, .int x7), (8, .int x8)]) hx hb dX12_years_186 hl (k := 9) rfl (by rw [ex9_66]; rfl) (by decide) rfl (fun ls hl => ?_)
          refine lv_goto (tgt := 138) hx hb dX12_years_189 (by decide) ?_
          exact ih _ _ _ _ _ _ _ _ _ _ hf hw (lv_sub hl [2, 3, 4, 5, 1, 6, 7, 8, 9, 0] rfl) hexit
set_option maxHeartbeats 4000000 in
set_option maxRecDepth 100000 in
theorem w12_years_L109 {p : Program} {l : Launch} {e : Env} {s : State} {m : MethodId} {args : Array Value} {below : List Frame} {meth : Method} {c : Code} {Q : State → Prop} {D : va_G} {cz : Nat → ClassId} {A : Nat → Prop} {ev : Nat × Nat × Nat} {mb : Nat} (X : CallFix p m c cX12_years 10 s args gw RX12) (hK : KX D cz ev A s) {N : Nat} {x1 : Int32} {x2 : Int32} {x3 : Int32} {x6 : Int32} :
    ∀ (n : Nat) (x4 : Int32) (x5 : Int32) (x7 : Int32) (I : IT) (J : JT) (q : (Int32 × Int32)) (I1 : IT) (J1 : JT) (H : Heap) (locs : List Loc) (ls : Array Slot), f12_years_L109 N mb x1 x2 x3 x6 n x4 x5 x7 I J = some (q, I1, J1) → WX D cz A (mlL mb) (mlS mb) (mlR mb) s.heap I J H locs → lv_has ls 10 [(0, .ref mb), (1, .int x1), (2, .int x2), (3, .int x3), (4, .int x4), (5, .int x5), (6, .int x6), (7, .int x7)] →
    (∀ (H : Heap) (locs : List Loc) (ls : Array Slot), WX D cz A (mlL mb) (mlS mb) (mlR mb) s.heap I1 J1 H locs → lv_has ls 10 [(0, .ref mb), (1, .int x1), (2, .int x2), (3, .int x3), (4, .int q.1), (5, .int q.2), (6, .int x6)] → W p l e (rmX 7 175) s m args below meth c H locs 0 0 Q (F0 m 198 ls [])) →
    W p l e (rmX 7 175) s m args below meth c H locs 0 0 Q (F0 m 109 ls []) := by
  have hx := X.1
  have hb := X.2.1
  intro n
  induction n with
  | zero =>
    intro x4 x5 x7 I J q I1 J1 H locs ls hf
    rw [f12_years_L109] at hf
    cases hf
  | succ n ih =>
    intro x4 x5 x7 I J q I1 J1 H locs ls hf hw hl hexit
    rw [f12_years_L109] at hf
    refine lv_iload hx hb dX12_years_109 (lv_at hl 7 rfl) ?_
    refine lv_iload_n hx hb dX12_years_111 rfl (lv_at hl 2 rfl) ?_
    refine lv_icmp_ge (tgt := 198) hx hb dX12_years_112 (by decide) (fun c_33 => ?_) (fun c_33 => ?_)
    · have hf := yb_pos c_33 hf
      obtain ⟨rfl, rfl, rfl⟩ := yb_inj hf
      exact hexit _ _ _ hw (lv_sub hl [0, 1, 2, 3, 4, 5, 6] rfl)
    · have hf := yb_neg c_33 hf
      refine lv_aload_n hx hb dX12_years_115 rfl (lv_at hl 0 rfl) ?_
      obtain ⟨r_34, I_35, J_36, hq_37, hf⟩ := yb_b3_some hf
      refine x_callv X hK hw (c12_hearsDrawn l D cz ev mb hq_37) (ml_mem0 mb) (ml_S0 mb) cpX12.1 vw_X12_506 ⟨Nat.le_of_ble_eq_true rfl, Nat.le_of_ble_eq_true rfl⟩ rfl rfl (Nat.le_of_ble_eq_true rfl) hl.1 ⟨Nat.le_refl _, Nat.le_refl _⟩ dX12_years_116 (fun H locs hw => ?_)
      refine lv_aload_n hx hb dX12_years_119 rfl (lv_at hl 0 rfl) ?_
      obtain ⟨r_38, I_39, J_40, hq_41, hf⟩ := yb_b3_some hf
      refine x_calli X hK hw (c12_passes l D cz ev mb hq_41) (ml_mem0 mb) (ml_S0 mb) cpX12.1 vw_X12_386 ⟨Nat.le_of_ble_eq_true rfl, Nat.le_of_ble_eq_true rfl⟩ rfl rfl (Nat.le_of_ble_eq_true rfl) hl.1 ⟨Nat.le_refl _, Nat.le_refl _⟩ dX12_years_120 (fun H locs hw => ?_)
      refine lv_istore (lv' := [(8, .int r_38), (0, .ref mb), (1, .int x1), (2, .int x2), (3, .int x3), (4, .int x4), (5, .int x5), (6, .int x6), (7, .int x7)]) hx hb dX12_years_123 hl (by decide) rfl (fun ls hl => ?_)
      refine lv_iload hx hb dX12_years_125 (lv_at hl 6 rfl) ?_
      refine lv_iload hx hb dX12_years_127 (lv_at hl 0 rfl) ?_
      obtain ⟨r_42, I_43, J_44, hq_45, hf⟩ := yb_b3_some hf
      refine x_callsi X hK hw (c12_bits l D cz ev mb hq_45) sw_X12_389 ⟨Nat.le_of_ble_eq_true rfl, Nat.le_of_ble_eq_true rfl⟩ rfl rfl (Nat.le_of_ble_eq_true rfl) hl.1 ⟨Nat.le_refl _, Nat.le_refl _⟩ dX12_years_129 (fun H locs hw => ?_)
      refine lv_iadd hx hb dX12_years_132 ?_
      refine lv_topi (fun x5_46 ex5_46 => ?_)
      have hf := yb_let_to ex5_46 hf
      refine lv_istore (lv' := [(5, .int x5_46), (8, .int r_38), (0, .ref mb), (1, .int x1), (2, .int x2), (3, .int x3), (4, .int x4), (6, .int x6), (7, .int x7)]) hx hb dX12_years_133 hl (by decide) rfl (fun ls hl => ?_)
      refine lv_iconst (v := (0 : Int32)) hx hb dX12_years_135 (by decide) ?_
      refine lv_istore (lv' := [(9, .int (0 : Int32)), (5, .int x5_46), (8, .int r_38), (0, .ref mb), (1, .int x1), (2, .int x2), (3, .int x3), (4, .int x4), (6, .int x6), (7, .int x7)]) hx hb dX12_years_136 hl (by decide) rfl (fun ls hl => ?_)
      obtain ⟨q_67, I_68, J_69, hq_70, hf⟩ := yb_b3_some hf
      refine w12_years_L138 X hK _ _ _ _ _ _ _ _ _ _ _ hq_70 hw (lv_sub hl [3, 4, 5, 6, 7, 1, 8, 9, 2, 0] rfl) (fun H locs ls hw hl => ?_)
      obtain ⟨x7_71, ex7_71, hf⟩ := yb_let_ex hf
      refine lv_iinc (v := x7_71) (lv' := [(7, .int x7_71), (0, .ref mb), (1, .int x1), (2, .int x2), (3, .int x3), (4, .int q_67), (5, .int x5_46), (6, .int x6)]) hx hb dX12_years_192 hl (k := 7) rfl (by rw [ex7_71]; rfl) (by decide) rfl (fun ls hl => ?_)
      refine lv_goto (tgt := 109) hx hb dX12_years_195 (by decide) ?_
      exact ih _ _ _ _ _ _ _ _ _ _ _ hf hw (lv_sub hl [1, 2, 3, 4, 5, 6, 7, 0] rfl) hexit
set_option maxHeartbeats 4000000 in
set_option maxRecDepth 100000 in
theorem w12_years_L201 {p : Program} {l : Launch} {e : Env} {s : State} {m : MethodId} {args : Array Value} {below : List Frame} {meth : Method} {c : Code} {Q : State → Prop} {D : va_G} {cz : Nat → ClassId} {A : Nat → Prop} {ev : Nat × Nat × Nat} {mb : Nat} (X : CallFix p m c cX12_years 10 s args gw RX12) (hK : KX D cz ev A s) {N : Nat} {x1 : Int32} {x2 : Int32} {x3 : Int32} {x4 : Int32} {x5 : Int32} {x6 : Int32} :
    ∀ (n : Nat) (x7 : Int32) (I : IT) (J : JT) (q : (Unit)) (I1 : IT) (J1 : JT) (H : Heap) (locs : List Loc) (ls : Array Slot), f12_years_L201 N mb x1 x2 x3 x4 x5 x6 n x7 I J = some (q, I1, J1) → WX D cz A (mlL mb) (mlS mb) (mlR mb) s.heap I J H locs → lv_has ls 10 [(0, .ref mb), (1, .int x1), (2, .int x2), (3, .int x3), (4, .int x4), (5, .int x5), (6, .int x6), (7, .int x7)] →
    (∀ (H : Heap) (locs : List Loc) (ls : Array Slot), WX D cz A (mlL mb) (mlS mb) (mlR mb) s.heap I1 J1 H locs → lv_has ls 10 [(0, .ref mb), (1, .int x1), (2, .int x2), (3, .int x3), (4, .int x4), (5, .int x5), (6, .int x6)] → W p l e (rmX 7 175) s m args below meth c H locs 0 0 Q (F0 m 228 ls [])) →
    W p l e (rmX 7 175) s m args below meth c H locs 0 0 Q (F0 m 201 ls []) := by
  have hx := X.1
  have hb := X.2.1
  intro n
  induction n with
  | zero =>
    intro x7 I J q I1 J1 H locs ls hf
    rw [f12_years_L201] at hf
    cases hf
  | succ n ih =>
    intro x7 I J q I1 J1 H locs ls hf hw hl hexit
    rw [f12_years_L201] at hf
    refine lv_iload hx hb dX12_years_201 (lv_at hl 7 rfl) ?_
    refine lv_bipush (v := (111 : Int32)) hx hb dX12_years_203 (by decide) ?_
    refine lv_icmp_ge (tgt := 228) hx hb dX12_years_205 (by decide) (fun c_76 => ?_) (fun c_76 => ?_)
    · have hf := yb_pos c_76 hf
      obtain ⟨rfl, rfl, rfl⟩ := yb_inj hf
      exact hexit _ _ _ hw (lv_sub hl [0, 1, 2, 3, 4, 5, 6] rfl)
    · have hf := yb_neg c_76 hf
      refine lv_aload_n hx hb dX12_years_208 rfl (lv_at hl 0 rfl) ?_
      refine x_getR X hK hw (ml_mem0 mb) (ml_S0 mb) cpX12 20 (by decide) rfl (ml_R mb 20 rfl) tw_1271 dX12_years_209 ?_
      refine lv_iload hx hb dX12_years_212 (lv_at hl 7 rfl) ?_
      refine lv_aload_n hx hb dX12_years_214 rfl (lv_at hl 0 rfl) ?_
      refine x_getR X hK hw (ml_mem0 mb) (ml_S0 mb) cpX12 42 (by decide) rfl (ml_R mb 42 rfl) tw_1293 dX12_years_215 ?_
      refine lv_iload hx hb dX12_years_218 (lv_at hl 7 rfl) ?_
      obtain ⟨hi_77, hf⟩ := yb_ck_some hf
      refine x_iald X hK hw (ml_mem mb 25 (by decide)) (ml_S mb 25 rfl) hi_77 rfl dX12_years_220 ?_
      obtain ⟨hi_78, hf⟩ := yb_ck_some hf
      refine x_iast X hK hw (ml_mem mb 10 (by decide)) (ml_S mb 10 rfl) hi_78 rfl dX12_years_221 (fun H locs hw => ?_)
      obtain ⟨I_79, eI_79, hf⟩ := yb_let_ex hf
      have hw := yb_wI eI_79 hw
      obtain ⟨x7_80, ex7_80, hf⟩ := yb_let_ex hf
      refine lv_iinc (v := x7_80) (lv' := [(7, .int x7_80), (0, .ref mb), (1, .int x1), (2, .int x2), (3, .int x3), (4, .int x4), (5, .int x5), (6, .int x6)]) hx hb dX12_years_222 hl (k := 7) rfl (by rw [ex7_80]; rfl) (by decide) rfl (fun ls hl => ?_)
      refine lv_goto (tgt := 201) hx hb dX12_years_225 (by decide) ?_
      exact ih _ _ _ _ _ _ _ _ _ hf hw (lv_sub hl [1, 2, 3, 4, 5, 6, 7, 0] rfl) hexit
set_option maxHeartbeats 4000000 in
set_option maxRecDepth 100000 in
theorem w12_years_L91 {p : Program} {l : Launch} {e : Env} {s : State} {m : MethodId} {args : Array Value} {below : List Frame} {meth : Method} {c : Code} {Q : State → Prop} {D : va_G} {cz : Nat → ClassId} {A : Nat → Prop} {ev : Nat × Nat × Nat} {mb : Nat} (X : CallFix p m c cX12_years 10 s args gw RX12) (hK : KX D cz ev A s) {N : Nat} {x1 : Int32} {x2 : Int32} {x3 : Int32} :
    ∀ (n : Nat) (x4 : Int32) (x5 : Int32) (x6 : Int32) (I : IT) (J : JT) (q : (Int32 × Int32)) (I1 : IT) (J1 : JT) (H : Heap) (locs : List Loc) (ls : Array Slot), f12_years_L91 N mb x1 x2 x3 n x4 x5 x6 I J = some (q, I1, J1) → WX D cz A (mlL mb) (mlS mb) (mlR mb) s.heap I J H locs → lv_has ls 10 [(0, .ref mb), (1, .int x1), (2, .int x2), (3, .int x3), (4, .int x4), (5, .int x5), (6, .int x6)] →
    (∀ (H : Heap) (locs : List Loc) (ls : Array Slot), WX D cz A (mlL mb) (mlS mb) (mlR mb) s.heap I1 J1 H locs → lv_has ls 10 [(3, .int x3), (4, .int q.1), (5, .int q.2)] → W p l e (rmX 7 175) s m args below meth c H locs 0 0 Q (F0 m 234 ls [])) →
    W p l e (rmX 7 175) s m args below meth c H locs 0 0 Q (F0 m 91 ls []) := by
  have hx := X.1
  have hb := X.2.1
  intro n
  induction n with
  | zero =>
    intro x4 x5 x6 I J q I1 J1 H locs ls hf
    rw [f12_years_L91] at hf
    cases hf
  | succ n ih =>
    intro x4 x5 x6 I J q I1 J1 H locs ls hf hw hl hexit
    rw [f12_years_L91] at hf
    refine lv_iload hx hb dX12_years_91 (lv_at hl 6 rfl) ?_
    refine lv_iload_n hx hb dX12_years_93 rfl (lv_at hl 1 rfl) ?_
    refine lv_icmp_ge (tgt := 234) hx hb dX12_years_94 (by decide) (fun c_31 => ?_) (fun c_31 => ?_)
    · have hf := yb_pos c_31 hf
      obtain ⟨rfl, rfl, rfl⟩ := yb_inj hf
      exact hexit _ _ _ hw (lv_sub hl [3, 4, 5] rfl)
    · have hf := yb_neg c_31 hf
      refine lv_aload_n hx hb dX12_years_97 rfl (lv_at hl 0 rfl) ?_
      refine x_getR X hK hw (ml_mem0 mb) (ml_S0 mb) cpX12 20 (by decide) rfl (ml_R mb 20 rfl) tw_1271 dX12_years_98 ?_
      refine lv_iconst (v := (2 : Int32)) hx hb dX12_years_101 (by decide) ?_
      refine x_iald X hK hw (ml_mem mb 10 (by decide)) (ml_S mb 10 rfl) (by decide) rfl dX12_years_102 ?_
      refine lv_if_le (tgt := 234) hx hb dX12_years_103 (by decide) (fun c_32 => ?_) (fun c_32 => ?_)
      · have hf := yb_pos c_32 hf
        obtain ⟨rfl, rfl, rfl⟩ := yb_inj hf
        exact hexit _ _ _ hw (lv_sub hl [3, 4, 5] rfl)
      · have hf := yb_neg c_32 hf
        refine lv_iconst (v := (0 : Int32)) hx hb dX12_years_106 (by decide) ?_
        refine lv_istore (lv' := [(7, .int (0 : Int32)), (0, .ref mb), (1, .int x1), (2, .int x2), (3, .int x3), (4, .int x4), (5, .int x5), (6, .int x6)]) hx hb dX12_years_107 hl (by decide) rfl (fun ls hl => ?_)
        obtain ⟨q_72, I_73, J_74, hq_75, hf⟩ := yb_b3_some hf
        refine w12_years_L109 X hK _ _ _ _ _ _ _ _ _ _ _ _ hq_75 hw (lv_sub hl [1, 2, 3, 4, 5, 6, 7, 0] rfl) (fun H locs ls hw hl => ?_)
        refine lv_iconst (v := (0 : Int32)) hx hb dX12_years_198 (by decide) ?_
        refine lv_istore (lv' := [(7, .int (0 : Int32)), (0, .ref mb), (1, .int x1), (2, .int x2), (3, .int x3), (4, .int q_72.1), (5, .int q_72.2), (6, .int x6)]) hx hb dX12_years_199 hl (by decide) rfl (fun ls hl => ?_)
        obtain ⟨q_81, I_82, J_83, hq_84, hf⟩ := yb_b3_some hf
        refine w12_years_L201 X hK _ _ _ _ _ _ _ _ _ _ hq_84 hw (lv_sub hl [1, 2, 3, 4, 5, 6, 7, 0] rfl) (fun H locs ls hw hl => ?_)
        obtain ⟨x6_85, ex6_85, hf⟩ := yb_let_ex hf
        refine lv_iinc (v := x6_85) (lv' := [(6, .int x6_85), (0, .ref mb), (1, .int x1), (2, .int x2), (3, .int x3), (4, .int q_72.1), (5, .int q_72.2)]) hx hb dX12_years_228 hl (k := 6) rfl (by rw [ex6_85]; rfl) (by decide) rfl (fun ls hl => ?_)
        refine lv_goto (tgt := 91) hx hb dX12_years_231 (by decide) ?_
        exact ih _ _ _ _ _ _ _ _ _ _ _ hf hw (lv_sub hl [1, 2, 3, 4, 5, 6, 0] rfl) hexit
set_option maxHeartbeats 4000000 in
set_option maxRecDepth 100000 in
theorem c12_years (l : Launch) (D : va_G) (cz : Nat → ClassId) (ev : Nat × Nat × Nat) (mb : Nat) {N : Nat} {x1 : Int32} {x2 : Int32} {x3 : Int32} {I : IT} {J : JT} {r : Int32} {I1 : IT} {J1 : JT} (hf : f12_years N mb x1 x2 x3 I J = some (r, I1, J1)) : MTi l D cz ev yX12_years cX12_years 10 (some .int) 7 175 [.ref mb, .int x1, .int x2, .int x3] (mlL mb) (mlS mb) (mlR mb) I J r I1 J1 := by
  unfold f12_years at hf
  refine MTi_of (by decide) (Nat.le_of_ble_eq_true rfl) ?_
  intro p e s m args below meth c Q ls X hK hw hl hfin
  have X : CallFix p m c cX12_years 10 s args gw RX12 := X
  have hx := X.1
  have hb := X.2.1
  have hl : lv_has ls 10 [(0, .ref mb), (1, .int x1), (2, .int x2), (3, .int x3)] := hl
  refine lv_aload_n hx hb dX12_years_0 rfl (lv_at hl 0 rfl) ?_
  obtain ⟨r_1, I_2, J_3, hq_4, hf⟩ := yb_b3_some hf
  refine x_calli X hK hw (c12_isTown l D cz ev mb hq_4) (ml_mem0 mb) (ml_S0 mb) cpX12.1 vw_X12_380 ⟨Nat.le_of_ble_eq_true rfl, Nat.le_of_ble_eq_true rfl⟩ rfl rfl (Nat.le_of_ble_eq_true rfl) hl.1 ⟨Nat.le_refl _, Nat.le_refl _⟩ dX12_years_1 (fun H locs hw => ?_)
  refine lv_if_eq (tgt := 41) hx hb dX12_years_4 (by decide) (fun c_5 => ?_) (fun c_5 => ?_)
  · have hf := yb_pos c_5 hf
    refine lv_iconst (v := (-1 : Int32)) hx hb dX12_years_41 (by decide) ?_
    exact yb_reti hfin hf hw dX12_years_42
  · have hf := yb_neg c_5 hf
    refine lv_iload_n hx hb dX12_years_7 rfl (lv_at hl 1 rfl) ?_
    refine lv_i2l hx hb dX12_years_8 rfl ?_
    refine lv_lconst (v := (1 : Int64)) hx hb dX12_years_9 (by decide) ?_
    refine lv_ldc2 (v := (10 : Int64)) hx hb X.2.2.2.1 (X.2.2.2.2 _ tw_1855) dX12_years_10 ?_
    obtain ⟨r_6, I_7, J_8, hq_9, hf⟩ := yb_b3_some hf
    refine x_callsi X hK hw (c12_in l D cz ev mb hq_9) sw_X12_142 ⟨Nat.le_of_ble_eq_true rfl, Nat.le_of_ble_eq_true rfl⟩ rfl rfl (Nat.le_of_ble_eq_true rfl) hl.1 ⟨Nat.le_refl _, Nat.le_refl _⟩ dX12_years_13 (fun H locs hw => ?_)
    refine lv_if_eq (tgt := 41) hx hb dX12_years_16 (by decide) (fun c_10 => ?_) (fun c_10 => ?_)
    · have hf := yb_pos c_10 hf
      refine lv_iconst (v := (-1 : Int32)) hx hb dX12_years_41 (by decide) ?_
      exact yb_reti hfin hf hw dX12_years_42
    · have hf := yb_neg c_10 hf
      refine lv_iload_n hx hb dX12_years_19 rfl (lv_at hl 2 rfl) ?_
      refine lv_i2l hx hb dX12_years_20 rfl ?_
      refine lv_lconst (v := (1 : Int64)) hx hb dX12_years_21 (by decide) ?_
      refine lv_ldc2 (v := (99 : Int64)) hx hb X.2.2.2.1 (X.2.2.2.2 _ tw_1856) dX12_years_22 ?_
      obtain ⟨r_11, I_12, J_13, hq_14, hf⟩ := yb_b3_some hf
      refine x_callsi X hK hw (c12_in l D cz ev mb hq_14) sw_X12_142 ⟨Nat.le_of_ble_eq_true rfl, Nat.le_of_ble_eq_true rfl⟩ rfl rfl (Nat.le_of_ble_eq_true rfl) hl.1 ⟨Nat.le_refl _, Nat.le_refl _⟩ dX12_years_25 (fun H locs hw => ?_)
      refine lv_if_eq (tgt := 41) hx hb dX12_years_28 (by decide) (fun c_15 => ?_) (fun c_15 => ?_)
      · have hf := yb_pos c_15 hf
        refine lv_iconst (v := (-1 : Int32)) hx hb dX12_years_41 (by decide) ?_
        exact yb_reti hfin hf hw dX12_years_42
      · have hf := yb_neg c_15 hf
        refine lv_iload_n hx hb dX12_years_31 rfl (lv_at hl 3 rfl) ?_
        refine lv_i2l hx hb dX12_years_32 rfl ?_
        refine lv_lconst (v := (0 : Int64)) hx hb dX12_years_33 (by decide) ?_
        refine lv_lconst (v := (1 : Int64)) hx hb dX12_years_34 (by decide) ?_
        obtain ⟨r_16, I_17, J_18, hq_19, hf⟩ := yb_b3_some hf
        refine x_callsi X hK hw (c12_in l D cz ev mb hq_19) sw_X12_142 ⟨Nat.le_of_ble_eq_true rfl, Nat.le_of_ble_eq_true rfl⟩ rfl rfl (Nat.le_of_ble_eq_true rfl) hl.1 ⟨Nat.le_refl _, Nat.le_refl _⟩ dX12_years_35 (fun H locs hw => ?_)
        refine lv_if_ne (tgt := 43) hx hb dX12_years_38 (by decide) (fun c_20 => ?_) (fun c_20 => ?_)
        · have hf := yb_neg c_20 hf
          refine lv_aload_n hx hb dX12_years_43 rfl (lv_at hl 0 rfl) ?_
          refine lv_aload_n hx hb dX12_years_44 rfl (lv_at hl 0 rfl) ?_
          refine x_getI X hK hw (ml_mem0 mb) (ml_S0 mb) cpX12 22 (by decide) rfl tw_1273 dX12_years_45 ?_
          refine lv_i2l hx hb dX12_years_48 rfl ?_
          refine x_putJ X hK hw (ml_mem0 mb) (ml_S0 mb) cpX12 43 (by decide) rfl rfl rfl tw_1294 dX12_years_49 (fun H locs hw => ?_)
          obtain ⟨J_21, eJ_21, hf⟩ := yb_let_ex hf
          have hw := yb_wJ eJ_21 hw
          refine lv_iconst (v := (0 : Int32)) hx hb dX12_years_52 (by decide) ?_
          refine lv_istore (lv' := [(4, .int (0 : Int32)), (0, .ref mb), (1, .int x1), (2, .int x2), (3, .int x3)]) hx hb dX12_years_53 hl (by decide) rfl (fun ls hl => ?_)
          refine lv_iconst (v := (0 : Int32)) hx hb dX12_years_55 (by decide) ?_
          refine lv_istore (lv' := [(5, .int (0 : Int32)), (4, .int (0 : Int32)), (0, .ref mb), (1, .int x1), (2, .int x2), (3, .int x3)]) hx hb dX12_years_56 hl (by decide) rfl (fun ls hl => ?_)
          refine lv_iconst (v := (0 : Int32)) hx hb dX12_years_58 (by decide) ?_
          refine lv_istore (lv' := [(6, .int (0 : Int32)), (5, .int (0 : Int32)), (4, .int (0 : Int32)), (0, .ref mb), (1, .int x1), (2, .int x2), (3, .int x3)]) hx hb dX12_years_59 hl (by decide) rfl (fun ls hl => ?_)
          obtain ⟨q_27, I_28, J_29, hq_30, hf⟩ := yb_b3_some hf
          refine w12_years_L61 X hK _ _ _ _ _ _ _ _ _ _ hq_30 hw (lv_sub hl [3, 4, 5, 6, 2, 1, 0] rfl) (fun H locs ls hw hl => ?_)
          refine lv_iconst (v := (0 : Int32)) hx hb dX12_years_88 (by decide) ?_
          refine lv_istore (lv' := [(6, .int (0 : Int32)), (0, .ref mb), (1, .int x1), (2, .int x2), (3, .int x3), (4, .int (0 : Int32)), (5, .int (0 : Int32))]) hx hb dX12_years_89 hl (by decide) rfl (fun ls hl => ?_)
          obtain ⟨q_86, I_87, J_88, hq_89, hf⟩ := yb_b3_some hf
          refine w12_years_L91 X hK _ _ _ _ _ _ _ _ _ _ _ _ hq_89 hw (lv_sub hl [1, 2, 3, 4, 5, 6, 0] rfl) (fun H locs ls hw hl => ?_)
          refine lv_iload_n hx hb dX12_years_234 rfl (lv_at hl 0 rfl) ?_
          refine lv_if_ne (tgt := 243) hx hb dX12_years_235 (by decide) (fun c_90 => ?_) (fun c_90 => ?_)
          · have hf := yb_neg c_90 hf
            refine lv_iload hx hb dX12_years_243 (lv_at hl 2 rfl) ?_
            exact yb_reti hfin hf hw dX12_years_245
          · have hf := yb_pos c_90 hf
            refine lv_iload hx hb dX12_years_238 (lv_at hl 1 rfl) ?_
            refine lv_goto (tgt := 245) hx hb dX12_years_240 (by decide) ?_
            exact yb_reti hfin hf hw dX12_years_245
        · have hf := yb_pos c_20 hf
          refine lv_iconst (v := (-1 : Int32)) hx hb dX12_years_41 (by decide) ?_
          exact yb_reti hfin hf hw dX12_years_42
set_option maxHeartbeats 4000000 in
set_option maxRecDepth 100000 in
theorem w12_count_L102 {p : Program} {l : Launch} {e : Env} {s : State} {m : MethodId} {args : Array Value} {below : List Frame} {meth : Method} {c : Code} {Q : State → Prop} {D : va_G} {cz : Nat → ClassId} {A : Nat → Prop} {ev : Nat × Nat × Nat} {mb : Nat} (X : CallFix p m c cX12_count 4 s args gw RX12) (hK : KX D cz ev A s) {N : Nat} {x1 : Int32} :
    ∀ (n : Nat) (x2 : Int32) (x3 : Int32) (I : IT) (J : JT) (q : (Int32)) (I1 : IT) (J1 : JT) (H : Heap) (locs : List Loc) (ls : Array Slot), f12_count_L102 N mb x1 n x2 x3 I J = some (q, I1, J1) → WX D cz A (mlL mb) (mlS mb) (mlR mb) s.heap I J H locs → lv_has ls 4 [(0, .ref mb), (1, .int x1), (2, .int x2), (3, .int x3)] →
    (∀ (H : Heap) (locs : List Loc) (ls : Array Slot), WX D cz A (mlL mb) (mlS mb) (mlR mb) s.heap I1 J1 H locs → lv_has ls 4 [(2, .int q)] → W p l e (rmX 1 22) s m args below meth c H locs 0 0 Q (F0 m 156 ls [])) →
    W p l e (rmX 1 22) s m args below meth c H locs 0 0 Q (F0 m 102 ls []) := by
  have hx := X.1
  have hb := X.2.1
  intro n
  induction n with
  | zero =>
    intro x2 x3 I J q I1 J1 H locs ls hf
    rw [f12_count_L102] at hf
    cases hf
  | succ n ih =>
    intro x2 x3 I J q I1 J1 H locs ls hf hw hl hexit
    rw [f12_count_L102] at hf
    refine lv_iload_n hx hb dX12_count_102 rfl (lv_at hl 3 rfl) ?_
    refine lv_aload_n hx hb dX12_count_103 rfl (lv_at hl 0 rfl) ?_
    refine x_getR X hK hw (ml_mem0 mb) (ml_S0 mb) cpX12 20 (by decide) rfl (ml_R mb 20 rfl) tw_1271 dX12_count_104 ?_
    refine lv_iconst (v := (3 : Int32)) hx hb dX12_count_107 (by decide) ?_
    refine x_iald X hK hw (ml_mem mb 10 (by decide)) (ml_S mb 10 rfl) (by decide) rfl dX12_count_108 ?_
    refine lv_icmp_ge (tgt := 156) hx hb dX12_count_109 (by decide) (fun c_13 => ?_) (fun c_13 => ?_)
    · have hf := yb_pos c_13 hf
      obtain ⟨rfl, rfl, rfl⟩ := yb_inj hf
      exact hexit _ _ _ hw (lv_sub hl [2] rfl)
    · have hf := yb_neg c_13 hf
      refine lv_iload_n hx hb dX12_count_112 rfl (lv_at hl 2 rfl) ?_
      refine lv_iload_n hx hb dX12_count_113 rfl (lv_at hl 1 rfl) ?_
      refine lv_bipush (v := (7 : Int32)) hx hb dX12_count_114 (by decide) ?_
      refine lv_icmp_ne (tgt := 131) hx hb dX12_count_116 (by decide) (fun c_14 => ?_) (fun c_14 => ?_)
      · have hf := yb_neg c_14 hf
        refine lv_aload_n hx hb dX12_count_131 rfl (lv_at hl 0 rfl) ?_
        refine lv_iload_n hx hb dX12_count_132 rfl (lv_at hl 3 rfl) ?_
        refine lv_bipush (v := (9 : Int32)) hx hb dX12_count_133 (by decide) ?_
        obtain ⟨r_15, I_16, J_17, hq_18, hf⟩ := yb_b3_some hf
        refine x_calli X hK hw (c12_caseOf l D cz ev mb hq_18) (ml_mem0 mb) (ml_S0 mb) cpX12.1 vw_X12_331 ⟨Nat.le_of_ble_eq_true rfl, Nat.le_of_ble_eq_true rfl⟩ rfl rfl (Nat.le_of_ble_eq_true rfl) hl.1 ⟨Nat.le_refl _, Nat.le_refl _⟩ dX12_count_135 (fun H locs hw => ?_)
        refine lv_if_le (tgt := 147) hx hb dX12_count_138 (by decide) (fun c_19 => ?_) (fun c_19 => ?_)
        · have hf := yb_pos c_19 hf
          refine lv_iconst (v := (0 : Int32)) hx hb dX12_count_147 (by decide) ?_
          refine lv_ior hx hb dX12_count_148 ?_
          refine lv_topi (fun x2_20 ex2_20 => ?_)
          have hf := yb_let_to ex2_20 hf
          refine lv_istore_n (lv' := [(2, .int x2_20), (0, .ref mb), (1, .int x1), (3, .int x3)]) hx hb dX12_count_149 rfl hl (by decide) rfl (fun ls hl => ?_)
          obtain ⟨x3_21, ex3_21, hf⟩ := yb_let_ex hf
          refine lv_iinc (v := x3_21) (lv' := [(3, .int x3_21), (2, .int x2_20), (0, .ref mb), (1, .int x1)]) hx hb dX12_count_150 hl (k := 3) rfl (by rw [ex3_21]; rfl) (by decide) rfl (fun ls hl => ?_)
          refine lv_goto (tgt := 102) hx hb dX12_count_153 (by decide) ?_
          exact ih _ _ _ _ _ _ _ _ _ _ hf hw (lv_sub hl [2, 3, 1, 0] rfl) hexit
        · have hf := yb_neg c_19 hf
          refine lv_iconst (v := (1 : Int32)) hx hb dX12_count_141 (by decide) ?_
          refine lv_iload_n hx hb dX12_count_142 rfl (lv_at hl 3 rfl) ?_
          refine lv_ishl hx hb dX12_count_143 ?_
          refine lv_goto (tgt := 148) hx hb dX12_count_144 (by decide) ?_
          refine lv_ior hx hb dX12_count_148 ?_
          refine lv_topi (fun x2_22 ex2_22 => ?_)
          have hf := yb_let_to ex2_22 hf
          refine lv_istore_n (lv' := [(2, .int x2_22), (0, .ref mb), (1, .int x1), (3, .int x3)]) hx hb dX12_count_149 rfl hl (by decide) rfl (fun ls hl => ?_)
          obtain ⟨x3_23, ex3_23, hf⟩ := yb_let_ex hf
          refine lv_iinc (v := x3_23) (lv' := [(3, .int x3_23), (2, .int x2_22), (0, .ref mb), (1, .int x1)]) hx hb dX12_count_150 hl (k := 3) rfl (by rw [ex3_23]; rfl) (by decide) rfl (fun ls hl => ?_)
          refine lv_goto (tgt := 102) hx hb dX12_count_153 (by decide) ?_
          exact ih _ _ _ _ _ _ _ _ _ _ hf hw (lv_sub hl [2, 3, 1, 0] rfl) hexit
      · have hf := yb_pos c_14 hf
        refine lv_aload_n hx hb dX12_count_119 rfl (lv_at hl 0 rfl) ?_
        refine lv_iload_n hx hb dX12_count_120 rfl (lv_at hl 3 rfl) ?_
        refine lv_iconst (v := (4 : Int32)) hx hb dX12_count_121 (by decide) ?_
        obtain ⟨r_24, I_25, J_26, hq_27, hf⟩ := yb_b3_some hf
        refine x_calli X hK hw (c12_caseOf l D cz ev mb hq_27) (ml_mem0 mb) (ml_S0 mb) cpX12.1 vw_X12_331 ⟨Nat.le_of_ble_eq_true rfl, Nat.le_of_ble_eq_true rfl⟩ rfl rfl (Nat.le_of_ble_eq_true rfl) hl.1 ⟨Nat.le_refl _, Nat.le_refl _⟩ dX12_count_122 (fun H locs hw => ?_)
        refine lv_if_lt (tgt := 147) hx hb dX12_count_125 (by decide) (fun c_28 => ?_) (fun c_28 => ?_)
        · have hf := yb_pos c_28 hf
          refine lv_iconst (v := (0 : Int32)) hx hb dX12_count_147 (by decide) ?_
          refine lv_ior hx hb dX12_count_148 ?_
          refine lv_topi (fun x2_29 ex2_29 => ?_)
          have hf := yb_let_to ex2_29 hf
          refine lv_istore_n (lv' := [(2, .int x2_29), (0, .ref mb), (1, .int x1), (3, .int x3)]) hx hb dX12_count_149 rfl hl (by decide) rfl (fun ls hl => ?_)
          obtain ⟨x3_30, ex3_30, hf⟩ := yb_let_ex hf
          refine lv_iinc (v := x3_30) (lv' := [(3, .int x3_30), (2, .int x2_29), (0, .ref mb), (1, .int x1)]) hx hb dX12_count_150 hl (k := 3) rfl (by rw [ex3_30]; rfl) (by decide) rfl (fun ls hl => ?_)
          refine lv_goto (tgt := 102) hx hb dX12_count_153 (by decide) ?_
          exact ih _ _ _ _ _ _ _ _ _ _ hf hw (lv_sub hl [2, 3, 1, 0] rfl) hexit
        · have hf := yb_neg c_28 hf
          refine lv_goto (tgt := 141) hx hb dX12_count_128 (by decide) ?_
          refine lv_iconst (v := (1 : Int32)) hx hb dX12_count_141 (by decide) ?_
          refine lv_iload_n hx hb dX12_count_142 rfl (lv_at hl 3 rfl) ?_
          refine lv_ishl hx hb dX12_count_143 ?_
          refine lv_goto (tgt := 148) hx hb dX12_count_144 (by decide) ?_
          refine lv_ior hx hb dX12_count_148 ?_
          refine lv_topi (fun x2_31 ex2_31 => ?_)
          have hf := yb_let_to ex2_31 hf
          refine lv_istore_n (lv' := [(2, .int x2_31), (0, .ref mb), (1, .int x1), (3, .int x3)]) hx hb dX12_count_149 rfl hl (by decide) rfl (fun ls hl => ?_)
          obtain ⟨x3_32, ex3_32, hf⟩ := yb_let_ex hf
          refine lv_iinc (v := x3_32) (lv' := [(3, .int x3_32), (2, .int x2_31), (0, .ref mb), (1, .int x1)]) hx hb dX12_count_150 hl (k := 3) rfl (by rw [ex3_32]; rfl) (by decide) rfl (fun ls hl => ?_)
          refine lv_goto (tgt := 102) hx hb dX12_count_153 (by decide) ?_
          exact ih _ _ _ _ _ _ _ _ _ _ hf hw (lv_sub hl [2, 3, 1, 0] rfl) hexit
set_option maxHeartbeats 4000000 in
set_option maxRecDepth 100000 in
theorem c12_count (l : Launch) (D : va_G) (cz : Nat → ClassId) (ev : Nat × Nat × Nat) (mb : Nat) {N : Nat} {x1 : Int32} {I : IT} {J : JT} {r : Int32} {I1 : IT} {J1 : JT} (hf : f12_count N mb x1 I J = some (r, I1, J1)) : MTi l D cz ev yX12_count cX12_count 4 (some .int) 1 22 [.ref mb, .int x1] (mlL mb) (mlS mb) (mlR mb) I J r I1 J1 := by
  unfold f12_count at hf
  refine MTi_of (by decide) (Nat.le_of_ble_eq_true rfl) ?_
  intro p e s m args below meth c Q ls X hK hw hl hfin
  have X : CallFix p m c cX12_count 4 s args gw RX12 := X
  have hx := X.1
  have hb := X.2.1
  have hl : lv_has ls 4 [(0, .ref mb), (1, .int x1)] := hl
  refine lv_iconst (v := (0 : Int32)) hx hb dX12_count_0 (by decide) ?_
  refine lv_istore_n (lv' := [(2, .int (0 : Int32)), (0, .ref mb), (1, .int x1)]) hx hb dX12_count_1 rfl hl (by decide) rfl (fun ls hl => ?_)
  refine lv_iload_n hx hb dX12_count_2 rfl (lv_at hl 2 rfl) ?_
  by_cases c_1 : x1 = (0 : Int32)
  · have hf := yb_pos c_1 hf
    refine lv_tableIn (off := 73) (tgt := 76) hx hb dX12_count_3 (by rw [c_1]; decide) (by rw [c_1]; decide) (by rw [c_1]; rfl) (by decide) ?_
    refine lv_aload_n hx hb dX12_count_76 rfl (lv_at hl 1 rfl) ?_
    refine x_getR X hK hw (ml_mem0 mb) (ml_S0 mb) cpX12 20 (by decide) rfl (ml_R mb 20 rfl) tw_1271 dX12_count_77 ?_
    refine lv_iload_n hx hb dX12_count_80 rfl (lv_at hl 2 rfl) ?_
    obtain ⟨hi_2, hf⟩ := yb_ck_some hf
    refine x_iald X hK hw (ml_mem mb 10 (by decide)) (ml_S mb 10 rfl) hi_2 rfl dX12_count_81 ?_
    exact yb_reti hfin hf hw dX12_count_82
  have hf := yb_neg c_1 hf
  by_cases c_3 : x1 = (1 : Int32)
  · have hf := yb_pos c_3 hf
    refine lv_tableIn (off := 73) (tgt := 76) hx hb dX12_count_3 (by rw [c_3]; decide) (by rw [c_3]; decide) (by rw [c_3]; rfl) (by decide) ?_
    refine lv_aload_n hx hb dX12_count_76 rfl (lv_at hl 1 rfl) ?_
    refine x_getR X hK hw (ml_mem0 mb) (ml_S0 mb) cpX12 20 (by decide) rfl (ml_R mb 20 rfl) tw_1271 dX12_count_77 ?_
    refine lv_iload_n hx hb dX12_count_80 rfl (lv_at hl 2 rfl) ?_
    obtain ⟨hi_4, hf⟩ := yb_ck_some hf
    refine x_iald X hK hw (ml_mem mb 10 (by decide)) (ml_S mb 10 rfl) hi_4 rfl dX12_count_81 ?_
    exact yb_reti hfin hf hw dX12_count_82
  have hf := yb_neg c_3 hf
  by_cases c_5 : x1 = (2 : Int32)
  · have hf := yb_pos c_5 hf
    refine lv_tableIn (off := 73) (tgt := 76) hx hb dX12_count_3 (by rw [c_5]; decide) (by rw [c_5]; decide) (by rw [c_5]; rfl) (by decide) ?_
    refine lv_aload_n hx hb dX12_count_76 rfl (lv_at hl 1 rfl) ?_
    refine x_getR X hK hw (ml_mem0 mb) (ml_S0 mb) cpX12 20 (by decide) rfl (ml_R mb 20 rfl) tw_1271 dX12_count_77 ?_
    refine lv_iload_n hx hb dX12_count_80 rfl (lv_at hl 2 rfl) ?_
    obtain ⟨hi_6, hf⟩ := yb_ck_some hf
    refine x_iald X hK hw (ml_mem mb 10 (by decide)) (ml_S mb 10 rfl) hi_6 rfl dX12_count_81 ?_
    exact yb_reti hfin hf hw dX12_count_82
  have hf := yb_neg c_5 hf
  by_cases c_7 : x1 = (3 : Int32)
  · have hf := yb_pos c_7 hf
    refine lv_tableIn (off := 73) (tgt := 76) hx hb dX12_count_3 (by rw [c_7]; decide) (by rw [c_7]; decide) (by rw [c_7]; rfl) (by decide) ?_
    refine lv_aload_n hx hb dX12_count_76 rfl (lv_at hl 1 rfl) ?_
    refine x_getR X hK hw (ml_mem0 mb) (ml_S0 mb) cpX12 20 (by decide) rfl (ml_R mb 20 rfl) tw_1271 dX12_count_77 ?_
    refine lv_iload_n hx hb dX12_count_80 rfl (lv_at hl 2 rfl) ?_
    obtain ⟨hi_8, hf⟩ := yb_ck_some hf
    refine x_iald X hK hw (ml_mem mb 10 (by decide)) (ml_S mb 10 rfl) hi_8 rfl dX12_count_81 ?_
    exact yb_reti hfin hf hw dX12_count_82
  have hf := yb_neg c_7 hf
  by_cases c_9 : x1 = (4 : Int32)
  · have hf := yb_pos c_9 hf
    refine lv_tableIn (off := 80) (tgt := 83) hx hb dX12_count_3 (by rw [c_9]; decide) (by rw [c_9]; decide) (by rw [c_9]; rfl) (by decide) ?_
    refine lv_aload_n hx hb dX12_count_83 rfl (lv_at hl 1 rfl) ?_
    refine x_getI X hK hw (ml_mem0 mb) (ml_S0 mb) cpX12 2 (by decide) rfl tw_1253 dX12_count_84 ?_
    exact yb_reti hfin hf hw dX12_count_87
  have hf := yb_neg c_9 hf
  by_cases c_10 : x1 = (5 : Int32)
  · have hf := yb_pos c_10 hf
    refine lv_tableIn (off := 85) (tgt := 88) hx hb dX12_count_3 (by rw [c_10]; decide) (by rw [c_10]; decide) (by rw [c_10]; rfl) (by decide) ?_
    refine lv_aload_n hx hb dX12_count_88 rfl (lv_at hl 1 rfl) ?_
    refine x_getI X hK hw (ml_mem0 mb) (ml_S0 mb) cpX12 21 (by decide) rfl tw_1272 dX12_count_89 ?_
    exact yb_reti hfin hf hw dX12_count_92
  have hf := yb_neg c_10 hf
  by_cases c_11 : x1 = (6 : Int32)
  · have hf := yb_pos c_11 hf
    refine lv_tableIn (off := 90) (tgt := 93) hx hb dX12_count_3 (by rw [c_11]; decide) (by rw [c_11]; decide) (by rw [c_11]; rfl) (by decide) ?_
    refine lv_aload_n hx hb dX12_count_93 rfl (lv_at hl 1 rfl) ?_
    refine x_getR X hK hw (ml_mem0 mb) (ml_S0 mb) cpX12 20 (by decide) rfl (ml_R mb 20 rfl) tw_1271 dX12_count_94 ?_
    refine lv_iconst (v := (4 : Int32)) hx hb dX12_count_97 (by decide) ?_
    refine x_iald X hK hw (ml_mem mb 10 (by decide)) (ml_S mb 10 rfl) (by decide) rfl dX12_count_98 ?_
    exact yb_reti hfin hf hw dX12_count_99
  have hf := yb_neg c_11 hf
  by_cases c_12 : x1 = (7 : Int32)
  · have hf := yb_pos c_12 hf
    refine lv_tableIn (off := 97) (tgt := 100) hx hb dX12_count_3 (by rw [c_12]; decide) (by rw [c_12]; decide) (by rw [c_12]; rfl) (by decide) ?_
    refine lv_iconst (v := (0 : Int32)) hx hb dX12_count_100 (by decide) ?_
    refine lv_istore_n (lv' := [(3, .int (0 : Int32)), (2, .int (0 : Int32)), (0, .ref mb), (1, .int x1)]) hx hb dX12_count_101 rfl hl (by decide) rfl (fun ls hl => ?_)
    obtain ⟨q_33, I_34, J_35, hq_36, hf⟩ := yb_b3_some hf
    refine w12_count_L102 X hK _ _ _ _ _ _ _ _ _ _ _ hq_36 hw (lv_sub hl [2, 3, 1, 0] rfl) (fun H locs ls hw hl => ?_)
    refine lv_iload_n hx hb dX12_count_156 rfl (lv_at hl 0 rfl) ?_
    exact yb_reti hfin hf hw dX12_count_157
  have hf := yb_neg c_12 hf
  by_cases c_37 : x1 = (8 : Int32)
  · have hf := yb_pos c_37 hf
    refine lv_tableIn (off := 97) (tgt := 100) hx hb dX12_count_3 (by rw [c_37]; decide) (by rw [c_37]; decide) (by rw [c_37]; rfl) (by decide) ?_
    refine lv_iconst (v := (0 : Int32)) hx hb dX12_count_100 (by decide) ?_
    refine lv_istore_n (lv' := [(3, .int (0 : Int32)), (2, .int (0 : Int32)), (0, .ref mb), (1, .int x1)]) hx hb dX12_count_101 rfl hl (by decide) rfl (fun ls hl => ?_)
    obtain ⟨q_38, I_39, J_40, hq_41, hf⟩ := yb_b3_some hf
    refine w12_count_L102 X hK _ _ _ _ _ _ _ _ _ _ _ hq_41 hw (lv_sub hl [2, 3, 1, 0] rfl) (fun H locs ls hw hl => ?_)
    refine lv_iload_n hx hb dX12_count_156 rfl (lv_at hl 0 rfl) ?_
    exact yb_reti hfin hf hw dX12_count_157
  have hf := yb_neg c_37 hf
  by_cases c_42 : x1 = (9 : Int32)
  · have hf := yb_pos c_42 hf
    refine lv_tableIn (off := 155) (tgt := 158) hx hb dX12_count_3 (by rw [c_42]; decide) (by rw [c_42]; decide) (by rw [c_42]; rfl) (by decide) ?_
    refine lv_aload_n hx hb dX12_count_158 rfl (lv_at hl 1 rfl) ?_
    obtain ⟨r_43, I_44, J_45, hq_46, hf⟩ := yb_b3_some hf
    refine x_calli X hK hw (c12_isTown l D cz ev mb hq_46) (ml_mem0 mb) (ml_S0 mb) cpX12.1 vw_X12_380 ⟨Nat.le_of_ble_eq_true rfl, Nat.le_of_ble_eq_true rfl⟩ rfl rfl (Nat.le_of_ble_eq_true rfl) hl.1 ⟨Nat.le_refl _, Nat.le_refl _⟩ dX12_count_159 (fun H locs hw => ?_)
    refine lv_if_eq (tgt := 176) hx hb dX12_count_162 (by decide) (fun c_47 => ?_) (fun c_47 => ?_)
    · have hf := yb_pos c_47 hf
      refine lv_iconst (v := (-1 : Int32)) hx hb dX12_count_176 (by decide) ?_
      exact yb_reti hfin hf hw dX12_count_177
    · have hf := yb_neg c_47 hf
      refine lv_aload_n hx hb dX12_count_165 rfl (lv_at hl 1 rfl) ?_
      refine x_getR X hK hw (ml_mem0 mb) (ml_S0 mb) cpX12 20 (by decide) rfl (ml_R mb 20 rfl) tw_1271 dX12_count_166 ?_
      refine lv_iload_n hx hb dX12_count_169 rfl (lv_at hl 2 rfl) ?_
      refine lv_iconst (v := (4 : Int32)) hx hb dX12_count_170 (by decide) ?_
      refine lv_isub hx hb dX12_count_171 ?_
      obtain ⟨hi_48, hf⟩ := yb_ck_some hf
      refine x_iald X hK hw (ml_mem mb 10 (by decide)) (ml_S mb 10 rfl) hi_48 rfl dX12_count_172 ?_
      refine lv_goto (tgt := 177) hx hb dX12_count_173 (by decide) ?_
      exact yb_reti hfin hf hw dX12_count_177
  have hf := yb_neg c_42 hf
  by_cases c_49 : x1 = (10 : Int32)
  · have hf := yb_pos c_49 hf
    refine lv_tableIn (off := 155) (tgt := 158) hx hb dX12_count_3 (by rw [c_49]; decide) (by rw [c_49]; decide) (by rw [c_49]; rfl) (by decide) ?_
    refine lv_aload_n hx hb dX12_count_158 rfl (lv_at hl 1 rfl) ?_
    obtain ⟨r_50, I_51, J_52, hq_53, hf⟩ := yb_b3_some hf
    refine x_calli X hK hw (c12_isTown l D cz ev mb hq_53) (ml_mem0 mb) (ml_S0 mb) cpX12.1 vw_X12_380 ⟨Nat.le_of_ble_eq_true rfl, Nat.le_of_ble_eq_true rfl⟩ rfl rfl (Nat.le_of_ble_eq_true rfl) hl.1 ⟨Nat.le_refl _, Nat.le_refl _⟩ dX12_count_159 (fun H locs hw => ?_)
    refine lv_if_eq (tgt := 176) hx hb dX12_count_162 (by decide) (fun c_54 => ?_) (fun c_54 => ?_)
    · have hf := yb_pos c_54 hf
      refine lv_iconst (v := (-1 : Int32)) hx hb dX12_count_176 (by decide) ?_
      exact yb_reti hfin hf hw dX12_count_177
    · have hf := yb_neg c_54 hf
      refine lv_aload_n hx hb dX12_count_165 rfl (lv_at hl 1 rfl) ?_
      refine x_getR X hK hw (ml_mem0 mb) (ml_S0 mb) cpX12 20 (by decide) rfl (ml_R mb 20 rfl) tw_1271 dX12_count_166 ?_
      refine lv_iload_n hx hb dX12_count_169 rfl (lv_at hl 2 rfl) ?_
      refine lv_iconst (v := (4 : Int32)) hx hb dX12_count_170 (by decide) ?_
      refine lv_isub hx hb dX12_count_171 ?_
      obtain ⟨hi_55, hf⟩ := yb_ck_some hf
      refine x_iald X hK hw (ml_mem mb 10 (by decide)) (ml_S mb 10 rfl) hi_55 rfl dX12_count_172 ?_
      refine lv_goto (tgt := 177) hx hb dX12_count_173 (by decide) ?_
      exact yb_reti hfin hf hw dX12_count_177
  have hf := yb_neg c_49 hf
  by_cases c_56 : x1 = (11 : Int32)
  · have hf := yb_pos c_56 hf
    refine lv_tableIn (off := 175) (tgt := 178) hx hb dX12_count_3 (by rw [c_56]; decide) (by rw [c_56]; decide) (by rw [c_56]; rfl) (by decide) ?_
    refine lv_aload_n hx hb dX12_count_178 rfl (lv_at hl 1 rfl) ?_
    refine x_getR X hK hw (ml_mem0 mb) (ml_S0 mb) cpX12 20 (by decide) rfl (ml_R mb 20 rfl) tw_1271 dX12_count_179 ?_
    refine lv_sipush (v := (141 : Int32)) hx hb dX12_count_182 (by decide) ?_
    refine x_iald X hK hw (ml_mem mb 10 (by decide)) (ml_S mb 10 rfl) (by decide) rfl dX12_count_185 ?_
    exact yb_reti hfin hf hw dX12_count_186
  have hf := yb_neg c_56 hf
  by_cases c_57 : x1 = (12 : Int32)
  · have hf := yb_pos c_57 hf
    refine lv_tableIn (off := 184) (tgt := 187) hx hb dX12_count_3 (by rw [c_57]; decide) (by rw [c_57]; decide) (by rw [c_57]; rfl) (by decide) ?_
    refine lv_aload_n hx hb dX12_count_187 rfl (lv_at hl 1 rfl) ?_
    refine x_getI X hK hw (ml_mem0 mb) (ml_S0 mb) cpX12 24 (by decide) rfl tw_1275 dX12_count_188 ?_
    exact yb_reti hfin hf hw dX12_count_191
  have hf := yb_neg c_57 hf
  by_cases c_58 : x1 = (13 : Int32)
  · have hf := yb_pos c_58 hf
    refine lv_tableIn (off := 189) (tgt := 192) hx hb dX12_count_3 (by rw [c_58]; decide) (by rw [c_58]; decide) (by rw [c_58]; rfl) (by decide) ?_
    refine lv_aload_n hx hb dX12_count_192 rfl (lv_at hl 1 rfl) ?_
    refine x_getI X hK hw (ml_mem0 mb) (ml_S0 mb) cpX12 22 (by decide) rfl tw_1273 dX12_count_193 ?_
    exact yb_reti hfin hf hw dX12_count_196
  have hf := yb_neg c_58 hf
  by_cases c_59 : x1 = (14 : Int32)
  · have hf := yb_pos c_59 hf
    refine lv_tableIn (off := 194) (tgt := 197) hx hb dX12_count_3 (by rw [c_59]; decide) (by rw [c_59]; decide) (by rw [c_59]; rfl) (by decide) ?_
    refine lv_aload_n hx hb dX12_count_197 rfl (lv_at hl 1 rfl) ?_
    refine x_getI X hK hw (ml_mem0 mb) (ml_S0 mb) cpX12 1 (by decide) rfl tw_1252 dX12_count_198 ?_
    exact yb_reti hfin hf hw dX12_count_201
  have hf := yb_neg c_59 hf
  refine lv_tableOut (tgt := 202) hx hb dX12_count_3 (by
      rcases Int.lt_or_le (x1).toInt 0 with g1 | g1
      · exact Or.inl g1
      · rcases Int.lt_or_le 14 (x1).toInt with g2 | g2
        · exact Or.inr g2
        · exfalso
          have g3 : (x1).toInt = 0 ∨ (x1).toInt = 1 ∨ (x1).toInt = 2 ∨ (x1).toInt = 3 ∨ (x1).toInt = 4 ∨ (x1).toInt = 5 ∨ (x1).toInt = 6 ∨ (x1).toInt = 7 ∨ (x1).toInt = 8 ∨ (x1).toInt = 9 ∨ (x1).toInt = 10 ∨ (x1).toInt = 11 ∨ (x1).toInt = 12 ∨ (x1).toInt = 13 ∨ (x1).toInt = 14 := by omega
          rcases g3 with g3 | g3 | g3 | g3 | g3 | g3 | g3 | g3 | g3 | g3 | g3 | g3 | g3 | g3 | g3
          · exact c_1 (yb_sw (0 : Int32) g3 rfl)
          · exact c_3 (yb_sw (1 : Int32) g3 rfl)
          · exact c_5 (yb_sw (2 : Int32) g3 rfl)
          · exact c_7 (yb_sw (3 : Int32) g3 rfl)
          · exact c_9 (yb_sw (4 : Int32) g3 rfl)
          · exact c_10 (yb_sw (5 : Int32) g3 rfl)
          · exact c_11 (yb_sw (6 : Int32) g3 rfl)
          · exact c_12 (yb_sw (7 : Int32) g3 rfl)
          · exact c_37 (yb_sw (8 : Int32) g3 rfl)
          · exact c_42 (yb_sw (9 : Int32) g3 rfl)
          · exact c_49 (yb_sw (10 : Int32) g3 rfl)
          · exact c_56 (yb_sw (11 : Int32) g3 rfl)
          · exact c_57 (yb_sw (12 : Int32) g3 rfl)
          · exact c_58 (yb_sw (13 : Int32) g3 rfl)
          · exact c_59 (yb_sw (14 : Int32) g3 rfl)) (by decide) ?_
  refine lv_iconst (v := (-1 : Int32)) hx hb dX12_count_202 (by decide) ?_
  exact yb_reti hfin hf hw dX12_count_203
set_option maxHeartbeats 4000000 in
set_option maxRecDepth 100000 in
theorem w12_image_L43 {p : Program} {l : Launch} {e : Env} {s : State} {m : MethodId} {args : Array Value} {below : List Frame} {meth : Method} {c : Code} {Q : State → Prop} {D : va_G} {cz : Nat → ClassId} {A : Nat → Prop} {ev : Nat × Nat × Nat} {mb : Nat} (X : CallFix p m c cX12_image 3 s args gw RX12) (hK : KX D cz ev A s) {N : Nat} {x1 : Int32} :
    ∀ (n : Nat) (x2 : Int32) (I : IT) (J : JT) (q : (Unit)) (I1 : IT) (J1 : JT) (H : Heap) (locs : List Loc) (ls : Array Slot), f12_image_L43 N mb x1 n x2 I J = some (q, I1, J1) → WX D cz A (mlL mb) (mlS mb) (mlR mb) s.heap I J H locs → lv_has ls 3 [(0, .ref mb), (1, .int x1), (2, .int x2)] →
    (∀ (H : Heap) (locs : List Loc) (ls : Array Slot), WX D cz A (mlL mb) (mlS mb) (mlR mb) s.heap I1 J1 H locs → lv_has ls 3 [(0, .ref mb)] → W p l e (rmX 1 25) s m args below meth c H locs 0 0 Q (F0 m 74 ls [])) →
    W p l e (rmX 1 25) s m args below meth c H locs 0 0 Q (F0 m 43 ls []) := by
  have hx := X.1
  have hb := X.2.1
  intro n
  induction n with
  | zero =>
    intro x2 I J q I1 J1 H locs ls hf
    rw [f12_image_L43] at hf
    cases hf
  | succ n ih =>
    intro x2 I J q I1 J1 H locs ls hf hw hl hexit
    rw [f12_image_L43] at hf
    refine lv_iload_n hx hb dX12_image_43 rfl (lv_at hl 2 rfl) ?_
    refine lv_sipush (v := (142 : Int32)) hx hb dX12_image_44 (by decide) ?_
    refine lv_icmp_ge (tgt := 74) hx hb dX12_image_47 (by decide) (fun c_10 => ?_) (fun c_10 => ?_)
    · have hf := yb_pos c_10 hf
      obtain ⟨rfl, rfl, rfl⟩ := yb_inj hf
      exact hexit _ _ _ hw (lv_sub hl [0] rfl)
    · have hf := yb_neg c_10 hf
      refine lv_aload_n hx hb dX12_image_50 rfl (lv_at hl 0 rfl) ?_
      refine x_getR X hK hw (ml_mem0 mb) (ml_S0 mb) cpX12 44 (by decide) rfl (ml_R mb 44 rfl) tw_1295 dX12_image_51 ?_
      refine lv_sipush (v := (142 : Int32)) hx hb dX12_image_54 (by decide) ?_
      refine lv_iload_n hx hb dX12_image_57 rfl (lv_at hl 1 rfl) ?_
      refine lv_imul hx hb dX12_image_58 ?_
      refine lv_iload_n hx hb dX12_image_59 rfl (lv_at hl 2 rfl) ?_
      refine lv_iadd hx hb dX12_image_60 ?_
      refine lv_aload_n hx hb dX12_image_61 rfl (lv_at hl 0 rfl) ?_
      refine x_getR X hK hw (ml_mem0 mb) (ml_S0 mb) cpX12 20 (by decide) rfl (ml_R mb 20 rfl) tw_1271 dX12_image_62 ?_
      refine lv_iload_n hx hb dX12_image_65 rfl (lv_at hl 2 rfl) ?_
      obtain ⟨hi_11, hf⟩ := yb_ck_some hf
      refine x_iald X hK hw (ml_mem mb 10 (by decide)) (ml_S mb 10 rfl) hi_11 rfl dX12_image_66 ?_
      obtain ⟨hi_12, hf⟩ := yb_ck_some hf
      refine x_iast X hK hw (ml_mem mb 26 (by decide)) (ml_S mb 26 rfl) hi_12 rfl dX12_image_67 (fun H locs hw => ?_)
      obtain ⟨I_13, eI_13, hf⟩ := yb_let_ex hf
      have hw := yb_wI eI_13 hw
      obtain ⟨x2_14, ex2_14, hf⟩ := yb_let_ex hf
      refine lv_iinc (v := x2_14) (lv' := [(2, .int x2_14), (0, .ref mb), (1, .int x1)]) hx hb dX12_image_68 hl (k := 2) rfl (by rw [ex2_14]; rfl) (by decide) rfl (fun ls hl => ?_)
      refine lv_goto (tgt := 43) hx hb dX12_image_71 (by decide) ?_
      exact ih _ _ _ _ _ _ _ _ _ hf hw (lv_sub hl [1, 2, 0] rfl) hexit
set_option maxHeartbeats 4000000 in
set_option maxRecDepth 100000 in
theorem c12_image (l : Launch) (D : va_G) (cz : Nat → ClassId) (ev : Nat × Nat × Nat) (mb : Nat) {N : Nat} {x1 : Int32} {I : IT} {J : JT} {r : Int32} {I1 : IT} {J1 : JT} (hf : f12_image N mb x1 I J = some (r, I1, J1)) : MTi l D cz ev yX12_image cX12_image 3 (some .int) 1 25 [.ref mb, .int x1] (mlL mb) (mlS mb) (mlR mb) I J r I1 J1 := by
  unfold f12_image at hf
  refine MTi_of (by decide) (Nat.le_of_ble_eq_true rfl) ?_
  intro p e s m args below meth c Q ls X hK hw hl hfin
  have X : CallFix p m c cX12_image 3 s args gw RX12 := X
  have hx := X.1
  have hb := X.2.1
  have hl : lv_has ls 3 [(0, .ref mb), (1, .int x1)] := hl
  refine lv_iload_n hx hb dX12_image_0 rfl (lv_at hl 1 rfl) ?_
  refine lv_i2l hx hb dX12_image_1 rfl ?_
  refine lv_lconst (v := (0 : Int64)) hx hb dX12_image_2 (by decide) ?_
  refine lv_ldc2 (v := (3 : Int64)) hx hb X.2.2.2.1 (X.2.2.2.2 _ tw_1813) dX12_image_3 ?_
  obtain ⟨r_1, I_2, J_3, hq_4, hf⟩ := yb_b3_some hf
  refine x_callsi X hK hw (c12_in l D cz ev mb hq_4) sw_X12_142 ⟨Nat.le_of_ble_eq_true rfl, Nat.le_of_ble_eq_true rfl⟩ rfl rfl (Nat.le_of_ble_eq_true rfl) hl.1 ⟨Nat.le_refl _, Nat.le_refl _⟩ dX12_image_6 (fun H locs hw => ?_)
  refine lv_if_ne (tgt := 14) hx hb dX12_image_9 (by decide) (fun c_5 => ?_) (fun c_5 => ?_)
  · have hf := yb_neg c_5 hf
    refine lv_aload_n hx hb dX12_image_14 rfl (lv_at hl 0 rfl) ?_
    refine x_getR X hK hw (ml_mem0 mb) (ml_S0 mb) cpX12 47 (by decide) rfl (ml_R mb 47 rfl) tw_1298 dX12_image_15 ?_
    refine lv_iload_n hx hb dX12_image_18 rfl (lv_at hl 1 rfl) ?_
    refine lv_iconst (v := (1 : Int32)) hx hb dX12_image_19 (by decide) ?_
    obtain ⟨hi_6, hf⟩ := yb_ck_some hf
    refine x_zast X hK hw (ml_mem mb 29 (by decide)) (ml_S mb 29 rfl) hi_6 rfl dX12_image_20 (fun H locs hw => ?_)
    obtain ⟨I_7, eI_7, hf⟩ := yb_let_ex hf
    have hw := yb_wI eI_7 hw
    refine lv_aload_n hx hb dX12_image_21 rfl (lv_at hl 0 rfl) ?_
    refine x_getR X hK hw (ml_mem0 mb) (ml_S0 mb) cpX12 45 (by decide) rfl (ml_R mb 45 rfl) tw_1296 dX12_image_22 ?_
    refine lv_iload_n hx hb dX12_image_25 rfl (lv_at hl 1 rfl) ?_
    refine lv_aload_n hx hb dX12_image_26 rfl (lv_at hl 0 rfl) ?_
    refine x_getI X hK hw (ml_mem0 mb) (ml_S0 mb) cpX12 21 (by decide) rfl tw_1272 dX12_image_27 ?_
    refine x_iast X hK hw (ml_mem mb 27 (by decide)) (ml_S mb 27 rfl) hi_6 rfl dX12_image_30 (fun H locs hw => ?_)
    obtain ⟨I_8, eI_8, hf⟩ := yb_let_ex hf
    have hw := yb_wI eI_8 hw
    refine lv_aload_n hx hb dX12_image_31 rfl (lv_at hl 0 rfl) ?_
    refine x_getR X hK hw (ml_mem0 mb) (ml_S0 mb) cpX12 46 (by decide) rfl (ml_R mb 46 rfl) tw_1297 dX12_image_32 ?_
    refine lv_iload_n hx hb dX12_image_35 rfl (lv_at hl 1 rfl) ?_
    refine lv_aload_n hx hb dX12_image_36 rfl (lv_at hl 0 rfl) ?_
    refine x_getI X hK hw (ml_mem0 mb) (ml_S0 mb) cpX12 22 (by decide) rfl tw_1273 dX12_image_37 ?_
    refine x_iast X hK hw (ml_mem mb 28 (by decide)) (ml_S mb 28 rfl) hi_6 rfl dX12_image_40 (fun H locs hw => ?_)
    obtain ⟨I_9, eI_9, hf⟩ := yb_let_ex hf
    have hw := yb_wI eI_9 hw
    refine lv_iconst (v := (0 : Int32)) hx hb dX12_image_41 (by decide) ?_
    refine lv_istore_n (lv' := [(2, .int (0 : Int32)), (0, .ref mb), (1, .int x1)]) hx hb dX12_image_42 rfl hl (by decide) rfl (fun ls hl => ?_)
    obtain ⟨q_15, I_16, J_17, hq_18, hf⟩ := yb_b3_some hf
    refine w12_image_L43 X hK _ _ _ _ _ _ _ _ _ _ hq_18 hw (lv_sub hl [1, 2, 0] rfl) (fun H locs ls hw hl => ?_)
    refine lv_aload_n hx hb dX12_image_74 rfl (lv_at hl 0 rfl) ?_
    refine x_getR X hK hw (ml_mem0 mb) (ml_S0 mb) cpX12 20 (by decide) rfl (ml_R mb 20 rfl) tw_1271 dX12_image_75 ?_
    refine lv_iconst (v := (4 : Int32)) hx hb dX12_image_78 (by decide) ?_
    refine x_iald X hK hw (ml_mem mb 10 (by decide)) (ml_S mb 10 rfl) (by decide) rfl dX12_image_79 ?_
    exact yb_reti hfin hf hw dX12_image_80
  · have hf := yb_pos c_5 hf
    refine lv_iconst (v := (-1 : Int32)) hx hb dX12_image_12 (by decide) ?_
    exact yb_reti hfin hf hw dX12_image_13
set_option maxHeartbeats 4000000 in
set_option maxRecDepth 100000 in
theorem w12_back_L50 {p : Program} {l : Launch} {e : Env} {s : State} {m : MethodId} {args : Array Value} {below : List Frame} {meth : Method} {c : Code} {Q : State → Prop} {D : va_G} {cz : Nat → ClassId} {A : Nat → Prop} {ev : Nat × Nat × Nat} {mb : Nat} (X : CallFix p m c cX12_back 3 s args gw RX12) (hK : KX D cz ev A s) {N : Nat} {x1 : Int32} :
    ∀ (n : Nat) (x2 : Int32) (I : IT) (J : JT) (q : (Unit)) (I1 : IT) (J1 : JT) (H : Heap) (locs : List Loc) (ls : Array Slot), f12_back_L50 N mb x1 n x2 I J = some (q, I1, J1) → WX D cz A (mlL mb) (mlS mb) (mlR mb) s.heap I J H locs → lv_has ls 3 [(0, .ref mb), (1, .int x1), (2, .int x2)] →
    (∀ (H : Heap) (locs : List Loc) (ls : Array Slot), WX D cz A (mlL mb) (mlS mb) (mlR mb) s.heap I1 J1 H locs → lv_has ls 3 [(0, .ref mb)] → W p l e (rmX 1 25) s m args below meth c H locs 0 0 Q (F0 m 81 ls [])) →
    W p l e (rmX 1 25) s m args below meth c H locs 0 0 Q (F0 m 50 ls []) := by
  have hx := X.1
  have hb := X.2.1
  intro n
  induction n with
  | zero =>
    intro x2 I J q I1 J1 H locs ls hf
    rw [f12_back_L50] at hf
    cases hf
  | succ n ih =>
    intro x2 I J q I1 J1 H locs ls hf hw hl hexit
    rw [f12_back_L50] at hf
    refine lv_iload_n hx hb dX12_back_50 rfl (lv_at hl 2 rfl) ?_
    refine lv_sipush (v := (142 : Int32)) hx hb dX12_back_51 (by decide) ?_
    refine lv_icmp_ge (tgt := 81) hx hb dX12_back_54 (by decide) (fun c_11 => ?_) (fun c_11 => ?_)
    · have hf := yb_pos c_11 hf
      obtain ⟨rfl, rfl, rfl⟩ := yb_inj hf
      exact hexit _ _ _ hw (lv_sub hl [0] rfl)
    · have hf := yb_neg c_11 hf
      refine lv_aload_n hx hb dX12_back_57 rfl (lv_at hl 0 rfl) ?_
      refine x_getR X hK hw (ml_mem0 mb) (ml_S0 mb) cpX12 20 (by decide) rfl (ml_R mb 20 rfl) tw_1271 dX12_back_58 ?_
      refine lv_iload_n hx hb dX12_back_61 rfl (lv_at hl 2 rfl) ?_
      refine lv_aload_n hx hb dX12_back_62 rfl (lv_at hl 0 rfl) ?_
      refine x_getR X hK hw (ml_mem0 mb) (ml_S0 mb) cpX12 44 (by decide) rfl (ml_R mb 44 rfl) tw_1295 dX12_back_63 ?_
      refine lv_sipush (v := (142 : Int32)) hx hb dX12_back_66 (by decide) ?_
      refine lv_iload_n hx hb dX12_back_69 rfl (lv_at hl 1 rfl) ?_
      refine lv_imul hx hb dX12_back_70 ?_
      refine lv_iload_n hx hb dX12_back_71 rfl (lv_at hl 2 rfl) ?_
      refine lv_iadd hx hb dX12_back_72 ?_
      obtain ⟨hi_12, hf⟩ := yb_ck_some hf
      refine x_iald X hK hw (ml_mem mb 26 (by decide)) (ml_S mb 26 rfl) hi_12 rfl dX12_back_73 ?_
      obtain ⟨hi_13, hf⟩ := yb_ck_some hf
      refine x_iast X hK hw (ml_mem mb 10 (by decide)) (ml_S mb 10 rfl) hi_13 rfl dX12_back_74 (fun H locs hw => ?_)
      obtain ⟨I_14, eI_14, hf⟩ := yb_let_ex hf
      have hw := yb_wI eI_14 hw
      obtain ⟨x2_15, ex2_15, hf⟩ := yb_let_ex hf
      refine lv_iinc (v := x2_15) (lv' := [(2, .int x2_15), (0, .ref mb), (1, .int x1)]) hx hb dX12_back_75 hl (k := 2) rfl (by rw [ex2_15]; rfl) (by decide) rfl (fun ls hl => ?_)
      refine lv_goto (tgt := 50) hx hb dX12_back_78 (by decide) ?_
      exact ih _ _ _ _ _ _ _ _ _ hf hw (lv_sub hl [1, 2, 0] rfl) hexit
set_option maxHeartbeats 4000000 in
set_option maxRecDepth 100000 in
theorem c12_back (l : Launch) (D : va_G) (cz : Nat → ClassId) (ev : Nat × Nat × Nat) (mb : Nat) {N : Nat} {x1 : Int32} {I : IT} {J : JT} {r : Int32} {I1 : IT} {J1 : JT} (hf : f12_back N mb x1 I J = some (r, I1, J1)) : MTi l D cz ev yX12_back cX12_back 3 (some .int) 1 25 [.ref mb, .int x1] (mlL mb) (mlS mb) (mlR mb) I J r I1 J1 := by
  unfold f12_back at hf
  refine MTi_of (by decide) (Nat.le_of_ble_eq_true rfl) ?_
  intro p e s m args below meth c Q ls X hK hw hl hfin
  have X : CallFix p m c cX12_back 3 s args gw RX12 := X
  have hx := X.1
  have hb := X.2.1
  have hl : lv_has ls 3 [(0, .ref mb), (1, .int x1)] := hl
  refine lv_iload_n hx hb dX12_back_0 rfl (lv_at hl 1 rfl) ?_
  refine lv_i2l hx hb dX12_back_1 rfl ?_
  refine lv_lconst (v := (0 : Int64)) hx hb dX12_back_2 (by decide) ?_
  refine lv_ldc2 (v := (3 : Int64)) hx hb X.2.2.2.1 (X.2.2.2.2 _ tw_1813) dX12_back_3 ?_
  obtain ⟨r_1, I_2, J_3, hq_4, hf⟩ := yb_b3_some hf
  refine x_callsi X hK hw (c12_in l D cz ev mb hq_4) sw_X12_142 ⟨Nat.le_of_ble_eq_true rfl, Nat.le_of_ble_eq_true rfl⟩ rfl rfl (Nat.le_of_ble_eq_true rfl) hl.1 ⟨Nat.le_refl _, Nat.le_refl _⟩ dX12_back_6 (fun H locs hw => ?_)
  refine lv_if_eq (tgt := 21) hx hb dX12_back_9 (by decide) (fun c_5 => ?_) (fun c_5 => ?_)
  · have hf := yb_pos c_5 hf
    refine lv_iconst (v := (-1 : Int32)) hx hb dX12_back_21 (by decide) ?_
    exact yb_reti hfin hf hw dX12_back_22
  · have hf := yb_neg c_5 hf
    refine lv_aload_n hx hb dX12_back_12 rfl (lv_at hl 0 rfl) ?_
    refine x_getR X hK hw (ml_mem0 mb) (ml_S0 mb) cpX12 47 (by decide) rfl (ml_R mb 47 rfl) tw_1298 dX12_back_13 ?_
    refine lv_iload_n hx hb dX12_back_16 rfl (lv_at hl 1 rfl) ?_
    obtain ⟨hi_6, hf⟩ := yb_ck_some hf
    refine x_zald X hK hw (ml_mem mb 29 (by decide)) (ml_S mb 29 rfl) hi_6 rfl dX12_back_17 ?_
    refine lv_if_ne (tgt := 23) hx hb dX12_back_18 (by decide) (fun c_7 => ?_) (fun c_7 => ?_)
    · have hf := yb_neg c_7 hf
      refine lv_aload_n hx hb dX12_back_23 rfl (lv_at hl 0 rfl) ?_
      refine lv_aload_n hx hb dX12_back_24 rfl (lv_at hl 0 rfl) ?_
      refine x_getR X hK hw (ml_mem0 mb) (ml_S0 mb) cpX12 45 (by decide) rfl (ml_R mb 45 rfl) tw_1296 dX12_back_25 ?_
      refine lv_iload_n hx hb dX12_back_28 rfl (lv_at hl 1 rfl) ?_
      refine x_iald X hK hw (ml_mem mb 27 (by decide)) (ml_S mb 27 rfl) hi_6 rfl dX12_back_29 ?_
      refine x_putI X hK hw (ml_mem0 mb) (ml_S0 mb) cpX12 21 (by decide) rfl rfl rfl tw_1272 dX12_back_30 (fun H locs hw => ?_)
      obtain ⟨I_8, eI_8, hf⟩ := yb_let_ex hf
      have hw := yb_wI eI_8 hw
      refine lv_aload_n hx hb dX12_back_33 rfl (lv_at hl 0 rfl) ?_
      refine lv_aload_n hx hb dX12_back_34 rfl (lv_at hl 0 rfl) ?_
      refine x_getR X hK hw (ml_mem0 mb) (ml_S0 mb) cpX12 46 (by decide) rfl (ml_R mb 46 rfl) tw_1297 dX12_back_35 ?_
      refine lv_iload_n hx hb dX12_back_38 rfl (lv_at hl 1 rfl) ?_
      refine x_iald X hK hw (ml_mem mb 28 (by decide)) (ml_S mb 28 rfl) hi_6 rfl dX12_back_39 ?_
      refine x_putI X hK hw (ml_mem0 mb) (ml_S0 mb) cpX12 22 (by decide) rfl rfl rfl tw_1273 dX12_back_40 (fun H locs hw => ?_)
      obtain ⟨I_9, eI_9, hf⟩ := yb_let_ex hf
      have hw := yb_wI eI_9 hw
      refine lv_aload_n hx hb dX12_back_43 rfl (lv_at hl 0 rfl) ?_
      refine lv_iconst (v := (0 : Int32)) hx hb dX12_back_44 (by decide) ?_
      refine x_putI X hK hw (ml_mem0 mb) (ml_S0 mb) cpX12 24 (by decide) rfl rfl rfl tw_1275 dX12_back_45 (fun H locs hw => ?_)
      obtain ⟨I_10, eI_10, hf⟩ := yb_let_ex hf
      have hw := yb_wI eI_10 hw
      refine lv_iconst (v := (0 : Int32)) hx hb dX12_back_48 (by decide) ?_
      refine lv_istore_n (lv' := [(2, .int (0 : Int32)), (0, .ref mb), (1, .int x1)]) hx hb dX12_back_49 rfl hl (by decide) rfl (fun ls hl => ?_)
      obtain ⟨q_16, I_17, J_18, hq_19, hf⟩ := yb_b3_some hf
      refine w12_back_L50 X hK _ _ _ _ _ _ _ _ _ _ hq_19 hw (lv_sub hl [1, 2, 0] rfl) (fun H locs ls hw hl => ?_)
      refine lv_aload_n hx hb dX12_back_81 rfl (lv_at hl 0 rfl) ?_
      refine x_getR X hK hw (ml_mem0 mb) (ml_S0 mb) cpX12 20 (by decide) rfl (ml_R mb 20 rfl) tw_1271 dX12_back_82 ?_
      refine lv_iconst (v := (4 : Int32)) hx hb dX12_back_85 (by decide) ?_
      refine x_iald X hK hw (ml_mem mb 10 (by decide)) (ml_S mb 10 rfl) (by decide) rfl dX12_back_86 ?_
      exact yb_reti hfin hf hw dX12_back_87
    · have hf := yb_pos c_7 hf
      refine lv_iconst (v := (-1 : Int32)) hx hb dX12_back_21 (by decide) ?_
      exact yb_reti hfin hf hw dX12_back_22
