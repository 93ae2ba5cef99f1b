theorem dX4_init_0 : decode cX4_init 0 = .ok (.aload_n 0, 1) := by decide +kernel
theorem dX4_init_1 : decode cX4_init 1 = .ok (.invokespecial 3, 3) := by decide +kernel
theorem dX4_init_4 : decode cX4_init 4 = .ok (.aload_n 0, 1) := by decide +kernel
theorem dX4_init_5 : decode cX4_init 5 = .ok (.sipush 260, 3) := by decide +kernel
theorem dX4_init_8 : decode cX4_init 8 = .ok (.newarray .int, 2) := by decide +kernel
theorem dX4_init_10 : decode cX4_init 10 = .ok (.putfield 11, 3) := by decide +kernel
theorem dX4_init_13 : decode cX4_init 13 = .ok (.aload_n 0, 1) := by decide +kernel
theorem dX4_init_14 : decode cX4_init 14 = .ok (.bipush 65, 2) := by decide +kernel
theorem dX4_init_16 : decode cX4_init 16 = .ok (.newarray .int, 2) := by decide +kernel
theorem dX4_init_18 : decode cX4_init 18 = .ok (.putfield 15, 3) := by decide +kernel
theorem dX4_init_21 : decode cX4_init 21 = .ok (.aload_n 0, 1) := by decide +kernel
theorem dX4_init_22 : decode cX4_init 22 = .ok (.bipush 65, 2) := by decide +kernel
theorem dX4_init_24 : decode cX4_init 24 = .ok (.newarray .int, 2) := by decide +kernel
theorem dX4_init_26 : decode cX4_init 26 = .ok (.putfield 18, 3) := by decide +kernel
theorem dX4_init_29 : decode cX4_init 29 = .ok (.aload_n 0, 1) := by decide +kernel
theorem dX4_init_30 : decode cX4_init 30 = .ok (.sipush 455, 3) := by decide +kernel
theorem dX4_init_33 : decode cX4_init 33 = .ok (.newarray .int, 2) := by decide +kernel
theorem dX4_init_35 : decode cX4_init 35 = .ok (.putfield 21, 3) := by decide +kernel
theorem dX4_init_38 : decode cX4_init 38 = .ok (.aload_n 0, 1) := by decide +kernel
theorem dX4_init_39 : decode cX4_init 39 = .ok (.sipush 455, 3) := by decide +kernel
theorem dX4_init_42 : decode cX4_init 42 = .ok (.newarray .int, 2) := by decide +kernel
theorem dX4_init_44 : decode cX4_init 44 = .ok (.putfield 24, 3) := by decide +kernel
theorem dX4_init_47 : decode cX4_init 47 = .ok (.aload_n 0, 1) := by decide +kernel
theorem dX4_init_48 : decode cX4_init 48 = .ok (.iconst 4, 1) := by decide +kernel
theorem dX4_init_49 : decode cX4_init 49 = .ok (.newarray .int, 2) := by decide +kernel
theorem dX4_init_51 : decode cX4_init 51 = .ok (.putfield 27, 3) := by decide +kernel
theorem dX4_init_54 : decode cX4_init 54 = .ok (.aload_n 0, 1) := by decide +kernel
theorem dX4_init_55 : decode cX4_init 55 = .ok (.iconst 4, 1) := by decide +kernel
theorem dX4_init_56 : decode cX4_init 56 = .ok (.newarray .int, 2) := by decide +kernel
theorem dX4_init_58 : decode cX4_init 58 = .ok (.putfield 30, 3) := by decide +kernel
theorem dX4_init_61 : decode cX4_init 61 = .ok (.aload_n 0, 1) := by decide +kernel
theorem dX4_init_62 : decode cX4_init 62 = .ok (.iconst 4, 1) := by decide +kernel
theorem dX4_init_63 : decode cX4_init 63 = .ok (.newarray .int, 2) := by decide +kernel
theorem dX4_init_65 : decode cX4_init 65 = .ok (.putfield 33, 3) := by decide +kernel
theorem dX4_init_68 : decode cX4_init 68 = .ok (.aload_n 0, 1) := by decide +kernel
theorem dX4_init_69 : decode cX4_init 69 = .ok (.iconst 4, 1) := by decide +kernel
theorem dX4_init_70 : decode cX4_init 70 = .ok (.newarray .int, 2) := by decide +kernel
theorem dX4_init_72 : decode cX4_init 72 = .ok (.putfield 36, 3) := by decide +kernel
theorem dX4_init_75 : decode cX4_init 75 = .ok (.aload_n 0, 1) := by decide +kernel
theorem dX4_init_76 : decode cX4_init 76 = .ok (.bipush 7, 2) := by decide +kernel
theorem dX4_init_78 : decode cX4_init 78 = .ok (.newarray .int, 2) := by decide +kernel
theorem dX4_init_80 : decode cX4_init 80 = .ok (.putfield 39, 3) := by decide +kernel
theorem dX4_init_83 : decode cX4_init 83 = .ok (.aload_n 0, 1) := by decide +kernel
theorem dX4_init_84 : decode cX4_init 84 = .ok (.iconst 4, 1) := by decide +kernel
theorem dX4_init_85 : decode cX4_init 85 = .ok (.newarray .int, 2) := by decide +kernel
theorem dX4_init_87 : decode cX4_init 87 = .ok (.putfield 42, 3) := by decide +kernel
theorem dX4_init_90 : decode cX4_init 90 = .ok (.aload_n 0, 1) := by decide +kernel
theorem dX4_init_91 : decode cX4_init 91 = .ok (.iconst 4, 1) := by decide +kernel
theorem dX4_init_92 : decode cX4_init 92 = .ok (.newarray .int, 2) := by decide +kernel
theorem dX4_init_94 : decode cX4_init 94 = .ok (.putfield 45, 3) := by decide +kernel
theorem dX4_init_97 : decode cX4_init 97 = .ok (.aload_n 0, 1) := by decide +kernel
theorem dX4_init_98 : decode cX4_init 98 = .ok (.iconst 4, 1) := by decide +kernel
theorem dX4_init_99 : decode cX4_init 99 = .ok (.newarray .int, 2) := by decide +kernel
theorem dX4_init_101 : decode cX4_init 101 = .ok (.putfield 48, 3) := by decide +kernel
theorem dX4_init_104 : decode cX4_init 104 = .ok (.aload_n 0, 1) := by decide +kernel
theorem dX4_init_105 : decode cX4_init 105 = .ok (.aload_n 1, 1) := by decide +kernel
theorem dX4_init_106 : decode cX4_init 106 = .ok (.putfield 51, 3) := by decide +kernel
theorem dX4_init_109 : decode cX4_init 109 = .ok (.bipush 65, 2) := by decide +kernel
theorem dX4_init_111 : decode cX4_init 111 = .ok (.newarray .int, 2) := by decide +kernel
theorem dX4_init_113 : decode cX4_init 113 = .ok (.astore_n 2, 1) := by decide +kernel
theorem dX4_init_114 : decode cX4_init 114 = .ok (.iconst 1, 1) := by decide +kernel
theorem dX4_init_115 : decode cX4_init 115 = .ok (.istore_n 3, 1) := by decide +kernel
theorem dX4_init_116 : decode cX4_init 116 = .ok (.iconst 0, 1) := by decide +kernel
theorem dX4_init_117 : decode cX4_init 117 = .ok (.istore 4, 2) := by decide +kernel
theorem dX4_init_119 : decode cX4_init 119 = .ok (.iload 4, 2) := by decide +kernel
theorem dX4_init_121 : decode cX4_init 121 = .ok (.bipush 65, 2) := by decide +kernel
theorem dX4_init_123 : decode cX4_init 123 = .ok (.if_icmp .ge 107, 3) := by decide +kernel
theorem dX4_init_126 : decode cX4_init 126 = .ok (.iconst 0, 1) := by decide +kernel
theorem dX4_init_127 : decode cX4_init 127 = .ok (.istore 5, 2) := by decide +kernel
theorem dX4_init_129 : decode cX4_init 129 = .ok (.iload 5, 2) := by decide +kernel
theorem dX4_init_131 : decode cX4_init 131 = .ok (.iconst 4, 1) := by decide +kernel
theorem dX4_init_132 : decode cX4_init 132 = .ok (.if_icmp .ge 92, 3) := by decide +kernel
theorem dX4_init_135 : decode cX4_init 135 = .ok (.aload_n 2, 1) := by decide +kernel
theorem dX4_init_136 : decode cX4_init 136 = .ok (.iload 4, 2) := by decide +kernel
theorem dX4_init_138 : decode cX4_init 138 = .ok (.iaload, 1) := by decide +kernel
theorem dX4_init_139 : decode cX4_init 139 = .ok (.iload 5, 2) := by decide +kernel
theorem dX4_init_141 : decode cX4_init 141 = .ok (.ishr, 1) := by decide +kernel
theorem dX4_init_142 : decode cX4_init 142 = .ok (.iconst 1, 1) := by decide +kernel
theorem dX4_init_143 : decode cX4_init 143 = .ok (.iand, 1) := by decide +kernel
theorem dX4_init_144 : decode cX4_init 144 = .ok (.ifCond .ne 13, 3) := by decide +kernel
theorem dX4_init_147 : decode cX4_init 147 = .ok (.iload_n 3, 1) := by decide +kernel
theorem dX4_init_148 : decode cX4_init 148 = .ok (.bipush 65, 2) := by decide +kernel
theorem dX4_init_150 : decode cX4_init 150 = .ok (.if_icmp .ge 7, 3) := by decide +kernel
theorem dX4_init_153 : decode cX4_init 153 = .ok (.iconst 1, 1) := by decide +kernel
theorem dX4_init_154 : decode cX4_init 154 = .ok (.goto 4, 3) := by decide +kernel
theorem dX4_init_157 : decode cX4_init 157 = .ok (.iconst 0, 1) := by decide +kernel
theorem dX4_init_158 : decode cX4_init 158 = .ok (.istore 6, 2) := by decide +kernel
theorem dX4_init_160 : decode cX4_init 160 = .ok (.aload_n 0, 1) := by decide +kernel
theorem dX4_init_161 : decode cX4_init 161 = .ok (.getfield 11, 3) := by decide +kernel
theorem dX4_init_164 : decode cX4_init 164 = .ok (.iload 4, 2) := by decide +kernel
theorem dX4_init_166 : decode cX4_init 166 = .ok (.iconst 4, 1) := by decide +kernel
theorem dX4_init_167 : decode cX4_init 167 = .ok (.imul, 1) := by decide +kernel
theorem dX4_init_168 : decode cX4_init 168 = .ok (.iload 5, 2) := by decide +kernel
theorem dX4_init_170 : decode cX4_init 170 = .ok (.iadd, 1) := by decide +kernel
theorem dX4_init_171 : decode cX4_init 171 = .ok (.iload 6, 2) := by decide +kernel
theorem dX4_init_173 : decode cX4_init 173 = .ok (.ifCond .eq 7, 3) := by decide +kernel
theorem dX4_init_176 : decode cX4_init 176 = .ok (.iload_n 3, 1) := by decide +kernel
theorem dX4_init_177 : decode cX4_init 177 = .ok (.goto 4, 3) := by decide +kernel
theorem dX4_init_180 : decode cX4_init 180 = .ok (.iconst (-1), 1) := by decide +kernel
theorem dX4_init_181 : decode cX4_init 181 = .ok (.iastore, 1) := by decide +kernel
theorem dX4_init_182 : decode cX4_init 182 = .ok (.iload 6, 2) := by decide +kernel
theorem dX4_init_184 : decode cX4_init 184 = .ok (.ifCond .eq 34, 3) := by decide +kernel
theorem dX4_init_187 : decode cX4_init 187 = .ok (.aload_n 2, 1) := by decide +kernel
theorem dX4_init_188 : decode cX4_init 188 = .ok (.iload_n 3, 1) := by decide +kernel
theorem dX4_init_189 : decode cX4_init 189 = .ok (.aload_n 2, 1) := by decide +kernel
theorem dX4_init_190 : decode cX4_init 190 = .ok (.iload 4, 2) := by decide +kernel
theorem dX4_init_192 : decode cX4_init 192 = .ok (.iaload, 1) := by decide +kernel
theorem dX4_init_193 : decode cX4_init 193 = .ok (.iconst 1, 1) := by decide +kernel
theorem dX4_init_194 : decode cX4_init 194 = .ok (.iload 5, 2) := by decide +kernel
theorem dX4_init_196 : decode cX4_init 196 = .ok (.ishl, 1) := by decide +kernel
theorem dX4_init_197 : decode cX4_init 197 = .ok (.ior, 1) := by decide +kernel
theorem dX4_init_198 : decode cX4_init 198 = .ok (.iastore, 1) := by decide +kernel
theorem dX4_init_199 : decode cX4_init 199 = .ok (.aload_n 0, 1) := by decide +kernel
theorem dX4_init_200 : decode cX4_init 200 = .ok (.getfield 15, 3) := by decide +kernel
theorem dX4_init_203 : decode cX4_init 203 = .ok (.iload_n 3, 1) := by decide +kernel
theorem dX4_init_204 : decode cX4_init 204 = .ok (.iload 4, 2) := by decide +kernel
theorem dX4_init_206 : decode cX4_init 206 = .ok (.iastore, 1) := by decide +kernel
theorem dX4_init_207 : decode cX4_init 207 = .ok (.aload_n 0, 1) := by decide +kernel
theorem dX4_init_208 : decode cX4_init 208 = .ok (.getfield 18, 3) := by decide +kernel
theorem dX4_init_211 : decode cX4_init 211 = .ok (.iload_n 3, 1) := by decide +kernel
theorem dX4_init_212 : decode cX4_init 212 = .ok (.iload 5, 2) := by decide +kernel
theorem dX4_init_214 : decode cX4_init 214 = .ok (.iastore, 1) := by decide +kernel
theorem dX4_init_215 : decode cX4_init 215 = .ok (.iinc 3 1, 3) := by decide +kernel
theorem dX4_init_218 : decode cX4_init 218 = .ok (.iinc 5 1, 3) := by decide +kernel
theorem dX4_init_221 : decode cX4_init 221 = .ok (.goto (-92), 3) := by decide +kernel
theorem dX4_init_224 : decode cX4_init 224 = .ok (.iinc 4 1, 3) := by decide +kernel
theorem dX4_init_227 : decode cX4_init 227 = .ok (.goto (-108), 3) := by decide +kernel
theorem dX4_init_230 : decode cX4_init 230 = .ok (.return_, 1) := by decide +kernel
def Row4 (L : List Nat) (S : ST) (Rf : RT) (t0 z n0 : Nat) : Prop := (t0 ∈ L ∧ S t0 = (11, n0)) ∧ (z ∈ L ∧ S z = (0, 260) ∧ Rf t0 1 = some z) ∧ (z + 1 ∈ L ∧ S (z + 1) = (0, 65) ∧ Rf t0 2 = some (z + 1)) ∧ (z + 2 ∈ L ∧ S (z + 2) = (0, 65) ∧ Rf t0 3 = some (z + 2)) ∧ (z + 13 ∈ L ∧ S (z + 13) = (0, 65))
def f4_init_L129 (N : Nat) (t0 z : Nat) (x4 : Int32) : Nat → Int32 → Int32 → IT → JT → Option ((Int32) × IT × JT)
  | 0, _, _, _, _ => none
  | n + 1, x3, x5, I, J =>
    if (4 : Int32) ≤ x5 then
      some (x3, I, J)
    else
      yb_ck (inb x4 65) fun _ =>
      if (((I (z + 13) x4.toNatClampNeg) >>> (x5 &&& 31)) &&& (1 : Int32)) = 0 then
        if (65 : Int32) ≤ x3 then
          yb_ck (inb ((x4 * (4 : Int32)) + x5) 260) fun _ =>
          yb_let (up2 I z ((x4 * (4 : Int32)) + x5).toNatClampNeg (-1 : Int32)) fun I_13 =>
          yb_let (x5 + (1 : Int32)) fun x5_15 =>
          f4_init_L129 N t0 z x4 n x3 x5_15 I_13 J
        else
          yb_ck (inb ((x4 * (4 : Int32)) + x5) 260) fun _ =>
          yb_let (up2 I z ((x4 * (4 : Int32)) + x5).toNatClampNeg x3) fun I_18 =>
          yb_ck (inb x3 65) fun _ =>
          yb_let (up2 I_18 (z + 13) x3.toNatClampNeg ((I_18 (z + 13) x4.toNatClampNeg) ||| ((1 : Int32) <<< (x5 &&& 31)))) fun I_21 =>
          yb_let (up2 I_21 (z + 1) x3.toNatClampNeg x4) fun I_22 =>
          yb_let (up2 I_22 (z + 2) x3.toNatClampNeg x5) fun I_23 =>
          yb_let (x3 + (1 : Int32)) fun x3_24 =>
          yb_let (x5 + (1 : Int32)) fun x5_25 =>
          f4_init_L129 N t0 z x4 n x3_24 x5_25 I_23 J
      else
        yb_ck (inb ((x4 * (4 : Int32)) + x5) 260) fun _ =>
        yb_let (up2 I z ((x4 * (4 : Int32)) + x5).toNatClampNeg (-1 : Int32)) fun I_7 =>
        yb_let (x5 + (1 : Int32)) fun x5_9 =>
        f4_init_L129 N t0 z x4 n x3 x5_9 I_7 J
def f4_init_L119 (N : Nat) (t0 z : Nat) : Nat → Int32 → Int32 → IT → JT → Option ((Unit) × IT × JT)
  | 0, _, _, _, _ => none
  | n + 1, x3, x4, I, J =>
    if (65 : Int32) ≤ x4 then
      some ((), I, J)
    else
      yb_b3 (f4_init_L129 N t0 z x4 N x3 (0 : Int32) I J) fun q_26 I_27 J_28 =>
      yb_let (x4 + (1 : Int32)) fun x4_30 =>
      f4_init_L119 N t0 z n q_26 x4_30 I_27 J_28
set_option maxHeartbeats 4000000 in
set_option maxRecDepth 100000 in
theorem w4_init_L129 {p : Program} {l : Launch} {e : Env} {s : State} {m : MethodId} {args : Array Value} {below : List Frame} {meth : Method} {c : Code} {Q : State → Prop} {D : va_G} {cz : Nat → ClassId} {A : Nat → Prop} {ev : Nat × Nat × Nat} {t0 z n0 : Nat} {L : List Nat} {S : ST} {Rf : RT} (h4 : Row4 L S Rf t0 z n0) (X : CallFix p m c cX4_init 7 s args gw RX4) (hK : KX D cz ev A s) {N : Nat} {x4 : Int32} :
    ∀ (n : Nat) (x3 : Int32) (x5 : Int32) (I : IT) (J : JT) (q : (Int32)) (I1 : IT) (J1 : JT) (H : Heap) (locs : List Loc) (ls : Array Slot), f4_init_L129 N t0 z x4 n x3 x5 I J = some (q, I1, J1) → WX D cz A L S Rf s.heap I J H locs → lv_has ls 7 [(0, .ref t0), (2, .ref (z + 13)), (3, .int x3), (4, .int x4), (5, .int x5)] →
    (∀ (H : Heap) (locs : List Loc) (ls : Array Slot), WX D cz A L S Rf s.heap I1 J1 H locs → lv_has ls 7 [(0, .ref t0), (2, .ref (z + 13)), (3, .int q), (4, .int x4)] → W p l e { frames := 1, cells := 14, slots := 1400, locals := 40 } s m args below meth c H locs 14 1400 Q (F0 m 224 ls [])) →
    W p l e { frames := 1, cells := 14, slots := 1400, locals := 40 } s m args below meth c H locs 14 1400 Q (F0 m 129 ls []) := by
  have hx := X.1
  have hb := X.2.1
  intro n
  induction n with
  | zero =>
    intro x3 x5 I J q I1 J1 H locs ls hf
    rw [f4_init_L129] at hf
    cases hf
  | succ n ih =>
    intro x3 x5 I J q I1 J1 H locs ls hf hw hl hexit
    rw [f4_init_L129] at hf
    refine lv_iload hx hb dX4_init_129 (lv_at hl 4 rfl) ?_
    refine lv_iconst (v := (4 : Int32)) hx hb dX4_init_131 (by decide) ?_
    refine lv_icmp_ge (tgt := 224) hx hb dX4_init_132 (by decide) (fun c_2 => ?_) (fun c_2 => ?_)
    · have hf := yb_pos c_2 hf
      obtain ⟨rfl, rfl, rfl⟩ := yb_inj hf
      exact hexit _ _ _ hw (lv_sub hl [0, 1, 2, 3] rfl)
    · have hf := yb_neg c_2 hf
      refine lv_aload_n hx hb dX4_init_135 rfl (lv_at hl 1 rfl) ?_
      refine lv_iload hx hb dX4_init_136 (lv_at hl 3 rfl) ?_
      obtain ⟨hi_3, hf⟩ := yb_ck_some hf
      refine x_iald X hK hw h4.2.2.2.2.1 h4.2.2.2.2.2 hi_3 rfl dX4_init_138 ?_
      refine lv_iload hx hb dX4_init_139 (lv_at hl 4 rfl) ?_
      refine lv_ishr hx hb dX4_init_141 ?_
      refine lv_iconst (v := (1 : Int32)) hx hb dX4_init_142 (by decide) ?_
      refine lv_iand hx hb dX4_init_143 ?_
      refine lv_if_ne (tgt := 157) hx hb dX4_init_144 (by decide) (fun c_4 => ?_) (fun c_4 => ?_)
      · have hf := yb_neg c_4 hf
        refine lv_iconst (v := (0 : Int32)) hx hb dX4_init_157 (by decide) ?_
        refine lv_istore (lv' := [(6, .int (0 : Int32)), (0, .ref t0), (2, .ref (z + 13)), (3, .int x3), (4, .int x4), (5, .int x5)]) hx hb dX4_init_158 hl (by decide) rfl (fun ls hl => ?_)
        refine lv_aload_n hx hb dX4_init_160 rfl (lv_at hl 1 rfl) ?_
        refine x_getR X hK hw h4.1.1 h4.1.2 cpX4 1 (by decide) rfl h4.2.1.2.2 tw_428 dX4_init_161 ?_
        refine lv_iload hx hb dX4_init_164 (lv_at hl 4 rfl) ?_
        refine lv_iconst (v := (4 : Int32)) hx hb dX4_init_166 (by decide) ?_
        refine lv_imul hx hb dX4_init_167 ?_
        refine lv_iload hx hb dX4_init_168 (lv_at hl 5 rfl) ?_
        refine lv_iadd hx hb dX4_init_170 ?_
        refine lv_iload hx hb dX4_init_171 (lv_at hl 0 rfl) ?_
        refine lv_if_eq (tgt := 180) hx hb dX4_init_173 (by decide) (fun _ => ?_) (fun c_5 => absurd (by decide) c_5)
        refine lv_iconst (v := (-1 : Int32)) hx hb dX4_init_180 (by decide) ?_
        obtain ⟨hi_6, hf⟩ := yb_ck_some hf
        refine x_iast X hK hw h4.2.1.1 h4.2.1.2.1 hi_6 rfl dX4_init_181 (fun H locs hw => ?_)
        obtain ⟨I_7, eI_7, hf⟩ := yb_let_ex hf
        have hw := yb_wI eI_7 hw
        refine lv_iload hx hb dX4_init_182 (lv_at hl 0 rfl) ?_
        refine lv_if_eq (tgt := 218) hx hb dX4_init_184 (by decide) (fun _ => ?_) (fun c_8 => absurd (by decide) c_8)
        obtain ⟨x5_9, ex5_9, hf⟩ := yb_let_ex hf
        refine lv_iinc (v := x5_9) (lv' := [(5, .int x5_9), (6, .int (0 : Int32)), (0, .ref t0), (2, .ref (z + 13)), (3, .int x3), (4, .int x4)]) hx hb dX4_init_218 hl (k := 5) rfl (by rw [ex5_9]; rfl) (by decide) rfl (fun ls hl => ?_)
        refine lv_goto (tgt := 129) hx hb dX4_init_221 (by decide) ?_
        exact ih _ _ _ _ _ _ _ _ _ _ hf hw (lv_sub hl [2, 3, 4, 5, 0] rfl) hexit
      · have hf := yb_pos c_4 hf
        refine lv_iload_n hx hb dX4_init_147 rfl (lv_at hl 2 rfl) ?_
        refine lv_bipush (v := (65 : Int32)) hx hb dX4_init_148 (by decide) ?_
        refine lv_icmp_ge (tgt := 157) hx hb dX4_init_150 (by decide) (fun c_10 => ?_) (fun c_10 => ?_)
        · have hf := yb_pos c_10 hf
          refine lv_iconst (v := (0 : Int32)) hx hb dX4_init_157 (by decide) ?_
          refine lv_istore (lv' := [(6, .int (0 : Int32)), (0, .ref t0), (2, .ref (z + 13)), (3, .int x3), (4, .int x4), (5, .int x5)]) hx hb dX4_init_158 hl (by decide) rfl (fun ls hl => ?_)
          refine lv_aload_n hx hb dX4_init_160 rfl (lv_at hl 1 rfl) ?_
          refine x_getR X hK hw h4.1.1 h4.1.2 cpX4 1 (by decide) rfl h4.2.1.2.2 tw_428 dX4_init_161 ?_
          refine lv_iload hx hb dX4_init_164 (lv_at hl 4 rfl) ?_
          refine lv_iconst (v := (4 : Int32)) hx hb dX4_init_166 (by decide) ?_
          refine lv_imul hx hb dX4_init_167 ?_
          refine lv_iload hx hb dX4_init_168 (lv_at hl 5 rfl) ?_
          refine lv_iadd hx hb dX4_init_170 ?_
          refine lv_iload hx hb dX4_init_171 (lv_at hl 0 rfl) ?_
          refine lv_if_eq (tgt := 180) hx hb dX4_init_173 (by decide) (fun _ => ?_) (fun c_11 => absurd (by decide) c_11)
          refine lv_iconst (v := (-1 : Int32)) hx hb dX4_init_180 (by decide) ?_
          obtain ⟨hi_12, hf⟩ := yb_ck_some hf
          refine x_iast X hK hw h4.2.1.1 h4.2.1.2.1 hi_12 rfl dX4_init_181 (fun H locs hw => ?_)
          obtain ⟨I_13, eI_13, hf⟩ := yb_let_ex hf
          have hw := yb_wI eI_13 hw
          refine lv_iload hx hb dX4_init_182 (lv_at hl 0 rfl) ?_
          refine lv_if_eq (tgt := 218) hx hb dX4_init_184 (by decide) (fun _ => ?_) (fun c_14 => absurd (by decide) c_14)
          obtain ⟨x5_15, ex5_15, hf⟩ := yb_let_ex hf
          refine lv_iinc (v := x5_15) (lv' := [(5, .int x5_15), (6, .int (0 : Int32)), (0, .ref t0), (2, .ref (z + 13)), (3, .int x3), (4, .int x4)]) hx hb dX4_init_218 hl (k := 5) rfl (by rw [ex5_15]; rfl) (by decide) rfl (fun ls hl => ?_)
          refine lv_goto (tgt := 129) hx hb dX4_init_221 (by decide) ?_
          exact ih _ _ _ _ _ _ _ _ _ _ hf hw (lv_sub hl [2, 3, 4, 5, 0] rfl) hexit
        · have hf := yb_neg c_10 hf
          refine lv_iconst (v := (1 : Int32)) hx hb dX4_init_153 (by decide) ?_
          refine lv_goto (tgt := 158) hx hb dX4_init_154 (by decide) ?_
          refine lv_istore (lv' := [(6, .int (1 : Int32)), (0, .ref t0), (2, .ref (z + 13)), (3, .int x3), (4, .int x4), (5, .int x5)]) hx hb dX4_init_158 hl (by decide) rfl (fun ls hl => ?_)
          refine lv_aload_n hx hb dX4_init_160 rfl (lv_at hl 1 rfl) ?_
          refine x_getR X hK hw h4.1.1 h4.1.2 cpX4 1 (by decide) rfl h4.2.1.2.2 tw_428 dX4_init_161 ?_
          refine lv_iload hx hb dX4_init_164 (lv_at hl 4 rfl) ?_
          refine lv_iconst (v := (4 : Int32)) hx hb dX4_init_166 (by decide) ?_
          refine lv_imul hx hb dX4_init_167 ?_
          refine lv_iload hx hb dX4_init_168 (lv_at hl 5 rfl) ?_
          refine lv_iadd hx hb dX4_init_170 ?_
          refine lv_iload hx hb dX4_init_171 (lv_at hl 0 rfl) ?_
          refine lv_if_eq (tgt := 180) hx hb dX4_init_173 (by decide) (fun c_16 => absurd c_16 (by decide)) (fun _ => ?_)
          refine lv_iload_n hx hb dX4_init_176 rfl (lv_at hl 3 rfl) ?_
          refine lv_goto (tgt := 181) hx hb dX4_init_177 (by decide) ?_
          obtain ⟨hi_17, hf⟩ := yb_ck_some hf
          refine x_iast X hK hw h4.2.1.1 h4.2.1.2.1 hi_17 rfl dX4_init_181 (fun H locs hw => ?_)
          obtain ⟨I_18, eI_18, hf⟩ := yb_let_ex hf
          have hw := yb_wI eI_18 hw
          refine lv_iload hx hb dX4_init_182 (lv_at hl 0 rfl) ?_
          refine lv_if_eq (tgt := 218) hx hb dX4_init_184 (by decide) (fun c_19 => absurd c_19 (by decide)) (fun _ => ?_)
          refine lv_aload_n hx hb dX4_init_187 rfl (lv_at hl 2 rfl) ?_
          refine lv_iload_n hx hb dX4_init_188 rfl (lv_at hl 3 rfl) ?_
          refine lv_aload_n hx hb dX4_init_189 rfl (lv_at hl 2 rfl) ?_
          refine lv_iload hx hb dX4_init_190 (lv_at hl 4 rfl) ?_
          refine x_iald X hK hw h4.2.2.2.2.1 h4.2.2.2.2.2 hi_3 rfl dX4_init_192 ?_
          refine lv_iconst (v := (1 : Int32)) hx hb dX4_init_193 (by decide) ?_
          refine lv_iload hx hb dX4_init_194 (lv_at hl 5 rfl) ?_
          refine lv_ishl hx hb dX4_init_196 ?_
          refine lv_ior hx hb dX4_init_197 ?_
          obtain ⟨hi_20, hf⟩ := yb_ck_some hf
          refine x_iast X hK hw h4.2.2.2.2.1 h4.2.2.2.2.2 hi_20 rfl dX4_init_198 (fun H locs hw => ?_)
          obtain ⟨I_21, eI_21, hf⟩ := yb_let_ex hf
          have hw := yb_wI eI_21 hw
          refine lv_aload_n hx hb dX4_init_199 rfl (lv_at hl 1 rfl) ?_
          refine x_getR X hK hw h4.1.1 h4.1.2 cpX4 2 (by decide) rfl h4.2.2.1.2.2 tw_429 dX4_init_200 ?_
          refine lv_iload_n hx hb dX4_init_203 rfl (lv_at hl 3 rfl) ?_
          refine lv_iload hx hb dX4_init_204 (lv_at hl 4 rfl) ?_
          refine x_iast X hK hw h4.2.2.1.1 h4.2.2.1.2.1 hi_20 rfl dX4_init_206 (fun H locs hw => ?_)
          obtain ⟨I_22, eI_22, hf⟩ := yb_let_ex hf
          have hw := yb_wI eI_22 hw
          refine lv_aload_n hx hb dX4_init_207 rfl (lv_at hl 1 rfl) ?_
          refine x_getR X hK hw h4.1.1 h4.1.2 cpX4 3 (by decide) rfl h4.2.2.2.1.2.2 tw_430 dX4_init_208 ?_
          refine lv_iload_n hx hb dX4_init_211 rfl (lv_at hl 3 rfl) ?_
          refine lv_iload hx hb dX4_init_212 (lv_at hl 5 rfl) ?_
          refine x_iast X hK hw h4.2.2.2.1.1 h4.2.2.2.1.2.1 hi_20 rfl dX4_init_214 (fun H locs hw => ?_)
          obtain ⟨I_23, eI_23, hf⟩ := yb_let_ex hf
          have hw := yb_wI eI_23 hw
          obtain ⟨x3_24, ex3_24, hf⟩ := yb_let_ex hf
          refine lv_iinc (v := x3_24) (lv' := [(3, .int x3_24), (6, .int (1 : Int32)), (0, .ref t0), (2, .ref (z + 13)), (4, .int x4), (5, .int x5)]) hx hb dX4_init_215 hl (k := 3) rfl (by rw [ex3_24]; rfl) (by decide) rfl (fun ls hl => ?_)
          obtain ⟨x5_25, ex5_25, hf⟩ := yb_let_ex hf
          refine lv_iinc (v := x5_25) (lv' := [(5, .int x5_25), (3, .int x3_24), (6, .int (1 : Int32)), (0, .ref t0), (2, .ref (z + 13)), (4, .int x4)]) hx hb dX4_init_218 hl (k := 5) rfl (by rw [ex5_25]; rfl) (by decide) rfl (fun ls hl => ?_)
          refine lv_goto (tgt := 129) hx hb dX4_init_221 (by decide) ?_
          exact ih _ _ _ _ _ _ _ _ _ _ hf hw (lv_sub hl [3, 4, 1, 5, 0] rfl) hexit
set_option maxHeartbeats 4000000 in
set_option maxRecDepth 100000 in
theorem w4_init_L119 {p : Program} {l : Launch} {e : Env} {s : State} {m : MethodId} {args : Array Value} {below : List Frame} {meth : Method} {c : Code} {Q : State → Prop} {D : va_G} {cz : Nat → ClassId} {A : Nat → Prop} {ev : Nat × Nat × Nat} {t0 z n0 : Nat} {L : List Nat} {S : ST} {Rf : RT} (h4 : Row4 L S Rf t0 z n0) (X : CallFix p m c cX4_init 7 s args gw RX4) (hK : KX D cz ev A s) {N : Nat} :
    ∀ (n : Nat) (x3 : Int32) (x4 : Int32) (I : IT) (J : JT) (q : (Unit)) (I1 : IT) (J1 : JT) (H : Heap) (locs : List Loc) (ls : Array Slot), f4_init_L119 N t0 z n x3 x4 I J = some (q, I1, J1) → WX D cz A L S Rf s.heap I J H locs → lv_has ls 7 [(0, .ref t0), (2, .ref (z + 13)), (3, .int x3), (4, .int x4)] →
    (∀ (H : Heap) (locs : List Loc) (ls : Array Slot), WX D cz A L S Rf s.heap I1 J1 H locs → lv_has ls 7 [] → W p l e { frames := 1, cells := 14, slots := 1400, locals := 40 } s m args below meth c H locs 14 1400 Q (F0 m 230 ls [])) →
    W p l e { frames := 1, cells := 14, slots := 1400, locals := 40 } s m args below meth c H locs 14 1400 Q (F0 m 119 ls []) := by
  have hx := X.1
  have hb := X.2.1
  intro n
  induction n with
  | zero =>
    intro x3 x4 I J q I1 J1 H locs ls hf
    rw [f4_init_L119] at hf
    cases hf
  | succ n ih =>
    intro x3 x4 I J q I1 J1 H locs ls hf hw hl hexit
    rw [f4_init_L119] at hf
    refine lv_iload hx hb dX4_init_119 (lv_at hl 3 rfl) ?_
    refine lv_bipush (v := (65 : Int32)) hx hb dX4_init_121 (by decide) ?_
    refine lv_icmp_ge (tgt := 230) hx hb dX4_init_123 (by decide) (fun c_1 => ?_) (fun c_1 => ?_)
    · have hf := yb_pos c_1 hf
      obtain ⟨rfl, rfl, rfl⟩ := yb_inj hf
      exact hexit _ _ _ hw (lv_sub hl [] rfl)
    · have hf := yb_neg c_1 hf
      refine lv_iconst (v := (0 : Int32)) hx hb dX4_init_126 (by decide) ?_
      refine lv_istore (lv' := [(5, .int (0 : Int32)), (0, .ref t0), (2, .ref (z + 13)), (3, .int x3), (4, .int x4)]) hx hb dX4_init_127 hl (by decide) rfl (fun ls hl => ?_)
      obtain ⟨q_26, I_27, J_28, hq_29, hf⟩ := yb_b3_some hf
      refine w4_init_L129 h4 X hK _ _ _ _ _ _ _ _ _ _ _ hq_29 hw (lv_sub hl [1, 2, 3, 4, 0] rfl) (fun H locs ls hw hl => ?_)
      obtain ⟨x4_30, ex4_30, hf⟩ := yb_let_ex hf
      refine lv_iinc (v := x4_30) (lv' := [(4, .int x4_30), (0, .ref t0), (2, .ref (z + 13)), (3, .int q_26)]) hx hb dX4_init_224 hl (k := 3) rfl (by rw [ex4_30]; rfl) (by decide) rfl (fun ls hl => ?_)
      refine lv_goto (tgt := 119) hx hb dX4_init_227 (by decide) ?_
      exact ih _ _ _ _ _ _ _ _ _ _ hf hw (lv_sub hl [1, 2, 3, 0] rfl) hexit
def f4_pre (t0 z x1 : Nat) (S : ST) (Rf : RT) (I : IT) (J : JT) : ST × RT × IT × JT :=
  yb_let (va_up S z (0, 260)) fun S_1 =>
  yb_let (va_up Rf z (fun _ => none)) fun Rf_2 =>
  yb_let (va_up I z (fun _ => 0)) fun I_3 =>
  yb_let (va_up J z (fun _ => 0)) fun J_4 =>
  yb_let (up2R Rf_2 t0 1 (some z)) fun Rf_5 =>
  yb_let (va_up S_1 (z + 1) (0, 65)) fun S_6 =>
  yb_let (va_up Rf_5 (z + 1) (fun _ => none)) fun Rf_7 =>
  yb_let (va_up I_3 (z + 1) (fun _ => 0)) fun I_8 =>
  yb_let (va_up J_4 (z + 1) (fun _ => 0)) fun J_9 =>
  yb_let (up2R Rf_7 t0 2 (some (z + 1))) fun Rf_10 =>
  yb_let (va_up S_6 (z + 2) (0, 65)) fun S_11 =>
  yb_let (va_up Rf_10 (z + 2) (fun _ => none)) fun Rf_12 =>
  yb_let (va_up I_8 (z + 2) (fun _ => 0)) fun I_13 =>
  yb_let (va_up J_9 (z + 2) (fun _ => 0)) fun J_14 =>
  yb_let (up2R Rf_12 t0 3 (some (z + 2))) fun Rf_15 =>
  yb_let (va_up S_11 (z + 3) (0, 455)) fun S_16 =>
  yb_let (va_up Rf_15 (z + 3) (fun _ => none)) fun Rf_17 =>
  yb_let (va_up I_13 (z + 3) (fun _ => 0)) fun I_18 =>
  yb_let (va_up J_14 (z + 3) (fun _ => 0)) fun J_19 =>
  yb_let (up2R Rf_17 t0 4 (some (z + 3))) fun Rf_20 =>
  yb_let (va_up S_16 (z + 4) (0, 455)) fun S_21 =>
  yb_let (va_up Rf_20 (z + 4) (fun _ => none)) fun Rf_22 =>
  yb_let (va_up I_18 (z + 4) (fun _ => 0)) fun I_23 =>
  yb_let (va_up J_19 (z + 4) (fun _ => 0)) fun J_24 =>
  yb_let (up2R Rf_22 t0 5 (some (z + 4))) fun Rf_25 =>
  yb_let (va_up S_21 (z + 5) (0, 4)) fun S_26 =>
  yb_let (va_up Rf_25 (z + 5) (fun _ => none)) fun Rf_27 =>
  yb_let (va_up I_23 (z + 5) (fun _ => 0)) fun I_28 =>
  yb_let (va_up J_24 (z + 5) (fun _ => 0)) fun J_29 =>
  yb_let (up2R Rf_27 t0 6 (some (z + 5))) fun Rf_30 =>
  yb_let (va_up S_26 (z + 6) (0, 4)) fun S_31 =>
  yb_let (va_up Rf_30 (z + 6) (fun _ => none)) fun Rf_32 =>
  yb_let (va_up I_28 (z + 6) (fun _ => 0)) fun I_33 =>
  yb_let (va_up J_29 (z + 6) (fun _ => 0)) fun J_34 =>
  yb_let (up2R Rf_32 t0 7 (some (z + 6))) fun Rf_35 =>
  yb_let (va_up S_31 (z + 7) (0, 4)) fun S_36 =>
  yb_let (va_up Rf_35 (z + 7) (fun _ => none)) fun Rf_37 =>
  yb_let (va_up I_33 (z + 7) (fun _ => 0)) fun I_38 =>
  yb_let (va_up J_34 (z + 7) (fun _ => 0)) fun J_39 =>
  yb_let (up2R Rf_37 t0 8 (some (z + 7))) fun Rf_40 =>
  yb_let (va_up S_36 (z + 8) (0, 4)) fun S_41 =>
  yb_let (va_up Rf_40 (z + 8) (fun _ => none)) fun Rf_42 =>
  yb_let (va_up I_38 (z + 8) (fun _ => 0)) fun I_43 =>
  yb_let (va_up J_39 (z + 8) (fun _ => 0)) fun J_44 =>
  yb_let (up2R Rf_42 t0 9 (some (z + 8))) fun Rf_45 =>
  yb_let (va_up S_41 (z + 9) (0, 7)) fun S_46 =>
  yb_let (va_up Rf_45 (z + 9) (fun _ => none)) fun Rf_47 =>
  yb_let (va_up I_43 (z + 9) (fun _ => 0)) fun I_48 =>
  yb_let (va_up J_44 (z + 9) (fun _ => 0)) fun J_49 =>
  yb_let (up2R Rf_47 t0 10 (some (z + 9))) fun Rf_50 =>
  yb_let (va_up S_46 (z + 10) (0, 4)) fun S_51 =>
  yb_let (va_up Rf_50 (z + 10) (fun _ => none)) fun Rf_52 =>
  yb_let (va_up I_48 (z + 10) (fun _ => 0)) fun I_53 =>
  yb_let (va_up J_49 (z + 10) (fun _ => 0)) fun J_54 =>
  yb_let (up2R Rf_52 t0 11 (some (z + 10))) fun Rf_55 =>
  yb_let (va_up S_51 (z + 11) (0, 4)) fun S_56 =>
  yb_let (va_up Rf_55 (z + 11) (fun _ => none)) fun Rf_57 =>
  yb_let (va_up I_53 (z + 11) (fun _ => 0)) fun I_58 =>
  yb_let (va_up J_54 (z + 11) (fun _ => 0)) fun J_59 =>
  yb_let (up2R Rf_57 t0 12 (some (z + 11))) fun Rf_60 =>
  yb_let (va_up S_56 (z + 12) (0, 4)) fun S_61 =>
  yb_let (va_up Rf_60 (z + 12) (fun _ => none)) fun Rf_62 =>
  yb_let (va_up I_58 (z + 12) (fun _ => 0)) fun I_63 =>
  yb_let (va_up J_59 (z + 12) (fun _ => 0)) fun J_64 =>
  yb_let (up2R Rf_62 t0 13 (some (z + 12))) fun Rf_65 =>
  yb_let (up2R Rf_65 t0 0 (some x1)) fun Rf_66 =>
  yb_let (va_up S_61 (z + 13) (0, 65)) fun S_67 =>
  yb_let (va_up Rf_66 (z + 13) (fun _ => none)) fun Rf_68 =>
  yb_let (va_up I_63 (z + 13) (fun _ => 0)) fun I_69 =>
  yb_let (va_up J_64 (z + 13) (fun _ => 0)) fun J_70 =>
  (S_67, Rf_68, I_69, J_70)
theorem row4_pre {t0 z x1 : Nat} {S : ST} {Rf : RT} {I : IT} {J : JT} (h : t0 < z) : (f4_pre t0 z x1 S Rf I J).1 t0 = S t0 ∧ ((f4_pre t0 z x1 S Rf I J).1 z = (0, 260) ∧ (f4_pre t0 z x1 S Rf I J).2.1 t0 1 = some z) ∧ ((f4_pre t0 z x1 S Rf I J).1 (z + 1) = (0, 65) ∧ (f4_pre t0 z x1 S Rf I J).2.1 t0 2 = some (z + 1)) ∧ ((f4_pre t0 z x1 S Rf I J).1 (z + 2) = (0, 65) ∧ (f4_pre t0 z x1 S Rf I J).2.1 t0 3 = some (z + 2)) ∧ (f4_pre t0 z x1 S Rf I J).1 (z + 13) = (0, 65) := by
  have hn0 : t0 ≠ z := by omega
  have hne : ∀ k, t0 ≠ z + k := fun k => by omega
  simp [f4_pre, yb_let, va_up, up2R, hn0, hne]
set_option maxHeartbeats 4000000 in
set_option maxRecDepth 100000 in
theorem c4_pre (l : Launch) (D : va_G) (cz : Nat → ClassId) (ev : Nat × Nat × Nat) {t0 z n0 x1 N : Nat} {L : List Nat} {S : ST} {Rf : RT} {I : IT} {J : JT} {S1 : ST} {Rf1 : RT} {I0 I1 : IT} {J0 J1 : JT} (ha : t0 ∈ L) (hS : S t0 = (11, n0)) (hf : f4_pre t0 z x1 S Rf I J = (S1, Rf1, I0, J0)) (hg : f4_init_L119 N t0 z N (1 : Int32) (0 : Int32) I0 J0 = some ((), I1, J1)) : MA l D cz ev yX4_init cX4_init 7 1 40 14 1400 [.ref t0, .ref x1] z L S Rf I J S1 Rf1 I1 J1 := by
  refine MA_of (by decide) rfl (Nat.le_of_ble_eq_true rfl) ?_
  intro p e s m args below meth c Q ls X hK hz hin hw hl hfin
  have X : CallFix p m c cX4_init 7 s args gw RX4 := X
  have hx := X.1
  have hb := X.2.1
  have hz0 : s.heap.size = z := hz
  have hlt : t0 < z := hz ▸ wx_lt hw ha
  have h4 : Row4 (apn L z 14) S1 Rf1 t0 z n0 := by
    have hr := row4_pre (x1 := x1) (S := S) (Rf := Rf) (I := I) (J := J) hlt
    rw [hf] at hr
    exact ⟨⟨apn_old ha _, hr.1.trans hS⟩, ⟨apn_new (j := 0) _ (by decide), hr.2.1⟩, ⟨apn_new (j := 1) _ (by decide), hr.2.2.1⟩, ⟨apn_new (j := 2) _ (by decide), hr.2.2.2.1⟩, ⟨apn_new (j := 13) _ (by decide), hr.2.2.2.2⟩⟩
  unfold f4_pre at hf
  have hw : WX D cz _ (apn L z 0) S Rf s.heap I J s.heap [] := hw
  have hz : s.heap.size = z + 0 := hz
  have hl : lv_has ls 7 [(0, .ref t0), (1, .ref x1)] := hl
  refine lv_aload_n hx hb dX4_init_0 rfl (lv_at hl 0 rfl) ?_
  refine W.objInit hx hb X.2.2.2.1 (X.2.2.2.2 _ tw_426) (X.2.2.2.2 _ tw_146) (X.2.2.2.2 _ tw_147) rfl (by rw [X.2.2.1]; exact hl.1) rfl dX4_init_1 (Nat.le_of_ble_eq_true rfl) (Nat.le_of_ble_eq_true rfl) ?_
  refine lv_aload_n hx hb dX4_init_4 rfl (lv_at hl 0 rfl) ?_
  refine lv_sipush (v := (260 : Int32)) hx hb dX4_init_5 (by decide) ?_
  refine x_newa0 (z := z) X hK hw hz (Or.inr (Nat.le_refl z)) tw_175 (N := 260) (by decide) rfl (by decide) (Nat.le_of_ble_eq_true rfl) (Nat.le_of_ble_eq_true rfl) dX4_init_8 (fun H hw hz => ?_)
  obtain ⟨S_1, eS_1, hf⟩ := yb_let_ex hf
  obtain ⟨Rf_2, eRf_2, hf⟩ := yb_let_ex hf
  obtain ⟨I_3, eI_3, hf⟩ := yb_let_ex hf
  obtain ⟨J_4, eJ_4, hf⟩ := yb_let_ex hf
  have hw : WX D cz _ (apn L z 1) S_1 Rf_2 s.heap I_3 J_4 H [] := yb_w5 (apn_s L z 0) eS_1 eRf_2 eI_3 eJ_4 hw
  have hz : H.size = z + 1 := hz
  have hS : S_1 t0 = (11, n0) := nS_up eS_1 (Nat.ne_of_lt hlt) hS
  refine x_putR X hK hw hz (apn_old ha 1) hS cpX4 1 (by decide) rfl rfl rfl rfl hin rfl tw_428 dX4_init_10 (fun H locs hw hz => ?_)
  obtain ⟨Rf_5, eRf_5, hf⟩ := yb_let_ex hf
  have hw := yb_wR eRf_5 hw
  refine lv_aload_n hx hb dX4_init_13 rfl (lv_at hl 0 rfl) ?_
  refine lv_bipush (v := (65 : Int32)) hx hb dX4_init_14 (by decide) ?_
  refine x_newa0 (z := (z + 1)) X hK hw hz (Or.inr (Nat.le_add_right z 1)) tw_175 (N := 65) (by decide) rfl (by decide) (Nat.le_of_ble_eq_true rfl) (Nat.le_of_ble_eq_true rfl) dX4_init_16 (fun H hw hz => ?_)
  obtain ⟨S_6, eS_6, hf⟩ := yb_let_ex hf
  obtain ⟨Rf_7, eRf_7, hf⟩ := yb_let_ex hf
  obtain ⟨I_8, eI_8, hf⟩ := yb_let_ex hf
  obtain ⟨J_9, eJ_9, hf⟩ := yb_let_ex hf
  have hw : WX D cz _ (apn L z 2) S_6 Rf_7 s.heap I_8 J_9 H locs := yb_w5 (apn_s L z 1) eS_6 eRf_7 eI_8 eJ_9 hw
  have hz : H.size = z + 2 := hz
  have hS : S_6 t0 = (11, n0) := nS_up eS_6 (Nat.ne_of_lt (Nat.lt_of_lt_of_le hlt (Nat.le_add_right z 1))) hS
  refine x_putR X hK hw hz (apn_old ha 2) hS cpX4 2 (by decide) rfl rfl rfl rfl hin rfl tw_429 dX4_init_18 (fun H locs hw hz => ?_)
  obtain ⟨Rf_10, eRf_10, hf⟩ := yb_let_ex hf
  have hw := yb_wR eRf_10 hw
  refine lv_aload_n hx hb dX4_init_21 rfl (lv_at hl 0 rfl) ?_
  refine lv_bipush (v := (65 : Int32)) hx hb dX4_init_22 (by decide) ?_
  refine x_newa0 (z := (z + 2)) X hK hw hz (Or.inr (Nat.le_add_right z 2)) tw_175 (N := 65) (by decide) rfl (by decide) (Nat.le_of_ble_eq_true rfl) (Nat.le_of_ble_eq_true rfl) dX4_init_24 (fun H hw hz => ?_)
  obtain ⟨S_11, eS_11, hf⟩ := yb_let_ex hf
  obtain ⟨Rf_12, eRf_12, hf⟩ := yb_let_ex hf
  obtain ⟨I_13, eI_13, hf⟩ := yb_let_ex hf
  obtain ⟨J_14, eJ_14, hf⟩ := yb_let_ex hf
  have hw : WX D cz _ (apn L z 3) S_11 Rf_12 s.heap I_13 J_14 H locs := yb_w5 (apn_s L z 2) eS_11 eRf_12 eI_13 eJ_14 hw
  have hz : H.size = z + 3 := hz
  have hS : S_11 t0 = (11, n0) := nS_up eS_11 (Nat.ne_of_lt (Nat.lt_of_lt_of_le hlt (Nat.le_add_right z 2))) hS
  refine x_putR X hK hw hz (apn_old ha 3) hS cpX4 3 (by decide) rfl rfl rfl rfl hin rfl tw_430 dX4_init_26 (fun H locs hw hz => ?_)
  obtain ⟨Rf_15, eRf_15, hf⟩ := yb_let_ex hf
  have hw := yb_wR eRf_15 hw
  refine lv_aload_n hx hb dX4_init_29 rfl (lv_at hl 0 rfl) ?_
  refine lv_sipush (v := (455 : Int32)) hx hb dX4_init_30 (by decide) ?_
  refine x_newa0 (z := (z + 3)) X hK hw hz (Or.inr (Nat.le_add_right z 3)) tw_175 (N := 455) (by decide) rfl (by decide) (Nat.le_of_ble_eq_true rfl) (Nat.le_of_ble_eq_true rfl) dX4_init_33 (fun H hw hz => ?_)
  obtain ⟨S_16, eS_16, hf⟩ := yb_let_ex hf
  obtain ⟨Rf_17, eRf_17, hf⟩ := yb_let_ex hf
  obtain ⟨I_18, eI_18, hf⟩ := yb_let_ex hf
  obtain ⟨J_19, eJ_19, hf⟩ := yb_let_ex hf
  have hw : WX D cz _ (apn L z 4) S_16 Rf_17 s.heap I_18 J_19 H locs := yb_w5 (apn_s L z 3) eS_16 eRf_17 eI_18 eJ_19 hw
  have hz : H.size = z + 4 := hz
  have hS : S_16 t0 = (11, n0) := nS_up eS_16 (Nat.ne_of_lt (Nat.lt_of_lt_of_le hlt (Nat.le_add_right z 3))) hS
  refine x_putR X hK hw hz (apn_old ha 4) hS cpX4 4 (by decide) rfl rfl rfl rfl hin rfl tw_431 dX4_init_35 (fun H locs hw hz => ?_)
  obtain ⟨Rf_20, eRf_20, hf⟩ := yb_let_ex hf
  have hw := yb_wR eRf_20 hw
  refine lv_aload_n hx hb dX4_init_38 rfl (lv_at hl 0 rfl) ?_
  refine lv_sipush (v := (455 : Int32)) hx hb dX4_init_39 (by decide) ?_
  refine x_newa0 (z := (z + 4)) X hK hw hz (Or.inr (Nat.le_add_right z 4)) tw_175 (N := 455) (by decide) rfl (by decide) (Nat.le_of_ble_eq_true rfl) (Nat.le_of_ble_eq_true rfl) dX4_init_42 (fun H hw hz => ?_)
  obtain ⟨S_21, eS_21, hf⟩ := yb_let_ex hf
  obtain ⟨Rf_22, eRf_22, hf⟩ := yb_let_ex hf
  obtain ⟨I_23, eI_23, hf⟩ := yb_let_ex hf
  obtain ⟨J_24, eJ_24, hf⟩ := yb_let_ex hf
  have hw : WX D cz _ (apn L z 5) S_21 Rf_22 s.heap I_23 J_24 H locs := yb_w5 (apn_s L z 4) eS_21 eRf_22 eI_23 eJ_24 hw
  have hz : H.size = z + 5 := hz
  have hS : S_21 t0 = (11, n0) := nS_up eS_21 (Nat.ne_of_lt (Nat.lt_of_lt_of_le hlt (Nat.le_add_right z 4))) hS
  refine x_putR X hK hw hz (apn_old ha 5) hS cpX4 5 (by decide) rfl rfl rfl rfl hin rfl tw_432 dX4_init_44 (fun H locs hw hz => ?_)
  obtain ⟨Rf_25, eRf_25, hf⟩ := yb_let_ex hf
  have hw := yb_wR eRf_25 hw
  refine lv_aload_n hx hb dX4_init_47 rfl (lv_at hl 0 rfl) ?_
  refine lv_iconst (v := (4 : Int32)) hx hb dX4_init_48 (by decide) ?_
  refine x_newa0 (z := (z + 5)) X hK hw hz (Or.inr (Nat.le_add_right z 5)) tw_175 (N := 4) (by decide) rfl (by decide) (Nat.le_of_ble_eq_true rfl) (Nat.le_of_ble_eq_true rfl) dX4_init_49 (fun H hw hz => ?_)
  obtain ⟨S_26, eS_26, hf⟩ := yb_let_ex hf
  obtain ⟨Rf_27, eRf_27, hf⟩ := yb_let_ex hf
  obtain ⟨I_28, eI_28, hf⟩ := yb_let_ex hf
  obtain ⟨J_29, eJ_29, hf⟩ := yb_let_ex hf
  have hw : WX D cz _ (apn L z 6) S_26 Rf_27 s.heap I_28 J_29 H locs := yb_w5 (apn_s L z 5) eS_26 eRf_27 eI_28 eJ_29 hw
  have hz : H.size = z + 6 := hz
  have hS : S_26 t0 = (11, n0) := nS_up eS_26 (Nat.ne_of_lt (Nat.lt_of_lt_of_le hlt (Nat.le_add_right z 5))) hS
  refine x_putR X hK hw hz (apn_old ha 6) hS cpX4 6 (by decide) rfl rfl rfl rfl hin rfl tw_433 dX4_init_51 (fun H locs hw hz => ?_)
  obtain ⟨Rf_30, eRf_30, hf⟩ := yb_let_ex hf
  have hw := yb_wR eRf_30 hw
  refine lv_aload_n hx hb dX4_init_54 rfl (lv_at hl 0 rfl) ?_
  refine lv_iconst (v := (4 : Int32)) hx hb dX4_init_55 (by decide) ?_
  refine x_newa0 (z := (z + 6)) X hK hw hz (Or.inr (Nat.le_add_right z 6)) tw_175 (N := 4) (by decide) rfl (by decide) (Nat.le_of_ble_eq_true rfl) (Nat.le_of_ble_eq_true rfl) dX4_init_56 (fun H hw hz => ?_)
  obtain ⟨S_31, eS_31, hf⟩ := yb_let_ex hf
  obtain ⟨Rf_32, eRf_32, hf⟩ := yb_let_ex hf
  obtain ⟨I_33, eI_33, hf⟩ := yb_let_ex hf
  obtain ⟨J_34, eJ_34, hf⟩ := yb_let_ex hf
  have hw : WX D cz _ (apn L z 7) S_31 Rf_32 s.heap I_33 J_34 H locs := yb_w5 (apn_s L z 6) eS_31 eRf_32 eI_33 eJ_34 hw
  have hz : H.size = z + 7 := hz
  have hS : S_31 t0 = (11, n0) := nS_up eS_31 (Nat.ne_of_lt (Nat.lt_of_lt_of_le hlt (Nat.le_add_right z 6))) hS
  refine x_putR X hK hw hz (apn_old ha 7) hS cpX4 7 (by decide) rfl rfl rfl rfl hin rfl tw_434 dX4_init_58 (fun H locs hw hz => ?_)
  obtain ⟨Rf_35, eRf_35, hf⟩ := yb_let_ex hf
  have hw := yb_wR eRf_35 hw
  refine lv_aload_n hx hb dX4_init_61 rfl (lv_at hl 0 rfl) ?_
  refine lv_iconst (v := (4 : Int32)) hx hb dX4_init_62 (by decide) ?_
  refine x_newa0 (z := (z + 7)) X hK hw hz (Or.inr (Nat.le_add_right z 7)) tw_175 (N := 4) (by decide) rfl (by decide) (Nat.le_of_ble_eq_true rfl) (Nat.le_of_ble_eq_true rfl) dX4_init_63 (fun H hw hz => ?_)
  obtain ⟨S_36, eS_36, hf⟩ := yb_let_ex hf
  obtain ⟨Rf_37, eRf_37, hf⟩ := yb_let_ex hf
  obtain ⟨I_38, eI_38, hf⟩ := yb_let_ex hf
  obtain ⟨J_39, eJ_39, hf⟩ := yb_let_ex hf
  have hw : WX D cz _ (apn L z 8) S_36 Rf_37 s.heap I_38 J_39 H locs := yb_w5 (apn_s L z 7) eS_36 eRf_37 eI_38 eJ_39 hw
  have hz : H.size = z + 8 := hz
  have hS : S_36 t0 = (11, n0) := nS_up eS_36 (Nat.ne_of_lt (Nat.lt_of_lt_of_le hlt (Nat.le_add_right z 7))) hS
  refine x_putR X hK hw hz (apn_old ha 8) hS cpX4 8 (by decide) rfl rfl rfl rfl hin rfl tw_435 dX4_init_65 (fun H locs hw hz => ?_)
  obtain ⟨Rf_40, eRf_40, hf⟩ := yb_let_ex hf
  have hw := yb_wR eRf_40 hw
  refine lv_aload_n hx hb dX4_init_68 rfl (lv_at hl 0 rfl) ?_
  refine lv_iconst (v := (4 : Int32)) hx hb dX4_init_69 (by decide) ?_
  refine x_newa0 (z := (z + 8)) X hK hw hz (Or.inr (Nat.le_add_right z 8)) tw_175 (N := 4) (by decide) rfl (by decide) (Nat.le_of_ble_eq_true rfl) (Nat.le_of_ble_eq_true rfl) dX4_init_70 (fun H hw hz => ?_)
  obtain ⟨S_41, eS_41, hf⟩ := yb_let_ex hf
  obtain ⟨Rf_42, eRf_42, hf⟩ := yb_let_ex hf
  obtain ⟨I_43, eI_43, hf⟩ := yb_let_ex hf
  obtain ⟨J_44, eJ_44, hf⟩ := yb_let_ex hf
  have hw : WX D cz _ (apn L z 9) S_41 Rf_42 s.heap I_43 J_44 H locs := yb_w5 (apn_s L z 8) eS_41 eRf_42 eI_43 eJ_44 hw
  have hz : H.size = z + 9 := hz
  have hS : S_41 t0 = (11, n0) := nS_up eS_41 (Nat.ne_of_lt (Nat.lt_of_lt_of_le hlt (Nat.le_add_right z 8))) hS
  refine x_putR X hK hw hz (apn_old ha 9) hS cpX4 9 (by decide) rfl rfl rfl rfl hin rfl tw_436 dX4_init_72 (fun H locs hw hz => ?_)
  obtain ⟨Rf_45, eRf_45, hf⟩ := yb_let_ex hf
  have hw := yb_wR eRf_45 hw
  refine lv_aload_n hx hb dX4_init_75 rfl (lv_at hl 0 rfl) ?_
  refine lv_bipush (v := (7 : Int32)) hx hb dX4_init_76 (by decide) ?_
  refine x_newa0 (z := (z + 9)) X hK hw hz (Or.inr (Nat.le_add_right z 9)) tw_175 (N := 7) (by decide) rfl (by decide) (Nat.le_of_ble_eq_true rfl) (Nat.le_of_ble_eq_true rfl) dX4_init_78 (fun H hw hz => ?_)
  obtain ⟨S_46, eS_46, hf⟩ := yb_let_ex hf
  obtain ⟨Rf_47, eRf_47, hf⟩ := yb_let_ex hf
  obtain ⟨I_48, eI_48, hf⟩ := yb_let_ex hf
  obtain ⟨J_49, eJ_49, hf⟩ := yb_let_ex hf
  have hw : WX D cz _ (apn L z 10) S_46 Rf_47 s.heap I_48 J_49 H locs := yb_w5 (apn_s L z 9) eS_46 eRf_47 eI_48 eJ_49 hw
  have hz : H.size = z + 10 := hz
  have hS : S_46 t0 = (11, n0) := nS_up eS_46 (Nat.ne_of_lt (Nat.lt_of_lt_of_le hlt (Nat.le_add_right z 9))) hS
  refine x_putR X hK hw hz (apn_old ha 10) hS cpX4 10 (by decide) rfl rfl rfl rfl hin rfl tw_437 dX4_init_80 (fun H locs hw hz => ?_)
  obtain ⟨Rf_50, eRf_50, hf⟩ := yb_let_ex hf
  have hw := yb_wR eRf_50 hw
  refine lv_aload_n hx hb dX4_init_83 rfl (lv_at hl 0 rfl) ?_
  refine lv_iconst (v := (4 : Int32)) hx hb dX4_init_84 (by decide) ?_
  refine x_newa0 (z := (z + 10)) X hK hw hz (Or.inr (Nat.le_add_right z 10)) tw_175 (N := 4) (by decide) rfl (by decide) (Nat.le_of_ble_eq_true rfl) (Nat.le_of_ble_eq_true rfl) dX4_init_85 (fun H hw hz => ?_)
  obtain ⟨S_51, eS_51, hf⟩ := yb_let_ex hf
  obtain ⟨Rf_52, eRf_52, hf⟩ := yb_let_ex hf
  obtain ⟨I_53, eI_53, hf⟩ := yb_let_ex hf
  obtain ⟨J_54, eJ_54, hf⟩ := yb_let_ex hf
  have hw : WX D cz _ (apn L z 11) S_51 Rf_52 s.heap I_53 J_54 H locs := yb_w5 (apn_s L z 10) eS_51 eRf_52 eI_53 eJ_54 hw
  have hz : H.size = z + 11 := hz
  have hS : S_51 t0 = (11, n0) := nS_up eS_51 (Nat.ne_of_lt (Nat.lt_of_lt_of_le hlt (Nat.le_add_right z 10))) hS
  refine x_putR X hK hw hz (apn_old ha 11) hS cpX4 11 (by decide) rfl rfl rfl rfl hin rfl tw_438 dX4_init_87 (fun H locs hw hz => ?_)
  obtain ⟨Rf_55, eRf_55, hf⟩ := yb_let_ex hf
  have hw := yb_wR eRf_55 hw
  refine lv_aload_n hx hb dX4_init_90 rfl (lv_at hl 0 rfl) ?_
  refine lv_iconst (v := (4 : Int32)) hx hb dX4_init_91 (by decide) ?_
  refine x_newa0 (z := (z + 11)) X hK hw hz (Or.inr (Nat.le_add_right z 11)) tw_175 (N := 4) (by decide) rfl (by decide) (Nat.le_of_ble_eq_true rfl) (Nat.le_of_ble_eq_true rfl) dX4_init_92 (fun H hw hz => ?_)
  obtain ⟨S_56, eS_56, hf⟩ := yb_let_ex hf
  obtain ⟨Rf_57, eRf_57, hf⟩ := yb_let_ex hf
  obtain ⟨I_58, eI_58, hf⟩ := yb_let_ex hf
  obtain ⟨J_59, eJ_59, hf⟩ := yb_let_ex hf
  have hw : WX D cz _ (apn L z 12) S_56 Rf_57 s.heap I_58 J_59 H locs := yb_w5 (apn_s L z 11) eS_56 eRf_57 eI_58 eJ_59 hw
  have hz : H.size = z + 12 := hz
  have hS : S_56 t0 = (11, n0) := nS_up eS_56 (Nat.ne_of_lt (Nat.lt_of_lt_of_le hlt (Nat.le_add_right z 11))) hS
  refine x_putR X hK hw hz (apn_old ha 12) hS cpX4 12 (by decide) rfl rfl rfl rfl hin rfl tw_439 dX4_init_94 (fun H locs hw hz => ?_)
  obtain ⟨Rf_60, eRf_60, hf⟩ := yb_let_ex hf
  have hw := yb_wR eRf_60 hw
  refine lv_aload_n hx hb dX4_init_97 rfl (lv_at hl 0 rfl) ?_
  refine lv_iconst (v := (4 : Int32)) hx hb dX4_init_98 (by decide) ?_
  refine x_newa0 (z := (z + 12)) X hK hw hz (Or.inr (Nat.le_add_right z 12)) tw_175 (N := 4) (by decide) rfl (by decide) (Nat.le_of_ble_eq_true rfl) (Nat.le_of_ble_eq_true rfl) dX4_init_99 (fun H hw hz => ?_)
  obtain ⟨S_61, eS_61, hf⟩ := yb_let_ex hf
  obtain ⟨Rf_62, eRf_62, hf⟩ := yb_let_ex hf
  obtain ⟨I_63, eI_63, hf⟩ := yb_let_ex hf
  obtain ⟨J_64, eJ_64, hf⟩ := yb_let_ex hf
  have hw : WX D cz _ (apn L z 13) S_61 Rf_62 s.heap I_63 J_64 H locs := yb_w5 (apn_s L z 12) eS_61 eRf_62 eI_63 eJ_64 hw
  have hz : H.size = z + 13 := hz
  have hS : S_61 t0 = (11, n0) := nS_up eS_61 (Nat.ne_of_lt (Nat.lt_of_lt_of_le hlt (Nat.le_add_right z 12))) hS
  refine x_putR X hK hw hz (apn_old ha 13) hS cpX4 13 (by decide) rfl rfl rfl rfl hin rfl tw_440 dX4_init_101 (fun H locs hw hz => ?_)
  obtain ⟨Rf_65, eRf_65, hf⟩ := yb_let_ex hf
  have hw := yb_wR eRf_65 hw
  refine lv_aload_n hx hb dX4_init_104 rfl (lv_at hl 0 rfl) ?_
  refine lv_aload_n hx hb dX4_init_105 rfl (lv_at hl 1 rfl) ?_
  refine x_putR X hK hw hz (apn_old ha 13) hS cpX4 0 (by decide) rfl rfl rfl rfl hin rfl tw_427 dX4_init_106 (fun H locs hw hz => ?_)
  obtain ⟨Rf_66, eRf_66, hf⟩ := yb_let_ex hf
  have hw := yb_wR eRf_66 hw
  refine lv_bipush (v := (65 : Int32)) hx hb dX4_init_109 (by decide) ?_
  refine x_newa0 (z := (z + 13)) X hK hw hz (Or.inr (Nat.le_add_right z 13)) tw_175 (N := 65) (by decide) rfl (by decide) (Nat.le_of_ble_eq_true rfl) (Nat.le_of_ble_eq_true rfl) dX4_init_111 (fun H hw hz => ?_)
  obtain ⟨S_67, eS_67, hf⟩ := yb_let_ex hf
  obtain ⟨Rf_68, eRf_68, hf⟩ := yb_let_ex hf
  obtain ⟨I_69, eI_69, hf⟩ := yb_let_ex hf
  obtain ⟨J_70, eJ_70, hf⟩ := yb_let_ex hf
  have hw : WX D cz _ (apn L z 14) S_67 Rf_68 s.heap I_69 J_70 H locs := yb_w5 (apn_s L z 13) eS_67 eRf_68 eI_69 eJ_70 hw
  have hz : H.size = z + 14 := hz
  have hS : S_67 t0 = (11, n0) := nS_up eS_67 (Nat.ne_of_lt (Nat.lt_of_lt_of_le hlt (Nat.le_add_right z 13))) hS
  cases hf
  refine lv_astore_n (lv' := [(2, .ref (z + 13)), (0, .ref t0), (1, .ref x1)]) hx hb dX4_init_113 rfl hl (by decide) rfl (fun ls hl => ?_)
  refine lv_iconst (v := (1 : Int32)) hx hb dX4_init_114 (by decide) ?_
  refine lv_istore_n (lv' := [(3, .int (1 : Int32)), (2, .ref (z + 13)), (0, .ref t0), (1, .ref x1)]) hx hb dX4_init_115 rfl hl (by decide) rfl (fun ls hl => ?_)
  refine lv_iconst (v := (0 : Int32)) hx hb dX4_init_116 (by decide) ?_
  refine lv_istore (lv' := [(4, .int (0 : Int32)), (3, .int (1 : Int32)), (2, .ref (z + 13)), (0, .ref t0), (1, .ref x1)]) hx hb dX4_init_117 hl (by decide) rfl (fun ls hl => ?_)
  refine w4_init_L119 h4 X hK _ _ _ _ _ _ _ _ _ _ _ hg hw (lv_sub hl [3, 2, 1, 0] rfl) (fun H locs ls hw hl => ?_)
  refine x_size (fun q1 q2 => ?_)
  exact hfin _ _ _ _ hw (Nat.le_antisymm (Nat.le_trans q2 (Nat.le_of_eq (congrArg (fun x => x + 14) hz0))) (wx_lt hw (apn_new (L := L) (z := z) (j := 13) 14 (by decide)))) dX4_init_230
