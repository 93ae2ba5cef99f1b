def f11_init (t0 z : Nat) (S : ST) (Rf : RT) (I : IT) (J : JT) : ST × RT × IT × JT :=
  yb_let (va_up S z (0, 400)) fun S_1 =>
  yb_let (va_up Rf z (fun _ => none)) fun Rf_2 =>
  yb_let (va_up I z (fun _ => 0)) fun I_3 =>
  yb_let (va_up J z (fun _ => 0)) fun J_4 =>
  yb_let (up2R Rf_2 t0 0 (some z)) fun Rf_5 =>
  yb_let (va_up S_1 (z + 1) (10, 0)) fun S_6 =>
  yb_let (va_up Rf_5 (z + 1) (fun _ => none)) fun Rf_7 =>
  yb_let (va_up I_3 (z + 1) (fun _ => 0)) fun I_8 =>
  yb_let (va_up J_4 (z + 1) (fun _ => 0)) fun J_9 =>
  yb_let (f3_init (z + 1) (z + 2) z S_6 Rf_7 I_8 J_9) fun q_10 =>
  yb_let q_10.1 fun S_11 =>
  yb_let q_10.2.1 fun Rf_12 =>
  yb_let q_10.2.2.1 fun I_13 =>
  yb_let q_10.2.2.2 fun J_14 =>
  yb_let (up2R Rf_12 t0 1 (some (z + 1))) fun Rf_15 =>
  yb_let (va_up S_11 (z + 2) (4, 6)) fun S_16 =>
  yb_let (va_up Rf_15 (z + 2) (fun _ => none)) fun Rf_17 =>
  yb_let (va_up I_13 (z + 2) (fun _ => 0)) fun I_18 =>
  yb_let (va_up J_14 (z + 2) (fun _ => 0)) fun J_19 =>
  yb_let (up2R Rf_17 t0 2 (some (z + 2))) fun Rf_20 =>
  yb_let (va_up S_16 (z + 3) (15, 0)) fun S_21 =>
  yb_let (va_up Rf_20 (z + 3) (fun _ => none)) fun Rf_22 =>
  yb_let (va_up I_18 (z + 3) (fun _ => 0)) fun I_23 =>
  yb_let (va_up J_19 (z + 3) (fun _ => 0)) fun J_24 =>
  yb_let (f8_init (z + 3) (z + 4) S_21 Rf_22 I_23 J_24) fun q_25 =>
  yb_let q_25.1 fun S_26 =>
  yb_let q_25.2.1 fun Rf_27 =>
  yb_let q_25.2.2.1 fun I_28 =>
  yb_let q_25.2.2.2 fun J_29 =>
  yb_let (up2R Rf_27 t0 3 (some (z + 3))) fun Rf_30 =>
  yb_let (va_up S_26 (z + 26) (5, 4)) fun S_31 =>
  yb_let (va_up Rf_30 (z + 26) (fun _ => none)) fun Rf_32 =>
  yb_let (va_up I_28 (z + 26) (fun _ => 0)) fun I_33 =>
  yb_let (va_up J_29 (z + 26) (fun _ => 0)) fun J_34 =>
  yb_let (up2R Rf_32 t0 4 (some (z + 26))) fun Rf_35 =>
  yb_let (va_up S_31 (z + 27) (9, 0)) fun S_36 =>
  yb_let (va_up Rf_35 (z + 27) (fun _ => none)) fun Rf_37 =>
  yb_let (va_up I_33 (z + 27) (fun _ => 0)) fun I_38 =>
  yb_let (va_up J_34 (z + 27) (fun _ => 0)) fun J_39 =>
  yb_let (f2_init (z + 27) (z + 28) S_36 Rf_37 I_38 J_39) fun q_40 =>
  yb_let q_40.1 fun S_41 =>
  yb_let q_40.2.1 fun Rf_42 =>
  yb_let q_40.2.2.1 fun I_43 =>
  yb_let q_40.2.2.2 fun J_44 =>
  yb_let (up2R Rf_42 t0 5 (some (z + 27))) fun Rf_45 =>
  yb_let (va_up S_41 (z + 29) (8, 0)) fun S_46 =>
  yb_let (va_up Rf_45 (z + 29) (fun _ => none)) fun Rf_47 =>
  yb_let (va_up I_43 (z + 29) (fun _ => 0)) fun I_48 =>
  yb_let (va_up J_44 (z + 29) (fun _ => 0)) fun J_49 =>
  yb_let (f1_init (z + 29) (z + 30) (z + 3) (z + 2) S_46 Rf_47 I_48 J_49) fun q_50 =>
  yb_let q_50.1 fun S_51 =>
  yb_let q_50.2.1 fun Rf_52 =>
  yb_let q_50.2.2.1 fun I_53 =>
  yb_let q_50.2.2.2 fun J_54 =>
  yb_let (up2R Rf_52 t0 6 (some (z + 29))) fun Rf_55 =>
  yb_let (va_up S_51 (z + 32) (11, 0)) fun S_56 =>
  yb_let (va_up Rf_55 (z + 32) (fun _ => none)) fun Rf_57 =>
  yb_let (va_up I_53 (z + 32) (fun _ => 0)) fun I_58 =>
  yb_let (va_up J_54 (z + 32) (fun _ => 0)) fun J_59 =>
  yb_let (f4_init (z + 32) (z + 33) (z + 29) S_56 Rf_57 I_58 J_59) fun q_60 =>
  yb_let q_60.1 fun S_61 =>
  yb_let q_60.2.1 fun Rf_62 =>
  yb_let q_60.2.2.1 fun I_63 =>
  yb_let q_60.2.2.2 fun J_64 =>
  yb_let (up2R Rf_62 t0 7 (some (z + 32))) fun Rf_65 =>
  yb_let (va_up S_61 (z + 47) (14, 0)) fun S_66 =>
  yb_let (va_up Rf_65 (z + 47) (fun _ => none)) fun Rf_67 =>
  yb_let (va_up I_63 (z + 47) (fun _ => 0)) fun I_68 =>
  yb_let (va_up J_64 (z + 47) (fun _ => 0)) fun J_69 =>
  yb_let (f7_init (z + 47) (z + 48) (z + 29) S_66 Rf_67 I_68 J_69) fun q_70 =>
  yb_let q_70.1 fun S_71 =>
  yb_let q_70.2.1 fun Rf_72 =>
  yb_let q_70.2.2.1 fun I_73 =>
  yb_let q_70.2.2.2 fun J_74 =>
  yb_let (up2R Rf_72 t0 8 (some (z + 47))) fun Rf_75 =>
  yb_let (va_up S_71 (z + 51) (16, 0)) fun S_76 =>
  yb_let (va_up Rf_75 (z + 51) (fun _ => none)) fun Rf_77 =>
  yb_let (va_up I_73 (z + 51) (fun _ => 0)) fun I_78 =>
  yb_let (va_up J_74 (z + 51) (fun _ => 0)) fun J_79 =>
  yb_let (f9_init (z + 51) (z + 52) S_76 Rf_77 I_78 J_79) fun q_80 =>
  yb_let q_80.1 fun S_81 =>
  yb_let q_80.2.1 fun Rf_82 =>
  yb_let q_80.2.2.1 fun I_83 =>
  yb_let q_80.2.2.2 fun J_84 =>
  yb_let (up2R Rf_82 t0 9 (some (z + 51))) fun Rf_85 =>
  yb_let (va_up S_81 (z + 60) (17, 0)) fun S_86 =>
  yb_let (va_up Rf_85 (z + 60) (fun _ => none)) fun Rf_87 =>
  yb_let (va_up I_83 (z + 60) (fun _ => 0)) fun I_88 =>
  yb_let (va_up J_84 (z + 60) (fun _ => 0)) fun J_89 =>
  yb_let (f10_init (z + 60) (z + 61) (z + 1) (z + 51) S_86 Rf_87 I_88 J_89) fun q_90 =>
  yb_let q_90.1 fun S_91 =>
  yb_let q_90.2.1 fun Rf_92 =>
  yb_let q_90.2.2.1 fun I_93 =>
  yb_let q_90.2.2.2 fun J_94 =>
  yb_let (up2R Rf_92 t0 10 (some (z + 60))) fun Rf_95 =>
  yb_let (va_up S_91 (z + 61) (13, 0)) fun S_96 =>
  yb_let (va_up Rf_95 (z + 61) (fun _ => none)) fun Rf_97 =>
  yb_let (va_up I_93 (z + 61) (fun _ => 0)) fun I_98 =>
  yb_let (va_up J_94 (z + 61) (fun _ => 0)) fun J_99 =>
  yb_let (f6_init (z + 61) (z + 62) (z + 1) S_96 Rf_97 I_98 J_99) fun q_100 =>
  yb_let q_100.1 fun S_101 =>
  yb_let q_100.2.1 fun Rf_102 =>
  yb_let q_100.2.2.1 fun I_103 =>
  yb_let q_100.2.2.2 fun J_104 =>
  yb_let (up2R Rf_102 t0 11 (some (z + 61))) fun Rf_105 =>
  yb_let (va_up S_101 (z + 63) (7, 0)) fun S_106 =>
  yb_let (va_up Rf_105 (z + 63) (fun _ => none)) fun Rf_107 =>
  yb_let (va_up I_103 (z + 63) (fun _ => 0)) fun I_108 =>
  yb_let (va_up J_104 (z + 63) (fun _ => 0)) fun J_109 =>
  yb_let (f0_init (z + 63) (z + 64) S_106 Rf_107 I_108 J_109) fun q_110 =>
  yb_let q_110.1 fun S_111 =>
  yb_let q_110.2.1 fun Rf_112 =>
  yb_let q_110.2.2.1 fun I_113 =>
  yb_let q_110.2.2.2 fun J_114 =>
  yb_let (up2R Rf_112 t0 12 (some (z + 63))) fun Rf_115 =>
  yb_let (va_up S_111 (z + 73) (0, 7)) fun S_116 =>
  yb_let (va_up Rf_115 (z + 73) (fun _ => none)) fun Rf_117 =>
  yb_let (va_up I_113 (z + 73) (fun _ => 0)) fun I_118 =>
  yb_let (va_up J_114 (z + 73) (fun _ => 0)) fun J_119 =>
  yb_let (up2R Rf_117 t0 13 (some (z + 73))) fun Rf_120 =>
  yb_let (up2 I_118 t0 14 (0 : Int32)) fun I_121 =>
  yb_let (up2 I_121 t0 15 (0 : Int32)) fun I_122 =>
  (S_116, Rf_120, I_122, J_119)
theorem iw_11_15 : IW RX11 15 yX3_init cX3_init 2 1 := ⟨⟨tw_150, tw_151, tw_120, tw_152⟩, rfl, by decide +kernel⟩
theorem nw_11_30 : (Cond.instanceMethod yX8_init ∈ gw ∧ Cond.initialized yX8_init.cls ∈ gw ∧ Cond.code yX8_init cX8_init 1 none ∈ gw) ∧ yX8_init.name = "<init>" ∧ (yX8_init.cls ≠ "java/lang/invoke/MethodHandle" ∧ yX8_init.cls ≠ "java/lang/invoke/VarHandle" ∧ (parseMethodDescriptor yX8_init.desc).map (fun d => d.parameters.length) = some 0) := ⟨⟨tw_181, tw_121, tw_182⟩, rfl, by decide +kernel⟩
theorem nw_11_41 : (Cond.instanceMethod yX2_init ∈ gw ∧ Cond.initialized yX2_init.cls ∈ gw ∧ Cond.code yX2_init cX2_init 1 none ∈ gw) ∧ yX2_init.name = "<init>" ∧ (yX2_init.cls ≠ "java/lang/invoke/MethodHandle" ∧ yX2_init.cls ≠ "java/lang/invoke/VarHandle" ∧ (parseMethodDescriptor yX2_init.desc).map (fun d => d.parameters.length) = some 0) := ⟨⟨tw_383, tw_124, tw_384⟩, rfl, by decide +kernel⟩
theorem iw_11_48 : IW RX11 48 yX1_init cX1_init 3 2 := ⟨⟨tw_401, tw_402, tw_125, tw_403⟩, rfl, by decide +kernel⟩
theorem iw_11_57 : IW RX11 57 yX4_init cX4_init 7 1 := ⟨⟨tw_423, tw_424, tw_126, tw_425⟩, rfl, by decide +kernel⟩
theorem iw_11_66 : IW RX11 66 yX7_init cX7_init 2 1 := ⟨⟨tw_481, tw_482, tw_127, tw_483⟩, rfl, by decide +kernel⟩
theorem nw_11_73 : (Cond.instanceMethod yX9_init ∈ gw ∧ Cond.initialized yX9_init.cls ∈ gw ∧ Cond.code yX9_init cX9_init 1 none ∈ gw) ∧ yX9_init.name = "<init>" ∧ (yX9_init.cls ≠ "java/lang/invoke/MethodHandle" ∧ yX9_init.cls ≠ "java/lang/invoke/VarHandle" ∧ (parseMethodDescriptor yX9_init.desc).map (fun d => d.parameters.length) = some 0) := ⟨⟨tw_187, tw_122, tw_188⟩, rfl, by decide +kernel⟩
theorem iw_11_80 : IW RX11 80 yX10_init cX10_init 3 2 := ⟨⟨tw_518, tw_519, tw_128, tw_520⟩, rfl, by decide +kernel⟩
theorem iw_11_89 : IW RX11 89 yX6_init cX6_init 2 1 := ⟨⟨tw_540, tw_541, tw_129, tw_542⟩, rfl, by decide +kernel⟩
theorem nw_11_98 : (Cond.instanceMethod yX0_init ∈ gw ∧ Cond.initialized yX0_init.cls ∈ gw ∧ Cond.code yX0_init cX0_init 1 none ∈ gw) ∧ yX0_init.name = "<init>" ∧ (yX0_init.cls ≠ "java/lang/invoke/MethodHandle" ∧ yX0_init.cls ≠ "java/lang/invoke/VarHandle" ∧ (parseMethodDescriptor yX0_init.desc).map (fun d => d.parameters.length) = some 0) := ⟨⟨tw_283, tw_123, tw_284⟩, rfl, by decide +kernel⟩
theorem dX11_init_0 : decode cX11_init 0 = .ok (.aload_n 0, 1) := by decide +kernel
theorem dX11_init_1 : decode cX11_init 1 = .ok (.invokespecial 1, 3) := by decide +kernel
theorem dX11_init_4 : decode cX11_init 4 = .ok (.aload_n 0, 1) := by decide +kernel
theorem dX11_init_5 : decode cX11_init 5 = .ok (.sipush 400, 3) := by decide +kernel
theorem dX11_init_8 : decode cX11_init 8 = .ok (.newarray .int, 2) := by decide +kernel
theorem dX11_init_10 : decode cX11_init 10 = .ok (.putfield 9, 3) := by decide +kernel
theorem dX11_init_13 : decode cX11_init 13 = .ok (.aload_n 0, 1) := by decide +kernel
theorem dX11_init_14 : decode cX11_init 14 = .ok (.new 13, 3) := by decide +kernel
theorem dX11_init_17 : decode cX11_init 17 = .ok (.dup, 1) := by decide +kernel
theorem dX11_init_18 : decode cX11_init 18 = .ok (.aload_n 0, 1) := by decide +kernel
theorem dX11_init_19 : decode cX11_init 19 = .ok (.getfield 9, 3) := by decide +kernel
theorem dX11_init_22 : decode cX11_init 22 = .ok (.invokespecial 15, 3) := by decide +kernel
theorem dX11_init_25 : decode cX11_init 25 = .ok (.putfield 18, 3) := by decide +kernel
theorem dX11_init_28 : decode cX11_init 28 = .ok (.aload_n 0, 1) := by decide +kernel
theorem dX11_init_29 : decode cX11_init 29 = .ok (.bipush 6, 2) := by decide +kernel
theorem dX11_init_31 : decode cX11_init 31 = .ok (.anewarray 22, 3) := by decide +kernel
theorem dX11_init_34 : decode cX11_init 34 = .ok (.putfield 24, 3) := by decide +kernel
theorem dX11_init_37 : decode cX11_init 37 = .ok (.aload_n 0, 1) := by decide +kernel
theorem dX11_init_38 : decode cX11_init 38 = .ok (.new 28, 3) := by decide +kernel
theorem dX11_init_41 : decode cX11_init 41 = .ok (.dup, 1) := by decide +kernel
theorem dX11_init_42 : decode cX11_init 42 = .ok (.invokespecial 30, 3) := by decide +kernel
theorem dX11_init_45 : decode cX11_init 45 = .ok (.putfield 31, 3) := by decide +kernel
theorem dX11_init_48 : decode cX11_init 48 = .ok (.aload_n 0, 1) := by decide +kernel
theorem dX11_init_49 : decode cX11_init 49 = .ok (.iconst 4, 1) := by decide +kernel
theorem dX11_init_50 : decode cX11_init 50 = .ok (.anewarray 28, 3) := by decide +kernel
theorem dX11_init_53 : decode cX11_init 53 = .ok (.putfield 35, 3) := by decide +kernel
theorem dX11_init_56 : decode cX11_init 56 = .ok (.aload_n 0, 1) := by decide +kernel
theorem dX11_init_57 : decode cX11_init 57 = .ok (.new 39, 3) := by decide +kernel
theorem dX11_init_60 : decode cX11_init 60 = .ok (.dup, 1) := by decide +kernel
theorem dX11_init_61 : decode cX11_init 61 = .ok (.invokespecial 41, 3) := by decide +kernel
theorem dX11_init_64 : decode cX11_init 64 = .ok (.putfield 42, 3) := by decide +kernel
theorem dX11_init_67 : decode cX11_init 67 = .ok (.aload_n 0, 1) := by decide +kernel
theorem dX11_init_68 : decode cX11_init 68 = .ok (.new 46, 3) := by decide +kernel
theorem dX11_init_71 : decode cX11_init 71 = .ok (.dup, 1) := by decide +kernel
theorem dX11_init_72 : decode cX11_init 72 = .ok (.aload_n 0, 1) := by decide +kernel
theorem dX11_init_73 : decode cX11_init 73 = .ok (.getfield 31, 3) := by decide +kernel
theorem dX11_init_76 : decode cX11_init 76 = .ok (.aload_n 0, 1) := by decide +kernel
theorem dX11_init_77 : decode cX11_init 77 = .ok (.getfield 24, 3) := by decide +kernel
theorem dX11_init_80 : decode cX11_init 80 = .ok (.invokespecial 48, 3) := by decide +kernel
theorem dX11_init_83 : decode cX11_init 83 = .ok (.putfield 51, 3) := by decide +kernel
theorem dX11_init_86 : decode cX11_init 86 = .ok (.aload_n 0, 1) := by decide +kernel
theorem dX11_init_87 : decode cX11_init 87 = .ok (.new 55, 3) := by decide +kernel
theorem dX11_init_90 : decode cX11_init 90 = .ok (.dup, 1) := by decide +kernel
theorem dX11_init_91 : decode cX11_init 91 = .ok (.aload_n 0, 1) := by decide +kernel
theorem dX11_init_92 : decode cX11_init 92 = .ok (.getfield 51, 3) := by decide +kernel
theorem dX11_init_95 : decode cX11_init 95 = .ok (.invokespecial 57, 3) := by decide +kernel
theorem dX11_init_98 : decode cX11_init 98 = .ok (.putfield 60, 3) := by decide +kernel
theorem dX11_init_101 : decode cX11_init 101 = .ok (.aload_n 0, 1) := by decide +kernel
theorem dX11_init_102 : decode cX11_init 102 = .ok (.new 64, 3) := by decide +kernel
theorem dX11_init_105 : decode cX11_init 105 = .ok (.dup, 1) := by decide +kernel
theorem dX11_init_106 : decode cX11_init 106 = .ok (.aload_n 0, 1) := by decide +kernel
theorem dX11_init_107 : decode cX11_init 107 = .ok (.getfield 51, 3) := by decide +kernel
theorem dX11_init_110 : decode cX11_init 110 = .ok (.invokespecial 66, 3) := by decide +kernel
theorem dX11_init_113 : decode cX11_init 113 = .ok (.putfield 67, 3) := by decide +kernel
theorem dX11_init_116 : decode cX11_init 116 = .ok (.aload_n 0, 1) := by decide +kernel
theorem dX11_init_117 : decode cX11_init 117 = .ok (.new 71, 3) := by decide +kernel
theorem dX11_init_120 : decode cX11_init 120 = .ok (.dup, 1) := by decide +kernel
theorem dX11_init_121 : decode cX11_init 121 = .ok (.invokespecial 73, 3) := by decide +kernel
theorem dX11_init_124 : decode cX11_init 124 = .ok (.putfield 74, 3) := by decide +kernel
theorem dX11_init_127 : decode cX11_init 127 = .ok (.aload_n 0, 1) := by decide +kernel
theorem dX11_init_128 : decode cX11_init 128 = .ok (.new 78, 3) := by decide +kernel
theorem dX11_init_131 : decode cX11_init 131 = .ok (.dup, 1) := by decide +kernel
theorem dX11_init_132 : decode cX11_init 132 = .ok (.aload_n 0, 1) := by decide +kernel
theorem dX11_init_133 : decode cX11_init 133 = .ok (.getfield 18, 3) := by decide +kernel
theorem dX11_init_136 : decode cX11_init 136 = .ok (.aload_n 0, 1) := by decide +kernel
theorem dX11_init_137 : decode cX11_init 137 = .ok (.getfield 74, 3) := by decide +kernel
theorem dX11_init_140 : decode cX11_init 140 = .ok (.invokespecial 80, 3) := by decide +kernel
theorem dX11_init_143 : decode cX11_init 143 = .ok (.putfield 83, 3) := by decide +kernel
theorem dX11_init_146 : decode cX11_init 146 = .ok (.aload_n 0, 1) := by decide +kernel
theorem dX11_init_147 : decode cX11_init 147 = .ok (.new 87, 3) := by decide +kernel
theorem dX11_init_150 : decode cX11_init 150 = .ok (.dup, 1) := by decide +kernel
theorem dX11_init_151 : decode cX11_init 151 = .ok (.aload_n 0, 1) := by decide +kernel
theorem dX11_init_152 : decode cX11_init 152 = .ok (.getfield 18, 3) := by decide +kernel
theorem dX11_init_155 : decode cX11_init 155 = .ok (.invokespecial 89, 3) := by decide +kernel
theorem dX11_init_158 : decode cX11_init 158 = .ok (.putfield 92, 3) := by decide +kernel
theorem dX11_init_161 : decode cX11_init 161 = .ok (.aload_n 0, 1) := by decide +kernel
theorem dX11_init_162 : decode cX11_init 162 = .ok (.new 96, 3) := by decide +kernel
theorem dX11_init_165 : decode cX11_init 165 = .ok (.dup, 1) := by decide +kernel
theorem dX11_init_166 : decode cX11_init 166 = .ok (.invokespecial 98, 3) := by decide +kernel
theorem dX11_init_169 : decode cX11_init 169 = .ok (.putfield 99, 3) := by decide +kernel
theorem dX11_init_172 : decode cX11_init 172 = .ok (.aload_n 0, 1) := by decide +kernel
theorem dX11_init_173 : decode cX11_init 173 = .ok (.bipush 7, 2) := by decide +kernel
theorem dX11_init_175 : decode cX11_init 175 = .ok (.newarray .int, 2) := by decide +kernel
theorem dX11_init_177 : decode cX11_init 177 = .ok (.putfield 103, 3) := by decide +kernel
theorem dX11_init_180 : decode cX11_init 180 = .ok (.aload_n 0, 1) := by decide +kernel
theorem dX11_init_181 : decode cX11_init 181 = .ok (.iconst 0, 1) := by decide +kernel
theorem dX11_init_182 : decode cX11_init 182 = .ok (.putfield 106, 3) := by decide +kernel
theorem dX11_init_185 : decode cX11_init 185 = .ok (.aload_n 0, 1) := by decide +kernel
theorem dX11_init_186 : decode cX11_init 186 = .ok (.iconst 0, 1) := by decide +kernel
theorem dX11_init_187 : decode cX11_init 187 = .ok (.putfield 110, 3) := by decide +kernel
theorem dX11_init_190 : decode cX11_init 190 = .ok (.return_, 1) := by decide +kernel
set_option maxHeartbeats 4000000 in
set_option maxRecDepth 100000 in
theorem c11_init (l : Launch) (D : va_G) (cz : Nat → ClassId) (ev : Nat × Nat × Nat) {t0 z n0 : Nat} {L : List Nat} {S : ST} {Rf : RT} {I : IT} {J : JT} {S1 : ST} {Rf1 : RT} {I1 : IT} {J1 : JT} (ha : t0 ∈ L) (hS : S t0 = (18, n0)) (hf : f11_init t0 z S Rf I J = (S1, Rf1, I1, J1)) : MA l D cz ev yX11_init cX11_init 1 3 80 74 2832 [.ref t0] z L S Rf I J S1 Rf1 I1 J1 := by
  unfold f11_init at hf
  refine MA_of (by decide) rfl (Nat.le_of_ble_eq_true rfl) ?_
  intro p e s m args below meth c Q ls X hK hz hin hw hl hfin
  have X : CallFix p m c cX11_init 1 s args gw RX11 := X
  have hx := X.1
  have hb := X.2.1
  have hlt : t0 < z := hz ▸ wx_lt hw ha
  have hw : WX D cz _ (apn L z 0) S Rf s.heap I J s.heap [] := hw
  have hz : s.heap.size = z + 0 := hz
  have hl : lv_has ls 1 [(0, .ref t0)] := hl
  refine lv_aload_n hx hb dX11_init_0 rfl (lv_at hl 0 rfl) ?_
  refine W.objInit hx hb X.2.2.2.1 (X.2.2.2.2 _ tw_145) (X.2.2.2.2 _ tw_146) (X.2.2.2.2 _ tw_147) rfl (by rw [X.2.2.1]; exact hl.1) rfl dX11_init_1 (Nat.le_of_ble_eq_true rfl) (Nat.le_of_ble_eq_true rfl) ?_
  refine lv_aload_n hx hb dX11_init_4 rfl (lv_at hl 0 rfl) ?_
  refine lv_sipush (v := (400 : Int32)) hx hb dX11_init_5 (by decide) ?_
  refine x_newa0 (z := z) X hK hw hz (Or.inr (Nat.le_refl z)) tw_175 (N := 400) (by decide) rfl (by decide) (Nat.le_of_ble_eq_true rfl) (Nat.le_of_ble_eq_true rfl) dX11_init_8 (fun H hw hz => ?_)
  obtain ⟨S_1, eS_1, hf⟩ := yb_let_ex hf
  obtain ⟨Rf_2, eRf_2, hf⟩ := yb_let_ex hf
  obtain ⟨I_3, eI_3, hf⟩ := yb_let_ex hf
  obtain ⟨J_4, eJ_4, hf⟩ := yb_let_ex hf
  have hw : WX D cz _ (apn L z 1) S_1 Rf_2 s.heap I_3 J_4 H [] := yb_w5 (apn_s L z 0) eS_1 eRf_2 eI_3 eJ_4 hw
  have hz : H.size = z + 1 := hz
  have hS : S_1 t0 = (18, n0) := nS_up eS_1 (Nat.ne_of_lt hlt) hS
  refine x_putR X hK hw hz (apn_old ha 1) hS cpX11 0 (by decide) rfl rfl rfl rfl hin rfl tw_559 dX11_init_10 (fun H locs hw hz => ?_)
  obtain ⟨Rf_5, eRf_5, hf⟩ := yb_let_ex hf
  have hw := yb_wR eRf_5 hw
  have hR0 : Rf_5 t0 0 = some z := nR_me eRf_5
  refine lv_aload_n hx hb dX11_init_13 rfl (lv_at hl 0 rfl) ?_
  refine x_new (z := (z + 1)) X hK hw hz (Or.inr (Nat.le_add_right z 1)) cpX3 dfX3 tw_148 tw_149 tw_120 (Nat.le_of_ble_eq_true rfl) (Nat.le_of_ble_eq_true rfl) dX11_init_14 (fun H hw hz => ?_)
  obtain ⟨S_6, eS_6, hf⟩ := yb_let_ex hf
  obtain ⟨Rf_7, eRf_7, hf⟩ := yb_let_ex hf
  obtain ⟨I_8, eI_8, hf⟩ := yb_let_ex hf
  obtain ⟨J_9, eJ_9, hf⟩ := yb_let_ex hf
  have hw : WX D cz _ (apn L z 2) S_6 Rf_7 s.heap I_8 J_9 H locs := yb_w5 (apn_s L z 1) eS_6 eRf_7 eI_8 eJ_9 hw
  have hz : H.size = z + 2 := hz
  have hN1 : S_6 (z + 1) = (10, 0) := nS_me eS_6
  have hS : S_6 t0 = (18, n0) := nS_up eS_6 (Nat.ne_of_lt (Nat.lt_of_lt_of_le hlt (Nat.le_add_right z 1))) hS
  have hR0 : Rf_7 t0 0 = some z := nR_up eRf_7 (Nat.ne_of_lt (Nat.lt_of_lt_of_le hlt (Nat.le_add_right z 1))) hR0
  refine lv_dup hx hb dX11_init_17 rfl ?_
  refine lv_aload_n hx hb dX11_init_18 rfl (lv_at hl 0 rfl) ?_
  refine x_getR X hK hw (apn_old ha 2) hS cpX11 0 (by decide) rfl hR0 tw_559 dX11_init_19 ?_
  obtain ⟨q_10, eq_10, hf⟩ := yb_let_ex hf
  obtain ⟨S_11, eS_11, hf⟩ := yb_let_ex hf
  obtain ⟨Rf_12, eRf_12, hf⟩ := yb_let_ex hf
  obtain ⟨I_13, eI_13, hf⟩ := yb_let_ex hf
  obtain ⟨J_14, eJ_14, hf⟩ := yb_let_ex hf
  refine x_ctor (z := (z + 2)) X hK hw hz (fun q hq => Or.inr (Nat.le_trans (Nat.le_add_right z 2) hq)) (c3_init l D cz ev (show (z + 1) ∈ apn L z 2 from apn_new (j := 1) 2 (by decide)) hN1 eq_10.symm) iw_11_15 ⟨Nat.le_of_ble_eq_true rfl, Nat.le_of_ble_eq_true rfl⟩ rfl rfl (Nat.le_of_ble_eq_true rfl) hl.1 ⟨Nat.le_of_ble_eq_true rfl, Nat.le_of_ble_eq_true rfl⟩ dX11_init_22 (fun H locs hw hz => ?_)
  have hw : WX D cz _ (apn L z 2) S_11 Rf_12 s.heap I_13 J_14 H locs := yb_w5 (apn_apn (L := L) (z := z) (j := 2) 0).symm eS_11 eRf_12 eI_13 eJ_14 hw
  have hz : H.size = z + 2 := hz
  have hS : S_11 t0 = (18, n0) := nS_ca eS_11 eq_10 (fr3 _ (Nat.lt_of_lt_of_le hlt (Nat.le_add_right z 2))).1 hS
  have hR0 : Rf_12 t0 0 = some z := nR_ca eRf_12 eq_10 ((fr3 _ (Nat.lt_of_lt_of_le hlt (Nat.le_add_right z 2))).2 (Nat.ne_of_lt (Nat.lt_of_lt_of_le hlt (Nat.le_add_right z 1)))).1 hR0
  refine x_putR X hK hw hz (apn_old ha 2) hS cpX11 1 (by decide) rfl rfl rfl rfl hin rfl tw_560 dX11_init_25 (fun H locs hw hz => ?_)
  obtain ⟨Rf_15, eRf_15, hf⟩ := yb_let_ex hf
  have hw := yb_wR eRf_15 hw
  have hR0 : Rf_15 t0 0 = some z := nR_pu eRf_15 (by decide) hR0
  have hR1 : Rf_15 t0 1 = some (z + 1) := nR_me eRf_15
  refine lv_aload_n hx hb dX11_init_28 rfl (lv_at hl 0 rfl) ?_
  refine lv_bipush (v := (6 : Int32)) hx hb dX11_init_29 (by decide) ?_
  refine x_anew4 (z := (z + 2)) X hK hw hz (Or.inr (Nat.le_add_right z 2)) tw_176 (N := 6) (by decide) rfl (by decide) (Nat.le_of_ble_eq_true rfl) (Nat.le_of_ble_eq_true rfl) dX11_init_31 (fun H hw hz => ?_)
  obtain ⟨S_16, eS_16, hf⟩ := yb_let_ex hf
  obtain ⟨Rf_17, eRf_17, hf⟩ := yb_let_ex hf
  obtain ⟨I_18, eI_18, hf⟩ := yb_let_ex hf
  obtain ⟨J_19, eJ_19, hf⟩ := yb_let_ex hf
  have hw : WX D cz _ (apn L z 3) S_16 Rf_17 s.heap I_18 J_19 H locs := yb_w5 (apn_s L z 2) eS_16 eRf_17 eI_18 eJ_19 hw
  have hz : H.size = z + 3 := hz
  have hS : S_16 t0 = (18, n0) := nS_up eS_16 (Nat.ne_of_lt (Nat.lt_of_lt_of_le hlt (Nat.le_add_right z 2))) hS
  have hR0 : Rf_17 t0 0 = some z := nR_up eRf_17 (Nat.ne_of_lt (Nat.lt_of_lt_of_le hlt (Nat.le_add_right z 2))) hR0
  have hR1 : Rf_17 t0 1 = some (z + 1) := nR_up eRf_17 (Nat.ne_of_lt (Nat.lt_of_lt_of_le hlt (Nat.le_add_right z 2))) hR1
  refine x_putR X hK hw hz (apn_old ha 3) hS cpX11 2 (by decide) rfl rfl rfl rfl hin rfl tw_561 dX11_init_34 (fun H locs hw hz => ?_)
  obtain ⟨Rf_20, eRf_20, hf⟩ := yb_let_ex hf
  have hw := yb_wR eRf_20 hw
  have hR0 : Rf_20 t0 0 = some z := nR_pu eRf_20 (by decide) hR0
  have hR1 : Rf_20 t0 1 = some (z + 1) := nR_pu eRf_20 (by decide) hR1
  have hR2 : Rf_20 t0 2 = some (z + 2) := nR_me eRf_20
  refine lv_aload_n hx hb dX11_init_37 rfl (lv_at hl 0 rfl) ?_
  refine x_new (z := (z + 3)) X hK hw hz (Or.inr (Nat.le_add_right z 3)) cpX8 dfX8 tw_178 tw_179 tw_121 (Nat.le_of_ble_eq_true rfl) (Nat.le_of_ble_eq_true rfl) dX11_init_38 (fun H hw hz => ?_)
  obtain ⟨S_21, eS_21, hf⟩ := yb_let_ex hf
  obtain ⟨Rf_22, eRf_22, hf⟩ := yb_let_ex hf
  obtain ⟨I_23, eI_23, hf⟩ := yb_let_ex hf
  obtain ⟨J_24, eJ_24, hf⟩ := yb_let_ex hf
  have hw : WX D cz _ (apn L z 4) S_21 Rf_22 s.heap I_23 J_24 H locs := yb_w5 (apn_s L z 3) eS_21 eRf_22 eI_23 eJ_24 hw
  have hz : H.size = z + 4 := hz
  have hN3 : S_21 (z + 3) = (15, 0) := nS_me eS_21
  have hS : S_21 t0 = (18, n0) := nS_up eS_21 (Nat.ne_of_lt (Nat.lt_of_lt_of_le hlt (Nat.le_add_right z 3))) hS
  have hR0 : Rf_22 t0 0 = some z := nR_up eRf_22 (Nat.ne_of_lt (Nat.lt_of_lt_of_le hlt (Nat.le_add_right z 3))) hR0
  have hR1 : Rf_22 t0 1 = some (z + 1) := nR_up eRf_22 (Nat.ne_of_lt (Nat.lt_of_lt_of_le hlt (Nat.le_add_right z 3))) hR1
  have hR2 : Rf_22 t0 2 = some (z + 2) := nR_up eRf_22 (Nat.ne_of_lt (Nat.lt_of_lt_of_le hlt (Nat.le_add_right z 3))) hR2
  refine lv_dup hx hb dX11_init_41 rfl ?_
  obtain ⟨q_25, eq_25, hf⟩ := yb_let_ex hf
  obtain ⟨S_26, eS_26, hf⟩ := yb_let_ex hf
  obtain ⟨Rf_27, eRf_27, hf⟩ := yb_let_ex hf
  obtain ⟨I_28, eI_28, hf⟩ := yb_let_ex hf
  obtain ⟨J_29, eJ_29, hf⟩ := yb_let_ex hf
  refine x_ctorN (z := (z + 4)) X hK hw hz (fun q hq => Or.inr (Nat.le_trans (Nat.le_add_right z 4) hq)) (c8_init l D cz ev (show (z + 3) ∈ apn L z 4 from apn_new (j := 3) 4 (by decide)) hN3 eq_25.symm) ⟨hK.2.1.1.1, nw_11_30⟩ ⟨Nat.le_of_ble_eq_true rfl, Nat.le_of_ble_eq_true rfl⟩ rfl rfl (Nat.le_of_ble_eq_true rfl) hl.1 ⟨Nat.le_of_ble_eq_true rfl, Nat.le_of_ble_eq_true rfl⟩ dX11_init_42 (fun H locs hw hz => ?_)
  have hw : WX D cz _ (apn L z 26) S_26 Rf_27 s.heap I_28 J_29 H locs := yb_w5 (apn_apn (L := L) (z := z) (j := 4) 22).symm eS_26 eRf_27 eI_28 eJ_29 hw
  have hz : H.size = z + 26 := hz
  have hS : S_26 t0 = (18, n0) := nS_ca eS_26 eq_25 (fr8 _ (Nat.lt_of_lt_of_le hlt (Nat.le_add_right z 4))).1 hS
  have hR0 : Rf_27 t0 0 = some z := nR_ca eRf_27 eq_25 ((fr8 _ (Nat.lt_of_lt_of_le hlt (Nat.le_add_right z 4))).2 (Nat.ne_of_lt (Nat.lt_of_lt_of_le hlt (Nat.le_add_right z 3)))).1 hR0
  have hR1 : Rf_27 t0 1 = some (z + 1) := nR_ca eRf_27 eq_25 ((fr8 _ (Nat.lt_of_lt_of_le hlt (Nat.le_add_right z 4))).2 (Nat.ne_of_lt (Nat.lt_of_lt_of_le hlt (Nat.le_add_right z 3)))).1 hR1
  have hR2 : Rf_27 t0 2 = some (z + 2) := nR_ca eRf_27 eq_25 ((fr8 _ (Nat.lt_of_lt_of_le hlt (Nat.le_add_right z 4))).2 (Nat.ne_of_lt (Nat.lt_of_lt_of_le hlt (Nat.le_add_right z 3)))).1 hR2
  refine x_putR X hK hw hz (apn_old ha 26) hS cpX11 3 (by decide) rfl rfl rfl rfl hin rfl tw_562 dX11_init_45 (fun H locs hw hz => ?_)
  obtain ⟨Rf_30, eRf_30, hf⟩ := yb_let_ex hf
  have hw := yb_wR eRf_30 hw
  have hR0 : Rf_30 t0 0 = some z := nR_pu eRf_30 (by decide) hR0
  have hR1 : Rf_30 t0 1 = some (z + 1) := nR_pu eRf_30 (by decide) hR1
  have hR2 : Rf_30 t0 2 = some (z + 2) := nR_pu eRf_30 (by decide) hR2
  have hR3 : Rf_30 t0 3 = some (z + 3) := nR_me eRf_30
  refine lv_aload_n hx hb dX11_init_48 rfl (lv_at hl 0 rfl) ?_
  refine lv_iconst (v := (4 : Int32)) hx hb dX11_init_49 (by decide) ?_
  refine x_anew5 (z := (z + 26)) X hK hw hz (Or.inr (Nat.le_add_right z 26)) tw_178 (N := 4) (by decide) rfl (by decide) (Nat.le_of_ble_eq_true rfl) (Nat.le_of_ble_eq_true rfl) dX11_init_50 (fun H hw hz => ?_)
  obtain ⟨S_31, eS_31, hf⟩ := yb_let_ex hf
  obtain ⟨Rf_32, eRf_32, hf⟩ := yb_let_ex hf
  obtain ⟨I_33, eI_33, hf⟩ := yb_let_ex hf
  obtain ⟨J_34, eJ_34, hf⟩ := yb_let_ex hf
  have hw : WX D cz _ (apn L z 27) S_31 Rf_32 s.heap I_33 J_34 H locs := yb_w5 (apn_s L z 26) eS_31 eRf_32 eI_33 eJ_34 hw
  have hz : H.size = z + 27 := hz
  have hS : S_31 t0 = (18, n0) := nS_up eS_31 (Nat.ne_of_lt (Nat.lt_of_lt_of_le hlt (Nat.le_add_right z 26))) hS
  have hR0 : Rf_32 t0 0 = some z := nR_up eRf_32 (Nat.ne_of_lt (Nat.lt_of_lt_of_le hlt (Nat.le_add_right z 26))) hR0
  have hR1 : Rf_32 t0 1 = some (z + 1) := nR_up eRf_32 (Nat.ne_of_lt (Nat.lt_of_lt_of_le hlt (Nat.le_add_right z 26))) hR1
  have hR2 : Rf_32 t0 2 = some (z + 2) := nR_up eRf_32 (Nat.ne_of_lt (Nat.lt_of_lt_of_le hlt (Nat.le_add_right z 26))) hR2
  have hR3 : Rf_32 t0 3 = some (z + 3) := nR_up eRf_32 (Nat.ne_of_lt (Nat.lt_of_lt_of_le hlt (Nat.le_add_right z 26))) hR3
  refine x_putR X hK hw hz (apn_old ha 27) hS cpX11 4 (by decide) rfl rfl rfl rfl hin rfl tw_563 dX11_init_53 (fun H locs hw hz => ?_)
  obtain ⟨Rf_35, eRf_35, hf⟩ := yb_let_ex hf
  have hw := yb_wR eRf_35 hw
  have hR0 : Rf_35 t0 0 = some z := nR_pu eRf_35 (by decide) hR0
  have hR1 : Rf_35 t0 1 = some (z + 1) := nR_pu eRf_35 (by decide) hR1
  have hR2 : Rf_35 t0 2 = some (z + 2) := nR_pu eRf_35 (by decide) hR2
  have hR3 : Rf_35 t0 3 = some (z + 3) := nR_pu eRf_35 (by decide) hR3
  refine lv_aload_n hx hb dX11_init_56 rfl (lv_at hl 0 rfl) ?_
  refine x_new (z := (z + 27)) X hK hw hz (Or.inr (Nat.le_add_right z 27)) cpX2 dfX2 tw_380 tw_381 tw_124 (Nat.le_of_ble_eq_true rfl) (Nat.le_of_ble_eq_true rfl) dX11_init_57 (fun H hw hz => ?_)
  obtain ⟨S_36, eS_36, hf⟩ := yb_let_ex hf
  obtain ⟨Rf_37, eRf_37, hf⟩ := yb_let_ex hf
  obtain ⟨I_38, eI_38, hf⟩ := yb_let_ex hf
  obtain ⟨J_39, eJ_39, hf⟩ := yb_let_ex hf
  have hw : WX D cz _ (apn L z 28) S_36 Rf_37 s.heap I_38 J_39 H locs := yb_w5 (apn_s L z 27) eS_36 eRf_37 eI_38 eJ_39 hw
  have hz : H.size = z + 28 := hz
  have hN27 : S_36 (z + 27) = (9, 0) := nS_me eS_36
  have hS : S_36 t0 = (18, n0) := nS_up eS_36 (Nat.ne_of_lt (Nat.lt_of_lt_of_le hlt (Nat.le_add_right z 27))) hS
  have hR0 : Rf_37 t0 0 = some z := nR_up eRf_37 (Nat.ne_of_lt (Nat.lt_of_lt_of_le hlt (Nat.le_add_right z 27))) hR0
  have hR1 : Rf_37 t0 1 = some (z + 1) := nR_up eRf_37 (Nat.ne_of_lt (Nat.lt_of_lt_of_le hlt (Nat.le_add_right z 27))) hR1
  have hR2 : Rf_37 t0 2 = some (z + 2) := nR_up eRf_37 (Nat.ne_of_lt (Nat.lt_of_lt_of_le hlt (Nat.le_add_right z 27))) hR2
  have hR3 : Rf_37 t0 3 = some (z + 3) := nR_up eRf_37 (Nat.ne_of_lt (Nat.lt_of_lt_of_le hlt (Nat.le_add_right z 27))) hR3
  refine lv_dup hx hb dX11_init_60 rfl ?_
  obtain ⟨q_40, eq_40, hf⟩ := yb_let_ex hf
  obtain ⟨S_41, eS_41, hf⟩ := yb_let_ex hf
  obtain ⟨Rf_42, eRf_42, hf⟩ := yb_let_ex hf
  obtain ⟨I_43, eI_43, hf⟩ := yb_let_ex hf
  obtain ⟨J_44, eJ_44, hf⟩ := yb_let_ex hf
  refine x_ctorN (z := (z + 28)) X hK hw hz (fun q hq => Or.inr (Nat.le_trans (Nat.le_add_right z 28) hq)) (c2_init l D cz ev (show (z + 27) ∈ apn L z 28 from apn_new (j := 27) 28 (by decide)) hN27 eq_40.symm) ⟨hK.2.1.1.2.2.2.1, nw_11_41⟩ ⟨Nat.le_of_ble_eq_true rfl, Nat.le_of_ble_eq_true rfl⟩ rfl rfl (Nat.le_of_ble_eq_true rfl) hl.1 ⟨Nat.le_of_ble_eq_true rfl, Nat.le_of_ble_eq_true rfl⟩ dX11_init_61 (fun H locs hw hz => ?_)
  have hw : WX D cz _ (apn L z 29) S_41 Rf_42 s.heap I_43 J_44 H locs := yb_w5 (apn_apn (L := L) (z := z) (j := 28) 1).symm eS_41 eRf_42 eI_43 eJ_44 hw
  have hz : H.size = z + 29 := hz
  have hS : S_41 t0 = (18, n0) := nS_ca eS_41 eq_40 (fr2 _ (Nat.lt_of_lt_of_le hlt (Nat.le_add_right z 28))).1 hS
  have hR0 : Rf_42 t0 0 = some z := nR_ca eRf_42 eq_40 ((fr2 _ (Nat.lt_of_lt_of_le hlt (Nat.le_add_right z 28))).2 (Nat.ne_of_lt (Nat.lt_of_lt_of_le hlt (Nat.le_add_right z 27)))).1 hR0
  have hR1 : Rf_42 t0 1 = some (z + 1) := nR_ca eRf_42 eq_40 ((fr2 _ (Nat.lt_of_lt_of_le hlt (Nat.le_add_right z 28))).2 (Nat.ne_of_lt (Nat.lt_of_lt_of_le hlt (Nat.le_add_right z 27)))).1 hR1
  have hR2 : Rf_42 t0 2 = some (z + 2) := nR_ca eRf_42 eq_40 ((fr2 _ (Nat.lt_of_lt_of_le hlt (Nat.le_add_right z 28))).2 (Nat.ne_of_lt (Nat.lt_of_lt_of_le hlt (Nat.le_add_right z 27)))).1 hR2
  have hR3 : Rf_42 t0 3 = some (z + 3) := nR_ca eRf_42 eq_40 ((fr2 _ (Nat.lt_of_lt_of_le hlt (Nat.le_add_right z 28))).2 (Nat.ne_of_lt (Nat.lt_of_lt_of_le hlt (Nat.le_add_right z 27)))).1 hR3
  refine x_putR X hK hw hz (apn_old ha 29) hS cpX11 5 (by decide) rfl rfl rfl rfl hin rfl tw_564 dX11_init_64 (fun H locs hw hz => ?_)
  obtain ⟨Rf_45, eRf_45, hf⟩ := yb_let_ex hf
  have hw := yb_wR eRf_45 hw
  have hR0 : Rf_45 t0 0 = some z := nR_pu eRf_45 (by decide) hR0
  have hR1 : Rf_45 t0 1 = some (z + 1) := nR_pu eRf_45 (by decide) hR1
  have hR2 : Rf_45 t0 2 = some (z + 2) := nR_pu eRf_45 (by decide) hR2
  have hR3 : Rf_45 t0 3 = some (z + 3) := nR_pu eRf_45 (by decide) hR3
  refine lv_aload_n hx hb dX11_init_67 rfl (lv_at hl 0 rfl) ?_
  refine x_new (z := (z + 29)) X hK hw hz (Or.inr (Nat.le_add_right z 29)) cpX1 dfX1 tw_399 tw_400 tw_125 (Nat.le_of_ble_eq_true rfl) (Nat.le_of_ble_eq_true rfl) dX11_init_68 (fun H hw hz => ?_)
  obtain ⟨S_46, eS_46, hf⟩ := yb_let_ex hf
  obtain ⟨Rf_47, eRf_47, hf⟩ := yb_let_ex hf
  obtain ⟨I_48, eI_48, hf⟩ := yb_let_ex hf
  obtain ⟨J_49, eJ_49, hf⟩ := yb_let_ex hf
  have hw : WX D cz _ (apn L z 30) S_46 Rf_47 s.heap I_48 J_49 H locs := yb_w5 (apn_s L z 29) eS_46 eRf_47 eI_48 eJ_49 hw
  have hz : H.size = z + 30 := hz
  have hN29 : S_46 (z + 29) = (8, 0) := nS_me eS_46
  have hS : S_46 t0 = (18, n0) := nS_up eS_46 (Nat.ne_of_lt (Nat.lt_of_lt_of_le hlt (Nat.le_add_right z 29))) hS
  have hR0 : Rf_47 t0 0 = some z := nR_up eRf_47 (Nat.ne_of_lt (Nat.lt_of_lt_of_le hlt (Nat.le_add_right z 29))) hR0
  have hR1 : Rf_47 t0 1 = some (z + 1) := nR_up eRf_47 (Nat.ne_of_lt (Nat.lt_of_lt_of_le hlt (Nat.le_add_right z 29))) hR1
  have hR2 : Rf_47 t0 2 = some (z + 2) := nR_up eRf_47 (Nat.ne_of_lt (Nat.lt_of_lt_of_le hlt (Nat.le_add_right z 29))) hR2
  have hR3 : Rf_47 t0 3 = some (z + 3) := nR_up eRf_47 (Nat.ne_of_lt (Nat.lt_of_lt_of_le hlt (Nat.le_add_right z 29))) hR3
  refine lv_dup hx hb dX11_init_71 rfl ?_
  refine lv_aload_n hx hb dX11_init_72 rfl (lv_at hl 0 rfl) ?_
  refine x_getR X hK hw (apn_old ha 30) hS cpX11 3 (by decide) rfl hR3 tw_562 dX11_init_73 ?_
  refine lv_aload_n hx hb dX11_init_76 rfl (lv_at hl 0 rfl) ?_
  refine x_getR X hK hw (apn_old ha 30) hS cpX11 2 (by decide) rfl hR2 tw_561 dX11_init_77 ?_
  obtain ⟨q_50, eq_50, hf⟩ := yb_let_ex hf
  obtain ⟨S_51, eS_51, hf⟩ := yb_let_ex hf
  obtain ⟨Rf_52, eRf_52, hf⟩ := yb_let_ex hf
  obtain ⟨I_53, eI_53, hf⟩ := yb_let_ex hf
  obtain ⟨J_54, eJ_54, hf⟩ := yb_let_ex hf
  refine x_ctor (z := (z + 30)) X hK hw hz (fun q hq => Or.inr (Nat.le_trans (Nat.le_add_right z 30) hq)) (c1_init l D cz ev (show (z + 29) ∈ apn L z 30 from apn_new (j := 29) 30 (by decide)) hN29 eq_50.symm) iw_11_48 ⟨Nat.le_of_ble_eq_true rfl, Nat.le_of_ble_eq_true rfl⟩ rfl rfl (Nat.le_of_ble_eq_true rfl) hl.1 ⟨Nat.le_of_ble_eq_true rfl, Nat.le_of_ble_eq_true rfl⟩ dX11_init_80 (fun H locs hw hz => ?_)
  have hw : WX D cz _ (apn L z 32) S_51 Rf_52 s.heap I_53 J_54 H locs := yb_w5 (apn_apn (L := L) (z := z) (j := 30) 2).symm eS_51 eRf_52 eI_53 eJ_54 hw
  have hz : H.size = z + 32 := hz
  have hS : S_51 t0 = (18, n0) := nS_ca eS_51 eq_50 (fr1 _ (Nat.lt_of_lt_of_le hlt (Nat.le_add_right z 30))).1 hS
  have hR0 : Rf_52 t0 0 = some z := nR_ca eRf_52 eq_50 ((fr1 _ (Nat.lt_of_lt_of_le hlt (Nat.le_add_right z 30))).2 (Nat.ne_of_lt (Nat.lt_of_lt_of_le hlt (Nat.le_add_right z 29)))).1 hR0
  have hR1 : Rf_52 t0 1 = some (z + 1) := nR_ca eRf_52 eq_50 ((fr1 _ (Nat.lt_of_lt_of_le hlt (Nat.le_add_right z 30))).2 (Nat.ne_of_lt (Nat.lt_of_lt_of_le hlt (Nat.le_add_right z 29)))).1 hR1
  have hR2 : Rf_52 t0 2 = some (z + 2) := nR_ca eRf_52 eq_50 ((fr1 _ (Nat.lt_of_lt_of_le hlt (Nat.le_add_right z 30))).2 (Nat.ne_of_lt (Nat.lt_of_lt_of_le hlt (Nat.le_add_right z 29)))).1 hR2
  have hR3 : Rf_52 t0 3 = some (z + 3) := nR_ca eRf_52 eq_50 ((fr1 _ (Nat.lt_of_lt_of_le hlt (Nat.le_add_right z 30))).2 (Nat.ne_of_lt (Nat.lt_of_lt_of_le hlt (Nat.le_add_right z 29)))).1 hR3
  refine x_putR X hK hw hz (apn_old ha 32) hS cpX11 6 (by decide) rfl rfl rfl rfl hin rfl tw_565 dX11_init_83 (fun H locs hw hz => ?_)
  obtain ⟨Rf_55, eRf_55, hf⟩ := yb_let_ex hf
  have hw := yb_wR eRf_55 hw
  have hR0 : Rf_55 t0 0 = some z := nR_pu eRf_55 (by decide) hR0
  have hR1 : Rf_55 t0 1 = some (z + 1) := nR_pu eRf_55 (by decide) hR1
  have hR2 : Rf_55 t0 2 = some (z + 2) := nR_pu eRf_55 (by decide) hR2
  have hR3 : Rf_55 t0 3 = some (z + 3) := nR_pu eRf_55 (by decide) hR3
  have hR6 : Rf_55 t0 6 = some (z + 29) := nR_me eRf_55
  refine lv_aload_n hx hb dX11_init_86 rfl (lv_at hl 0 rfl) ?_
  refine x_new (z := (z + 32)) X hK hw hz (Or.inr (Nat.le_add_right z 32)) cpX4 dfX4 tw_421 tw_422 tw_126 (Nat.le_of_ble_eq_true rfl) (Nat.le_of_ble_eq_true rfl) dX11_init_87 (fun H hw hz => ?_)
  obtain ⟨S_56, eS_56, hf⟩ := yb_let_ex hf
  obtain ⟨Rf_57, eRf_57, hf⟩ := yb_let_ex hf
  obtain ⟨I_58, eI_58, hf⟩ := yb_let_ex hf
  obtain ⟨J_59, eJ_59, hf⟩ := yb_let_ex hf
  have hw : WX D cz _ (apn L z 33) S_56 Rf_57 s.heap I_58 J_59 H locs := yb_w5 (apn_s L z 32) eS_56 eRf_57 eI_58 eJ_59 hw
  have hz : H.size = z + 33 := hz
  have hN32 : S_56 (z + 32) = (11, 0) := nS_me eS_56
  have hS : S_56 t0 = (18, n0) := nS_up eS_56 (Nat.ne_of_lt (Nat.lt_of_lt_of_le hlt (Nat.le_add_right z 32))) hS
  have hR0 : Rf_57 t0 0 = some z := nR_up eRf_57 (Nat.ne_of_lt (Nat.lt_of_lt_of_le hlt (Nat.le_add_right z 32))) hR0
  have hR1 : Rf_57 t0 1 = some (z + 1) := nR_up eRf_57 (Nat.ne_of_lt (Nat.lt_of_lt_of_le hlt (Nat.le_add_right z 32))) hR1
  have hR2 : Rf_57 t0 2 = some (z + 2) := nR_up eRf_57 (Nat.ne_of_lt (Nat.lt_of_lt_of_le hlt (Nat.le_add_right z 32))) hR2
  have hR3 : Rf_57 t0 3 = some (z + 3) := nR_up eRf_57 (Nat.ne_of_lt (Nat.lt_of_lt_of_le hlt (Nat.le_add_right z 32))) hR3
  have hR6 : Rf_57 t0 6 = some (z + 29) := nR_up eRf_57 (Nat.ne_of_lt (Nat.lt_of_lt_of_le hlt (Nat.le_add_right z 32))) hR6
  refine lv_dup hx hb dX11_init_90 rfl ?_
  refine lv_aload_n hx hb dX11_init_91 rfl (lv_at hl 0 rfl) ?_
  refine x_getR X hK hw (apn_old ha 33) hS cpX11 6 (by decide) rfl hR6 tw_565 dX11_init_92 ?_
  obtain ⟨q_60, eq_60, hf⟩ := yb_let_ex hf
  obtain ⟨S_61, eS_61, hf⟩ := yb_let_ex hf
  obtain ⟨Rf_62, eRf_62, hf⟩ := yb_let_ex hf
  obtain ⟨I_63, eI_63, hf⟩ := yb_let_ex hf
  obtain ⟨J_64, eJ_64, hf⟩ := yb_let_ex hf
  refine x_ctor (z := (z + 33)) X hK hw hz (fun q hq => Or.inr (Nat.le_trans (Nat.le_add_right z 33) hq)) (c4_init l D cz ev (show (z + 32) ∈ apn L z 33 from apn_new (j := 32) 33 (by decide)) hN32 eq_60.symm) iw_11_57 ⟨Nat.le_of_ble_eq_true rfl, Nat.le_of_ble_eq_true rfl⟩ rfl rfl (Nat.le_of_ble_eq_true rfl) hl.1 ⟨Nat.le_of_ble_eq_true rfl, Nat.le_of_ble_eq_true rfl⟩ dX11_init_95 (fun H locs hw hz => ?_)
  have hw : WX D cz _ (apn L z 47) S_61 Rf_62 s.heap I_63 J_64 H locs := yb_w5 (apn_apn (L := L) (z := z) (j := 33) 14).symm eS_61 eRf_62 eI_63 eJ_64 hw
  have hz : H.size = z + 47 := hz
  have hS : S_61 t0 = (18, n0) := nS_ca eS_61 eq_60 (fr4 _ (Nat.lt_of_lt_of_le hlt (Nat.le_add_right z 33))).1 hS
  have hR0 : Rf_62 t0 0 = some z := nR_ca eRf_62 eq_60 ((fr4 _ (Nat.lt_of_lt_of_le hlt (Nat.le_add_right z 33))).2 (Nat.ne_of_lt (Nat.lt_of_lt_of_le hlt (Nat.le_add_right z 32)))).1 hR0
  have hR1 : Rf_62 t0 1 = some (z + 1) := nR_ca eRf_62 eq_60 ((fr4 _ (Nat.lt_of_lt_of_le hlt (Nat.le_add_right z 33))).2 (Nat.ne_of_lt (Nat.lt_of_lt_of_le hlt (Nat.le_add_right z 32)))).1 hR1
  have hR2 : Rf_62 t0 2 = some (z + 2) := nR_ca eRf_62 eq_60 ((fr4 _ (Nat.lt_of_lt_of_le hlt (Nat.le_add_right z 33))).2 (Nat.ne_of_lt (Nat.lt_of_lt_of_le hlt (Nat.le_add_right z 32)))).1 hR2
  have hR3 : Rf_62 t0 3 = some (z + 3) := nR_ca eRf_62 eq_60 ((fr4 _ (Nat.lt_of_lt_of_le hlt (Nat.le_add_right z 33))).2 (Nat.ne_of_lt (Nat.lt_of_lt_of_le hlt (Nat.le_add_right z 32)))).1 hR3
  have hR6 : Rf_62 t0 6 = some (z + 29) := nR_ca eRf_62 eq_60 ((fr4 _ (Nat.lt_of_lt_of_le hlt (Nat.le_add_right z 33))).2 (Nat.ne_of_lt (Nat.lt_of_lt_of_le hlt (Nat.le_add_right z 32)))).1 hR6
  refine x_putR X hK hw hz (apn_old ha 47) hS cpX11 7 (by decide) rfl rfl rfl rfl hin rfl tw_566 dX11_init_98 (fun H locs hw hz => ?_)
  obtain ⟨Rf_65, eRf_65, hf⟩ := yb_let_ex hf
  have hw := yb_wR eRf_65 hw
  have hR0 : Rf_65 t0 0 = some z := nR_pu eRf_65 (by decide) hR0
  have hR1 : Rf_65 t0 1 = some (z + 1) := nR_pu eRf_65 (by decide) hR1
  have hR2 : Rf_65 t0 2 = some (z + 2) := nR_pu eRf_65 (by decide) hR2
  have hR3 : Rf_65 t0 3 = some (z + 3) := nR_pu eRf_65 (by decide) hR3
  have hR6 : Rf_65 t0 6 = some (z + 29) := nR_pu eRf_65 (by decide) hR6
  refine lv_aload_n hx hb dX11_init_101 rfl (lv_at hl 0 rfl) ?_
  refine x_new (z := (z + 47)) X hK hw hz (Or.inr (Nat.le_add_right z 47)) cpX7 dfX7 tw_479 tw_480 tw_127 (Nat.le_of_ble_eq_true rfl) (Nat.le_of_ble_eq_true rfl) dX11_init_102 (fun H hw hz => ?_)
  obtain ⟨S_66, eS_66, hf⟩ := yb_let_ex hf
  obtain ⟨Rf_67, eRf_67, hf⟩ := yb_let_ex hf
  obtain ⟨I_68, eI_68, hf⟩ := yb_let_ex hf
  obtain ⟨J_69, eJ_69, hf⟩ := yb_let_ex hf
  have hw : WX D cz _ (apn L z 48) S_66 Rf_67 s.heap I_68 J_69 H locs := yb_w5 (apn_s L z 47) eS_66 eRf_67 eI_68 eJ_69 hw
  have hz : H.size = z + 48 := hz
  have hN47 : S_66 (z + 47) = (14, 0) := nS_me eS_66
  have hS : S_66 t0 = (18, n0) := nS_up eS_66 (Nat.ne_of_lt (Nat.lt_of_lt_of_le hlt (Nat.le_add_right z 47))) hS
  have hR0 : Rf_67 t0 0 = some z := nR_up eRf_67 (Nat.ne_of_lt (Nat.lt_of_lt_of_le hlt (Nat.le_add_right z 47))) hR0
  have hR1 : Rf_67 t0 1 = some (z + 1) := nR_up eRf_67 (Nat.ne_of_lt (Nat.lt_of_lt_of_le hlt (Nat.le_add_right z 47))) hR1
  have hR2 : Rf_67 t0 2 = some (z + 2) := nR_up eRf_67 (Nat.ne_of_lt (Nat.lt_of_lt_of_le hlt (Nat.le_add_right z 47))) hR2
  have hR3 : Rf_67 t0 3 = some (z + 3) := nR_up eRf_67 (Nat.ne_of_lt (Nat.lt_of_lt_of_le hlt (Nat.le_add_right z 47))) hR3
  have hR6 : Rf_67 t0 6 = some (z + 29) := nR_up eRf_67 (Nat.ne_of_lt (Nat.lt_of_lt_of_le hlt (Nat.le_add_right z 47))) hR6
  refine lv_dup hx hb dX11_init_105 rfl ?_
  refine lv_aload_n hx hb dX11_init_106 rfl (lv_at hl 0 rfl) ?_
  refine x_getR X hK hw (apn_old ha 48) hS cpX11 6 (by decide) rfl hR6 tw_565 dX11_init_107 ?_
  obtain ⟨q_70, eq_70, hf⟩ := yb_let_ex hf
  obtain ⟨S_71, eS_71, hf⟩ := yb_let_ex hf
  obtain ⟨Rf_72, eRf_72, hf⟩ := yb_let_ex hf
  obtain ⟨I_73, eI_73, hf⟩ := yb_let_ex hf
  obtain ⟨J_74, eJ_74, hf⟩ := yb_let_ex hf
  refine x_ctor (z := (z + 48)) X hK hw hz (fun q hq => Or.inr (Nat.le_trans (Nat.le_add_right z 48) hq)) (c7_init l D cz ev (show (z + 47) ∈ apn L z 48 from apn_new (j := 47) 48 (by decide)) hN47 eq_70.symm) iw_11_66 ⟨Nat.le_of_ble_eq_true rfl, Nat.le_of_ble_eq_true rfl⟩ rfl rfl (Nat.le_of_ble_eq_true rfl) hl.1 ⟨Nat.le_of_ble_eq_true rfl, Nat.le_of_ble_eq_true rfl⟩ dX11_init_110 (fun H locs hw hz => ?_)
  have hw : WX D cz _ (apn L z 51) S_71 Rf_72 s.heap I_73 J_74 H locs := yb_w5 (apn_apn (L := L) (z := z) (j := 48) 3).symm eS_71 eRf_72 eI_73 eJ_74 hw
  have hz : H.size = z + 51 := hz
  have hS : S_71 t0 = (18, n0) := nS_ca eS_71 eq_70 (fr7 _ (Nat.lt_of_lt_of_le hlt (Nat.le_add_right z 48))).1 hS
  have hR0 : Rf_72 t0 0 = some z := nR_ca eRf_72 eq_70 ((fr7 _ (Nat.lt_of_lt_of_le hlt (Nat.le_add_right z 48))).2 (Nat.ne_of_lt (Nat.lt_of_lt_of_le hlt (Nat.le_add_right z 47)))).1 hR0
  have hR1 : Rf_72 t0 1 = some (z + 1) := nR_ca eRf_72 eq_70 ((fr7 _ (Nat.lt_of_lt_of_le hlt (Nat.le_add_right z 48))).2 (Nat.ne_of_lt (Nat.lt_of_lt_of_le hlt (Nat.le_add_right z 47)))).1 hR1
  have hR2 : Rf_72 t0 2 = some (z + 2) := nR_ca eRf_72 eq_70 ((fr7 _ (Nat.lt_of_lt_of_le hlt (Nat.le_add_right z 48))).2 (Nat.ne_of_lt (Nat.lt_of_lt_of_le hlt (Nat.le_add_right z 47)))).1 hR2
  have hR3 : Rf_72 t0 3 = some (z + 3) := nR_ca eRf_72 eq_70 ((fr7 _ (Nat.lt_of_lt_of_le hlt (Nat.le_add_right z 48))).2 (Nat.ne_of_lt (Nat.lt_of_lt_of_le hlt (Nat.le_add_right z 47)))).1 hR3
  have hR6 : Rf_72 t0 6 = some (z + 29) := nR_ca eRf_72 eq_70 ((fr7 _ (Nat.lt_of_lt_of_le hlt (Nat.le_add_right z 48))).2 (Nat.ne_of_lt (Nat.lt_of_lt_of_le hlt (Nat.le_add_right z 47)))).1 hR6
  refine x_putR X hK hw hz (apn_old ha 51) hS cpX11 8 (by decide) rfl rfl rfl rfl hin rfl tw_567 dX11_init_113 (fun H locs hw hz => ?_)
  obtain ⟨Rf_75, eRf_75, hf⟩ := yb_let_ex hf
  have hw := yb_wR eRf_75 hw
  have hR0 : Rf_75 t0 0 = some z := nR_pu eRf_75 (by decide) hR0
  have hR1 : Rf_75 t0 1 = some (z + 1) := nR_pu eRf_75 (by decide) hR1
  have hR2 : Rf_75 t0 2 = some (z + 2) := nR_pu eRf_75 (by decide) hR2
  have hR3 : Rf_75 t0 3 = some (z + 3) := nR_pu eRf_75 (by decide) hR3
  have hR6 : Rf_75 t0 6 = some (z + 29) := nR_pu eRf_75 (by decide) hR6
  refine lv_aload_n hx hb dX11_init_116 rfl (lv_at hl 0 rfl) ?_
  refine x_new (z := (z + 51)) X hK hw hz (Or.inr (Nat.le_add_right z 51)) cpX9 dfX9 tw_514 tw_185 tw_122 (Nat.le_of_ble_eq_true rfl) (Nat.le_of_ble_eq_true rfl) dX11_init_117 (fun H hw hz => ?_)
  obtain ⟨S_76, eS_76, hf⟩ := yb_let_ex hf
  obtain ⟨Rf_77, eRf_77, hf⟩ := yb_let_ex hf
  obtain ⟨I_78, eI_78, hf⟩ := yb_let_ex hf
  obtain ⟨J_79, eJ_79, hf⟩ := yb_let_ex hf
  have hw : WX D cz _ (apn L z 52) S_76 Rf_77 s.heap I_78 J_79 H locs := yb_w5 (apn_s L z 51) eS_76 eRf_77 eI_78 eJ_79 hw
  have hz : H.size = z + 52 := hz
  have hN51 : S_76 (z + 51) = (16, 0) := nS_me eS_76
  have hS : S_76 t0 = (18, n0) := nS_up eS_76 (Nat.ne_of_lt (Nat.lt_of_lt_of_le hlt (Nat.le_add_right z 51))) hS
  have hR0 : Rf_77 t0 0 = some z := nR_up eRf_77 (Nat.ne_of_lt (Nat.lt_of_lt_of_le hlt (Nat.le_add_right z 51))) hR0
  have hR1 : Rf_77 t0 1 = some (z + 1) := nR_up eRf_77 (Nat.ne_of_lt (Nat.lt_of_lt_of_le hlt (Nat.le_add_right z 51))) hR1
  have hR2 : Rf_77 t0 2 = some (z + 2) := nR_up eRf_77 (Nat.ne_of_lt (Nat.lt_of_lt_of_le hlt (Nat.le_add_right z 51))) hR2
  have hR3 : Rf_77 t0 3 = some (z + 3) := nR_up eRf_77 (Nat.ne_of_lt (Nat.lt_of_lt_of_le hlt (Nat.le_add_right z 51))) hR3
  have hR6 : Rf_77 t0 6 = some (z + 29) := nR_up eRf_77 (Nat.ne_of_lt (Nat.lt_of_lt_of_le hlt (Nat.le_add_right z 51))) hR6
  refine lv_dup hx hb dX11_init_120 rfl ?_
  obtain ⟨q_80, eq_80, hf⟩ := yb_let_ex hf
  obtain ⟨S_81, eS_81, hf⟩ := yb_let_ex hf
  obtain ⟨Rf_82, eRf_82, hf⟩ := yb_let_ex hf
  obtain ⟨I_83, eI_83, hf⟩ := yb_let_ex hf
  obtain ⟨J_84, eJ_84, hf⟩ := yb_let_ex hf
  refine x_ctorN (z := (z + 52)) X hK hw hz (fun q hq => Or.inr (Nat.le_trans (Nat.le_add_right z 52) hq)) (c9_init l D cz ev (show (z + 51) ∈ apn L z 52 from apn_new (j := 51) 52 (by decide)) hN51 eq_80.symm) ⟨hK.2.1.1.2.2.2.2.1, nw_11_73⟩ ⟨Nat.le_of_ble_eq_true rfl, Nat.le_of_ble_eq_true rfl⟩ rfl rfl (Nat.le_of_ble_eq_true rfl) hl.1 ⟨Nat.le_of_ble_eq_true rfl, Nat.le_of_ble_eq_true rfl⟩ dX11_init_121 (fun H locs hw hz => ?_)
  have hw : WX D cz _ (apn L z 60) S_81 Rf_82 s.heap I_83 J_84 H locs := yb_w5 (apn_apn (L := L) (z := z) (j := 52) 8).symm eS_81 eRf_82 eI_83 eJ_84 hw
  have hz : H.size = z + 60 := hz
  have hS : S_81 t0 = (18, n0) := nS_ca eS_81 eq_80 (fr9 _ (Nat.lt_of_lt_of_le hlt (Nat.le_add_right z 52))).1 hS
  have hR0 : Rf_82 t0 0 = some z := nR_ca eRf_82 eq_80 ((fr9 _ (Nat.lt_of_lt_of_le hlt (Nat.le_add_right z 52))).2 (Nat.ne_of_lt (Nat.lt_of_lt_of_le hlt (Nat.le_add_right z 51)))).1 hR0
  have hR1 : Rf_82 t0 1 = some (z + 1) := nR_ca eRf_82 eq_80 ((fr9 _ (Nat.lt_of_lt_of_le hlt (Nat.le_add_right z 52))).2 (Nat.ne_of_lt (Nat.lt_of_lt_of_le hlt (Nat.le_add_right z 51)))).1 hR1
  have hR2 : Rf_82 t0 2 = some (z + 2) := nR_ca eRf_82 eq_80 ((fr9 _ (Nat.lt_of_lt_of_le hlt (Nat.le_add_right z 52))).2 (Nat.ne_of_lt (Nat.lt_of_lt_of_le hlt (Nat.le_add_right z 51)))).1 hR2
  have hR3 : Rf_82 t0 3 = some (z + 3) := nR_ca eRf_82 eq_80 ((fr9 _ (Nat.lt_of_lt_of_le hlt (Nat.le_add_right z 52))).2 (Nat.ne_of_lt (Nat.lt_of_lt_of_le hlt (Nat.le_add_right z 51)))).1 hR3
  have hR6 : Rf_82 t0 6 = some (z + 29) := nR_ca eRf_82 eq_80 ((fr9 _ (Nat.lt_of_lt_of_le hlt (Nat.le_add_right z 52))).2 (Nat.ne_of_lt (Nat.lt_of_lt_of_le hlt (Nat.le_add_right z 51)))).1 hR6
  refine x_putR X hK hw hz (apn_old ha 60) hS cpX11 9 (by decide) rfl rfl rfl rfl hin rfl tw_568 dX11_init_124 (fun H locs hw hz => ?_)
  obtain ⟨Rf_85, eRf_85, hf⟩ := yb_let_ex hf
  have hw := yb_wR eRf_85 hw
  have hR0 : Rf_85 t0 0 = some z := nR_pu eRf_85 (by decide) hR0
  have hR1 : Rf_85 t0 1 = some (z + 1) := nR_pu eRf_85 (by decide) hR1
  have hR2 : Rf_85 t0 2 = some (z + 2) := nR_pu eRf_85 (by decide) hR2
  have hR3 : Rf_85 t0 3 = some (z + 3) := nR_pu eRf_85 (by decide) hR3
  have hR6 : Rf_85 t0 6 = some (z + 29) := nR_pu eRf_85 (by decide) hR6
  have hR9 : Rf_85 t0 9 = some (z + 51) := nR_me eRf_85
  refine lv_aload_n hx hb dX11_init_127 rfl (lv_at hl 0 rfl) ?_
  refine x_new (z := (z + 60)) X hK hw hz (Or.inr (Nat.le_add_right z 60)) cpX10 dfX10 tw_516 tw_517 tw_128 (Nat.le_of_ble_eq_true rfl) (Nat.le_of_ble_eq_true rfl) dX11_init_128 (fun H hw hz => ?_)
  obtain ⟨S_86, eS_86, hf⟩ := yb_let_ex hf
  obtain ⟨Rf_87, eRf_87, hf⟩ := yb_let_ex hf
  obtain ⟨I_88, eI_88, hf⟩ := yb_let_ex hf
  obtain ⟨J_89, eJ_89, hf⟩ := yb_let_ex hf
  have hw : WX D cz _ (apn L z 61) S_86 Rf_87 s.heap I_88 J_89 H locs := yb_w5 (apn_s L z 60) eS_86 eRf_87 eI_88 eJ_89 hw
  have hz : H.size = z + 61 := hz
  have hN60 : S_86 (z + 60) = (17, 0) := nS_me eS_86
  have hS : S_86 t0 = (18, n0) := nS_up eS_86 (Nat.ne_of_lt (Nat.lt_of_lt_of_le hlt (Nat.le_add_right z 60))) hS
  have hR0 : Rf_87 t0 0 = some z := nR_up eRf_87 (Nat.ne_of_lt (Nat.lt_of_lt_of_le hlt (Nat.le_add_right z 60))) hR0
  have hR1 : Rf_87 t0 1 = some (z + 1) := nR_up eRf_87 (Nat.ne_of_lt (Nat.lt_of_lt_of_le hlt (Nat.le_add_right z 60))) hR1
  have hR2 : Rf_87 t0 2 = some (z + 2) := nR_up eRf_87 (Nat.ne_of_lt (Nat.lt_of_lt_of_le hlt (Nat.le_add_right z 60))) hR2
  have hR3 : Rf_87 t0 3 = some (z + 3) := nR_up eRf_87 (Nat.ne_of_lt (Nat.lt_of_lt_of_le hlt (Nat.le_add_right z 60))) hR3
  have hR6 : Rf_87 t0 6 = some (z + 29) := nR_up eRf_87 (Nat.ne_of_lt (Nat.lt_of_lt_of_le hlt (Nat.le_add_right z 60))) hR6
  have hR9 : Rf_87 t0 9 = some (z + 51) := nR_up eRf_87 (Nat.ne_of_lt (Nat.lt_of_lt_of_le hlt (Nat.le_add_right z 60))) hR9
  refine lv_dup hx hb dX11_init_131 rfl ?_
  refine lv_aload_n hx hb dX11_init_132 rfl (lv_at hl 0 rfl) ?_
  refine x_getR X hK hw (apn_old ha 61) hS cpX11 1 (by decide) rfl hR1 tw_560 dX11_init_133 ?_
  refine lv_aload_n hx hb dX11_init_136 rfl (lv_at hl 0 rfl) ?_
  refine x_getR X hK hw (apn_old ha 61) hS cpX11 9 (by decide) rfl hR9 tw_568 dX11_init_137 ?_
  obtain ⟨q_90, eq_90, hf⟩ := yb_let_ex hf
  obtain ⟨S_91, eS_91, hf⟩ := yb_let_ex hf
  obtain ⟨Rf_92, eRf_92, hf⟩ := yb_let_ex hf
  obtain ⟨I_93, eI_93, hf⟩ := yb_let_ex hf
  obtain ⟨J_94, eJ_94, hf⟩ := yb_let_ex hf
  refine x_ctor (z := (z + 61)) X hK hw hz (fun q hq => Or.inr (Nat.le_trans (Nat.le_add_right z 61) hq)) (c10_init l D cz ev (show (z + 60) ∈ apn L z 61 from apn_new (j := 60) 61 (by decide)) hN60 eq_90.symm) iw_11_80 ⟨Nat.le_of_ble_eq_true rfl, Nat.le_of_ble_eq_true rfl⟩ rfl rfl (Nat.le_of_ble_eq_true rfl) hl.1 ⟨Nat.le_of_ble_eq_true rfl, Nat.le_of_ble_eq_true rfl⟩ dX11_init_140 (fun H locs hw hz => ?_)
  have hw : WX D cz _ (apn L z 61) S_91 Rf_92 s.heap I_93 J_94 H locs := yb_w5 (apn_apn (L := L) (z := z) (j := 61) 0).symm eS_91 eRf_92 eI_93 eJ_94 hw
  have hz : H.size = z + 61 := hz
  have hS : S_91 t0 = (18, n0) := nS_ca eS_91 eq_90 (fr10 _ (Nat.lt_of_lt_of_le hlt (Nat.le_add_right z 61))).1 hS
  have hR0 : Rf_92 t0 0 = some z := nR_ca eRf_92 eq_90 ((fr10 _ (Nat.lt_of_lt_of_le hlt (Nat.le_add_right z 61))).2 (Nat.ne_of_lt (Nat.lt_of_lt_of_le hlt (Nat.le_add_right z 60)))).1 hR0
  have hR1 : Rf_92 t0 1 = some (z + 1) := nR_ca eRf_92 eq_90 ((fr10 _ (Nat.lt_of_lt_of_le hlt (Nat.le_add_right z 61))).2 (Nat.ne_of_lt (Nat.lt_of_lt_of_le hlt (Nat.le_add_right z 60)))).1 hR1
  have hR2 : Rf_92 t0 2 = some (z + 2) := nR_ca eRf_92 eq_90 ((fr10 _ (Nat.lt_of_lt_of_le hlt (Nat.le_add_right z 61))).2 (Nat.ne_of_lt (Nat.lt_of_lt_of_le hlt (Nat.le_add_right z 60)))).1 hR2
  have hR3 : Rf_92 t0 3 = some (z + 3) := nR_ca eRf_92 eq_90 ((fr10 _ (Nat.lt_of_lt_of_le hlt (Nat.le_add_right z 61))).2 (Nat.ne_of_lt (Nat.lt_of_lt_of_le hlt (Nat.le_add_right z 60)))).1 hR3
  have hR6 : Rf_92 t0 6 = some (z + 29) := nR_ca eRf_92 eq_90 ((fr10 _ (Nat.lt_of_lt_of_le hlt (Nat.le_add_right z 61))).2 (Nat.ne_of_lt (Nat.lt_of_lt_of_le hlt (Nat.le_add_right z 60)))).1 hR6
  have hR9 : Rf_92 t0 9 = some (z + 51) := nR_ca eRf_92 eq_90 ((fr10 _ (Nat.lt_of_lt_of_le hlt (Nat.le_add_right z 61))).2 (Nat.ne_of_lt (Nat.lt_of_lt_of_le hlt (Nat.le_add_right z 60)))).1 hR9
  refine x_putR X hK hw hz (apn_old ha 61) hS cpX11 10 (by decide) rfl rfl rfl rfl hin rfl tw_569 dX11_init_143 (fun H locs hw hz => ?_)
  obtain ⟨Rf_95, eRf_95, hf⟩ := yb_let_ex hf
  have hw := yb_wR eRf_95 hw
  have hR0 : Rf_95 t0 0 = some z := nR_pu eRf_95 (by decide) hR0
  have hR1 : Rf_95 t0 1 = some (z + 1) := nR_pu eRf_95 (by decide) hR1
  have hR2 : Rf_95 t0 2 = some (z + 2) := nR_pu eRf_95 (by decide) hR2
  have hR3 : Rf_95 t0 3 = some (z + 3) := nR_pu eRf_95 (by decide) hR3
  have hR6 : Rf_95 t0 6 = some (z + 29) := nR_pu eRf_95 (by decide) hR6
  have hR9 : Rf_95 t0 9 = some (z + 51) := nR_pu eRf_95 (by decide) hR9
  refine lv_aload_n hx hb dX11_init_146 rfl (lv_at hl 0 rfl) ?_
  refine x_new (z := (z + 61)) X hK hw hz (Or.inr (Nat.le_add_right z 61)) cpX6 dfX6 tw_538 tw_539 tw_129 (Nat.le_of_ble_eq_true rfl) (Nat.le_of_ble_eq_true rfl) dX11_init_147 (fun H hw hz => ?_)
  obtain ⟨S_96, eS_96, hf⟩ := yb_let_ex hf
  obtain ⟨Rf_97, eRf_97, hf⟩ := yb_let_ex hf
  obtain ⟨I_98, eI_98, hf⟩ := yb_let_ex hf
  obtain ⟨J_99, eJ_99, hf⟩ := yb_let_ex hf
  have hw : WX D cz _ (apn L z 62) S_96 Rf_97 s.heap I_98 J_99 H locs := yb_w5 (apn_s L z 61) eS_96 eRf_97 eI_98 eJ_99 hw
  have hz : H.size = z + 62 := hz
  have hN61 : S_96 (z + 61) = (13, 0) := nS_me eS_96
  have hS : S_96 t0 = (18, n0) := nS_up eS_96 (Nat.ne_of_lt (Nat.lt_of_lt_of_le hlt (Nat.le_add_right z 61))) hS
  have hR0 : Rf_97 t0 0 = some z := nR_up eRf_97 (Nat.ne_of_lt (Nat.lt_of_lt_of_le hlt (Nat.le_add_right z 61))) hR0
  have hR1 : Rf_97 t0 1 = some (z + 1) := nR_up eRf_97 (Nat.ne_of_lt (Nat.lt_of_lt_of_le hlt (Nat.le_add_right z 61))) hR1
  have hR2 : Rf_97 t0 2 = some (z + 2) := nR_up eRf_97 (Nat.ne_of_lt (Nat.lt_of_lt_of_le hlt (Nat.le_add_right z 61))) hR2
  have hR3 : Rf_97 t0 3 = some (z + 3) := nR_up eRf_97 (Nat.ne_of_lt (Nat.lt_of_lt_of_le hlt (Nat.le_add_right z 61))) hR3
  have hR6 : Rf_97 t0 6 = some (z + 29) := nR_up eRf_97 (Nat.ne_of_lt (Nat.lt_of_lt_of_le hlt (Nat.le_add_right z 61))) hR6
  have hR9 : Rf_97 t0 9 = some (z + 51) := nR_up eRf_97 (Nat.ne_of_lt (Nat.lt_of_lt_of_le hlt (Nat.le_add_right z 61))) hR9
  refine lv_dup hx hb dX11_init_150 rfl ?_
  refine lv_aload_n hx hb dX11_init_151 rfl (lv_at hl 0 rfl) ?_
  refine x_getR X hK hw (apn_old ha 62) hS cpX11 1 (by decide) rfl hR1 tw_560 dX11_init_152 ?_
  obtain ⟨q_100, eq_100, hf⟩ := yb_let_ex hf
  obtain ⟨S_101, eS_101, hf⟩ := yb_let_ex hf
  obtain ⟨Rf_102, eRf_102, hf⟩ := yb_let_ex hf
  obtain ⟨I_103, eI_103, hf⟩ := yb_let_ex hf
  obtain ⟨J_104, eJ_104, hf⟩ := yb_let_ex hf
  refine x_ctor (z := (z + 62)) X hK hw hz (fun q hq => Or.inr (Nat.le_trans (Nat.le_add_right z 62) hq)) (c6_init l D cz ev (show (z + 61) ∈ apn L z 62 from apn_new (j := 61) 62 (by decide)) hN61 eq_100.symm) iw_11_89 ⟨Nat.le_of_ble_eq_true rfl, Nat.le_of_ble_eq_true rfl⟩ rfl rfl (Nat.le_of_ble_eq_true rfl) hl.1 ⟨Nat.le_of_ble_eq_true rfl, Nat.le_of_ble_eq_true rfl⟩ dX11_init_155 (fun H locs hw hz => ?_)
  have hw : WX D cz _ (apn L z 63) S_101 Rf_102 s.heap I_103 J_104 H locs := yb_w5 (apn_apn (L := L) (z := z) (j := 62) 1).symm eS_101 eRf_102 eI_103 eJ_104 hw
  have hz : H.size = z + 63 := hz
  have hS : S_101 t0 = (18, n0) := nS_ca eS_101 eq_100 (fr6 _ (Nat.lt_of_lt_of_le hlt (Nat.le_add_right z 62))).1 hS
  have hR0 : Rf_102 t0 0 = some z := nR_ca eRf_102 eq_100 ((fr6 _ (Nat.lt_of_lt_of_le hlt (Nat.le_add_right z 62))).2 (Nat.ne_of_lt (Nat.lt_of_lt_of_le hlt (Nat.le_add_right z 61)))).1 hR0
  have hR1 : Rf_102 t0 1 = some (z + 1) := nR_ca eRf_102 eq_100 ((fr6 _ (Nat.lt_of_lt_of_le hlt (Nat.le_add_right z 62))).2 (Nat.ne_of_lt (Nat.lt_of_lt_of_le hlt (Nat.le_add_right z 61)))).1 hR1
  have hR2 : Rf_102 t0 2 = some (z + 2) := nR_ca eRf_102 eq_100 ((fr6 _ (Nat.lt_of_lt_of_le hlt (Nat.le_add_right z 62))).2 (Nat.ne_of_lt (Nat.lt_of_lt_of_le hlt (Nat.le_add_right z 61)))).1 hR2
  have hR3 : Rf_102 t0 3 = some (z + 3) := nR_ca eRf_102 eq_100 ((fr6 _ (Nat.lt_of_lt_of_le hlt (Nat.le_add_right z 62))).2 (Nat.ne_of_lt (Nat.lt_of_lt_of_le hlt (Nat.le_add_right z 61)))).1 hR3
  have hR6 : Rf_102 t0 6 = some (z + 29) := nR_ca eRf_102 eq_100 ((fr6 _ (Nat.lt_of_lt_of_le hlt (Nat.le_add_right z 62))).2 (Nat.ne_of_lt (Nat.lt_of_lt_of_le hlt (Nat.le_add_right z 61)))).1 hR6
  have hR9 : Rf_102 t0 9 = some (z + 51) := nR_ca eRf_102 eq_100 ((fr6 _ (Nat.lt_of_lt_of_le hlt (Nat.le_add_right z 62))).2 (Nat.ne_of_lt (Nat.lt_of_lt_of_le hlt (Nat.le_add_right z 61)))).1 hR9
  refine x_putR X hK hw hz (apn_old ha 63) hS cpX11 11 (by decide) rfl rfl rfl rfl hin rfl tw_570 dX11_init_158 (fun H locs hw hz => ?_)
  obtain ⟨Rf_105, eRf_105, hf⟩ := yb_let_ex hf
  have hw := yb_wR eRf_105 hw
  have hR0 : Rf_105 t0 0 = some z := nR_pu eRf_105 (by decide) hR0
  have hR1 : Rf_105 t0 1 = some (z + 1) := nR_pu eRf_105 (by decide) hR1
  have hR2 : Rf_105 t0 2 = some (z + 2) := nR_pu eRf_105 (by decide) hR2
  have hR3 : Rf_105 t0 3 = some (z + 3) := nR_pu eRf_105 (by decide) hR3
  have hR6 : Rf_105 t0 6 = some (z + 29) := nR_pu eRf_105 (by decide) hR6
  have hR9 : Rf_105 t0 9 = some (z + 51) := nR_pu eRf_105 (by decide) hR9
  refine lv_aload_n hx hb dX11_init_161 rfl (lv_at hl 0 rfl) ?_
  refine x_new (z := (z + 63)) X hK hw hz (Or.inr (Nat.le_add_right z 63)) cpX0 dfX0 tw_557 tw_281 tw_123 (Nat.le_of_ble_eq_true rfl) (Nat.le_of_ble_eq_true rfl) dX11_init_162 (fun H hw hz => ?_)
  obtain ⟨S_106, eS_106, hf⟩ := yb_let_ex hf
  obtain ⟨Rf_107, eRf_107, hf⟩ := yb_let_ex hf
  obtain ⟨I_108, eI_108, hf⟩ := yb_let_ex hf
  obtain ⟨J_109, eJ_109, hf⟩ := yb_let_ex hf
  have hw : WX D cz _ (apn L z 64) S_106 Rf_107 s.heap I_108 J_109 H locs := yb_w5 (apn_s L z 63) eS_106 eRf_107 eI_108 eJ_109 hw
  have hz : H.size = z + 64 := hz
  have hN63 : S_106 (z + 63) = (7, 0) := nS_me eS_106
  have hS : S_106 t0 = (18, n0) := nS_up eS_106 (Nat.ne_of_lt (Nat.lt_of_lt_of_le hlt (Nat.le_add_right z 63))) hS
  have hR0 : Rf_107 t0 0 = some z := nR_up eRf_107 (Nat.ne_of_lt (Nat.lt_of_lt_of_le hlt (Nat.le_add_right z 63))) hR0
  have hR1 : Rf_107 t0 1 = some (z + 1) := nR_up eRf_107 (Nat.ne_of_lt (Nat.lt_of_lt_of_le hlt (Nat.le_add_right z 63))) hR1
  have hR2 : Rf_107 t0 2 = some (z + 2) := nR_up eRf_107 (Nat.ne_of_lt (Nat.lt_of_lt_of_le hlt (Nat.le_add_right z 63))) hR2
  have hR3 : Rf_107 t0 3 = some (z + 3) := nR_up eRf_107 (Nat.ne_of_lt (Nat.lt_of_lt_of_le hlt (Nat.le_add_right z 63))) hR3
  have hR6 : Rf_107 t0 6 = some (z + 29) := nR_up eRf_107 (Nat.ne_of_lt (Nat.lt_of_lt_of_le hlt (Nat.le_add_right z 63))) hR6
  have hR9 : Rf_107 t0 9 = some (z + 51) := nR_up eRf_107 (Nat.ne_of_lt (Nat.lt_of_lt_of_le hlt (Nat.le_add_right z 63))) hR9
  refine lv_dup hx hb dX11_init_165 rfl ?_
  obtain ⟨q_110, eq_110, hf⟩ := yb_let_ex hf
  obtain ⟨S_111, eS_111, hf⟩ := yb_let_ex hf
  obtain ⟨Rf_112, eRf_112, hf⟩ := yb_let_ex hf
  obtain ⟨I_113, eI_113, hf⟩ := yb_let_ex hf
  obtain ⟨J_114, eJ_114, hf⟩ := yb_let_ex hf
  refine x_ctorN (z := (z + 64)) X hK hw hz (fun q hq => Or.inr (Nat.le_trans (Nat.le_add_right z 64) hq)) (c0_init l D cz ev (show (z + 63) ∈ apn L z 64 from apn_new (j := 63) 64 (by decide)) hN63 eq_110.symm) ⟨hK.2.1.1.2.2.2.2.2.1, nw_11_98⟩ ⟨Nat.le_of_ble_eq_true rfl, Nat.le_of_ble_eq_true rfl⟩ rfl rfl (Nat.le_of_ble_eq_true rfl) hl.1 ⟨Nat.le_of_ble_eq_true rfl, Nat.le_of_ble_eq_true rfl⟩ dX11_init_166 (fun H locs hw hz => ?_)
  have hw : WX D cz _ (apn L z 73) S_111 Rf_112 s.heap I_113 J_114 H locs := yb_w5 (apn_apn (L := L) (z := z) (j := 64) 9).symm eS_111 eRf_112 eI_113 eJ_114 hw
  have hz : H.size = z + 73 := hz
  have hS : S_111 t0 = (18, n0) := nS_ca eS_111 eq_110 (fr0 _ (Nat.lt_of_lt_of_le hlt (Nat.le_add_right z 64))).1 hS
  have hR0 : Rf_112 t0 0 = some z := nR_ca eRf_112 eq_110 ((fr0 _ (Nat.lt_of_lt_of_le hlt (Nat.le_add_right z 64))).2 (Nat.ne_of_lt (Nat.lt_of_lt_of_le hlt (Nat.le_add_right z 63)))).1 hR0
  have hR1 : Rf_112 t0 1 = some (z + 1) := nR_ca eRf_112 eq_110 ((fr0 _ (Nat.lt_of_lt_of_le hlt (Nat.le_add_right z 64))).2 (Nat.ne_of_lt (Nat.lt_of_lt_of_le hlt (Nat.le_add_right z 63)))).1 hR1
  have hR2 : Rf_112 t0 2 = some (z + 2) := nR_ca eRf_112 eq_110 ((fr0 _ (Nat.lt_of_lt_of_le hlt (Nat.le_add_right z 64))).2 (Nat.ne_of_lt (Nat.lt_of_lt_of_le hlt (Nat.le_add_right z 63)))).1 hR2
  have hR3 : Rf_112 t0 3 = some (z + 3) := nR_ca eRf_112 eq_110 ((fr0 _ (Nat.lt_of_lt_of_le hlt (Nat.le_add_right z 64))).2 (Nat.ne_of_lt (Nat.lt_of_lt_of_le hlt (Nat.le_add_right z 63)))).1 hR3
  have hR6 : Rf_112 t0 6 = some (z + 29) := nR_ca eRf_112 eq_110 ((fr0 _ (Nat.lt_of_lt_of_le hlt (Nat.le_add_right z 64))).2 (Nat.ne_of_lt (Nat.lt_of_lt_of_le hlt (Nat.le_add_right z 63)))).1 hR6
  have hR9 : Rf_112 t0 9 = some (z + 51) := nR_ca eRf_112 eq_110 ((fr0 _ (Nat.lt_of_lt_of_le hlt (Nat.le_add_right z 64))).2 (Nat.ne_of_lt (Nat.lt_of_lt_of_le hlt (Nat.le_add_right z 63)))).1 hR9
  refine x_putR X hK hw hz (apn_old ha 73) hS cpX11 12 (by decide) rfl rfl rfl rfl hin rfl tw_571 dX11_init_169 (fun H locs hw hz => ?_)
  obtain ⟨Rf_115, eRf_115, hf⟩ := yb_let_ex hf
  have hw := yb_wR eRf_115 hw
  have hR0 : Rf_115 t0 0 = some z := nR_pu eRf_115 (by decide) hR0
  have hR1 : Rf_115 t0 1 = some (z + 1) := nR_pu eRf_115 (by decide) hR1
  have hR2 : Rf_115 t0 2 = some (z + 2) := nR_pu eRf_115 (by decide) hR2
  have hR3 : Rf_115 t0 3 = some (z + 3) := nR_pu eRf_115 (by decide) hR3
  have hR6 : Rf_115 t0 6 = some (z + 29) := nR_pu eRf_115 (by decide) hR6
  have hR9 : Rf_115 t0 9 = some (z + 51) := nR_pu eRf_115 (by decide) hR9
  refine lv_aload_n hx hb dX11_init_172 rfl (lv_at hl 0 rfl) ?_
  refine lv_bipush (v := (7 : Int32)) hx hb dX11_init_173 (by decide) ?_
  refine x_newa0 (z := (z + 73)) X hK hw hz (Or.inr (Nat.le_add_right z 73)) tw_175 (N := 7) (by decide) rfl (by decide) (Nat.le_of_ble_eq_true rfl) (Nat.le_of_ble_eq_true rfl) dX11_init_175 (fun H hw hz => ?_)
  obtain ⟨S_116, eS_116, hf⟩ := yb_let_ex hf
  obtain ⟨Rf_117, eRf_117, hf⟩ := yb_let_ex hf
  obtain ⟨I_118, eI_118, hf⟩ := yb_let_ex hf
  obtain ⟨J_119, eJ_119, hf⟩ := yb_let_ex hf
  have hw : WX D cz _ (apn L z 74) S_116 Rf_117 s.heap I_118 J_119 H locs := yb_w5 (apn_s L z 73) eS_116 eRf_117 eI_118 eJ_119 hw
  have hz : H.size = z + 74 := hz
  have hS : S_116 t0 = (18, n0) := nS_up eS_116 (Nat.ne_of_lt (Nat.lt_of_lt_of_le hlt (Nat.le_add_right z 73))) hS
  have hR0 : Rf_117 t0 0 = some z := nR_up eRf_117 (Nat.ne_of_lt (Nat.lt_of_lt_of_le hlt (Nat.le_add_right z 73))) hR0
  have hR1 : Rf_117 t0 1 = some (z + 1) := nR_up eRf_117 (Nat.ne_of_lt (Nat.lt_of_lt_of_le hlt (Nat.le_add_right z 73))) hR1
  have hR2 : Rf_117 t0 2 = some (z + 2) := nR_up eRf_117 (Nat.ne_of_lt (Nat.lt_of_lt_of_le hlt (Nat.le_add_right z 73))) hR2
  have hR3 : Rf_117 t0 3 = some (z + 3) := nR_up eRf_117 (Nat.ne_of_lt (Nat.lt_of_lt_of_le hlt (Nat.le_add_right z 73))) hR3
  have hR6 : Rf_117 t0 6 = some (z + 29) := nR_up eRf_117 (Nat.ne_of_lt (Nat.lt_of_lt_of_le hlt (Nat.le_add_right z 73))) hR6
  have hR9 : Rf_117 t0 9 = some (z + 51) := nR_up eRf_117 (Nat.ne_of_lt (Nat.lt_of_lt_of_le hlt (Nat.le_add_right z 73))) hR9
  refine x_putR X hK hw hz (apn_old ha 74) hS cpX11 13 (by decide) rfl rfl rfl rfl hin rfl tw_572 dX11_init_177 (fun H locs hw hz => ?_)
  obtain ⟨Rf_120, eRf_120, hf⟩ := yb_let_ex hf
  have hw := yb_wR eRf_120 hw
  have hR0 : Rf_120 t0 0 = some z := nR_pu eRf_120 (by decide) hR0
  have hR1 : Rf_120 t0 1 = some (z + 1) := nR_pu eRf_120 (by decide) hR1
  have hR2 : Rf_120 t0 2 = some (z + 2) := nR_pu eRf_120 (by decide) hR2
  have hR3 : Rf_120 t0 3 = some (z + 3) := nR_pu eRf_120 (by decide) hR3
  have hR6 : Rf_120 t0 6 = some (z + 29) := nR_pu eRf_120 (by decide) hR6
  have hR9 : Rf_120 t0 9 = some (z + 51) := nR_pu eRf_120 (by decide) hR9
  refine lv_aload_n hx hb dX11_init_180 rfl (lv_at hl 0 rfl) ?_
  refine lv_iconst (v := (0 : Int32)) hx hb dX11_init_181 (by decide) ?_
  refine x_putIz X hK hw hz (apn_old ha 74) hS cpX11 14 (by decide) rfl rfl rfl tw_573 dX11_init_182 (fun H locs hw hz => ?_)
  obtain ⟨I_121, eI_121, hf⟩ := yb_let_ex hf
  have hw := yb_wI eI_121 hw
  refine lv_aload_n hx hb dX11_init_185 rfl (lv_at hl 0 rfl) ?_
  refine lv_iconst (v := (0 : Int32)) hx hb dX11_init_186 (by decide) ?_
  refine x_putIz X hK hw hz (apn_old ha 74) hS cpX11 15 (by decide) rfl rfl rfl tw_574 dX11_init_187 (fun H locs hw hz => ?_)
  obtain ⟨I_122, eI_122, hf⟩ := yb_let_ex hf
  have hw := yb_wI eI_122 hw
  cases hf
  exact hfin _ _ _ _ hw hz dX11_init_190
