def f12_init (t0 z : Nat) (S : ST) (Rf : RT) (I : IT) (J : JT) : ST × RT × IT × JT :=
  yb_let (va_up S z (1, 400)) fun S_1 =>
  yb_let (va_up Rf z (fun _ => none)) fun Rf_2 =>
  yb_let (va_up I z (fun _ => 0)) fun I_3 =>
  yb_let (va_up J z (fun _ => 0)) fun J_4 =>
  yb_let (up2R Rf_2 t0 0 (some z)) fun Rf_5 =>
  yb_let (va_up S_1 (z + 1) (0, 2400)) fun S_6 =>
  yb_let (va_up Rf_5 (z + 1) (fun _ => none)) fun Rf_7 =>
  yb_let (va_up I_3 (z + 1) (fun _ => 0)) fun I_8 =>
  yb_let (va_up J_4 (z + 1) (fun _ => 0)) fun J_9 =>
  yb_let (up2R Rf_7 t0 3 (some (z + 1))) fun Rf_10 =>
  yb_let (va_up S_6 (z + 2) (0, 7)) fun S_11 =>
  yb_let (va_up Rf_10 (z + 2) (fun _ => none)) fun Rf_12 =>
  yb_let (va_up I_8 (z + 2) (fun _ => 0)) fun I_13 =>
  yb_let (va_up J_9 (z + 2) (fun _ => 0)) fun J_14 =>
  yb_let (up2R Rf_12 t0 4 (some (z + 2))) fun Rf_15 =>
  yb_let (va_up S_11 (z + 3) (0, 288)) fun S_16 =>
  yb_let (va_up Rf_15 (z + 3) (fun _ => none)) fun Rf_17 =>
  yb_let (va_up I_13 (z + 3) (fun _ => 0)) fun I_18 =>
  yb_let (va_up J_14 (z + 3) (fun _ => 0)) fun J_19 =>
  yb_let (up2R Rf_17 t0 5 (some (z + 3))) fun Rf_20 =>
  yb_let (va_up S_16 (z + 4) (0, 6)) fun S_21 =>
  yb_let (va_up Rf_20 (z + 4) (fun _ => none)) fun Rf_22 =>
  yb_let (va_up I_18 (z + 4) (fun _ => 0)) fun I_23 =>
  yb_let (va_up J_19 (z + 4) (fun _ => 0)) fun J_24 =>
  yb_let (up2R Rf_22 t0 6 (some (z + 4))) fun Rf_25 =>
  yb_let (va_up S_21 (z + 5) (0, 111)) fun S_26 =>
  yb_let (va_up Rf_25 (z + 5) (fun _ => none)) fun Rf_27 =>
  yb_let (va_up I_23 (z + 5) (fun _ => 0)) fun I_28 =>
  yb_let (va_up J_24 (z + 5) (fun _ => 0)) fun J_29 =>
  yb_let (up2R Rf_27 t0 7 (some (z + 5))) fun Rf_30 =>
  yb_let (va_up S_26 (z + 6) (0, 400)) fun S_31 =>
  yb_let (va_up Rf_30 (z + 6) (fun _ => none)) fun Rf_32 =>
  yb_let (va_up I_28 (z + 6) (fun _ => 0)) fun I_33 =>
  yb_let (va_up J_29 (z + 6) (fun _ => 0)) fun J_34 =>
  yb_let (up2R Rf_32 t0 15 (some (z + 6))) fun Rf_35 =>
  yb_let (va_up S_31 (z + 7) (3, 64)) fun S_36 =>
  yb_let (va_up Rf_35 (z + 7) (fun _ => none)) fun Rf_37 =>
  yb_let (va_up I_33 (z + 7) (fun _ => 0)) fun I_38 =>
  yb_let (va_up J_34 (z + 7) (fun _ => 0)) fun J_39 =>
  yb_let (up2R Rf_37 t0 17 (some (z + 7))) fun Rf_40 =>
  yb_let (va_up S_36 (z + 8) (3, 12)) fun S_41 =>
  yb_let (va_up Rf_40 (z + 8) (fun _ => none)) fun Rf_42 =>
  yb_let (va_up I_38 (z + 8) (fun _ => 0)) fun I_43 =>
  yb_let (va_up J_39 (z + 8) (fun _ => 0)) fun J_44 =>
  yb_let (up2R Rf_42 t0 19 (some (z + 8))) fun Rf_45 =>
  yb_let (va_up S_41 (z + 9) (0, 142)) fun S_46 =>
  yb_let (va_up Rf_45 (z + 9) (fun _ => none)) fun Rf_47 =>
  yb_let (va_up I_43 (z + 9) (fun _ => 0)) fun I_48 =>
  yb_let (va_up J_44 (z + 9) (fun _ => 0)) fun J_49 =>
  yb_let (up2R Rf_47 t0 20 (some (z + 9))) fun Rf_50 =>
  yb_let (up2 I_48 t0 21 (-1 : Int32)) fun I_51 =>
  yb_let (va_up S_46 (z + 10) (0, 2220)) fun S_52 =>
  yb_let (va_up Rf_50 (z + 10) (fun _ => none)) fun Rf_53 =>
  yb_let (va_up I_51 (z + 10) (fun _ => 0)) fun I_54 =>
  yb_let (va_up J_49 (z + 10) (fun _ => 0)) fun J_55 =>
  yb_let (up2R Rf_53 t0 23 (some (z + 10))) fun Rf_56 =>
  yb_let (va_up S_52 (z + 11) (0, 6)) fun S_57 =>
  yb_let (va_up Rf_56 (z + 11) (fun _ => none)) fun Rf_58 =>
  yb_let (va_up I_54 (z + 11) (fun _ => 0)) fun I_59 =>
  yb_let (va_up J_55 (z + 11) (fun _ => 0)) fun J_60 =>
  yb_let (up2R Rf_58 t0 26 (some (z + 11))) fun Rf_61 =>
  yb_let (va_up S_57 (z + 12) (2, 2800)) fun S_62 =>
  yb_let (va_up Rf_61 (z + 12) (fun _ => none)) fun Rf_63 =>
  yb_let (va_up I_59 (z + 12) (fun _ => 0)) fun I_64 =>
  yb_let (va_up J_60 (z + 12) (fun _ => 0)) fun J_65 =>
  yb_let (up2R Rf_63 t0 27 (some (z + 12))) fun Rf_66 =>
  yb_let (va_up S_62 (z + 13) (0, 2800)) fun S_67 =>
  yb_let (va_up Rf_66 (z + 13) (fun _ => none)) fun Rf_68 =>
  yb_let (va_up I_64 (z + 13) (fun _ => 0)) fun I_69 =>
  yb_let (va_up J_65 (z + 13) (fun _ => 0)) fun J_70 =>
  yb_let (up2R Rf_68 t0 28 (some (z + 13))) fun Rf_71 =>
  yb_let (va_up S_67 (z + 14) (0, 4)) fun S_72 =>
  yb_let (va_up Rf_71 (z + 14) (fun _ => none)) fun Rf_73 =>
  yb_let (va_up I_69 (z + 14) (fun _ => 0)) fun I_74 =>
  yb_let (va_up J_70 (z + 14) (fun _ => 0)) fun J_75 =>
  yb_let (up2R Rf_73 t0 29 (some (z + 14))) fun Rf_76 =>
  yb_let (va_up S_72 (z + 15) (0, 4)) fun S_77 =>
  yb_let (va_up Rf_76 (z + 15) (fun _ => none)) fun Rf_78 =>
  yb_let (va_up I_74 (z + 15) (fun _ => 0)) fun I_79 =>
  yb_let (va_up J_75 (z + 15) (fun _ => 0)) fun J_80 =>
  yb_let (up2R Rf_78 t0 30 (some (z + 15))) fun Rf_81 =>
  yb_let (va_up S_77 (z + 16) (0, 4)) fun S_82 =>
  yb_let (va_up Rf_81 (z + 16) (fun _ => none)) fun Rf_83 =>
  yb_let (va_up I_79 (z + 16) (fun _ => 0)) fun I_84 =>
  yb_let (va_up J_80 (z + 16) (fun _ => 0)) fun J_85 =>
  yb_let (up2R Rf_83 t0 31 (some (z + 16))) fun Rf_86 =>
  yb_let (va_up S_82 (z + 17) (0, 4)) fun S_87 =>
  yb_let (va_up Rf_86 (z + 17) (fun _ => none)) fun Rf_88 =>
  yb_let (va_up I_84 (z + 17) (fun _ => 0)) fun I_89 =>
  yb_let (va_up J_85 (z + 17) (fun _ => 0)) fun J_90 =>
  yb_let (up2R Rf_88 t0 32 (some (z + 17))) fun Rf_91 =>
  yb_let (va_up S_87 (z + 18) (0, 4)) fun S_92 =>
  yb_let (va_up Rf_91 (z + 18) (fun _ => none)) fun Rf_93 =>
  yb_let (va_up I_89 (z + 18) (fun _ => 0)) fun I_94 =>
  yb_let (va_up J_90 (z + 18) (fun _ => 0)) fun J_95 =>
  yb_let (up2R Rf_93 t0 33 (some (z + 18))) fun Rf_96 =>
  yb_let (va_up S_92 (z + 19) (0, 4)) fun S_97 =>
  yb_let (va_up Rf_96 (z + 19) (fun _ => none)) fun Rf_98 =>
  yb_let (va_up I_94 (z + 19) (fun _ => 0)) fun I_99 =>
  yb_let (va_up J_95 (z + 19) (fun _ => 0)) fun J_100 =>
  yb_let (up2R Rf_98 t0 34 (some (z + 19))) fun Rf_101 =>
  yb_let (va_up S_97 (z + 20) (0, 7)) fun S_102 =>
  yb_let (va_up Rf_101 (z + 20) (fun _ => none)) fun Rf_103 =>
  yb_let (va_up I_99 (z + 20) (fun _ => 0)) fun I_104 =>
  yb_let (va_up J_100 (z + 20) (fun _ => 0)) fun J_105 =>
  yb_let (up2R Rf_103 t0 37 (some (z + 20))) fun Rf_106 =>
  yb_let (va_up S_102 (z + 21) (0, 427)) fun S_107 =>
  yb_let (va_up Rf_106 (z + 21) (fun _ => none)) fun Rf_108 =>
  yb_let (va_up I_104 (z + 21) (fun _ => 0)) fun I_109 =>
  yb_let (va_up J_105 (z + 21) (fun _ => 0)) fun J_110 =>
  yb_let (up2R Rf_108 t0 39 (some (z + 21))) fun Rf_111 =>
  yb_let (va_up S_107 (z + 22) (0, 427)) fun S_112 =>
  yb_let (va_up Rf_111 (z + 22) (fun _ => none)) fun Rf_113 =>
  yb_let (va_up I_109 (z + 22) (fun _ => 0)) fun I_114 =>
  yb_let (va_up J_110 (z + 22) (fun _ => 0)) fun J_115 =>
  yb_let (up2R Rf_113 t0 40 (some (z + 22))) fun Rf_116 =>
  yb_let (va_up S_112 (z + 23) (0, 427)) fun S_117 =>
  yb_let (va_up Rf_116 (z + 23) (fun _ => none)) fun Rf_118 =>
  yb_let (va_up I_114 (z + 23) (fun _ => 0)) fun I_119 =>
  yb_let (va_up J_115 (z + 23) (fun _ => 0)) fun J_120 =>
  yb_let (up2R Rf_118 t0 41 (some (z + 23))) fun Rf_121 =>
  yb_let (va_up S_117 (z + 24) (0, 111)) fun S_122 =>
  yb_let (va_up Rf_121 (z + 24) (fun _ => none)) fun Rf_123 =>
  yb_let (va_up I_119 (z + 24) (fun _ => 0)) fun I_124 =>
  yb_let (va_up J_120 (z + 24) (fun _ => 0)) fun J_125 =>
  yb_let (up2R Rf_123 t0 42 (some (z + 24))) fun Rf_126 =>
  yb_let (va_up S_122 (z + 25) (0, 568)) fun S_127 =>
  yb_let (va_up Rf_126 (z + 25) (fun _ => none)) fun Rf_128 =>
  yb_let (va_up I_124 (z + 25) (fun _ => 0)) fun I_129 =>
  yb_let (va_up J_125 (z + 25) (fun _ => 0)) fun J_130 =>
  yb_let (up2R Rf_128 t0 44 (some (z + 25))) fun Rf_131 =>
  yb_let (va_up S_127 (z + 26) (0, 4)) fun S_132 =>
  yb_let (va_up Rf_131 (z + 26) (fun _ => none)) fun Rf_133 =>
  yb_let (va_up I_129 (z + 26) (fun _ => 0)) fun I_134 =>
  yb_let (va_up J_130 (z + 26) (fun _ => 0)) fun J_135 =>
  yb_let (up2R Rf_133 t0 45 (some (z + 26))) fun Rf_136 =>
  yb_let (va_up S_132 (z + 27) (0, 4)) fun S_137 =>
  yb_let (va_up Rf_136 (z + 27) (fun _ => none)) fun Rf_138 =>
  yb_let (va_up I_134 (z + 27) (fun _ => 0)) fun I_139 =>
  yb_let (va_up J_135 (z + 27) (fun _ => 0)) fun J_140 =>
  yb_let (up2R Rf_138 t0 46 (some (z + 27))) fun Rf_141 =>
  yb_let (va_up S_137 (z + 28) (2, 4)) fun S_142 =>
  yb_let (va_up Rf_141 (z + 28) (fun _ => none)) fun Rf_143 =>
  yb_let (va_up I_139 (z + 28) (fun _ => 0)) fun I_144 =>
  yb_let (va_up J_140 (z + 28) (fun _ => 0)) fun J_145 =>
  yb_let (up2R Rf_143 t0 47 (some (z + 28))) fun Rf_146 =>
  (S_142, Rf_146, I_144, J_145)
theorem fS12 {t0 z a : Nat} {S : ST} {Rf : RT} {I : IT} {J : JT} (h : a < z) : (f12_init t0 z S Rf I J).1 a = S a := by
  have hne : ∀ k, a ≠ z + k := fun k => by omega
  have hn0 : a ≠ z := by omega
  simp [f12_init, yb_let, va_up, up2R, up2, hn0, hne]
theorem fR12 {t0 z a : Nat} {S : ST} {Rf : RT} {I : IT} {J : JT} (h : a < z) (ht : a ≠ t0) : (f12_init t0 z S Rf I J).2.1 a = Rf a := by
  have hne : ∀ k, a ≠ z + k := fun k => by omega
  have hn0 : a ≠ z := by omega
  simp [f12_init, yb_let, va_up, up2R, up2, hn0, hne, ht]
theorem fI12 {t0 z a : Nat} {S : ST} {Rf : RT} {I : IT} {J : JT} (h : a < z) (ht : a ≠ t0) : (f12_init t0 z S Rf I J).2.2.1 a = I a := by
  have hne : ∀ k, a ≠ z + k := fun k => by omega
  have hn0 : a ≠ z := by omega
  simp [f12_init, yb_let, va_up, up2R, up2, hn0, hne, ht]
theorem fJ12 {t0 z a : Nat} {S : ST} {Rf : RT} {I : IT} {J : JT} (h : a < z) (ht : a ≠ t0) : (f12_init t0 z S Rf I J).2.2.2 a = J a := by
  have hne : ∀ k, a ≠ z + k := fun k => by omega
  have hn0 : a ≠ z := by omega
  simp [f12_init, yb_let, va_up, up2R, up2, hn0, hne, ht]
theorem fr12 {t0 z : Nat} {S : ST} {Rf : RT} {I : IT} {J : JT} (a : Nat) (h : a < z) : (f12_init t0 z S Rf I J).1 a = S a ∧ (a ≠ t0 → (f12_init t0 z S Rf I J).2.1 a = Rf a ∧ (f12_init t0 z S Rf I J).2.2.1 a = I a ∧ (f12_init t0 z S Rf I J).2.2.2 a = J a) := ⟨fS12 h, fun ht => ⟨fR12 h ht, fI12 h ht, fJ12 h ht⟩⟩
theorem dX12_init_0 : decode cX12_init 0 = .ok (.aload_n 0, 1) := by decide +kernel
theorem dX12_init_1 : decode cX12_init 1 = .ok (.invokespecial 1, 3) := by decide +kernel
theorem dX12_init_4 : decode cX12_init 4 = .ok (.aload_n 0, 1) := by decide +kernel
theorem dX12_init_5 : decode cX12_init 5 = .ok (.sipush 400, 3) := by decide +kernel
theorem dX12_init_8 : decode cX12_init 8 = .ok (.newarray .byte, 2) := by decide +kernel
theorem dX12_init_10 : decode cX12_init 10 = .ok (.putfield 7, 3) := by decide +kernel
theorem dX12_init_13 : decode cX12_init 13 = .ok (.aload_n 0, 1) := by decide +kernel
theorem dX12_init_14 : decode cX12_init 14 = .ok (.sipush 2400, 3) := by decide +kernel
theorem dX12_init_17 : decode cX12_init 17 = .ok (.newarray .int, 2) := by decide +kernel
theorem dX12_init_19 : decode cX12_init 19 = .ok (.putfield 13, 3) := by decide +kernel
theorem dX12_init_22 : decode cX12_init 22 = .ok (.aload_n 0, 1) := by decide +kernel
theorem dX12_init_23 : decode cX12_init 23 = .ok (.bipush 7, 2) := by decide +kernel
theorem dX12_init_25 : decode cX12_init 25 = .ok (.newarray .int, 2) := by decide +kernel
theorem dX12_init_27 : decode cX12_init 27 = .ok (.putfield 17, 3) := by decide +kernel
theorem dX12_init_30 : decode cX12_init 30 = .ok (.aload_n 0, 1) := by decide +kernel
theorem dX12_init_31 : decode cX12_init 31 = .ok (.sipush 288, 3) := by decide +kernel
theorem dX12_init_34 : decode cX12_init 34 = .ok (.newarray .int, 2) := by decide +kernel
theorem dX12_init_36 : decode cX12_init 36 = .ok (.putfield 20, 3) := by decide +kernel
theorem dX12_init_39 : decode cX12_init 39 = .ok (.aload_n 0, 1) := by decide +kernel
theorem dX12_init_40 : decode cX12_init 40 = .ok (.bipush 6, 2) := by decide +kernel
theorem dX12_init_42 : decode cX12_init 42 = .ok (.newarray .int, 2) := by decide +kernel
theorem dX12_init_44 : decode cX12_init 44 = .ok (.putfield 23, 3) := by decide +kernel
theorem dX12_init_47 : decode cX12_init 47 = .ok (.aload_n 0, 1) := by decide +kernel
theorem dX12_init_48 : decode cX12_init 48 = .ok (.bipush 111, 2) := by decide +kernel
theorem dX12_init_50 : decode cX12_init 50 = .ok (.newarray .int, 2) := by decide +kernel
theorem dX12_init_52 : decode cX12_init 52 = .ok (.putfield 26, 3) := by decide +kernel
theorem dX12_init_55 : decode cX12_init 55 = .ok (.aload_n 0, 1) := by decide +kernel
theorem dX12_init_56 : decode cX12_init 56 = .ok (.sipush 400, 3) := by decide +kernel
theorem dX12_init_59 : decode cX12_init 59 = .ok (.newarray .int, 2) := by decide +kernel
theorem dX12_init_61 : decode cX12_init 61 = .ok (.putfield 29, 3) := by decide +kernel
theorem dX12_init_64 : decode cX12_init 64 = .ok (.aload_n 0, 1) := by decide +kernel
theorem dX12_init_65 : decode cX12_init 65 = .ok (.bipush 64, 2) := by decide +kernel
theorem dX12_init_67 : decode cX12_init 67 = .ok (.newarray .long, 2) := by decide +kernel
theorem dX12_init_69 : decode cX12_init 69 = .ok (.putfield 32, 3) := by decide +kernel
theorem dX12_init_72 : decode cX12_init 72 = .ok (.aload_n 0, 1) := by decide +kernel
theorem dX12_init_73 : decode cX12_init 73 = .ok (.bipush 12, 2) := by decide +kernel
theorem dX12_init_75 : decode cX12_init 75 = .ok (.newarray .long, 2) := by decide +kernel
theorem dX12_init_77 : decode cX12_init 77 = .ok (.putfield 36, 3) := by decide +kernel
theorem dX12_init_80 : decode cX12_init 80 = .ok (.aload_n 0, 1) := by decide +kernel
theorem dX12_init_81 : decode cX12_init 81 = .ok (.sipush 142, 3) := by decide +kernel
theorem dX12_init_84 : decode cX12_init 84 = .ok (.newarray .int, 2) := by decide +kernel
theorem dX12_init_86 : decode cX12_init 86 = .ok (.putfield 39, 3) := by decide +kernel
theorem dX12_init_89 : decode cX12_init 89 = .ok (.aload_n 0, 1) := by decide +kernel
theorem dX12_init_90 : decode cX12_init 90 = .ok (.iconst (-1), 1) := by decide +kernel
theorem dX12_init_91 : decode cX12_init 91 = .ok (.putfield 42, 3) := by decide +kernel
theorem dX12_init_94 : decode cX12_init 94 = .ok (.aload_n 0, 1) := by decide +kernel
theorem dX12_init_95 : decode cX12_init 95 = .ok (.sipush 2220, 3) := by decide +kernel
theorem dX12_init_98 : decode cX12_init 98 = .ok (.newarray .int, 2) := by decide +kernel
theorem dX12_init_100 : decode cX12_init 100 = .ok (.putfield 46, 3) := by decide +kernel
theorem dX12_init_103 : decode cX12_init 103 = .ok (.aload_n 0, 1) := by decide +kernel
theorem dX12_init_104 : decode cX12_init 104 = .ok (.bipush 6, 2) := by decide +kernel
theorem dX12_init_106 : decode cX12_init 106 = .ok (.newarray .int, 2) := by decide +kernel
theorem dX12_init_108 : decode cX12_init 108 = .ok (.putfield 49, 3) := by decide +kernel
theorem dX12_init_111 : decode cX12_init 111 = .ok (.aload_n 0, 1) := by decide +kernel
theorem dX12_init_112 : decode cX12_init 112 = .ok (.sipush 2800, 3) := by decide +kernel
theorem dX12_init_115 : decode cX12_init 115 = .ok (.newarray .boolean, 2) := by decide +kernel
theorem dX12_init_117 : decode cX12_init 117 = .ok (.putfield 52, 3) := by decide +kernel
theorem dX12_init_120 : decode cX12_init 120 = .ok (.aload_n 0, 1) := by decide +kernel
theorem dX12_init_121 : decode cX12_init 121 = .ok (.sipush 2800, 3) := by decide +kernel
theorem dX12_init_124 : decode cX12_init 124 = .ok (.newarray .int, 2) := by decide +kernel
theorem dX12_init_126 : decode cX12_init 126 = .ok (.putfield 56, 3) := by decide +kernel
theorem dX12_init_129 : decode cX12_init 129 = .ok (.aload_n 0, 1) := by decide +kernel
theorem dX12_init_130 : decode cX12_init 130 = .ok (.iconst 4, 1) := by decide +kernel
theorem dX12_init_131 : decode cX12_init 131 = .ok (.newarray .int, 2) := by decide +kernel
theorem dX12_init_133 : decode cX12_init 133 = .ok (.putfield 59, 3) := by decide +kernel
theorem dX12_init_136 : decode cX12_init 136 = .ok (.aload_n 0, 1) := by decide +kernel
theorem dX12_init_137 : decode cX12_init 137 = .ok (.iconst 4, 1) := by decide +kernel
theorem dX12_init_138 : decode cX12_init 138 = .ok (.newarray .int, 2) := by decide +kernel
theorem dX12_init_140 : decode cX12_init 140 = .ok (.putfield 62, 3) := by decide +kernel
theorem dX12_init_143 : decode cX12_init 143 = .ok (.aload_n 0, 1) := by decide +kernel
theorem dX12_init_144 : decode cX12_init 144 = .ok (.iconst 4, 1) := by decide +kernel
theorem dX12_init_145 : decode cX12_init 145 = .ok (.newarray .int, 2) := by decide +kernel
theorem dX12_init_147 : decode cX12_init 147 = .ok (.putfield 65, 3) := by decide +kernel
theorem dX12_init_150 : decode cX12_init 150 = .ok (.aload_n 0, 1) := by decide +kernel
theorem dX12_init_151 : decode cX12_init 151 = .ok (.iconst 4, 1) := by decide +kernel
theorem dX12_init_152 : decode cX12_init 152 = .ok (.newarray .int, 2) := by decide +kernel
theorem dX12_init_154 : decode cX12_init 154 = .ok (.putfield 68, 3) := by decide +kernel
theorem dX12_init_157 : decode cX12_init 157 = .ok (.aload_n 0, 1) := by decide +kernel
theorem dX12_init_158 : decode cX12_init 158 = .ok (.iconst 4, 1) := by decide +kernel
theorem dX12_init_159 : decode cX12_init 159 = .ok (.newarray .int, 2) := by decide +kernel
theorem dX12_init_161 : decode cX12_init 161 = .ok (.putfield 71, 3) := by decide +kernel
theorem dX12_init_164 : decode cX12_init 164 = .ok (.aload_n 0, 1) := by decide +kernel
theorem dX12_init_165 : decode cX12_init 165 = .ok (.iconst 4, 1) := by decide +kernel
theorem dX12_init_166 : decode cX12_init 166 = .ok (.newarray .int, 2) := by decide +kernel
theorem dX12_init_168 : decode cX12_init 168 = .ok (.putfield 74, 3) := by decide +kernel
theorem dX12_init_171 : decode cX12_init 171 = .ok (.aload_n 0, 1) := by decide +kernel
theorem dX12_init_172 : decode cX12_init 172 = .ok (.bipush 7, 2) := by decide +kernel
theorem dX12_init_174 : decode cX12_init 174 = .ok (.newarray .int, 2) := by decide +kernel
theorem dX12_init_176 : decode cX12_init 176 = .ok (.putfield 77, 3) := by decide +kernel
theorem dX12_init_179 : decode cX12_init 179 = .ok (.aload_n 0, 1) := by decide +kernel
theorem dX12_init_180 : decode cX12_init 180 = .ok (.sipush 427, 3) := by decide +kernel
theorem dX12_init_183 : decode cX12_init 183 = .ok (.newarray .int, 2) := by decide +kernel
theorem dX12_init_185 : decode cX12_init 185 = .ok (.putfield 80, 3) := by decide +kernel
theorem dX12_init_188 : decode cX12_init 188 = .ok (.aload_n 0, 1) := by decide +kernel
theorem dX12_init_189 : decode cX12_init 189 = .ok (.sipush 427, 3) := by decide +kernel
theorem dX12_init_192 : decode cX12_init 192 = .ok (.newarray .int, 2) := by decide +kernel
theorem dX12_init_194 : decode cX12_init 194 = .ok (.putfield 83, 3) := by decide +kernel
theorem dX12_init_197 : decode cX12_init 197 = .ok (.aload_n 0, 1) := by decide +kernel
theorem dX12_init_198 : decode cX12_init 198 = .ok (.sipush 427, 3) := by decide +kernel
theorem dX12_init_201 : decode cX12_init 201 = .ok (.newarray .int, 2) := by decide +kernel
theorem dX12_init_203 : decode cX12_init 203 = .ok (.putfield 86, 3) := by decide +kernel
theorem dX12_init_206 : decode cX12_init 206 = .ok (.aload_n 0, 1) := by decide +kernel
theorem dX12_init_207 : decode cX12_init 207 = .ok (.bipush 111, 2) := by decide +kernel
theorem dX12_init_209 : decode cX12_init 209 = .ok (.newarray .int, 2) := by decide +kernel
theorem dX12_init_211 : decode cX12_init 211 = .ok (.putfield 89, 3) := by decide +kernel
theorem dX12_init_214 : decode cX12_init 214 = .ok (.aload_n 0, 1) := by decide +kernel
theorem dX12_init_215 : decode cX12_init 215 = .ok (.sipush 568, 3) := by decide +kernel
theorem dX12_init_218 : decode cX12_init 218 = .ok (.newarray .int, 2) := by decide +kernel
theorem dX12_init_220 : decode cX12_init 220 = .ok (.putfield 92, 3) := by decide +kernel
theorem dX12_init_223 : decode cX12_init 223 = .ok (.aload_n 0, 1) := by decide +kernel
theorem dX12_init_224 : decode cX12_init 224 = .ok (.iconst 4, 1) := by decide +kernel
theorem dX12_init_225 : decode cX12_init 225 = .ok (.newarray .int, 2) := by decide +kernel
theorem dX12_init_227 : decode cX12_init 227 = .ok (.putfield 95, 3) := by decide +kernel
theorem dX12_init_230 : decode cX12_init 230 = .ok (.aload_n 0, 1) := by decide +kernel
theorem dX12_init_231 : decode cX12_init 231 = .ok (.iconst 4, 1) := by decide +kernel
theorem dX12_init_232 : decode cX12_init 232 = .ok (.newarray .int, 2) := by decide +kernel
theorem dX12_init_234 : decode cX12_init 234 = .ok (.putfield 98, 3) := by decide +kernel
theorem dX12_init_237 : decode cX12_init 237 = .ok (.aload_n 0, 1) := by decide +kernel
theorem dX12_init_238 : decode cX12_init 238 = .ok (.iconst 4, 1) := by decide +kernel
theorem dX12_init_239 : decode cX12_init 239 = .ok (.newarray .boolean, 2) := by decide +kernel
theorem dX12_init_241 : decode cX12_init 241 = .ok (.putfield 101, 3) := by decide +kernel
theorem dX12_init_244 : decode cX12_init 244 = .ok (.return_, 1) := by decide +kernel
set_option maxHeartbeats 4000000 in
set_option maxRecDepth 100000 in
theorem c12_init (l : Launch) (D : va_G) (cz : Nat → ClassId) (ev : Nat × Nat × Nat) {t0 z n0 : Nat} {L : List Nat} {S : ST} {Rf : RT} {I : IT} {J : JT} {S1 : ST} {Rf1 : RT} {I1 : IT} {J1 : JT} (ha : t0 ∈ L) (hS : S t0 = (19, n0)) (hf : f12_init t0 z S Rf I J = (S1, Rf1, I1, J1)) : MA l D cz ev yX12_init cX12_init 1 1 40 29 13659 [.ref t0] z L S Rf I J S1 Rf1 I1 J1 := by
  unfold f12_init at hf
  refine MA_of (by decide) rfl (Nat.le_of_ble_eq_true rfl) ?_
  intro p e s m args below meth c Q ls X hK hz hin hw hl hfin
  have X : CallFix p m c cX12_init 1 s args gw RX12 := X
  have hx := X.1
  have hb := X.2.1
  have hlt : t0 < z := hz ▸ wx_lt hw ha
  have hw : WX D cz _ (apn L z 0) S Rf s.heap I J s.heap [] := hw
  have hz : s.heap.size = z + 0 := hz
  have hl : lv_has ls 1 [(0, .ref t0)] := hl
  refine lv_aload_n hx hb dX12_init_0 rfl (lv_at hl 0 rfl) ?_
  refine W.objInit hx hb X.2.2.2.1 (X.2.2.2.2 _ tw_1250) (X.2.2.2.2 _ tw_146) (X.2.2.2.2 _ tw_147) rfl (by rw [X.2.2.1]; exact hl.1) rfl dX12_init_1 (Nat.le_of_ble_eq_true rfl) (Nat.le_of_ble_eq_true rfl) ?_
  refine lv_aload_n hx hb dX12_init_4 rfl (lv_at hl 0 rfl) ?_
  refine lv_sipush (v := (400 : Int32)) hx hb dX12_init_5 (by decide) ?_
  refine x_newa1 (z := z) X hK hw hz (Or.inr (Nat.le_refl z)) tw_777 (N := 400) (by decide) rfl (by decide) (Nat.le_of_ble_eq_true rfl) (Nat.le_of_ble_eq_true rfl) dX12_init_8 (fun H hw hz => ?_)
  obtain ⟨S_1, eS_1, hf⟩ := yb_let_ex hf
  obtain ⟨Rf_2, eRf_2, hf⟩ := yb_let_ex hf
  obtain ⟨I_3, eI_3, hf⟩ := yb_let_ex hf
  obtain ⟨J_4, eJ_4, hf⟩ := yb_let_ex hf
  have hw : WX D cz _ (apn L z 1) S_1 Rf_2 s.heap I_3 J_4 H [] := yb_w5 (apn_s L z 0) eS_1 eRf_2 eI_3 eJ_4 hw
  have hz : H.size = z + 1 := hz
  have hS : S_1 t0 = (19, n0) := nS_up eS_1 (Nat.ne_of_lt hlt) hS
  refine x_putR X hK hw hz (apn_old ha 1) hS cpX12 0 (by decide) rfl rfl rfl rfl hin rfl tw_1251 dX12_init_10 (fun H locs hw hz => ?_)
  obtain ⟨Rf_5, eRf_5, hf⟩ := yb_let_ex hf
  have hw := yb_wR eRf_5 hw
  refine lv_aload_n hx hb dX12_init_13 rfl (lv_at hl 0 rfl) ?_
  refine lv_sipush (v := (2400 : Int32)) hx hb dX12_init_14 (by decide) ?_
  refine x_newa0 (z := (z + 1)) X hK hw hz (Or.inr (Nat.le_add_right z 1)) tw_175 (N := 2400) (by decide) rfl (by decide) (Nat.le_of_ble_eq_true rfl) (Nat.le_of_ble_eq_true rfl) dX12_init_17 (fun H hw hz => ?_)
  obtain ⟨S_6, eS_6, hf⟩ := yb_let_ex hf
  obtain ⟨Rf_7, eRf_7, hf⟩ := yb_let_ex hf
  obtain ⟨I_8, eI_8, hf⟩ := yb_let_ex hf
  obtain ⟨J_9, eJ_9, hf⟩ := yb_let_ex hf
  have hw : WX D cz _ (apn L z 2) S_6 Rf_7 s.heap I_8 J_9 H locs := yb_w5 (apn_s L z 1) eS_6 eRf_7 eI_8 eJ_9 hw
  have hz : H.size = z + 2 := hz
  have hS : S_6 t0 = (19, n0) := nS_up eS_6 (Nat.ne_of_lt (Nat.lt_of_lt_of_le hlt (Nat.le_add_right z 1))) hS
  refine x_putR X hK hw hz (apn_old ha 2) hS cpX12 3 (by decide) rfl rfl rfl rfl hin rfl tw_1254 dX12_init_19 (fun H locs hw hz => ?_)
  obtain ⟨Rf_10, eRf_10, hf⟩ := yb_let_ex hf
  have hw := yb_wR eRf_10 hw
  refine lv_aload_n hx hb dX12_init_22 rfl (lv_at hl 0 rfl) ?_
  refine lv_bipush (v := (7 : Int32)) hx hb dX12_init_23 (by decide) ?_
  refine x_newa0 (z := (z + 2)) X hK hw hz (Or.inr (Nat.le_add_right z 2)) tw_175 (N := 7) (by decide) rfl (by decide) (Nat.le_of_ble_eq_true rfl) (Nat.le_of_ble_eq_true rfl) dX12_init_25 (fun H hw hz => ?_)
  obtain ⟨S_11, eS_11, hf⟩ := yb_let_ex hf
  obtain ⟨Rf_12, eRf_12, hf⟩ := yb_let_ex hf
  obtain ⟨I_13, eI_13, hf⟩ := yb_let_ex hf
  obtain ⟨J_14, eJ_14, hf⟩ := yb_let_ex hf
  have hw : WX D cz _ (apn L z 3) S_11 Rf_12 s.heap I_13 J_14 H locs := yb_w5 (apn_s L z 2) eS_11 eRf_12 eI_13 eJ_14 hw
  have hz : H.size = z + 3 := hz
  have hS : S_11 t0 = (19, n0) := nS_up eS_11 (Nat.ne_of_lt (Nat.lt_of_lt_of_le hlt (Nat.le_add_right z 2))) hS
  refine x_putR X hK hw hz (apn_old ha 3) hS cpX12 4 (by decide) rfl rfl rfl rfl hin rfl tw_1255 dX12_init_27 (fun H locs hw hz => ?_)
  obtain ⟨Rf_15, eRf_15, hf⟩ := yb_let_ex hf
  have hw := yb_wR eRf_15 hw
  refine lv_aload_n hx hb dX12_init_30 rfl (lv_at hl 0 rfl) ?_
  refine lv_sipush (v := (288 : Int32)) hx hb dX12_init_31 (by decide) ?_
  refine x_newa0 (z := (z + 3)) X hK hw hz (Or.inr (Nat.le_add_right z 3)) tw_175 (N := 288) (by decide) rfl (by decide) (Nat.le_of_ble_eq_true rfl) (Nat.le_of_ble_eq_true rfl) dX12_init_34 (fun H hw hz => ?_)
  obtain ⟨S_16, eS_16, hf⟩ := yb_let_ex hf
  obtain ⟨Rf_17, eRf_17, hf⟩ := yb_let_ex hf
  obtain ⟨I_18, eI_18, hf⟩ := yb_let_ex hf
  obtain ⟨J_19, eJ_19, hf⟩ := yb_let_ex hf
  have hw : WX D cz _ (apn L z 4) S_16 Rf_17 s.heap I_18 J_19 H locs := yb_w5 (apn_s L z 3) eS_16 eRf_17 eI_18 eJ_19 hw
  have hz : H.size = z + 4 := hz
  have hS : S_16 t0 = (19, n0) := nS_up eS_16 (Nat.ne_of_lt (Nat.lt_of_lt_of_le hlt (Nat.le_add_right z 3))) hS
  refine x_putR X hK hw hz (apn_old ha 4) hS cpX12 5 (by decide) rfl rfl rfl rfl hin rfl tw_1256 dX12_init_36 (fun H locs hw hz => ?_)
  obtain ⟨Rf_20, eRf_20, hf⟩ := yb_let_ex hf
  have hw := yb_wR eRf_20 hw
  refine lv_aload_n hx hb dX12_init_39 rfl (lv_at hl 0 rfl) ?_
  refine lv_bipush (v := (6 : Int32)) hx hb dX12_init_40 (by decide) ?_
  refine x_newa0 (z := (z + 4)) X hK hw hz (Or.inr (Nat.le_add_right z 4)) tw_175 (N := 6) (by decide) rfl (by decide) (Nat.le_of_ble_eq_true rfl) (Nat.le_of_ble_eq_true rfl) dX12_init_42 (fun H hw hz => ?_)
  obtain ⟨S_21, eS_21, hf⟩ := yb_let_ex hf
  obtain ⟨Rf_22, eRf_22, hf⟩ := yb_let_ex hf
  obtain ⟨I_23, eI_23, hf⟩ := yb_let_ex hf
  obtain ⟨J_24, eJ_24, hf⟩ := yb_let_ex hf
  have hw : WX D cz _ (apn L z 5) S_21 Rf_22 s.heap I_23 J_24 H locs := yb_w5 (apn_s L z 4) eS_21 eRf_22 eI_23 eJ_24 hw
  have hz : H.size = z + 5 := hz
  have hS : S_21 t0 = (19, n0) := nS_up eS_21 (Nat.ne_of_lt (Nat.lt_of_lt_of_le hlt (Nat.le_add_right z 4))) hS
  refine x_putR X hK hw hz (apn_old ha 5) hS cpX12 6 (by decide) rfl rfl rfl rfl hin rfl tw_1257 dX12_init_44 (fun H locs hw hz => ?_)
  obtain ⟨Rf_25, eRf_25, hf⟩ := yb_let_ex hf
  have hw := yb_wR eRf_25 hw
  refine lv_aload_n hx hb dX12_init_47 rfl (lv_at hl 0 rfl) ?_
  refine lv_bipush (v := (111 : Int32)) hx hb dX12_init_48 (by decide) ?_
  refine x_newa0 (z := (z + 5)) X hK hw hz (Or.inr (Nat.le_add_right z 5)) tw_175 (N := 111) (by decide) rfl (by decide) (Nat.le_of_ble_eq_true rfl) (Nat.le_of_ble_eq_true rfl) dX12_init_50 (fun H hw hz => ?_)
  obtain ⟨S_26, eS_26, hf⟩ := yb_let_ex hf
  obtain ⟨Rf_27, eRf_27, hf⟩ := yb_let_ex hf
  obtain ⟨I_28, eI_28, hf⟩ := yb_let_ex hf
  obtain ⟨J_29, eJ_29, hf⟩ := yb_let_ex hf
  have hw : WX D cz _ (apn L z 6) S_26 Rf_27 s.heap I_28 J_29 H locs := yb_w5 (apn_s L z 5) eS_26 eRf_27 eI_28 eJ_29 hw
  have hz : H.size = z + 6 := hz
  have hS : S_26 t0 = (19, n0) := nS_up eS_26 (Nat.ne_of_lt (Nat.lt_of_lt_of_le hlt (Nat.le_add_right z 5))) hS
  refine x_putR X hK hw hz (apn_old ha 6) hS cpX12 7 (by decide) rfl rfl rfl rfl hin rfl tw_1258 dX12_init_52 (fun H locs hw hz => ?_)
  obtain ⟨Rf_30, eRf_30, hf⟩ := yb_let_ex hf
  have hw := yb_wR eRf_30 hw
  refine lv_aload_n hx hb dX12_init_55 rfl (lv_at hl 0 rfl) ?_
  refine lv_sipush (v := (400 : Int32)) hx hb dX12_init_56 (by decide) ?_
  refine x_newa0 (z := (z + 6)) X hK hw hz (Or.inr (Nat.le_add_right z 6)) tw_175 (N := 400) (by decide) rfl (by decide) (Nat.le_of_ble_eq_true rfl) (Nat.le_of_ble_eq_true rfl) dX12_init_59 (fun H hw hz => ?_)
  obtain ⟨S_31, eS_31, hf⟩ := yb_let_ex hf
  obtain ⟨Rf_32, eRf_32, hf⟩ := yb_let_ex hf
  obtain ⟨I_33, eI_33, hf⟩ := yb_let_ex hf
  obtain ⟨J_34, eJ_34, hf⟩ := yb_let_ex hf
  have hw : WX D cz _ (apn L z 7) S_31 Rf_32 s.heap I_33 J_34 H locs := yb_w5 (apn_s L z 6) eS_31 eRf_32 eI_33 eJ_34 hw
  have hz : H.size = z + 7 := hz
  have hS : S_31 t0 = (19, n0) := nS_up eS_31 (Nat.ne_of_lt (Nat.lt_of_lt_of_le hlt (Nat.le_add_right z 6))) hS
  refine x_putR X hK hw hz (apn_old ha 7) hS cpX12 15 (by decide) rfl rfl rfl rfl hin rfl tw_1266 dX12_init_61 (fun H locs hw hz => ?_)
  obtain ⟨Rf_35, eRf_35, hf⟩ := yb_let_ex hf
  have hw := yb_wR eRf_35 hw
  refine lv_aload_n hx hb dX12_init_64 rfl (lv_at hl 0 rfl) ?_
  refine lv_bipush (v := (64 : Int32)) hx hb dX12_init_65 (by decide) ?_
  refine x_newa3 (z := (z + 7)) X hK hw hz (Or.inr (Nat.le_add_right z 7)) tw_420 (N := 64) (by decide) rfl (by decide) (Nat.le_of_ble_eq_true rfl) (Nat.le_of_ble_eq_true rfl) dX12_init_67 (fun H hw hz => ?_)
  obtain ⟨S_36, eS_36, hf⟩ := yb_let_ex hf
  obtain ⟨Rf_37, eRf_37, hf⟩ := yb_let_ex hf
  obtain ⟨I_38, eI_38, hf⟩ := yb_let_ex hf
  obtain ⟨J_39, eJ_39, hf⟩ := yb_let_ex hf
  have hw : WX D cz _ (apn L z 8) S_36 Rf_37 s.heap I_38 J_39 H locs := yb_w5 (apn_s L z 7) eS_36 eRf_37 eI_38 eJ_39 hw
  have hz : H.size = z + 8 := hz
  have hS : S_36 t0 = (19, n0) := nS_up eS_36 (Nat.ne_of_lt (Nat.lt_of_lt_of_le hlt (Nat.le_add_right z 7))) hS
  refine x_putR X hK hw hz (apn_old ha 8) hS cpX12 17 (by decide) rfl rfl rfl rfl hin rfl tw_1268 dX12_init_69 (fun H locs hw hz => ?_)
  obtain ⟨Rf_40, eRf_40, hf⟩ := yb_let_ex hf
  have hw := yb_wR eRf_40 hw
  refine lv_aload_n hx hb dX12_init_72 rfl (lv_at hl 0 rfl) ?_
  refine lv_bipush (v := (12 : Int32)) hx hb dX12_init_73 (by decide) ?_
  refine x_newa3 (z := (z + 8)) X hK hw hz (Or.inr (Nat.le_add_right z 8)) tw_420 (N := 12) (by decide) rfl (by decide) (Nat.le_of_ble_eq_true rfl) (Nat.le_of_ble_eq_true rfl) dX12_init_75 (fun H hw hz => ?_)
  obtain ⟨S_41, eS_41, hf⟩ := yb_let_ex hf
  obtain ⟨Rf_42, eRf_42, hf⟩ := yb_let_ex hf
  obtain ⟨I_43, eI_43, hf⟩ := yb_let_ex hf
  obtain ⟨J_44, eJ_44, hf⟩ := yb_let_ex hf
  have hw : WX D cz _ (apn L z 9) S_41 Rf_42 s.heap I_43 J_44 H locs := yb_w5 (apn_s L z 8) eS_41 eRf_42 eI_43 eJ_44 hw
  have hz : H.size = z + 9 := hz
  have hS : S_41 t0 = (19, n0) := nS_up eS_41 (Nat.ne_of_lt (Nat.lt_of_lt_of_le hlt (Nat.le_add_right z 8))) hS
  refine x_putR X hK hw hz (apn_old ha 9) hS cpX12 19 (by decide) rfl rfl rfl rfl hin rfl tw_1270 dX12_init_77 (fun H locs hw hz => ?_)
  obtain ⟨Rf_45, eRf_45, hf⟩ := yb_let_ex hf
  have hw := yb_wR eRf_45 hw
  refine lv_aload_n hx hb dX12_init_80 rfl (lv_at hl 0 rfl) ?_
  refine lv_sipush (v := (142 : Int32)) hx hb dX12_init_81 (by decide) ?_
  refine x_newa0 (z := (z + 9)) X hK hw hz (Or.inr (Nat.le_add_right z 9)) tw_175 (N := 142) (by decide) rfl (by decide) (Nat.le_of_ble_eq_true rfl) (Nat.le_of_ble_eq_true rfl) dX12_init_84 (fun H hw hz => ?_)
  obtain ⟨S_46, eS_46, hf⟩ := yb_let_ex hf
  obtain ⟨Rf_47, eRf_47, hf⟩ := yb_let_ex hf
  obtain ⟨I_48, eI_48, hf⟩ := yb_let_ex hf
  obtain ⟨J_49, eJ_49, hf⟩ := yb_let_ex hf
  have hw : WX D cz _ (apn L z 10) S_46 Rf_47 s.heap I_48 J_49 H locs := yb_w5 (apn_s L z 9) eS_46 eRf_47 eI_48 eJ_49 hw
  have hz : H.size = z + 10 := hz
  have hS : S_46 t0 = (19, n0) := nS_up eS_46 (Nat.ne_of_lt (Nat.lt_of_lt_of_le hlt (Nat.le_add_right z 9))) hS
  refine x_putR X hK hw hz (apn_old ha 10) hS cpX12 20 (by decide) rfl rfl rfl rfl hin rfl tw_1271 dX12_init_86 (fun H locs hw hz => ?_)
  obtain ⟨Rf_50, eRf_50, hf⟩ := yb_let_ex hf
  have hw := yb_wR eRf_50 hw
  refine lv_aload_n hx hb dX12_init_89 rfl (lv_at hl 0 rfl) ?_
  refine lv_iconst (v := (-1 : Int32)) hx hb dX12_init_90 (by decide) ?_
  refine x_putIz X hK hw hz (apn_old ha 10) hS cpX12 21 (by decide) rfl rfl rfl tw_1272 dX12_init_91 (fun H locs hw hz => ?_)
  obtain ⟨I_51, eI_51, hf⟩ := yb_let_ex hf
  have hw := yb_wI eI_51 hw
  refine lv_aload_n hx hb dX12_init_94 rfl (lv_at hl 0 rfl) ?_
  refine lv_sipush (v := (2220 : Int32)) hx hb dX12_init_95 (by decide) ?_
  refine x_newa0 (z := (z + 10)) X hK hw hz (Or.inr (Nat.le_add_right z 10)) tw_175 (N := 2220) (by decide) rfl (by decide) (Nat.le_of_ble_eq_true rfl) (Nat.le_of_ble_eq_true rfl) dX12_init_98 (fun H hw hz => ?_)
  obtain ⟨S_52, eS_52, hf⟩ := yb_let_ex hf
  obtain ⟨Rf_53, eRf_53, hf⟩ := yb_let_ex hf
  obtain ⟨I_54, eI_54, hf⟩ := yb_let_ex hf
  obtain ⟨J_55, eJ_55, hf⟩ := yb_let_ex hf
  have hw : WX D cz _ (apn L z 11) S_52 Rf_53 s.heap I_54 J_55 H locs := yb_w5 (apn_s L z 10) eS_52 eRf_53 eI_54 eJ_55 hw
  have hz : H.size = z + 11 := hz
  have hS : S_52 t0 = (19, n0) := nS_up eS_52 (Nat.ne_of_lt (Nat.lt_of_lt_of_le hlt (Nat.le_add_right z 10))) hS
  refine x_putR X hK hw hz (apn_old ha 11) hS cpX12 23 (by decide) rfl rfl rfl rfl hin rfl tw_1274 dX12_init_100 (fun H locs hw hz => ?_)
  obtain ⟨Rf_56, eRf_56, hf⟩ := yb_let_ex hf
  have hw := yb_wR eRf_56 hw
  refine lv_aload_n hx hb dX12_init_103 rfl (lv_at hl 0 rfl) ?_
  refine lv_bipush (v := (6 : Int32)) hx hb dX12_init_104 (by decide) ?_
  refine x_newa0 (z := (z + 11)) X hK hw hz (Or.inr (Nat.le_add_right z 11)) tw_175 (N := 6) (by decide) rfl (by decide) (Nat.le_of_ble_eq_true rfl) (Nat.le_of_ble_eq_true rfl) dX12_init_106 (fun H hw hz => ?_)
  obtain ⟨S_57, eS_57, hf⟩ := yb_let_ex hf
  obtain ⟨Rf_58, eRf_58, hf⟩ := yb_let_ex hf
  obtain ⟨I_59, eI_59, hf⟩ := yb_let_ex hf
  obtain ⟨J_60, eJ_60, hf⟩ := yb_let_ex hf
  have hw : WX D cz _ (apn L z 12) S_57 Rf_58 s.heap I_59 J_60 H locs := yb_w5 (apn_s L z 11) eS_57 eRf_58 eI_59 eJ_60 hw
  have hz : H.size = z + 12 := hz
  have hS : S_57 t0 = (19, n0) := nS_up eS_57 (Nat.ne_of_lt (Nat.lt_of_lt_of_le hlt (Nat.le_add_right z 11))) hS
  refine x_putR X hK hw hz (apn_old ha 12) hS cpX12 26 (by decide) rfl rfl rfl rfl hin rfl tw_1277 dX12_init_108 (fun H locs hw hz => ?_)
  obtain ⟨Rf_61, eRf_61, hf⟩ := yb_let_ex hf
  have hw := yb_wR eRf_61 hw
  refine lv_aload_n hx hb dX12_init_111 rfl (lv_at hl 0 rfl) ?_
  refine lv_sipush (v := (2800 : Int32)) hx hb dX12_init_112 (by decide) ?_
  refine x_newa2 (z := (z + 12)) X hK hw hz (Or.inr (Nat.le_add_right z 12)) tw_1396 (N := 2800) (by decide) rfl (by decide) (Nat.le_of_ble_eq_true rfl) (Nat.le_of_ble_eq_true rfl) dX12_init_115 (fun H hw hz => ?_)
  obtain ⟨S_62, eS_62, hf⟩ := yb_let_ex hf
  obtain ⟨Rf_63, eRf_63, hf⟩ := yb_let_ex hf
  obtain ⟨I_64, eI_64, hf⟩ := yb_let_ex hf
  obtain ⟨J_65, eJ_65, hf⟩ := yb_let_ex hf
  have hw : WX D cz _ (apn L z 13) S_62 Rf_63 s.heap I_64 J_65 H locs := yb_w5 (apn_s L z 12) eS_62 eRf_63 eI_64 eJ_65 hw
  have hz : H.size = z + 13 := hz
  have hS : S_62 t0 = (19, n0) := nS_up eS_62 (Nat.ne_of_lt (Nat.lt_of_lt_of_le hlt (Nat.le_add_right z 12))) hS
  refine x_putR X hK hw hz (apn_old ha 13) hS cpX12 27 (by decide) rfl rfl rfl rfl hin rfl tw_1278 dX12_init_117 (fun H locs hw hz => ?_)
  obtain ⟨Rf_66, eRf_66, hf⟩ := yb_let_ex hf
  have hw := yb_wR eRf_66 hw
  refine lv_aload_n hx hb dX12_init_120 rfl (lv_at hl 0 rfl) ?_
  refine lv_sipush (v := (2800 : Int32)) hx hb dX12_init_121 (by decide) ?_
  refine x_newa0 (z := (z + 13)) X hK hw hz (Or.inr (Nat.le_add_right z 13)) tw_175 (N := 2800) (by decide) rfl (by decide) (Nat.le_of_ble_eq_true rfl) (Nat.le_of_ble_eq_true rfl) dX12_init_124 (fun H hw hz => ?_)
  obtain ⟨S_67, eS_67, hf⟩ := yb_let_ex hf
  obtain ⟨Rf_68, eRf_68, hf⟩ := yb_let_ex hf
  obtain ⟨I_69, eI_69, hf⟩ := yb_let_ex hf
  obtain ⟨J_70, eJ_70, hf⟩ := yb_let_ex hf
  have hw : WX D cz _ (apn L z 14) S_67 Rf_68 s.heap I_69 J_70 H locs := yb_w5 (apn_s L z 13) eS_67 eRf_68 eI_69 eJ_70 hw
  have hz : H.size = z + 14 := hz
  have hS : S_67 t0 = (19, n0) := nS_up eS_67 (Nat.ne_of_lt (Nat.lt_of_lt_of_le hlt (Nat.le_add_right z 13))) hS
  refine x_putR X hK hw hz (apn_old ha 14) hS cpX12 28 (by decide) rfl rfl rfl rfl hin rfl tw_1279 dX12_init_126 (fun H locs hw hz => ?_)
  obtain ⟨Rf_71, eRf_71, hf⟩ := yb_let_ex hf
  have hw := yb_wR eRf_71 hw
  refine lv_aload_n hx hb dX12_init_129 rfl (lv_at hl 0 rfl) ?_
  refine lv_iconst (v := (4 : Int32)) hx hb dX12_init_130 (by decide) ?_
  refine x_newa0 (z := (z + 14)) X hK hw hz (Or.inr (Nat.le_add_right z 14)) tw_175 (N := 4) (by decide) rfl (by decide) (Nat.le_of_ble_eq_true rfl) (Nat.le_of_ble_eq_true rfl) dX12_init_131 (fun H hw hz => ?_)
  obtain ⟨S_72, eS_72, hf⟩ := yb_let_ex hf
  obtain ⟨Rf_73, eRf_73, hf⟩ := yb_let_ex hf
  obtain ⟨I_74, eI_74, hf⟩ := yb_let_ex hf
  obtain ⟨J_75, eJ_75, hf⟩ := yb_let_ex hf
  have hw : WX D cz _ (apn L z 15) S_72 Rf_73 s.heap I_74 J_75 H locs := yb_w5 (apn_s L z 14) eS_72 eRf_73 eI_74 eJ_75 hw
  have hz : H.size = z + 15 := hz
  have hS : S_72 t0 = (19, n0) := nS_up eS_72 (Nat.ne_of_lt (Nat.lt_of_lt_of_le hlt (Nat.le_add_right z 14))) hS
  refine x_putR X hK hw hz (apn_old ha 15) hS cpX12 29 (by decide) rfl rfl rfl rfl hin rfl tw_1280 dX12_init_133 (fun H locs hw hz => ?_)
  obtain ⟨Rf_76, eRf_76, hf⟩ := yb_let_ex hf
  have hw := yb_wR eRf_76 hw
  refine lv_aload_n hx hb dX12_init_136 rfl (lv_at hl 0 rfl) ?_
  refine lv_iconst (v := (4 : Int32)) hx hb dX12_init_137 (by decide) ?_
  refine x_newa0 (z := (z + 15)) X hK hw hz (Or.inr (Nat.le_add_right z 15)) tw_175 (N := 4) (by decide) rfl (by decide) (Nat.le_of_ble_eq_true rfl) (Nat.le_of_ble_eq_true rfl) dX12_init_138 (fun H hw hz => ?_)
  obtain ⟨S_77, eS_77, hf⟩ := yb_let_ex hf
  obtain ⟨Rf_78, eRf_78, hf⟩ := yb_let_ex hf
  obtain ⟨I_79, eI_79, hf⟩ := yb_let_ex hf
  obtain ⟨J_80, eJ_80, hf⟩ := yb_let_ex hf
  have hw : WX D cz _ (apn L z 16) S_77 Rf_78 s.heap I_79 J_80 H locs := yb_w5 (apn_s L z 15) eS_77 eRf_78 eI_79 eJ_80 hw
  have hz : H.size = z + 16 := hz
  have hS : S_77 t0 = (19, n0) := nS_up eS_77 (Nat.ne_of_lt (Nat.lt_of_lt_of_le hlt (Nat.le_add_right z 15))) hS
  refine x_putR X hK hw hz (apn_old ha 16) hS cpX12 30 (by decide) rfl rfl rfl rfl hin rfl tw_1281 dX12_init_140 (fun H locs hw hz => ?_)
  obtain ⟨Rf_81, eRf_81, hf⟩ := yb_let_ex hf
  have hw := yb_wR eRf_81 hw
  refine lv_aload_n hx hb dX12_init_143 rfl (lv_at hl 0 rfl) ?_
  refine lv_iconst (v := (4 : Int32)) hx hb dX12_init_144 (by decide) ?_
  refine x_newa0 (z := (z + 16)) X hK hw hz (Or.inr (Nat.le_add_right z 16)) tw_175 (N := 4) (by decide) rfl (by decide) (Nat.le_of_ble_eq_true rfl) (Nat.le_of_ble_eq_true rfl) dX12_init_145 (fun H hw hz => ?_)
  obtain ⟨S_82, eS_82, hf⟩ := yb_let_ex hf
  obtain ⟨Rf_83, eRf_83, hf⟩ := yb_let_ex hf
  obtain ⟨I_84, eI_84, hf⟩ := yb_let_ex hf
  obtain ⟨J_85, eJ_85, hf⟩ := yb_let_ex hf
  have hw : WX D cz _ (apn L z 17) S_82 Rf_83 s.heap I_84 J_85 H locs := yb_w5 (apn_s L z 16) eS_82 eRf_83 eI_84 eJ_85 hw
  have hz : H.size = z + 17 := hz
  have hS : S_82 t0 = (19, n0) := nS_up eS_82 (Nat.ne_of_lt (Nat.lt_of_lt_of_le hlt (Nat.le_add_right z 16))) hS
  refine x_putR X hK hw hz (apn_old ha 17) hS cpX12 31 (by decide) rfl rfl rfl rfl hin rfl tw_1282 dX12_init_147 (fun H locs hw hz => ?_)
  obtain ⟨Rf_86, eRf_86, hf⟩ := yb_let_ex hf
  have hw := yb_wR eRf_86 hw
  refine lv_aload_n hx hb dX12_init_150 rfl (lv_at hl 0 rfl) ?_
  refine lv_iconst (v := (4 : Int32)) hx hb dX12_init_151 (by decide) ?_
  refine x_newa0 (z := (z + 17)) X hK hw hz (Or.inr (Nat.le_add_right z 17)) tw_175 (N := 4) (by decide) rfl (by decide) (Nat.le_of_ble_eq_true rfl) (Nat.le_of_ble_eq_true rfl) dX12_init_152 (fun H hw hz => ?_)
  obtain ⟨S_87, eS_87, hf⟩ := yb_let_ex hf
  obtain ⟨Rf_88, eRf_88, hf⟩ := yb_let_ex hf
  obtain ⟨I_89, eI_89, hf⟩ := yb_let_ex hf
  obtain ⟨J_90, eJ_90, hf⟩ := yb_let_ex hf
  have hw : WX D cz _ (apn L z 18) S_87 Rf_88 s.heap I_89 J_90 H locs := yb_w5 (apn_s L z 17) eS_87 eRf_88 eI_89 eJ_90 hw
  have hz : H.size = z + 18 := hz
  have hS : S_87 t0 = (19, n0) := nS_up eS_87 (Nat.ne_of_lt (Nat.lt_of_lt_of_le hlt (Nat.le_add_right z 17))) hS
  refine x_putR X hK hw hz (apn_old ha 18) hS cpX12 32 (by decide) rfl rfl rfl rfl hin rfl tw_1283 dX12_init_154 (fun H locs hw hz => ?_)
  obtain ⟨Rf_91, eRf_91, hf⟩ := yb_let_ex hf
  have hw := yb_wR eRf_91 hw
  refine lv_aload_n hx hb dX12_init_157 rfl (lv_at hl 0 rfl) ?_
  refine lv_iconst (v := (4 : Int32)) hx hb dX12_init_158 (by decide) ?_
  refine x_newa0 (z := (z + 18)) X hK hw hz (Or.inr (Nat.le_add_right z 18)) tw_175 (N := 4) (by decide) rfl (by decide) (Nat.le_of_ble_eq_true rfl) (Nat.le_of_ble_eq_true rfl) dX12_init_159 (fun H hw hz => ?_)
  obtain ⟨S_92, eS_92, hf⟩ := yb_let_ex hf
  obtain ⟨Rf_93, eRf_93, hf⟩ := yb_let_ex hf
  obtain ⟨I_94, eI_94, hf⟩ := yb_let_ex hf
  obtain ⟨J_95, eJ_95, hf⟩ := yb_let_ex hf
  have hw : WX D cz _ (apn L z 19) S_92 Rf_93 s.heap I_94 J_95 H locs := yb_w5 (apn_s L z 18) eS_92 eRf_93 eI_94 eJ_95 hw
  have hz : H.size = z + 19 := hz
  have hS : S_92 t0 = (19, n0) := nS_up eS_92 (Nat.ne_of_lt (Nat.lt_of_lt_of_le hlt (Nat.le_add_right z 18))) hS
  refine x_putR X hK hw hz (apn_old ha 19) hS cpX12 33 (by decide) rfl rfl rfl rfl hin rfl tw_1284 dX12_init_161 (fun H locs hw hz => ?_)
  obtain ⟨Rf_96, eRf_96, hf⟩ := yb_let_ex hf
  have hw := yb_wR eRf_96 hw
  refine lv_aload_n hx hb dX12_init_164 rfl (lv_at hl 0 rfl) ?_
  refine lv_iconst (v := (4 : Int32)) hx hb dX12_init_165 (by decide) ?_
  refine x_newa0 (z := (z + 19)) X hK hw hz (Or.inr (Nat.le_add_right z 19)) tw_175 (N := 4) (by decide) rfl (by decide) (Nat.le_of_ble_eq_true rfl) (Nat.le_of_ble_eq_true rfl) dX12_init_166 (fun H hw hz => ?_)
  obtain ⟨S_97, eS_97, hf⟩ := yb_let_ex hf
  obtain ⟨Rf_98, eRf_98, hf⟩ := yb_let_ex hf
  obtain ⟨I_99, eI_99, hf⟩ := yb_let_ex hf
  obtain ⟨J_100, eJ_100, hf⟩ := yb_let_ex hf
  have hw : WX D cz _ (apn L z 20) S_97 Rf_98 s.heap I_99 J_100 H locs := yb_w5 (apn_s L z 19) eS_97 eRf_98 eI_99 eJ_100 hw
  have hz : H.size = z + 20 := hz
  have hS : S_97 t0 = (19, n0) := nS_up eS_97 (Nat.ne_of_lt (Nat.lt_of_lt_of_le hlt (Nat.le_add_right z 19))) hS
  refine x_putR X hK hw hz (apn_old ha 20) hS cpX12 34 (by decide) rfl rfl rfl rfl hin rfl tw_1285 dX12_init_168 (fun H locs hw hz => ?_)
  obtain ⟨Rf_101, eRf_101, hf⟩ := yb_let_ex hf
  have hw := yb_wR eRf_101 hw
  refine lv_aload_n hx hb dX12_init_171 rfl (lv_at hl 0 rfl) ?_
  refine lv_bipush (v := (7 : Int32)) hx hb dX12_init_172 (by decide) ?_
  refine x_newa0 (z := (z + 20)) X hK hw hz (Or.inr (Nat.le_add_right z 20)) tw_175 (N := 7) (by decide) rfl (by decide) (Nat.le_of_ble_eq_true rfl) (Nat.le_of_ble_eq_true rfl) dX12_init_174 (fun H hw hz => ?_)
  obtain ⟨S_102, eS_102, hf⟩ := yb_let_ex hf
  obtain ⟨Rf_103, eRf_103, hf⟩ := yb_let_ex hf
  obtain ⟨I_104, eI_104, hf⟩ := yb_let_ex hf
  obtain ⟨J_105, eJ_105, hf⟩ := yb_let_ex hf
  have hw : WX D cz _ (apn L z 21) S_102 Rf_103 s.heap I_104 J_105 H locs := yb_w5 (apn_s L z 20) eS_102 eRf_103 eI_104 eJ_105 hw
  have hz : H.size = z + 21 := hz
  have hS : S_102 t0 = (19, n0) := nS_up eS_102 (Nat.ne_of_lt (Nat.lt_of_lt_of_le hlt (Nat.le_add_right z 20))) hS
  refine x_putR X hK hw hz (apn_old ha 21) hS cpX12 37 (by decide) rfl rfl rfl rfl hin rfl tw_1288 dX12_init_176 (fun H locs hw hz => ?_)
  obtain ⟨Rf_106, eRf_106, hf⟩ := yb_let_ex hf
  have hw := yb_wR eRf_106 hw
  refine lv_aload_n hx hb dX12_init_179 rfl (lv_at hl 0 rfl) ?_
  refine lv_sipush (v := (427 : Int32)) hx hb dX12_init_180 (by decide) ?_
  refine x_newa0 (z := (z + 21)) X hK hw hz (Or.inr (Nat.le_add_right z 21)) tw_175 (N := 427) (by decide) rfl (by decide) (Nat.le_of_ble_eq_true rfl) (Nat.le_of_ble_eq_true rfl) dX12_init_183 (fun H hw hz => ?_)
  obtain ⟨S_107, eS_107, hf⟩ := yb_let_ex hf
  obtain ⟨Rf_108, eRf_108, hf⟩ := yb_let_ex hf
  obtain ⟨I_109, eI_109, hf⟩ := yb_let_ex hf
  obtain ⟨J_110, eJ_110, hf⟩ := yb_let_ex hf
  have hw : WX D cz _ (apn L z 22) S_107 Rf_108 s.heap I_109 J_110 H locs := yb_w5 (apn_s L z 21) eS_107 eRf_108 eI_109 eJ_110 hw
  have hz : H.size = z + 22 := hz
  have hS : S_107 t0 = (19, n0) := nS_up eS_107 (Nat.ne_of_lt (Nat.lt_of_lt_of_le hlt (Nat.le_add_right z 21))) hS
  refine x_putR X hK hw hz (apn_old ha 22) hS cpX12 39 (by decide) rfl rfl rfl rfl hin rfl tw_1290 dX12_init_185 (fun H locs hw hz => ?_)
  obtain ⟨Rf_111, eRf_111, hf⟩ := yb_let_ex hf
  have hw := yb_wR eRf_111 hw
  refine lv_aload_n hx hb dX12_init_188 rfl (lv_at hl 0 rfl) ?_
  refine lv_sipush (v := (427 : Int32)) hx hb dX12_init_189 (by decide) ?_
  refine x_newa0 (z := (z + 22)) X hK hw hz (Or.inr (Nat.le_add_right z 22)) tw_175 (N := 427) (by decide) rfl (by decide) (Nat.le_of_ble_eq_true rfl) (Nat.le_of_ble_eq_true rfl) dX12_init_192 (fun H hw hz => ?_)
  obtain ⟨S_112, eS_112, hf⟩ := yb_let_ex hf
  obtain ⟨Rf_113, eRf_113, hf⟩ := yb_let_ex hf
  obtain ⟨I_114, eI_114, hf⟩ := yb_let_ex hf
  obtain ⟨J_115, eJ_115, hf⟩ := yb_let_ex hf
  have hw : WX D cz _ (apn L z 23) S_112 Rf_113 s.heap I_114 J_115 H locs := yb_w5 (apn_s L z 22) eS_112 eRf_113 eI_114 eJ_115 hw
  have hz : H.size = z + 23 := hz
  have hS : S_112 t0 = (19, n0) := nS_up eS_112 (Nat.ne_of_lt (Nat.lt_of_lt_of_le hlt (Nat.le_add_right z 22))) hS
  refine x_putR X hK hw hz (apn_old ha 23) hS cpX12 40 (by decide) rfl rfl rfl rfl hin rfl tw_1291 dX12_init_194 (fun H locs hw hz => ?_)
  obtain ⟨Rf_116, eRf_116, hf⟩ := yb_let_ex hf
  have hw := yb_wR eRf_116 hw
  refine lv_aload_n hx hb dX12_init_197 rfl (lv_at hl 0 rfl) ?_
  refine lv_sipush (v := (427 : Int32)) hx hb dX12_init_198 (by decide) ?_
  refine x_newa0 (z := (z + 23)) X hK hw hz (Or.inr (Nat.le_add_right z 23)) tw_175 (N := 427) (by decide) rfl (by decide) (Nat.le_of_ble_eq_true rfl) (Nat.le_of_ble_eq_true rfl) dX12_init_201 (fun H hw hz => ?_)
  obtain ⟨S_117, eS_117, hf⟩ := yb_let_ex hf
  obtain ⟨Rf_118, eRf_118, hf⟩ := yb_let_ex hf
  obtain ⟨I_119, eI_119, hf⟩ := yb_let_ex hf
  obtain ⟨J_120, eJ_120, hf⟩ := yb_let_ex hf
  have hw : WX D cz _ (apn L z 24) S_117 Rf_118 s.heap I_119 J_120 H locs := yb_w5 (apn_s L z 23) eS_117 eRf_118 eI_119 eJ_120 hw
  have hz : H.size = z + 24 := hz
  have hS : S_117 t0 = (19, n0) := nS_up eS_117 (Nat.ne_of_lt (Nat.lt_of_lt_of_le hlt (Nat.le_add_right z 23))) hS
  refine x_putR X hK hw hz (apn_old ha 24) hS cpX12 41 (by decide) rfl rfl rfl rfl hin rfl tw_1292 dX12_init_203 (fun H locs hw hz => ?_)
  obtain ⟨Rf_121, eRf_121, hf⟩ := yb_let_ex hf
  have hw := yb_wR eRf_121 hw
  refine lv_aload_n hx hb dX12_init_206 rfl (lv_at hl 0 rfl) ?_
  refine lv_bipush (v := (111 : Int32)) hx hb dX12_init_207 (by decide) ?_
  refine x_newa0 (z := (z + 24)) X hK hw hz (Or.inr (Nat.le_add_right z 24)) tw_175 (N := 111) (by decide) rfl (by decide) (Nat.le_of_ble_eq_true rfl) (Nat.le_of_ble_eq_true rfl) dX12_init_209 (fun H hw hz => ?_)
  obtain ⟨S_122, eS_122, hf⟩ := yb_let_ex hf
  obtain ⟨Rf_123, eRf_123, hf⟩ := yb_let_ex hf
  obtain ⟨I_124, eI_124, hf⟩ := yb_let_ex hf
  obtain ⟨J_125, eJ_125, hf⟩ := yb_let_ex hf
  have hw : WX D cz _ (apn L z 25) S_122 Rf_123 s.heap I_124 J_125 H locs := yb_w5 (apn_s L z 24) eS_122 eRf_123 eI_124 eJ_125 hw
  have hz : H.size = z + 25 := hz
  have hS : S_122 t0 = (19, n0) := nS_up eS_122 (Nat.ne_of_lt (Nat.lt_of_lt_of_le hlt (Nat.le_add_right z 24))) hS
  refine x_putR X hK hw hz (apn_old ha 25) hS cpX12 42 (by decide) rfl rfl rfl rfl hin rfl tw_1293 dX12_init_211 (fun H locs hw hz => ?_)
  obtain ⟨Rf_126, eRf_126, hf⟩ := yb_let_ex hf
  have hw := yb_wR eRf_126 hw
  refine lv_aload_n hx hb dX12_init_214 rfl (lv_at hl 0 rfl) ?_
  refine lv_sipush (v := (568 : Int32)) hx hb dX12_init_215 (by decide) ?_
  refine x_newa0 (z := (z + 25)) X hK hw hz (Or.inr (Nat.le_add_right z 25)) tw_175 (N := 568) (by decide) rfl (by decide) (Nat.le_of_ble_eq_true rfl) (Nat.le_of_ble_eq_true rfl) dX12_init_218 (fun H hw hz => ?_)
  obtain ⟨S_127, eS_127, hf⟩ := yb_let_ex hf
  obtain ⟨Rf_128, eRf_128, hf⟩ := yb_let_ex hf
  obtain ⟨I_129, eI_129, hf⟩ := yb_let_ex hf
  obtain ⟨J_130, eJ_130, hf⟩ := yb_let_ex hf
  have hw : WX D cz _ (apn L z 26) S_127 Rf_128 s.heap I_129 J_130 H locs := yb_w5 (apn_s L z 25) eS_127 eRf_128 eI_129 eJ_130 hw
  have hz : H.size = z + 26 := hz
  have hS : S_127 t0 = (19, n0) := nS_up eS_127 (Nat.ne_of_lt (Nat.lt_of_lt_of_le hlt (Nat.le_add_right z 25))) hS
  refine x_putR X hK hw hz (apn_old ha 26) hS cpX12 44 (by decide) rfl rfl rfl rfl hin rfl tw_1295 dX12_init_220 (fun H locs hw hz => ?_)
  obtain ⟨Rf_131, eRf_131, hf⟩ := yb_let_ex hf
  have hw := yb_wR eRf_131 hw
  refine lv_aload_n hx hb dX12_init_223 rfl (lv_at hl 0 rfl) ?_
  refine lv_iconst (v := (4 : Int32)) hx hb dX12_init_224 (by decide) ?_
  refine x_newa0 (z := (z + 26)) X hK hw hz (Or.inr (Nat.le_add_right z 26)) tw_175 (N := 4) (by decide) rfl (by decide) (Nat.le_of_ble_eq_true rfl) (Nat.le_of_ble_eq_true rfl) dX12_init_225 (fun H hw hz => ?_)
  obtain ⟨S_132, eS_132, hf⟩ := yb_let_ex hf
  obtain ⟨Rf_133, eRf_133, hf⟩ := yb_let_ex hf
  obtain ⟨I_134, eI_134, hf⟩ := yb_let_ex hf
  obtain ⟨J_135, eJ_135, hf⟩ := yb_let_ex hf
  have hw : WX D cz _ (apn L z 27) S_132 Rf_133 s.heap I_134 J_135 H locs := yb_w5 (apn_s L z 26) eS_132 eRf_133 eI_134 eJ_135 hw
  have hz : H.size = z + 27 := hz
  have hS : S_132 t0 = (19, n0) := nS_up eS_132 (Nat.ne_of_lt (Nat.lt_of_lt_of_le hlt (Nat.le_add_right z 26))) hS
  refine x_putR X hK hw hz (apn_old ha 27) hS cpX12 45 (by decide) rfl rfl rfl rfl hin rfl tw_1296 dX12_init_227 (fun H locs hw hz => ?_)
  obtain ⟨Rf_136, eRf_136, hf⟩ := yb_let_ex hf
  have hw := yb_wR eRf_136 hw
  refine lv_aload_n hx hb dX12_init_230 rfl (lv_at hl 0 rfl) ?_
  refine lv_iconst (v := (4 : Int32)) hx hb dX12_init_231 (by decide) ?_
  refine x_newa0 (z := (z + 27)) X hK hw hz (Or.inr (Nat.le_add_right z 27)) tw_175 (N := 4) (by decide) rfl (by decide) (Nat.le_of_ble_eq_true rfl) (Nat.le_of_ble_eq_true rfl) dX12_init_232 (fun H hw hz => ?_)
  obtain ⟨S_137, eS_137, hf⟩ := yb_let_ex hf
  obtain ⟨Rf_138, eRf_138, hf⟩ := yb_let_ex hf
  obtain ⟨I_139, eI_139, hf⟩ := yb_let_ex hf
  obtain ⟨J_140, eJ_140, hf⟩ := yb_let_ex hf
  have hw : WX D cz _ (apn L z 28) S_137 Rf_138 s.heap I_139 J_140 H locs := yb_w5 (apn_s L z 27) eS_137 eRf_138 eI_139 eJ_140 hw
  have hz : H.size = z + 28 := hz
  have hS : S_137 t0 = (19, n0) := nS_up eS_137 (Nat.ne_of_lt (Nat.lt_of_lt_of_le hlt (Nat.le_add_right z 27))) hS
  refine x_putR X hK hw hz (apn_old ha 28) hS cpX12 46 (by decide) rfl rfl rfl rfl hin rfl tw_1297 dX12_init_234 (fun H locs hw hz => ?_)
  obtain ⟨Rf_141, eRf_141, hf⟩ := yb_let_ex hf
  have hw := yb_wR eRf_141 hw
  refine lv_aload_n hx hb dX12_init_237 rfl (lv_at hl 0 rfl) ?_
  refine lv_iconst (v := (4 : Int32)) hx hb dX12_init_238 (by decide) ?_
  refine x_newa2 (z := (z + 28)) X hK hw hz (Or.inr (Nat.le_add_right z 28)) tw_1396 (N := 4) (by decide) rfl (by decide) (Nat.le_of_ble_eq_true rfl) (Nat.le_of_ble_eq_true rfl) dX12_init_239 (fun H hw hz => ?_)
  obtain ⟨S_142, eS_142, hf⟩ := yb_let_ex hf
  obtain ⟨Rf_143, eRf_143, hf⟩ := yb_let_ex hf
  obtain ⟨I_144, eI_144, hf⟩ := yb_let_ex hf
  obtain ⟨J_145, eJ_145, hf⟩ := yb_let_ex hf
  have hw : WX D cz _ (apn L z 29) S_142 Rf_143 s.heap I_144 J_145 H locs := yb_w5 (apn_s L z 28) eS_142 eRf_143 eI_144 eJ_145 hw
  have hz : H.size = z + 29 := hz
  have hS : S_142 t0 = (19, n0) := nS_up eS_142 (Nat.ne_of_lt (Nat.lt_of_lt_of_le hlt (Nat.le_add_right z 28))) hS
  refine x_putR X hK hw hz (apn_old ha 29) hS cpX12 47 (by decide) rfl rfl rfl rfl hin rfl tw_1298 dX12_init_241 (fun H locs hw hz => ?_)
  obtain ⟨Rf_146, eRf_146, hf⟩ := yb_let_ex hf
  have hw := yb_wR eRf_146 hw
  cases hf
  exact hfin _ _ _ _ hw hz dX12_init_244
