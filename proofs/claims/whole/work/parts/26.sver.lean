theorem vw_X11_235 : VW RX11 235 yX2_keep cX2_keep 2 (none) 1 := ⟨⟨tw_991, tw_992, tw_993, tw_124, tw_994⟩, by decide +kernel⟩
theorem vw_X11_143 : VW RX11 143 yX6_reads cX6_reads 3 (some .boolean) 0 := ⟨⟨tw_782, tw_783, tw_784, tw_129, tw_785⟩, by decide +kernel⟩
theorem dX2_keep_0 : decode cX2_keep 0 = .ok (.aload_n 0, 1) := by decide +kernel
theorem dX2_keep_1 : decode cX2_keep 1 = .ok (.getfield 11, 3) := by decide +kernel
theorem dX2_keep_4 : decode cX2_keep 4 = .ok (.aload_n 0, 1) := by decide +kernel
theorem dX2_keep_5 : decode cX2_keep 5 = .ok (.getfield 21, 3) := by decide +kernel
theorem dX2_keep_8 : decode cX2_keep 8 = .ok (.aaload, 1) := by decide +kernel
theorem dX2_keep_9 : decode cX2_keep 9 = .ok (.ifnonnull 19, 3) := by decide +kernel
theorem dX2_keep_12 : decode cX2_keep 12 = .ok (.aload_n 0, 1) := by decide +kernel
theorem dX2_keep_13 : decode cX2_keep 13 = .ok (.getfield 11, 3) := by decide +kernel
theorem dX2_keep_16 : decode cX2_keep 16 = .ok (.aload_n 0, 1) := by decide +kernel
theorem dX2_keep_17 : decode cX2_keep 17 = .ok (.getfield 21, 3) := by decide +kernel
theorem dX2_keep_20 : decode cX2_keep 20 = .ok (.new 9, 3) := by decide +kernel
theorem dX2_keep_23 : decode cX2_keep 23 = .ok (.dup, 1) := by decide +kernel
theorem dX2_keep_24 : decode cX2_keep 24 = .ok (.invokespecial 24, 3) := by decide +kernel
theorem dX2_keep_27 : decode cX2_keep 27 = .ok (.aastore, 1) := by decide +kernel
theorem dX2_keep_28 : decode cX2_keep 28 = .ok (.aload_n 0, 1) := by decide +kernel
theorem dX2_keep_29 : decode cX2_keep 29 = .ok (.getfield 11, 3) := by decide +kernel
theorem dX2_keep_32 : decode cX2_keep 32 = .ok (.aload_n 0, 1) := by decide +kernel
theorem dX2_keep_33 : decode cX2_keep 33 = .ok (.getfield 21, 3) := by decide +kernel
theorem dX2_keep_36 : decode cX2_keep 36 = .ok (.aaload, 1) := by decide +kernel
theorem dX2_keep_37 : decode cX2_keep 37 = .ok (.aload_n 1, 1) := by decide +kernel
theorem dX2_keep_38 : decode cX2_keep 38 = .ok (.invokevirtual 25, 3) := by decide +kernel
theorem dX2_keep_41 : decode cX2_keep 41 = .ok (.aload_n 0, 1) := by decide +kernel
theorem dX2_keep_42 : decode cX2_keep 42 = .ok (.aload_n 0, 1) := by decide +kernel
theorem dX2_keep_43 : decode cX2_keep 43 = .ok (.getfield 21, 3) := by decide +kernel
theorem dX2_keep_46 : decode cX2_keep 46 = .ok (.iconst 1, 1) := by decide +kernel
theorem dX2_keep_47 : decode cX2_keep 47 = .ok (.iadd, 1) := by decide +kernel
theorem dX2_keep_48 : decode cX2_keep 48 = .ok (.bipush 20, 2) := by decide +kernel
theorem dX2_keep_50 : decode cX2_keep 50 = .ok (.if_icmp .ge 12, 3) := by decide +kernel
theorem dX2_keep_53 : decode cX2_keep 53 = .ok (.aload_n 0, 1) := by decide +kernel
theorem dX2_keep_54 : decode cX2_keep 54 = .ok (.getfield 21, 3) := by decide +kernel
theorem dX2_keep_57 : decode cX2_keep 57 = .ok (.iconst 1, 1) := by decide +kernel
theorem dX2_keep_58 : decode cX2_keep 58 = .ok (.iadd, 1) := by decide +kernel
theorem dX2_keep_59 : decode cX2_keep 59 = .ok (.goto 4, 3) := by decide +kernel
theorem dX2_keep_62 : decode cX2_keep 62 = .ok (.iconst 0, 1) := by decide +kernel
theorem dX2_keep_63 : decode cX2_keep 63 = .ok (.putfield 21, 3) := by decide +kernel
theorem dX2_keep_66 : decode cX2_keep 66 = .ok (.aload_n 0, 1) := by decide +kernel
theorem dX2_keep_67 : decode cX2_keep 67 = .ok (.aload_n 0, 1) := by decide +kernel
theorem dX2_keep_68 : decode cX2_keep 68 = .ok (.getfield 17, 3) := by decide +kernel
theorem dX2_keep_71 : decode cX2_keep 71 = .ok (.iconst 1, 1) := by decide +kernel
theorem dX2_keep_72 : decode cX2_keep 72 = .ok (.iadd, 1) := by decide +kernel
theorem dX2_keep_73 : decode cX2_keep 73 = .ok (.bipush 20, 2) := by decide +kernel
theorem dX2_keep_75 : decode cX2_keep 75 = .ok (.invokestatic 29, 3) := by decide +kernel
theorem dX2_keep_78 : decode cX2_keep 78 = .ok (.putfield 17, 3) := by decide +kernel
theorem dX2_keep_81 : decode cX2_keep 81 = .ok (.return_, 1) := by decide +kernel
theorem dX11_day_0 : decode cX11_day 0 = .ok (.aload_n 0, 1) := by decide +kernel
theorem dX11_day_1 : decode cX11_day 1 = .ok (.getfield 31, 3) := by decide +kernel
theorem dX11_day_4 : decode cX11_day 4 = .ok (.getfield 134, 3) := by decide +kernel
theorem dX11_day_7 : decode cX11_day 7 = .ok (.getfield 231, 3) := by decide +kernel
theorem dX11_day_10 : decode cX11_day 10 = .ok (.ifCond .eq 19, 3) := by decide +kernel
theorem dX11_day_13 : decode cX11_day 13 = .ok (.aload_n 0, 1) := by decide +kernel
theorem dX11_day_14 : decode cX11_day 14 = .ok (.getfield 31, 3) := by decide +kernel
theorem dX11_day_17 : decode cX11_day 17 = .ok (.getfield 155, 3) := by decide +kernel
theorem dX11_day_20 : decode cX11_day 20 = .ok (.getfield 161, 3) := by decide +kernel
theorem dX11_day_23 : decode cX11_day 23 = .ok (.sipush 999, 3) := by decide +kernel
theorem dX11_day_26 : decode cX11_day 26 = .ok (.if_icmp .lt 5, 3) := by decide +kernel
theorem dX11_day_29 : decode cX11_day 29 = .ok (.iconst (-1), 1) := by decide +kernel
theorem dX11_day_30 : decode cX11_day 30 = .ok (.ireturn, 1) := by decide +kernel
theorem dX11_day_31 : decode cX11_day 31 = .ok (.aload_n 0, 1) := by decide +kernel
theorem dX11_day_32 : decode cX11_day 32 = .ok (.getfield 42, 3) := by decide +kernel
theorem dX11_day_35 : decode cX11_day 35 = .ok (.aload_n 0, 1) := by decide +kernel
theorem dX11_day_36 : decode cX11_day 36 = .ok (.getfield 31, 3) := by decide +kernel
theorem dX11_day_39 : decode cX11_day 39 = .ok (.getfield 155, 3) := by decide +kernel
theorem dX11_day_42 : decode cX11_day 42 = .ok (.invokevirtual 235, 3) := by decide +kernel
theorem dX11_day_45 : decode cX11_day 45 = .ok (.aload_n 0, 1) := by decide +kernel
theorem dX11_day_46 : decode cX11_day 46 = .ok (.getfield 31, 3) := by decide +kernel
theorem dX11_day_49 : decode cX11_day 49 = .ok (.getfield 155, 3) := by decide +kernel
theorem dX11_day_52 : decode cX11_day 52 = .ok (.aload_n 0, 1) := by decide +kernel
theorem dX11_day_53 : decode cX11_day 53 = .ok (.getfield 31, 3) := by decide +kernel
theorem dX11_day_56 : decode cX11_day 56 = .ok (.getfield 134, 3) := by decide +kernel
theorem dX11_day_59 : decode cX11_day 59 = .ok (.invokevirtual 239, 3) := by decide +kernel
theorem dX11_day_62 : decode cX11_day 62 = .ok (.invokestatic 243, 3) := by decide +kernel
theorem dX11_day_65 : decode cX11_day 65 = .ok (.ireturn, 1) := by decide +kernel
theorem dX11_hear_0 : decode cX11_hear 0 = .ok (.aload_n 0, 1) := by decide +kernel
theorem dX11_hear_1 : decode cX11_hear 1 = .ok (.iload_n 1, 1) := by decide +kernel
theorem dX11_hear_2 : decode cX11_hear 2 = .ok (.iload_n 2, 1) := by decide +kernel
theorem dX11_hear_3 : decode cX11_hear 3 = .ok (.invokevirtual 219, 3) := by decide +kernel
theorem dX11_hear_6 : decode cX11_hear 6 = .ok (.ifCond .eq 15, 3) := by decide +kernel
theorem dX11_hear_9 : decode cX11_hear 9 = .ok (.aload_n 0, 1) := by decide +kernel
theorem dX11_hear_10 : decode cX11_hear 10 = .ok (.getfield 51, 3) := by decide +kernel
theorem dX11_hear_13 : decode cX11_hear 13 = .ok (.iload_n 1, 1) := by decide +kernel
theorem dX11_hear_14 : decode cX11_hear 14 = .ok (.iload_n 2, 1) := by decide +kernel
theorem dX11_hear_15 : decode cX11_hear 15 = .ok (.invokevirtual 248, 3) := by decide +kernel
theorem dX11_hear_18 : decode cX11_hear 18 = .ok (.ifCond .ne 5, 3) := by decide +kernel
theorem dX11_hear_21 : decode cX11_hear 21 = .ok (.iconst (-1), 1) := by decide +kernel
theorem dX11_hear_22 : decode cX11_hear 22 = .ok (.ireturn, 1) := by decide +kernel
theorem dX11_hear_23 : decode cX11_hear 23 = .ok (.aload_n 0, 1) := by decide +kernel
theorem dX11_hear_24 : decode cX11_hear 24 = .ok (.getfield 42, 3) := by decide +kernel
theorem dX11_hear_27 : decode cX11_hear 27 = .ok (.aload_n 0, 1) := by decide +kernel
theorem dX11_hear_28 : decode cX11_hear 28 = .ok (.getfield 31, 3) := by decide +kernel
theorem dX11_hear_31 : decode cX11_hear 31 = .ok (.getfield 155, 3) := by decide +kernel
theorem dX11_hear_34 : decode cX11_hear 34 = .ok (.invokevirtual 235, 3) := by decide +kernel
theorem dX11_hear_37 : decode cX11_hear 37 = .ok (.aload_n 0, 1) := by decide +kernel
theorem dX11_hear_38 : decode cX11_hear 38 = .ok (.getfield 51, 3) := by decide +kernel
theorem dX11_hear_41 : decode cX11_hear 41 = .ok (.iload_n 1, 1) := by decide +kernel
theorem dX11_hear_42 : decode cX11_hear 42 = .ok (.iload_n 2, 1) := by decide +kernel
theorem dX11_hear_43 : decode cX11_hear 43 = .ok (.invokevirtual 251, 3) := by decide +kernel
theorem dX11_hear_46 : decode cX11_hear 46 = .ok (.aload_n 0, 1) := by decide +kernel
theorem dX11_hear_47 : decode cX11_hear 47 = .ok (.getfield 31, 3) := by decide +kernel
theorem dX11_hear_50 : decode cX11_hear 50 = .ok (.getfield 155, 3) := by decide +kernel
theorem dX11_hear_53 : decode cX11_hear 53 = .ok (.getfield 255, 3) := by decide +kernel
theorem dX11_hear_56 : decode cX11_hear 56 = .ok (.iload_n 1, 1) := by decide +kernel
theorem dX11_hear_57 : decode cX11_hear 57 = .ok (.iaload, 1) := by decide +kernel
theorem dX11_hear_58 : decode cX11_hear 58 = .ok (.ireturn, 1) := by decide +kernel
theorem dX11_teach_0 : decode cX11_teach 0 = .ok (.aload_n 0, 1) := by decide +kernel
theorem dX11_teach_1 : decode cX11_teach 1 = .ok (.getfield 31, 3) := by decide +kernel
theorem dX11_teach_4 : decode cX11_teach 4 = .ok (.getfield 134, 3) := by decide +kernel
theorem dX11_teach_7 : decode cX11_teach 7 = .ok (.iload_n 1, 1) := by decide +kernel
theorem dX11_teach_8 : decode cX11_teach 8 = .ok (.invokevirtual 151, 3) := by decide +kernel
theorem dX11_teach_11 : decode cX11_teach 11 = .ok (.ifCond .eq 20, 3) := by decide +kernel
theorem dX11_teach_14 : decode cX11_teach 14 = .ok (.aload_n 0, 1) := by decide +kernel
theorem dX11_teach_15 : decode cX11_teach 15 = .ok (.getfield 31, 3) := by decide +kernel
theorem dX11_teach_18 : decode cX11_teach 18 = .ok (.getfield 155, 3) := by decide +kernel
theorem dX11_teach_21 : decode cX11_teach 21 = .ok (.getfield 164, 3) := by decide +kernel
theorem dX11_teach_24 : decode cX11_teach 24 = .ok (.iload_n 1, 1) := by decide +kernel
theorem dX11_teach_25 : decode cX11_teach 25 = .ok (.iaload, 1) := by decide +kernel
theorem dX11_teach_26 : decode cX11_teach 26 = .ok (.bipush 9, 2) := by decide +kernel
theorem dX11_teach_28 : decode cX11_teach 28 = .ok (.if_icmp .lt 5, 3) := by decide +kernel
theorem dX11_teach_31 : decode cX11_teach 31 = .ok (.iconst (-1), 1) := by decide +kernel
theorem dX11_teach_32 : decode cX11_teach 32 = .ok (.ireturn, 1) := by decide +kernel
theorem dX11_teach_33 : decode cX11_teach 33 = .ok (.aload_n 0, 1) := by decide +kernel
theorem dX11_teach_34 : decode cX11_teach 34 = .ok (.getfield 42, 3) := by decide +kernel
theorem dX11_teach_37 : decode cX11_teach 37 = .ok (.aload_n 0, 1) := by decide +kernel
theorem dX11_teach_38 : decode cX11_teach 38 = .ok (.getfield 31, 3) := by decide +kernel
theorem dX11_teach_41 : decode cX11_teach 41 = .ok (.getfield 155, 3) := by decide +kernel
theorem dX11_teach_44 : decode cX11_teach 44 = .ok (.invokevirtual 235, 3) := by decide +kernel
theorem dX11_teach_47 : decode cX11_teach 47 = .ok (.aload_n 0, 1) := by decide +kernel
theorem dX11_teach_48 : decode cX11_teach 48 = .ok (.getfield 31, 3) := by decide +kernel
theorem dX11_teach_51 : decode cX11_teach 51 = .ok (.getfield 155, 3) := by decide +kernel
theorem dX11_teach_54 : decode cX11_teach 54 = .ok (.getfield 164, 3) := by decide +kernel
theorem dX11_teach_57 : decode cX11_teach 57 = .ok (.iload_n 1, 1) := by decide +kernel
theorem dX11_teach_58 : decode cX11_teach 58 = .ok (.dup2, 1) := by decide +kernel
theorem dX11_teach_59 : decode cX11_teach 59 = .ok (.iaload, 1) := by decide +kernel
theorem dX11_teach_60 : decode cX11_teach 60 = .ok (.iconst 1, 1) := by decide +kernel
theorem dX11_teach_61 : decode cX11_teach 61 = .ok (.iadd, 1) := by decide +kernel
theorem dX11_teach_62 : decode cX11_teach 62 = .ok (.iastore, 1) := by decide +kernel
theorem dX11_teach_63 : decode cX11_teach 63 = .ok (.aload_n 0, 1) := by decide +kernel
theorem dX11_teach_64 : decode cX11_teach 64 = .ok (.getfield 31, 3) := by decide +kernel
theorem dX11_teach_67 : decode cX11_teach 67 = .ok (.getfield 155, 3) := by decide +kernel
theorem dX11_teach_70 : decode cX11_teach 70 = .ok (.getfield 164, 3) := by decide +kernel
theorem dX11_teach_73 : decode cX11_teach 73 = .ok (.iload_n 1, 1) := by decide +kernel
theorem dX11_teach_74 : decode cX11_teach 74 = .ok (.iaload, 1) := by decide +kernel
theorem dX11_teach_75 : decode cX11_teach 75 = .ok (.ireturn, 1) := by decide +kernel
theorem dX11_image_0 : decode cX11_image 0 = .ok (.iload_n 1, 1) := by decide +kernel
theorem dX11_image_1 : decode cX11_image 1 = .ok (.ifCond .lt 8, 3) := by decide +kernel
theorem dX11_image_4 : decode cX11_image 4 = .ok (.iload_n 1, 1) := by decide +kernel
theorem dX11_image_5 : decode cX11_image 5 = .ok (.iconst 4, 1) := by decide +kernel
theorem dX11_image_6 : decode cX11_image 6 = .ok (.if_icmp .lt 5, 3) := by decide +kernel
theorem dX11_image_9 : decode cX11_image 9 = .ok (.iconst (-1), 1) := by decide +kernel
theorem dX11_image_10 : decode cX11_image 10 = .ok (.ireturn, 1) := by decide +kernel
theorem dX11_image_11 : decode cX11_image 11 = .ok (.aload_n 0, 1) := by decide +kernel
theorem dX11_image_12 : decode cX11_image 12 = .ok (.getfield 35, 3) := by decide +kernel
theorem dX11_image_15 : decode cX11_image 15 = .ok (.iload_n 1, 1) := by decide +kernel
theorem dX11_image_16 : decode cX11_image 16 = .ok (.aaload, 1) := by decide +kernel
theorem dX11_image_17 : decode cX11_image 17 = .ok (.ifnonnull 16, 3) := by decide +kernel
theorem dX11_image_20 : decode cX11_image 20 = .ok (.aload_n 0, 1) := by decide +kernel
theorem dX11_image_21 : decode cX11_image 21 = .ok (.getfield 35, 3) := by decide +kernel
theorem dX11_image_24 : decode cX11_image 24 = .ok (.iload_n 1, 1) := by decide +kernel
theorem dX11_image_25 : decode cX11_image 25 = .ok (.new 28, 3) := by decide +kernel
theorem dX11_image_28 : decode cX11_image 28 = .ok (.dup, 1) := by decide +kernel
theorem dX11_image_29 : decode cX11_image 29 = .ok (.invokespecial 30, 3) := by decide +kernel
theorem dX11_image_32 : decode cX11_image 32 = .ok (.aastore, 1) := by decide +kernel
theorem dX11_image_33 : decode cX11_image 33 = .ok (.aload_n 0, 1) := by decide +kernel
theorem dX11_image_34 : decode cX11_image 34 = .ok (.getfield 35, 3) := by decide +kernel
theorem dX11_image_37 : decode cX11_image 37 = .ok (.iload_n 1, 1) := by decide +kernel
theorem dX11_image_38 : decode cX11_image 38 = .ok (.aaload, 1) := by decide +kernel
theorem dX11_image_39 : decode cX11_image 39 = .ok (.aload_n 0, 1) := by decide +kernel
theorem dX11_image_40 : decode cX11_image 40 = .ok (.getfield 31, 3) := by decide +kernel
theorem dX11_image_43 : decode cX11_image 43 = .ok (.invokevirtual 370, 3) := by decide +kernel
theorem dX11_image_46 : decode cX11_image 46 = .ok (.aload_n 0, 1) := by decide +kernel
theorem dX11_image_47 : decode cX11_image 47 = .ok (.getfield 31, 3) := by decide +kernel
theorem dX11_image_50 : decode cX11_image 50 = .ok (.getfield 155, 3) := by decide +kernel
theorem dX11_image_53 : decode cX11_image 53 = .ok (.getfield 161, 3) := by decide +kernel
theorem dX11_image_56 : decode cX11_image 56 = .ok (.ireturn, 1) := by decide +kernel
theorem dX11_rule_0 : decode cX11_rule 0 = .ok (.aload_n 0, 1) := by decide +kernel
theorem dX11_rule_1 : decode cX11_rule 1 = .ok (.getfield 110, 3) := by decide +kernel
theorem dX11_rule_4 : decode cX11_rule 4 = .ok (.bipush 6, 2) := by decide +kernel
theorem dX11_rule_6 : decode cX11_rule 6 = .ok (.if_icmp .lt 5, 3) := by decide +kernel
theorem dX11_rule_9 : decode cX11_rule 9 = .ok (.iconst (-1), 1) := by decide +kernel
theorem dX11_rule_10 : decode cX11_rule 10 = .ok (.ireturn, 1) := by decide +kernel
theorem dX11_rule_11 : decode cX11_rule 11 = .ok (.aload_n 0, 1) := by decide +kernel
theorem dX11_rule_12 : decode cX11_rule 12 = .ok (.invokevirtual 117, 3) := by decide +kernel
theorem dX11_rule_15 : decode cX11_rule 15 = .ok (.aload_n 0, 1) := by decide +kernel
theorem dX11_rule_16 : decode cX11_rule 16 = .ok (.getfield 92, 3) := by decide +kernel
theorem dX11_rule_19 : decode cX11_rule 19 = .ok (.invokevirtual 143, 3) := by decide +kernel
theorem dX11_rule_22 : decode cX11_rule 22 = .ok (.ifCond .ne 14, 3) := by decide +kernel
theorem dX11_rule_25 : decode cX11_rule 25 = .ok (.bipush (-2), 2) := by decide +kernel
theorem dX11_rule_27 : decode cX11_rule 27 = .ok (.aload_n 0, 1) := by decide +kernel
theorem dX11_rule_28 : decode cX11_rule 28 = .ok (.getfield 18, 3) := by decide +kernel
theorem dX11_rule_31 : decode cX11_rule 31 = .ok (.getfield 124, 3) := by decide +kernel
theorem dX11_rule_34 : decode cX11_rule 34 = .ok (.isub, 1) := by decide +kernel
theorem dX11_rule_35 : decode cX11_rule 35 = .ok (.ireturn, 1) := by decide +kernel
theorem dX11_rule_36 : decode cX11_rule 36 = .ok (.aload_n 0, 1) := by decide +kernel
theorem dX11_rule_37 : decode cX11_rule 37 = .ok (.getfield 24, 3) := by decide +kernel
theorem dX11_rule_40 : decode cX11_rule 40 = .ok (.aload_n 0, 1) := by decide +kernel
theorem dX11_rule_41 : decode cX11_rule 41 = .ok (.getfield 110, 3) := by decide +kernel
theorem dX11_rule_44 : decode cX11_rule 44 = .ok (.aload_n 0, 1) := by decide +kernel
theorem dX11_rule_45 : decode cX11_rule 45 = .ok (.getfield 92, 3) := by decide +kernel
theorem dX11_rule_48 : decode cX11_rule 48 = .ok (.invokevirtual 144, 3) := by decide +kernel
theorem dX11_rule_51 : decode cX11_rule 51 = .ok (.aastore, 1) := by decide +kernel
theorem dX11_rule_52 : decode cX11_rule 52 = .ok (.aload_n 0, 1) := by decide +kernel
theorem dX11_rule_53 : decode cX11_rule 53 = .ok (.dup, 1) := by decide +kernel
theorem dX11_rule_54 : decode cX11_rule 54 = .ok (.getfield 110, 3) := by decide +kernel
theorem dX11_rule_57 : decode cX11_rule 57 = .ok (.iconst 1, 1) := by decide +kernel
theorem dX11_rule_58 : decode cX11_rule 58 = .ok (.iadd, 1) := by decide +kernel
theorem dX11_rule_59 : decode cX11_rule 59 = .ok (.putfield 110, 3) := by decide +kernel
theorem dX11_rule_62 : decode cX11_rule 62 = .ok (.aload_n 0, 1) := by decide +kernel
theorem dX11_rule_63 : decode cX11_rule 63 = .ok (.getfield 110, 3) := by decide +kernel
theorem dX11_rule_66 : decode cX11_rule 66 = .ok (.iconst 1, 1) := by decide +kernel
theorem dX11_rule_67 : decode cX11_rule 67 = .ok (.isub, 1) := by decide +kernel
theorem dX11_rule_68 : decode cX11_rule 68 = .ok (.ireturn, 1) := by decide +kernel
section XCRET
variable {p : Program} {l : Launch} {e : Env} {R : Room} {s : State} {m : MethodId} {args : Array Value} {below : List Frame} {meth : Method} {c : Code} {H : Heap} {locs : List Loc} {Q : State → Prop} {cells slots : Nat}
variable {cc : ByteArray} {pc : Nat} {ls : Array Slot} {D : va_G} {cz : Nat → ClassId} {A : Nat → Prop} {L : List Nat} {S : ST} {Rf : RT} {H0 : Heap} {I I1 : IT} {J J1 : JT}
theorem yb_creti {r v : Int32} (hfin : ∀ (H : Heap) (locs : List Loc) (ls : Array Slot) (pc : Nat), WX D cz A L S Rf H0 I1 J1 H locs → decode cc pc = .ok (.ireturn, 1) → W p l e R s m args below meth c H locs cells slots Q (F0 m pc ls [.int r])) (hf : some (v, I, J) = some (r, I1, J1)) (hw : WX D cz A L S Rf H0 I J H locs) (hd : decode cc pc = .ok (.ireturn, 1)) : W p l e R s m args below meth c H locs cells slots Q (F0 m pc ls [.int v]) := by
  cases hf; exact hfin H locs ls pc hw hd
theorem yb_cretv {r v : Unit} (hfin : ∀ (H : Heap) (locs : List Loc) (ls : Array Slot) (pc : Nat), WX D cz A L S Rf H0 I1 J1 H locs → decode cc pc = .ok (.return_, 1) → W p l e R s m args below meth c H locs cells slots Q (F0 m pc ls [])) (hf : some (v, I, J) = some (r, I1, J1)) (hw : WX D cz A L S Rf H0 I J H locs) (hd : decode cc pc = .ok (.return_, 1)) : W p l e R s m args below meth c H locs cells slots Q (F0 m pc ls []) := by
  cases hf; exact hfin H locs ls pc hw hd
end XCRET
def f2_keep (b : Nat) (S : ST) (Rf : RT) (t1 : Nat) (I : IT) (J : JT) : Option (Unit × IT × JT) :=
  yb_ck (inb (I (b + 28) 1) 20) fun _ =>
  yb_op (Rf (b + 29) (I (b + 28) 1).toNatClampNeg) (fun _ =>
    none) fun t_2 =>
  yb_b3 (f0_copy b S Rf t_2 t1  I J) fun r_4 I_5 J_6 =>
  if (20 : Int32) ≤ ((I_5 (b + 28) 1) + (1 : Int32)) then
    yb_let (up2 I_5 (b + 28) 1 (0 : Int32)) fun I_9 =>
    yb_let (up2 I_9 (b + 28) 2 (if (20 : Int32) < ((I_9 (b + 28) 2) + (1 : Int32)) then (20 : Int32) else ((I_9 (b + 28) 2) + (1 : Int32)))) fun I_10 =>
    some ((), I_10, J_6)
  else
    yb_let (up2 I_5 (b + 28) 1 ((I_5 (b + 28) 1) + (1 : Int32))) fun I_11 =>
    yb_let (up2 I_11 (b + 28) 2 (if (20 : Int32) < ((I_11 (b + 28) 2) + (1 : Int32)) then (20 : Int32) else ((I_11 (b + 28) 2) + (1 : Int32)))) fun I_12 =>
    some ((), I_12, J_6)
def f11_day (N : Nat) (b : Nat) (S : ST) (Rf : RT) (I : IT) (J : JT) : Option (Int32 × IT × JT) :=
  if (I (b + 5) 8) = 0 then
    some ((-1 : Int32), I, J)
  else
    if (I (b + 14) 9) < (999 : Int32) then
      yb_b3 (f2_keep b S Rf (b + 14)  I J) fun r_3 I_4 J_5 =>
      yb_b3 (f0_pass N b S Rf (b + 14) (b + 5)  I_4 J_5) fun r_7 I_8 J_9 =>
      yb_b3 (fJ_bitCount_0f7a4  r_7 I_8 J_9) fun r_11 I_12 J_13 =>
      some (r_11, I_12, J_13)
    else
      some ((-1 : Int32), I, J)
def f11_hear (N : Nat) (b : Nat) (S : ST) (Rf : RT) (x1 : Int32) (x2 : Int32) (I : IT) (J : JT) : Option (Int32 × IT × JT) :=
  yb_b3 (f11_hasBoth b S Rf x1 x2 I J) fun r_1 I_2 J_3 =>
  if r_1 = 0 then
    some ((-1 : Int32), I_2, J_3)
  else
    yb_b3 (f1_mayHear N b S Rf x1 x2 I_2 J_3) fun r_6 I_7 J_8 =>
    if r_6 = 0 then
      some ((-1 : Int32), I_7, J_8)
    else
      yb_b3 (f2_keep b S Rf (b + 14)  I_7 J_8) fun r_11 I_12 J_13 =>
      yb_b3 (f1_begin N b S Rf x1 x2 I_12 J_13) fun r_15 I_16 J_17 =>
      yb_ck (inb x1 6) fun _ =>
      some ((I_16 (b + 19) x1.toNatClampNeg), I_16, J_17)
def f11_teach (b : Nat) (S : ST) (Rf : RT) (x1 : Int32) (I : IT) (J : JT) : Option (Int32 × IT × JT) :=
  yb_b3 (f9_hasPerson b S Rf (b + 5) x1 I J) fun r_1 I_2 J_3 =>
  if r_1 = 0 then
    some ((-1 : Int32), I_2, J_3)
  else
    yb_ck (inb x1 7) fun _ =>
    if (I_2 (b + 15) x1.toNatClampNeg) < (9 : Int32) then
      yb_b3 (f2_keep b S Rf (b + 14)  I_2 J_3) fun r_8 I_9 J_10 =>
      yb_let (up2 I_9 (b + 15) x1.toNatClampNeg ((I_9 (b + 15) x1.toNatClampNeg) + (1 : Int32))) fun I_12 =>
      some ((I_12 (b + 15) x1.toNatClampNeg), I_12, J_10)
    else
      some ((-1 : Int32), I_2, J_3)
def f11_image (b : Nat) (S : ST) (Rf : RT) (x1 : Int32) (I : IT) (J : JT) : Option (Int32 × IT × JT) :=
  if x1 < 0 then
    some ((-1 : Int32), I, J)
  else
    if x1 < (4 : Int32) then
      yb_ck (inb x1 4) fun _ =>
      yb_op (Rf (b + 27) x1.toNatClampNeg) (fun _ =>
        none) fun t_4 =>
      yb_b3 (f8_copy b S Rf t_4 (b + 4)  I J) fun r_6 I_7 J_8 =>
      some ((I_7 (b + 14) 9), I_7, J_8)
    else
      some ((-1 : Int32), I, J)
def f11_rule (N : Nat) (b : Nat) (S : ST) (Rf : RT) (I : IT) (J : JT) : Option (Int32 × IT × JT) :=
  if (I b 15) < (6 : Int32) then
    yb_b3 (f11_openTape N b S Rf  I J) fun r_2 I_3 J_4 =>
    yb_b3 (f6_reads N b S Rf  I_3 J_4) fun r_6 I_7 J_8 =>
    if r_6 = 0 then
      some (((-2 : Int32) - (I_7 (b + 2) 4)), I_7, J_8)
    else
      none
  else
    some ((-1 : Int32), I, J)
def h2_keep_B (N : Nat) (b : Nat) (S : ST) (Rf : RT) (t1 : Nat) (I : IT) (J : JT) : Option (Unit × IT × JT) :=
  yb_ck (inb (I (b + 28) 1) 20) fun _ =>
  yb_op (Rf (b + 29) (I (b + 28) 1).toNatClampNeg) (fun _ =>
    none) fun t_2 =>
  yb_b3 (f0_copy b S Rf t_2 t1  I J) fun r_4 I_5 J_6 =>
  if (20 : Int32) ≤ ((I_5 (b + 28) 1) + (1 : Int32)) then
    yb_let (up2 I_5 (b + 28) 1 (0 : Int32)) fun I_9 =>
    yb_let (up2 I_9 (b + 28) 2 (if (20 : Int32) < ((I_9 (b + 28) 2) + (1 : Int32)) then (20 : Int32) else ((I_9 (b + 28) 2) + (1 : Int32)))) fun I_10 =>
    some ((), I_10, J_6)
  else
    yb_let (up2 I_5 (b + 28) 1 ((I_5 (b + 28) 1) + (1 : Int32))) fun I_11 =>
    yb_let (up2 I_11 (b + 28) 2 (if (20 : Int32) < ((I_11 (b + 28) 2) + (1 : Int32)) then (20 : Int32) else ((I_11 (b + 28) 2) + (1 : Int32)))) fun I_12 =>
    some ((), I_12, J_6)
def h11_day_B (N : Nat) (b : Nat) (S : ST) (Rf : RT) (I : IT) (J : JT) : Option (Int32 × IT × JT) :=
  yb_b3 (f0_pass N b S Rf (b + 14) (b + 5)  I J) fun r_1 I_2 J_3 =>
  yb_b3 (fJ_bitCount_0f7a4  r_1 I_2 J_3) fun r_5 I_6 J_7 =>
  some (r_5, I_6, J_7)
def h11_hear_B (N : Nat) (b : Nat) (S : ST) (Rf : RT) (x1 : Int32) (x2 : Int32) (I : IT) (J : JT) : Option (Int32 × IT × JT) :=
  yb_b3 (f1_begin N b S Rf x1 x2 I J) fun r_1 I_2 J_3 =>
  yb_ck (inb x1 6) fun _ =>
  some ((I_2 (b + 19) x1.toNatClampNeg), I_2, J_3)
def h11_teach_B (N : Nat) (b : Nat) (S : ST) (Rf : RT) (x1 : Int32) (I : IT) (J : JT) : Option (Int32 × IT × JT) :=
  yb_ck (inb x1 7) fun _ =>
  yb_let (up2 I (b + 15) x1.toNatClampNeg ((I (b + 15) x1.toNatClampNeg) + (1 : Int32))) fun I_2 =>
  some ((I_2 (b + 15) x1.toNatClampNeg), I_2, J)
def h11_image_B (N : Nat) (b : Nat) (S : ST) (Rf : RT) (x1 : Int32) (I : IT) (J : JT) : Option (Int32 × IT × JT) :=
  yb_ck (inb x1 4) fun _ =>
  yb_op (Rf (b + 27) x1.toNatClampNeg) (fun _ =>
    none) fun t_2 =>
  yb_b3 (f8_copy b S Rf t_2 (b + 4)  I J) fun r_4 I_5 J_6 =>
  some ((I_5 (b + 14) 9), I_5, J_6)
def h11_rule_B (N : Nat) (b : Nat) (S : ST) (Rf : RT) (I : IT) (J : JT) : Option (Int32 × IT × JT) :=
  yb_let (up2 I b 15 ((I b 15) + (1 : Int32))) fun I_1 =>
  some (((I_1 b 15) - (1 : Int32)), I_1, J)
set_option maxHeartbeats 4000000 in
set_option maxRecDepth 100000 in
theorem c2_keep (l : Launch) (D : va_G) (cz : Nat → ClassId) (ev : Nat × Nat × Nat) {b : Nat} {L : List Nat} {S : ST} {Rf : RT} (hC : CW b L S Rf) {t1 : Nat} (h1 : CourseAt L S Rf t1) {I : IT} {J : JT} {r : Unit} {I1 : IT} {J1 : JT} (hf : f2_keep b S Rf t1 I J = some (r, I1, J1)) : MTv l D cz ev yX2_keep cX2_keep 2 (none) 2 121 [.ref (b + 28), .ref t1] L S Rf I J r I1 J1 := by
  unfold f2_keep at hf
  refine MTv_of (by decide) (Nat.le_of_ble_eq_true rfl) ?_
  intro p e s m args below meth c Q ls X hK hw hl hfin
  have X : CallFix p m c cX2_keep 2 s args gw RX2 := X
  have hx := X.1
  have hb := X.2.1
  have hl : lv_has ls 2 [(0, .ref (b + 28)), (1, .ref t1)] := hl
  refine lv_aload_n hx hb dX2_keep_0 rfl (lv_at hl 0 rfl) ?_
  refine x_getR X hK hw (cw_mem hC 28 (by decide)) (cw_S hC 28 rfl) cpX2 0 (by decide) rfl (cw_R hC 28 0 (by decide) rfl) tw_388 dX2_keep_1 ?_
  refine lv_aload_n hx hb dX2_keep_4 rfl (lv_at hl 0 rfl) ?_
  refine x_getI X hK hw (cw_mem hC 28 (by decide)) (cw_S hC 28 rfl) cpX2 1 (by decide) rfl tw_389 dX2_keep_5 ?_
  obtain ⟨hi_1, hf⟩ := yb_ck_some hf
  rcases ho_3 : Rf (b + 29) (I (b + 28) 1).toNatClampNeg with _ | t_2
  · rw [ho_3] at hf
    have hf := yb_op_n hf
    refine x_aaldN_6 X hK hw (cw_mem hC 29 (by decide)) (cw_S hC 29 rfl) hi_1 rfl ho_3 dX2_keep_8 ?_
    refine lv_ifnonnullN hx hb dX2_keep_9 ?_
    refine lv_aload_n hx hb dX2_keep_12 rfl (lv_at hl 0 rfl) ?_
    refine x_getR X hK hw (cw_mem hC 28 (by decide)) (cw_S hC 28 rfl) cpX2 0 (by decide) rfl (cw_R hC 28 0 (by decide) rfl) tw_388 dX2_keep_13 ?_
    refine lv_aload_n hx hb dX2_keep_16 rfl (lv_at hl 0 rfl) ?_
    refine x_getI X hK hw (cw_mem hC 28 (by decide)) (cw_S hC 28 rfl) cpX2 1 (by decide) rfl tw_389 dX2_keep_17 ?_
    cases hf
  · rw [ho_3] at hf
    have hf := yb_op_s hf
    refine x_aaldS_6 X hK hw (cw_mem hC 29 (by decide)) (cw_S hC 29 rfl) hi_1 rfl ho_3 dX2_keep_8 ?_
    refine lv_ifnonnull (tgt := 28) hx hb dX2_keep_9 (by decide) ?_
    refine lv_aload_n hx hb dX2_keep_28 rfl (lv_at hl 0 rfl) ?_
    refine x_getR X hK hw (cw_mem hC 28 (by decide)) (cw_S hC 28 rfl) cpX2 0 (by decide) rfl (cw_R hC 28 0 (by decide) rfl) tw_388 dX2_keep_29 ?_
    refine lv_aload_n hx hb dX2_keep_32 rfl (lv_at hl 0 rfl) ?_
    refine x_getI X hK hw (cw_mem hC 28 (by decide)) (cw_S hC 28 rfl) cpX2 1 (by decide) rfl tw_389 dX2_keep_33 ?_
    refine x_aaldS_6 X hK hw (cw_mem hC 29 (by decide)) (cw_S hC 29 rfl) hi_1 rfl ho_3 dX2_keep_36 ?_
    refine lv_aload_n hx hb dX2_keep_37 rfl (lv_at hl 1 rfl) ?_
    obtain ⟨r_4, I_5, J_6, hq_7, hf⟩ := yb_b3_some hf
    refine x_callv X hK hw (c0_copy l D cz ev hC (cw_ring hC ho_3) h1 hq_7) (cw_ring hC ho_3).1.1 (cw_ring hC ho_3).1.2 cpX0.1 vw_X2_25 ⟨Nat.le_of_ble_eq_true rfl, Nat.le_of_ble_eq_true rfl⟩ rfl rfl (Nat.le_of_ble_eq_true rfl) hl.1 ⟨Nat.le_refl _, Nat.le_refl _⟩ dX2_keep_38 (fun H locs hw => ?_)
    refine lv_aload_n hx hb dX2_keep_41 rfl (lv_at hl 0 rfl) ?_
    refine lv_aload_n hx hb dX2_keep_42 rfl (lv_at hl 0 rfl) ?_
    refine x_getI X hK hw (cw_mem hC 28 (by decide)) (cw_S hC 28 rfl) cpX2 1 (by decide) rfl tw_389 dX2_keep_43 ?_
    refine lv_iconst (v := (1 : Int32)) hx hb dX2_keep_46 (by decide) ?_
    refine lv_iadd hx hb dX2_keep_47 ?_
    refine lv_bipush (v := (20 : Int32)) hx hb dX2_keep_48 (by decide) ?_
    refine lv_icmp_ge (tgt := 62) hx hb dX2_keep_50 (by decide) (fun c_8 => ?_) (fun c_8 => ?_)
    · have hf := yb_pos c_8 hf
      refine lv_iconst (v := (0 : Int32)) hx hb dX2_keep_62 (by decide) ?_
      refine x_putI X hK hw (cw_mem hC 28 (by decide)) (cw_S hC 28 rfl) cpX2 1 (by decide) rfl rfl rfl tw_389 dX2_keep_63 (fun H locs hw => ?_)
      obtain ⟨I_9, eI_9, hf⟩ := yb_let_ex hf
      have hw := yb_wI eI_9 hw
      refine lv_aload_n hx hb dX2_keep_66 rfl (lv_at hl 0 rfl) ?_
      refine lv_aload_n hx hb dX2_keep_67 rfl (lv_at hl 0 rfl) ?_
      refine x_getI X hK hw (cw_mem hC 28 (by decide)) (cw_S hC 28 rfl) cpX2 2 (by decide) rfl tw_390 dX2_keep_68 ?_
      refine lv_iconst (v := (1 : Int32)) hx hb dX2_keep_71 (by decide) ?_
      refine lv_iadd hx hb dX2_keep_72 ?_
      refine lv_bipush (v := (20 : Int32)) hx hb dX2_keep_73 (by decide) ?_
      refine va_mmin hx hb (X.2.2.1.trans hl.1.symm) X.2.2.2.1 (X.2.2.2.2 _ tw_1000) (X.2.2.2.2 _ tw_633) (X.2.2.2.2 _ tw_131) (X.2.2.2.2 _ tw_634) (Nat.le_of_ble_eq_true rfl) (Nat.le_of_ble_eq_true rfl) (Nat.le_refl _) (Nat.le_refl _) dX2_keep_75 ?_
      refine x_putI X hK hw (cw_mem hC 28 (by decide)) (cw_S hC 28 rfl) cpX2 2 (by decide) rfl rfl rfl tw_390 dX2_keep_78 (fun H locs hw => ?_)
      obtain ⟨I_10, eI_10, hf⟩ := yb_let_ex hf
      have hw := yb_wI eI_10 hw
      exact yb_retv hfin hf hw dX2_keep_81
    · have hf := yb_neg c_8 hf
      refine lv_aload_n hx hb dX2_keep_53 rfl (lv_at hl 0 rfl) ?_
      refine x_getI X hK hw (cw_mem hC 28 (by decide)) (cw_S hC 28 rfl) cpX2 1 (by decide) rfl tw_389 dX2_keep_54 ?_
      refine lv_iconst (v := (1 : Int32)) hx hb dX2_keep_57 (by decide) ?_
      refine lv_iadd hx hb dX2_keep_58 ?_
      refine lv_goto (tgt := 63) hx hb dX2_keep_59 (by decide) ?_
      refine x_putI X hK hw (cw_mem hC 28 (by decide)) (cw_S hC 28 rfl) cpX2 1 (by decide) rfl rfl rfl tw_389 dX2_keep_63 (fun H locs hw => ?_)
      obtain ⟨I_11, eI_11, hf⟩ := yb_let_ex hf
      have hw := yb_wI eI_11 hw
      refine lv_aload_n hx hb dX2_keep_66 rfl (lv_at hl 0 rfl) ?_
      refine lv_aload_n hx hb dX2_keep_67 rfl (lv_at hl 0 rfl) ?_
      refine x_getI X hK hw (cw_mem hC 28 (by decide)) (cw_S hC 28 rfl) cpX2 2 (by decide) rfl tw_390 dX2_keep_68 ?_
      refine lv_iconst (v := (1 : Int32)) hx hb dX2_keep_71 (by decide) ?_
      refine lv_iadd hx hb dX2_keep_72 ?_
      refine lv_bipush (v := (20 : Int32)) hx hb dX2_keep_73 (by decide) ?_
      refine va_mmin hx hb (X.2.2.1.trans hl.1.symm) X.2.2.2.1 (X.2.2.2.2 _ tw_1000) (X.2.2.2.2 _ tw_633) (X.2.2.2.2 _ tw_131) (X.2.2.2.2 _ tw_634) (Nat.le_of_ble_eq_true rfl) (Nat.le_of_ble_eq_true rfl) (Nat.le_refl _) (Nat.le_refl _) dX2_keep_75 ?_
      refine x_putI X hK hw (cw_mem hC 28 (by decide)) (cw_S hC 28 rfl) cpX2 2 (by decide) rfl rfl rfl tw_390 dX2_keep_78 (fun H locs hw => ?_)
      obtain ⟨I_12, eI_12, hf⟩ := yb_let_ex hf
      have hw := yb_wI eI_12 hw
      exact yb_retv hfin hf hw dX2_keep_81
set_option maxHeartbeats 4000000 in
set_option maxRecDepth 100000 in
theorem c11_day (l : Launch) (D : va_G) (cz : Nat → ClassId) (ev : Nat × Nat × Nat) {b : Nat} {L : List Nat} {S : ST} {Rf : RT} (hC : CW b L S Rf) {N : Nat} {I : IT} {J : JT} {r : Int32} {I1 : IT} {J1 : JT} (hf : f11_day N b S Rf I J = some (r, I1, J1)) : MTi l D cz ev yX11_day cX11_day 1 (some .int) 3 142 [.ref b] L S Rf I J r I1 J1 := by
  unfold f11_day at hf
  refine MTi_of (by decide) (Nat.le_of_ble_eq_true rfl) ?_
  intro p e s m args below meth c Q ls X hK hw hl hfin
  have X : CallFix p m c cX11_day 1 s args gw RX11 := X
  have hx := X.1
  have hb := X.2.1
  have hl : lv_has ls 1 [(0, .ref b)] := hl
  refine lv_aload_n hx hb dX11_day_0 rfl (lv_at hl 0 rfl) ?_
  refine x_getR X hK hw (cw_mem0 hC) (cw_S0 hC) cpX11 3 (by decide) rfl (cw_R hC 0 3 (by decide) rfl) tw_562 dX11_day_1 ?_
  refine x_getR X hK hw (cw_now hC).1.1 (cw_now hC).1.2 cpX8 0 (by decide) rfl (cw_now hC).2.1.1 tw_346 dX11_day_4 ?_
  refine x_getI X hK hw (st_town (cw_now hC)).1.1 (st_town (cw_now hC)).1.2 cpX9 8 (by decide) rfl tw_225 dX11_day_7 ?_
  refine lv_if_eq (tgt := 29) hx hb dX11_day_10 (by decide) (fun c_1 => ?_) (fun c_1 => ?_)
  · have hf := yb_pos c_1 hf
    refine lv_iconst (v := (-1 : Int32)) hx hb dX11_day_29 (by decide) ?_
    exact yb_reti hfin hf hw dX11_day_30
  · have hf := yb_neg c_1 hf
    refine lv_aload_n hx hb dX11_day_13 rfl (lv_at hl 0 rfl) ?_
    refine x_getR X hK hw (cw_mem0 hC) (cw_S0 hC) cpX11 3 (by decide) rfl (cw_R hC 0 3 (by decide) rfl) tw_562 dX11_day_14 ?_
    refine x_getR X hK hw (cw_now hC).1.1 (cw_now hC).1.2 cpX8 1 (by decide) rfl (cw_now hC).2.2.1.1 tw_351 dX11_day_17 ?_
    refine x_getI X hK hw (st_course (cw_now hC)).1.1 (st_course (cw_now hC)).1.2 cpX0 9 (by decide) rfl tw_320 dX11_day_20 ?_
    refine lv_sipush (v := (999 : Int32)) hx hb dX11_day_23 (by decide) ?_
    refine lv_icmp_lt (tgt := 31) hx hb dX11_day_26 (by decide) (fun c_2 => ?_) (fun c_2 => ?_)
    · have hf := yb_pos c_2 hf
      refine lv_aload_n hx hb dX11_day_31 rfl (lv_at hl 0 rfl) ?_
      refine x_getR X hK hw (cw_mem0 hC) (cw_S0 hC) cpX11 5 (by decide) rfl (cw_R hC 0 5 (by decide) rfl) tw_564 dX11_day_32 ?_
      refine lv_aload_n hx hb dX11_day_35 rfl (lv_at hl 0 rfl) ?_
      refine x_getR X hK hw (cw_mem0 hC) (cw_S0 hC) cpX11 3 (by decide) rfl (cw_R hC 0 3 (by decide) rfl) tw_562 dX11_day_36 ?_
      refine x_getR X hK hw (cw_now hC).1.1 (cw_now hC).1.2 cpX8 1 (by decide) rfl (cw_now hC).2.2.1.1 tw_351 dX11_day_39 ?_
      obtain ⟨r_3, I_4, J_5, hq_6, hf⟩ := yb_b3_some hf
      refine x_callv X hK hw (c2_keep l D cz ev hC (st_course (cw_now hC)) hq_6) (cw_mem hC 28 (by decide)) (cw_S hC 28 rfl) cpX2.1 vw_X11_235 ⟨Nat.le_of_ble_eq_true rfl, Nat.le_of_ble_eq_true rfl⟩ rfl rfl (Nat.le_of_ble_eq_true rfl) hl.1 ⟨Nat.le_refl _, Nat.le_refl _⟩ dX11_day_42 (fun H locs hw => ?_)
      refine lv_aload_n hx hb dX11_day_45 rfl (lv_at hl 0 rfl) ?_
      refine x_getR X hK hw (cw_mem0 hC) (cw_S0 hC) cpX11 3 (by decide) rfl (cw_R hC 0 3 (by decide) rfl) tw_562 dX11_day_46 ?_
      refine x_getR X hK hw (cw_now hC).1.1 (cw_now hC).1.2 cpX8 1 (by decide) rfl (cw_now hC).2.2.1.1 tw_351 dX11_day_49 ?_
      refine lv_aload_n hx hb dX11_day_52 rfl (lv_at hl 0 rfl) ?_
      refine x_getR X hK hw (cw_mem0 hC) (cw_S0 hC) cpX11 3 (by decide) rfl (cw_R hC 0 3 (by decide) rfl) tw_562 dX11_day_53 ?_
      refine x_getR X hK hw (cw_now hC).1.1 (cw_now hC).1.2 cpX8 0 (by decide) rfl (cw_now hC).2.1.1 tw_346 dX11_day_56 ?_
      obtain ⟨r_7, I_8, J_9, hq_10, hf⟩ := yb_b3_some hf
      refine x_calli X hK hw (c0_pass l D cz ev hC (st_course (cw_now hC)) (st_town (cw_now hC)) hq_10) (st_course (cw_now hC)).1.1 (st_course (cw_now hC)).1.2 cpX0.1 vw_X11_239 ⟨Nat.le_of_ble_eq_true rfl, Nat.le_of_ble_eq_true rfl⟩ rfl rfl (Nat.le_of_ble_eq_true rfl) hl.1 ⟨Nat.le_refl _, Nat.le_refl _⟩ dX11_day_59 (fun H locs hw => ?_)
      obtain ⟨r_11, I_12, J_13, hq_14, hf⟩ := yb_b3_some hf
      refine x_callsi X hK hw (cJ_bitCount_0f7a4 l D cz ev hq_14) sw_X11_243 ⟨Nat.le_of_ble_eq_true rfl, Nat.le_of_ble_eq_true rfl⟩ rfl rfl (Nat.le_of_ble_eq_true rfl) hl.1 ⟨Nat.le_refl _, Nat.le_refl _⟩ dX11_day_62 (fun H locs hw => ?_)
      exact yb_reti hfin hf hw dX11_day_65
    · have hf := yb_neg c_2 hf
      refine lv_iconst (v := (-1 : Int32)) hx hb dX11_day_29 (by decide) ?_
      exact yb_reti hfin hf hw dX11_day_30
set_option maxHeartbeats 4000000 in
set_option maxRecDepth 100000 in
theorem c11_hear (l : Launch) (D : va_G) (cz : Nat → ClassId) (ev : Nat × Nat × Nat) {b : Nat} {L : List Nat} {S : ST} {Rf : RT} (hC : CW b L S Rf) {N : Nat} {x1 : Int32} {x2 : Int32} {I : IT} {J : JT} {r : Int32} {I1 : IT} {J1 : JT} (hf : f11_hear N b S Rf x1 x2 I J = some (r, I1, J1)) : MTi l D cz ev yX11_hear cX11_hear 3 (some .int) 5 142 [.ref b, .int x1, .int x2] L S Rf I J r I1 J1 := by
  unfold f11_hear at hf
  refine MTi_of (by decide) (Nat.le_of_ble_eq_true rfl) ?_
  intro p e s m args below meth c Q ls X hK hw hl hfin
  have X : CallFix p m c cX11_hear 3 s args gw RX11 := X
  have hx := X.1
  have hb := X.2.1
  have hl : lv_has ls 3 [(0, .ref b), (1, .int x1), (2, .int x2)] := hl
  refine lv_aload_n hx hb dX11_hear_0 rfl (lv_at hl 0 rfl) ?_
  refine lv_iload_n hx hb dX11_hear_1 rfl (lv_at hl 1 rfl) ?_
  refine lv_iload_n hx hb dX11_hear_2 rfl (lv_at hl 2 rfl) ?_
  obtain ⟨r_1, I_2, J_3, hq_4, hf⟩ := yb_b3_some hf
  refine x_calli X hK hw (c11_hasBoth l D cz ev hC hq_4) (cw_mem0 hC) (cw_S0 hC) cpX11.1 vw_X11_219 ⟨Nat.le_of_ble_eq_true rfl, Nat.le_of_ble_eq_true rfl⟩ rfl rfl (Nat.le_of_ble_eq_true rfl) hl.1 ⟨Nat.le_refl _, Nat.le_refl _⟩ dX11_hear_3 (fun H locs hw => ?_)
  refine lv_if_eq (tgt := 21) hx hb dX11_hear_6 (by decide) (fun c_5 => ?_) (fun c_5 => ?_)
  · have hf := yb_pos c_5 hf
    refine lv_iconst (v := (-1 : Int32)) hx hb dX11_hear_21 (by decide) ?_
    exact yb_reti hfin hf hw dX11_hear_22
  · have hf := yb_neg c_5 hf
    refine lv_aload_n hx hb dX11_hear_9 rfl (lv_at hl 0 rfl) ?_
    refine x_getR X hK hw (cw_mem0 hC) (cw_S0 hC) cpX11 6 (by decide) rfl (cw_R hC 0 6 (by decide) rfl) tw_565 dX11_hear_10 ?_
    refine lv_iload_n hx hb dX11_hear_13 rfl (lv_at hl 1 rfl) ?_
    refine lv_iload_n hx hb dX11_hear_14 rfl (lv_at hl 2 rfl) ?_
    obtain ⟨r_6, I_7, J_8, hq_9, hf⟩ := yb_b3_some hf
    refine x_calli X hK hw (c1_mayHear l D cz ev hC hq_9) (cw_mem hC 30 (by decide)) (cw_S hC 30 rfl) cpX1.1 vw_X11_248 ⟨Nat.le_of_ble_eq_true rfl, Nat.le_of_ble_eq_true rfl⟩ rfl rfl (Nat.le_of_ble_eq_true rfl) hl.1 ⟨Nat.le_refl _, Nat.le_refl _⟩ dX11_hear_15 (fun H locs hw => ?_)
    refine lv_if_ne (tgt := 23) hx hb dX11_hear_18 (by decide) (fun c_10 => ?_) (fun c_10 => ?_)
    · have hf := yb_neg c_10 hf
      refine lv_aload_n hx hb dX11_hear_23 rfl (lv_at hl 0 rfl) ?_
      refine x_getR X hK hw (cw_mem0 hC) (cw_S0 hC) cpX11 5 (by decide) rfl (cw_R hC 0 5 (by decide) rfl) tw_564 dX11_hear_24 ?_
      refine lv_aload_n hx hb dX11_hear_27 rfl (lv_at hl 0 rfl) ?_
      refine x_getR X hK hw (cw_mem0 hC) (cw_S0 hC) cpX11 3 (by decide) rfl (cw_R hC 0 3 (by decide) rfl) tw_562 dX11_hear_28 ?_
      refine x_getR X hK hw (cw_now hC).1.1 (cw_now hC).1.2 cpX8 1 (by decide) rfl (cw_now hC).2.2.1.1 tw_351 dX11_hear_31 ?_
      obtain ⟨r_11, I_12, J_13, hq_14, hf⟩ := yb_b3_some hf
      refine x_callv X hK hw (c2_keep l D cz ev hC (st_course (cw_now hC)) hq_14) (cw_mem hC 28 (by decide)) (cw_S hC 28 rfl) cpX2.1 vw_X11_235 ⟨Nat.le_of_ble_eq_true rfl, Nat.le_of_ble_eq_true rfl⟩ rfl rfl (Nat.le_of_ble_eq_true rfl) hl.1 ⟨Nat.le_refl _, Nat.le_refl _⟩ dX11_hear_34 (fun H locs hw => ?_)
      refine lv_aload_n hx hb dX11_hear_37 rfl (lv_at hl 0 rfl) ?_
      refine x_getR X hK hw (cw_mem0 hC) (cw_S0 hC) cpX11 6 (by decide) rfl (cw_R hC 0 6 (by decide) rfl) tw_565 dX11_hear_38 ?_
      refine lv_iload_n hx hb dX11_hear_41 rfl (lv_at hl 1 rfl) ?_
      refine lv_iload_n hx hb dX11_hear_42 rfl (lv_at hl 2 rfl) ?_
      obtain ⟨r_15, I_16, J_17, hq_18, hf⟩ := yb_b3_some hf
      refine x_callv X hK hw (c1_begin l D cz ev hC hq_18) (cw_mem hC 30 (by decide)) (cw_S hC 30 rfl) cpX1.1 vw_X11_251 ⟨Nat.le_of_ble_eq_true rfl, Nat.le_of_ble_eq_true rfl⟩ rfl rfl (Nat.le_of_ble_eq_true rfl) hl.1 ⟨Nat.le_refl _, Nat.le_refl _⟩ dX11_hear_43 (fun H locs hw => ?_)
      refine lv_aload_n hx hb dX11_hear_46 rfl (lv_at hl 0 rfl) ?_
      refine x_getR X hK hw (cw_mem0 hC) (cw_S0 hC) cpX11 3 (by decide) rfl (cw_R hC 0 3 (by decide) rfl) tw_562 dX11_hear_47 ?_
      refine x_getR X hK hw (cw_now hC).1.1 (cw_now hC).1.2 cpX8 1 (by decide) rfl (cw_now hC).2.2.1.1 tw_351 dX11_hear_50 ?_
      refine x_getR X hK hw (st_course (cw_now hC)).1.1 (st_course (cw_now hC)).1.2 cpX0 4 (by decide) rfl (ca_R (st_course (cw_now hC)) 4 (by decide)) tw_305 dX11_hear_53 ?_
      refine lv_iload_n hx hb dX11_hear_56 rfl (lv_at hl 1 rfl) ?_
      obtain ⟨hi_19, hf⟩ := yb_ck_some hf
      refine x_iald X hK hw (ca_mem (st_course (cw_now hC)) 4 (by decide)) (ca_S (st_course (cw_now hC)) 4 rfl) hi_19 rfl dX11_hear_57 ?_
      exact yb_reti hfin hf hw dX11_hear_58
    · have hf := yb_pos c_10 hf
      refine lv_iconst (v := (-1 : Int32)) hx hb dX11_hear_21 (by decide) ?_
      exact yb_reti hfin hf hw dX11_hear_22
set_option maxHeartbeats 4000000 in
set_option maxRecDepth 100000 in
theorem c11_teach (l : Launch) (D : va_G) (cz : Nat → ClassId) (ev : Nat × Nat × Nat) {b : Nat} {L : List Nat} {S : ST} {Rf : RT} (hC : CW b L S Rf) {x1 : Int32} {I : IT} {J : JT} {r : Int32} {I1 : IT} {J1 : JT} (hf : f11_teach b S Rf x1 I J = some (r, I1, J1)) : MTi l D cz ev yX11_teach cX11_teach 2 (some .int) 3 142 [.ref b, .int x1] L S Rf I J r I1 J1 := by
  unfold f11_teach at hf
  refine MTi_of (by decide) (Nat.le_of_ble_eq_true rfl) ?_
  intro p e s m args below meth c Q ls X hK hw hl hfin
  have X : CallFix p m c cX11_teach 2 s args gw RX11 := X
  have hx := X.1
  have hb := X.2.1
  have hl : lv_has ls 2 [(0, .ref b), (1, .int x1)] := hl
  refine lv_aload_n hx hb dX11_teach_0 rfl (lv_at hl 0 rfl) ?_
  refine x_getR X hK hw (cw_mem0 hC) (cw_S0 hC) cpX11 3 (by decide) rfl (cw_R hC 0 3 (by decide) rfl) tw_562 dX11_teach_1 ?_
  refine x_getR X hK hw (cw_now hC).1.1 (cw_now hC).1.2 cpX8 0 (by decide) rfl (cw_now hC).2.1.1 tw_346 dX11_teach_4 ?_
  refine lv_iload_n hx hb dX11_teach_7 rfl (lv_at hl 1 rfl) ?_
  obtain ⟨r_1, I_2, J_3, hq_4, hf⟩ := yb_b3_some hf
  refine x_calli X hK hw (c9_hasPerson l D cz ev hC (st_town (cw_now hC)) hq_4) (st_town (cw_now hC)).1.1 (st_town (cw_now hC)).1.2 cpX9.1 vw_X11_151 ⟨Nat.le_of_ble_eq_true rfl, Nat.le_of_ble_eq_true rfl⟩ rfl rfl (Nat.le_of_ble_eq_true rfl) hl.1 ⟨Nat.le_refl _, Nat.le_refl _⟩ dX11_teach_8 (fun H locs hw => ?_)
  refine lv_if_eq (tgt := 31) hx hb dX11_teach_11 (by decide) (fun c_5 => ?_) (fun c_5 => ?_)
  · have hf := yb_pos c_5 hf
    refine lv_iconst (v := (-1 : Int32)) hx hb dX11_teach_31 (by decide) ?_
    exact yb_reti hfin hf hw dX11_teach_32
  · have hf := yb_neg c_5 hf
    refine lv_aload_n hx hb dX11_teach_14 rfl (lv_at hl 0 rfl) ?_
    refine x_getR X hK hw (cw_mem0 hC) (cw_S0 hC) cpX11 3 (by decide) rfl (cw_R hC 0 3 (by decide) rfl) tw_562 dX11_teach_15 ?_
    refine x_getR X hK hw (cw_now hC).1.1 (cw_now hC).1.2 cpX8 1 (by decide) rfl (cw_now hC).2.2.1.1 tw_351 dX11_teach_18 ?_
    refine x_getR X hK hw (st_course (cw_now hC)).1.1 (st_course (cw_now hC)).1.2 cpX0 0 (by decide) rfl (ca_R (st_course (cw_now hC)) 0 (by decide)) tw_290 dX11_teach_21 ?_
    refine lv_iload_n hx hb dX11_teach_24 rfl (lv_at hl 1 rfl) ?_
    obtain ⟨hi_6, hf⟩ := yb_ck_some hf
    refine x_iald X hK hw (ca_mem (st_course (cw_now hC)) 0 (by decide)) (ca_S (st_course (cw_now hC)) 0 rfl) hi_6 rfl dX11_teach_25 ?_
    refine lv_bipush (v := (9 : Int32)) hx hb dX11_teach_26 (by decide) ?_
    refine lv_icmp_lt (tgt := 33) hx hb dX11_teach_28 (by decide) (fun c_7 => ?_) (fun c_7 => ?_)
    · have hf := yb_pos c_7 hf
      refine lv_aload_n hx hb dX11_teach_33 rfl (lv_at hl 0 rfl) ?_
      refine x_getR X hK hw (cw_mem0 hC) (cw_S0 hC) cpX11 5 (by decide) rfl (cw_R hC 0 5 (by decide) rfl) tw_564 dX11_teach_34 ?_
      refine lv_aload_n hx hb dX11_teach_37 rfl (lv_at hl 0 rfl) ?_
      refine x_getR X hK hw (cw_mem0 hC) (cw_S0 hC) cpX11 3 (by decide) rfl (cw_R hC 0 3 (by decide) rfl) tw_562 dX11_teach_38 ?_
      refine x_getR X hK hw (cw_now hC).1.1 (cw_now hC).1.2 cpX8 1 (by decide) rfl (cw_now hC).2.2.1.1 tw_351 dX11_teach_41 ?_
      obtain ⟨r_8, I_9, J_10, hq_11, hf⟩ := yb_b3_some hf
      refine x_callv X hK hw (c2_keep l D cz ev hC (st_course (cw_now hC)) hq_11) (cw_mem hC 28 (by decide)) (cw_S hC 28 rfl) cpX2.1 vw_X11_235 ⟨Nat.le_of_ble_eq_true rfl, Nat.le_of_ble_eq_true rfl⟩ rfl rfl (Nat.le_of_ble_eq_true rfl) hl.1 ⟨Nat.le_refl _, Nat.le_refl _⟩ dX11_teach_44 (fun H locs hw => ?_)
      refine lv_aload_n hx hb dX11_teach_47 rfl (lv_at hl 0 rfl) ?_
      refine x_getR X hK hw (cw_mem0 hC) (cw_S0 hC) cpX11 3 (by decide) rfl (cw_R hC 0 3 (by decide) rfl) tw_562 dX11_teach_48 ?_
      refine x_getR X hK hw (cw_now hC).1.1 (cw_now hC).1.2 cpX8 1 (by decide) rfl (cw_now hC).2.2.1.1 tw_351 dX11_teach_51 ?_
      refine x_getR X hK hw (st_course (cw_now hC)).1.1 (st_course (cw_now hC)).1.2 cpX0 0 (by decide) rfl (ca_R (st_course (cw_now hC)) 0 (by decide)) tw_290 dX11_teach_54 ?_
      refine lv_iload_n hx hb dX11_teach_57 rfl (lv_at hl 1 rfl) ?_
      refine lv_dup2_11 hx hb dX11_teach_58 rfl rfl ?_
      refine x_iald X hK hw (ca_mem (st_course (cw_now hC)) 0 (by decide)) (ca_S (st_course (cw_now hC)) 0 rfl) hi_6 rfl dX11_teach_59 ?_
      refine lv_iconst (v := (1 : Int32)) hx hb dX11_teach_60 (by decide) ?_
      refine lv_iadd hx hb dX11_teach_61 ?_
      refine x_iast X hK hw (ca_mem (st_course (cw_now hC)) 0 (by decide)) (ca_S (st_course (cw_now hC)) 0 rfl) hi_6 rfl dX11_teach_62 (fun H locs hw => ?_)
      obtain ⟨I_12, eI_12, hf⟩ := yb_let_ex hf
      have hw := yb_wI eI_12 hw
      refine lv_aload_n hx hb dX11_teach_63 rfl (lv_at hl 0 rfl) ?_
      refine x_getR X hK hw (cw_mem0 hC) (cw_S0 hC) cpX11 3 (by decide) rfl (cw_R hC 0 3 (by decide) rfl) tw_562 dX11_teach_64 ?_
      refine x_getR X hK hw (cw_now hC).1.1 (cw_now hC).1.2 cpX8 1 (by decide) rfl (cw_now hC).2.2.1.1 tw_351 dX11_teach_67 ?_
      refine x_getR X hK hw (st_course (cw_now hC)).1.1 (st_course (cw_now hC)).1.2 cpX0 0 (by decide) rfl (ca_R (st_course (cw_now hC)) 0 (by decide)) tw_290 dX11_teach_70 ?_
      refine lv_iload_n hx hb dX11_teach_73 rfl (lv_at hl 1 rfl) ?_
      refine x_iald X hK hw (ca_mem (st_course (cw_now hC)) 0 (by decide)) (ca_S (st_course (cw_now hC)) 0 rfl) hi_6 rfl dX11_teach_74 ?_
      exact yb_reti hfin hf hw dX11_teach_75
    · have hf := yb_neg c_7 hf
      refine lv_iconst (v := (-1 : Int32)) hx hb dX11_teach_31 (by decide) ?_
      exact yb_reti hfin hf hw dX11_teach_32
set_option maxHeartbeats 4000000 in
set_option maxRecDepth 100000 in
theorem c11_image (l : Launch) (D : va_G) (cz : Nat → ClassId) (ev : Nat × Nat × Nat) {b : Nat} {L : List Nat} {S : ST} {Rf : RT} (hC : CW b L S Rf) {x1 : Int32} {I : IT} {J : JT} {r : Int32} {I1 : IT} {J1 : JT} (hf : f11_image b S Rf x1 I J = some (r, I1, J1)) : MTi l D cz ev yX11_image cX11_image 2 (some .int) 3 142 [.ref b, .int x1] L S Rf I J r I1 J1 := by
  unfold f11_image at hf
  refine MTi_of (by decide) (Nat.le_of_ble_eq_true rfl) ?_
  intro p e s m args below meth c Q ls X hK hw hl hfin
  have X : CallFix p m c cX11_image 2 s args gw RX11 := X
  have hx := X.1
  have hb := X.2.1
  have hl : lv_has ls 2 [(0, .ref b), (1, .int x1)] := hl
  refine lv_iload_n hx hb dX11_image_0 rfl (lv_at hl 1 rfl) ?_
  refine lv_if_lt (tgt := 9) hx hb dX11_image_1 (by decide) (fun c_1 => ?_) (fun c_1 => ?_)
  · have hf := yb_pos c_1 hf
    refine lv_iconst (v := (-1 : Int32)) hx hb dX11_image_9 (by decide) ?_
    exact yb_reti hfin hf hw dX11_image_10
  · have hf := yb_neg c_1 hf
    refine lv_iload_n hx hb dX11_image_4 rfl (lv_at hl 1 rfl) ?_
    refine lv_iconst (v := (4 : Int32)) hx hb dX11_image_5 (by decide) ?_
    refine lv_icmp_lt (tgt := 11) hx hb dX11_image_6 (by decide) (fun c_2 => ?_) (fun c_2 => ?_)
    · have hf := yb_pos c_2 hf
      refine lv_aload_n hx hb dX11_image_11 rfl (lv_at hl 0 rfl) ?_
      refine x_getR X hK hw (cw_mem0 hC) (cw_S0 hC) cpX11 4 (by decide) rfl (cw_R hC 0 4 (by decide) rfl) tw_563 dX11_image_12 ?_
      refine lv_iload_n hx hb dX11_image_15 rfl (lv_at hl 1 rfl) ?_
      obtain ⟨hi_3, hf⟩ := yb_ck_some hf
      rcases ho_5 : Rf (b + 27) x1.toNatClampNeg with _ | t_4
      · rw [ho_5] at hf
        have hf := yb_op_n hf
        refine x_aaldN_5 X hK hw (cw_mem hC 27 (by decide)) (cw_S hC 27 rfl) hi_3 rfl ho_5 dX11_image_16 ?_
        refine lv_ifnonnullN hx hb dX11_image_17 ?_
        refine lv_aload_n hx hb dX11_image_20 rfl (lv_at hl 0 rfl) ?_
        refine x_getR X hK hw (cw_mem0 hC) (cw_S0 hC) cpX11 4 (by decide) rfl (cw_R hC 0 4 (by decide) rfl) tw_563 dX11_image_21 ?_
        refine lv_iload_n hx hb dX11_image_24 rfl (lv_at hl 1 rfl) ?_
        cases hf
      · rw [ho_5] at hf
        have hf := yb_op_s hf
        refine x_aaldS_5 X hK hw (cw_mem hC 27 (by decide)) (cw_S hC 27 rfl) hi_3 rfl ho_5 dX11_image_16 ?_
        refine lv_ifnonnull (tgt := 33) hx hb dX11_image_17 (by decide) ?_
        refine lv_aload_n hx hb dX11_image_33 rfl (lv_at hl 0 rfl) ?_
        refine x_getR X hK hw (cw_mem0 hC) (cw_S0 hC) cpX11 4 (by decide) rfl (cw_R hC 0 4 (by decide) rfl) tw_563 dX11_image_34 ?_
        refine lv_iload_n hx hb dX11_image_37 rfl (lv_at hl 1 rfl) ?_
        refine x_aaldS_5 X hK hw (cw_mem hC 27 (by decide)) (cw_S hC 27 rfl) hi_3 rfl ho_5 dX11_image_38 ?_
        refine lv_aload_n hx hb dX11_image_39 rfl (lv_at hl 0 rfl) ?_
        refine x_getR X hK hw (cw_mem0 hC) (cw_S0 hC) cpX11 3 (by decide) rfl (cw_R hC 0 3 (by decide) rfl) tw_562 dX11_image_40 ?_
        obtain ⟨r_6, I_7, J_8, hq_9, hf⟩ := yb_b3_some hf
        refine x_callv X hK hw (c8_copy l D cz ev hC (cw_image hC ho_5) (cw_now hC) hq_9) (cw_image hC ho_5).1.1 (cw_image hC ho_5).1.2 cpX8.1 vw_X11_370 ⟨Nat.le_of_ble_eq_true rfl, Nat.le_of_ble_eq_true rfl⟩ rfl rfl (Nat.le_of_ble_eq_true rfl) hl.1 ⟨Nat.le_refl _, Nat.le_refl _⟩ dX11_image_43 (fun H locs hw => ?_)
        refine lv_aload_n hx hb dX11_image_46 rfl (lv_at hl 0 rfl) ?_
        refine x_getR X hK hw (cw_mem0 hC) (cw_S0 hC) cpX11 3 (by decide) rfl (cw_R hC 0 3 (by decide) rfl) tw_562 dX11_image_47 ?_
        refine x_getR X hK hw (cw_now hC).1.1 (cw_now hC).1.2 cpX8 1 (by decide) rfl (cw_now hC).2.2.1.1 tw_351 dX11_image_50 ?_
        refine x_getI X hK hw (st_course (cw_now hC)).1.1 (st_course (cw_now hC)).1.2 cpX0 9 (by decide) rfl tw_320 dX11_image_53 ?_
        exact yb_reti hfin hf hw dX11_image_56
    · have hf := yb_neg c_2 hf
      refine lv_iconst (v := (-1 : Int32)) hx hb dX11_image_9 (by decide) ?_
      exact yb_reti hfin hf hw dX11_image_10
set_option maxHeartbeats 4000000 in
set_option maxRecDepth 100000 in
theorem c11_rule (l : Launch) (D : va_G) (cz : Nat → ClassId) (ev : Nat × Nat × Nat) {b : Nat} {L : List Nat} {S : ST} {Rf : RT} (hC : CW b L S Rf) {N : Nat} {I : IT} {J : JT} {r : Int32} {I1 : IT} {J1 : JT} (hf : f11_rule N b S Rf I J = some (r, I1, J1)) : MTi l D cz ev yX11_rule cX11_rule 1 (some .int) 35 853 [.ref b] L S Rf I J r I1 J1 := by
  unfold f11_rule at hf
  refine MTi_of (by decide) (Nat.le_of_ble_eq_true rfl) ?_
  intro p e s m args below meth c Q ls X hK hw hl hfin
  have X : CallFix p m c cX11_rule 1 s args gw RX11 := X
  have hx := X.1
  have hb := X.2.1
  have hl : lv_has ls 1 [(0, .ref b)] := hl
  refine lv_aload_n hx hb dX11_rule_0 rfl (lv_at hl 0 rfl) ?_
  refine x_getI X hK hw (cw_mem0 hC) (cw_S0 hC) cpX11 15 (by decide) rfl tw_574 dX11_rule_1 ?_
  refine lv_bipush (v := (6 : Int32)) hx hb dX11_rule_4 (by decide) ?_
  refine lv_icmp_lt (tgt := 11) hx hb dX11_rule_6 (by decide) (fun c_1 => ?_) (fun c_1 => ?_)
  · have hf := yb_pos c_1 hf
    refine lv_aload_n hx hb dX11_rule_11 rfl (lv_at hl 0 rfl) ?_
    obtain ⟨r_2, I_3, J_4, hq_5, hf⟩ := yb_b3_some hf
    refine x_callv X hK hw (c11_openTape l D cz ev hC hq_5) (cw_mem0 hC) (cw_S0 hC) cpX11.1 vw_X11_117 ⟨Nat.le_of_ble_eq_true rfl, Nat.le_of_ble_eq_true rfl⟩ rfl rfl (Nat.le_of_ble_eq_true rfl) hl.1 ⟨Nat.le_refl _, Nat.le_refl _⟩ dX11_rule_12 (fun H locs hw => ?_)
    refine lv_aload_n hx hb dX11_rule_15 rfl (lv_at hl 0 rfl) ?_
    refine x_getR X hK hw (cw_mem0 hC) (cw_S0 hC) cpX11 11 (by decide) rfl (cw_R hC 0 11 (by decide) rfl) tw_570 dX11_rule_16 ?_
    obtain ⟨r_6, I_7, J_8, hq_9, hf⟩ := yb_b3_some hf
    refine x_calli X hK hw (c6_reads l D cz ev hC hq_9) (cw_mem hC 62 (by decide)) (cw_S hC 62 rfl) cpX6.1 vw_X11_143 ⟨Nat.le_of_ble_eq_true rfl, Nat.le_of_ble_eq_true rfl⟩ rfl rfl (Nat.le_of_ble_eq_true rfl) hl.1 ⟨Nat.le_refl _, Nat.le_refl _⟩ dX11_rule_19 (fun H locs hw => ?_)
    refine lv_if_ne (tgt := 36) hx hb dX11_rule_22 (by decide) (fun c_10 => ?_) (fun c_10 => ?_)
    · have hf := yb_neg c_10 hf
      refine lv_aload_n hx hb dX11_rule_36 rfl (lv_at hl 0 rfl) ?_
      refine x_getR X hK hw (cw_mem0 hC) (cw_S0 hC) cpX11 2 (by decide) rfl (cw_R hC 0 2 (by decide) rfl) tw_561 dX11_rule_37 ?_
      refine lv_aload_n hx hb dX11_rule_40 rfl (lv_at hl 0 rfl) ?_
      refine x_getI X hK hw (cw_mem0 hC) (cw_S0 hC) cpX11 15 (by decide) rfl tw_574 dX11_rule_41 ?_
      refine lv_aload_n hx hb dX11_rule_44 rfl (lv_at hl 0 rfl) ?_
      refine x_getR X hK hw (cw_mem0 hC) (cw_S0 hC) cpX11 11 (by decide) rfl (cw_R hC 0 11 (by decide) rfl) tw_570 dX11_rule_45 ?_
      cases hf
    · have hf := yb_pos c_10 hf
      refine lv_bipush (v := (-2 : Int32)) hx hb dX11_rule_25 (by decide) ?_
      refine lv_aload_n hx hb dX11_rule_27 rfl (lv_at hl 0 rfl) ?_
      refine x_getR X hK hw (cw_mem0 hC) (cw_S0 hC) cpX11 1 (by decide) rfl (cw_R hC 0 1 (by decide) rfl) tw_560 dX11_rule_28 ?_
      refine x_getI X hK hw (cw_mem hC 2 (by decide)) (cw_S hC 2 rfl) cpX3 4 (by decide) rfl tw_163 dX11_rule_31 ?_
      refine lv_isub hx hb dX11_rule_34 ?_
      exact yb_reti hfin hf hw dX11_rule_35
  · have hf := yb_neg c_1 hf
    refine lv_iconst (v := (-1 : Int32)) hx hb dX11_rule_9 (by decide) ?_
    exact yb_reti hfin hf hw dX11_rule_10
set_option maxHeartbeats 4000000 in
set_option maxRecDepth 100000 in
theorem u2_keep_B {p : Program} {l : Launch} {e : Env} {R : Room} {s : State} {m : MethodId} {args : Array Value} {below : List Frame} {meth : Method} {c : Code} {Q : State → Prop} {cells slots : Nat} {D : va_G} {cz : Nat → ClassId} {A : Nat → Prop} {ev : Nat × Nat × Nat} {b : Nat} {L : List Nat} {S : ST} {Rf : RT} (hC : CW b L S Rf) {t1 : Nat} (h1 : CourseAt L S Rf t1) (X : CallFix p m c cX2_keep 2 s args gw RX2) (hK : KX D cz ev A s) (hRf : 2 ≤ R.frames) (hRl : 121 ≤ R.locals) (hcs : cells ≤ R.cells ∧ slots ≤ R.slots) {N : Nat} {I : IT} {J : JT} {rM : Unit} {IM : IT} {JM : JT} {H : Heap} {locs : List Loc} {ls : Array Slot} (hf : h2_keep_B N b S Rf t1 I J = some (rM, IM, JM)) (hw : WX D cz A L S Rf s.heap I J H locs) (hl : lv_has ls 2 [(0, .ref (b + 28)), (1, .ref t1)])
    (hfin : ∀ (H : Heap) (locs : List Loc) (ls : Array Slot) (pc : Nat), WX D cz A L S Rf s.heap IM JM H locs → decode cX2_keep pc = .ok (.return_, 1) → W p l e R s m args below meth c H locs cells slots Q (F0 m pc ls [])) :
    W p l e R s m args below meth c H locs cells slots Q (F0 m 28 ls []) := by
  unfold h2_keep_B at hf
  have hx := X.1
  have hb := X.2.1
  refine lv_aload_n hx hb dX2_keep_28 rfl (lv_at hl 0 rfl) ?_
  refine x_getR X hK hw (cw_mem hC 28 (by decide)) (cw_S hC 28 rfl) cpX2 0 (by decide) rfl (cw_R hC 28 0 (by decide) rfl) tw_388 dX2_keep_29 ?_
  refine lv_aload_n hx hb dX2_keep_32 rfl (lv_at hl 0 rfl) ?_
  refine x_getI X hK hw (cw_mem hC 28 (by decide)) (cw_S hC 28 rfl) cpX2 1 (by decide) rfl tw_389 dX2_keep_33 ?_
  obtain ⟨hi_1, hf⟩ := yb_ck_some hf
  rcases ho_3 : Rf (b + 29) (I (b + 28) 1).toNatClampNeg with _ | t_2
  · rw [ho_3] at hf
    have hf := yb_op_n hf
    refine x_aaldN_6 X hK hw (cw_mem hC 29 (by decide)) (cw_S hC 29 rfl) hi_1 rfl ho_3 dX2_keep_36 ?_
    refine lv_aload_n hx hb dX2_keep_37 rfl (lv_at hl 1 rfl) ?_
    cases hf
  · rw [ho_3] at hf
    have hf := yb_op_s hf
    refine x_aaldS_6 X hK hw (cw_mem hC 29 (by decide)) (cw_S hC 29 rfl) hi_1 rfl ho_3 dX2_keep_36 ?_
    refine lv_aload_n hx hb dX2_keep_37 rfl (lv_at hl 1 rfl) ?_
    obtain ⟨r_4, I_5, J_6, hq_7, hf⟩ := yb_b3_some hf
    refine x_callv X hK hw (c0_copy l D cz ev hC (cw_ring hC ho_3) h1 hq_7) (cw_ring hC ho_3).1.1 (cw_ring hC ho_3).1.2 cpX0.1 vw_X2_25 ⟨Nat.le_trans (m := 2) (Nat.le_of_ble_eq_true rfl) hRf, Nat.le_trans (m := 121) (Nat.le_of_ble_eq_true rfl) hRl⟩ rfl rfl (Nat.le_of_ble_eq_true rfl) hl.1 hcs dX2_keep_38 (fun H locs hw => ?_)
    refine lv_aload_n hx hb dX2_keep_41 rfl (lv_at hl 0 rfl) ?_
    refine lv_aload_n hx hb dX2_keep_42 rfl (lv_at hl 0 rfl) ?_
    refine x_getI X hK hw (cw_mem hC 28 (by decide)) (cw_S hC 28 rfl) cpX2 1 (by decide) rfl tw_389 dX2_keep_43 ?_
    refine lv_iconst (v := (1 : Int32)) hx hb dX2_keep_46 (by decide) ?_
    refine lv_iadd hx hb dX2_keep_47 ?_
    refine lv_bipush (v := (20 : Int32)) hx hb dX2_keep_48 (by decide) ?_
    refine lv_icmp_ge (tgt := 62) hx hb dX2_keep_50 (by decide) (fun c_8 => ?_) (fun c_8 => ?_)
    · have hf := yb_pos c_8 hf
      refine lv_iconst (v := (0 : Int32)) hx hb dX2_keep_62 (by decide) ?_
      refine x_putI X hK hw (cw_mem hC 28 (by decide)) (cw_S hC 28 rfl) cpX2 1 (by decide) rfl rfl rfl tw_389 dX2_keep_63 (fun H locs hw => ?_)
      obtain ⟨I_9, eI_9, hf⟩ := yb_let_ex hf
      have hw := yb_wI eI_9 hw
      refine lv_aload_n hx hb dX2_keep_66 rfl (lv_at hl 0 rfl) ?_
      refine lv_aload_n hx hb dX2_keep_67 rfl (lv_at hl 0 rfl) ?_
      refine x_getI X hK hw (cw_mem hC 28 (by decide)) (cw_S hC 28 rfl) cpX2 2 (by decide) rfl tw_390 dX2_keep_68 ?_
      refine lv_iconst (v := (1 : Int32)) hx hb dX2_keep_71 (by decide) ?_
      refine lv_iadd hx hb dX2_keep_72 ?_
      refine lv_bipush (v := (20 : Int32)) hx hb dX2_keep_73 (by decide) ?_
      refine va_mmin hx hb (X.2.2.1.trans hl.1.symm) X.2.2.2.1 (X.2.2.2.2 _ tw_1000) (X.2.2.2.2 _ tw_633) (X.2.2.2.2 _ tw_131) (X.2.2.2.2 _ tw_634) (Nat.le_trans (m := 2) (Nat.le_of_ble_eq_true rfl) hRf) (Nat.le_trans (m := 121) (Nat.le_of_ble_eq_true rfl) hRl) hcs.1 hcs.2 dX2_keep_75 ?_
      refine x_putI X hK hw (cw_mem hC 28 (by decide)) (cw_S hC 28 rfl) cpX2 2 (by decide) rfl rfl rfl tw_390 dX2_keep_78 (fun H locs hw => ?_)
      obtain ⟨I_10, eI_10, hf⟩ := yb_let_ex hf
      have hw := yb_wI eI_10 hw
      exact yb_cretv hfin hf hw dX2_keep_81
    · have hf := yb_neg c_8 hf
      refine lv_aload_n hx hb dX2_keep_53 rfl (lv_at hl 0 rfl) ?_
      refine x_getI X hK hw (cw_mem hC 28 (by decide)) (cw_S hC 28 rfl) cpX2 1 (by decide) rfl tw_389 dX2_keep_54 ?_
      refine lv_iconst (v := (1 : Int32)) hx hb dX2_keep_57 (by decide) ?_
      refine lv_iadd hx hb dX2_keep_58 ?_
      refine lv_goto (tgt := 63) hx hb dX2_keep_59 (by decide) ?_
      refine x_putI X hK hw (cw_mem hC 28 (by decide)) (cw_S hC 28 rfl) cpX2 1 (by decide) rfl rfl rfl tw_389 dX2_keep_63 (fun H locs hw => ?_)
      obtain ⟨I_11, eI_11, hf⟩ := yb_let_ex hf
      have hw := yb_wI eI_11 hw
      refine lv_aload_n hx hb dX2_keep_66 rfl (lv_at hl 0 rfl) ?_
      refine lv_aload_n hx hb dX2_keep_67 rfl (lv_at hl 0 rfl) ?_
      refine x_getI X hK hw (cw_mem hC 28 (by decide)) (cw_S hC 28 rfl) cpX2 2 (by decide) rfl tw_390 dX2_keep_68 ?_
      refine lv_iconst (v := (1 : Int32)) hx hb dX2_keep_71 (by decide) ?_
      refine lv_iadd hx hb dX2_keep_72 ?_
      refine lv_bipush (v := (20 : Int32)) hx hb dX2_keep_73 (by decide) ?_
      refine va_mmin hx hb (X.2.2.1.trans hl.1.symm) X.2.2.2.1 (X.2.2.2.2 _ tw_1000) (X.2.2.2.2 _ tw_633) (X.2.2.2.2 _ tw_131) (X.2.2.2.2 _ tw_634) (Nat.le_trans (m := 2) (Nat.le_of_ble_eq_true rfl) hRf) (Nat.le_trans (m := 121) (Nat.le_of_ble_eq_true rfl) hRl) hcs.1 hcs.2 dX2_keep_75 ?_
      refine x_putI X hK hw (cw_mem hC 28 (by decide)) (cw_S hC 28 rfl) cpX2 2 (by decide) rfl rfl rfl tw_390 dX2_keep_78 (fun H locs hw => ?_)
      obtain ⟨I_12, eI_12, hf⟩ := yb_let_ex hf
      have hw := yb_wI eI_12 hw
      exact yb_cretv hfin hf hw dX2_keep_81
set_option maxHeartbeats 4000000 in
set_option maxRecDepth 100000 in
theorem u11_day_B {p : Program} {l : Launch} {e : Env} {R : Room} {s : State} {m : MethodId} {args : Array Value} {below : List Frame} {meth : Method} {c : Code} {Q : State → Prop} {cells slots : Nat} {D : va_G} {cz : Nat → ClassId} {A : Nat → Prop} {ev : Nat × Nat × Nat} {b : Nat} {L : List Nat} {S : ST} {Rf : RT} (hC : CW b L S Rf) (X : CallFix p m c cX11_day 1 s args gw RX11) (hK : KX D cz ev A s) (hRf : 3 ≤ R.frames) (hRl : 142 ≤ R.locals) (hcs : cells ≤ R.cells ∧ slots ≤ R.slots) {N : Nat} {I : IT} {J : JT} {rM : Int32} {IM : IT} {JM : JT} {H : Heap} {locs : List Loc} {ls : Array Slot} (hf : h11_day_B N b S Rf I J = some (rM, IM, JM)) (hw : WX D cz A L S Rf s.heap I J H locs) (hl : lv_has ls 1 [(0, .ref b)])
    (hfin : ∀ (H : Heap) (locs : List Loc) (ls : Array Slot) (pc : Nat), WX D cz A L S Rf s.heap IM JM H locs → decode cX11_day pc = .ok (.ireturn, 1) → W p l e R s m args below meth c H locs cells slots Q (F0 m pc ls [.int rM])) :
    W p l e R s m args below meth c H locs cells slots Q (F0 m 45 ls []) := by
  unfold h11_day_B at hf
  have hx := X.1
  have hb := X.2.1
  refine lv_aload_n hx hb dX11_day_45 rfl (lv_at hl 0 rfl) ?_
  refine x_getR X hK hw (cw_mem0 hC) (cw_S0 hC) cpX11 3 (by decide) rfl (cw_R hC 0 3 (by decide) rfl) tw_562 dX11_day_46 ?_
  refine x_getR X hK hw (cw_now hC).1.1 (cw_now hC).1.2 cpX8 1 (by decide) rfl (cw_now hC).2.2.1.1 tw_351 dX11_day_49 ?_
  refine lv_aload_n hx hb dX11_day_52 rfl (lv_at hl 0 rfl) ?_
  refine x_getR X hK hw (cw_mem0 hC) (cw_S0 hC) cpX11 3 (by decide) rfl (cw_R hC 0 3 (by decide) rfl) tw_562 dX11_day_53 ?_
  refine x_getR X hK hw (cw_now hC).1.1 (cw_now hC).1.2 cpX8 0 (by decide) rfl (cw_now hC).2.1.1 tw_346 dX11_day_56 ?_
  obtain ⟨r_1, I_2, J_3, hq_4, hf⟩ := yb_b3_some hf
  refine x_calli X hK hw (c0_pass l D cz ev hC (st_course (cw_now hC)) (st_town (cw_now hC)) hq_4) (st_course (cw_now hC)).1.1 (st_course (cw_now hC)).1.2 cpX0.1 vw_X11_239 ⟨Nat.le_trans (m := 3) (Nat.le_of_ble_eq_true rfl) hRf, Nat.le_trans (m := 142) (Nat.le_of_ble_eq_true rfl) hRl⟩ rfl rfl (Nat.le_of_ble_eq_true rfl) hl.1 hcs dX11_day_59 (fun H locs hw => ?_)
  obtain ⟨r_5, I_6, J_7, hq_8, hf⟩ := yb_b3_some hf
  refine x_callsi X hK hw (cJ_bitCount_0f7a4 l D cz ev hq_8) sw_X11_243 ⟨Nat.le_trans (m := 3) (Nat.le_of_ble_eq_true rfl) hRf, Nat.le_trans (m := 142) (Nat.le_of_ble_eq_true rfl) hRl⟩ rfl rfl (Nat.le_of_ble_eq_true rfl) hl.1 hcs dX11_day_62 (fun H locs hw => ?_)
  exact yb_creti hfin hf hw dX11_day_65
set_option maxHeartbeats 4000000 in
set_option maxRecDepth 100000 in
theorem u11_hear_B {p : Program} {l : Launch} {e : Env} {R : Room} {s : State} {m : MethodId} {args : Array Value} {below : List Frame} {meth : Method} {c : Code} {Q : State → Prop} {cells slots : Nat} {D : va_G} {cz : Nat → ClassId} {A : Nat → Prop} {ev : Nat × Nat × Nat} {b : Nat} {L : List Nat} {S : ST} {Rf : RT} (hC : CW b L S Rf) (X : CallFix p m c cX11_hear 3 s args gw RX11) (hK : KX D cz ev A s) (hRf : 5 ≤ R.frames) (hRl : 142 ≤ R.locals) (hcs : cells ≤ R.cells ∧ slots ≤ R.slots) {N : Nat} {x1 : Int32} {x2 : Int32} {I : IT} {J : JT} {rM : Int32} {IM : IT} {JM : JT} {H : Heap} {locs : List Loc} {ls : Array Slot} (hf : h11_hear_B N b S Rf x1 x2 I J = some (rM, IM, JM)) (hw : WX D cz A L S Rf s.heap I J H locs) (hl : lv_has ls 3 [(0, .ref b), (1, .int x1), (2, .int x2)])
    (hfin : ∀ (H : Heap) (locs : List Loc) (ls : Array Slot) (pc : Nat), WX D cz A L S Rf s.heap IM JM H locs → decode cX11_hear pc = .ok (.ireturn, 1) → W p l e R s m args below meth c H locs cells slots Q (F0 m pc ls [.int rM])) :
    W p l e R s m args below meth c H locs cells slots Q (F0 m 37 ls []) := by
  unfold h11_hear_B at hf
  have hx := X.1
  have hb := X.2.1
  refine lv_aload_n hx hb dX11_hear_37 rfl (lv_at hl 0 rfl) ?_
  refine x_getR X hK hw (cw_mem0 hC) (cw_S0 hC) cpX11 6 (by decide) rfl (cw_R hC 0 6 (by decide) rfl) tw_565 dX11_hear_38 ?_
  refine lv_iload_n hx hb dX11_hear_41 rfl (lv_at hl 1 rfl) ?_
  refine lv_iload_n hx hb dX11_hear_42 rfl (lv_at hl 2 rfl) ?_
  obtain ⟨r_1, I_2, J_3, hq_4, hf⟩ := yb_b3_some hf
  refine x_callv X hK hw (c1_begin l D cz ev hC hq_4) (cw_mem hC 30 (by decide)) (cw_S hC 30 rfl) cpX1.1 vw_X11_251 ⟨Nat.le_trans (m := 5) (Nat.le_of_ble_eq_true rfl) hRf, Nat.le_trans (m := 142) (Nat.le_of_ble_eq_true rfl) hRl⟩ rfl rfl (Nat.le_of_ble_eq_true rfl) hl.1 hcs dX11_hear_43 (fun H locs hw => ?_)
  refine lv_aload_n hx hb dX11_hear_46 rfl (lv_at hl 0 rfl) ?_
  refine x_getR X hK hw (cw_mem0 hC) (cw_S0 hC) cpX11 3 (by decide) rfl (cw_R hC 0 3 (by decide) rfl) tw_562 dX11_hear_47 ?_
  refine x_getR X hK hw (cw_now hC).1.1 (cw_now hC).1.2 cpX8 1 (by decide) rfl (cw_now hC).2.2.1.1 tw_351 dX11_hear_50 ?_
  refine x_getR X hK hw (st_course (cw_now hC)).1.1 (st_course (cw_now hC)).1.2 cpX0 4 (by decide) rfl (ca_R (st_course (cw_now hC)) 4 (by decide)) tw_305 dX11_hear_53 ?_
  refine lv_iload_n hx hb dX11_hear_56 rfl (lv_at hl 1 rfl) ?_
  obtain ⟨hi_5, hf⟩ := yb_ck_some hf
  refine x_iald X hK hw (ca_mem (st_course (cw_now hC)) 4 (by decide)) (ca_S (st_course (cw_now hC)) 4 rfl) hi_5 rfl dX11_hear_57 ?_
  exact yb_creti hfin hf hw dX11_hear_58
set_option maxHeartbeats 4000000 in
set_option maxRecDepth 100000 in
theorem u11_teach_B {p : Program} {l : Launch} {e : Env} {R : Room} {s : State} {m : MethodId} {args : Array Value} {below : List Frame} {meth : Method} {c : Code} {Q : State → Prop} {cells slots : Nat} {D : va_G} {cz : Nat → ClassId} {A : Nat → Prop} {ev : Nat × Nat × Nat} {b : Nat} {L : List Nat} {S : ST} {Rf : RT} (hC : CW b L S Rf) (X : CallFix p m c cX11_teach 2 s args gw RX11) (hK : KX D cz ev A s) (hRf : 3 ≤ R.frames) (hRl : 142 ≤ R.locals) (hcs : cells ≤ R.cells ∧ slots ≤ R.slots) {N : Nat} {x1 : Int32} {I : IT} {J : JT} {rM : Int32} {IM : IT} {JM : JT} {H : Heap} {locs : List Loc} {ls : Array Slot} (hf : h11_teach_B N b S Rf x1 I J = some (rM, IM, JM)) (hw : WX D cz A L S Rf s.heap I J H locs) (hl : lv_has ls 2 [(0, .ref b), (1, .int x1)])
    (hfin : ∀ (H : Heap) (locs : List Loc) (ls : Array Slot) (pc : Nat), WX D cz A L S Rf s.heap IM JM H locs → decode cX11_teach pc = .ok (.ireturn, 1) → W p l e R s m args below meth c H locs cells slots Q (F0 m pc ls [.int rM])) :
    W p l e R s m args below meth c H locs cells slots Q (F0 m 47 ls []) := by
  unfold h11_teach_B at hf
  have hx := X.1
  have hb := X.2.1
  refine lv_aload_n hx hb dX11_teach_47 rfl (lv_at hl 0 rfl) ?_
  refine x_getR X hK hw (cw_mem0 hC) (cw_S0 hC) cpX11 3 (by decide) rfl (cw_R hC 0 3 (by decide) rfl) tw_562 dX11_teach_48 ?_
  refine x_getR X hK hw (cw_now hC).1.1 (cw_now hC).1.2 cpX8 1 (by decide) rfl (cw_now hC).2.2.1.1 tw_351 dX11_teach_51 ?_
  refine x_getR X hK hw (st_course (cw_now hC)).1.1 (st_course (cw_now hC)).1.2 cpX0 0 (by decide) rfl (ca_R (st_course (cw_now hC)) 0 (by decide)) tw_290 dX11_teach_54 ?_
  refine lv_iload_n hx hb dX11_teach_57 rfl (lv_at hl 1 rfl) ?_
  refine lv_dup2_11 hx hb dX11_teach_58 rfl rfl ?_
  obtain ⟨hi_1, hf⟩ := yb_ck_some hf
  refine x_iald X hK hw (ca_mem (st_course (cw_now hC)) 0 (by decide)) (ca_S (st_course (cw_now hC)) 0 rfl) hi_1 rfl dX11_teach_59 ?_
  refine lv_iconst (v := (1 : Int32)) hx hb dX11_teach_60 (by decide) ?_
  refine lv_iadd hx hb dX11_teach_61 ?_
  refine x_iast X hK hw (ca_mem (st_course (cw_now hC)) 0 (by decide)) (ca_S (st_course (cw_now hC)) 0 rfl) hi_1 rfl dX11_teach_62 (fun H locs hw => ?_)
  obtain ⟨I_2, eI_2, hf⟩ := yb_let_ex hf
  have hw := yb_wI eI_2 hw
  refine lv_aload_n hx hb dX11_teach_63 rfl (lv_at hl 0 rfl) ?_
  refine x_getR X hK hw (cw_mem0 hC) (cw_S0 hC) cpX11 3 (by decide) rfl (cw_R hC 0 3 (by decide) rfl) tw_562 dX11_teach_64 ?_
  refine x_getR X hK hw (cw_now hC).1.1 (cw_now hC).1.2 cpX8 1 (by decide) rfl (cw_now hC).2.2.1.1 tw_351 dX11_teach_67 ?_
  refine x_getR X hK hw (st_course (cw_now hC)).1.1 (st_course (cw_now hC)).1.2 cpX0 0 (by decide) rfl (ca_R (st_course (cw_now hC)) 0 (by decide)) tw_290 dX11_teach_70 ?_
  refine lv_iload_n hx hb dX11_teach_73 rfl (lv_at hl 1 rfl) ?_
  refine x_iald X hK hw (ca_mem (st_course (cw_now hC)) 0 (by decide)) (ca_S (st_course (cw_now hC)) 0 rfl) hi_1 rfl dX11_teach_74 ?_
  exact yb_creti hfin hf hw dX11_teach_75
set_option maxHeartbeats 4000000 in
set_option maxRecDepth 100000 in
theorem u11_image_B {p : Program} {l : Launch} {e : Env} {R : Room} {s : State} {m : MethodId} {args : Array Value} {below : List Frame} {meth : Method} {c : Code} {Q : State → Prop} {cells slots : Nat} {D : va_G} {cz : Nat → ClassId} {A : Nat → Prop} {ev : Nat × Nat × Nat} {b : Nat} {L : List Nat} {S : ST} {Rf : RT} (hC : CW b L S Rf) (X : CallFix p m c cX11_image 2 s args gw RX11) (hK : KX D cz ev A s) (hRf : 3 ≤ R.frames) (hRl : 142 ≤ R.locals) (hcs : cells ≤ R.cells ∧ slots ≤ R.slots) {N : Nat} {x1 : Int32} {I : IT} {J : JT} {rM : Int32} {IM : IT} {JM : JT} {H : Heap} {locs : List Loc} {ls : Array Slot} (hf : h11_image_B N b S Rf x1 I J = some (rM, IM, JM)) (hw : WX D cz A L S Rf s.heap I J H locs) (hl : lv_has ls 2 [(0, .ref b), (1, .int x1)])
    (hfin : ∀ (H : Heap) (locs : List Loc) (ls : Array Slot) (pc : Nat), WX D cz A L S Rf s.heap IM JM H locs → decode cX11_image pc = .ok (.ireturn, 1) → W p l e R s m args below meth c H locs cells slots Q (F0 m pc ls [.int rM])) :
    W p l e R s m args below meth c H locs cells slots Q (F0 m 33 ls []) := by
  unfold h11_image_B at hf
  have hx := X.1
  have hb := X.2.1
  refine lv_aload_n hx hb dX11_image_33 rfl (lv_at hl 0 rfl) ?_
  refine x_getR X hK hw (cw_mem0 hC) (cw_S0 hC) cpX11 4 (by decide) rfl (cw_R hC 0 4 (by decide) rfl) tw_563 dX11_image_34 ?_
  refine lv_iload_n hx hb dX11_image_37 rfl (lv_at hl 1 rfl) ?_
  obtain ⟨hi_1, hf⟩ := yb_ck_some hf
  rcases ho_3 : Rf (b + 27) x1.toNatClampNeg with _ | t_2
  · rw [ho_3] at hf
    have hf := yb_op_n hf
    refine x_aaldN_5 X hK hw (cw_mem hC 27 (by decide)) (cw_S hC 27 rfl) hi_1 rfl ho_3 dX11_image_38 ?_
    refine lv_aload_n hx hb dX11_image_39 rfl (lv_at hl 0 rfl) ?_
    refine x_getR X hK hw (cw_mem0 hC) (cw_S0 hC) cpX11 3 (by decide) rfl (cw_R hC 0 3 (by decide) rfl) tw_562 dX11_image_40 ?_
    cases hf
  · rw [ho_3] at hf
    have hf := yb_op_s hf
    refine x_aaldS_5 X hK hw (cw_mem hC 27 (by decide)) (cw_S hC 27 rfl) hi_1 rfl ho_3 dX11_image_38 ?_
    refine lv_aload_n hx hb dX11_image_39 rfl (lv_at hl 0 rfl) ?_
    refine x_getR X hK hw (cw_mem0 hC) (cw_S0 hC) cpX11 3 (by decide) rfl (cw_R hC 0 3 (by decide) rfl) tw_562 dX11_image_40 ?_
    obtain ⟨r_4, I_5, J_6, hq_7, hf⟩ := yb_b3_some hf
    refine x_callv X hK hw (c8_copy l D cz ev hC (cw_image hC ho_3) (cw_now hC) hq_7) (cw_image hC ho_3).1.1 (cw_image hC ho_3).1.2 cpX8.1 vw_X11_370 ⟨Nat.le_trans (m := 3) (Nat.le_of_ble_eq_true rfl) hRf, Nat.le_trans (m := 142) (Nat.le_of_ble_eq_true rfl) hRl⟩ rfl rfl (Nat.le_of_ble_eq_true rfl) hl.1 hcs dX11_image_43 (fun H locs hw => ?_)
    refine lv_aload_n hx hb dX11_image_46 rfl (lv_at hl 0 rfl) ?_
    refine x_getR X hK hw (cw_mem0 hC) (cw_S0 hC) cpX11 3 (by decide) rfl (cw_R hC 0 3 (by decide) rfl) tw_562 dX11_image_47 ?_
    refine x_getR X hK hw (cw_now hC).1.1 (cw_now hC).1.2 cpX8 1 (by decide) rfl (cw_now hC).2.2.1.1 tw_351 dX11_image_50 ?_
    refine x_getI X hK hw (st_course (cw_now hC)).1.1 (st_course (cw_now hC)).1.2 cpX0 9 (by decide) rfl tw_320 dX11_image_53 ?_
    exact yb_creti hfin hf hw dX11_image_56
set_option maxHeartbeats 4000000 in
set_option maxRecDepth 100000 in
theorem u11_rule_B {p : Program} {l : Launch} {e : Env} {R : Room} {s : State} {m : MethodId} {args : Array Value} {below : List Frame} {meth : Method} {c : Code} {Q : State → Prop} {cells slots : Nat} {D : va_G} {cz : Nat → ClassId} {A : Nat → Prop} {ev : Nat × Nat × Nat} {b : Nat} {L : List Nat} {S : ST} {Rf : RT} (hC : CW b L S Rf) (X : CallFix p m c cX11_rule 1 s args gw RX11) (hK : KX D cz ev A s) (hRf : 35 ≤ R.frames) (hRl : 853 ≤ R.locals) (hcs : cells ≤ R.cells ∧ slots ≤ R.slots) {N : Nat} {I : IT} {J : JT} {rM : Int32} {IM : IT} {JM : JT} {H : Heap} {locs : List Loc} {ls : Array Slot} (hf : h11_rule_B N b S Rf I J = some (rM, IM, JM)) (hw : WX D cz A L S Rf s.heap I J H locs) (hl : lv_has ls 1 [(0, .ref b)])
    (hfin : ∀ (H : Heap) (locs : List Loc) (ls : Array Slot) (pc : Nat), WX D cz A L S Rf s.heap IM JM H locs → decode cX11_rule pc = .ok (.ireturn, 1) → W p l e R s m args below meth c H locs cells slots Q (F0 m pc ls [.int rM])) :
    W p l e R s m args below meth c H locs cells slots Q (F0 m 52 ls []) := by
  unfold h11_rule_B at hf
  have hx := X.1
  have hb := X.2.1
  refine lv_aload_n hx hb dX11_rule_52 rfl (lv_at hl 0 rfl) ?_
  refine lv_dup hx hb dX11_rule_53 rfl ?_
  refine x_getI X hK hw (cw_mem0 hC) (cw_S0 hC) cpX11 15 (by decide) rfl tw_574 dX11_rule_54 ?_
  refine lv_iconst (v := (1 : Int32)) hx hb dX11_rule_57 (by decide) ?_
  refine lv_iadd hx hb dX11_rule_58 ?_
  refine x_putI X hK hw (cw_mem0 hC) (cw_S0 hC) cpX11 15 (by decide) rfl rfl rfl tw_574 dX11_rule_59 (fun H locs hw => ?_)
  obtain ⟨I_1, eI_1, hf⟩ := yb_let_ex hf
  have hw := yb_wI eI_1 hw
  refine lv_aload_n hx hb dX11_rule_62 rfl (lv_at hl 0 rfl) ?_
  refine x_getI X hK hw (cw_mem0 hC) (cw_S0 hC) cpX11 15 (by decide) rfl tw_574 dX11_rule_63 ?_
  refine lv_iconst (v := (1 : Int32)) hx hb dX11_rule_66 (by decide) ?_
  refine lv_isub hx hb dX11_rule_67 ?_
  exact yb_creti hfin hf hw dX11_rule_68
