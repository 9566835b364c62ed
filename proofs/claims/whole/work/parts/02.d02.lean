theorem dX10_together_12 : decode cX10_together 12 = .ok (.if_icmp .ge 59, 3) := by decide +kernel
theorem dX10_together_15 : decode cX10_together 15 = .ok (.iconst 0, 1) := by decide +kernel
theorem dX10_together_16 : decode cX10_together 16 = .ok (.istore_n 3, 1) := by decide +kernel
theorem dX10_together_17 : decode cX10_together 17 = .ok (.iload_n 3, 1) := by decide +kernel
theorem dX10_together_18 : decode cX10_together 18 = .ok (.iload_n 2, 1) := by decide +kernel
theorem dX10_together_19 : decode cX10_together 19 = .ok (.if_icmp .ge 46, 3) := by decide +kernel
theorem dX10_together_22 : decode cX10_together 22 = .ok (.aload_n 0, 1) := by decide +kernel
theorem dX10_together_23 : decode cX10_together 23 = .ok (.getfield 48, 3) := by decide +kernel
theorem dX10_together_26 : decode cX10_together 26 = .ok (.getfield 167, 3) := by decide +kernel
theorem dX10_together_29 : decode cX10_together 29 = .ok (.iload_n 2, 1) := by decide +kernel
theorem dX10_together_30 : decode cX10_together 30 = .ok (.iaload, 1) := by decide +kernel
theorem dX10_together_31 : decode cX10_together 31 = .ok (.iconst (-1), 1) := by decide +kernel
theorem dX10_together_32 : decode cX10_together 32 = .ok (.if_icmp .eq 27, 3) := by decide +kernel
theorem dX10_together_35 : decode cX10_together 35 = .ok (.aload_n 0, 1) := by decide +kernel
theorem dX10_together_36 : decode cX10_together 36 = .ok (.getfield 48, 3) := by decide +kernel
theorem dX10_together_39 : decode cX10_together 39 = .ok (.getfield 167, 3) := by decide +kernel
theorem dX10_together_42 : decode cX10_together 42 = .ok (.iload_n 2, 1) := by decide +kernel
theorem dX10_together_43 : decode cX10_together 43 = .ok (.iaload, 1) := by decide +kernel
theorem dX10_together_44 : decode cX10_together 44 = .ok (.aload_n 0, 1) := by decide +kernel
theorem dX10_together_45 : decode cX10_together 45 = .ok (.getfield 48, 3) := by decide +kernel
theorem dX10_together_48 : decode cX10_together 48 = .ok (.getfield 167, 3) := by decide +kernel
theorem dX10_together_51 : decode cX10_together 51 = .ok (.iload_n 3, 1) := by decide +kernel
theorem dX10_together_52 : decode cX10_together 52 = .ok (.iaload, 1) := by decide +kernel
theorem dX10_together_53 : decode cX10_together 53 = .ok (.if_icmp .ne 6, 3) := by decide +kernel
theorem dX10_together_56 : decode cX10_together 56 = .ok (.iinc 1 1, 3) := by decide +kernel
theorem dX10_together_59 : decode cX10_together 59 = .ok (.iinc 3 1, 3) := by decide +kernel
theorem dX10_together_62 : decode cX10_together 62 = .ok (.goto (-45), 3) := by decide +kernel
theorem dX10_together_65 : decode cX10_together 65 = .ok (.iinc 2 1, 3) := by decide +kernel
theorem dX10_together_68 : decode cX10_together 68 = .ok (.goto (-64), 3) := by decide +kernel
theorem dX10_together_71 : decode cX10_together 71 = .ok (.iload_n 1, 1) := by decide +kernel
theorem dX10_together_72 : decode cX10_together 72 = .ok (.ireturn, 1) := by decide +kernel
theorem dX10_spent_0 : decode cX10_spent 0 = .ok (.aload_n 0, 1) := by decide +kernel
theorem dX10_spent_1 : decode cX10_spent 1 = .ok (.getfield 48, 3) := by decide +kernel
theorem dX10_spent_4 : decode cX10_spent 4 = .ok (.getfield 318, 3) := by decide +kernel
theorem dX10_spent_7 : decode cX10_spent 7 = .ok (.ireturn, 1) := by decide +kernel
theorem dX10_far_0 : decode cX10_far 0 = .ok (.aload_n 0, 1) := by decide +kernel
theorem dX10_far_1 : decode cX10_far 1 = .ok (.getfield 28, 3) := by decide +kernel
theorem dX10_far_4 : decode cX10_far 4 = .ok (.iload_n 1, 1) := by decide +kernel
theorem dX10_far_5 : decode cX10_far 5 = .ok (.invokevirtual 121, 3) := by decide +kernel
theorem dX10_far_8 : decode cX10_far 8 = .ok (.ifCond .ne 5, 3) := by decide +kernel
theorem dX10_far_11 : decode cX10_far 11 = .ok (.iconst (-1), 1) := by decide +kernel
theorem dX10_far_12 : decode cX10_far 12 = .ok (.ireturn, 1) := by decide +kernel
theorem dX10_far_13 : decode cX10_far 13 = .ok (.aload_n 0, 1) := by decide +kernel
theorem dX10_far_14 : decode cX10_far 14 = .ok (.getfield 79, 3) := by decide +kernel
theorem dX10_far_17 : decode cX10_far 17 = .ok (.aload_n 0, 1) := by decide +kernel
theorem dX10_far_18 : decode cX10_far 18 = .ok (.getfield 28, 3) := by decide +kernel
theorem dX10_far_21 : decode cX10_far 21 = .ok (.iconst 0, 1) := by decide +kernel
theorem dX10_far_22 : decode cX10_far 22 = .ok (.aload_n 0, 1) := by decide +kernel
theorem dX10_far_23 : decode cX10_far 23 = .ok (.getfield 28, 3) := by decide +kernel
theorem dX10_far_26 : decode cX10_far 26 = .ok (.invokevirtual 292, 3) := by decide +kernel
theorem dX10_far_29 : decode cX10_far 29 = .ok (.aload_n 0, 1) := by decide +kernel
theorem dX10_far_30 : decode cX10_far 30 = .ok (.getfield 73, 3) := by decide +kernel
theorem dX10_far_33 : decode cX10_far 33 = .ok (.invokevirtual 281, 3) := by decide +kernel
theorem dX10_far_36 : decode cX10_far 36 = .ok (.aload_n 0, 1) := by decide +kernel
theorem dX10_far_37 : decode cX10_far 37 = .ok (.getfield 79, 3) := by decide +kernel
theorem dX10_far_40 : decode cX10_far 40 = .ok (.getfield 238, 3) := by decide +kernel
theorem dX10_far_43 : decode cX10_far 43 = .ok (.iload_n 1, 1) := by decide +kernel
theorem dX10_far_44 : decode cX10_far 44 = .ok (.iaload, 1) := by decide +kernel
theorem dX10_far_45 : decode cX10_far 45 = .ok (.ireturn, 1) := by decide +kernel
theorem dX10_lean_0 : decode cX10_lean 0 = .ok (.aload_n 0, 1) := by decide +kernel
theorem dX10_lean_1 : decode cX10_lean 1 = .ok (.getfield 28, 3) := by decide +kernel
theorem dX10_lean_4 : decode cX10_lean 4 = .ok (.iload_n 1, 1) := by decide +kernel
theorem dX10_lean_5 : decode cX10_lean 5 = .ok (.invokevirtual 161, 3) := by decide +kernel
theorem dX10_lean_8 : decode cX10_lean 8 = .ok (.ifCond .ne 5, 3) := by decide +kernel
theorem dX10_lean_11 : decode cX10_lean 11 = .ok (.iconst (-1), 1) := by decide +kernel
theorem dX10_lean_12 : decode cX10_lean 12 = .ok (.ireturn, 1) := by decide +kernel
theorem dX10_lean_13 : decode cX10_lean 13 = .ok (.iconst (-1), 1) := by decide +kernel
theorem dX10_lean_14 : decode cX10_lean 14 = .ok (.istore_n 2, 1) := by decide +kernel
theorem dX10_lean_15 : decode cX10_lean 15 = .ok (.iconst 0, 1) := by decide +kernel
theorem dX10_lean_16 : decode cX10_lean 16 = .ok (.istore_n 3, 1) := by decide +kernel
theorem dX10_lean_17 : decode cX10_lean 17 = .ok (.iconst 0, 1) := by decide +kernel
theorem dX10_lean_18 : decode cX10_lean 18 = .ok (.istore 4, 2) := by decide +kernel
theorem dX10_lean_20 : decode cX10_lean 20 = .ok (.iload 4, 2) := by decide +kernel
theorem dX10_lean_22 : decode cX10_lean 22 = .ok (.aload_n 0, 1) := by decide +kernel
theorem dX10_lean_23 : decode cX10_lean 23 = .ok (.getfield 28, 3) := by decide +kernel
theorem dX10_lean_26 : decode cX10_lean 26 = .ok (.getfield 289, 3) := by decide +kernel
theorem dX10_lean_29 : decode cX10_lean 29 = .ok (.if_icmp .ge 89, 3) := by decide +kernel
theorem dX10_lean_32 : decode cX10_lean 32 = .ok (.aload_n 0, 1) := by decide +kernel
theorem dX10_lean_33 : decode cX10_lean 33 = .ok (.getfield 48, 3) := by decide +kernel
theorem dX10_lean_36 : decode cX10_lean 36 = .ok (.aload_n 0, 1) := by decide +kernel
theorem dX10_lean_37 : decode cX10_lean 37 = .ok (.getfield 28, 3) := by decide +kernel
theorem dX10_lean_40 : decode cX10_lean 40 = .ok (.iload 4, 2) := by decide +kernel
theorem dX10_lean_42 : decode cX10_lean 42 = .ok (.invokevirtual 321, 3) := by decide +kernel
theorem dX10_lean_45 : decode cX10_lean 45 = .ok (.ifCond .eq 67, 3) := by decide +kernel
theorem dX10_lean_48 : decode cX10_lean 48 = .ok (.aload_n 0, 1) := by decide +kernel
theorem dX10_lean_49 : decode cX10_lean 49 = .ok (.getfield 28, 3) := by decide +kernel
theorem dX10_lean_52 : decode cX10_lean 52 = .ok (.iload 4, 2) := by decide +kernel
theorem dX10_lean_54 : decode cX10_lean 54 = .ok (.aload_n 0, 1) := by decide +kernel
theorem dX10_lean_55 : decode cX10_lean 55 = .ok (.getfield 48, 3) := by decide +kernel
theorem dX10_lean_58 : decode cX10_lean 58 = .ok (.getfield 167, 3) := by decide +kernel
theorem dX10_lean_61 : decode cX10_lean 61 = .ok (.iload_n 1, 1) := by decide +kernel
theorem dX10_lean_62 : decode cX10_lean 62 = .ok (.iaload, 1) := by decide +kernel
theorem dX10_lean_63 : decode cX10_lean 63 = .ok (.invokevirtual 324, 3) := by decide +kernel
theorem dX10_lean_66 : decode cX10_lean 66 = .ok (.iconst (-1), 1) := by decide +kernel
theorem dX10_lean_67 : decode cX10_lean 67 = .ok (.if_icmp .eq 45, 3) := by decide +kernel
theorem dX10_lean_70 : decode cX10_lean 70 = .ok (.aload_n 0, 1) := by decide +kernel
theorem dX10_lean_71 : decode cX10_lean 71 = .ok (.getfield 48, 3) := by decide +kernel
theorem dX10_lean_74 : decode cX10_lean 74 = .ok (.aload_n 0, 1) := by decide +kernel
theorem dX10_lean_75 : decode cX10_lean 75 = .ok (.getfield 28, 3) := by decide +kernel
theorem dX10_lean_78 : decode cX10_lean 78 = .ok (.iload_n 1, 1) := by decide +kernel
theorem dX10_lean_79 : decode cX10_lean 79 = .ok (.iload 4, 2) := by decide +kernel
theorem dX10_lean_81 : decode cX10_lean 81 = .ok (.aload_n 0, 1) := by decide +kernel
theorem dX10_lean_82 : decode cX10_lean 82 = .ok (.getfield 48, 3) := by decide +kernel
theorem dX10_lean_85 : decode cX10_lean 85 = .ok (.getfield 173, 3) := by decide +kernel
theorem dX10_lean_88 : decode cX10_lean 88 = .ok (.iload_n 1, 1) := by decide +kernel
theorem dX10_lean_89 : decode cX10_lean 89 = .ok (.iaload, 1) := by decide +kernel
theorem dX10_lean_90 : decode cX10_lean 90 = .ok (.invokevirtual 179, 3) := by decide +kernel
theorem dX10_lean_93 : decode cX10_lean 93 = .ok (.istore 5, 2) := by decide +kernel
theorem dX10_lean_95 : decode cX10_lean 95 = .ok (.iload_n 2, 1) := by decide +kernel
theorem dX10_lean_96 : decode cX10_lean 96 = .ok (.iconst (-1), 1) := by decide +kernel
theorem dX10_lean_97 : decode cX10_lean 97 = .ok (.if_icmp .eq 9, 3) := by decide +kernel
theorem dX10_lean_100 : decode cX10_lean 100 = .ok (.iload 5, 2) := by decide +kernel
theorem dX10_lean_102 : decode cX10_lean 102 = .ok (.iload_n 3, 1) := by decide +kernel
theorem dX10_lean_103 : decode cX10_lean 103 = .ok (.if_icmp .ge 9, 3) := by decide +kernel
theorem dX10_lean_106 : decode cX10_lean 106 = .ok (.iload 4, 2) := by decide +kernel
theorem dX10_lean_108 : decode cX10_lean 108 = .ok (.istore_n 2, 1) := by decide +kernel
theorem dX10_lean_109 : decode cX10_lean 109 = .ok (.iload 5, 2) := by decide +kernel
theorem dX10_lean_111 : decode cX10_lean 111 = .ok (.istore_n 3, 1) := by decide +kernel
theorem dX10_lean_112 : decode cX10_lean 112 = .ok (.iinc 4 1, 3) := by decide +kernel
theorem dX10_lean_115 : decode cX10_lean 115 = .ok (.goto (-95), 3) := by decide +kernel
theorem dX10_lean_118 : decode cX10_lean 118 = .ok (.iload_n 2, 1) := by decide +kernel
theorem dX10_lean_119 : decode cX10_lean 119 = .ok (.ireturn, 1) := by decide +kernel
theorem dX10_chance_0 : decode cX10_chance 0 = .ok (.aload_n 0, 1) := by decide +kernel
theorem dX10_chance_1 : decode cX10_chance 1 = .ok (.getfield 28, 3) := by decide +kernel
theorem dX10_chance_4 : decode cX10_chance 4 = .ok (.iload_n 1, 1) := by decide +kernel
theorem dX10_chance_5 : decode cX10_chance 5 = .ok (.invokevirtual 135, 3) := by decide +kernel
theorem dX10_chance_8 : decode cX10_chance 8 = .ok (.ifCond .eq 24, 3) := by decide +kernel
theorem dX10_chance_11 : decode cX10_chance 11 = .ok (.iload_n 2, 1) := by decide +kernel
theorem dX10_chance_12 : decode cX10_chance 12 = .ok (.iconst 1, 1) := by decide +kernel
theorem dX10_chance_13 : decode cX10_chance 13 = .ok (.if_icmp .lt 19, 3) := by decide +kernel
theorem dX10_chance_16 : decode cX10_chance 16 = .ok (.iload_n 2, 1) := by decide +kernel
theorem dX10_chance_17 : decode cX10_chance 17 = .ok (.bipush 6, 2) := by decide +kernel
theorem dX10_chance_19 : decode cX10_chance 19 = .ok (.if_icmp .gt 13, 3) := by decide +kernel
theorem dX10_chance_22 : decode cX10_chance 22 = .ok (.iload_n 3, 1) := by decide +kernel
theorem dX10_chance_23 : decode cX10_chance 23 = .ok (.ifCond .lt 9, 3) := by decide +kernel
theorem dX10_chance_26 : decode cX10_chance 26 = .ok (.iload_n 3, 1) := by decide +kernel
theorem dX10_chance_27 : decode cX10_chance 27 = .ok (.bipush 10, 2) := by decide +kernel
theorem dX10_chance_29 : decode cX10_chance 29 = .ok (.if_icmp .le 5, 3) := by decide +kernel
theorem dX10_chance_32 : decode cX10_chance 32 = .ok (.iconst (-1), 1) := by decide +kernel
theorem dX10_chance_33 : decode cX10_chance 33 = .ok (.ireturn, 1) := by decide +kernel
theorem dX10_chance_34 : decode cX10_chance 34 = .ok (.ldc2_w 327, 3) := by decide +kernel
theorem dX10_chance_37 : decode cX10_chance 37 = .ok (.lstore 4, 2) := by decide +kernel
theorem dX10_chance_39 : decode cX10_chance 39 = .ok (.iconst 0, 1) := by decide +kernel
theorem dX10_chance_40 : decode cX10_chance 40 = .ok (.istore 6, 2) := by decide +kernel
theorem dX10_chance_42 : decode cX10_chance 42 = .ok (.iload 6, 2) := by decide +kernel
theorem dX10_chance_44 : decode cX10_chance 44 = .ok (.iload_n 2, 1) := by decide +kernel
theorem dX10_chance_45 : decode cX10_chance 45 = .ok (.if_icmp .ge 17, 3) := by decide +kernel
theorem dX10_chance_48 : decode cX10_chance 48 = .ok (.lload 4, 2) := by decide +kernel
theorem dX10_chance_50 : decode cX10_chance 50 = .ok (.ldc2_w 327, 3) := by decide +kernel
theorem dX10_chance_53 : decode cX10_chance 53 = .ok (.lmul, 1) := by decide +kernel
theorem dX10_chance_54 : decode cX10_chance 54 = .ok (.lstore 4, 2) := by decide +kernel
theorem dX10_chance_56 : decode cX10_chance 56 = .ok (.iinc 6 1, 3) := by decide +kernel
theorem dX10_chance_59 : decode cX10_chance 59 = .ok (.goto (-17), 3) := by decide +kernel
theorem dX10_chance_62 : decode cX10_chance 62 = .ok (.aload_n 0, 1) := by decide +kernel
theorem dX10_chance_63 : decode cX10_chance 63 = .ok (.getfield 48, 3) := by decide +kernel
theorem dX10_chance_66 : decode cX10_chance 66 = .ok (.getfield 151, 3) := by decide +kernel
theorem dX10_chance_69 : decode cX10_chance 69 = .ok (.iload_n 1, 1) := by decide +kernel
theorem dX10_chance_70 : decode cX10_chance 70 = .ok (.iaload, 1) := by decide +kernel
theorem dX10_chance_71 : decode cX10_chance 71 = .ok (.iload_n 2, 1) := by decide +kernel
theorem dX10_chance_72 : decode cX10_chance 72 = .ok (.iload_n 3, 1) := by decide +kernel
theorem dX10_chance_73 : decode cX10_chance 73 = .ok (.invokestatic 329, 3) := by decide +kernel
theorem dX10_chance_76 : decode cX10_chance 76 = .ok (.ldc2_w 333, 3) := by decide +kernel
theorem dX10_chance_79 : decode cX10_chance 79 = .ok (.lmul, 1) := by decide +kernel
theorem dX10_chance_80 : decode cX10_chance 80 = .ok (.lload 4, 2) := by decide +kernel
theorem dX10_chance_82 : decode cX10_chance 82 = .ok (.ldiv, 1) := by decide +kernel
theorem dX10_chance_83 : decode cX10_chance 83 = .ok (.l2i, 1) := by decide +kernel
theorem dX10_chance_84 : decode cX10_chance 84 = .ok (.ireturn, 1) := by decide +kernel
theorem dX10_rests_0 : decode cX10_rests 0 = .ok (.iload_n 1, 1) := by decide +kernel
theorem dX10_rests_1 : decode cX10_rests 1 = .ok (.invokestatic 335, 3) := by decide +kernel
theorem dX10_rests_4 : decode cX10_rests 4 = .ok (.ifCond .eq 23, 3) := by decide +kernel
theorem dX10_rests_7 : decode cX10_rests 7 = .ok (.iload_n 2, 1) := by decide +kernel
theorem dX10_rests_8 : decode cX10_rests 8 = .ok (.invokestatic 335, 3) := by decide +kernel
theorem dX10_rests_11 : decode cX10_rests 11 = .ok (.ifCond .eq 16, 3) := by decide +kernel
theorem dX10_rests_14 : decode cX10_rests 14 = .ok (.iload_n 3, 1) := by decide +kernel
theorem dX10_rests_15 : decode cX10_rests 15 = .ok (.invokestatic 335, 3) := by decide +kernel
theorem dX10_rests_18 : decode cX10_rests 18 = .ok (.ifCond .eq 9, 3) := by decide +kernel
theorem dX10_rests_21 : decode cX10_rests 21 = .ok (.iload 4, 2) := by decide +kernel
theorem dX10_rests_23 : decode cX10_rests 23 = .ok (.iconst (-1), 1) := by decide +kernel
theorem dX10_rests_24 : decode cX10_rests 24 = .ok (.if_icmp .ge 11, 3) := by decide +kernel
theorem dX10_rests_27 : decode cX10_rests 27 = .ok (.new 338, 3) := by decide +kernel
theorem dX10_rests_30 : decode cX10_rests 30 = .ok (.dup, 1) := by decide +kernel
theorem dX10_rests_31 : decode cX10_rests 31 = .ok (.invokespecial 340, 3) := by decide +kernel
theorem dX10_rests_34 : decode cX10_rests 34 = .ok (.athrow, 1) := by decide +kernel
theorem dX10_rests_35 : decode cX10_rests 35 = .ok (.iconst 0, 1) := by decide +kernel
theorem dX10_rests_36 : decode cX10_rests 36 = .ok (.istore 5, 2) := by decide +kernel
theorem dX10_rests_38 : decode cX10_rests 38 = .ok (.iconst 0, 1) := by decide +kernel
theorem dX10_rests_39 : decode cX10_rests 39 = .ok (.istore 6, 2) := by decide +kernel
theorem dX10_rests_41 : decode cX10_rests 41 = .ok (.iload 6, 2) := by decide +kernel
theorem dX10_rests_43 : decode cX10_rests 43 = .ok (.iconst 4, 1) := by decide +kernel
theorem dX10_rests_44 : decode cX10_rests 44 = .ok (.if_icmp .ge 33, 3) := by decide +kernel
theorem dX10_rests_47 : decode cX10_rests 47 = .ok (.iload 6, 2) := by decide +kernel
theorem dX10_rests_49 : decode cX10_rests 49 = .ok (.iload_n 1, 1) := by decide +kernel
theorem dX10_rests_50 : decode cX10_rests 50 = .ok (.iload_n 2, 1) := by decide +kernel
theorem dX10_rests_51 : decode cX10_rests 51 = .ok (.iload_n 3, 1) := by decide +kernel
theorem dX10_rests_52 : decode cX10_rests 52 = .ok (.invokestatic 341, 3) := by decide +kernel
theorem dX10_rests_55 : decode cX10_rests 55 = .ok (.ifCond .eq 16, 3) := by decide +kernel
theorem dX10_rests_58 : decode cX10_rests 58 = .ok (.iload 5, 2) := by decide +kernel
theorem dX10_rests_60 : decode cX10_rests 60 = .ok (.iload 4, 2) := by decide +kernel
theorem dX10_rests_62 : decode cX10_rests 62 = .ok (.if_icmp .ne 6, 3) := by decide +kernel
theorem dX10_rests_65 : decode cX10_rests 65 = .ok (.iload 6, 2) := by decide +kernel
theorem dX10_rests_67 : decode cX10_rests 67 = .ok (.ireturn, 1) := by decide +kernel
theorem dX10_rests_68 : decode cX10_rests 68 = .ok (.iinc 5 1, 3) := by decide +kernel
theorem dX10_rests_71 : decode cX10_rests 71 = .ok (.iinc 6 1, 3) := by decide +kernel
theorem dX10_rests_74 : decode cX10_rests 74 = .ok (.goto (-33), 3) := by decide +kernel
theorem dX10_rests_77 : decode cX10_rests 77 = .ok (.iload 4, 2) := by decide +kernel
theorem dX10_rests_79 : decode cX10_rests 79 = .ok (.iconst (-1), 1) := by decide +kernel
theorem dX10_rests_80 : decode cX10_rests 80 = .ok (.if_icmp .eq 11, 3) := by decide +kernel
theorem dX10_rests_83 : decode cX10_rests 83 = .ok (.new 338, 3) := by decide +kernel
theorem dX10_rests_86 : decode cX10_rests 86 = .ok (.dup, 1) := by decide +kernel
theorem dX10_rests_87 : decode cX10_rests 87 = .ok (.invokespecial 340, 3) := by decide +kernel
theorem dX10_rests_90 : decode cX10_rests 90 = .ok (.athrow, 1) := by decide +kernel
theorem dX10_rests_91 : decode cX10_rests 91 = .ok (.iload 5, 2) := by decide +kernel
theorem dX10_rests_93 : decode cX10_rests 93 = .ok (.ireturn, 1) := by decide +kernel
theorem dX10_years_0 : decode cX10_years 0 = .ok (.iload_n 1, 1) := by decide +kernel
theorem dX10_years_1 : decode cX10_years 1 = .ok (.ifCond .lt 30, 3) := by decide +kernel
theorem dX10_years_4 : decode cX10_years 4 = .ok (.iload_n 1, 1) := by decide +kernel
theorem dX10_years_5 : decode cX10_years 5 = .ok (.sipush 9999, 3) := by decide +kernel
theorem dX10_years_8 : decode cX10_years 8 = .ok (.if_icmp .gt 23, 3) := by decide +kernel
theorem dX10_years_11 : decode cX10_years 11 = .ok (.iload_n 2, 1) := by decide +kernel
theorem dX10_years_12 : decode cX10_years 12 = .ok (.iconst 1, 1) := by decide +kernel
theorem dX10_years_13 : decode cX10_years 13 = .ok (.if_icmp .lt 18, 3) := by decide +kernel
theorem dX10_years_16 : decode cX10_years 16 = .ok (.iload_n 2, 1) := by decide +kernel
theorem dX10_years_17 : decode cX10_years 17 = .ok (.bipush 99, 2) := by decide +kernel
theorem dX10_years_19 : decode cX10_years 19 = .ok (.if_icmp .gt 12, 3) := by decide +kernel
theorem dX10_years_22 : decode cX10_years 22 = .ok (.iload_n 3, 1) := by decide +kernel
theorem dX10_years_23 : decode cX10_years 23 = .ok (.ifCond .lt 8, 3) := by decide +kernel
theorem dX10_years_26 : decode cX10_years 26 = .ok (.iload_n 3, 1) := by decide +kernel
theorem dX10_years_27 : decode cX10_years 27 = .ok (.iconst 2, 1) := by decide +kernel
theorem dX10_years_28 : decode cX10_years 28 = .ok (.if_icmp .le 5, 3) := by decide +kernel
theorem dX10_years_31 : decode cX10_years 31 = .ok (.iconst (-1), 1) := by decide +kernel
theorem dX10_years_32 : decode cX10_years 32 = .ok (.ireturn, 1) := by decide +kernel
theorem dX10_years_33 : decode cX10_years 33 = .ok (.aload_n 0, 1) := by decide +kernel
theorem dX10_years_34 : decode cX10_years 34 = .ok (.getfield 52, 3) := by decide +kernel
theorem dX10_years_37 : decode cX10_years 37 = .ok (.aload_n 0, 1) := by decide +kernel
theorem dX10_years_38 : decode cX10_years 38 = .ok (.getfield 48, 3) := by decide +kernel
theorem dX10_years_41 : decode cX10_years 41 = .ok (.invokevirtual 345, 3) := by decide +kernel
theorem dX10_years_44 : decode cX10_years 44 = .ok (.aload_n 0, 1) := by decide +kernel
theorem dX10_years_45 : decode cX10_years 45 = .ok (.getfield 28, 3) := by decide +kernel
theorem dX10_years_48 : decode cX10_years 48 = .ok (.getfield 244, 3) := by decide +kernel
theorem dX10_years_51 : decode cX10_years 51 = .ok (.ifCond .le 22, 3) := by decide +kernel
theorem dX10_years_54 : decode cX10_years 54 = .ok (.aload_n 0, 1) := by decide +kernel
theorem dX10_years_55 : decode cX10_years 55 = .ok (.getfield 28, 3) := by decide +kernel
theorem dX10_years_58 : decode cX10_years 58 = .ok (.getfield 289, 3) := by decide +kernel
theorem dX10_years_61 : decode cX10_years 61 = .ok (.ifCond .le 12, 3) := by decide +kernel
theorem dX10_years_64 : decode cX10_years 64 = .ok (.aload_n 0, 1) := by decide +kernel
theorem dX10_years_65 : decode cX10_years 65 = .ok (.iload_n 1, 1) := by decide +kernel
theorem dX10_years_66 : decode cX10_years 66 = .ok (.iload_n 2, 1) := by decide +kernel
theorem dX10_years_67 : decode cX10_years 67 = .ok (.invokevirtual 348, 3) := by decide +kernel
theorem dX10_years_70 : decode cX10_years 70 = .ok (.goto 4, 3) := by decide +kernel
theorem dX10_years_73 : decode cX10_years 73 = .ok (.iconst 0, 1) := by decide +kernel
theorem dX10_years_74 : decode cX10_years 74 = .ok (.istore 4, 2) := by decide +kernel
theorem dX10_years_76 : decode cX10_years 76 = .ok (.iload_n 3, 1) := by decide +kernel
theorem dX10_years_77 : decode cX10_years 77 = .ok (.ifCond .ne 8, 3) := by decide +kernel
theorem dX10_years_80 : decode cX10_years 80 = .ok (.iload 4, 2) := by decide +kernel
theorem dX10_years_82 : decode cX10_years 82 = .ok (.goto 28, 3) := by decide +kernel
theorem dX10_years_85 : decode cX10_years 85 = .ok (.iload_n 3, 1) := by decide +kernel
theorem dX10_years_86 : decode cX10_years 86 = .ok (.iconst 1, 1) := by decide +kernel
theorem dX10_years_87 : decode cX10_years 87 = .ok (.if_icmp .ne 13, 3) := by decide +kernel
theorem dX10_years_90 : decode cX10_years 90 = .ok (.aload_n 0, 1) := by decide +kernel
theorem dX10_years_91 : decode cX10_years 91 = .ok (.getfield 52, 3) := by decide +kernel
theorem dX10_years_94 : decode cX10_years 94 = .ok (.getfield 218, 3) := by decide +kernel
theorem dX10_years_97 : decode cX10_years 97 = .ok (.goto 13, 3) := by decide +kernel
theorem dX10_years_100 : decode cX10_years 100 = .ok (.aload_n 0, 1) := by decide +kernel
theorem dX10_years_101 : decode cX10_years 101 = .ok (.getfield 52, 3) := by decide +kernel
theorem dX10_years_104 : decode cX10_years 104 = .ok (.getfield 170, 3) := by decide +kernel
theorem dX10_years_107 : decode cX10_years 107 = .ok (.invokestatic 351, 3) := by decide +kernel
theorem dX10_years_110 : decode cX10_years 110 = .ok (.ireturn, 1) := by decide +kernel
theorem dX10_mark_0 : decode cX10_mark 0 = .ok (.iload_n 1, 1) := by decide +kernel
theorem dX10_mark_1 : decode cX10_mark 1 = .ok (.ifCond .lt 8, 3) := by decide +kernel
theorem dX10_mark_4 : decode cX10_mark 4 = .ok (.iload_n 1, 1) := by decide +kernel
theorem dX10_mark_5 : decode cX10_mark 5 = .ok (.iconst 4, 1) := by decide +kernel
theorem dX10_mark_6 : decode cX10_mark 6 = .ok (.if_icmp .lt 5, 3) := by decide +kernel
theorem dX10_mark_9 : decode cX10_mark 9 = .ok (.iconst 0, 1) := by decide +kernel
theorem dX10_mark_10 : decode cX10_mark 10 = .ok (.ireturn, 1) := by decide +kernel
theorem dX10_mark_11 : decode cX10_mark 11 = .ok (.iload_n 2, 1) := by decide +kernel
theorem dX10_mark_12 : decode cX10_mark 12 = .ok (.ifCond .eq 20, 3) := by decide +kernel
theorem dX10_mark_15 : decode cX10_mark 15 = .ok (.aload_n 0, 1) := by decide +kernel
theorem dX10_mark_16 : decode cX10_mark 16 = .ok (.getfield 58, 3) := by decide +kernel
theorem dX10_mark_19 : decode cX10_mark 19 = .ok (.iload_n 1, 1) := by decide +kernel
theorem dX10_mark_20 : decode cX10_mark 20 = .ok (.aload_n 0, 1) := by decide +kernel
theorem dX10_mark_21 : decode cX10_mark 21 = .ok (.getfield 48, 3) := by decide +kernel
theorem dX10_mark_24 : decode cX10_mark 24 = .ok (.aload_n 0, 1) := by decide +kernel
theorem dX10_mark_25 : decode cX10_mark 25 = .ok (.getfield 65, 3) := by decide +kernel
theorem dX10_mark_28 : decode cX10_mark 28 = .ok (.invokevirtual 355, 3) := by decide +kernel
theorem dX10_mark_31 : decode cX10_mark 31 = .ok (.ireturn, 1) := by decide +kernel
theorem dX10_mark_32 : decode cX10_mark 32 = .ok (.aload_n 0, 1) := by decide +kernel
theorem dX10_mark_33 : decode cX10_mark 33 = .ok (.getfield 58, 3) := by decide +kernel
theorem dX10_mark_36 : decode cX10_mark 36 = .ok (.iload_n 1, 1) := by decide +kernel
theorem dX10_mark_37 : decode cX10_mark 37 = .ok (.aload_n 0, 1) := by decide +kernel
theorem dX10_mark_38 : decode cX10_mark 38 = .ok (.getfield 48, 3) := by decide +kernel
theorem dX10_mark_41 : decode cX10_mark 41 = .ok (.aload_n 0, 1) := by decide +kernel
theorem dX10_mark_42 : decode cX10_mark 42 = .ok (.getfield 65, 3) := by decide +kernel
theorem dX10_mark_45 : decode cX10_mark 45 = .ok (.invokevirtual 359, 3) := by decide +kernel
theorem dX10_mark_48 : decode cX10_mark 48 = .ok (.iconst 1, 1) := by decide +kernel
theorem dX10_mark_49 : decode cX10_mark 49 = .ok (.ireturn, 1) := by decide +kernel
theorem dX10_count_0 : decode cX10_count 0 = .ok (.iload_n 1, 1) := by decide +kernel
theorem dX10_count_1 : decode cX10_count 1 = .ok (.tableswitch 199 0 13 #[71, 79, 87, 95, 103, 118, 126, 134, 145, 156, 167, 175, 183, 191], 71) := by decide +kernel
theorem dX10_count_72 : decode cX10_count 72 = .ok (.aload_n 0, 1) := by decide +kernel
theorem dX10_count_73 : decode cX10_count 73 = .ok (.getfield 28, 3) := by decide +kernel
theorem dX10_count_76 : decode cX10_count 76 = .ok (.getfield 250, 3) := by decide +kernel
theorem dX10_count_79 : decode cX10_count 79 = .ok (.ireturn, 1) := by decide +kernel
theorem dX10_count_80 : decode cX10_count 80 = .ok (.aload_n 0, 1) := by decide +kernel
theorem dX10_count_81 : decode cX10_count 81 = .ok (.getfield 28, 3) := by decide +kernel
theorem dX10_count_84 : decode cX10_count 84 = .ok (.getfield 289, 3) := by decide +kernel
theorem dX10_count_87 : decode cX10_count 87 = .ok (.ireturn, 1) := by decide +kernel
theorem dX10_count_88 : decode cX10_count 88 = .ok (.aload_n 0, 1) := by decide +kernel
theorem dX10_count_89 : decode cX10_count 89 = .ok (.getfield 28, 3) := by decide +kernel
theorem dX10_count_92 : decode cX10_count 92 = .ok (.getfield 244, 3) := by decide +kernel
theorem dX10_count_95 : decode cX10_count 95 = .ok (.ireturn, 1) := by decide +kernel
theorem dX10_count_96 : decode cX10_count 96 = .ok (.aload_n 0, 1) := by decide +kernel
theorem dX10_count_97 : decode cX10_count 97 = .ok (.getfield 48, 3) := by decide +kernel
theorem dX10_count_100 : decode cX10_count 100 = .ok (.getfield 269, 3) := by decide +kernel
theorem dX10_count_103 : decode cX10_count 103 = .ok (.ireturn, 1) := by decide +kernel
theorem dX10_count_104 : decode cX10_count 104 = .ok (.aload_n 0, 1) := by decide +kernel
theorem dX10_count_105 : decode cX10_count 105 = .ok (.getfield 28, 3) := by decide +kernel
theorem dX10_count_108 : decode cX10_count 108 = .ok (.aload_n 0, 1) := by decide +kernel
theorem dX10_count_109 : decode cX10_count 109 = .ok (.getfield 48, 3) := by decide +kernel
theorem dX10_count_112 : decode cX10_count 112 = .ok (.getfield 269, 3) := by decide +kernel
theorem dX10_count_115 : decode cX10_count 115 = .ok (.invokevirtual 272, 3) := by decide +kernel
theorem dX10_count_118 : decode cX10_count 118 = .ok (.ireturn, 1) := by decide +kernel
theorem dX10_count_119 : decode cX10_count 119 = .ok (.aload_n 0, 1) := by decide +kernel
theorem dX10_count_120 : decode cX10_count 120 = .ok (.getfield 48, 3) := by decide +kernel
theorem dX10_count_123 : decode cX10_count 123 = .ok (.getfield 218, 3) := by decide +kernel
theorem dX10_count_126 : decode cX10_count 126 = .ok (.ireturn, 1) := by decide +kernel
theorem dX10_count_127 : decode cX10_count 127 = .ok (.aload_n 0, 1) := by decide +kernel
theorem dX10_count_128 : decode cX10_count 128 = .ok (.getfield 48, 3) := by decide +kernel
theorem dX10_count_131 : decode cX10_count 131 = .ok (.getfield 278, 3) := by decide +kernel
theorem dX10_count_134 : decode cX10_count 134 = .ok (.ireturn, 1) := by decide +kernel
theorem dX10_count_135 : decode cX10_count 135 = .ok (.aload_n 0, 1) := by decide +kernel
theorem dX10_count_136 : decode cX10_count 136 = .ok (.getfield 48, 3) := by decide +kernel
theorem dX10_count_139 : decode cX10_count 139 = .ok (.getfield 151, 3) := by decide +kernel
theorem dX10_count_142 : decode cX10_count 142 = .ok (.invokestatic 351, 3) := by decide +kernel
theorem dX10_count_145 : decode cX10_count 145 = .ok (.ireturn, 1) := by decide +kernel
theorem dX10_count_146 : decode cX10_count 146 = .ok (.aload_n 0, 1) := by decide +kernel
theorem dX10_count_147 : decode cX10_count 147 = .ok (.getfield 48, 3) := by decide +kernel
theorem dX10_count_150 : decode cX10_count 150 = .ok (.getfield 170, 3) := by decide +kernel
theorem dX10_count_153 : decode cX10_count 153 = .ok (.invokestatic 351, 3) := by decide +kernel
theorem dX10_count_156 : decode cX10_count 156 = .ok (.ireturn, 1) := by decide +kernel
theorem dX10_count_157 : decode cX10_count 157 = .ok (.aload_n 0, 1) := by decide +kernel
theorem dX10_count_158 : decode cX10_count 158 = .ok (.getfield 48, 3) := by decide +kernel
theorem dX10_count_161 : decode cX10_count 161 = .ok (.getfield 128, 3) := by decide +kernel
theorem dX10_count_164 : decode cX10_count 164 = .ok (.invokestatic 351, 3) := by decide +kernel
theorem dX10_count_167 : decode cX10_count 167 = .ok (.ireturn, 1) := by decide +kernel
theorem dX10_count_168 : decode cX10_count 168 = .ok (.aload_n 0, 1) := by decide +kernel
theorem dX10_count_169 : decode cX10_count 169 = .ok (.getfield 38, 3) := by decide +kernel
theorem dX10_count_172 : decode cX10_count 172 = .ok (.getfield 111, 3) := by decide +kernel
theorem dX10_count_175 : decode cX10_count 175 = .ok (.ireturn, 1) := by decide +kernel
theorem dX10_count_176 : decode cX10_count 176 = .ok (.aload_n 0, 1) := by decide +kernel
theorem dX10_count_177 : decode cX10_count 177 = .ok (.getfield 65, 3) := by decide +kernel
theorem dX10_count_180 : decode cX10_count 180 = .ok (.getfield 114, 3) := by decide +kernel
theorem dX10_count_183 : decode cX10_count 183 = .ok (.ireturn, 1) := by decide +kernel
theorem dX10_count_184 : decode cX10_count 184 = .ok (.aload_n 0, 1) := by decide +kernel
theorem dX10_count_185 : decode cX10_count 185 = .ok (.getfield 58, 3) := by decide +kernel
theorem dX10_count_188 : decode cX10_count 188 = .ok (.getfield 363, 3) := by decide +kernel
theorem dX10_count_191 : decode cX10_count 191 = .ok (.ireturn, 1) := by decide +kernel
theorem dX10_count_192 : decode cX10_count 192 = .ok (.aload_n 0, 1) := by decide +kernel
theorem dX10_count_193 : decode cX10_count 193 = .ok (.getfield 10, 3) := by decide +kernel
theorem dX10_count_196 : decode cX10_count 196 = .ok (.getfield 94, 3) := by decide +kernel
theorem dX10_count_199 : decode cX10_count 199 = .ok (.ireturn, 1) := by decide +kernel
theorem dX10_count_200 : decode cX10_count 200 = .ok (.iconst (-1), 1) := by decide +kernel
theorem dX10_count_201 : decode cX10_count 201 = .ok (.ireturn, 1) := by decide +kernel
theorem dX10_measure_0 : decode cX10_measure 0 = .ok (.iconst 0, 1) := by decide +kernel
theorem dX10_measure_1 : decode cX10_measure 1 = .ok (.istore_n 2, 1) := by decide +kernel
theorem dX10_measure_2 : decode cX10_measure 2 = .ok (.iload_n 2, 1) := by decide +kernel
theorem dX10_measure_3 : decode cX10_measure 3 = .ok (.aload_n 0, 1) := by decide +kernel
theorem dX10_measure_4 : decode cX10_measure 4 = .ok (.getfield 28, 3) := by decide +kernel
theorem dX10_measure_7 : decode cX10_measure 7 = .ok (.getfield 289, 3) := by decide +kernel
theorem dX10_measure_10 : decode cX10_measure 10 = .ok (.if_icmp .ge 37, 3) := by decide +kernel
theorem dX10_measure_13 : decode cX10_measure 13 = .ok (.aload_n 0, 1) := by decide +kernel
theorem dX10_measure_14 : decode cX10_measure 14 = .ok (.getfield 69, 3) := by decide +kernel
theorem dX10_measure_17 : decode cX10_measure 17 = .ok (.iload_n 2, 1) := by decide +kernel
theorem dX10_measure_18 : decode cX10_measure 18 = .ok (.aload_n 0, 1) := by decide +kernel
theorem dX10_measure_19 : decode cX10_measure 19 = .ok (.getfield 48, 3) := by decide +kernel
theorem dX10_measure_22 : decode cX10_measure 22 = .ok (.aload_n 0, 1) := by decide +kernel
theorem dX10_measure_23 : decode cX10_measure 23 = .ok (.getfield 28, 3) := by decide +kernel
theorem dX10_measure_26 : decode cX10_measure 26 = .ok (.iload_n 1, 1) := by decide +kernel
theorem dX10_measure_27 : decode cX10_measure 27 = .ok (.iload_n 2, 1) := by decide +kernel
theorem dX10_measure_28 : decode cX10_measure 28 = .ok (.aload_n 0, 1) := by decide +kernel
theorem dX10_measure_29 : decode cX10_measure 29 = .ok (.getfield 48, 3) := by decide +kernel
theorem dX10_measure_32 : decode cX10_measure 32 = .ok (.getfield 173, 3) := by decide +kernel
theorem dX10_measure_35 : decode cX10_measure 35 = .ok (.iload_n 1, 1) := by decide +kernel
theorem dX10_measure_36 : decode cX10_measure 36 = .ok (.iaload, 1) := by decide +kernel
theorem dX10_measure_37 : decode cX10_measure 37 = .ok (.invokevirtual 179, 3) := by decide +kernel
theorem dX10_measure_40 : decode cX10_measure 40 = .ok (.iastore, 1) := by decide +kernel
theorem dX10_measure_41 : decode cX10_measure 41 = .ok (.iinc 2 1, 3) := by decide +kernel
theorem dX10_measure_44 : decode cX10_measure 44 = .ok (.goto (-42), 3) := by decide +kernel
theorem dX10_measure_47 : decode cX10_measure 47 = .ok (.aload_n 0, 1) := by decide +kernel
theorem dX10_measure_48 : decode cX10_measure 48 = .ok (.getfield 48, 3) := by decide +kernel
theorem dX10_measure_51 : decode cX10_measure 51 = .ok (.aload_n 0, 1) := by decide +kernel
theorem dX10_measure_52 : decode cX10_measure 52 = .ok (.getfield 28, 3) := by decide +kernel
theorem dX10_measure_55 : decode cX10_measure 55 = .ok (.invokevirtual 231, 3) := by decide +kernel
theorem dX10_measure_58 : decode cX10_measure 58 = .ok (.istore_n 2, 1) := by decide +kernel
theorem dX10_measure_59 : decode cX10_measure 59 = .ok (.aload_n 0, 1) := by decide +kernel
theorem dX10_measure_60 : decode cX10_measure 60 = .ok (.getfield 83, 3) := by decide +kernel
theorem dX10_measure_63 : decode cX10_measure 63 = .ok (.iload_n 1, 1) := by decide +kernel
theorem dX10_measure_64 : decode cX10_measure 64 = .ok (.aaload, 1) := by decide +kernel
theorem dX10_measure_65 : decode cX10_measure 65 = .ok (.aload_n 0, 1) := by decide +kernel
theorem dX10_measure_66 : decode cX10_measure 66 = .ok (.getfield 28, 3) := by decide +kernel
theorem dX10_measure_69 : decode cX10_measure 69 = .ok (.aload_n 0, 1) := by decide +kernel
theorem dX10_measure_70 : decode cX10_measure 70 = .ok (.getfield 48, 3) := by decide +kernel
theorem dX10_measure_73 : decode cX10_measure 73 = .ok (.getfield 167, 3) := by decide +kernel
theorem dX10_measure_76 : decode cX10_measure 76 = .ok (.iload_n 1, 1) := by decide +kernel
theorem dX10_measure_77 : decode cX10_measure 77 = .ok (.iaload, 1) := by decide +kernel
theorem dX10_measure_78 : decode cX10_measure 78 = .ok (.iload_n 2, 1) := by decide +kernel
theorem dX10_measure_79 : decode cX10_measure 79 = .ok (.aload_n 0, 1) := by decide +kernel
theorem dX10_measure_80 : decode cX10_measure 80 = .ok (.getfield 69, 3) := by decide +kernel
theorem dX10_measure_83 : decode cX10_measure 83 = .ok (.invokevirtual 281, 3) := by decide +kernel
theorem dX10_measure_86 : decode cX10_measure 86 = .ok (.aload_n 0, 1) := by decide +kernel
theorem dX10_measure_87 : decode cX10_measure 87 = .ok (.getfield 87, 3) := by decide +kernel
theorem dX10_measure_90 : decode cX10_measure 90 = .ok (.iload_n 1, 1) := by decide +kernel
theorem dX10_measure_91 : decode cX10_measure 91 = .ok (.aaload, 1) := by decide +kernel
theorem dX10_measure_92 : decode cX10_measure 92 = .ok (.aload_n 0, 1) := by decide +kernel
theorem dX10_measure_93 : decode cX10_measure 93 = .ok (.getfield 28, 3) := by decide +kernel
theorem dX10_measure_96 : decode cX10_measure 96 = .ok (.iconst 0, 1) := by decide +kernel
theorem dX10_measure_97 : decode cX10_measure 97 = .ok (.iload_n 2, 1) := by decide +kernel
theorem dX10_measure_98 : decode cX10_measure 98 = .ok (.aload_n 0, 1) := by decide +kernel
theorem dX10_measure_99 : decode cX10_measure 99 = .ok (.getfield 69, 3) := by decide +kernel
theorem dX10_measure_102 : decode cX10_measure 102 = .ok (.invokevirtual 281, 3) := by decide +kernel
theorem dX10_measure_105 : decode cX10_measure 105 = .ok (.return_, 1) := by decide +kernel
theorem dX10_measureFresh_0 : decode cX10_measureFresh 0 = .ok (.iconst 0, 1) := by decide +kernel
theorem dX10_measureFresh_1 : decode cX10_measureFresh 1 = .ok (.istore_n 2, 1) := by decide +kernel
theorem dX10_measureFresh_2 : decode cX10_measureFresh 2 = .ok (.iload_n 2, 1) := by decide +kernel
theorem dX10_measureFresh_3 : decode cX10_measureFresh 3 = .ok (.aload_n 0, 1) := by decide +kernel
theorem dX10_measureFresh_4 : decode cX10_measureFresh 4 = .ok (.getfield 28, 3) := by decide +kernel
theorem dX10_measureFresh_7 : decode cX10_measureFresh 7 = .ok (.getfield 289, 3) := by decide +kernel
theorem dX10_measureFresh_10 : decode cX10_measureFresh 10 = .ok (.if_icmp .ge 29, 3) := by decide +kernel
theorem dX10_measureFresh_13 : decode cX10_measureFresh 13 = .ok (.aload_n 0, 1) := by decide +kernel
theorem dX10_measureFresh_14 : decode cX10_measureFresh 14 = .ok (.getfield 69, 3) := by decide +kernel
theorem dX10_measureFresh_17 : decode cX10_measureFresh 17 = .ok (.iload_n 2, 1) := by decide +kernel
theorem dX10_measureFresh_18 : decode cX10_measureFresh 18 = .ok (.aload_n 0, 1) := by decide +kernel
theorem dX10_measureFresh_19 : decode cX10_measureFresh 19 = .ok (.getfield 48, 3) := by decide +kernel
theorem dX10_measureFresh_22 : decode cX10_measureFresh 22 = .ok (.aload_n 0, 1) := by decide +kernel
theorem dX10_measureFresh_23 : decode cX10_measureFresh 23 = .ok (.getfield 28, 3) := by decide +kernel
theorem dX10_measureFresh_26 : decode cX10_measureFresh 26 = .ok (.iload_n 1, 1) := by decide +kernel
theorem dX10_measureFresh_27 : decode cX10_measureFresh 27 = .ok (.iload_n 2, 1) := by decide +kernel
theorem dX10_measureFresh_28 : decode cX10_measureFresh 28 = .ok (.iconst 0, 1) := by decide +kernel
theorem dX10_measureFresh_29 : decode cX10_measureFresh 29 = .ok (.invokevirtual 179, 3) := by decide +kernel
theorem dX10_measureFresh_32 : decode cX10_measureFresh 32 = .ok (.iastore, 1) := by decide +kernel
theorem dX10_measureFresh_33 : decode cX10_measureFresh 33 = .ok (.iinc 2 1, 3) := by decide +kernel
theorem dX10_measureFresh_36 : decode cX10_measureFresh 36 = .ok (.goto (-34), 3) := by decide +kernel
theorem dX10_measureFresh_39 : decode cX10_measureFresh 39 = .ok (.aload_n 0, 1) := by decide +kernel
theorem dX10_measureFresh_40 : decode cX10_measureFresh 40 = .ok (.getfield 83, 3) := by decide +kernel
theorem dX10_measureFresh_43 : decode cX10_measureFresh 43 = .ok (.iload_n 1, 1) := by decide +kernel
theorem dX10_measureFresh_44 : decode cX10_measureFresh 44 = .ok (.aaload, 1) := by decide +kernel
theorem dX10_measureFresh_45 : decode cX10_measureFresh 45 = .ok (.aload_n 0, 1) := by decide +kernel
theorem dX10_measureFresh_46 : decode cX10_measureFresh 46 = .ok (.getfield 28, 3) := by decide +kernel
theorem dX10_measureFresh_49 : decode cX10_measureFresh 49 = .ok (.iconst 0, 1) := by decide +kernel
theorem dX10_measureFresh_50 : decode cX10_measureFresh 50 = .ok (.aload_n 0, 1) := by decide +kernel
theorem dX10_measureFresh_51 : decode cX10_measureFresh 51 = .ok (.getfield 28, 3) := by decide +kernel
theorem dX10_measureFresh_54 : decode cX10_measureFresh 54 = .ok (.invokevirtual 292, 3) := by decide +kernel
theorem dX10_measureFresh_57 : decode cX10_measureFresh 57 = .ok (.aload_n 0, 1) := by decide +kernel
theorem dX10_measureFresh_58 : decode cX10_measureFresh 58 = .ok (.getfield 69, 3) := by decide +kernel
theorem dX10_measureFresh_61 : decode cX10_measureFresh 61 = .ok (.invokevirtual 281, 3) := by decide +kernel
theorem dX10_measureFresh_64 : decode cX10_measureFresh 64 = .ok (.return_, 1) := by decide +kernel
theorem dX10_leastOut_0 : decode cX10_leastOut 0 = .ok (.aload_n 0, 1) := by decide +kernel
theorem dX10_leastOut_1 : decode cX10_leastOut 1 = .ok (.getfield 28, 3) := by decide +kernel
theorem dX10_leastOut_4 : decode cX10_leastOut 4 = .ok (.iload_n 1, 1) := by decide +kernel
theorem dX10_leastOut_5 : decode cX10_leastOut 5 = .ok (.invokevirtual 161, 3) := by decide +kernel
theorem dX10_leastOut_8 : decode cX10_leastOut 8 = .ok (.ifCond .ne 5, 3) := by decide +kernel
theorem dX10_leastOut_11 : decode cX10_leastOut 11 = .ok (.iconst (-1), 1) := by decide +kernel
theorem dX10_leastOut_12 : decode cX10_leastOut 12 = .ok (.ireturn, 1) := by decide +kernel
theorem dX10_leastOut_13 : decode cX10_leastOut 13 = .ok (.aload_n 0, 1) := by decide +kernel
theorem dX10_leastOut_14 : decode cX10_leastOut 14 = .ok (.iload_n 1, 1) := by decide +kernel
theorem dX10_leastOut_15 : decode cX10_leastOut 15 = .ok (.invokevirtual 234, 3) := by decide +kernel
theorem dX10_leastOut_18 : decode cX10_leastOut 18 = .ok (.aload_n 0, 1) := by decide +kernel
theorem dX10_leastOut_19 : decode cX10_leastOut 19 = .ok (.getfield 83, 3) := by decide +kernel
theorem dX10_leastOut_22 : decode cX10_leastOut 22 = .ok (.iload_n 1, 1) := by decide +kernel
theorem dX10_leastOut_23 : decode cX10_leastOut 23 = .ok (.aaload, 1) := by decide +kernel
theorem dX10_leastOut_24 : decode cX10_leastOut 24 = .ok (.getfield 238, 3) := by decide +kernel
theorem dX10_leastOut_27 : decode cX10_leastOut 27 = .ok (.iconst 0, 1) := by decide +kernel
theorem dX10_leastOut_28 : decode cX10_leastOut 28 = .ok (.iaload, 1) := by decide +kernel
theorem dX10_leastOut_29 : decode cX10_leastOut 29 = .ok (.ireturn, 1) := by decide +kernel
theorem dX10_roundTrip_0 : decode cX10_roundTrip 0 = .ok (.aload_n 0, 1) := by decide +kernel
theorem dX10_roundTrip_1 : decode cX10_roundTrip 1 = .ok (.getfield 83, 3) := by decide +kernel
theorem dX10_roundTrip_4 : decode cX10_roundTrip 4 = .ok (.iload_n 1, 1) := by decide +kernel
theorem dX10_roundTrip_5 : decode cX10_roundTrip 5 = .ok (.aaload, 1) := by decide +kernel
theorem dX10_roundTrip_6 : decode cX10_roundTrip 6 = .ok (.getfield 238, 3) := by decide +kernel
theorem dX10_roundTrip_9 : decode cX10_roundTrip 9 = .ok (.iload_n 2, 1) := by decide +kernel
theorem dX10_roundTrip_10 : decode cX10_roundTrip 10 = .ok (.iaload, 1) := by decide +kernel
theorem dX10_roundTrip_11 : decode cX10_roundTrip 11 = .ok (.istore_n 3, 1) := by decide +kernel
theorem dX10_roundTrip_12 : decode cX10_roundTrip 12 = .ok (.aload_n 0, 1) := by decide +kernel
theorem dX10_roundTrip_13 : decode cX10_roundTrip 13 = .ok (.getfield 87, 3) := by decide +kernel
theorem dX10_roundTrip_16 : decode cX10_roundTrip 16 = .ok (.iload_n 1, 1) := by decide +kernel
theorem dX10_roundTrip_17 : decode cX10_roundTrip 17 = .ok (.aaload, 1) := by decide +kernel
theorem dX10_roundTrip_18 : decode cX10_roundTrip 18 = .ok (.getfield 238, 3) := by decide +kernel
theorem dX10_roundTrip_21 : decode cX10_roundTrip 21 = .ok (.iload_n 2, 1) := by decide +kernel
theorem dX10_roundTrip_22 : decode cX10_roundTrip 22 = .ok (.iaload, 1) := by decide +kernel
theorem dX10_roundTrip_23 : decode cX10_roundTrip 23 = .ok (.istore 4, 2) := by decide +kernel
theorem dX10_roundTrip_25 : decode cX10_roundTrip 25 = .ok (.iload_n 3, 1) := by decide +kernel
theorem dX10_roundTrip_26 : decode cX10_roundTrip 26 = .ok (.iconst (-1), 1) := by decide +kernel
theorem dX10_roundTrip_27 : decode cX10_roundTrip 27 = .ok (.if_icmp .eq 9, 3) := by decide +kernel
theorem dX10_roundTrip_30 : decode cX10_roundTrip 30 = .ok (.iload 4, 2) := by decide +kernel
theorem dX10_roundTrip_32 : decode cX10_roundTrip 32 = .ok (.iconst (-1), 1) := by decide +kernel
theorem dX10_roundTrip_33 : decode cX10_roundTrip 33 = .ok (.if_icmp .ne 7, 3) := by decide +kernel
theorem dX10_roundTrip_36 : decode cX10_roundTrip 36 = .ok (.iconst (-1), 1) := by decide +kernel
theorem dX10_roundTrip_37 : decode cX10_roundTrip 37 = .ok (.goto 7, 3) := by decide +kernel
theorem dX10_roundTrip_40 : decode cX10_roundTrip 40 = .ok (.iload_n 3, 1) := by decide +kernel
theorem dX10_roundTrip_41 : decode cX10_roundTrip 41 = .ok (.iload 4, 2) := by decide +kernel
theorem dX10_roundTrip_43 : decode cX10_roundTrip 43 = .ok (.iadd, 1) := by decide +kernel
theorem dX10_roundTrip_44 : decode cX10_roundTrip 44 = .ok (.ireturn, 1) := by decide +kernel
theorem dX10_reachOf_0 : decode cX10_reachOf 0 = .ok (.aload_n 0, 1) := by decide +kernel
theorem dX10_reachOf_1 : decode cX10_reachOf 1 = .ok (.getfield 48, 3) := by decide +kernel
theorem dX10_reachOf_4 : decode cX10_reachOf 4 = .ok (.iload_n 1, 1) := by decide +kernel
theorem dX10_reachOf_5 : decode cX10_reachOf 5 = .ok (.invokevirtual 176, 3) := by decide +kernel
theorem dX10_reachOf_8 : decode cX10_reachOf 8 = .ok (.ifCond .eq 5, 3) := by decide +kernel
theorem dX10_reachOf_11 : decode cX10_reachOf 11 = .ok (.iconst 0, 1) := by decide +kernel
theorem dX10_reachOf_12 : decode cX10_reachOf 12 = .ok (.ireturn, 1) := by decide +kernel
theorem dX10_reachOf_13 : decode cX10_reachOf 13 = .ok (.aload_n 0, 1) := by decide +kernel
theorem dX10_reachOf_14 : decode cX10_reachOf 14 = .ok (.iload_n 1, 1) := by decide +kernel
theorem dX10_reachOf_15 : decode cX10_reachOf 15 = .ok (.invokevirtual 234, 3) := by decide +kernel
theorem dX10_reachOf_18 : decode cX10_reachOf 18 = .ok (.iconst 0, 1) := by decide +kernel
theorem dX10_reachOf_19 : decode cX10_reachOf 19 = .ok (.istore_n 2, 1) := by decide +kernel
theorem dX10_reachOf_20 : decode cX10_reachOf 20 = .ok (.iconst 0, 1) := by decide +kernel
theorem dX10_reachOf_21 : decode cX10_reachOf 21 = .ok (.istore_n 3, 1) := by decide +kernel
theorem dX10_reachOf_22 : decode cX10_reachOf 22 = .ok (.iload_n 3, 1) := by decide +kernel
theorem dX10_reachOf_23 : decode cX10_reachOf 23 = .ok (.aload_n 0, 1) := by decide +kernel
theorem dX10_reachOf_24 : decode cX10_reachOf 24 = .ok (.getfield 28, 3) := by decide +kernel
theorem dX10_reachOf_27 : decode cX10_reachOf 27 = .ok (.getfield 250, 3) := by decide +kernel
theorem dX10_reachOf_30 : decode cX10_reachOf 30 = .ok (.if_icmp .ge 43, 3) := by decide +kernel
theorem dX10_reachOf_33 : decode cX10_reachOf 33 = .ok (.aload_n 0, 1) := by decide +kernel
theorem dX10_reachOf_34 : decode cX10_reachOf 34 = .ok (.iload_n 1, 1) := by decide +kernel
theorem dX10_reachOf_35 : decode cX10_reachOf 35 = .ok (.iload_n 3, 1) := by decide +kernel
theorem dX10_reachOf_36 : decode cX10_reachOf 36 = .ok (.invokevirtual 260, 3) := by decide +kernel
theorem dX10_reachOf_39 : decode cX10_reachOf 39 = .ok (.istore 4, 2) := by decide +kernel
theorem dX10_reachOf_41 : decode cX10_reachOf 41 = .ok (.iload 4, 2) := by decide +kernel
theorem dX10_reachOf_43 : decode cX10_reachOf 43 = .ok (.iconst (-1), 1) := by decide +kernel
theorem dX10_reachOf_44 : decode cX10_reachOf 44 = .ok (.if_icmp .eq 23, 3) := by decide +kernel
theorem dX10_reachOf_47 : decode cX10_reachOf 47 = .ok (.iload 4, 2) := by decide +kernel
theorem dX10_reachOf_49 : decode cX10_reachOf 49 = .ok (.aload_n 0, 1) := by decide +kernel
theorem dX10_reachOf_50 : decode cX10_reachOf 50 = .ok (.getfield 48, 3) := by decide +kernel
theorem dX10_reachOf_53 : decode cX10_reachOf 53 = .ok (.getfield 170, 3) := by decide +kernel
theorem dX10_reachOf_56 : decode cX10_reachOf 56 = .ok (.iload_n 1, 1) := by decide +kernel
theorem dX10_reachOf_57 : decode cX10_reachOf 57 = .ok (.iaload, 1) := by decide +kernel
theorem dX10_reachOf_58 : decode cX10_reachOf 58 = .ok (.if_icmp .gt 9, 3) := by decide +kernel
theorem dX10_reachOf_61 : decode cX10_reachOf 61 = .ok (.iload_n 2, 1) := by decide +kernel
theorem dX10_reachOf_62 : decode cX10_reachOf 62 = .ok (.iconst 1, 1) := by decide +kernel
theorem dX10_reachOf_63 : decode cX10_reachOf 63 = .ok (.iload_n 3, 1) := by decide +kernel
theorem dX10_reachOf_64 : decode cX10_reachOf 64 = .ok (.ishl, 1) := by decide +kernel
theorem dX10_reachOf_65 : decode cX10_reachOf 65 = .ok (.ior, 1) := by decide +kernel
theorem dX10_reachOf_66 : decode cX10_reachOf 66 = .ok (.istore_n 2, 1) := by decide +kernel
theorem dX10_reachOf_67 : decode cX10_reachOf 67 = .ok (.iinc 3 1, 3) := by decide +kernel
theorem dX10_reachOf_70 : decode cX10_reachOf 70 = .ok (.goto (-48), 3) := by decide +kernel
theorem dX10_reachOf_73 : decode cX10_reachOf 73 = .ok (.iload_n 2, 1) := by decide +kernel
theorem dX10_reachOf_74 : decode cX10_reachOf 74 = .ok (.ireturn, 1) := by decide +kernel
theorem dX10_outliveOne_0 : decode cX10_outliveOne 0 = .ok (.iconst 0, 1) := by decide +kernel
theorem dX10_outliveOne_1 : decode cX10_outliveOne 1 = .ok (.istore_n 2, 1) := by decide +kernel
theorem dX10_outliveOne_2 : decode cX10_outliveOne 2 = .ok (.iconst 0, 1) := by decide +kernel
theorem dX10_outliveOne_3 : decode cX10_outliveOne 3 = .ok (.istore_n 3, 1) := by decide +kernel
theorem dX10_outliveOne_4 : decode cX10_outliveOne 4 = .ok (.iconst 0, 1) := by decide +kernel
theorem dX10_outliveOne_5 : decode cX10_outliveOne 5 = .ok (.istore 4, 2) := by decide +kernel
theorem dX10_outliveOne_7 : decode cX10_outliveOne 7 = .ok (.iconst 0, 1) := by decide +kernel
theorem dX10_outliveOne_8 : decode cX10_outliveOne 8 = .ok (.istore 5, 2) := by decide +kernel
theorem dX10_outliveOne_10 : decode cX10_outliveOne 10 = .ok (.iload 5, 2) := by decide +kernel
theorem dX10_outliveOne_12 : decode cX10_outliveOne 12 = .ok (.aload_n 0, 1) := by decide +kernel
theorem dX10_outliveOne_13 : decode cX10_outliveOne 13 = .ok (.getfield 28, 3) := by decide +kernel
theorem dX10_outliveOne_16 : decode cX10_outliveOne 16 = .ok (.getfield 244, 3) := by decide +kernel
theorem dX10_outliveOne_19 : decode cX10_outliveOne 19 = .ok (.if_icmp .ge 93, 3) := by decide +kernel
theorem dX10_outliveOne_22 : decode cX10_outliveOne 22 = .ok (.aload_n 0, 1) := by decide +kernel
theorem dX10_outliveOne_23 : decode cX10_outliveOne 23 = .ok (.getfield 48, 3) := by decide +kernel
theorem dX10_outliveOne_26 : decode cX10_outliveOne 26 = .ok (.iload 5, 2) := by decide +kernel
theorem dX10_outliveOne_28 : decode cX10_outliveOne 28 = .ok (.invokevirtual 176, 3) := by decide +kernel
theorem dX10_outliveOne_31 : decode cX10_outliveOne 31 = .ok (.ifCond .ne 75, 3) := by decide +kernel
theorem dX10_outliveOne_34 : decode cX10_outliveOne 34 = .ok (.aload_n 0, 1) := by decide +kernel
theorem dX10_outliveOne_35 : decode cX10_outliveOne 35 = .ok (.getfield 48, 3) := by decide +kernel
theorem dX10_outliveOne_38 : decode cX10_outliveOne 38 = .ok (.getfield 170, 3) := by decide +kernel
theorem dX10_outliveOne_41 : decode cX10_outliveOne 41 = .ok (.iload 5, 2) := by decide +kernel
theorem dX10_outliveOne_43 : decode cX10_outliveOne 43 = .ok (.iaload, 1) := by decide +kernel
theorem dX10_outliveOne_44 : decode cX10_outliveOne 44 = .ok (.aload_n 0, 1) := by decide +kernel
theorem dX10_outliveOne_45 : decode cX10_outliveOne 45 = .ok (.getfield 83, 3) := by decide +kernel
theorem dX10_outliveOne_48 : decode cX10_outliveOne 48 = .ok (.iload 5, 2) := by decide +kernel
theorem dX10_outliveOne_50 : decode cX10_outliveOne 50 = .ok (.aaload, 1) := by decide +kernel
theorem dX10_outliveOne_51 : decode cX10_outliveOne 51 = .ok (.getfield 238, 3) := by decide +kernel
theorem dX10_outliveOne_54 : decode cX10_outliveOne 54 = .ok (.iload_n 1, 1) := by decide +kernel
theorem dX10_outliveOne_55 : decode cX10_outliveOne 55 = .ok (.iaload, 1) := by decide +kernel
theorem dX10_outliveOne_56 : decode cX10_outliveOne 56 = .ok (.isub, 1) := by decide +kernel
theorem dX10_outliveOne_57 : decode cX10_outliveOne 57 = .ok (.istore 6, 2) := by decide +kernel
theorem dX10_outliveOne_59 : decode cX10_outliveOne 59 = .ok (.aload_n 0, 1) := by decide +kernel
theorem dX10_outliveOne_60 : decode cX10_outliveOne 60 = .ok (.iload 5, 2) := by decide +kernel
theorem dX10_outliveOne_62 : decode cX10_outliveOne 62 = .ok (.iload_n 1, 1) := by decide +kernel
theorem dX10_outliveOne_63 : decode cX10_outliveOne 63 = .ok (.invokevirtual 260, 3) := by decide +kernel
theorem dX10_outliveOne_66 : decode cX10_outliveOne 66 = .ok (.iconst (-1), 1) := by decide +kernel
theorem dX10_outliveOne_67 : decode cX10_outliveOne 67 = .ok (.if_icmp .eq 8, 3) := by decide +kernel
theorem dX10_outliveOne_70 : decode cX10_outliveOne 70 = .ok (.iload 6, 2) := by decide +kernel
theorem dX10_outliveOne_72 : decode cX10_outliveOne 72 = .ok (.ifCond .ge 5, 3) := by decide +kernel
theorem dX10_outliveOne_75 : decode cX10_outliveOne 75 = .ok (.iconst 0, 1) := by decide +kernel
theorem dX10_outliveOne_76 : decode cX10_outliveOne 76 = .ok (.ireturn, 1) := by decide +kernel
theorem dX10_outliveOne_77 : decode cX10_outliveOne 77 = .ok (.iload_n 2, 1) := by decide +kernel
theorem dX10_outliveOne_78 : decode cX10_outliveOne 78 = .ok (.iload 6, 2) := by decide +kernel
theorem dX10_outliveOne_80 : decode cX10_outliveOne 80 = .ok (.iadd, 1) := by decide +kernel
theorem dX10_outliveOne_81 : decode cX10_outliveOne 81 = .ok (.istore_n 2, 1) := by decide +kernel
theorem dX10_outliveOne_82 : decode cX10_outliveOne 82 = .ok (.iload_n 3, 1) := by decide +kernel
theorem dX10_outliveOne_83 : decode cX10_outliveOne 83 = .ok (.iload 6, 2) := by decide +kernel
theorem dX10_outliveOne_85 : decode cX10_outliveOne 85 = .ok (.invokestatic 264, 3) := by decide +kernel
theorem dX10_outliveOne_88 : decode cX10_outliveOne 88 = .ok (.istore_n 3, 1) := by decide +kernel
theorem dX10_outliveOne_89 : decode cX10_outliveOne 89 = .ok (.iload 4, 2) := by decide +kernel
theorem dX10_outliveOne_91 : decode cX10_outliveOne 91 = .ok (.aload_n 0, 1) := by decide +kernel
theorem dX10_outliveOne_92 : decode cX10_outliveOne 92 = .ok (.getfield 87, 3) := by decide +kernel
theorem dX10_outliveOne_95 : decode cX10_outliveOne 95 = .ok (.iload 5, 2) := by decide +kernel
theorem dX10_outliveOne_97 : decode cX10_outliveOne 97 = .ok (.aaload, 1) := by decide +kernel
theorem dX10_outliveOne_98 : decode cX10_outliveOne 98 = .ok (.getfield 238, 3) := by decide +kernel
theorem dX10_outliveOne_101 : decode cX10_outliveOne 101 = .ok (.iload_n 1, 1) := by decide +kernel
theorem dX10_outliveOne_102 : decode cX10_outliveOne 102 = .ok (.iaload, 1) := by decide +kernel
theorem dX10_outliveOne_103 : decode cX10_outliveOne 103 = .ok (.iadd, 1) := by decide +kernel
theorem dX10_outliveOne_104 : decode cX10_outliveOne 104 = .ok (.istore 4, 2) := by decide +kernel
theorem dX10_outliveOne_106 : decode cX10_outliveOne 106 = .ok (.iinc 5 1, 3) := by decide +kernel
theorem dX10_outliveOne_109 : decode cX10_outliveOne 109 = .ok (.goto (-99), 3) := by decide +kernel
theorem dX10_outliveOne_112 : decode cX10_outliveOne 112 = .ok (.iload_n 2, 1) := by decide +kernel
theorem dX10_outliveOne_113 : decode cX10_outliveOne 113 = .ok (.iload_n 3, 1) := by decide +kernel
theorem dX10_outliveOne_114 : decode cX10_outliveOne 114 = .ok (.isub, 1) := by decide +kernel
theorem dX10_outliveOne_115 : decode cX10_outliveOne 115 = .ok (.iload 4, 2) := by decide +kernel
theorem dX10_outliveOne_117 : decode cX10_outliveOne 117 = .ok (.if_icmp .lt 7, 3) := by decide +kernel
theorem dX10_outliveOne_120 : decode cX10_outliveOne 120 = .ok (.iconst 1, 1) := by decide +kernel
theorem dX10_outliveOne_121 : decode cX10_outliveOne 121 = .ok (.goto 4, 3) := by decide +kernel
theorem dX10_outliveOne_124 : decode cX10_outliveOne 124 = .ok (.iconst 0, 1) := by decide +kernel
theorem dX10_outliveOne_125 : decode cX10_outliveOne 125 = .ok (.ireturn, 1) := by decide +kernel
theorem dX10_mostAlike_0 : decode cX10_mostAlike 0 = .ok (.iconst 0, 1) := by decide +kernel
theorem dX10_mostAlike_1 : decode cX10_mostAlike 1 = .ok (.istore_n 3, 1) := by decide +kernel
theorem dX10_mostAlike_2 : decode cX10_mostAlike 2 = .ok (.iconst 0, 1) := by decide +kernel
theorem dX10_mostAlike_3 : decode cX10_mostAlike 3 = .ok (.istore 4, 2) := by decide +kernel
theorem dX10_mostAlike_5 : decode cX10_mostAlike 5 = .ok (.iload 4, 2) := by decide +kernel
theorem dX10_mostAlike_7 : decode cX10_mostAlike 7 = .ok (.aload_n 0, 1) := by decide +kernel
theorem dX10_mostAlike_8 : decode cX10_mostAlike 8 = .ok (.getfield 28, 3) := by decide +kernel
theorem dX10_mostAlike_11 : decode cX10_mostAlike 11 = .ok (.getfield 244, 3) := by decide +kernel
theorem dX10_mostAlike_14 : decode cX10_mostAlike 14 = .ok (.if_icmp .ge 100, 3) := by decide +kernel
theorem dX10_mostAlike_17 : decode cX10_mostAlike 17 = .ok (.iconst 0, 1) := by decide +kernel
theorem dX10_mostAlike_18 : decode cX10_mostAlike 18 = .ok (.istore 5, 2) := by decide +kernel
theorem dX10_mostAlike_20 : decode cX10_mostAlike 20 = .ok (.iconst 0, 1) := by decide +kernel
theorem dX10_mostAlike_21 : decode cX10_mostAlike 21 = .ok (.istore 6, 2) := by decide +kernel
theorem dX10_mostAlike_23 : decode cX10_mostAlike 23 = .ok (.iload 6, 2) := by decide +kernel
theorem dX10_mostAlike_25 : decode cX10_mostAlike 25 = .ok (.aload_n 0, 1) := by decide +kernel
theorem dX10_mostAlike_26 : decode cX10_mostAlike 26 = .ok (.getfield 28, 3) := by decide +kernel
theorem dX10_mostAlike_29 : decode cX10_mostAlike 29 = .ok (.getfield 244, 3) := by decide +kernel
theorem dX10_mostAlike_32 : decode cX10_mostAlike 32 = .ok (.if_icmp .ge 69, 3) := by decide +kernel
theorem dX10_mostAlike_35 : decode cX10_mostAlike 35 = .ok (.iload_n 1, 1) := by decide +kernel
theorem dX10_mostAlike_36 : decode cX10_mostAlike 36 = .ok (.iload 4, 2) := by decide +kernel
theorem dX10_mostAlike_38 : decode cX10_mostAlike 38 = .ok (.invokestatic 253, 3) := by decide +kernel
theorem dX10_mostAlike_41 : decode cX10_mostAlike 41 = .ok (.ifCond .eq 16, 3) := by decide +kernel
theorem dX10_mostAlike_44 : decode cX10_mostAlike 44 = .ok (.iload_n 1, 1) := by decide +kernel
theorem dX10_mostAlike_45 : decode cX10_mostAlike 45 = .ok (.iload 6, 2) := by decide +kernel
theorem dX10_mostAlike_47 : decode cX10_mostAlike 47 = .ok (.invokestatic 253, 3) := by decide +kernel
theorem dX10_mostAlike_50 : decode cX10_mostAlike 50 = .ok (.ifCond .eq 7, 3) := by decide +kernel
theorem dX10_mostAlike_53 : decode cX10_mostAlike 53 = .ok (.iconst 1, 1) := by decide +kernel
theorem dX10_mostAlike_54 : decode cX10_mostAlike 54 = .ok (.goto 4, 3) := by decide +kernel
theorem dX10_mostAlike_57 : decode cX10_mostAlike 57 = .ok (.iconst 0, 1) := by decide +kernel
theorem dX10_mostAlike_58 : decode cX10_mostAlike 58 = .ok (.istore 7, 2) := by decide +kernel
theorem dX10_mostAlike_60 : decode cX10_mostAlike 60 = .ok (.iload 7, 2) := by decide +kernel
theorem dX10_mostAlike_62 : decode cX10_mostAlike 62 = .ok (.ifCond .eq 33, 3) := by decide +kernel
theorem dX10_mostAlike_65 : decode cX10_mostAlike 65 = .ok (.aload_n 0, 1) := by decide +kernel
theorem dX10_mostAlike_66 : decode cX10_mostAlike 66 = .ok (.getfield 83, 3) := by decide +kernel
theorem dX10_mostAlike_69 : decode cX10_mostAlike 69 = .ok (.iload 4, 2) := by decide +kernel
theorem dX10_mostAlike_71 : decode cX10_mostAlike 71 = .ok (.aaload, 1) := by decide +kernel
theorem dX10_mostAlike_72 : decode cX10_mostAlike 72 = .ok (.getfield 238, 3) := by decide +kernel
theorem dX10_mostAlike_75 : decode cX10_mostAlike 75 = .ok (.iload_n 2, 1) := by decide +kernel
theorem dX10_mostAlike_76 : decode cX10_mostAlike 76 = .ok (.iaload, 1) := by decide +kernel
theorem dX10_mostAlike_77 : decode cX10_mostAlike 77 = .ok (.aload_n 0, 1) := by decide +kernel
theorem dX10_mostAlike_78 : decode cX10_mostAlike 78 = .ok (.getfield 83, 3) := by decide +kernel
theorem dX10_mostAlike_81 : decode cX10_mostAlike 81 = .ok (.iload 6, 2) := by decide +kernel
theorem dX10_mostAlike_83 : decode cX10_mostAlike 83 = .ok (.aaload, 1) := by decide +kernel
theorem dX10_mostAlike_84 : decode cX10_mostAlike 84 = .ok (.getfield 238, 3) := by decide +kernel
theorem dX10_mostAlike_87 : decode cX10_mostAlike 87 = .ok (.iload_n 2, 1) := by decide +kernel
theorem dX10_mostAlike_88 : decode cX10_mostAlike 88 = .ok (.iaload, 1) := by decide +kernel
theorem dX10_mostAlike_89 : decode cX10_mostAlike 89 = .ok (.if_icmp .ne 6, 3) := by decide +kernel
theorem dX10_mostAlike_92 : decode cX10_mostAlike 92 = .ok (.iinc 5 1, 3) := by decide +kernel
theorem dX10_mostAlike_95 : decode cX10_mostAlike 95 = .ok (.iinc 6 1, 3) := by decide +kernel
theorem dX10_mostAlike_98 : decode cX10_mostAlike 98 = .ok (.goto (-75), 3) := by decide +kernel
theorem dX10_mostAlike_101 : decode cX10_mostAlike 101 = .ok (.iload_n 3, 1) := by decide +kernel
theorem dX10_mostAlike_102 : decode cX10_mostAlike 102 = .ok (.iload 5, 2) := by decide +kernel
theorem dX10_mostAlike_104 : decode cX10_mostAlike 104 = .ok (.invokestatic 264, 3) := by decide +kernel
theorem dX10_mostAlike_107 : decode cX10_mostAlike 107 = .ok (.istore_n 3, 1) := by decide +kernel
theorem dX10_mostAlike_108 : decode cX10_mostAlike 108 = .ok (.iinc 4 1, 3) := by decide +kernel
theorem dX10_mostAlike_111 : decode cX10_mostAlike 111 = .ok (.goto (-106), 3) := by decide +kernel
theorem dX10_mostAlike_114 : decode cX10_mostAlike 114 = .ok (.iload_n 3, 1) := by decide +kernel
theorem dX10_mostAlike_115 : decode cX10_mostAlike 115 = .ok (.ireturn, 1) := by decide +kernel
theorem dX10_drawYears_0 : decode cX10_drawYears 0 = .ok (.iload_n 1, 1) := by decide +kernel
theorem dX10_drawYears_1 : decode cX10_drawYears 1 = .ok (.i2l, 1) := by decide +kernel
theorem dX10_drawYears_2 : decode cX10_drawYears 2 = .ok (.lstore_n 3, 1) := by decide +kernel
theorem dX10_drawYears_3 : decode cX10_drawYears 3 = .ok (.iconst 0, 1) := by decide +kernel
theorem dX10_drawYears_4 : decode cX10_drawYears 4 = .ok (.istore 5, 2) := by decide +kernel
theorem dX10_drawYears_6 : decode cX10_drawYears 6 = .ok (.iconst 0, 1) := by decide +kernel
theorem dX10_drawYears_7 : decode cX10_drawYears 7 = .ok (.istore 6, 2) := by decide +kernel
theorem dX10_drawYears_9 : decode cX10_drawYears 9 = .ok (.iload 6, 2) := by decide +kernel
theorem dX10_drawYears_11 : decode cX10_drawYears 11 = .ok (.iload_n 2, 1) := by decide +kernel
theorem dX10_drawYears_12 : decode cX10_drawYears 12 = .ok (.if_icmp .ge 125, 3) := by decide +kernel
theorem dX10_drawYears_15 : decode cX10_drawYears 15 = .ok (.lload_n 3, 1) := by decide +kernel
theorem dX10_drawYears_16 : decode cX10_drawYears 16 = .ok (.invokestatic 366, 3) := by decide +kernel
theorem dX10_drawYears_19 : decode cX10_drawYears 19 = .ok (.lstore_n 3, 1) := by decide +kernel
theorem dX10_drawYears_20 : decode cX10_drawYears 20 = .ok (.lload_n 3, 1) := by decide +kernel
theorem dX10_drawYears_21 : decode cX10_drawYears 21 = .ok (.aload_n 0, 1) := by decide +kernel
theorem dX10_drawYears_22 : decode cX10_drawYears 22 = .ok (.getfield 28, 3) := by decide +kernel
theorem dX10_drawYears_25 : decode cX10_drawYears 25 = .ok (.getfield 244, 3) := by decide +kernel
theorem dX10_drawYears_28 : decode cX10_drawYears 28 = .ok (.invokestatic 370, 3) := by decide +kernel
theorem dX10_drawYears_31 : decode cX10_drawYears 31 = .ok (.istore 7, 2) := by decide +kernel
theorem dX10_drawYears_33 : decode cX10_drawYears 33 = .ok (.lload_n 3, 1) := by decide +kernel
theorem dX10_drawYears_34 : decode cX10_drawYears 34 = .ok (.invokestatic 366, 3) := by decide +kernel
theorem dX10_drawYears_37 : decode cX10_drawYears 37 = .ok (.lstore_n 3, 1) := by decide +kernel
theorem dX10_drawYears_38 : decode cX10_drawYears 38 = .ok (.lload_n 3, 1) := by decide +kernel
theorem dX10_drawYears_39 : decode cX10_drawYears 39 = .ok (.aload_n 0, 1) := by decide +kernel
theorem dX10_drawYears_40 : decode cX10_drawYears 40 = .ok (.getfield 28, 3) := by decide +kernel
theorem dX10_drawYears_43 : decode cX10_drawYears 43 = .ok (.getfield 289, 3) := by decide +kernel
theorem dX10_drawYears_46 : decode cX10_drawYears 46 = .ok (.invokestatic 370, 3) := by decide +kernel
theorem dX10_drawYears_49 : decode cX10_drawYears 49 = .ok (.istore 8, 2) := by decide +kernel
theorem dX10_drawYears_51 : decode cX10_drawYears 51 = .ok (.lload_n 3, 1) := by decide +kernel
theorem dX10_drawYears_52 : decode cX10_drawYears 52 = .ok (.invokestatic 366, 3) := by decide +kernel
theorem dX10_drawYears_55 : decode cX10_drawYears 55 = .ok (.lstore_n 3, 1) := by decide +kernel
theorem dX10_drawYears_56 : decode cX10_drawYears 56 = .ok (.lload_n 3, 1) := by decide +kernel
theorem dX10_drawYears_57 : decode cX10_drawYears 57 = .ok (.iconst 4, 1) := by decide +kernel
theorem dX10_drawYears_58 : decode cX10_drawYears 58 = .ok (.invokestatic 370, 3) := by decide +kernel
theorem dX10_drawYears_61 : decode cX10_drawYears 61 = .ok (.istore 9, 2) := by decide +kernel
theorem dX10_drawYears_63 : decode cX10_drawYears 63 = .ok (.iload 9, 2) := by decide +kernel
theorem dX10_drawYears_65 : decode cX10_drawYears 65 = .ok (.iconst 3, 1) := by decide +kernel
theorem dX10_drawYears_66 : decode cX10_drawYears 66 = .ok (.if_icmp .ne 18, 3) := by decide +kernel
theorem dX10_drawYears_69 : decode cX10_drawYears 69 = .ok (.aload_n 0, 1) := by decide +kernel
theorem dX10_drawYears_70 : decode cX10_drawYears 70 = .ok (.getfield 52, 3) := by decide +kernel
theorem dX10_drawYears_73 : decode cX10_drawYears 73 = .ok (.aload_n 0, 1) := by decide +kernel
theorem dX10_drawYears_74 : decode cX10_drawYears 74 = .ok (.getfield 28, 3) := by decide +kernel
theorem dX10_drawYears_77 : decode cX10_drawYears 77 = .ok (.invokevirtual 210, 3) := by decide +kernel
theorem dX10_drawYears_80 : decode cX10_drawYears 80 = .ok (.pop, 1) := by decide +kernel
theorem dX10_drawYears_81 : decode cX10_drawYears 81 = .ok (.goto 50, 3) := by decide +kernel
theorem dX10_drawYears_84 : decode cX10_drawYears 84 = .ok (.iload 9, 2) := by decide +kernel
theorem dX10_drawYears_86 : decode cX10_drawYears 86 = .ok (.ifCond .ne 24, 3) := by decide +kernel
theorem dX10_drawYears_89 : decode cX10_drawYears 89 = .ok (.aload_n 0, 1) := by decide +kernel
theorem dX10_drawYears_90 : decode cX10_drawYears 90 = .ok (.getfield 52, 3) := by decide +kernel
theorem dX10_drawYears_93 : decode cX10_drawYears 93 = .ok (.aload_n 0, 1) := by decide +kernel
theorem dX10_drawYears_94 : decode cX10_drawYears 94 = .ok (.getfield 28, 3) := by decide +kernel
theorem dX10_drawYears_97 : decode cX10_drawYears 97 = .ok (.iload 7, 2) := by decide +kernel
theorem dX10_drawYears_99 : decode cX10_drawYears 99 = .ok (.iload 8, 2) := by decide +kernel
theorem dX10_drawYears_101 : decode cX10_drawYears 101 = .ok (.invokevirtual 194, 3) := by decide +kernel
theorem dX10_drawYears_104 : decode cX10_drawYears 104 = .ok (.ifCond .eq 27, 3) := by decide +kernel
theorem dX10_drawYears_107 : decode cX10_drawYears 107 = .ok (.goto 21, 3) := by decide +kernel
theorem dX10_drawYears_110 : decode cX10_drawYears 110 = .ok (.aload_n 0, 1) := by decide +kernel
theorem dX10_drawYears_111 : decode cX10_drawYears 111 = .ok (.getfield 52, 3) := by decide +kernel
theorem dX10_drawYears_114 : decode cX10_drawYears 114 = .ok (.aload_n 0, 1) := by decide +kernel
theorem dX10_drawYears_115 : decode cX10_drawYears 115 = .ok (.getfield 28, 3) := by decide +kernel
theorem dX10_drawYears_118 : decode cX10_drawYears 118 = .ok (.iload 7, 2) := by decide +kernel
theorem dX10_drawYears_120 : decode cX10_drawYears 120 = .ok (.iload 8, 2) := by decide +kernel
theorem dX10_drawYears_122 : decode cX10_drawYears 122 = .ok (.invokevirtual 187, 3) := by decide +kernel
theorem dX10_drawYears_125 : decode cX10_drawYears 125 = .ok (.ifCond .eq 6, 3) := by decide +kernel
theorem dX10_drawYears_128 : decode cX10_drawYears 128 = .ok (.iinc 5 1, 3) := by decide +kernel
theorem dX10_drawYears_131 : decode cX10_drawYears 131 = .ok (.iinc 6 1, 3) := by decide +kernel
theorem dX10_drawYears_134 : decode cX10_drawYears 134 = .ok (.goto (-125), 3) := by decide +kernel
theorem dX10_drawYears_137 : decode cX10_drawYears 137 = .ok (.iload 5, 2) := by decide +kernel
theorem dX10_drawYears_139 : decode cX10_drawYears 139 = .ok (.ireturn, 1) := by decide +kernel
theorem dX10_drawn_0 : decode cX10_drawn 0 = .ok (.lload_n 0, 1) := by decide +kernel
theorem dX10_drawn_1 : decode cX10_drawn 1 = .ok (.ldc2_w 374, 3) := by decide +kernel
theorem dX10_drawn_4 : decode cX10_drawn 4 = .ok (.lmul, 1) := by decide +kernel
theorem dX10_drawn_5 : decode cX10_drawn 5 = .ok (.ldc2_w 376, 3) := by decide +kernel
theorem dX10_drawn_8 : decode cX10_drawn 8 = .ok (.ladd, 1) := by decide +kernel
theorem dX10_drawn_9 : decode cX10_drawn 9 = .ok (.ldc2_w 378, 3) := by decide +kernel
theorem dX10_drawn_12 : decode cX10_drawn 12 = .ok (.lrem, 1) := by decide +kernel
theorem dX10_drawn_13 : decode cX10_drawn 13 = .ok (.lreturn, 1) := by decide +kernel
theorem dX10_below_0 : decode cX10_below 0 = .ok (.iload_n 2, 1) := by decide +kernel
theorem dX10_below_1 : decode cX10_below 1 = .ok (.ifCond .le 15, 3) := by decide +kernel
theorem dX10_below_4 : decode cX10_below 4 = .ok (.lload_n 0, 1) := by decide +kernel
theorem dX10_below_5 : decode cX10_below 5 = .ok (.ldc2_w 380, 3) := by decide +kernel
theorem dX10_below_8 : decode cX10_below 8 = .ok (.ldiv, 1) := by decide +kernel
theorem dX10_below_9 : decode cX10_below 9 = .ok (.iload_n 2, 1) := by decide +kernel
theorem dX10_below_10 : decode cX10_below 10 = .ok (.i2l, 1) := by decide +kernel
theorem dX10_below_11 : decode cX10_below 11 = .ok (.lrem, 1) := by decide +kernel
theorem dX10_below_12 : decode cX10_below 12 = .ok (.l2i, 1) := by decide +kernel
theorem dX10_below_13 : decode cX10_below 13 = .ok (.goto 4, 3) := by decide +kernel
theorem dX10_below_16 : decode cX10_below 16 = .ok (.iconst 0, 1) := by decide +kernel
theorem dX10_below_17 : decode cX10_below 17 = .ok (.ireturn, 1) := by decide +kernel
theorem dX10_blindWeight_0 : decode cX10_blindWeight 0 = .ok (.iload_n 1, 1) := by decide +kernel
theorem dX10_blindWeight_1 : decode cX10_blindWeight 1 = .ok (.ifCond .gt 21, 3) := by decide +kernel
theorem dX10_blindWeight_4 : decode cX10_blindWeight 4 = .ok (.iload_n 2, 1) := by decide +kernel
theorem dX10_blindWeight_5 : decode cX10_blindWeight 5 = .ok (.iload_n 0, 1) := by decide +kernel
theorem dX10_blindWeight_6 : decode cX10_blindWeight 6 = .ok (.bipush 6, 2) := by decide +kernel
theorem dX10_blindWeight_8 : decode cX10_blindWeight 8 = .ok (.if_icmp .lt 10, 3) := by decide +kernel
theorem dX10_blindWeight_11 : decode cX10_blindWeight 11 = .ok (.bipush 10, 2) := by decide +kernel
theorem dX10_blindWeight_13 : decode cX10_blindWeight 13 = .ok (.iload_n 2, 1) := by decide +kernel
theorem dX10_blindWeight_14 : decode cX10_blindWeight 14 = .ok (.isub, 1) := by decide +kernel
theorem dX10_blindWeight_15 : decode cX10_blindWeight 15 = .ok (.goto 4, 3) := by decide +kernel
theorem dX10_blindWeight_18 : decode cX10_blindWeight 18 = .ok (.iconst 0, 1) := by decide +kernel
theorem dX10_blindWeight_19 : decode cX10_blindWeight 19 = .ok (.iadd, 1) := by decide +kernel
theorem dX10_blindWeight_20 : decode cX10_blindWeight 20 = .ok (.i2l, 1) := by decide +kernel
theorem dX10_blindWeight_21 : decode cX10_blindWeight 21 = .ok (.lreturn, 1) := by decide +kernel
theorem dX10_blindWeight_22 : decode cX10_blindWeight 22 = .ok (.iload_n 2, 1) := by decide +kernel
theorem dX10_blindWeight_23 : decode cX10_blindWeight 23 = .ok (.i2l, 1) := by decide +kernel
theorem dX10_blindWeight_24 : decode cX10_blindWeight 24 = .ok (.iload_n 0, 1) := by decide +kernel
theorem dX10_blindWeight_25 : decode cX10_blindWeight 25 = .ok (.bipush 9, 2) := by decide +kernel
theorem dX10_blindWeight_27 : decode cX10_blindWeight 27 = .ok (.invokestatic 275, 3) := by decide +kernel
theorem dX10_blindWeight_30 : decode cX10_blindWeight 30 = .ok (.iload_n 1, 1) := by decide +kernel
theorem dX10_blindWeight_31 : decode cX10_blindWeight 31 = .ok (.iconst 1, 1) := by decide +kernel
theorem dX10_blindWeight_32 : decode cX10_blindWeight 32 = .ok (.isub, 1) := by decide +kernel
theorem dX10_blindWeight_33 : decode cX10_blindWeight 33 = .ok (.iload_n 2, 1) := by decide +kernel
theorem dX10_blindWeight_34 : decode cX10_blindWeight 34 = .ok (.invokestatic 329, 3) := by decide +kernel
theorem dX10_blindWeight_37 : decode cX10_blindWeight 37 = .ok (.lmul, 1) := by decide +kernel
theorem dX10_blindWeight_38 : decode cX10_blindWeight 38 = .ok (.bipush 10, 2) := by decide +kernel
theorem dX10_blindWeight_40 : decode cX10_blindWeight 40 = .ok (.iload_n 2, 1) := by decide +kernel
theorem dX10_blindWeight_41 : decode cX10_blindWeight 41 = .ok (.isub, 1) := by decide +kernel
theorem dX10_blindWeight_42 : decode cX10_blindWeight 42 = .ok (.i2l, 1) := by decide +kernel
theorem dX10_blindWeight_43 : decode cX10_blindWeight 43 = .ok (.iload_n 0, 1) := by decide +kernel
theorem dX10_blindWeight_44 : decode cX10_blindWeight 44 = .ok (.iconst 0, 1) := by decide +kernel
theorem dX10_blindWeight_45 : decode cX10_blindWeight 45 = .ok (.invokestatic 275, 3) := by decide +kernel
theorem dX10_blindWeight_48 : decode cX10_blindWeight 48 = .ok (.iload_n 1, 1) := by decide +kernel
theorem dX10_blindWeight_49 : decode cX10_blindWeight 49 = .ok (.iconst 1, 1) := by decide +kernel
theorem dX10_blindWeight_50 : decode cX10_blindWeight 50 = .ok (.isub, 1) := by decide +kernel
theorem dX10_blindWeight_51 : decode cX10_blindWeight 51 = .ok (.iload_n 2, 1) := by decide +kernel
theorem dX10_blindWeight_52 : decode cX10_blindWeight 52 = .ok (.invokestatic 329, 3) := by decide +kernel
theorem dX10_blindWeight_55 : decode cX10_blindWeight 55 = .ok (.lmul, 1) := by decide +kernel
theorem dX10_blindWeight_56 : decode cX10_blindWeight 56 = .ok (.ladd, 1) := by decide +kernel
theorem dX10_blindWeight_57 : decode cX10_blindWeight 57 = .ok (.lreturn, 1) := by decide +kernel
theorem dX10_settled_0 : decode cX10_settled 0 = .ok (.iload_n 1, 1) := by decide +kernel
theorem dX10_settled_1 : decode cX10_settled 1 = .ok (.bipush 7, 2) := by decide +kernel
theorem dX10_settled_3 : decode cX10_settled 3 = .ok (.if_icmp .lt 14, 3) := by decide +kernel
theorem dX10_settled_6 : decode cX10_settled 6 = .ok (.bipush 9, 2) := by decide +kernel
theorem dX10_settled_8 : decode cX10_settled 8 = .ok (.iload_n 0, 1) := by decide +kernel
theorem dX10_settled_9 : decode cX10_settled 9 = .ok (.iconst 1, 1) := by decide +kernel
theorem dX10_settled_10 : decode cX10_settled 10 = .ok (.iadd, 1) := by decide +kernel
theorem dX10_settled_11 : decode cX10_settled 11 = .ok (.invokestatic 382, 3) := by decide +kernel
theorem dX10_settled_14 : decode cX10_settled 14 = .ok (.goto 10, 3) := by decide +kernel
theorem dX10_settled_17 : decode cX10_settled 17 = .ok (.iconst 0, 1) := by decide +kernel
theorem dX10_settled_18 : decode cX10_settled 18 = .ok (.iload_n 0, 1) := by decide +kernel
theorem dX10_settled_19 : decode cX10_settled 19 = .ok (.iconst 1, 1) := by decide +kernel
theorem dX10_settled_20 : decode cX10_settled 20 = .ok (.isub, 1) := by decide +kernel
theorem dX10_settled_21 : decode cX10_settled 21 = .ok (.invokestatic 264, 3) := by decide +kernel
theorem dX10_settled_24 : decode cX10_settled 24 = .ok (.ireturn, 1) := by decide +kernel
theorem dX10_isRest_0 : decode cX10_isRest 0 = .ok (.iload_n 0, 1) := by decide +kernel
theorem dX10_isRest_1 : decode cX10_isRest 1 = .ok (.iconst 2, 1) := by decide +kernel
theorem dX10_isRest_2 : decode cX10_isRest 2 = .ok (.idiv, 1) := by decide +kernel
theorem dX10_isRest_3 : decode cX10_isRest 3 = .ok (.istore 4, 2) := by decide +kernel
theorem dX10_isRest_5 : decode cX10_isRest 5 = .ok (.iload_n 0, 1) := by decide +kernel
theorem dX10_isRest_6 : decode cX10_isRest 6 = .ok (.iconst 2, 1) := by decide +kernel
theorem dX10_isRest_7 : decode cX10_isRest 7 = .ok (.irem, 1) := by decide +kernel
theorem dX10_isRest_8 : decode cX10_isRest 8 = .ok (.istore 5, 2) := by decide +kernel
theorem dX10_isRest_10 : decode cX10_isRest 10 = .ok (.iload 4, 2) := by decide +kernel
theorem dX10_isRest_12 : decode cX10_isRest 12 = .ok (.iload 5, 2) := by decide +kernel
theorem dX10_isRest_14 : decode cX10_isRest 14 = .ok (.iload_n 1, 1) := by decide +kernel
theorem dX10_isRest_15 : decode cX10_isRest 15 = .ok (.iload_n 2, 1) := by decide +kernel
theorem dX10_isRest_16 : decode cX10_isRest 16 = .ok (.iload_n 3, 1) := by decide +kernel
theorem dX10_isRest_17 : decode cX10_isRest 17 = .ok (.invokestatic 385, 3) := by decide +kernel
theorem dX10_isRest_20 : decode cX10_isRest 20 = .ok (.iconst 1, 1) := by decide +kernel
theorem dX10_isRest_21 : decode cX10_isRest 21 = .ok (.iload 4, 2) := by decide +kernel
theorem dX10_isRest_23 : decode cX10_isRest 23 = .ok (.isub, 1) := by decide +kernel
theorem dX10_isRest_24 : decode cX10_isRest 24 = .ok (.iload 5, 2) := by decide +kernel
theorem dX10_isRest_26 : decode cX10_isRest 26 = .ok (.iload_n 1, 1) := by decide +kernel
theorem dX10_isRest_27 : decode cX10_isRest 27 = .ok (.iload_n 2, 1) := by decide +kernel
theorem dX10_isRest_28 : decode cX10_isRest 28 = .ok (.iload_n 3, 1) := by decide +kernel
theorem dX10_isRest_29 : decode cX10_isRest 29 = .ok (.invokestatic 385, 3) := by decide +kernel
theorem dX10_isRest_32 : decode cX10_isRest 32 = .ok (.if_icmp .lt 32, 3) := by decide +kernel
theorem dX10_isRest_35 : decode cX10_isRest 35 = .ok (.iload 5, 2) := by decide +kernel
theorem dX10_isRest_37 : decode cX10_isRest 37 = .ok (.iload 4, 2) := by decide +kernel
theorem dX10_isRest_39 : decode cX10_isRest 39 = .ok (.iload_n 1, 1) := by decide +kernel
theorem dX10_isRest_40 : decode cX10_isRest 40 = .ok (.iload_n 2, 1) := by decide +kernel
theorem dX10_isRest_41 : decode cX10_isRest 41 = .ok (.iload_n 3, 1) := by decide +kernel
theorem dX10_isRest_42 : decode cX10_isRest 42 = .ok (.invokestatic 385, 3) := by decide +kernel
theorem dX10_isRest_45 : decode cX10_isRest 45 = .ok (.iconst 1, 1) := by decide +kernel
theorem dX10_isRest_46 : decode cX10_isRest 46 = .ok (.iload 5, 2) := by decide +kernel
theorem dX10_isRest_48 : decode cX10_isRest 48 = .ok (.isub, 1) := by decide +kernel
theorem dX10_isRest_49 : decode cX10_isRest 49 = .ok (.iload 4, 2) := by decide +kernel
theorem dX10_isRest_51 : decode cX10_isRest 51 = .ok (.iload_n 1, 1) := by decide +kernel
theorem dX10_isRest_52 : decode cX10_isRest 52 = .ok (.iload_n 2, 1) := by decide +kernel
theorem dX10_isRest_53 : decode cX10_isRest 53 = .ok (.iload_n 3, 1) := by decide +kernel
theorem dX10_isRest_54 : decode cX10_isRest 54 = .ok (.invokestatic 385, 3) := by decide +kernel
theorem dX10_isRest_57 : decode cX10_isRest 57 = .ok (.if_icmp .lt 7, 3) := by decide +kernel
theorem dX10_isRest_60 : decode cX10_isRest 60 = .ok (.iconst 1, 1) := by decide +kernel
theorem dX10_isRest_61 : decode cX10_isRest 61 = .ok (.goto 4, 3) := by decide +kernel
theorem dX10_isRest_64 : decode cX10_isRest 64 = .ok (.iconst 0, 1) := by decide +kernel
theorem dX10_isRest_65 : decode cX10_isRest 65 = .ok (.ireturn, 1) := by decide +kernel
theorem dX10_gain_0 : decode cX10_gain 0 = .ok (.iload_n 0, 1) := by decide +kernel
theorem dX10_gain_1 : decode cX10_gain 1 = .ok (.iconst 1, 1) := by decide +kernel
theorem dX10_gain_2 : decode cX10_gain 2 = .ok (.if_icmp .ne 15, 3) := by decide +kernel
theorem dX10_gain_5 : decode cX10_gain 5 = .ok (.iload_n 1, 1) := by decide +kernel
theorem dX10_gain_6 : decode cX10_gain 6 = .ok (.iconst 1, 1) := by decide +kernel
theorem dX10_gain_7 : decode cX10_gain 7 = .ok (.if_icmp .ne 8, 3) := by decide +kernel
theorem dX10_gain_10 : decode cX10_gain 10 = .ok (.iload_n 2, 1) := by decide +kernel
theorem dX10_gain_11 : decode cX10_gain 11 = .ok (.ineg, 1) := by decide +kernel
theorem dX10_gain_12 : decode cX10_gain 12 = .ok (.goto 4, 3) := by decide +kernel
theorem dX10_gain_15 : decode cX10_gain 15 = .ok (.iload_n 3, 1) := by decide +kernel
theorem dX10_gain_16 : decode cX10_gain 16 = .ok (.ireturn, 1) := by decide +kernel
theorem dX10_gain_17 : decode cX10_gain 17 = .ok (.iload_n 1, 1) := by decide +kernel
theorem dX10_gain_18 : decode cX10_gain 18 = .ok (.iconst 1, 1) := by decide +kernel
theorem dX10_gain_19 : decode cX10_gain 19 = .ok (.if_icmp .ne 8, 3) := by decide +kernel
theorem dX10_gain_22 : decode cX10_gain 22 = .ok (.iload 4, 2) := by decide +kernel
theorem dX10_gain_24 : decode cX10_gain 24 = .ok (.goto 4, 3) := by decide +kernel
theorem dX10_gain_27 : decode cX10_gain 27 = .ok (.iconst 0, 1) := by decide +kernel
theorem dX10_gain_28 : decode cX10_gain 28 = .ok (.ireturn, 1) := by decide +kernel
theorem dX10_isDigit_0 : decode cX10_isDigit 0 = .ok (.iload_n 0, 1) := by decide +kernel
theorem dX10_isDigit_1 : decode cX10_isDigit 1 = .ok (.ifCond .lt 13, 3) := by decide +kernel
theorem dX10_isDigit_4 : decode cX10_isDigit 4 = .ok (.iload_n 0, 1) := by decide +kernel
theorem dX10_isDigit_5 : decode cX10_isDigit 5 = .ok (.bipush 9, 2) := by decide +kernel
theorem dX10_isDigit_7 : decode cX10_isDigit 7 = .ok (.if_icmp .gt 7, 3) := by decide +kernel
theorem dX10_isDigit_10 : decode cX10_isDigit 10 = .ok (.iconst 1, 1) := by decide +kernel
theorem dX10_isDigit_11 : decode cX10_isDigit 11 = .ok (.goto 4, 3) := by decide +kernel
theorem dX10_isDigit_14 : decode cX10_isDigit 14 = .ok (.iconst 0, 1) := by decide +kernel
theorem dX10_isDigit_15 : decode cX10_isDigit 15 = .ok (.ireturn, 1) := by decide +kernel
theorem dX10_isIn_0 : decode cX10_isIn 0 = .ok (.iload_n 0, 1) := by decide +kernel
theorem dX10_isIn_1 : decode cX10_isIn 1 = .ok (.iload_n 1, 1) := by decide +kernel
theorem dX10_isIn_2 : decode cX10_isIn 2 = .ok (.ishr, 1) := by decide +kernel
theorem dX10_isIn_3 : decode cX10_isIn 3 = .ok (.iconst 1, 1) := by decide +kernel
theorem dX10_isIn_4 : decode cX10_isIn 4 = .ok (.iand, 1) := by decide +kernel
theorem dX10_isIn_5 : decode cX10_isIn 5 = .ok (.ifCond .eq 7, 3) := by decide +kernel
theorem dX10_isIn_8 : decode cX10_isIn 8 = .ok (.iconst 1, 1) := by decide +kernel
theorem dX10_isIn_9 : decode cX10_isIn 9 = .ok (.goto 4, 3) := by decide +kernel
theorem dX10_isIn_12 : decode cX10_isIn 12 = .ok (.iconst 0, 1) := by decide +kernel
theorem dX10_isIn_13 : decode cX10_isIn 13 = .ok (.ireturn, 1) := by decide +kernel
theorem dX10_sum_0 : decode cX10_sum 0 = .ok (.iconst 0, 1) := by decide +kernel
theorem dX10_sum_1 : decode cX10_sum 1 = .ok (.istore_n 1, 1) := by decide +kernel
theorem dX10_sum_2 : decode cX10_sum 2 = .ok (.iconst 0, 1) := by decide +kernel
theorem dX10_sum_3 : decode cX10_sum 3 = .ok (.istore_n 2, 1) := by decide +kernel
theorem dX10_sum_4 : decode cX10_sum 4 = .ok (.iload_n 2, 1) := by decide +kernel
theorem dX10_sum_5 : decode cX10_sum 5 = .ok (.aload_n 0, 1) := by decide +kernel
theorem dX10_sum_6 : decode cX10_sum 6 = .ok (.arraylength, 1) := by decide +kernel
theorem dX10_sum_7 : decode cX10_sum 7 = .ok (.if_icmp .ge 15, 3) := by decide +kernel
theorem dX10_sum_10 : decode cX10_sum 10 = .ok (.iload_n 1, 1) := by decide +kernel
theorem dX10_sum_11 : decode cX10_sum 11 = .ok (.aload_n 0, 1) := by decide +kernel
theorem dX10_sum_12 : decode cX10_sum 12 = .ok (.iload_n 2, 1) := by decide +kernel
theorem dX10_sum_13 : decode cX10_sum 13 = .ok (.iaload, 1) := by decide +kernel
theorem dX10_sum_14 : decode cX10_sum 14 = .ok (.iadd, 1) := by decide +kernel
theorem dX10_sum_15 : decode cX10_sum 15 = .ok (.istore_n 1, 1) := by decide +kernel
theorem dX10_sum_16 : decode cX10_sum 16 = .ok (.iinc 2 1, 3) := by decide +kernel
theorem dX10_sum_19 : decode cX10_sum 19 = .ok (.goto (-15), 3) := by decide +kernel
theorem dX10_sum_22 : decode cX10_sum 22 = .ok (.iload_n 1, 1) := by decide +kernel
theorem dX10_sum_23 : decode cX10_sum 23 = .ok (.ireturn, 1) := by decide +kernel
theorem dX11_thrown_0 : decode cX11_thrown 0 = .ok (.aload_n 0, 1) := by decide +kernel
theorem dX11_thrown_1 : decode cX11_thrown 1 = .ok (.getfield 1, 3) := by decide +kernel
theorem dX11_thrown_4 : decode cX11_thrown 4 = .ok (.ireturn, 1) := by decide +kernel
theorem dX11_feed_0 : decode cX11_feed 0 = .ok (.aload_n 0, 1) := by decide +kernel
theorem dX11_feed_1 : decode cX11_feed 1 = .ok (.iconst 0, 1) := by decide +kernel
theorem dX11_feed_2 : decode cX11_feed 2 = .ok (.putfield 1, 3) := by decide +kernel
theorem dX11_feed_5 : decode cX11_feed 5 = .ok (.aload_n 0, 1) := by decide +kernel
theorem dX11_feed_6 : decode cX11_feed 6 = .ok (.lload_n 1, 1) := by decide +kernel
theorem dX11_feed_7 : decode cX11_feed 7 = .ok (.invokevirtual 7, 3) := by decide +kernel
theorem dX11_feed_10 : decode cX11_feed 10 = .ok (.aload_n 0, 1) := by decide +kernel
theorem dX11_feed_11 : decode cX11_feed 11 = .ok (.lload_n 3, 1) := by decide +kernel
theorem dX11_feed_12 : decode cX11_feed 12 = .ok (.invokevirtual 7, 3) := by decide +kernel
theorem dX11_feed_15 : decode cX11_feed 15 = .ok (.aload_n 0, 1) := by decide +kernel
theorem dX11_feed_16 : decode cX11_feed 16 = .ok (.lload 5, 2) := by decide +kernel
theorem dX11_feed_18 : decode cX11_feed 18 = .ok (.invokevirtual 7, 3) := by decide +kernel
theorem dX11_feed_21 : decode cX11_feed 21 = .ok (.aload_n 0, 1) := by decide +kernel
theorem dX11_feed_22 : decode cX11_feed 22 = .ok (.getfield 11, 3) := by decide +kernel
theorem dX11_feed_25 : decode cX11_feed 25 = .ok (.ireturn, 1) := by decide +kernel
theorem dX11_lay_0 : decode cX11_lay 0 = .ok (.bipush 56, 2) := by decide +kernel
theorem dX11_lay_2 : decode cX11_lay 2 = .ok (.istore_n 3, 1) := by decide +kernel
theorem dX11_lay_3 : decode cX11_lay 3 = .ok (.iload_n 3, 1) := by decide +kernel
theorem dX11_lay_4 : decode cX11_lay 4 = .ok (.ifCond .lt 71, 3) := by decide +kernel
theorem dX11_lay_7 : decode cX11_lay 7 = .ok (.lload_n 1, 1) := by decide +kernel
theorem dX11_lay_8 : decode cX11_lay 8 = .ok (.iload_n 3, 1) := by decide +kernel
theorem dX11_lay_9 : decode cX11_lay 9 = .ok (.lshr, 1) := by decide +kernel
theorem dX11_lay_10 : decode cX11_lay 10 = .ok (.l2i, 1) := by decide +kernel
theorem dX11_lay_11 : decode cX11_lay 11 = .ok (.sipush 255, 3) := by decide +kernel
theorem dX11_lay_14 : decode cX11_lay 14 = .ok (.iand, 1) := by decide +kernel
theorem dX11_lay_15 : decode cX11_lay 15 = .ok (.istore 4, 2) := by decide +kernel
theorem dX11_lay_17 : decode cX11_lay 17 = .ok (.iload 4, 2) := by decide +kernel
theorem dX11_lay_19 : decode cX11_lay 19 = .ok (.bipush 10, 2) := by decide +kernel
theorem dX11_lay_21 : decode cX11_lay 21 = .ok (.if_icmp .eq 17, 3) := by decide +kernel
theorem dX11_lay_24 : decode cX11_lay 24 = .ok (.iload 4, 2) := by decide +kernel
theorem dX11_lay_26 : decode cX11_lay 26 = .ok (.bipush 32, 2) := by decide +kernel
theorem dX11_lay_28 : decode cX11_lay 28 = .ok (.if_icmp .lt 41, 3) := by decide +kernel
theorem dX11_lay_31 : decode cX11_lay 31 = .ok (.iload 4, 2) := by decide +kernel
theorem dX11_lay_33 : decode cX11_lay 33 = .ok (.bipush 126, 2) := by decide +kernel
theorem dX11_lay_35 : decode cX11_lay 35 = .ok (.if_icmp .gt 34, 3) := by decide +kernel
theorem dX11_lay_38 : decode cX11_lay 38 = .ok (.aload_n 0, 1) := by decide +kernel
theorem dX11_lay_39 : decode cX11_lay 39 = .ok (.getfield 11, 3) := by decide +kernel
theorem dX11_lay_42 : decode cX11_lay 42 = .ok (.sipush 1000, 3) := by decide +kernel
theorem dX11_lay_45 : decode cX11_lay 45 = .ok (.if_icmp .ge 24, 3) := by decide +kernel
theorem dX11_lay_48 : decode cX11_lay 48 = .ok (.aload_n 0, 1) := by decide +kernel
theorem dX11_lay_49 : decode cX11_lay 49 = .ok (.getfield 14, 3) := by decide +kernel
theorem dX11_lay_52 : decode cX11_lay 52 = .ok (.aload_n 0, 1) := by decide +kernel
theorem dX11_lay_53 : decode cX11_lay 53 = .ok (.getfield 11, 3) := by decide +kernel
theorem dX11_lay_56 : decode cX11_lay 56 = .ok (.iload 4, 2) := by decide +kernel
theorem dX11_lay_58 : decode cX11_lay 58 = .ok (.iastore, 1) := by decide +kernel
theorem dX11_lay_59 : decode cX11_lay 59 = .ok (.aload_n 0, 1) := by decide +kernel
theorem dX11_lay_60 : decode cX11_lay 60 = .ok (.dup, 1) := by decide +kernel
theorem dX11_lay_61 : decode cX11_lay 61 = .ok (.getfield 11, 3) := by decide +kernel
theorem dX11_lay_64 : decode cX11_lay 64 = .ok (.iconst 1, 1) := by decide +kernel
theorem dX11_lay_65 : decode cX11_lay 65 = .ok (.iadd, 1) := by decide +kernel
theorem dX11_lay_66 : decode cX11_lay 66 = .ok (.putfield 11, 3) := by decide +kernel
theorem dX11_lay_69 : decode cX11_lay 69 = .ok (.iinc 3 (-8), 3) := by decide +kernel
theorem dX11_lay_72 : decode cX11_lay 72 = .ok (.goto (-69), 3) := by decide +kernel
theorem dX11_lay_75 : decode cX11_lay 75 = .ok (.return_, 1) := by decide +kernel
theorem dX11_init_0 : decode cX11_init 0 = .ok (.aload_n 0, 1) := by decide +kernel
theorem dX11_init_1 : decode cX11_init 1 = .ok (.invokespecial 18, 3) := by decide +kernel
theorem dX11_init_4 : decode cX11_init 4 = .ok (.aload_n 0, 1) := by decide +kernel
theorem dX11_init_5 : decode cX11_init 5 = .ok (.sipush 1000, 3) := by decide +kernel
theorem dX11_init_8 : decode cX11_init 8 = .ok (.newarray .int, 2) := by decide +kernel
theorem dX11_init_10 : decode cX11_init 10 = .ok (.putfield 14, 3) := by decide +kernel
theorem dX11_init_13 : decode cX11_init 13 = .ok (.aload_n 0, 1) := by decide +kernel
theorem dX11_init_14 : decode cX11_init 14 = .ok (.sipush 1002, 3) := by decide +kernel
theorem dX11_init_17 : decode cX11_init 17 = .ok (.newarray .int, 2) := by decide +kernel
theorem dX11_init_19 : decode cX11_init 19 = .ok (.putfield 24, 3) := by decide +kernel
theorem dX11_init_22 : decode cX11_init 22 = .ok (.aload_n 0, 1) := by decide +kernel
theorem dX11_init_23 : decode cX11_init 23 = .ok (.sipush 1002, 3) := by decide +kernel
theorem dX11_init_26 : decode cX11_init 26 = .ok (.newarray .int, 2) := by decide +kernel
theorem dX11_init_28 : decode cX11_init 28 = .ok (.putfield 27, 3) := by decide +kernel
theorem dX11_init_31 : decode cX11_init 31 = .ok (.aload_n 0, 1) := by decide +kernel
theorem dX11_init_32 : decode cX11_init 32 = .ok (.sipush 1002, 3) := by decide +kernel
theorem dX11_init_35 : decode cX11_init 35 = .ok (.newarray .long, 2) := by decide +kernel
theorem dX11_init_37 : decode cX11_init 37 = .ok (.putfield 30, 3) := by decide +kernel
theorem dX11_init_40 : decode cX11_init 40 = .ok (.aload_n 0, 1) := by decide +kernel
theorem dX11_init_41 : decode cX11_init 41 = .ok (.bipush 28, 2) := by decide +kernel
theorem dX11_init_43 : decode cX11_init 43 = .ok (.newarray .long, 2) := by decide +kernel
theorem dX11_init_45 : decode cX11_init 45 = .ok (.dup, 1) := by decide +kernel
theorem dX11_init_46 : decode cX11_init 46 = .ok (.iconst 0, 1) := by decide +kernel
theorem dX11_init_47 : decode cX11_init 47 = .ok (.ldc2_w 34, 3) := by decide +kernel
theorem dX11_init_50 : decode cX11_init 50 = .ok (.lastore, 1) := by decide +kernel
theorem dX11_init_51 : decode cX11_init 51 = .ok (.dup, 1) := by decide +kernel
theorem dX11_init_52 : decode cX11_init 52 = .ok (.iconst 1, 1) := by decide +kernel
theorem dX11_init_53 : decode cX11_init 53 = .ok (.ldc2_w 36, 3) := by decide +kernel
theorem dX11_init_56 : decode cX11_init 56 = .ok (.lastore, 1) := by decide +kernel
theorem dX11_init_57 : decode cX11_init 57 = .ok (.dup, 1) := by decide +kernel
theorem dX11_init_58 : decode cX11_init 58 = .ok (.iconst 2, 1) := by decide +kernel
theorem dX11_init_59 : decode cX11_init 59 = .ok (.ldc2_w 38, 3) := by decide +kernel
theorem dX11_init_62 : decode cX11_init 62 = .ok (.lastore, 1) := by decide +kernel
theorem dX11_init_63 : decode cX11_init 63 = .ok (.dup, 1) := by decide +kernel
theorem dX11_init_64 : decode cX11_init 64 = .ok (.iconst 3, 1) := by decide +kernel
theorem dX11_init_65 : decode cX11_init 65 = .ok (.ldc2_w 40, 3) := by decide +kernel
theorem dX11_init_68 : decode cX11_init 68 = .ok (.lastore, 1) := by decide +kernel
theorem dX11_init_69 : decode cX11_init 69 = .ok (.dup, 1) := by decide +kernel
theorem dX11_init_70 : decode cX11_init 70 = .ok (.iconst 4, 1) := by decide +kernel
theorem dX11_init_71 : decode cX11_init 71 = .ok (.ldc2_w 42, 3) := by decide +kernel
theorem dX11_init_74 : decode cX11_init 74 = .ok (.lastore, 1) := by decide +kernel
theorem dX11_init_75 : decode cX11_init 75 = .ok (.dup, 1) := by decide +kernel
theorem dX11_init_76 : decode cX11_init 76 = .ok (.iconst 5, 1) := by decide +kernel
theorem dX11_init_77 : decode cX11_init 77 = .ok (.ldc2_w 44, 3) := by decide +kernel
theorem dX11_init_80 : decode cX11_init 80 = .ok (.lastore, 1) := by decide +kernel
theorem dX11_init_81 : decode cX11_init 81 = .ok (.dup, 1) := by decide +kernel
theorem dX11_init_82 : decode cX11_init 82 = .ok (.bipush 6, 2) := by decide +kernel
theorem dX11_init_84 : decode cX11_init 84 = .ok (.ldc2_w 46, 3) := by decide +kernel
theorem dX11_init_87 : decode cX11_init 87 = .ok (.lastore, 1) := by decide +kernel
theorem dX11_init_88 : decode cX11_init 88 = .ok (.dup, 1) := by decide +kernel
theorem dX11_init_89 : decode cX11_init 89 = .ok (.bipush 7, 2) := by decide +kernel
theorem dX11_init_91 : decode cX11_init 91 = .ok (.ldc2_w 48, 3) := by decide +kernel
theorem dX11_init_94 : decode cX11_init 94 = .ok (.lastore, 1) := by decide +kernel
theorem dX11_init_95 : decode cX11_init 95 = .ok (.dup, 1) := by decide +kernel
theorem dX11_init_96 : decode cX11_init 96 = .ok (.bipush 8, 2) := by decide +kernel
theorem dX11_init_98 : decode cX11_init 98 = .ok (.ldc2_w 50, 3) := by decide +kernel
theorem dX11_init_101 : decode cX11_init 101 = .ok (.lastore, 1) := by decide +kernel
theorem dX11_init_102 : decode cX11_init 102 = .ok (.dup, 1) := by decide +kernel
theorem dX11_init_103 : decode cX11_init 103 = .ok (.bipush 9, 2) := by decide +kernel
theorem dX11_init_105 : decode cX11_init 105 = .ok (.ldc2_w 52, 3) := by decide +kernel
theorem dX11_init_108 : decode cX11_init 108 = .ok (.lastore, 1) := by decide +kernel
theorem dX11_init_109 : decode cX11_init 109 = .ok (.dup, 1) := by decide +kernel
theorem dX11_init_110 : decode cX11_init 110 = .ok (.bipush 10, 2) := by decide +kernel
theorem dX11_init_112 : decode cX11_init 112 = .ok (.ldc2_w 54, 3) := by decide +kernel
theorem dX11_init_115 : decode cX11_init 115 = .ok (.lastore, 1) := by decide +kernel
theorem dX11_init_116 : decode cX11_init 116 = .ok (.dup, 1) := by decide +kernel
theorem dX11_init_117 : decode cX11_init 117 = .ok (.bipush 11, 2) := by decide +kernel
theorem dX11_init_119 : decode cX11_init 119 = .ok (.ldc2_w 56, 3) := by decide +kernel
theorem dX11_init_122 : decode cX11_init 122 = .ok (.lastore, 1) := by decide +kernel
theorem dX11_init_123 : decode cX11_init 123 = .ok (.dup, 1) := by decide +kernel
theorem dX11_init_124 : decode cX11_init 124 = .ok (.bipush 12, 2) := by decide +kernel
theorem dX11_init_126 : decode cX11_init 126 = .ok (.ldc2_w 58, 3) := by decide +kernel
theorem dX11_init_129 : decode cX11_init 129 = .ok (.lastore, 1) := by decide +kernel
theorem dX11_init_130 : decode cX11_init 130 = .ok (.dup, 1) := by decide +kernel
theorem dX11_init_131 : decode cX11_init 131 = .ok (.bipush 13, 2) := by decide +kernel
theorem dX11_init_133 : decode cX11_init 133 = .ok (.ldc2_w 60, 3) := by decide +kernel
theorem dX11_init_136 : decode cX11_init 136 = .ok (.lastore, 1) := by decide +kernel
theorem dX11_init_137 : decode cX11_init 137 = .ok (.dup, 1) := by decide +kernel
theorem dX11_init_138 : decode cX11_init 138 = .ok (.bipush 14, 2) := by decide +kernel
theorem dX11_init_140 : decode cX11_init 140 = .ok (.ldc2_w 62, 3) := by decide +kernel
theorem dX11_init_143 : decode cX11_init 143 = .ok (.lastore, 1) := by decide +kernel
theorem dX11_init_144 : decode cX11_init 144 = .ok (.dup, 1) := by decide +kernel
theorem dX11_init_145 : decode cX11_init 145 = .ok (.bipush 15, 2) := by decide +kernel
theorem dX11_init_147 : decode cX11_init 147 = .ok (.ldc2_w 64, 3) := by decide +kernel
theorem dX11_init_150 : decode cX11_init 150 = .ok (.lastore, 1) := by decide +kernel
theorem dX11_init_151 : decode cX11_init 151 = .ok (.dup, 1) := by decide +kernel
theorem dX11_init_152 : decode cX11_init 152 = .ok (.bipush 16, 2) := by decide +kernel
theorem dX11_init_154 : decode cX11_init 154 = .ok (.ldc2_w 66, 3) := by decide +kernel
theorem dX11_init_157 : decode cX11_init 157 = .ok (.lastore, 1) := by decide +kernel
theorem dX11_init_158 : decode cX11_init 158 = .ok (.dup, 1) := by decide +kernel
theorem dX11_init_159 : decode cX11_init 159 = .ok (.bipush 17, 2) := by decide +kernel
theorem dX11_init_161 : decode cX11_init 161 = .ok (.ldc2_w 68, 3) := by decide +kernel
theorem dX11_init_164 : decode cX11_init 164 = .ok (.lastore, 1) := by decide +kernel
theorem dX11_init_165 : decode cX11_init 165 = .ok (.dup, 1) := by decide +kernel
theorem dX11_init_166 : decode cX11_init 166 = .ok (.bipush 18, 2) := by decide +kernel
theorem dX11_init_168 : decode cX11_init 168 = .ok (.ldc2_w 70, 3) := by decide +kernel
theorem dX11_init_171 : decode cX11_init 171 = .ok (.lastore, 1) := by decide +kernel
theorem dX11_init_172 : decode cX11_init 172 = .ok (.dup, 1) := by decide +kernel
theorem dX11_init_173 : decode cX11_init 173 = .ok (.bipush 19, 2) := by decide +kernel
theorem dX11_init_175 : decode cX11_init 175 = .ok (.ldc2_w 72, 3) := by decide +kernel
theorem dX11_init_178 : decode cX11_init 178 = .ok (.lastore, 1) := by decide +kernel
theorem dX11_init_179 : decode cX11_init 179 = .ok (.dup, 1) := by decide +kernel
theorem dX11_init_180 : decode cX11_init 180 = .ok (.bipush 20, 2) := by decide +kernel
theorem dX11_init_182 : decode cX11_init 182 = .ok (.ldc2_w 74, 3) := by decide +kernel
theorem dX11_init_185 : decode cX11_init 185 = .ok (.lastore, 1) := by decide +kernel
theorem dX11_init_186 : decode cX11_init 186 = .ok (.dup, 1) := by decide +kernel
theorem dX11_init_187 : decode cX11_init 187 = .ok (.bipush 21, 2) := by decide +kernel
theorem dX11_init_189 : decode cX11_init 189 = .ok (.ldc2_w 76, 3) := by decide +kernel
theorem dX11_init_192 : decode cX11_init 192 = .ok (.lastore, 1) := by decide +kernel
theorem dX11_init_193 : decode cX11_init 193 = .ok (.dup, 1) := by decide +kernel
theorem dX11_init_194 : decode cX11_init 194 = .ok (.bipush 22, 2) := by decide +kernel
theorem dX11_init_196 : decode cX11_init 196 = .ok (.ldc2_w 78, 3) := by decide +kernel
theorem dX11_init_199 : decode cX11_init 199 = .ok (.lastore, 1) := by decide +kernel
theorem dX11_init_200 : decode cX11_init 200 = .ok (.dup, 1) := by decide +kernel
theorem dX11_init_201 : decode cX11_init 201 = .ok (.bipush 23, 2) := by decide +kernel
theorem dX11_init_203 : decode cX11_init 203 = .ok (.ldc2_w 80, 3) := by decide +kernel
theorem dX11_init_206 : decode cX11_init 206 = .ok (.lastore, 1) := by decide +kernel
theorem dX11_init_207 : decode cX11_init 207 = .ok (.dup, 1) := by decide +kernel
theorem dX11_init_208 : decode cX11_init 208 = .ok (.bipush 24, 2) := by decide +kernel
theorem dX11_init_210 : decode cX11_init 210 = .ok (.ldc2_w 82, 3) := by decide +kernel
theorem dX11_init_213 : decode cX11_init 213 = .ok (.lastore, 1) := by decide +kernel
theorem dX11_init_214 : decode cX11_init 214 = .ok (.dup, 1) := by decide +kernel
theorem dX11_init_215 : decode cX11_init 215 = .ok (.bipush 25, 2) := by decide +kernel
theorem dX11_init_217 : decode cX11_init 217 = .ok (.ldc2_w 84, 3) := by decide +kernel
theorem dX11_init_220 : decode cX11_init 220 = .ok (.lastore, 1) := by decide +kernel
theorem dX11_init_221 : decode cX11_init 221 = .ok (.dup, 1) := by decide +kernel
theorem dX11_init_222 : decode cX11_init 222 = .ok (.bipush 26, 2) := by decide +kernel
theorem dX11_init_224 : decode cX11_init 224 = .ok (.ldc2_w 86, 3) := by decide +kernel
theorem dX11_init_227 : decode cX11_init 227 = .ok (.lastore, 1) := by decide +kernel
theorem dX11_init_228 : decode cX11_init 228 = .ok (.dup, 1) := by decide +kernel
theorem dX11_init_229 : decode cX11_init 229 = .ok (.bipush 27, 2) := by decide +kernel
theorem dX11_init_231 : decode cX11_init 231 = .ok (.ldc2_w 88, 3) := by decide +kernel
theorem dX11_init_234 : decode cX11_init 234 = .ok (.lastore, 1) := by decide +kernel
theorem dX11_init_235 : decode cX11_init 235 = .ok (.putfield 90, 3) := by decide +kernel
theorem dX11_init_238 : decode cX11_init 238 = .ok (.aload_n 0, 1) := by decide +kernel
theorem dX11_init_239 : decode cX11_init 239 = .ok (.sipush 140, 3) := by decide +kernel
theorem dX11_init_242 : decode cX11_init 242 = .ok (.newarray .int, 2) := by decide +kernel
theorem dX11_init_244 : decode cX11_init 244 = .ok (.putfield 93, 3) := by decide +kernel
theorem dX11_init_247 : decode cX11_init 247 = .ok (.aload_n 0, 1) := by decide +kernel
theorem dX11_init_248 : decode cX11_init 248 = .ok (.sipush 2200, 3) := by decide +kernel
theorem dX11_init_251 : decode cX11_init 251 = .ok (.newarray .int, 2) := by decide +kernel
theorem dX11_init_253 : decode cX11_init 253 = .ok (.putfield 96, 3) := by decide +kernel
theorem dX11_init_256 : decode cX11_init 256 = .ok (.aload_n 0, 1) := by decide +kernel
theorem dX11_init_257 : decode cX11_init 257 = .ok (.sipush 2200, 3) := by decide +kernel
theorem dX11_init_260 : decode cX11_init 260 = .ok (.newarray .int, 2) := by decide +kernel
theorem dX11_init_262 : decode cX11_init 262 = .ok (.putfield 99, 3) := by decide +kernel
theorem dX11_init_265 : decode cX11_init 265 = .ok (.aload_n 0, 1) := by decide +kernel
theorem dX11_init_266 : decode cX11_init 266 = .ok (.bipush 11, 2) := by decide +kernel
theorem dX11_init_268 : decode cX11_init 268 = .ok (.newarray .long, 2) := by decide +kernel
theorem dX11_init_270 : decode cX11_init 270 = .ok (.putfield 102, 3) := by decide +kernel
theorem dX11_init_273 : decode cX11_init 273 = .ok (.aload_n 0, 1) := by decide +kernel
theorem dX11_init_274 : decode cX11_init 274 = .ok (.bipush 11, 2) := by decide +kernel
theorem dX11_init_276 : decode cX11_init 276 = .ok (.newarray .long, 2) := by decide +kernel
theorem dX11_init_278 : decode cX11_init 278 = .ok (.putfield 105, 3) := by decide +kernel
theorem dX11_init_281 : decode cX11_init 281 = .ok (.aload_n 0, 1) := by decide +kernel
theorem dX11_init_282 : decode cX11_init 282 = .ok (.bipush 11, 2) := by decide +kernel
theorem dX11_init_284 : decode cX11_init 284 = .ok (.newarray .int, 2) := by decide +kernel
theorem dX11_init_286 : decode cX11_init 286 = .ok (.putfield 108, 3) := by decide +kernel
theorem dX11_init_289 : decode cX11_init 289 = .ok (.aload_n 0, 1) := by decide +kernel
theorem dX11_init_290 : decode cX11_init 290 = .ok (.bipush 11, 2) := by decide +kernel
theorem dX11_init_292 : decode cX11_init 292 = .ok (.newarray .int, 2) := by decide +kernel
theorem dX11_init_294 : decode cX11_init 294 = .ok (.putfield 111, 3) := by decide +kernel
theorem dX11_init_297 : decode cX11_init 297 = .ok (.aload_n 0, 1) := by decide +kernel
theorem dX11_init_298 : decode cX11_init 298 = .ok (.sipush 330, 3) := by decide +kernel
theorem dX11_init_301 : decode cX11_init 301 = .ok (.newarray .int, 2) := by decide +kernel
theorem dX11_init_303 : decode cX11_init 303 = .ok (.putfield 114, 3) := by decide +kernel
theorem dX11_init_306 : decode cX11_init 306 = .ok (.aload_n 0, 1) := by decide +kernel
theorem dX11_init_307 : decode cX11_init 307 = .ok (.iconst 4, 1) := by decide +kernel
theorem dX11_init_308 : decode cX11_init 308 = .ok (.newarray .int, 2) := by decide +kernel
theorem dX11_init_310 : decode cX11_init 310 = .ok (.putfield 117, 3) := by decide +kernel
theorem dX11_init_313 : decode cX11_init 313 = .ok (.aload_n 0, 1) := by decide +kernel
theorem dX11_init_314 : decode cX11_init 314 = .ok (.sipush 1100, 3) := by decide +kernel
theorem dX11_init_317 : decode cX11_init 317 = .ok (.newarray .int, 2) := by decide +kernel
theorem dX11_init_319 : decode cX11_init 319 = .ok (.putfield 120, 3) := by decide +kernel
theorem dX11_init_322 : decode cX11_init 322 = .ok (.aload_n 0, 1) := by decide +kernel
theorem dX11_init_323 : decode cX11_init 323 = .ok (.sipush 1104, 3) := by decide +kernel
theorem dX11_init_326 : decode cX11_init 326 = .ok (.newarray .int, 2) := by decide +kernel
theorem dX11_init_328 : decode cX11_init 328 = .ok (.putfield 123, 3) := by decide +kernel
theorem dX11_init_331 : decode cX11_init 331 = .ok (.aload_n 0, 1) := by decide +kernel
theorem dX11_init_332 : decode cX11_init 332 = .ok (.iconst 4, 1) := by decide +kernel
theorem dX11_init_333 : decode cX11_init 333 = .ok (.newarray .boolean, 2) := by decide +kernel
theorem dX11_init_335 : decode cX11_init 335 = .ok (.putfield 126, 3) := by decide +kernel
theorem dX11_init_338 : decode cX11_init 338 = .ok (.aload_n 0, 1) := by decide +kernel
theorem dX11_init_339 : decode cX11_init 339 = .ok (.bipush 7, 2) := by decide +kernel
theorem dX11_init_341 : decode cX11_init 341 = .ok (.newarray .int, 2) := by decide +kernel
theorem dX11_init_343 : decode cX11_init 343 = .ok (.putfield 130, 3) := by decide +kernel
theorem dX11_init_346 : decode cX11_init 346 = .ok (.aload_n 0, 1) := by decide +kernel
theorem dX11_init_347 : decode cX11_init 347 = .ok (.iconst 0, 1) := by decide +kernel
theorem dX11_init_348 : decode cX11_init 348 = .ok (.invokevirtual 133, 3) := by decide +kernel
theorem dX11_init_351 : decode cX11_init 351 = .ok (.aload_n 0, 1) := by decide +kernel
theorem dX11_init_352 : decode cX11_init 352 = .ok (.invokevirtual 137, 3) := by decide +kernel
theorem dX11_init_355 : decode cX11_init 355 = .ok (.return_, 1) := by decide +kernel
theorem dX11_isLetter_0 : decode cX11_isLetter 0 = .ok (.iload_n 0, 1) := by decide +kernel
theorem dX11_isLetter_1 : decode cX11_isLetter 1 = .ok (.bipush 97, 2) := by decide +kernel
theorem dX11_isLetter_3 : decode cX11_isLetter 3 = .ok (.if_icmp .lt 13, 3) := by decide +kernel
theorem dX11_isLetter_6 : decode cX11_isLetter 6 = .ok (.iload_n 0, 1) := by decide +kernel
theorem dX11_isLetter_7 : decode cX11_isLetter 7 = .ok (.bipush 122, 2) := by decide +kernel
theorem dX11_isLetter_9 : decode cX11_isLetter 9 = .ok (.if_icmp .gt 7, 3) := by decide +kernel
theorem dX11_isLetter_12 : decode cX11_isLetter 12 = .ok (.iconst 1, 1) := by decide +kernel
theorem dX11_isLetter_13 : decode cX11_isLetter 13 = .ok (.goto 4, 3) := by decide +kernel
theorem dX11_isLetter_16 : decode cX11_isLetter 16 = .ok (.iconst 0, 1) := by decide +kernel
theorem dX11_isLetter_17 : decode cX11_isLetter 17 = .ok (.ireturn, 1) := by decide +kernel
theorem dX11_isDigit_0 : decode cX11_isDigit 0 = .ok (.iload_n 0, 1) := by decide +kernel
theorem dX11_isDigit_1 : decode cX11_isDigit 1 = .ok (.bipush 48, 2) := by decide +kernel
theorem dX11_isDigit_3 : decode cX11_isDigit 3 = .ok (.if_icmp .lt 13, 3) := by decide +kernel
theorem dX11_isDigit_6 : decode cX11_isDigit 6 = .ok (.iload_n 0, 1) := by decide +kernel
theorem dX11_isDigit_7 : decode cX11_isDigit 7 = .ok (.bipush 57, 2) := by decide +kernel
theorem dX11_isDigit_9 : decode cX11_isDigit 9 = .ok (.if_icmp .gt 7, 3) := by decide +kernel
theorem dX11_isDigit_12 : decode cX11_isDigit 12 = .ok (.iconst 1, 1) := by decide +kernel
theorem dX11_isDigit_13 : decode cX11_isDigit 13 = .ok (.goto 4, 3) := by decide +kernel
theorem dX11_isDigit_16 : decode cX11_isDigit 16 = .ok (.iconst 0, 1) := by decide +kernel
theorem dX11_isDigit_17 : decode cX11_isDigit 17 = .ok (.ireturn, 1) := by decide +kernel
theorem dX11_rank_0 : decode cX11_rank 0 = .ok (.iload_n 0, 1) := by decide +kernel
theorem dX11_rank_1 : decode cX11_rank 1 = .ok (.invokestatic 140, 3) := by decide +kernel
theorem dX11_rank_4 : decode cX11_rank 4 = .ok (.ifCond .eq 10, 3) := by decide +kernel
theorem dX11_rank_7 : decode cX11_rank 7 = .ok (.iload_n 0, 1) := by decide +kernel
theorem dX11_rank_8 : decode cX11_rank 8 = .ok (.bipush 96, 2) := by decide +kernel
theorem dX11_rank_10 : decode cX11_rank 10 = .ok (.isub, 1) := by decide +kernel
theorem dX11_rank_11 : decode cX11_rank 11 = .ok (.goto 7, 3) := by decide +kernel
theorem dX11_rank_14 : decode cX11_rank 14 = .ok (.iload_n 0, 1) := by decide +kernel
theorem dX11_rank_15 : decode cX11_rank 15 = .ok (.bipush 21, 2) := by decide +kernel
theorem dX11_rank_17 : decode cX11_rank 17 = .ok (.isub, 1) := by decide +kernel
theorem dX11_rank_18 : decode cX11_rank 18 = .ok (.ireturn, 1) := by decide +kernel
theorem dX11_isSignOf_0 : decode cX11_isSignOf 0 = .ok (.iload_n 0, 1) := by decide +kernel
theorem dX11_isSignOf_1 : decode cX11_isSignOf 1 = .ok (.bipush 40, 2) := by decide +kernel
theorem dX11_isSignOf_3 : decode cX11_isSignOf 3 = .ok (.if_icmp .eq 45, 3) := by decide +kernel
theorem dX11_isSignOf_6 : decode cX11_isSignOf 6 = .ok (.iload_n 0, 1) := by decide +kernel
theorem dX11_isSignOf_7 : decode cX11_isSignOf 7 = .ok (.bipush 41, 2) := by decide +kernel
theorem dX11_isSignOf_9 : decode cX11_isSignOf 9 = .ok (.if_icmp .eq 39, 3) := by decide +kernel
theorem dX11_isSignOf_12 : decode cX11_isSignOf 12 = .ok (.iload_n 0, 1) := by decide +kernel
theorem dX11_isSignOf_13 : decode cX11_isSignOf 13 = .ok (.bipush 59, 2) := by decide +kernel
theorem dX11_isSignOf_15 : decode cX11_isSignOf 15 = .ok (.if_icmp .eq 33, 3) := by decide +kernel
theorem dX11_isSignOf_18 : decode cX11_isSignOf 18 = .ok (.iload_n 0, 1) := by decide +kernel
theorem dX11_isSignOf_19 : decode cX11_isSignOf 19 = .ok (.bipush 61, 2) := by decide +kernel
theorem dX11_isSignOf_21 : decode cX11_isSignOf 21 = .ok (.if_icmp .eq 27, 3) := by decide +kernel
theorem dX11_isSignOf_24 : decode cX11_isSignOf 24 = .ok (.iload_n 0, 1) := by decide +kernel
theorem dX11_isSignOf_25 : decode cX11_isSignOf 25 = .ok (.bipush 60, 2) := by decide +kernel
theorem dX11_isSignOf_27 : decode cX11_isSignOf 27 = .ok (.if_icmp .eq 21, 3) := by decide +kernel
theorem dX11_isSignOf_30 : decode cX11_isSignOf 30 = .ok (.iload_n 0, 1) := by decide +kernel
theorem dX11_isSignOf_31 : decode cX11_isSignOf 31 = .ok (.bipush 43, 2) := by decide +kernel
theorem dX11_isSignOf_33 : decode cX11_isSignOf 33 = .ok (.if_icmp .eq 15, 3) := by decide +kernel
theorem dX11_isSignOf_36 : decode cX11_isSignOf 36 = .ok (.iload_n 0, 1) := by decide +kernel
theorem dX11_isSignOf_37 : decode cX11_isSignOf 37 = .ok (.bipush 45, 2) := by decide +kernel
theorem dX11_isSignOf_39 : decode cX11_isSignOf 39 = .ok (.if_icmp .eq 9, 3) := by decide +kernel
theorem dX11_isSignOf_42 : decode cX11_isSignOf 42 = .ok (.iload_n 0, 1) := by decide +kernel
theorem dX11_isSignOf_43 : decode cX11_isSignOf 43 = .ok (.bipush 42, 2) := by decide +kernel
theorem dX11_isSignOf_45 : decode cX11_isSignOf 45 = .ok (.if_icmp .ne 7, 3) := by decide +kernel
theorem dX11_isSignOf_48 : decode cX11_isSignOf 48 = .ok (.iconst 1, 1) := by decide +kernel
theorem dX11_isSignOf_49 : decode cX11_isSignOf 49 = .ok (.goto 4, 3) := by decide +kernel
theorem dX11_isSignOf_52 : decode cX11_isSignOf 52 = .ok (.iconst 0, 1) := by decide +kernel
theorem dX11_isSignOf_53 : decode cX11_isSignOf 53 = .ok (.ireturn, 1) := by decide +kernel
theorem dX11_cutAll_0 : decode cX11_cutAll 0 = .ok (.aload_n 0, 1) := by decide +kernel
theorem dX11_cutAll_1 : decode cX11_cutAll 1 = .ok (.aload_n 0, 1) := by decide +kernel
theorem dX11_cutAll_2 : decode cX11_cutAll 2 = .ok (.getfield 11, 3) := by decide +kernel
theorem dX11_cutAll_5 : decode cX11_cutAll 5 = .ok (.putfield 144, 3) := by decide +kernel
theorem dX11_cutAll_8 : decode cX11_cutAll 8 = .ok (.aload_n 0, 1) := by decide +kernel
theorem dX11_cutAll_9 : decode cX11_cutAll 9 = .ok (.iconst 0, 1) := by decide +kernel
theorem dX11_cutAll_10 : decode cX11_cutAll 10 = .ok (.putfield 11, 3) := by decide +kernel
theorem dX11_cutAll_13 : decode cX11_cutAll 13 = .ok (.iconst 0, 1) := by decide +kernel
theorem dX11_cutAll_14 : decode cX11_cutAll 14 = .ok (.istore_n 1, 1) := by decide +kernel
theorem dX11_cutAll_15 : decode cX11_cutAll 15 = .ok (.iconst 0, 1) := by decide +kernel
theorem dX11_cutAll_16 : decode cX11_cutAll 16 = .ok (.istore_n 2, 1) := by decide +kernel
theorem dX11_cutAll_17 : decode cX11_cutAll 17 = .ok (.iload_n 2, 1) := by decide +kernel
theorem dX11_cutAll_18 : decode cX11_cutAll 18 = .ok (.aload_n 0, 1) := by decide +kernel
theorem dX11_cutAll_19 : decode cX11_cutAll 19 = .ok (.getfield 144, 3) := by decide +kernel
theorem dX11_cutAll_22 : decode cX11_cutAll 22 = .ok (.if_icmp .ge 257, 3) := by decide +kernel
theorem dX11_cutAll_25 : decode cX11_cutAll 25 = .ok (.aload_n 0, 1) := by decide +kernel
theorem dX11_cutAll_26 : decode cX11_cutAll 26 = .ok (.getfield 14, 3) := by decide +kernel
theorem dX11_cutAll_29 : decode cX11_cutAll 29 = .ok (.iload_n 2, 1) := by decide +kernel
theorem dX11_cutAll_30 : decode cX11_cutAll 30 = .ok (.iaload, 1) := by decide +kernel
theorem dX11_cutAll_31 : decode cX11_cutAll 31 = .ok (.istore_n 3, 1) := by decide +kernel
theorem dX11_cutAll_32 : decode cX11_cutAll 32 = .ok (.iload_n 3, 1) := by decide +kernel
theorem dX11_cutAll_33 : decode cX11_cutAll 33 = .ok (.bipush 10, 2) := by decide +kernel
theorem dX11_cutAll_35 : decode cX11_cutAll 35 = .ok (.if_icmp .eq 9, 3) := by decide +kernel
theorem dX11_cutAll_38 : decode cX11_cutAll 38 = .ok (.iload_n 3, 1) := by decide +kernel
theorem dX11_cutAll_39 : decode cX11_cutAll 39 = .ok (.bipush 32, 2) := by decide +kernel
theorem dX11_cutAll_41 : decode cX11_cutAll 41 = .ok (.if_icmp .ne 9, 3) := by decide +kernel
theorem dX11_cutAll_44 : decode cX11_cutAll 44 = .ok (.iinc 2 1, 3) := by decide +kernel
theorem dX11_cutAll_47 : decode cX11_cutAll 47 = .ok (.goto (-30), 3) := by decide +kernel
theorem dX11_cutAll_50 : decode cX11_cutAll 50 = .ok (.iload_n 2, 1) := by decide +kernel
theorem dX11_cutAll_51 : decode cX11_cutAll 51 = .ok (.istore 4, 2) := by decide +kernel
theorem dX11_cutAll_53 : decode cX11_cutAll 53 = .ok (.lconst 0, 1) := by decide +kernel
theorem dX11_cutAll_54 : decode cX11_cutAll 54 = .ok (.lstore 5, 2) := by decide +kernel
theorem dX11_cutAll_56 : decode cX11_cutAll 56 = .ok (.aload_n 0, 1) := by decide +kernel
theorem dX11_cutAll_57 : decode cX11_cutAll 57 = .ok (.getfield 27, 3) := by decide +kernel
theorem dX11_cutAll_60 : decode cX11_cutAll 60 = .ok (.iload_n 1, 1) := by decide +kernel
theorem dX11_cutAll_61 : decode cX11_cutAll 61 = .ok (.iload_n 2, 1) := by decide +kernel
theorem dX11_cutAll_62 : decode cX11_cutAll 62 = .ok (.iastore, 1) := by decide +kernel
theorem dX11_cutAll_63 : decode cX11_cutAll 63 = .ok (.iload_n 3, 1) := by decide +kernel
theorem dX11_cutAll_64 : decode cX11_cutAll 64 = .ok (.invokestatic 140, 3) := by decide +kernel
theorem dX11_cutAll_67 : decode cX11_cutAll 67 = .ok (.ifCond .eq 85, 3) := by decide +kernel
theorem dX11_cutAll_70 : decode cX11_cutAll 70 = .ok (.iload_n 2, 1) := by decide +kernel
theorem dX11_cutAll_71 : decode cX11_cutAll 71 = .ok (.aload_n 0, 1) := by decide +kernel
theorem dX11_cutAll_72 : decode cX11_cutAll 72 = .ok (.getfield 144, 3) := by decide +kernel
theorem dX11_cutAll_75 : decode cX11_cutAll 75 = .ok (.if_icmp .ge 54, 3) := by decide +kernel
theorem dX11_cutAll_78 : decode cX11_cutAll 78 = .ok (.aload_n 0, 1) := by decide +kernel
theorem dX11_cutAll_79 : decode cX11_cutAll 79 = .ok (.getfield 14, 3) := by decide +kernel
theorem dX11_cutAll_82 : decode cX11_cutAll 82 = .ok (.iload_n 2, 1) := by decide +kernel
theorem dX11_cutAll_83 : decode cX11_cutAll 83 = .ok (.iaload, 1) := by decide +kernel
theorem dX11_cutAll_84 : decode cX11_cutAll 84 = .ok (.invokestatic 140, 3) := by decide +kernel
theorem dX11_cutAll_87 : decode cX11_cutAll 87 = .ok (.ifCond .eq 42, 3) := by decide +kernel
theorem dX11_cutAll_90 : decode cX11_cutAll 90 = .ok (.iload_n 2, 1) := by decide +kernel
theorem dX11_cutAll_91 : decode cX11_cutAll 91 = .ok (.iload 4, 2) := by decide +kernel
theorem dX11_cutAll_93 : decode cX11_cutAll 93 = .ok (.isub, 1) := by decide +kernel
theorem dX11_cutAll_94 : decode cX11_cutAll 94 = .ok (.bipush 8, 2) := by decide +kernel
theorem dX11_cutAll_96 : decode cX11_cutAll 96 = .ok (.if_icmp .ge 23, 3) := by decide +kernel
theorem dX11_cutAll_99 : decode cX11_cutAll 99 = .ok (.ldc2_w 147, 3) := by decide +kernel
theorem dX11_cutAll_102 : decode cX11_cutAll 102 = .ok (.lload 5, 2) := by decide +kernel
theorem dX11_cutAll_104 : decode cX11_cutAll 104 = .ok (.lmul, 1) := by decide +kernel
theorem dX11_cutAll_105 : decode cX11_cutAll 105 = .ok (.aload_n 0, 1) := by decide +kernel
theorem dX11_cutAll_106 : decode cX11_cutAll 106 = .ok (.getfield 14, 3) := by decide +kernel
theorem dX11_cutAll_109 : decode cX11_cutAll 109 = .ok (.iload_n 2, 1) := by decide +kernel
theorem dX11_cutAll_110 : decode cX11_cutAll 110 = .ok (.iaload, 1) := by decide +kernel
theorem dX11_cutAll_111 : decode cX11_cutAll 111 = .ok (.invokestatic 149, 3) := by decide +kernel
theorem dX11_cutAll_114 : decode cX11_cutAll 114 = .ok (.i2l, 1) := by decide +kernel
theorem dX11_cutAll_115 : decode cX11_cutAll 115 = .ok (.ladd, 1) := by decide +kernel
theorem dX11_cutAll_116 : decode cX11_cutAll 116 = .ok (.goto 5, 3) := by decide +kernel
theorem dX11_cutAll_119 : decode cX11_cutAll 119 = .ok (.lload 5, 2) := by decide +kernel
theorem dX11_cutAll_121 : decode cX11_cutAll 121 = .ok (.lstore 5, 2) := by decide +kernel
theorem dX11_cutAll_123 : decode cX11_cutAll 123 = .ok (.iinc 2 1, 3) := by decide +kernel
theorem dX11_cutAll_126 : decode cX11_cutAll 126 = .ok (.goto (-56), 3) := by decide +kernel
theorem dX11_cutAll_129 : decode cX11_cutAll 129 = .ok (.aload_n 0, 1) := by decide +kernel
theorem dX11_cutAll_130 : decode cX11_cutAll 130 = .ok (.getfield 24, 3) := by decide +kernel
theorem dX11_cutAll_133 : decode cX11_cutAll 133 = .ok (.iload_n 1, 1) := by decide +kernel
theorem dX11_cutAll_134 : decode cX11_cutAll 134 = .ok (.iload_n 2, 1) := by decide +kernel
theorem dX11_cutAll_135 : decode cX11_cutAll 135 = .ok (.iload 4, 2) := by decide +kernel
theorem dX11_cutAll_137 : decode cX11_cutAll 137 = .ok (.isub, 1) := by decide +kernel
theorem dX11_cutAll_138 : decode cX11_cutAll 138 = .ok (.bipush 8, 2) := by decide +kernel
theorem dX11_cutAll_140 : decode cX11_cutAll 140 = .ok (.if_icmp .le 7, 3) := by decide +kernel
theorem dX11_cutAll_143 : decode cX11_cutAll 143 = .ok (.iconst 4, 1) := by decide +kernel
theorem dX11_cutAll_144 : decode cX11_cutAll 144 = .ok (.goto 4, 3) := by decide +kernel
theorem dX11_cutAll_147 : decode cX11_cutAll 147 = .ok (.iconst 1, 1) := by decide +kernel
theorem dX11_cutAll_148 : decode cX11_cutAll 148 = .ok (.iastore, 1) := by decide +kernel
theorem dX11_cutAll_149 : decode cX11_cutAll 149 = .ok (.goto 116, 3) := by decide +kernel
theorem dX11_cutAll_152 : decode cX11_cutAll 152 = .ok (.iload_n 3, 1) := by decide +kernel
theorem dX11_cutAll_153 : decode cX11_cutAll 153 = .ok (.invokestatic 153, 3) := by decide +kernel
theorem dX11_cutAll_156 : decode cX11_cutAll 156 = .ok (.ifCond .eq 84, 3) := by decide +kernel
theorem dX11_cutAll_159 : decode cX11_cutAll 159 = .ok (.iload_n 2, 1) := by decide +kernel
theorem dX11_cutAll_160 : decode cX11_cutAll 160 = .ok (.aload_n 0, 1) := by decide +kernel
theorem dX11_cutAll_161 : decode cX11_cutAll 161 = .ok (.getfield 144, 3) := by decide +kernel
theorem dX11_cutAll_164 : decode cX11_cutAll 164 = .ok (.if_icmp .ge 54, 3) := by decide +kernel
theorem dX11_cutAll_167 : decode cX11_cutAll 167 = .ok (.aload_n 0, 1) := by decide +kernel
theorem dX11_cutAll_168 : decode cX11_cutAll 168 = .ok (.getfield 14, 3) := by decide +kernel
theorem dX11_cutAll_171 : decode cX11_cutAll 171 = .ok (.iload_n 2, 1) := by decide +kernel
theorem dX11_cutAll_172 : decode cX11_cutAll 172 = .ok (.iaload, 1) := by decide +kernel
theorem dX11_cutAll_173 : decode cX11_cutAll 173 = .ok (.invokestatic 153, 3) := by decide +kernel
theorem dX11_cutAll_176 : decode cX11_cutAll 176 = .ok (.ifCond .eq 42, 3) := by decide +kernel
theorem dX11_cutAll_179 : decode cX11_cutAll 179 = .ok (.iload_n 2, 1) := by decide +kernel
theorem dX11_cutAll_180 : decode cX11_cutAll 180 = .ok (.iload 4, 2) := by decide +kernel
theorem dX11_cutAll_182 : decode cX11_cutAll 182 = .ok (.isub, 1) := by decide +kernel
theorem dX11_cutAll_183 : decode cX11_cutAll 183 = .ok (.iconst 4, 1) := by decide +kernel
theorem dX11_cutAll_184 : decode cX11_cutAll 184 = .ok (.if_icmp .ge 24, 3) := by decide +kernel
theorem dX11_cutAll_187 : decode cX11_cutAll 187 = .ok (.ldc2_w 156, 3) := by decide +kernel
theorem dX11_cutAll_190 : decode cX11_cutAll 190 = .ok (.lload 5, 2) := by decide +kernel
theorem dX11_cutAll_192 : decode cX11_cutAll 192 = .ok (.lmul, 1) := by decide +kernel
theorem dX11_cutAll_193 : decode cX11_cutAll 193 = .ok (.aload_n 0, 1) := by decide +kernel
theorem dX11_cutAll_194 : decode cX11_cutAll 194 = .ok (.getfield 14, 3) := by decide +kernel
theorem dX11_cutAll_197 : decode cX11_cutAll 197 = .ok (.iload_n 2, 1) := by decide +kernel
theorem dX11_cutAll_198 : decode cX11_cutAll 198 = .ok (.iaload, 1) := by decide +kernel
theorem dX11_cutAll_199 : decode cX11_cutAll 199 = .ok (.i2l, 1) := by decide +kernel
theorem dX11_cutAll_200 : decode cX11_cutAll 200 = .ok (.ladd, 1) := by decide +kernel
theorem dX11_cutAll_201 : decode cX11_cutAll 201 = .ok (.ldc2_w 158, 3) := by decide +kernel
theorem dX11_cutAll_204 : decode cX11_cutAll 204 = .ok (.lsub, 1) := by decide +kernel
theorem dX11_cutAll_205 : decode cX11_cutAll 205 = .ok (.goto 5, 3) := by decide +kernel
theorem dX11_cutAll_208 : decode cX11_cutAll 208 = .ok (.lload 5, 2) := by decide +kernel
theorem dX11_cutAll_210 : decode cX11_cutAll 210 = .ok (.lstore 5, 2) := by decide +kernel
theorem dX11_cutAll_212 : decode cX11_cutAll 212 = .ok (.iinc 2 1, 3) := by decide +kernel
theorem dX11_cutAll_215 : decode cX11_cutAll 215 = .ok (.goto (-56), 3) := by decide +kernel
theorem dX11_cutAll_218 : decode cX11_cutAll 218 = .ok (.aload_n 0, 1) := by decide +kernel
theorem dX11_cutAll_219 : decode cX11_cutAll 219 = .ok (.getfield 24, 3) := by decide +kernel
theorem dX11_cutAll_222 : decode cX11_cutAll 222 = .ok (.iload_n 1, 1) := by decide +kernel
theorem dX11_cutAll_223 : decode cX11_cutAll 223 = .ok (.iload_n 2, 1) := by decide +kernel
theorem dX11_cutAll_224 : decode cX11_cutAll 224 = .ok (.iload 4, 2) := by decide +kernel
theorem dX11_cutAll_226 : decode cX11_cutAll 226 = .ok (.isub, 1) := by decide +kernel
theorem dX11_cutAll_227 : decode cX11_cutAll 227 = .ok (.iconst 4, 1) := by decide +kernel
theorem dX11_cutAll_228 : decode cX11_cutAll 228 = .ok (.if_icmp .le 7, 3) := by decide +kernel
theorem dX11_cutAll_231 : decode cX11_cutAll 231 = .ok (.iconst 4, 1) := by decide +kernel
theorem dX11_cutAll_232 : decode cX11_cutAll 232 = .ok (.goto 4, 3) := by decide +kernel
theorem dX11_cutAll_235 : decode cX11_cutAll 235 = .ok (.iconst 2, 1) := by decide +kernel
theorem dX11_cutAll_236 : decode cX11_cutAll 236 = .ok (.iastore, 1) := by decide +kernel
theorem dX11_cutAll_237 : decode cX11_cutAll 237 = .ok (.goto 28, 3) := by decide +kernel
theorem dX11_cutAll_240 : decode cX11_cutAll 240 = .ok (.iload_n 3, 1) := by decide +kernel
theorem dX11_cutAll_241 : decode cX11_cutAll 241 = .ok (.i2l, 1) := by decide +kernel
theorem dX11_cutAll_242 : decode cX11_cutAll 242 = .ok (.lstore 5, 2) := by decide +kernel
theorem dX11_cutAll_244 : decode cX11_cutAll 244 = .ok (.aload_n 0, 1) := by decide +kernel
theorem dX11_cutAll_245 : decode cX11_cutAll 245 = .ok (.getfield 24, 3) := by decide +kernel
theorem dX11_cutAll_248 : decode cX11_cutAll 248 = .ok (.iload_n 1, 1) := by decide +kernel
theorem dX11_cutAll_249 : decode cX11_cutAll 249 = .ok (.iload_n 3, 1) := by decide +kernel
theorem dX11_cutAll_250 : decode cX11_cutAll 250 = .ok (.invokestatic 160, 3) := by decide +kernel
theorem dX11_cutAll_253 : decode cX11_cutAll 253 = .ok (.ifCond .eq 7, 3) := by decide +kernel
theorem dX11_cutAll_256 : decode cX11_cutAll 256 = .ok (.iconst 3, 1) := by decide +kernel
theorem dX11_cutAll_257 : decode cX11_cutAll 257 = .ok (.goto 4, 3) := by decide +kernel
theorem dX11_cutAll_260 : decode cX11_cutAll 260 = .ok (.iconst 4, 1) := by decide +kernel
theorem dX11_cutAll_261 : decode cX11_cutAll 261 = .ok (.iastore, 1) := by decide +kernel
theorem dX11_cutAll_262 : decode cX11_cutAll 262 = .ok (.iinc 2 1, 3) := by decide +kernel
theorem dX11_cutAll_265 : decode cX11_cutAll 265 = .ok (.aload_n 0, 1) := by decide +kernel
theorem dX11_cutAll_266 : decode cX11_cutAll 266 = .ok (.getfield 30, 3) := by decide +kernel
theorem dX11_cutAll_269 : decode cX11_cutAll 269 = .ok (.iload_n 1, 1) := by decide +kernel
theorem dX11_cutAll_270 : decode cX11_cutAll 270 = .ok (.lload 5, 2) := by decide +kernel
theorem dX11_cutAll_272 : decode cX11_cutAll 272 = .ok (.lastore, 1) := by decide +kernel
theorem dX11_cutAll_273 : decode cX11_cutAll 273 = .ok (.iinc 1 1, 3) := by decide +kernel
theorem dX11_cutAll_276 : decode cX11_cutAll 276 = .ok (.goto (-259), 3) := by decide +kernel
theorem dX11_cutAll_279 : decode cX11_cutAll 279 = .ok (.aload_n 0, 1) := by decide +kernel
theorem dX11_cutAll_280 : decode cX11_cutAll 280 = .ok (.getfield 24, 3) := by decide +kernel
theorem dX11_cutAll_283 : decode cX11_cutAll 283 = .ok (.iload_n 1, 1) := by decide +kernel
theorem dX11_cutAll_284 : decode cX11_cutAll 284 = .ok (.iconst 0, 1) := by decide +kernel
theorem dX11_cutAll_285 : decode cX11_cutAll 285 = .ok (.iastore, 1) := by decide +kernel
theorem dX11_cutAll_286 : decode cX11_cutAll 286 = .ok (.aload_n 0, 1) := by decide +kernel
theorem dX11_cutAll_287 : decode cX11_cutAll 287 = .ok (.getfield 27, 3) := by decide +kernel
theorem dX11_cutAll_290 : decode cX11_cutAll 290 = .ok (.iload_n 1, 1) := by decide +kernel
theorem dX11_cutAll_291 : decode cX11_cutAll 291 = .ok (.aload_n 0, 1) := by decide +kernel
theorem dX11_cutAll_292 : decode cX11_cutAll 292 = .ok (.getfield 144, 3) := by decide +kernel
theorem dX11_cutAll_295 : decode cX11_cutAll 295 = .ok (.iastore, 1) := by decide +kernel
theorem dX11_cutAll_296 : decode cX11_cutAll 296 = .ok (.aload_n 0, 1) := by decide +kernel
theorem dX11_cutAll_297 : decode cX11_cutAll 297 = .ok (.iconst 0, 1) := by decide +kernel
theorem dX11_cutAll_298 : decode cX11_cutAll 298 = .ok (.putfield 163, 3) := by decide +kernel
theorem dX11_cutAll_301 : decode cX11_cutAll 301 = .ok (.aload_n 0, 1) := by decide +kernel
theorem dX11_cutAll_302 : decode cX11_cutAll 302 = .ok (.iconst 0, 1) := by decide +kernel
theorem dX11_cutAll_303 : decode cX11_cutAll 303 = .ok (.putfield 166, 3) := by decide +kernel
theorem dX11_cutAll_306 : decode cX11_cutAll 306 = .ok (.return_, 1) := by decide +kernel
theorem dX11_wrong_0 : decode cX11_wrong 0 = .ok (.aload_n 0, 1) := by decide +kernel
theorem dX11_wrong_1 : decode cX11_wrong 1 = .ok (.getfield 166, 3) := by decide +kernel
theorem dX11_wrong_4 : decode cX11_wrong 4 = .ok (.ifCond .ne 21, 3) := by decide +kernel
theorem dX11_wrong_7 : decode cX11_wrong 7 = .ok (.aload_n 0, 1) := by decide +kernel
theorem dX11_wrong_8 : decode cX11_wrong 8 = .ok (.iload_n 1, 1) := by decide +kernel
theorem dX11_wrong_9 : decode cX11_wrong 9 = .ok (.bipush 16, 2) := by decide +kernel
theorem dX11_wrong_11 : decode cX11_wrong 11 = .ok (.aload_n 0, 1) := by decide +kernel
theorem dX11_wrong_12 : decode cX11_wrong 12 = .ok (.getfield 27, 3) := by decide +kernel
theorem dX11_wrong_15 : decode cX11_wrong 15 = .ok (.aload_n 0, 1) := by decide +kernel
theorem dX11_wrong_16 : decode cX11_wrong 16 = .ok (.getfield 163, 3) := by decide +kernel
theorem dX11_wrong_19 : decode cX11_wrong 19 = .ok (.iaload, 1) := by decide +kernel
theorem dX11_wrong_20 : decode cX11_wrong 20 = .ok (.imul, 1) := by decide +kernel
theorem dX11_wrong_21 : decode cX11_wrong 21 = .ok (.iadd, 1) := by decide +kernel
theorem dX11_wrong_22 : decode cX11_wrong 22 = .ok (.putfield 166, 3) := by decide +kernel
theorem dX11_wrong_25 : decode cX11_wrong 25 = .ok (.return_, 1) := by decide +kernel
theorem dX11_isSign_0 : decode cX11_isSign 0 = .ok (.aload_n 0, 1) := by decide +kernel
theorem dX11_isSign_1 : decode cX11_isSign 1 = .ok (.getfield 166, 3) := by decide +kernel
theorem dX11_isSign_4 : decode cX11_isSign 4 = .ok (.ifCond .ne 35, 3) := by decide +kernel
theorem dX11_isSign_7 : decode cX11_isSign 7 = .ok (.aload_n 0, 1) := by decide +kernel
theorem dX11_isSign_8 : decode cX11_isSign 8 = .ok (.getfield 24, 3) := by decide +kernel
theorem dX11_isSign_11 : decode cX11_isSign 11 = .ok (.aload_n 0, 1) := by decide +kernel
theorem dX11_isSign_12 : decode cX11_isSign 12 = .ok (.getfield 163, 3) := by decide +kernel
theorem dX11_isSign_15 : decode cX11_isSign 15 = .ok (.iaload, 1) := by decide +kernel
theorem dX11_isSign_16 : decode cX11_isSign 16 = .ok (.iconst 3, 1) := by decide +kernel
theorem dX11_isSign_17 : decode cX11_isSign 17 = .ok (.if_icmp .ne 22, 3) := by decide +kernel
theorem dX11_isSign_20 : decode cX11_isSign 20 = .ok (.aload_n 0, 1) := by decide +kernel
theorem dX11_isSign_21 : decode cX11_isSign 21 = .ok (.getfield 30, 3) := by decide +kernel
theorem dX11_isSign_24 : decode cX11_isSign 24 = .ok (.aload_n 0, 1) := by decide +kernel
theorem dX11_isSign_25 : decode cX11_isSign 25 = .ok (.getfield 163, 3) := by decide +kernel
theorem dX11_isSign_28 : decode cX11_isSign 28 = .ok (.laload, 1) := by decide +kernel
theorem dX11_isSign_29 : decode cX11_isSign 29 = .ok (.iload_n 1, 1) := by decide +kernel
theorem dX11_isSign_30 : decode cX11_isSign 30 = .ok (.i2l, 1) := by decide +kernel
theorem dX11_isSign_31 : decode cX11_isSign 31 = .ok (.lcmp, 1) := by decide +kernel
theorem dX11_isSign_32 : decode cX11_isSign 32 = .ok (.ifCond .ne 7, 3) := by decide +kernel
theorem dX11_isSign_35 : decode cX11_isSign 35 = .ok (.iconst 1, 1) := by decide +kernel
theorem dX11_isSign_36 : decode cX11_isSign 36 = .ok (.goto 4, 3) := by decide +kernel
theorem dX11_isSign_39 : decode cX11_isSign 39 = .ok (.iconst 0, 1) := by decide +kernel
theorem dX11_isSign_40 : decode cX11_isSign 40 = .ok (.ireturn, 1) := by decide +kernel
theorem dX11_isWord_0 : decode cX11_isWord 0 = .ok (.aload_n 0, 1) := by decide +kernel
theorem dX11_isWord_1 : decode cX11_isWord 1 = .ok (.getfield 166, 3) := by decide +kernel
theorem dX11_isWord_4 : decode cX11_isWord 4 = .ok (.ifCond .ne 39, 3) := by decide +kernel
theorem dX11_isWord_7 : decode cX11_isWord 7 = .ok (.aload_n 0, 1) := by decide +kernel
theorem dX11_isWord_8 : decode cX11_isWord 8 = .ok (.getfield 24, 3) := by decide +kernel
theorem dX11_isWord_11 : decode cX11_isWord 11 = .ok (.aload_n 0, 1) := by decide +kernel
theorem dX11_isWord_12 : decode cX11_isWord 12 = .ok (.getfield 163, 3) := by decide +kernel
theorem dX11_isWord_15 : decode cX11_isWord 15 = .ok (.iaload, 1) := by decide +kernel
theorem dX11_isWord_16 : decode cX11_isWord 16 = .ok (.iconst 1, 1) := by decide +kernel
theorem dX11_isWord_17 : decode cX11_isWord 17 = .ok (.if_icmp .ne 26, 3) := by decide +kernel
theorem dX11_isWord_20 : decode cX11_isWord 20 = .ok (.aload_n 0, 1) := by decide +kernel
theorem dX11_isWord_21 : decode cX11_isWord 21 = .ok (.getfield 30, 3) := by decide +kernel
theorem dX11_isWord_24 : decode cX11_isWord 24 = .ok (.aload_n 0, 1) := by decide +kernel
theorem dX11_isWord_25 : decode cX11_isWord 25 = .ok (.getfield 163, 3) := by decide +kernel
theorem dX11_isWord_28 : decode cX11_isWord 28 = .ok (.laload, 1) := by decide +kernel
theorem dX11_isWord_29 : decode cX11_isWord 29 = .ok (.aload_n 0, 1) := by decide +kernel
theorem dX11_isWord_30 : decode cX11_isWord 30 = .ok (.getfield 90, 3) := by decide +kernel
theorem dX11_isWord_33 : decode cX11_isWord 33 = .ok (.iload_n 1, 1) := by decide +kernel
theorem dX11_isWord_34 : decode cX11_isWord 34 = .ok (.laload, 1) := by decide +kernel
theorem dX11_isWord_35 : decode cX11_isWord 35 = .ok (.lcmp, 1) := by decide +kernel
theorem dX11_isWord_36 : decode cX11_isWord 36 = .ok (.ifCond .ne 7, 3) := by decide +kernel
theorem dX11_isWord_39 : decode cX11_isWord 39 = .ok (.iconst 1, 1) := by decide +kernel
theorem dX11_isWord_40 : decode cX11_isWord 40 = .ok (.goto 4, 3) := by decide +kernel
theorem dX11_isWord_43 : decode cX11_isWord 43 = .ok (.iconst 0, 1) := by decide +kernel
theorem dX11_isWord_44 : decode cX11_isWord 44 = .ok (.ireturn, 1) := by decide +kernel
theorem dX11_takeSign_0 : decode cX11_takeSign 0 = .ok (.aload_n 0, 1) := by decide +kernel
theorem dX11_takeSign_1 : decode cX11_takeSign 1 = .ok (.iload_n 1, 1) := by decide +kernel
theorem dX11_takeSign_2 : decode cX11_takeSign 2 = .ok (.invokevirtual 169, 3) := by decide +kernel
theorem dX11_takeSign_5 : decode cX11_takeSign 5 = .ok (.ifCond .eq 16, 3) := by decide +kernel
theorem dX11_takeSign_8 : decode cX11_takeSign 8 = .ok (.aload_n 0, 1) := by decide +kernel
theorem dX11_takeSign_9 : decode cX11_takeSign 9 = .ok (.dup, 1) := by decide +kernel
theorem dX11_takeSign_10 : decode cX11_takeSign 10 = .ok (.getfield 163, 3) := by decide +kernel
theorem dX11_takeSign_13 : decode cX11_takeSign 13 = .ok (.iconst 1, 1) := by decide +kernel
theorem dX11_takeSign_14 : decode cX11_takeSign 14 = .ok (.iadd, 1) := by decide +kernel
theorem dX11_takeSign_15 : decode cX11_takeSign 15 = .ok (.putfield 163, 3) := by decide +kernel
theorem dX11_takeSign_18 : decode cX11_takeSign 18 = .ok (.goto 8, 3) := by decide +kernel
theorem dX11_takeSign_21 : decode cX11_takeSign 21 = .ok (.aload_n 0, 1) := by decide +kernel
theorem dX11_takeSign_22 : decode cX11_takeSign 22 = .ok (.iconst 1, 1) := by decide +kernel
theorem dX11_takeSign_23 : decode cX11_takeSign 23 = .ok (.invokevirtual 172, 3) := by decide +kernel
theorem dX11_takeSign_26 : decode cX11_takeSign 26 = .ok (.return_, 1) := by decide +kernel
theorem dX11_hasSign_0 : decode cX11_hasSign 0 = .ok (.aload_n 0, 1) := by decide +kernel
theorem dX11_hasSign_1 : decode cX11_hasSign 1 = .ok (.iload_n 1, 1) := by decide +kernel
theorem dX11_hasSign_2 : decode cX11_hasSign 2 = .ok (.invokevirtual 169, 3) := by decide +kernel
theorem dX11_hasSign_5 : decode cX11_hasSign 5 = .ok (.istore_n 2, 1) := by decide +kernel
theorem dX11_hasSign_6 : decode cX11_hasSign 6 = .ok (.aload_n 0, 1) := by decide +kernel
theorem dX11_hasSign_7 : decode cX11_hasSign 7 = .ok (.dup, 1) := by decide +kernel
theorem dX11_hasSign_8 : decode cX11_hasSign 8 = .ok (.getfield 163, 3) := by decide +kernel
theorem dX11_hasSign_11 : decode cX11_hasSign 11 = .ok (.iload_n 2, 1) := by decide +kernel
theorem dX11_hasSign_12 : decode cX11_hasSign 12 = .ok (.ifCond .eq 7, 3) := by decide +kernel
theorem dX11_hasSign_15 : decode cX11_hasSign 15 = .ok (.iconst 1, 1) := by decide +kernel
theorem dX11_hasSign_16 : decode cX11_hasSign 16 = .ok (.goto 4, 3) := by decide +kernel
theorem dX11_hasSign_19 : decode cX11_hasSign 19 = .ok (.iconst 0, 1) := by decide +kernel
theorem dX11_hasSign_20 : decode cX11_hasSign 20 = .ok (.iadd, 1) := by decide +kernel
theorem dX11_hasSign_21 : decode cX11_hasSign 21 = .ok (.putfield 163, 3) := by decide +kernel
theorem dX11_hasSign_24 : decode cX11_hasSign 24 = .ok (.iload_n 2, 1) := by decide +kernel
theorem dX11_hasSign_25 : decode cX11_hasSign 25 = .ok (.ireturn, 1) := by decide +kernel
theorem dX11_hasWord_0 : decode cX11_hasWord 0 = .ok (.aload_n 0, 1) := by decide +kernel
theorem dX11_hasWord_1 : decode cX11_hasWord 1 = .ok (.iload_n 1, 1) := by decide +kernel
theorem dX11_hasWord_2 : decode cX11_hasWord 2 = .ok (.invokevirtual 175, 3) := by decide +kernel
theorem dX11_hasWord_5 : decode cX11_hasWord 5 = .ok (.istore_n 2, 1) := by decide +kernel
theorem dX11_hasWord_6 : decode cX11_hasWord 6 = .ok (.aload_n 0, 1) := by decide +kernel
theorem dX11_hasWord_7 : decode cX11_hasWord 7 = .ok (.dup, 1) := by decide +kernel
theorem dX11_hasWord_8 : decode cX11_hasWord 8 = .ok (.getfield 163, 3) := by decide +kernel
theorem dX11_hasWord_11 : decode cX11_hasWord 11 = .ok (.iload_n 2, 1) := by decide +kernel
theorem dX11_hasWord_12 : decode cX11_hasWord 12 = .ok (.ifCond .eq 7, 3) := by decide +kernel
theorem dX11_hasWord_15 : decode cX11_hasWord 15 = .ok (.iconst 1, 1) := by decide +kernel
theorem dX11_hasWord_16 : decode cX11_hasWord 16 = .ok (.goto 4, 3) := by decide +kernel
theorem dX11_hasWord_19 : decode cX11_hasWord 19 = .ok (.iconst 0, 1) := by decide +kernel
theorem dX11_hasWord_20 : decode cX11_hasWord 20 = .ok (.iadd, 1) := by decide +kernel
theorem dX11_hasWord_21 : decode cX11_hasWord 21 = .ok (.putfield 163, 3) := by decide +kernel
theorem dX11_hasWord_24 : decode cX11_hasWord 24 = .ok (.iload_n 2, 1) := by decide +kernel
theorem dX11_hasWord_25 : decode cX11_hasWord 25 = .ok (.ireturn, 1) := by decide +kernel
theorem dX11_takeWord_0 : decode cX11_takeWord 0 = .ok (.aload_n 0, 1) := by decide +kernel
theorem dX11_takeWord_1 : decode cX11_takeWord 1 = .ok (.iload_n 1, 1) := by decide +kernel
theorem dX11_takeWord_2 : decode cX11_takeWord 2 = .ok (.invokevirtual 178, 3) := by decide +kernel
theorem dX11_takeWord_5 : decode cX11_takeWord 5 = .ok (.ifCond .ne 8, 3) := by decide +kernel
theorem dX11_takeWord_8 : decode cX11_takeWord 8 = .ok (.aload_n 0, 1) := by decide +kernel
theorem dX11_takeWord_9 : decode cX11_takeWord 9 = .ok (.iconst 1, 1) := by decide +kernel
theorem dX11_takeWord_10 : decode cX11_takeWord 10 = .ok (.invokevirtual 172, 3) := by decide +kernel
theorem dX11_takeWord_13 : decode cX11_takeWord 13 = .ok (.return_, 1) := by decide +kernel
theorem dX11_within_0 : decode cX11_within 0 = .ok (.iload_n 0, 1) := by decide +kernel
theorem dX11_within_1 : decode cX11_within 1 = .ok (.iload_n 1, 1) := by decide +kernel
theorem dX11_within_2 : decode cX11_within 2 = .ok (.if_icmp .lt 12, 3) := by decide +kernel
theorem dX11_within_5 : decode cX11_within 5 = .ok (.iload_n 0, 1) := by decide +kernel
theorem dX11_within_6 : decode cX11_within 6 = .ok (.iload_n 2, 1) := by decide +kernel
theorem dX11_within_7 : decode cX11_within 7 = .ok (.if_icmp .gt 7, 3) := by decide +kernel
theorem dX11_within_10 : decode cX11_within 10 = .ok (.iconst 1, 1) := by decide +kernel
theorem dX11_within_11 : decode cX11_within 11 = .ok (.goto 4, 3) := by decide +kernel
theorem dX11_within_14 : decode cX11_within 14 = .ok (.iconst 0, 1) := by decide +kernel
theorem dX11_within_15 : decode cX11_within 15 = .ok (.ireturn, 1) := by decide +kernel
theorem dX11_standsAsAlways_0 : decode cX11_standsAsAlways 0 = .ok (.iconst 0, 1) := by decide +kernel
theorem dX11_standsAsAlways_1 : decode cX11_standsAsAlways 1 = .ok (.istore_n 2, 1) := by decide +kernel
theorem dX11_standsAsAlways_2 : decode cX11_standsAsAlways 2 = .ok (.iload_n 2, 1) := by decide +kernel
theorem dX11_standsAsAlways_3 : decode cX11_standsAsAlways 3 = .ok (.bipush 70, 2) := by decide +kernel
theorem dX11_standsAsAlways_5 : decode cX11_standsAsAlways 5 = .ok (.if_icmp .ge 18, 3) := by decide +kernel
theorem dX11_standsAsAlways_8 : decode cX11_standsAsAlways 8 = .ok (.aload_n 0, 1) := by decide +kernel
theorem dX11_standsAsAlways_9 : decode cX11_standsAsAlways 9 = .ok (.getfield 93, 3) := by decide +kernel
theorem dX11_standsAsAlways_12 : decode cX11_standsAsAlways 12 = .ok (.iload_n 1, 1) := by decide +kernel
theorem dX11_standsAsAlways_13 : decode cX11_standsAsAlways 13 = .ok (.iload_n 2, 1) := by decide +kernel
theorem dX11_standsAsAlways_14 : decode cX11_standsAsAlways 14 = .ok (.iadd, 1) := by decide +kernel
theorem dX11_standsAsAlways_15 : decode cX11_standsAsAlways 15 = .ok (.iconst 0, 1) := by decide +kernel
theorem dX11_standsAsAlways_16 : decode cX11_standsAsAlways 16 = .ok (.iastore, 1) := by decide +kernel
theorem dX11_standsAsAlways_17 : decode cX11_standsAsAlways 17 = .ok (.iinc 2 1, 3) := by decide +kernel
theorem dX11_standsAsAlways_20 : decode cX11_standsAsAlways 20 = .ok (.goto (-18), 3) := by decide +kernel
theorem dX11_standsAsAlways_23 : decode cX11_standsAsAlways 23 = .ok (.aload_n 0, 1) := by decide +kernel
theorem dX11_standsAsAlways_24 : decode cX11_standsAsAlways 24 = .ok (.getfield 93, 3) := by decide +kernel
theorem dX11_standsAsAlways_27 : decode cX11_standsAsAlways 27 = .ok (.iload_n 1, 1) := by decide +kernel
theorem dX11_standsAsAlways_28 : decode cX11_standsAsAlways 28 = .ok (.iconst 3, 1) := by decide +kernel
theorem dX11_standsAsAlways_29 : decode cX11_standsAsAlways 29 = .ok (.iadd, 1) := by decide +kernel
theorem dX11_standsAsAlways_30 : decode cX11_standsAsAlways 30 = .ok (.iconst 1, 1) := by decide +kernel
theorem dX11_standsAsAlways_31 : decode cX11_standsAsAlways 31 = .ok (.iastore, 1) := by decide +kernel
theorem dX11_standsAsAlways_32 : decode cX11_standsAsAlways 32 = .ok (.aload_n 0, 1) := by decide +kernel
theorem dX11_standsAsAlways_33 : decode cX11_standsAsAlways 33 = .ok (.getfield 93, 3) := by decide +kernel
theorem dX11_standsAsAlways_36 : decode cX11_standsAsAlways 36 = .ok (.iload_n 1, 1) := by decide +kernel
theorem dX11_standsAsAlways_37 : decode cX11_standsAsAlways 37 = .ok (.iconst 4, 1) := by decide +kernel
theorem dX11_standsAsAlways_38 : decode cX11_standsAsAlways 38 = .ok (.iadd, 1) := by decide +kernel
theorem dX11_standsAsAlways_39 : decode cX11_standsAsAlways 39 = .ok (.iconst (-1), 1) := by decide +kernel
theorem dX11_standsAsAlways_40 : decode cX11_standsAsAlways 40 = .ok (.iastore, 1) := by decide +kernel
theorem dX11_standsAsAlways_41 : decode cX11_standsAsAlways 41 = .ok (.return_, 1) := by decide +kernel
theorem dX11_takeNumber_0 : decode cX11_takeNumber 0 = .ok (.aload_n 0, 1) := by decide +kernel
theorem dX11_takeNumber_1 : decode cX11_takeNumber 1 = .ok (.getfield 166, 3) := by decide +kernel
theorem dX11_takeNumber_4 : decode cX11_takeNumber 4 = .ok (.ifCond .ne 24, 3) := by decide +kernel
theorem dX11_takeNumber_7 : decode cX11_takeNumber 7 = .ok (.aload_n 0, 1) := by decide +kernel
theorem dX11_takeNumber_8 : decode cX11_takeNumber 8 = .ok (.getfield 24, 3) := by decide +kernel
theorem dX11_takeNumber_11 : decode cX11_takeNumber 11 = .ok (.aload_n 0, 1) := by decide +kernel
theorem dX11_takeNumber_12 : decode cX11_takeNumber 12 = .ok (.getfield 163, 3) := by decide +kernel
theorem dX11_takeNumber_15 : decode cX11_takeNumber 15 = .ok (.iaload, 1) := by decide +kernel
theorem dX11_takeNumber_16 : decode cX11_takeNumber 16 = .ok (.iconst 2, 1) := by decide +kernel
theorem dX11_takeNumber_17 : decode cX11_takeNumber 17 = .ok (.if_icmp .eq 11, 3) := by decide +kernel
theorem dX11_takeNumber_20 : decode cX11_takeNumber 20 = .ok (.aload_n 0, 1) := by decide +kernel
theorem dX11_takeNumber_21 : decode cX11_takeNumber 21 = .ok (.iconst 1, 1) := by decide +kernel
theorem dX11_takeNumber_22 : decode cX11_takeNumber 22 = .ok (.invokevirtual 172, 3) := by decide +kernel
theorem dX11_takeNumber_25 : decode cX11_takeNumber 25 = .ok (.goto 45, 3) := by decide +kernel
theorem dX11_takeNumber_28 : decode cX11_takeNumber 28 = .ok (.aload_n 0, 1) := by decide +kernel
theorem dX11_takeNumber_29 : decode cX11_takeNumber 29 = .ok (.getfield 166, 3) := by decide +kernel
theorem dX11_takeNumber_32 : decode cX11_takeNumber 32 = .ok (.ifCond .ne 38, 3) := by decide +kernel
theorem dX11_takeNumber_35 : decode cX11_takeNumber 35 = .ok (.aload_n 0, 1) := by decide +kernel
theorem dX11_takeNumber_36 : decode cX11_takeNumber 36 = .ok (.getfield 30, 3) := by decide +kernel
theorem dX11_takeNumber_39 : decode cX11_takeNumber 39 = .ok (.aload_n 0, 1) := by decide +kernel
theorem dX11_takeNumber_40 : decode cX11_takeNumber 40 = .ok (.getfield 163, 3) := by decide +kernel
theorem dX11_takeNumber_43 : decode cX11_takeNumber 43 = .ok (.laload, 1) := by decide +kernel
theorem dX11_takeNumber_44 : decode cX11_takeNumber 44 = .ok (.iload_n 1, 1) := by decide +kernel
theorem dX11_takeNumber_45 : decode cX11_takeNumber 45 = .ok (.i2l, 1) := by decide +kernel
theorem dX11_takeNumber_46 : decode cX11_takeNumber 46 = .ok (.lcmp, 1) := by decide +kernel
theorem dX11_takeNumber_47 : decode cX11_takeNumber 47 = .ok (.ifCond .lt 18, 3) := by decide +kernel
theorem dX11_takeNumber_50 : decode cX11_takeNumber 50 = .ok (.aload_n 0, 1) := by decide +kernel
theorem dX11_takeNumber_51 : decode cX11_takeNumber 51 = .ok (.getfield 30, 3) := by decide +kernel
theorem dX11_takeNumber_54 : decode cX11_takeNumber 54 = .ok (.aload_n 0, 1) := by decide +kernel
theorem dX11_takeNumber_55 : decode cX11_takeNumber 55 = .ok (.getfield 163, 3) := by decide +kernel
theorem dX11_takeNumber_58 : decode cX11_takeNumber 58 = .ok (.laload, 1) := by decide +kernel
theorem dX11_takeNumber_59 : decode cX11_takeNumber 59 = .ok (.iload_n 2, 1) := by decide +kernel
theorem dX11_takeNumber_60 : decode cX11_takeNumber 60 = .ok (.i2l, 1) := by decide +kernel
theorem dX11_takeNumber_61 : decode cX11_takeNumber 61 = .ok (.lcmp, 1) := by decide +kernel
theorem dX11_takeNumber_62 : decode cX11_takeNumber 62 = .ok (.ifCond .le 8, 3) := by decide +kernel
theorem dX11_takeNumber_65 : decode cX11_takeNumber 65 = .ok (.aload_n 0, 1) := by decide +kernel
theorem dX11_takeNumber_66 : decode cX11_takeNumber 66 = .ok (.iconst 4, 1) := by decide +kernel
theorem dX11_takeNumber_67 : decode cX11_takeNumber 67 = .ok (.invokevirtual 172, 3) := by decide +kernel
theorem dX11_takeNumber_70 : decode cX11_takeNumber 70 = .ok (.aload_n 0, 1) := by decide +kernel
theorem dX11_takeNumber_71 : decode cX11_takeNumber 71 = .ok (.getfield 166, 3) := by decide +kernel
theorem dX11_takeNumber_74 : decode cX11_takeNumber 74 = .ok (.ifCond .le 5, 3) := by decide +kernel
theorem dX11_takeNumber_77 : decode cX11_takeNumber 77 = .ok (.iconst 0, 1) := by decide +kernel
theorem dX11_takeNumber_78 : decode cX11_takeNumber 78 = .ok (.ireturn, 1) := by decide +kernel
theorem dX11_takeNumber_79 : decode cX11_takeNumber 79 = .ok (.aload_n 0, 1) := by decide +kernel
theorem dX11_takeNumber_80 : decode cX11_takeNumber 80 = .ok (.dup, 1) := by decide +kernel
theorem dX11_takeNumber_81 : decode cX11_takeNumber 81 = .ok (.getfield 163, 3) := by decide +kernel
theorem dX11_takeNumber_84 : decode cX11_takeNumber 84 = .ok (.iconst 1, 1) := by decide +kernel
theorem dX11_takeNumber_85 : decode cX11_takeNumber 85 = .ok (.iadd, 1) := by decide +kernel
theorem dX11_takeNumber_86 : decode cX11_takeNumber 86 = .ok (.putfield 163, 3) := by decide +kernel
theorem dX11_takeNumber_89 : decode cX11_takeNumber 89 = .ok (.aload_n 0, 1) := by decide +kernel
theorem dX11_takeNumber_90 : decode cX11_takeNumber 90 = .ok (.getfield 30, 3) := by decide +kernel
theorem dX11_takeNumber_93 : decode cX11_takeNumber 93 = .ok (.aload_n 0, 1) := by decide +kernel
theorem dX11_takeNumber_94 : decode cX11_takeNumber 94 = .ok (.getfield 163, 3) := by decide +kernel
theorem dX11_takeNumber_97 : decode cX11_takeNumber 97 = .ok (.iconst 1, 1) := by decide +kernel
theorem dX11_takeNumber_98 : decode cX11_takeNumber 98 = .ok (.isub, 1) := by decide +kernel
theorem dX11_takeNumber_99 : decode cX11_takeNumber 99 = .ok (.laload, 1) := by decide +kernel
theorem dX11_takeNumber_100 : decode cX11_takeNumber 100 = .ok (.l2i, 1) := by decide +kernel
theorem dX11_takeNumber_101 : decode cX11_takeNumber 101 = .ok (.ireturn, 1) := by decide +kernel
theorem dX11_takeAfter_0 : decode cX11_takeAfter 0 = .ok (.aload_n 0, 1) := by decide +kernel
theorem dX11_takeAfter_1 : decode cX11_takeAfter 1 = .ok (.iload_n 1, 1) := by decide +kernel
theorem dX11_takeAfter_2 : decode cX11_takeAfter 2 = .ok (.invokevirtual 181, 3) := by decide +kernel
theorem dX11_takeAfter_5 : decode cX11_takeAfter 5 = .ok (.aload_n 0, 1) := by decide +kernel
theorem dX11_takeAfter_6 : decode cX11_takeAfter 6 = .ok (.iload_n 2, 1) := by decide +kernel
theorem dX11_takeAfter_7 : decode cX11_takeAfter 7 = .ok (.iload_n 3, 1) := by decide +kernel
theorem dX11_takeAfter_8 : decode cX11_takeAfter 8 = .ok (.invokevirtual 184, 3) := by decide +kernel
theorem dX11_takeAfter_11 : decode cX11_takeAfter 11 = .ok (.ireturn, 1) := by decide +kernel
theorem dX11_wordHere_0 : decode cX11_wordHere 0 = .ok (.iconst (-1), 1) := by decide +kernel
theorem dX11_wordHere_1 : decode cX11_wordHere 1 = .ok (.istore_n 3, 1) := by decide +kernel
theorem dX11_wordHere_2 : decode cX11_wordHere 2 = .ok (.iconst 0, 1) := by decide +kernel
theorem dX11_wordHere_3 : decode cX11_wordHere 3 = .ok (.istore 4, 2) := by decide +kernel
theorem dX11_wordHere_5 : decode cX11_wordHere 5 = .ok (.iload 4, 2) := by decide +kernel
theorem dX11_wordHere_7 : decode cX11_wordHere 7 = .ok (.iload_n 2, 1) := by decide +kernel
theorem dX11_wordHere_8 : decode cX11_wordHere 8 = .ok (.if_icmp .ge 27, 3) := by decide +kernel
theorem dX11_wordHere_11 : decode cX11_wordHere 11 = .ok (.aload_n 0, 1) := by decide +kernel
theorem dX11_wordHere_12 : decode cX11_wordHere 12 = .ok (.iload_n 1, 1) := by decide +kernel
theorem dX11_wordHere_13 : decode cX11_wordHere 13 = .ok (.iload 4, 2) := by decide +kernel
theorem dX11_wordHere_15 : decode cX11_wordHere 15 = .ok (.iadd, 1) := by decide +kernel
theorem dX11_wordHere_16 : decode cX11_wordHere 16 = .ok (.invokevirtual 175, 3) := by decide +kernel
theorem dX11_wordHere_19 : decode cX11_wordHere 19 = .ok (.ifCond .eq 8, 3) := by decide +kernel
theorem dX11_wordHere_22 : decode cX11_wordHere 22 = .ok (.iload 4, 2) := by decide +kernel
theorem dX11_wordHere_24 : decode cX11_wordHere 24 = .ok (.goto 4, 3) := by decide +kernel
theorem dX11_wordHere_27 : decode cX11_wordHere 27 = .ok (.iload_n 3, 1) := by decide +kernel
theorem dX11_wordHere_28 : decode cX11_wordHere 28 = .ok (.istore_n 3, 1) := by decide +kernel
theorem dX11_wordHere_29 : decode cX11_wordHere 29 = .ok (.iinc 4 1, 3) := by decide +kernel
theorem dX11_wordHere_32 : decode cX11_wordHere 32 = .ok (.goto (-27), 3) := by decide +kernel
theorem dX11_wordHere_35 : decode cX11_wordHere 35 = .ok (.iload_n 3, 1) := by decide +kernel
theorem dX11_wordHere_36 : decode cX11_wordHere 36 = .ok (.ireturn, 1) := by decide +kernel
theorem dX11_takeOne_0 : decode cX11_takeOne 0 = .ok (.aload_n 0, 1) := by decide +kernel
theorem dX11_takeOne_1 : decode cX11_takeOne 1 = .ok (.getfield 166, 3) := by decide +kernel
theorem dX11_takeOne_4 : decode cX11_takeOne 4 = .ok (.ifCond .le 7, 3) := by decide +kernel
theorem dX11_takeOne_7 : decode cX11_takeOne 7 = .ok (.iconst (-1), 1) := by decide +kernel
theorem dX11_takeOne_8 : decode cX11_takeOne 8 = .ok (.goto 9, 3) := by decide +kernel
theorem dX11_takeOne_11 : decode cX11_takeOne 11 = .ok (.aload_n 0, 1) := by decide +kernel
theorem dX11_takeOne_12 : decode cX11_takeOne 12 = .ok (.iload_n 1, 1) := by decide +kernel
theorem dX11_takeOne_13 : decode cX11_takeOne 13 = .ok (.iload_n 2, 1) := by decide +kernel
theorem dX11_takeOne_14 : decode cX11_takeOne 14 = .ok (.invokevirtual 188, 3) := by decide +kernel
theorem dX11_takeOne_17 : decode cX11_takeOne 17 = .ok (.istore_n 3, 1) := by decide +kernel
theorem dX11_takeOne_18 : decode cX11_takeOne 18 = .ok (.aload_n 0, 1) := by decide +kernel
theorem dX11_takeOne_19 : decode cX11_takeOne 19 = .ok (.getfield 166, 3) := by decide +kernel
theorem dX11_takeOne_22 : decode cX11_takeOne 22 = .ok (.ifCond .ne 12, 3) := by decide +kernel
theorem dX11_takeOne_25 : decode cX11_takeOne 25 = .ok (.iload_n 3, 1) := by decide +kernel
theorem dX11_takeOne_26 : decode cX11_takeOne 26 = .ok (.ifCond .ge 8, 3) := by decide +kernel
theorem dX11_takeOne_29 : decode cX11_takeOne 29 = .ok (.aload_n 0, 1) := by decide +kernel
theorem dX11_takeOne_30 : decode cX11_takeOne 30 = .ok (.iconst 1, 1) := by decide +kernel
theorem dX11_takeOne_31 : decode cX11_takeOne 31 = .ok (.invokevirtual 172, 3) := by decide +kernel
theorem dX11_takeOne_34 : decode cX11_takeOne 34 = .ok (.aload_n 0, 1) := by decide +kernel
theorem dX11_takeOne_35 : decode cX11_takeOne 35 = .ok (.dup, 1) := by decide +kernel
theorem dX11_takeOne_36 : decode cX11_takeOne 36 = .ok (.getfield 163, 3) := by decide +kernel
theorem dX11_takeOne_39 : decode cX11_takeOne 39 = .ok (.aload_n 0, 1) := by decide +kernel
theorem dX11_takeOne_40 : decode cX11_takeOne 40 = .ok (.getfield 166, 3) := by decide +kernel
theorem dX11_takeOne_43 : decode cX11_takeOne 43 = .ok (.ifCond .le 7, 3) := by decide +kernel
theorem dX11_takeOne_46 : decode cX11_takeOne 46 = .ok (.iconst 0, 1) := by decide +kernel
theorem dX11_takeOne_47 : decode cX11_takeOne 47 = .ok (.goto 4, 3) := by decide +kernel
theorem dX11_takeOne_50 : decode cX11_takeOne 50 = .ok (.iconst 1, 1) := by decide +kernel
theorem dX11_takeOne_51 : decode cX11_takeOne 51 = .ok (.iadd, 1) := by decide +kernel
theorem dX11_takeOne_52 : decode cX11_takeOne 52 = .ok (.putfield 163, 3) := by decide +kernel
theorem dX11_takeOne_55 : decode cX11_takeOne 55 = .ok (.aload_n 0, 1) := by decide +kernel
theorem dX11_takeOne_56 : decode cX11_takeOne 56 = .ok (.getfield 166, 3) := by decide +kernel
theorem dX11_takeOne_59 : decode cX11_takeOne 59 = .ok (.ifCond .le 7, 3) := by decide +kernel
theorem dX11_takeOne_62 : decode cX11_takeOne 62 = .ok (.iconst 0, 1) := by decide +kernel
theorem dX11_takeOne_63 : decode cX11_takeOne 63 = .ok (.goto 4, 3) := by decide +kernel
theorem dX11_takeOne_66 : decode cX11_takeOne 66 = .ok (.iload_n 3, 1) := by decide +kernel
theorem dX11_takeOne_67 : decode cX11_takeOne 67 = .ok (.ireturn, 1) := by decide +kernel
theorem dX11_isName_0 : decode cX11_isName 0 = .ok (.aload_n 0, 1) := by decide +kernel
theorem dX11_isName_1 : decode cX11_isName 1 = .ok (.getfield 166, 3) := by decide +kernel
theorem dX11_isName_4 : decode cX11_isName 4 = .ok (.ifCond .ne 30, 3) := by decide +kernel
theorem dX11_isName_7 : decode cX11_isName 7 = .ok (.aload_n 0, 1) := by decide +kernel
theorem dX11_isName_8 : decode cX11_isName 8 = .ok (.getfield 24, 3) := by decide +kernel
theorem dX11_isName_11 : decode cX11_isName 11 = .ok (.aload_n 0, 1) := by decide +kernel
theorem dX11_isName_12 : decode cX11_isName 12 = .ok (.getfield 163, 3) := by decide +kernel
theorem dX11_isName_15 : decode cX11_isName 15 = .ok (.iaload, 1) := by decide +kernel
theorem dX11_isName_16 : decode cX11_isName 16 = .ok (.iconst 1, 1) := by decide +kernel
theorem dX11_isName_17 : decode cX11_isName 17 = .ok (.if_icmp .ne 17, 3) := by decide +kernel
theorem dX11_isName_20 : decode cX11_isName 20 = .ok (.aload_n 0, 1) := by decide +kernel
theorem dX11_isName_21 : decode cX11_isName 21 = .ok (.iconst 0, 1) := by decide +kernel
theorem dX11_isName_22 : decode cX11_isName 22 = .ok (.bipush 24, 2) := by decide +kernel
theorem dX11_isName_24 : decode cX11_isName 24 = .ok (.invokevirtual 188, 3) := by decide +kernel
theorem dX11_isName_27 : decode cX11_isName 27 = .ok (.ifCond .ge 7, 3) := by decide +kernel
theorem dX11_isName_30 : decode cX11_isName 30 = .ok (.iconst 1, 1) := by decide +kernel
theorem dX11_isName_31 : decode cX11_isName 31 = .ok (.goto 4, 3) := by decide +kernel
theorem dX11_isName_34 : decode cX11_isName 34 = .ok (.iconst 0, 1) := by decide +kernel
theorem dX11_isName_35 : decode cX11_isName 35 = .ok (.ireturn, 1) := by decide +kernel
theorem dX11_nameAt_0 : decode cX11_nameAt 0 = .ok (.iconst 0, 1) := by decide +kernel
theorem dX11_nameAt_1 : decode cX11_nameAt 1 = .ok (.istore_n 2, 1) := by decide +kernel
theorem dX11_nameAt_2 : decode cX11_nameAt 2 = .ok (.iload_n 2, 1) := by decide +kernel
theorem dX11_nameAt_3 : decode cX11_nameAt 3 = .ok (.iload_n 1, 1) := by decide +kernel
theorem dX11_nameAt_4 : decode cX11_nameAt 4 = .ok (.ifCond .eq 10, 3) := by decide +kernel
theorem dX11_nameAt_7 : decode cX11_nameAt 7 = .ok (.aload_n 0, 1) := by decide +kernel
theorem dX11_nameAt_8 : decode cX11_nameAt 8 = .ok (.getfield 191, 3) := by decide +kernel
theorem dX11_nameAt_11 : decode cX11_nameAt 11 = .ok (.goto 7, 3) := by decide +kernel
theorem dX11_nameAt_14 : decode cX11_nameAt 14 = .ok (.aload_n 0, 1) := by decide +kernel
theorem dX11_nameAt_15 : decode cX11_nameAt 15 = .ok (.getfield 194, 3) := by decide +kernel
theorem dX11_nameAt_18 : decode cX11_nameAt 18 = .ok (.if_icmp .ge 61, 3) := by decide +kernel
theorem dX11_nameAt_21 : decode cX11_nameAt 21 = .ok (.iload_n 1, 1) := by decide +kernel
theorem dX11_nameAt_22 : decode cX11_nameAt 22 = .ok (.ifCond .eq 12, 3) := by decide +kernel
theorem dX11_nameAt_25 : decode cX11_nameAt 25 = .ok (.aload_n 0, 1) := by decide +kernel
theorem dX11_nameAt_26 : decode cX11_nameAt 26 = .ok (.getfield 105, 3) := by decide +kernel
theorem dX11_nameAt_29 : decode cX11_nameAt 29 = .ok (.iload_n 2, 1) := by decide +kernel
theorem dX11_nameAt_30 : decode cX11_nameAt 30 = .ok (.laload, 1) := by decide +kernel
theorem dX11_nameAt_31 : decode cX11_nameAt 31 = .ok (.goto 9, 3) := by decide +kernel
theorem dX11_nameAt_34 : decode cX11_nameAt 34 = .ok (.aload_n 0, 1) := by decide +kernel
theorem dX11_nameAt_35 : decode cX11_nameAt 35 = .ok (.getfield 102, 3) := by decide +kernel
theorem dX11_nameAt_38 : decode cX11_nameAt 38 = .ok (.iload_n 2, 1) := by decide +kernel
theorem dX11_nameAt_39 : decode cX11_nameAt 39 = .ok (.laload, 1) := by decide +kernel
theorem dX11_nameAt_40 : decode cX11_nameAt 40 = .ok (.aload_n 0, 1) := by decide +kernel
theorem dX11_nameAt_41 : decode cX11_nameAt 41 = .ok (.getfield 30, 3) := by decide +kernel
theorem dX11_nameAt_44 : decode cX11_nameAt 44 = .ok (.aload_n 0, 1) := by decide +kernel
theorem dX11_nameAt_45 : decode cX11_nameAt 45 = .ok (.getfield 163, 3) := by decide +kernel
theorem dX11_nameAt_48 : decode cX11_nameAt 48 = .ok (.laload, 1) := by decide +kernel
theorem dX11_nameAt_49 : decode cX11_nameAt 49 = .ok (.lcmp, 1) := by decide +kernel
theorem dX11_nameAt_50 : decode cX11_nameAt 50 = .ok (.ifCond .ne 23, 3) := by decide +kernel
theorem dX11_nameAt_53 : decode cX11_nameAt 53 = .ok (.iload_n 1, 1) := by decide +kernel
theorem dX11_nameAt_54 : decode cX11_nameAt 54 = .ok (.ifCond .eq 12, 3) := by decide +kernel
theorem dX11_nameAt_57 : decode cX11_nameAt 57 = .ok (.aload_n 0, 1) := by decide +kernel
theorem dX11_nameAt_58 : decode cX11_nameAt 58 = .ok (.getfield 111, 3) := by decide +kernel
theorem dX11_nameAt_61 : decode cX11_nameAt 61 = .ok (.iload_n 2, 1) := by decide +kernel
theorem dX11_nameAt_62 : decode cX11_nameAt 62 = .ok (.iaload, 1) := by decide +kernel
theorem dX11_nameAt_63 : decode cX11_nameAt 63 = .ok (.goto 9, 3) := by decide +kernel
theorem dX11_nameAt_66 : decode cX11_nameAt 66 = .ok (.aload_n 0, 1) := by decide +kernel
theorem dX11_nameAt_67 : decode cX11_nameAt 67 = .ok (.getfield 108, 3) := by decide +kernel
theorem dX11_nameAt_70 : decode cX11_nameAt 70 = .ok (.iload_n 2, 1) := by decide +kernel
theorem dX11_nameAt_71 : decode cX11_nameAt 71 = .ok (.iaload, 1) := by decide +kernel
theorem dX11_nameAt_72 : decode cX11_nameAt 72 = .ok (.ireturn, 1) := by decide +kernel
theorem dX11_nameAt_73 : decode cX11_nameAt 73 = .ok (.iinc 2 1, 3) := by decide +kernel
theorem dX11_nameAt_76 : decode cX11_nameAt 76 = .ok (.goto (-74), 3) := by decide +kernel
theorem dX11_nameAt_79 : decode cX11_nameAt 79 = .ok (.iconst (-1), 1) := by decide +kernel
theorem dX11_nameAt_80 : decode cX11_nameAt 80 = .ok (.ireturn, 1) := by decide +kernel
theorem dX11_takeTold_0 : decode cX11_takeTold 0 = .ok (.aload_n 0, 1) := by decide +kernel
theorem dX11_takeTold_1 : decode cX11_takeTold 1 = .ok (.getfield 166, 3) := by decide +kernel
theorem dX11_takeTold_4 : decode cX11_takeTold 4 = .ok (.ifCond .ne 15, 3) := by decide +kernel
theorem dX11_takeTold_7 : decode cX11_takeTold 7 = .ok (.aload_n 0, 1) := by decide +kernel
theorem dX11_takeTold_8 : decode cX11_takeTold 8 = .ok (.invokevirtual 197, 3) := by decide +kernel
theorem dX11_takeTold_11 : decode cX11_takeTold 11 = .ok (.ifCond .ne 8, 3) := by decide +kernel
theorem dX11_takeTold_14 : decode cX11_takeTold 14 = .ok (.aload_n 0, 1) := by decide +kernel
theorem dX11_takeTold_15 : decode cX11_takeTold 15 = .ok (.iconst 1, 1) := by decide +kernel
theorem dX11_takeTold_16 : decode cX11_takeTold 16 = .ok (.invokevirtual 172, 3) := by decide +kernel
theorem dX11_takeTold_19 : decode cX11_takeTold 19 = .ok (.aload_n 0, 1) := by decide +kernel
theorem dX11_takeTold_20 : decode cX11_takeTold 20 = .ok (.getfield 166, 3) := by decide +kernel
theorem dX11_takeTold_23 : decode cX11_takeTold 23 = .ok (.ifCond .le 7, 3) := by decide +kernel
theorem dX11_takeTold_26 : decode cX11_takeTold 26 = .ok (.iconst (-1), 1) := by decide +kernel
theorem dX11_takeTold_27 : decode cX11_takeTold 27 = .ok (.goto 10, 3) := by decide +kernel
theorem dX11_takeTold_30 : decode cX11_takeTold 30 = .ok (.aload_n 0, 1) := by decide +kernel
theorem dX11_takeTold_31 : decode cX11_takeTold 31 = .ok (.iload_n 1, 1) := by decide +kernel
theorem dX11_takeTold_32 : decode cX11_takeTold 32 = .ok (.invokevirtual 201, 3) := by decide +kernel
theorem dX11_takeTold_35 : decode cX11_takeTold 35 = .ok (.iload_n 2, 1) := by decide +kernel
theorem dX11_takeTold_36 : decode cX11_takeTold 36 = .ok (.isub, 1) := by decide +kernel
theorem dX11_takeTold_37 : decode cX11_takeTold 37 = .ok (.istore 4, 2) := by decide +kernel
theorem dX11_takeTold_39 : decode cX11_takeTold 39 = .ok (.aload_n 0, 1) := by decide +kernel
theorem dX11_takeTold_40 : decode cX11_takeTold 40 = .ok (.getfield 166, 3) := by decide +kernel
theorem dX11_takeTold_43 : decode cX11_takeTold 43 = .ok (.ifCond .ne 22, 3) := by decide +kernel
theorem dX11_takeTold_46 : decode cX11_takeTold 46 = .ok (.iload 4, 2) := by decide +kernel
theorem dX11_takeTold_48 : decode cX11_takeTold 48 = .ok (.iconst 0, 1) := by decide +kernel
theorem dX11_takeTold_49 : decode cX11_takeTold 49 = .ok (.bipush 6, 2) := by decide +kernel
theorem dX11_takeTold_51 : decode cX11_takeTold 51 = .ok (.invokestatic 205, 3) := by decide +kernel
theorem dX11_takeTold_54 : decode cX11_takeTold 54 = .ok (.ifCond .ne 11, 3) := by decide +kernel
theorem dX11_takeTold_57 : decode cX11_takeTold 57 = .ok (.aload_n 0, 1) := by decide +kernel
theorem dX11_takeTold_58 : decode cX11_takeTold 58 = .ok (.iconst 2, 1) := by decide +kernel
theorem dX11_takeTold_59 : decode cX11_takeTold 59 = .ok (.invokevirtual 172, 3) := by decide +kernel
theorem dX11_takeTold_62 : decode cX11_takeTold 62 = .ok (.goto 25, 3) := by decide +kernel
theorem dX11_takeTold_65 : decode cX11_takeTold 65 = .ok (.aload_n 0, 1) := by decide +kernel
theorem dX11_takeTold_66 : decode cX11_takeTold 66 = .ok (.getfield 166, 3) := by decide +kernel
theorem dX11_takeTold_69 : decode cX11_takeTold 69 = .ok (.ifCond .ne 18, 3) := by decide +kernel
theorem dX11_takeTold_72 : decode cX11_takeTold 72 = .ok (.iload_n 3, 1) := by decide +kernel
theorem dX11_takeTold_73 : decode cX11_takeTold 73 = .ok (.iload 4, 2) := by decide +kernel
theorem dX11_takeTold_75 : decode cX11_takeTold 75 = .ok (.ishr, 1) := by decide +kernel
theorem dX11_takeTold_76 : decode cX11_takeTold 76 = .ok (.iconst 1, 1) := by decide +kernel
theorem dX11_takeTold_77 : decode cX11_takeTold 77 = .ok (.iand, 1) := by decide +kernel
theorem dX11_takeTold_78 : decode cX11_takeTold 78 = .ok (.iconst 1, 1) := by decide +kernel
theorem dX11_takeTold_79 : decode cX11_takeTold 79 = .ok (.if_icmp .ne 8, 3) := by decide +kernel
theorem dX11_takeTold_82 : decode cX11_takeTold 82 = .ok (.aload_n 0, 1) := by decide +kernel
theorem dX11_takeTold_83 : decode cX11_takeTold 83 = .ok (.iconst 3, 1) := by decide +kernel
theorem dX11_takeTold_84 : decode cX11_takeTold 84 = .ok (.invokevirtual 172, 3) := by decide +kernel
theorem dX11_takeTold_87 : decode cX11_takeTold 87 = .ok (.aload_n 0, 1) := by decide +kernel
theorem dX11_takeTold_88 : decode cX11_takeTold 88 = .ok (.dup, 1) := by decide +kernel
theorem dX11_takeTold_89 : decode cX11_takeTold 89 = .ok (.getfield 163, 3) := by decide +kernel
theorem dX11_takeTold_92 : decode cX11_takeTold 92 = .ok (.aload_n 0, 1) := by decide +kernel
theorem dX11_takeTold_93 : decode cX11_takeTold 93 = .ok (.getfield 166, 3) := by decide +kernel
theorem dX11_takeTold_96 : decode cX11_takeTold 96 = .ok (.ifCond .le 7, 3) := by decide +kernel
theorem dX11_takeTold_99 : decode cX11_takeTold 99 = .ok (.iconst 0, 1) := by decide +kernel
theorem dX11_takeTold_100 : decode cX11_takeTold 100 = .ok (.goto 4, 3) := by decide +kernel
theorem dX11_takeTold_103 : decode cX11_takeTold 103 = .ok (.iconst 1, 1) := by decide +kernel
theorem dX11_takeTold_104 : decode cX11_takeTold 104 = .ok (.iadd, 1) := by decide +kernel
theorem dX11_takeTold_105 : decode cX11_takeTold 105 = .ok (.putfield 163, 3) := by decide +kernel
theorem dX11_takeTold_108 : decode cX11_takeTold 108 = .ok (.aload_n 0, 1) := by decide +kernel
theorem dX11_takeTold_109 : decode cX11_takeTold 109 = .ok (.getfield 166, 3) := by decide +kernel
theorem dX11_takeTold_112 : decode cX11_takeTold 112 = .ok (.ifCond .le 7, 3) := by decide +kernel
theorem dX11_takeTold_115 : decode cX11_takeTold 115 = .ok (.iconst 0, 1) := by decide +kernel
theorem dX11_takeTold_116 : decode cX11_takeTold 116 = .ok (.goto 5, 3) := by decide +kernel
theorem dX11_takeTold_119 : decode cX11_takeTold 119 = .ok (.iload 4, 2) := by decide +kernel
theorem dX11_takeTold_121 : decode cX11_takeTold 121 = .ok (.ireturn, 1) := by decide +kernel
theorem dX11_cave_0 : decode cX11_cave 0 = .ok (.aload_n 0, 1) := by decide +kernel
theorem dX11_cave_1 : decode cX11_cave 1 = .ok (.iconst 0, 1) := by decide +kernel
theorem dX11_cave_2 : decode cX11_cave 2 = .ok (.putfield 1, 3) := by decide +kernel
theorem dX11_cave_5 : decode cX11_cave 5 = .ok (.aload_n 0, 1) := by decide +kernel
theorem dX11_cave_6 : decode cX11_cave 6 = .ok (.invokevirtual 209, 3) := by decide +kernel
theorem dX11_cave_9 : decode cX11_cave 9 = .ok (.aload_n 0, 1) := by decide +kernel
theorem dX11_cave_10 : decode cX11_cave 10 = .ok (.iconst 0, 1) := by decide +kernel
theorem dX11_cave_11 : decode cX11_cave 11 = .ok (.putfield 212, 3) := by decide +kernel
theorem dX11_cave_14 : decode cX11_cave 14 = .ok (.aload_n 0, 1) := by decide +kernel
theorem dX11_cave_15 : decode cX11_cave 15 = .ok (.iconst 0, 1) := by decide +kernel
theorem dX11_cave_16 : decode cX11_cave 16 = .ok (.putfield 191, 3) := by decide +kernel
theorem dX11_cave_19 : decode cX11_cave 19 = .ok (.aload_n 0, 1) := by decide +kernel
theorem dX11_cave_20 : decode cX11_cave 20 = .ok (.iconst 0, 1) := by decide +kernel
theorem dX11_cave_21 : decode cX11_cave 21 = .ok (.putfield 215, 3) := by decide +kernel
theorem dX11_cave_24 : decode cX11_cave 24 = .ok (.aload_n 0, 1) := by decide +kernel
theorem dX11_cave_25 : decode cX11_cave 25 = .ok (.bipush 70, 2) := by decide +kernel
theorem dX11_cave_27 : decode cX11_cave 27 = .ok (.invokevirtual 133, 3) := by decide +kernel
theorem dX11_cave_30 : decode cX11_cave 30 = .ok (.aload_n 0, 1) := by decide +kernel
theorem dX11_cave_31 : decode cX11_cave 31 = .ok (.getfield 166, 3) := by decide +kernel
theorem dX11_cave_34 : decode cX11_cave 34 = .ok (.ifCond .ne 28, 3) := by decide +kernel
theorem dX11_cave_37 : decode cX11_cave 37 = .ok (.aload_n 0, 1) := by decide +kernel
theorem dX11_cave_38 : decode cX11_cave 38 = .ok (.getfield 24, 3) := by decide +kernel
theorem dX11_cave_41 : decode cX11_cave 41 = .ok (.aload_n 0, 1) := by decide +kernel
theorem dX11_cave_42 : decode cX11_cave 42 = .ok (.getfield 163, 3) := by decide +kernel
theorem dX11_cave_45 : decode cX11_cave 45 = .ok (.iaload, 1) := by decide +kernel
theorem dX11_cave_46 : decode cX11_cave 46 = .ok (.ifCond .eq 16, 3) := by decide +kernel
theorem dX11_cave_49 : decode cX11_cave 49 = .ok (.aload_n 0, 1) := by decide +kernel
theorem dX11_cave_50 : decode cX11_cave 50 = .ok (.invokevirtual 218, 3) := by decide +kernel
theorem dX11_cave_53 : decode cX11_cave 53 = .ok (.aload_n 0, 1) := by decide +kernel
theorem dX11_cave_54 : decode cX11_cave 54 = .ok (.bipush 59, 2) := by decide +kernel
theorem dX11_cave_56 : decode cX11_cave 56 = .ok (.invokevirtual 221, 3) := by decide +kernel
theorem dX11_cave_59 : decode cX11_cave 59 = .ok (.goto (-29), 3) := by decide +kernel
theorem dX11_cave_62 : decode cX11_cave 62 = .ok (.aload_n 0, 1) := by decide +kernel
theorem dX11_cave_63 : decode cX11_cave 63 = .ok (.getfield 166, 3) := by decide +kernel
theorem dX11_cave_66 : decode cX11_cave 66 = .ok (.ifCond .le 8, 3) := by decide +kernel
theorem dX11_cave_69 : decode cX11_cave 69 = .ok (.aload_n 0, 1) := by decide +kernel
theorem dX11_cave_70 : decode cX11_cave 70 = .ok (.getfield 166, 3) := by decide +kernel
theorem dX11_cave_73 : decode cX11_cave 73 = .ok (.ireturn, 1) := by decide +kernel
theorem dX11_cave_74 : decode cX11_cave 74 = .ok (.iconst 0, 1) := by decide +kernel
theorem dX11_cave_75 : decode cX11_cave 75 = .ok (.istore_n 1, 1) := by decide +kernel
theorem dX11_cave_76 : decode cX11_cave 76 = .ok (.iload_n 1, 1) := by decide +kernel
theorem dX11_cave_77 : decode cX11_cave 77 = .ok (.bipush 70, 2) := by decide +kernel
theorem dX11_cave_79 : decode cX11_cave 79 = .ok (.if_icmp .ge 24, 3) := by decide +kernel
theorem dX11_cave_82 : decode cX11_cave 82 = .ok (.aload_n 0, 1) := by decide +kernel
theorem dX11_cave_83 : decode cX11_cave 83 = .ok (.getfield 93, 3) := by decide +kernel
theorem dX11_cave_86 : decode cX11_cave 86 = .ok (.iload_n 1, 1) := by decide +kernel
theorem dX11_cave_87 : decode cX11_cave 87 = .ok (.aload_n 0, 1) := by decide +kernel
theorem dX11_cave_88 : decode cX11_cave 88 = .ok (.getfield 93, 3) := by decide +kernel
theorem dX11_cave_91 : decode cX11_cave 91 = .ok (.bipush 70, 2) := by decide +kernel
theorem dX11_cave_93 : decode cX11_cave 93 = .ok (.iload_n 1, 1) := by decide +kernel
theorem dX11_cave_94 : decode cX11_cave 94 = .ok (.iadd, 1) := by decide +kernel
theorem dX11_cave_95 : decode cX11_cave 95 = .ok (.iaload, 1) := by decide +kernel
theorem dX11_cave_96 : decode cX11_cave 96 = .ok (.iastore, 1) := by decide +kernel
theorem dX11_cave_97 : decode cX11_cave 97 = .ok (.iinc 1 1, 3) := by decide +kernel
theorem dX11_cave_100 : decode cX11_cave 100 = .ok (.goto (-24), 3) := by decide +kernel
theorem dX11_cave_103 : decode cX11_cave 103 = .ok (.iconst 0, 1) := by decide +kernel
theorem dX11_cave_104 : decode cX11_cave 104 = .ok (.istore_n 1, 1) := by decide +kernel
theorem dX11_cave_105 : decode cX11_cave 105 = .ok (.iload_n 1, 1) := by decide +kernel
theorem dX11_cave_106 : decode cX11_cave 106 = .ok (.aload_n 0, 1) := by decide +kernel
theorem dX11_cave_107 : decode cX11_cave 107 = .ok (.getfield 212, 3) := by decide +kernel
theorem dX11_cave_110 : decode cX11_cave 110 = .ok (.if_icmp .ge 41, 3) := by decide +kernel
theorem dX11_cave_113 : decode cX11_cave 113 = .ok (.aload_n 0, 1) := by decide +kernel
theorem dX11_cave_114 : decode cX11_cave 114 = .ok (.getfield 96, 3) := by decide +kernel
theorem dX11_cave_117 : decode cX11_cave 117 = .ok (.iload_n 1, 1) := by decide +kernel
theorem dX11_cave_118 : decode cX11_cave 118 = .ok (.aload_n 0, 1) := by decide +kernel
theorem dX11_cave_119 : decode cX11_cave 119 = .ok (.getfield 96, 3) := by decide +kernel
theorem dX11_cave_122 : decode cX11_cave 122 = .ok (.sipush 1100, 3) := by decide +kernel
theorem dX11_cave_125 : decode cX11_cave 125 = .ok (.iload_n 1, 1) := by decide +kernel
theorem dX11_cave_126 : decode cX11_cave 126 = .ok (.iadd, 1) := by decide +kernel
theorem dX11_cave_127 : decode cX11_cave 127 = .ok (.iaload, 1) := by decide +kernel
theorem dX11_cave_128 : decode cX11_cave 128 = .ok (.iastore, 1) := by decide +kernel
theorem dX11_cave_129 : decode cX11_cave 129 = .ok (.aload_n 0, 1) := by decide +kernel
theorem dX11_cave_130 : decode cX11_cave 130 = .ok (.getfield 99, 3) := by decide +kernel
theorem dX11_cave_133 : decode cX11_cave 133 = .ok (.iload_n 1, 1) := by decide +kernel
theorem dX11_cave_134 : decode cX11_cave 134 = .ok (.aload_n 0, 1) := by decide +kernel
theorem dX11_cave_135 : decode cX11_cave 135 = .ok (.getfield 99, 3) := by decide +kernel
theorem dX11_cave_138 : decode cX11_cave 138 = .ok (.sipush 1100, 3) := by decide +kernel
theorem dX11_cave_141 : decode cX11_cave 141 = .ok (.iload_n 1, 1) := by decide +kernel
theorem dX11_cave_142 : decode cX11_cave 142 = .ok (.iadd, 1) := by decide +kernel
theorem dX11_cave_143 : decode cX11_cave 143 = .ok (.iaload, 1) := by decide +kernel
theorem dX11_cave_144 : decode cX11_cave 144 = .ok (.iastore, 1) := by decide +kernel
theorem dX11_cave_145 : decode cX11_cave 145 = .ok (.iinc 1 1, 3) := by decide +kernel
theorem dX11_cave_148 : decode cX11_cave 148 = .ok (.goto (-43), 3) := by decide +kernel
theorem dX11_cave_151 : decode cX11_cave 151 = .ok (.iconst 0, 1) := by decide +kernel
theorem dX11_cave_152 : decode cX11_cave 152 = .ok (.istore_n 1, 1) := by decide +kernel
theorem dX11_cave_153 : decode cX11_cave 153 = .ok (.iload_n 1, 1) := by decide +kernel
theorem dX11_cave_154 : decode cX11_cave 154 = .ok (.aload_n 0, 1) := by decide +kernel
theorem dX11_cave_155 : decode cX11_cave 155 = .ok (.getfield 191, 3) := by decide +kernel
theorem dX11_cave_158 : decode cX11_cave 158 = .ok (.if_icmp .ge 33, 3) := by decide +kernel
theorem dX11_cave_161 : decode cX11_cave 161 = .ok (.aload_n 0, 1) := by decide +kernel
theorem dX11_cave_162 : decode cX11_cave 162 = .ok (.getfield 102, 3) := by decide +kernel
theorem dX11_cave_165 : decode cX11_cave 165 = .ok (.iload_n 1, 1) := by decide +kernel
theorem dX11_cave_166 : decode cX11_cave 166 = .ok (.aload_n 0, 1) := by decide +kernel
theorem dX11_cave_167 : decode cX11_cave 167 = .ok (.getfield 105, 3) := by decide +kernel
theorem dX11_cave_170 : decode cX11_cave 170 = .ok (.iload_n 1, 1) := by decide +kernel
theorem dX11_cave_171 : decode cX11_cave 171 = .ok (.laload, 1) := by decide +kernel
theorem dX11_cave_172 : decode cX11_cave 172 = .ok (.lastore, 1) := by decide +kernel
theorem dX11_cave_173 : decode cX11_cave 173 = .ok (.aload_n 0, 1) := by decide +kernel
theorem dX11_cave_174 : decode cX11_cave 174 = .ok (.getfield 108, 3) := by decide +kernel
theorem dX11_cave_177 : decode cX11_cave 177 = .ok (.iload_n 1, 1) := by decide +kernel
theorem dX11_cave_178 : decode cX11_cave 178 = .ok (.aload_n 0, 1) := by decide +kernel
theorem dX11_cave_179 : decode cX11_cave 179 = .ok (.getfield 111, 3) := by decide +kernel
theorem dX11_cave_182 : decode cX11_cave 182 = .ok (.iload_n 1, 1) := by decide +kernel
theorem dX11_cave_183 : decode cX11_cave 183 = .ok (.iaload, 1) := by decide +kernel
theorem dX11_cave_184 : decode cX11_cave 184 = .ok (.iastore, 1) := by decide +kernel
theorem dX11_cave_185 : decode cX11_cave 185 = .ok (.iinc 1 1, 3) := by decide +kernel
theorem dX11_cave_188 : decode cX11_cave 188 = .ok (.goto (-35), 3) := by decide +kernel
theorem dX11_cave_191 : decode cX11_cave 191 = .ok (.aload_n 0, 1) := by decide +kernel
theorem dX11_cave_192 : decode cX11_cave 192 = .ok (.aload_n 0, 1) := by decide +kernel
theorem dX11_cave_193 : decode cX11_cave 193 = .ok (.getfield 191, 3) := by decide +kernel
theorem dX11_cave_196 : decode cX11_cave 196 = .ok (.putfield 194, 3) := by decide +kernel
theorem dX11_cave_199 : decode cX11_cave 199 = .ok (.aload_n 0, 1) := by decide +kernel
theorem dX11_cave_200 : decode cX11_cave 200 = .ok (.invokevirtual 137, 3) := by decide +kernel
theorem dX11_cave_203 : decode cX11_cave 203 = .ok (.iconst 0, 1) := by decide +kernel
theorem dX11_cave_204 : decode cX11_cave 204 = .ok (.ireturn, 1) := by decide +kernel
theorem dX11_readLine_0 : decode cX11_readLine 0 = .ok (.aload_n 0, 1) := by decide +kernel
theorem dX11_readLine_1 : decode cX11_readLine 1 = .ok (.iconst 0, 1) := by decide +kernel
theorem dX11_readLine_2 : decode cX11_readLine 2 = .ok (.invokevirtual 175, 3) := by decide +kernel
theorem dX11_readLine_5 : decode cX11_readLine 5 = .ok (.ifCond .eq 48, 3) := by decide +kernel
theorem dX11_readLine_8 : decode cX11_readLine 8 = .ok (.bipush 75, 2) := by decide +kernel
theorem dX11_readLine_10 : decode cX11_readLine 10 = .ok (.aload_n 0, 1) := by decide +kernel
theorem dX11_readLine_11 : decode cX11_readLine 11 = .ok (.getfield 93, 3) := by decide +kernel
theorem dX11_readLine_14 : decode cX11_readLine 14 = .ok (.bipush 70, 2) := by decide +kernel
theorem dX11_readLine_16 : decode cX11_readLine 16 = .ok (.iaload, 1) := by decide +kernel
theorem dX11_readLine_17 : decode cX11_readLine 17 = .ok (.iadd, 1) := by decide +kernel
theorem dX11_readLine_18 : decode cX11_readLine 18 = .ok (.istore_n 1, 1) := by decide +kernel
theorem dX11_readLine_19 : decode cX11_readLine 19 = .ok (.aload_n 0, 1) := by decide +kernel
theorem dX11_readLine_20 : decode cX11_readLine 20 = .ok (.iconst 0, 1) := by decide +kernel
theorem dX11_readLine_21 : decode cX11_readLine 21 = .ok (.bipush 7, 2) := by decide +kernel
theorem dX11_readLine_23 : decode cX11_readLine 23 = .ok (.iconst 0, 1) := by decide +kernel
theorem dX11_readLine_24 : decode cX11_readLine 24 = .ok (.invokevirtual 224, 3) := by decide +kernel
theorem dX11_readLine_27 : decode cX11_readLine 27 = .ok (.aload_n 0, 1) := by decide +kernel
theorem dX11_readLine_28 : decode cX11_readLine 28 = .ok (.iconst 1, 1) := by decide +kernel
theorem dX11_readLine_29 : decode cX11_readLine 29 = .ok (.iconst 0, 1) := by decide +kernel
theorem dX11_readLine_30 : decode cX11_readLine 30 = .ok (.bipush 9, 2) := by decide +kernel
theorem dX11_readLine_32 : decode cX11_readLine 32 = .ok (.invokevirtual 228, 3) := by decide +kernel
theorem dX11_readLine_35 : decode cX11_readLine 35 = .ok (.istore_n 2, 1) := by decide +kernel
theorem dX11_readLine_36 : decode cX11_readLine 36 = .ok (.aload_n 0, 1) := by decide +kernel
theorem dX11_readLine_37 : decode cX11_readLine 37 = .ok (.getfield 166, 3) := by decide +kernel
theorem dX11_readLine_40 : decode cX11_readLine 40 = .ok (.ifCond .ne 10, 3) := by decide +kernel
theorem dX11_readLine_43 : decode cX11_readLine 43 = .ok (.aload_n 0, 1) := by decide +kernel
theorem dX11_readLine_44 : decode cX11_readLine 44 = .ok (.getfield 93, 3) := by decide +kernel
theorem dX11_readLine_47 : decode cX11_readLine 47 = .ok (.iload_n 1, 1) := by decide +kernel
theorem dX11_readLine_48 : decode cX11_readLine 48 = .ok (.iload_n 2, 1) := by decide +kernel
theorem dX11_readLine_49 : decode cX11_readLine 49 = .ok (.iastore, 1) := by decide +kernel
theorem dX11_readLine_50 : decode cX11_readLine 50 = .ok (.goto 95, 3) := by decide +kernel
theorem dX11_readLine_53 : decode cX11_readLine 53 = .ok (.aload_n 0, 1) := by decide +kernel
theorem dX11_readLine_54 : decode cX11_readLine 54 = .ok (.iconst 2, 1) := by decide +kernel
theorem dX11_readLine_55 : decode cX11_readLine 55 = .ok (.invokevirtual 175, 3) := by decide +kernel
theorem dX11_readLine_58 : decode cX11_readLine 58 = .ok (.ifCond .eq 10, 3) := by decide +kernel
theorem dX11_readLine_61 : decode cX11_readLine 61 = .ok (.aload_n 0, 1) := by decide +kernel
theorem dX11_readLine_62 : decode cX11_readLine 62 = .ok (.invokevirtual 232, 3) := by decide +kernel
theorem dX11_readLine_65 : decode cX11_readLine 65 = .ok (.goto 80, 3) := by decide +kernel
theorem dX11_readLine_68 : decode cX11_readLine 68 = .ok (.aload_n 0, 1) := by decide +kernel
theorem dX11_readLine_69 : decode cX11_readLine 69 = .ok (.iconst 4, 1) := by decide +kernel
theorem dX11_readLine_70 : decode cX11_readLine 70 = .ok (.invokevirtual 175, 3) := by decide +kernel
theorem dX11_readLine_73 : decode cX11_readLine 73 = .ok (.ifCond .eq 68, 3) := by decide +kernel
theorem dX11_readLine_76 : decode cX11_readLine 76 = .ok (.bipush 114, 2) := by decide +kernel
theorem dX11_readLine_78 : decode cX11_readLine 78 = .ok (.iconst 2, 1) := by decide +kernel
theorem dX11_readLine_79 : decode cX11_readLine 79 = .ok (.aload_n 0, 1) := by decide +kernel
theorem dX11_readLine_80 : decode cX11_readLine 80 = .ok (.getfield 93, 3) := by decide +kernel
theorem dX11_readLine_83 : decode cX11_readLine 83 = .ok (.bipush 72, 2) := by decide +kernel
theorem dX11_readLine_85 : decode cX11_readLine 85 = .ok (.iaload, 1) := by decide +kernel
theorem dX11_readLine_86 : decode cX11_readLine 86 = .ok (.imul, 1) := by decide +kernel
theorem dX11_readLine_87 : decode cX11_readLine 87 = .ok (.iadd, 1) := by decide +kernel
theorem dX11_readLine_88 : decode cX11_readLine 88 = .ok (.istore_n 1, 1) := by decide +kernel
theorem dX11_readLine_89 : decode cX11_readLine 89 = .ok (.aload_n 0, 1) := by decide +kernel
theorem dX11_readLine_90 : decode cX11_readLine 90 = .ok (.iconst 2, 1) := by decide +kernel
theorem dX11_readLine_91 : decode cX11_readLine 91 = .ok (.iconst 4, 1) := by decide +kernel
theorem dX11_readLine_92 : decode cX11_readLine 92 = .ok (.bipush 20, 2) := by decide +kernel
theorem dX11_readLine_94 : decode cX11_readLine 94 = .ok (.invokevirtual 224, 3) := by decide +kernel
theorem dX11_readLine_97 : decode cX11_readLine 97 = .ok (.aload_n 0, 1) := by decide +kernel
theorem dX11_readLine_98 : decode cX11_readLine 98 = .ok (.bipush 17, 2) := by decide +kernel
theorem dX11_readLine_100 : decode cX11_readLine 100 = .ok (.iconst 4, 1) := by decide +kernel
theorem dX11_readLine_101 : decode cX11_readLine 101 = .ok (.invokevirtual 235, 3) := by decide +kernel
theorem dX11_readLine_104 : decode cX11_readLine 104 = .ok (.istore_n 2, 1) := by decide +kernel
theorem dX11_readLine_105 : decode cX11_readLine 105 = .ok (.aload_n 0, 1) := by decide +kernel
theorem dX11_readLine_106 : decode cX11_readLine 106 = .ok (.iconst 5, 1) := by decide +kernel
theorem dX11_readLine_107 : decode cX11_readLine 107 = .ok (.iconst 1, 1) := by decide +kernel
theorem dX11_readLine_108 : decode cX11_readLine 108 = .ok (.sipush 900, 3) := by decide +kernel
theorem dX11_readLine_111 : decode cX11_readLine 111 = .ok (.invokevirtual 228, 3) := by decide +kernel
theorem dX11_readLine_114 : decode cX11_readLine 114 = .ok (.istore_n 3, 1) := by decide +kernel
theorem dX11_readLine_115 : decode cX11_readLine 115 = .ok (.aload_n 0, 1) := by decide +kernel
theorem dX11_readLine_116 : decode cX11_readLine 116 = .ok (.getfield 166, 3) := by decide +kernel
theorem dX11_readLine_119 : decode cX11_readLine 119 = .ok (.ifCond .ne 19, 3) := by decide +kernel
theorem dX11_readLine_122 : decode cX11_readLine 122 = .ok (.aload_n 0, 1) := by decide +kernel
theorem dX11_readLine_123 : decode cX11_readLine 123 = .ok (.getfield 93, 3) := by decide +kernel
theorem dX11_readLine_126 : decode cX11_readLine 126 = .ok (.iload_n 1, 1) := by decide +kernel
theorem dX11_readLine_127 : decode cX11_readLine 127 = .ok (.iload_n 2, 1) := by decide +kernel
theorem dX11_readLine_128 : decode cX11_readLine 128 = .ok (.iastore, 1) := by decide +kernel
theorem dX11_readLine_129 : decode cX11_readLine 129 = .ok (.aload_n 0, 1) := by decide +kernel
theorem dX11_readLine_130 : decode cX11_readLine 130 = .ok (.getfield 93, 3) := by decide +kernel
theorem dX11_readLine_133 : decode cX11_readLine 133 = .ok (.iload_n 1, 1) := by decide +kernel
theorem dX11_readLine_134 : decode cX11_readLine 134 = .ok (.iconst 1, 1) := by decide +kernel
theorem dX11_readLine_135 : decode cX11_readLine 135 = .ok (.iadd, 1) := by decide +kernel
theorem dX11_readLine_136 : decode cX11_readLine 136 = .ok (.iload_n 3, 1) := by decide +kernel
theorem dX11_readLine_137 : decode cX11_readLine 137 = .ok (.iastore, 1) := by decide +kernel
theorem dX11_readLine_138 : decode cX11_readLine 138 = .ok (.goto 7, 3) := by decide +kernel
theorem dX11_readLine_141 : decode cX11_readLine 141 = .ok (.aload_n 0, 1) := by decide +kernel
theorem dX11_readLine_142 : decode cX11_readLine 142 = .ok (.invokevirtual 238, 3) := by decide +kernel
theorem dX11_readLine_145 : decode cX11_readLine 145 = .ok (.return_, 1) := by decide +kernel
theorem dX11_readName_0 : decode cX11_readName 0 = .ok (.aload_n 0, 1) := by decide +kernel
theorem dX11_readName_1 : decode cX11_readName 1 = .ok (.getfield 93, 3) := by decide +kernel
theorem dX11_readName_4 : decode cX11_readName 4 = .ok (.bipush 70, 2) := by decide +kernel
theorem dX11_readName_6 : decode cX11_readName 6 = .ok (.iload_n 1, 1) := by decide +kernel
theorem dX11_readName_7 : decode cX11_readName 7 = .ok (.iadd, 1) := by decide +kernel
theorem dX11_readName_8 : decode cX11_readName 8 = .ok (.iaload, 1) := by decide +kernel
theorem dX11_readName_9 : decode cX11_readName 9 = .ok (.istore 4, 2) := by decide +kernel
theorem dX11_readName_11 : decode cX11_readName 11 = .ok (.iload 4, 2) := by decide +kernel
theorem dX11_readName_13 : decode cX11_readName 13 = .ok (.iload_n 2, 1) := by decide +kernel
theorem dX11_readName_14 : decode cX11_readName 14 = .ok (.if_icmp .ne 9, 3) := by decide +kernel
theorem dX11_readName_17 : decode cX11_readName 17 = .ok (.aload_n 0, 1) := by decide +kernel
theorem dX11_readName_18 : decode cX11_readName 18 = .ok (.iconst 5, 1) := by decide +kernel
theorem dX11_readName_19 : decode cX11_readName 19 = .ok (.invokevirtual 172, 3) := by decide +kernel
theorem dX11_readName_22 : decode cX11_readName 22 = .ok (.return_, 1) := by decide +kernel
theorem dX11_readName_23 : decode cX11_readName 23 = .ok (.aload_n 0, 1) := by decide +kernel
theorem dX11_readName_24 : decode cX11_readName 24 = .ok (.dup, 1) := by decide +kernel
theorem dX11_readName_25 : decode cX11_readName 25 = .ok (.getfield 163, 3) := by decide +kernel
theorem dX11_readName_28 : decode cX11_readName 28 = .ok (.iconst 1, 1) := by decide +kernel
theorem dX11_readName_29 : decode cX11_readName 29 = .ok (.iadd, 1) := by decide +kernel
theorem dX11_readName_30 : decode cX11_readName 30 = .ok (.putfield 163, 3) := by decide +kernel
theorem dX11_readName_33 : decode cX11_readName 33 = .ok (.aload_n 0, 1) := by decide +kernel
theorem dX11_readName_34 : decode cX11_readName 34 = .ok (.invokevirtual 197, 3) := by decide +kernel
theorem dX11_readName_37 : decode cX11_readName 37 = .ok (.ifCond .ne 11, 3) := by decide +kernel
theorem dX11_readName_40 : decode cX11_readName 40 = .ok (.aload_n 0, 1) := by decide +kernel
theorem dX11_readName_41 : decode cX11_readName 41 = .ok (.iconst 1, 1) := by decide +kernel
theorem dX11_readName_42 : decode cX11_readName 42 = .ok (.invokevirtual 172, 3) := by decide +kernel
theorem dX11_readName_45 : decode cX11_readName 45 = .ok (.goto 16, 3) := by decide +kernel
theorem dX11_readName_48 : decode cX11_readName 48 = .ok (.aload_n 0, 1) := by decide +kernel
theorem dX11_readName_49 : decode cX11_readName 49 = .ok (.iconst 1, 1) := by decide +kernel
theorem dX11_readName_50 : decode cX11_readName 50 = .ok (.invokevirtual 201, 3) := by decide +kernel
theorem dX11_readName_53 : decode cX11_readName 53 = .ok (.ifCond .lt 8, 3) := by decide +kernel
theorem dX11_readName_56 : decode cX11_readName 56 = .ok (.aload_n 0, 1) := by decide +kernel
theorem dX11_readName_57 : decode cX11_readName 57 = .ok (.iconst 3, 1) := by decide +kernel
theorem dX11_readName_58 : decode cX11_readName 58 = .ok (.invokevirtual 172, 3) := by decide +kernel
theorem dX11_readName_61 : decode cX11_readName 61 = .ok (.aload_n 0, 1) := by decide +kernel
theorem dX11_readName_62 : decode cX11_readName 62 = .ok (.getfield 166, 3) := by decide +kernel
theorem dX11_readName_65 : decode cX11_readName 65 = .ok (.ifCond .ne 67, 3) := by decide +kernel
theorem dX11_readName_68 : decode cX11_readName 68 = .ok (.aload_n 0, 1) := by decide +kernel
theorem dX11_readName_69 : decode cX11_readName 69 = .ok (.getfield 105, 3) := by decide +kernel
theorem dX11_readName_72 : decode cX11_readName 72 = .ok (.aload_n 0, 1) := by decide +kernel
theorem dX11_readName_73 : decode cX11_readName 73 = .ok (.getfield 191, 3) := by decide +kernel
theorem dX11_readName_76 : decode cX11_readName 76 = .ok (.aload_n 0, 1) := by decide +kernel
theorem dX11_readName_77 : decode cX11_readName 77 = .ok (.getfield 30, 3) := by decide +kernel
theorem dX11_readName_80 : decode cX11_readName 80 = .ok (.aload_n 0, 1) := by decide +kernel
theorem dX11_readName_81 : decode cX11_readName 81 = .ok (.getfield 163, 3) := by decide +kernel
theorem dX11_readName_84 : decode cX11_readName 84 = .ok (.laload, 1) := by decide +kernel
theorem dX11_readName_85 : decode cX11_readName 85 = .ok (.lastore, 1) := by decide +kernel
theorem dX11_readName_86 : decode cX11_readName 86 = .ok (.aload_n 0, 1) := by decide +kernel
theorem dX11_readName_87 : decode cX11_readName 87 = .ok (.getfield 111, 3) := by decide +kernel
theorem dX11_readName_90 : decode cX11_readName 90 = .ok (.aload_n 0, 1) := by decide +kernel
theorem dX11_readName_91 : decode cX11_readName 91 = .ok (.getfield 191, 3) := by decide +kernel
theorem dX11_readName_94 : decode cX11_readName 94 = .ok (.iload_n 3, 1) := by decide +kernel
theorem dX11_readName_95 : decode cX11_readName 95 = .ok (.iload 4, 2) := by decide +kernel
theorem dX11_readName_97 : decode cX11_readName 97 = .ok (.iadd, 1) := by decide +kernel
theorem dX11_readName_98 : decode cX11_readName 98 = .ok (.iastore, 1) := by decide +kernel
theorem dX11_readName_99 : decode cX11_readName 99 = .ok (.aload_n 0, 1) := by decide +kernel
theorem dX11_readName_100 : decode cX11_readName 100 = .ok (.dup, 1) := by decide +kernel
theorem dX11_readName_101 : decode cX11_readName 101 = .ok (.getfield 191, 3) := by decide +kernel
theorem dX11_readName_104 : decode cX11_readName 104 = .ok (.iconst 1, 1) := by decide +kernel
theorem dX11_readName_105 : decode cX11_readName 105 = .ok (.iadd, 1) := by decide +kernel
theorem dX11_readName_106 : decode cX11_readName 106 = .ok (.putfield 191, 3) := by decide +kernel
theorem dX11_readName_109 : decode cX11_readName 109 = .ok (.aload_n 0, 1) := by decide +kernel
theorem dX11_readName_110 : decode cX11_readName 110 = .ok (.dup, 1) := by decide +kernel
theorem dX11_readName_111 : decode cX11_readName 111 = .ok (.getfield 163, 3) := by decide +kernel
theorem dX11_readName_114 : decode cX11_readName 114 = .ok (.iconst 1, 1) := by decide +kernel
theorem dX11_readName_115 : decode cX11_readName 115 = .ok (.iadd, 1) := by decide +kernel
theorem dX11_readName_116 : decode cX11_readName 116 = .ok (.putfield 163, 3) := by decide +kernel
theorem dX11_readName_119 : decode cX11_readName 119 = .ok (.aload_n 0, 1) := by decide +kernel
theorem dX11_readName_120 : decode cX11_readName 120 = .ok (.getfield 93, 3) := by decide +kernel
theorem dX11_readName_123 : decode cX11_readName 123 = .ok (.bipush 70, 2) := by decide +kernel
theorem dX11_readName_125 : decode cX11_readName 125 = .ok (.iload_n 1, 1) := by decide +kernel
theorem dX11_readName_126 : decode cX11_readName 126 = .ok (.iadd, 1) := by decide +kernel
theorem dX11_readName_127 : decode cX11_readName 127 = .ok (.dup2, 1) := by decide +kernel
theorem dX11_readName_128 : decode cX11_readName 128 = .ok (.iaload, 1) := by decide +kernel
theorem dX11_readName_129 : decode cX11_readName 129 = .ok (.iconst 1, 1) := by decide +kernel
theorem dX11_readName_130 : decode cX11_readName 130 = .ok (.iadd, 1) := by decide +kernel
theorem dX11_readName_131 : decode cX11_readName 131 = .ok (.iastore, 1) := by decide +kernel
theorem dX11_readName_132 : decode cX11_readName 132 = .ok (.return_, 1) := by decide +kernel
theorem dX11_readWay_0 : decode cX11_readWay 0 = .ok (.aload_n 0, 1) := by decide +kernel
theorem dX11_readWay_1 : decode cX11_readWay 1 = .ok (.getfield 93, 3) := by decide +kernel
theorem dX11_readWay_4 : decode cX11_readWay 4 = .ok (.bipush 71, 2) := by decide +kernel
theorem dX11_readWay_6 : decode cX11_readWay 6 = .ok (.iaload, 1) := by decide +kernel
theorem dX11_readWay_7 : decode cX11_readWay 7 = .ok (.istore_n 1, 1) := by decide +kernel
theorem dX11_readWay_8 : decode cX11_readWay 8 = .ok (.iload_n 1, 1) := by decide +kernel
theorem dX11_readWay_9 : decode cX11_readWay 9 = .ok (.bipush 8, 2) := by decide +kernel
theorem dX11_readWay_11 : decode cX11_readWay 11 = .ok (.if_icmp .ne 9, 3) := by decide +kernel
theorem dX11_readWay_14 : decode cX11_readWay 14 = .ok (.aload_n 0, 1) := by decide +kernel
theorem dX11_readWay_15 : decode cX11_readWay 15 = .ok (.iconst 5, 1) := by decide +kernel
theorem dX11_readWay_16 : decode cX11_readWay 16 = .ok (.invokevirtual 172, 3) := by decide +kernel
theorem dX11_readWay_19 : decode cX11_readWay 19 = .ok (.return_, 1) := by decide +kernel
theorem dX11_readWay_20 : decode cX11_readWay 20 = .ok (.aload_n 0, 1) := by decide +kernel
theorem dX11_readWay_21 : decode cX11_readWay 21 = .ok (.dup, 1) := by decide +kernel
theorem dX11_readWay_22 : decode cX11_readWay 22 = .ok (.getfield 163, 3) := by decide +kernel
theorem dX11_readWay_25 : decode cX11_readWay 25 = .ok (.iconst 1, 1) := by decide +kernel
theorem dX11_readWay_26 : decode cX11_readWay 26 = .ok (.iadd, 1) := by decide +kernel
theorem dX11_readWay_27 : decode cX11_readWay 27 = .ok (.putfield 163, 3) := by decide +kernel
theorem dX11_readWay_30 : decode cX11_readWay 30 = .ok (.aload_n 0, 1) := by decide +kernel
theorem dX11_readWay_31 : decode cX11_readWay 31 = .ok (.iconst 1, 1) := by decide +kernel
theorem dX11_readWay_32 : decode cX11_readWay 32 = .ok (.iconst 0, 1) := by decide +kernel
theorem dX11_readWay_33 : decode cX11_readWay 33 = .ok (.iconst 0, 1) := by decide +kernel
theorem dX11_readWay_34 : decode cX11_readWay 34 = .ok (.invokevirtual 241, 3) := by decide +kernel
theorem dX11_readWay_37 : decode cX11_readWay 37 = .ok (.istore_n 2, 1) := by decide +kernel
theorem dX11_readWay_38 : decode cX11_readWay 38 = .ok (.iconst 1, 1) := by decide +kernel
theorem dX11_readWay_39 : decode cX11_readWay 39 = .ok (.iload_n 2, 1) := by decide +kernel
theorem dX11_readWay_40 : decode cX11_readWay 40 = .ok (.ishl, 1) := by decide +kernel
theorem dX11_readWay_41 : decode cX11_readWay 41 = .ok (.istore_n 3, 1) := by decide +kernel
theorem dX11_readWay_42 : decode cX11_readWay 42 = .ok (.iconst 0, 1) := by decide +kernel
theorem dX11_readWay_43 : decode cX11_readWay 43 = .ok (.istore 4, 2) := by decide +kernel
theorem dX11_readWay_45 : decode cX11_readWay 45 = .ok (.iload 4, 2) := by decide +kernel
theorem dX11_readWay_47 : decode cX11_readWay 47 = .ok (.iload_n 1, 1) := by decide +kernel
theorem dX11_readWay_48 : decode cX11_readWay 48 = .ok (.if_icmp .ge 72, 3) := by decide +kernel
theorem dX11_readWay_51 : decode cX11_readWay 51 = .ok (.bipush 82, 2) := by decide +kernel
theorem dX11_readWay_53 : decode cX11_readWay 53 = .ok (.iconst 4, 1) := by decide +kernel
theorem dX11_readWay_54 : decode cX11_readWay 54 = .ok (.iload 4, 2) := by decide +kernel
theorem dX11_readWay_56 : decode cX11_readWay 56 = .ok (.imul, 1) := by decide +kernel
theorem dX11_readWay_57 : decode cX11_readWay 57 = .ok (.iadd, 1) := by decide +kernel
theorem dX11_readWay_58 : decode cX11_readWay 58 = .ok (.istore 5, 2) := by decide +kernel
theorem dX11_readWay_60 : decode cX11_readWay 60 = .ok (.iload_n 3, 1) := by decide +kernel
theorem dX11_readWay_61 : decode cX11_readWay 61 = .ok (.aload_n 0, 1) := by decide +kernel
theorem dX11_readWay_62 : decode cX11_readWay 62 = .ok (.getfield 93, 3) := by decide +kernel
theorem dX11_readWay_65 : decode cX11_readWay 65 = .ok (.iload 5, 2) := by decide +kernel
theorem dX11_readWay_67 : decode cX11_readWay 67 = .ok (.iaload, 1) := by decide +kernel
theorem dX11_readWay_68 : decode cX11_readWay 68 = .ok (.iload_n 2, 1) := by decide +kernel
theorem dX11_readWay_69 : decode cX11_readWay 69 = .ok (.if_icmp .ne 17, 3) := by decide +kernel
theorem dX11_readWay_72 : decode cX11_readWay 72 = .ok (.iconst 1, 1) := by decide +kernel
theorem dX11_readWay_73 : decode cX11_readWay 73 = .ok (.aload_n 0, 1) := by decide +kernel
theorem dX11_readWay_74 : decode cX11_readWay 74 = .ok (.getfield 93, 3) := by decide +kernel
theorem dX11_readWay_77 : decode cX11_readWay 77 = .ok (.iload 5, 2) := by decide +kernel
theorem dX11_readWay_79 : decode cX11_readWay 79 = .ok (.iconst 1, 1) := by decide +kernel
theorem dX11_readWay_80 : decode cX11_readWay 80 = .ok (.iadd, 1) := by decide +kernel
theorem dX11_readWay_81 : decode cX11_readWay 81 = .ok (.iaload, 1) := by decide +kernel
theorem dX11_readWay_82 : decode cX11_readWay 82 = .ok (.ishl, 1) := by decide +kernel
theorem dX11_readWay_83 : decode cX11_readWay 83 = .ok (.goto 29, 3) := by decide +kernel
theorem dX11_readWay_86 : decode cX11_readWay 86 = .ok (.aload_n 0, 1) := by decide +kernel
theorem dX11_readWay_87 : decode cX11_readWay 87 = .ok (.getfield 93, 3) := by decide +kernel
theorem dX11_readWay_90 : decode cX11_readWay 90 = .ok (.iload 5, 2) := by decide +kernel
theorem dX11_readWay_92 : decode cX11_readWay 92 = .ok (.iconst 1, 1) := by decide +kernel
theorem dX11_readWay_93 : decode cX11_readWay 93 = .ok (.iadd, 1) := by decide +kernel
theorem dX11_readWay_94 : decode cX11_readWay 94 = .ok (.iaload, 1) := by decide +kernel
theorem dX11_readWay_95 : decode cX11_readWay 95 = .ok (.iload_n 2, 1) := by decide +kernel
theorem dX11_readWay_96 : decode cX11_readWay 96 = .ok (.if_icmp .ne 15, 3) := by decide +kernel
theorem dX11_readWay_99 : decode cX11_readWay 99 = .ok (.iconst 1, 1) := by decide +kernel
theorem dX11_readWay_100 : decode cX11_readWay 100 = .ok (.aload_n 0, 1) := by decide +kernel
theorem dX11_readWay_101 : decode cX11_readWay 101 = .ok (.getfield 93, 3) := by decide +kernel
theorem dX11_readWay_104 : decode cX11_readWay 104 = .ok (.iload 5, 2) := by decide +kernel
theorem dX11_readWay_106 : decode cX11_readWay 106 = .ok (.iaload, 1) := by decide +kernel
theorem dX11_readWay_107 : decode cX11_readWay 107 = .ok (.ishl, 1) := by decide +kernel
theorem dX11_readWay_108 : decode cX11_readWay 108 = .ok (.goto 4, 3) := by decide +kernel
theorem dX11_readWay_111 : decode cX11_readWay 111 = .ok (.iconst 0, 1) := by decide +kernel
theorem dX11_readWay_112 : decode cX11_readWay 112 = .ok (.ior, 1) := by decide +kernel
theorem dX11_readWay_113 : decode cX11_readWay 113 = .ok (.istore_n 3, 1) := by decide +kernel
theorem dX11_readWay_114 : decode cX11_readWay 114 = .ok (.iinc 4 1, 3) := by decide +kernel
theorem dX11_readWay_117 : decode cX11_readWay 117 = .ok (.goto (-72), 3) := by decide +kernel
theorem dX11_readWay_120 : decode cX11_readWay 120 = .ok (.aload_n 0, 1) := by decide +kernel
theorem dX11_readWay_121 : decode cX11_readWay 121 = .ok (.iconst 1, 1) := by decide +kernel
theorem dX11_readWay_122 : decode cX11_readWay 122 = .ok (.iconst 0, 1) := by decide +kernel
theorem dX11_readWay_123 : decode cX11_readWay 123 = .ok (.iload_n 3, 1) := by decide +kernel
theorem dX11_readWay_124 : decode cX11_readWay 124 = .ok (.invokevirtual 241, 3) := by decide +kernel
theorem dX11_readWay_127 : decode cX11_readWay 127 = .ok (.istore 4, 2) := by decide +kernel
theorem dX11_readWay_129 : decode cX11_readWay 129 = .ok (.aload_n 0, 1) := by decide +kernel
theorem dX11_readWay_130 : decode cX11_readWay 130 = .ok (.bipush 8, 2) := by decide +kernel
theorem dX11_readWay_132 : decode cX11_readWay 132 = .ok (.iconst 2, 1) := by decide +kernel
theorem dX11_readWay_133 : decode cX11_readWay 133 = .ok (.invokevirtual 235, 3) := by decide +kernel
theorem dX11_readWay_136 : decode cX11_readWay 136 = .ok (.istore 5, 2) := by decide +kernel
theorem dX11_readWay_138 : decode cX11_readWay 138 = .ok (.aload_n 0, 1) := by decide +kernel
theorem dX11_readWay_139 : decode cX11_readWay 139 = .ok (.iconst 3, 1) := by decide +kernel
theorem dX11_readWay_140 : decode cX11_readWay 140 = .ok (.iconst 1, 1) := by decide +kernel
theorem dX11_readWay_141 : decode cX11_readWay 141 = .ok (.bipush 9, 2) := by decide +kernel
theorem dX11_readWay_143 : decode cX11_readWay 143 = .ok (.invokevirtual 228, 3) := by decide +kernel
theorem dX11_readWay_146 : decode cX11_readWay 146 = .ok (.istore 6, 2) := by decide +kernel
theorem dX11_readWay_148 : decode cX11_readWay 148 = .ok (.aload_n 0, 1) := by decide +kernel
theorem dX11_readWay_149 : decode cX11_readWay 149 = .ok (.getfield 166, 3) := by decide +kernel
theorem dX11_readWay_152 : decode cX11_readWay 152 = .ok (.ifCond .ne 65, 3) := by decide +kernel
theorem dX11_readWay_155 : decode cX11_readWay 155 = .ok (.bipush 82, 2) := by decide +kernel
theorem dX11_readWay_157 : decode cX11_readWay 157 = .ok (.iconst 4, 1) := by decide +kernel
theorem dX11_readWay_158 : decode cX11_readWay 158 = .ok (.iload_n 1, 1) := by decide +kernel
theorem dX11_readWay_159 : decode cX11_readWay 159 = .ok (.imul, 1) := by decide +kernel
theorem dX11_readWay_160 : decode cX11_readWay 160 = .ok (.iadd, 1) := by decide +kernel
theorem dX11_readWay_161 : decode cX11_readWay 161 = .ok (.istore 7, 2) := by decide +kernel
theorem dX11_readWay_163 : decode cX11_readWay 163 = .ok (.aload_n 0, 1) := by decide +kernel
theorem dX11_readWay_164 : decode cX11_readWay 164 = .ok (.getfield 93, 3) := by decide +kernel
theorem dX11_readWay_167 : decode cX11_readWay 167 = .ok (.iload 7, 2) := by decide +kernel
theorem dX11_readWay_169 : decode cX11_readWay 169 = .ok (.iload_n 2, 1) := by decide +kernel
theorem dX11_readWay_170 : decode cX11_readWay 170 = .ok (.iastore, 1) := by decide +kernel
theorem dX11_readWay_171 : decode cX11_readWay 171 = .ok (.aload_n 0, 1) := by decide +kernel
theorem dX11_readWay_172 : decode cX11_readWay 172 = .ok (.getfield 93, 3) := by decide +kernel
theorem dX11_readWay_175 : decode cX11_readWay 175 = .ok (.iload 7, 2) := by decide +kernel
theorem dX11_readWay_177 : decode cX11_readWay 177 = .ok (.iconst 1, 1) := by decide +kernel
theorem dX11_readWay_178 : decode cX11_readWay 178 = .ok (.iadd, 1) := by decide +kernel
theorem dX11_readWay_179 : decode cX11_readWay 179 = .ok (.iload 4, 2) := by decide +kernel
theorem dX11_readWay_181 : decode cX11_readWay 181 = .ok (.iastore, 1) := by decide +kernel
theorem dX11_readWay_182 : decode cX11_readWay 182 = .ok (.aload_n 0, 1) := by decide +kernel
theorem dX11_readWay_183 : decode cX11_readWay 183 = .ok (.getfield 93, 3) := by decide +kernel
theorem dX11_readWay_186 : decode cX11_readWay 186 = .ok (.iload 7, 2) := by decide +kernel
theorem dX11_readWay_188 : decode cX11_readWay 188 = .ok (.iconst 2, 1) := by decide +kernel
theorem dX11_readWay_189 : decode cX11_readWay 189 = .ok (.iadd, 1) := by decide +kernel
theorem dX11_readWay_190 : decode cX11_readWay 190 = .ok (.iload 6, 2) := by decide +kernel
theorem dX11_readWay_192 : decode cX11_readWay 192 = .ok (.iastore, 1) := by decide +kernel
theorem dX11_readWay_193 : decode cX11_readWay 193 = .ok (.aload_n 0, 1) := by decide +kernel
theorem dX11_readWay_194 : decode cX11_readWay 194 = .ok (.getfield 93, 3) := by decide +kernel
theorem dX11_readWay_197 : decode cX11_readWay 197 = .ok (.iload 7, 2) := by decide +kernel
