theorem dX0_init_0 : decode cX0_init 0 = .ok (.aload_n 0, 1) := by decide +kernel
theorem dX0_init_1 : decode cX0_init 1 = .ok (.invokespecial 3, 3) := by decide +kernel
theorem dX0_init_4 : decode cX0_init 4 = .ok (.aload_n 0, 1) := by decide +kernel
theorem dX0_init_5 : decode cX0_init 5 = .ok (.bipush 7, 2) := by decide +kernel
theorem dX0_init_7 : decode cX0_init 7 = .ok (.newarray .long, 2) := by decide +kernel
theorem dX0_init_9 : decode cX0_init 9 = .ok (.putfield 9, 3) := by decide +kernel
theorem dX0_init_12 : decode cX0_init 12 = .ok (.aload_n 0, 1) := by decide +kernel
theorem dX0_init_13 : decode cX0_init 13 = .ok (.bipush 7, 2) := by decide +kernel
theorem dX0_init_15 : decode cX0_init 15 = .ok (.newarray .int, 2) := by decide +kernel
theorem dX0_init_17 : decode cX0_init 17 = .ok (.putfield 15, 3) := by decide +kernel
theorem dX0_init_20 : decode cX0_init 20 = .ok (.aload_n 0, 1) := by decide +kernel
theorem dX0_init_21 : decode cX0_init 21 = .ok (.bipush 8, 2) := by decide +kernel
theorem dX0_init_23 : decode cX0_init 23 = .ok (.newarray .int, 2) := by decide +kernel
theorem dX0_init_25 : decode cX0_init 25 = .ok (.putfield 19, 3) := by decide +kernel
theorem dX0_init_28 : decode cX0_init 28 = .ok (.aload_n 0, 1) := by decide +kernel
theorem dX0_init_29 : decode cX0_init 29 = .ok (.bipush 8, 2) := by decide +kernel
theorem dX0_init_31 : decode cX0_init 31 = .ok (.newarray .int, 2) := by decide +kernel
theorem dX0_init_33 : decode cX0_init 33 = .ok (.putfield 22, 3) := by decide +kernel
theorem dX0_init_36 : decode cX0_init 36 = .ok (.aload_n 0, 1) := by decide +kernel
theorem dX0_init_37 : decode cX0_init 37 = .ok (.bipush 8, 2) := by decide +kernel
theorem dX0_init_39 : decode cX0_init 39 = .ok (.newarray .int, 2) := by decide +kernel
theorem dX0_init_41 : decode cX0_init 41 = .ok (.putfield 25, 3) := by decide +kernel
theorem dX0_init_44 : decode cX0_init 44 = .ok (.aload_n 0, 1) := by decide +kernel
theorem dX0_init_45 : decode cX0_init 45 = .ok (.bipush 8, 2) := by decide +kernel
theorem dX0_init_47 : decode cX0_init 47 = .ok (.newarray .boolean, 2) := by decide +kernel
theorem dX0_init_49 : decode cX0_init 49 = .ok (.putfield 28, 3) := by decide +kernel
theorem dX0_init_52 : decode cX0_init 52 = .ok (.aload_n 0, 1) := by decide +kernel
theorem dX0_init_53 : decode cX0_init 53 = .ok (.iconst 4, 1) := by decide +kernel
theorem dX0_init_54 : decode cX0_init 54 = .ok (.newarray .long, 2) := by decide +kernel
theorem dX0_init_56 : decode cX0_init 56 = .ok (.putfield 32, 3) := by decide +kernel
theorem dX0_init_59 : decode cX0_init 59 = .ok (.aload_n 0, 1) := by decide +kernel
theorem dX0_init_60 : decode cX0_init 60 = .ok (.iconst 4, 1) := by decide +kernel
theorem dX0_init_61 : decode cX0_init 61 = .ok (.newarray .int, 2) := by decide +kernel
theorem dX0_init_63 : decode cX0_init 63 = .ok (.putfield 35, 3) := by decide +kernel
theorem dX0_init_66 : decode cX0_init 66 = .ok (.aload_n 0, 1) := by decide +kernel
theorem dX0_init_67 : decode cX0_init 67 = .ok (.iconst 4, 1) := by decide +kernel
theorem dX0_init_68 : decode cX0_init 68 = .ok (.newarray .int, 2) := by decide +kernel
theorem dX0_init_70 : decode cX0_init 70 = .ok (.putfield 38, 3) := by decide +kernel
theorem dX0_init_73 : decode cX0_init 73 = .ok (.aload_n 0, 1) := by decide +kernel
theorem dX0_init_74 : decode cX0_init 74 = .ok (.bipush 12, 2) := by decide +kernel
theorem dX0_init_76 : decode cX0_init 76 = .ok (.newarray .int, 2) := by decide +kernel
theorem dX0_init_78 : decode cX0_init 78 = .ok (.putfield 41, 3) := by decide +kernel
theorem dX0_init_81 : decode cX0_init 81 = .ok (.aload_n 0, 1) := by decide +kernel
theorem dX0_init_82 : decode cX0_init 82 = .ok (.new 44, 3) := by decide +kernel
theorem dX0_init_85 : decode cX0_init 85 = .ok (.dup, 1) := by decide +kernel
theorem dX0_init_86 : decode cX0_init 86 = .ok (.invokespecial 46, 3) := by decide +kernel
theorem dX0_init_89 : decode cX0_init 89 = .ok (.putfield 47, 3) := by decide +kernel
theorem dX0_init_92 : decode cX0_init 92 = .ok (.return_, 1) := by decide +kernel
theorem dX0_reads_0 : decode cX0_reads 0 = .ok (.aload_n 0, 1) := by decide +kernel
theorem dX0_reads_1 : decode cX0_reads 1 = .ok (.iconst 0, 1) := by decide +kernel
theorem dX0_reads_2 : decode cX0_reads 2 = .ok (.putfield 51, 3) := by decide +kernel
theorem dX0_reads_5 : decode cX0_reads 5 = .ok (.aload_n 0, 1) := by decide +kernel
theorem dX0_reads_6 : decode cX0_reads 6 = .ok (.iconst 0, 1) := by decide +kernel
theorem dX0_reads_7 : decode cX0_reads 7 = .ok (.putfield 55, 3) := by decide +kernel
theorem dX0_reads_10 : decode cX0_reads 10 = .ok (.aload_n 0, 1) := by decide +kernel
theorem dX0_reads_11 : decode cX0_reads 11 = .ok (.iconst 0, 1) := by decide +kernel
theorem dX0_reads_12 : decode cX0_reads 12 = .ok (.putfield 58, 3) := by decide +kernel
theorem dX0_reads_15 : decode cX0_reads 15 = .ok (.aload_n 0, 1) := by decide +kernel
theorem dX0_reads_16 : decode cX0_reads 16 = .ok (.iconst 0, 1) := by decide +kernel
theorem dX0_reads_17 : decode cX0_reads 17 = .ok (.putfield 61, 3) := by decide +kernel
theorem dX0_reads_20 : decode cX0_reads 20 = .ok (.aload_n 0, 1) := by decide +kernel
theorem dX0_reads_21 : decode cX0_reads 21 = .ok (.iconst 0, 1) := by decide +kernel
theorem dX0_reads_22 : decode cX0_reads 22 = .ok (.putfield 64, 3) := by decide +kernel
theorem dX0_reads_25 : decode cX0_reads 25 = .ok (.aload_n 0, 1) := by decide +kernel
theorem dX0_reads_26 : decode cX0_reads 26 = .ok (.getfield 47, 3) := by decide +kernel
theorem dX0_reads_29 : decode cX0_reads 29 = .ok (.invokevirtual 68, 3) := by decide +kernel
theorem dX0_reads_32 : decode cX0_reads 32 = .ok (.iconst 1, 1) := by decide +kernel
theorem dX0_reads_33 : decode cX0_reads 33 = .ok (.istore_n 2, 1) := by decide +kernel
theorem dX0_reads_34 : decode cX0_reads 34 = .ok (.iconst 0, 1) := by decide +kernel
theorem dX0_reads_35 : decode cX0_reads 35 = .ok (.istore_n 3, 1) := by decide +kernel
theorem dX0_reads_36 : decode cX0_reads 36 = .ok (.iload_n 2, 1) := by decide +kernel
theorem dX0_reads_37 : decode cX0_reads 37 = .ok (.ifCond .eq 49, 3) := by decide +kernel
theorem dX0_reads_40 : decode cX0_reads 40 = .ok (.iload_n 3, 1) := by decide +kernel
theorem dX0_reads_41 : decode cX0_reads 41 = .ok (.sipush 1000, 3) := by decide +kernel
theorem dX0_reads_44 : decode cX0_reads 44 = .ok (.if_icmp .ge 42, 3) := by decide +kernel
theorem dX0_reads_47 : decode cX0_reads 47 = .ok (.aload_n 1, 1) := by decide +kernel
theorem dX0_reads_48 : decode cX0_reads 48 = .ok (.getfield 71, 3) := by decide +kernel
theorem dX0_reads_51 : decode cX0_reads 51 = .ok (.getfield 77, 3) := by decide +kernel
theorem dX0_reads_54 : decode cX0_reads 54 = .ok (.ifCond .eq 32, 3) := by decide +kernel
theorem dX0_reads_57 : decode cX0_reads 57 = .ok (.aload_n 0, 1) := by decide +kernel
theorem dX0_reads_58 : decode cX0_reads 58 = .ok (.aload_n 1, 1) := by decide +kernel
theorem dX0_reads_59 : decode cX0_reads 59 = .ok (.invokevirtual 82, 3) := by decide +kernel
theorem dX0_reads_62 : decode cX0_reads 62 = .ok (.ifCond .eq 16, 3) := by decide +kernel
theorem dX0_reads_65 : decode cX0_reads 65 = .ok (.aload_n 1, 1) := by decide +kernel
theorem dX0_reads_66 : decode cX0_reads 66 = .ok (.bipush 59, 2) := by decide +kernel
theorem dX0_reads_68 : decode cX0_reads 68 = .ok (.invokevirtual 86, 3) := by decide +kernel
theorem dX0_reads_71 : decode cX0_reads 71 = .ok (.ifCond .eq 7, 3) := by decide +kernel
theorem dX0_reads_74 : decode cX0_reads 74 = .ok (.iconst 1, 1) := by decide +kernel
theorem dX0_reads_75 : decode cX0_reads 75 = .ok (.goto 4, 3) := by decide +kernel
theorem dX0_reads_78 : decode cX0_reads 78 = .ok (.iconst 0, 1) := by decide +kernel
theorem dX0_reads_79 : decode cX0_reads 79 = .ok (.istore_n 2, 1) := by decide +kernel
theorem dX0_reads_80 : decode cX0_reads 80 = .ok (.iinc 3 1, 3) := by decide +kernel
theorem dX0_reads_83 : decode cX0_reads 83 = .ok (.goto (-47), 3) := by decide +kernel
theorem dX0_reads_86 : decode cX0_reads 86 = .ok (.return_, 1) := by decide +kernel
theorem dX0_readsLine_0 : decode cX0_readsLine 0 = .ok (.aload_n 1, 1) := by decide +kernel
theorem dX0_readsLine_1 : decode cX0_readsLine 1 = .ok (.getfield 71, 3) := by decide +kernel
theorem dX0_readsLine_4 : decode cX0_readsLine 4 = .ok (.getfield 90, 3) := by decide +kernel
theorem dX0_readsLine_7 : decode cX0_readsLine 7 = .ok (.astore_n 2, 1) := by decide +kernel
theorem dX0_readsLine_8 : decode cX0_readsLine 8 = .ok (.aload_n 2, 1) := by decide +kernel
theorem dX0_readsLine_9 : decode cX0_readsLine 9 = .ok (.getstatic 94, 3) := by decide +kernel
theorem dX0_readsLine_12 : decode cX0_readsLine 12 = .ok (.if_acmp .ne 26, 3) := by decide +kernel
theorem dX0_readsLine_15 : decode cX0_readsLine 15 = .ok (.aload_n 0, 1) := by decide +kernel
theorem dX0_readsLine_16 : decode cX0_readsLine 16 = .ok (.getfield 51, 3) := by decide +kernel
theorem dX0_readsLine_19 : decode cX0_readsLine 19 = .ok (.bipush 7, 2) := by decide +kernel
theorem dX0_readsLine_21 : decode cX0_readsLine 21 = .ok (.if_icmp .ge 11, 3) := by decide +kernel
theorem dX0_readsLine_24 : decode cX0_readsLine 24 = .ok (.aload_n 0, 1) := by decide +kernel
theorem dX0_readsLine_25 : decode cX0_readsLine 25 = .ok (.aload_n 1, 1) := by decide +kernel
theorem dX0_readsLine_26 : decode cX0_readsLine 26 = .ok (.invokevirtual 99, 3) := by decide +kernel
theorem dX0_readsLine_29 : decode cX0_readsLine 29 = .ok (.goto 8, 3) := by decide +kernel
theorem dX0_readsLine_32 : decode cX0_readsLine 32 = .ok (.aload_n 1, 1) := by decide +kernel
theorem dX0_readsLine_33 : decode cX0_readsLine 33 = .ok (.iconst 5, 1) := by decide +kernel
theorem dX0_readsLine_34 : decode cX0_readsLine 34 = .ok (.invokevirtual 102, 3) := by decide +kernel
theorem dX0_readsLine_37 : decode cX0_readsLine 37 = .ok (.ireturn, 1) := by decide +kernel
theorem dX0_readsLine_38 : decode cX0_readsLine 38 = .ok (.aload_n 2, 1) := by decide +kernel
theorem dX0_readsLine_39 : decode cX0_readsLine 39 = .ok (.getstatic 106, 3) := by decide +kernel
theorem dX0_readsLine_42 : decode cX0_readsLine 42 = .ok (.if_acmp .ne 26, 3) := by decide +kernel
theorem dX0_readsLine_45 : decode cX0_readsLine 45 = .ok (.aload_n 0, 1) := by decide +kernel
theorem dX0_readsLine_46 : decode cX0_readsLine 46 = .ok (.getfield 55, 3) := by decide +kernel
theorem dX0_readsLine_49 : decode cX0_readsLine 49 = .ok (.bipush 8, 2) := by decide +kernel
theorem dX0_readsLine_51 : decode cX0_readsLine 51 = .ok (.if_icmp .ge 11, 3) := by decide +kernel
theorem dX0_readsLine_54 : decode cX0_readsLine 54 = .ok (.aload_n 0, 1) := by decide +kernel
theorem dX0_readsLine_55 : decode cX0_readsLine 55 = .ok (.aload_n 1, 1) := by decide +kernel
theorem dX0_readsLine_56 : decode cX0_readsLine 56 = .ok (.invokevirtual 109, 3) := by decide +kernel
theorem dX0_readsLine_59 : decode cX0_readsLine 59 = .ok (.goto 8, 3) := by decide +kernel
theorem dX0_readsLine_62 : decode cX0_readsLine 62 = .ok (.aload_n 1, 1) := by decide +kernel
theorem dX0_readsLine_63 : decode cX0_readsLine 63 = .ok (.iconst 5, 1) := by decide +kernel
theorem dX0_readsLine_64 : decode cX0_readsLine 64 = .ok (.invokevirtual 102, 3) := by decide +kernel
theorem dX0_readsLine_67 : decode cX0_readsLine 67 = .ok (.ireturn, 1) := by decide +kernel
theorem dX0_readsLine_68 : decode cX0_readsLine 68 = .ok (.aload_n 2, 1) := by decide +kernel
theorem dX0_readsLine_69 : decode cX0_readsLine 69 = .ok (.getstatic 112, 3) := by decide +kernel
theorem dX0_readsLine_72 : decode cX0_readsLine 72 = .ok (.if_acmp .ne 25, 3) := by decide +kernel
theorem dX0_readsLine_75 : decode cX0_readsLine 75 = .ok (.aload_n 0, 1) := by decide +kernel
theorem dX0_readsLine_76 : decode cX0_readsLine 76 = .ok (.getfield 58, 3) := by decide +kernel
theorem dX0_readsLine_79 : decode cX0_readsLine 79 = .ok (.iconst 4, 1) := by decide +kernel
theorem dX0_readsLine_80 : decode cX0_readsLine 80 = .ok (.if_icmp .ge 11, 3) := by decide +kernel
theorem dX0_readsLine_83 : decode cX0_readsLine 83 = .ok (.aload_n 0, 1) := by decide +kernel
theorem dX0_readsLine_84 : decode cX0_readsLine 84 = .ok (.aload_n 1, 1) := by decide +kernel
theorem dX0_readsLine_85 : decode cX0_readsLine 85 = .ok (.invokevirtual 115, 3) := by decide +kernel
theorem dX0_readsLine_88 : decode cX0_readsLine 88 = .ok (.goto 8, 3) := by decide +kernel
theorem dX0_readsLine_91 : decode cX0_readsLine 91 = .ok (.aload_n 1, 1) := by decide +kernel
theorem dX0_readsLine_92 : decode cX0_readsLine 92 = .ok (.iconst 5, 1) := by decide +kernel
theorem dX0_readsLine_93 : decode cX0_readsLine 93 = .ok (.invokevirtual 102, 3) := by decide +kernel
theorem dX0_readsLine_96 : decode cX0_readsLine 96 = .ok (.ireturn, 1) := by decide +kernel
theorem dX0_readsLine_97 : decode cX0_readsLine 97 = .ok (.aload_n 2, 1) := by decide +kernel
theorem dX0_readsLine_98 : decode cX0_readsLine 98 = .ok (.getstatic 118, 3) := by decide +kernel
theorem dX0_readsLine_101 : decode cX0_readsLine 101 = .ok (.if_acmp .ne 24, 3) := by decide +kernel
theorem dX0_readsLine_104 : decode cX0_readsLine 104 = .ok (.aload_n 0, 1) := by decide +kernel
theorem dX0_readsLine_105 : decode cX0_readsLine 105 = .ok (.getfield 61, 3) := by decide +kernel
theorem dX0_readsLine_108 : decode cX0_readsLine 108 = .ok (.ifCond .ne 11, 3) := by decide +kernel
theorem dX0_readsLine_111 : decode cX0_readsLine 111 = .ok (.aload_n 0, 1) := by decide +kernel
theorem dX0_readsLine_112 : decode cX0_readsLine 112 = .ok (.aload_n 1, 1) := by decide +kernel
theorem dX0_readsLine_113 : decode cX0_readsLine 113 = .ok (.invokevirtual 121, 3) := by decide +kernel
theorem dX0_readsLine_116 : decode cX0_readsLine 116 = .ok (.goto 8, 3) := by decide +kernel
theorem dX0_readsLine_119 : decode cX0_readsLine 119 = .ok (.aload_n 1, 1) := by decide +kernel
theorem dX0_readsLine_120 : decode cX0_readsLine 120 = .ok (.iconst 3, 1) := by decide +kernel
theorem dX0_readsLine_121 : decode cX0_readsLine 121 = .ok (.invokevirtual 102, 3) := by decide +kernel
theorem dX0_readsLine_124 : decode cX0_readsLine 124 = .ok (.ireturn, 1) := by decide +kernel
theorem dX0_readsLine_125 : decode cX0_readsLine 125 = .ok (.aload_n 2, 1) := by decide +kernel
theorem dX0_readsLine_126 : decode cX0_readsLine 126 = .ok (.getstatic 124, 3) := by decide +kernel
theorem dX0_readsLine_129 : decode cX0_readsLine 129 = .ok (.if_acmp .ne 24, 3) := by decide +kernel
theorem dX0_readsLine_132 : decode cX0_readsLine 132 = .ok (.aload_n 0, 1) := by decide +kernel
theorem dX0_readsLine_133 : decode cX0_readsLine 133 = .ok (.getfield 64, 3) := by decide +kernel
theorem dX0_readsLine_136 : decode cX0_readsLine 136 = .ok (.ifCond .eq 11, 3) := by decide +kernel
theorem dX0_readsLine_139 : decode cX0_readsLine 139 = .ok (.aload_n 1, 1) := by decide +kernel
theorem dX0_readsLine_140 : decode cX0_readsLine 140 = .ok (.iconst 3, 1) := by decide +kernel
theorem dX0_readsLine_141 : decode cX0_readsLine 141 = .ok (.invokevirtual 102, 3) := by decide +kernel
theorem dX0_readsLine_144 : decode cX0_readsLine 144 = .ok (.goto 8, 3) := by decide +kernel
theorem dX0_readsLine_147 : decode cX0_readsLine 147 = .ok (.aload_n 0, 1) := by decide +kernel
theorem dX0_readsLine_148 : decode cX0_readsLine 148 = .ok (.aload_n 1, 1) := by decide +kernel
theorem dX0_readsLine_149 : decode cX0_readsLine 149 = .ok (.invokevirtual 127, 3) := by decide +kernel
theorem dX0_readsLine_152 : decode cX0_readsLine 152 = .ok (.ireturn, 1) := by decide +kernel
theorem dX0_readsLine_153 : decode cX0_readsLine 153 = .ok (.aload_n 1, 1) := by decide +kernel
theorem dX0_readsLine_154 : decode cX0_readsLine 154 = .ok (.iconst 1, 1) := by decide +kernel
theorem dX0_readsLine_155 : decode cX0_readsLine 155 = .ok (.invokevirtual 102, 3) := by decide +kernel
theorem dX0_readsLine_158 : decode cX0_readsLine 158 = .ok (.ireturn, 1) := by decide +kernel
theorem dX0_readsPlace_0 : decode cX0_readsPlace 0 = .ok (.aload_n 1, 1) := by decide +kernel
theorem dX0_readsPlace_1 : decode cX0_readsPlace 1 = .ok (.getfield 71, 3) := by decide +kernel
theorem dX0_readsPlace_4 : decode cX0_readsPlace 4 = .ok (.invokevirtual 130, 3) := by decide +kernel
theorem dX0_readsPlace_7 : decode cX0_readsPlace 7 = .ok (.aload_n 1, 1) := by decide +kernel
theorem dX0_readsPlace_8 : decode cX0_readsPlace 8 = .ok (.getfield 71, 3) := by decide +kernel
theorem dX0_readsPlace_11 : decode cX0_readsPlace 11 = .ok (.getfield 133, 3) := by decide +kernel
theorem dX0_readsPlace_14 : decode cX0_readsPlace 14 = .ok (.lstore_n 2, 1) := by decide +kernel
theorem dX0_readsPlace_15 : decode cX0_readsPlace 15 = .ok (.aload_n 0, 1) := by decide +kernel
theorem dX0_readsPlace_16 : decode cX0_readsPlace 16 = .ok (.aload_n 1, 1) := by decide +kernel
theorem dX0_readsPlace_17 : decode cX0_readsPlace 17 = .ok (.invokevirtual 137, 3) := by decide +kernel
theorem dX0_readsPlace_20 : decode cX0_readsPlace 20 = .ok (.ifCond .eq 23, 3) := by decide +kernel
theorem dX0_readsPlace_23 : decode cX0_readsPlace 23 = .ok (.aload_n 1, 1) := by decide +kernel
theorem dX0_readsPlace_24 : decode cX0_readsPlace 24 = .ok (.getstatic 140, 3) := by decide +kernel
theorem dX0_readsPlace_27 : decode cX0_readsPlace 27 = .ok (.invokevirtual 143, 3) := by decide +kernel
theorem dX0_readsPlace_30 : decode cX0_readsPlace 30 = .ok (.ifCond .eq 13, 3) := by decide +kernel
theorem dX0_readsPlace_33 : decode cX0_readsPlace 33 = .ok (.aload_n 1, 1) := by decide +kernel
theorem dX0_readsPlace_34 : decode cX0_readsPlace 34 = .ok (.iconst 0, 1) := by decide +kernel
theorem dX0_readsPlace_35 : decode cX0_readsPlace 35 = .ok (.bipush 9, 2) := by decide +kernel
theorem dX0_readsPlace_37 : decode cX0_readsPlace 37 = .ok (.invokevirtual 147, 3) := by decide +kernel
theorem dX0_readsPlace_40 : decode cX0_readsPlace 40 = .ok (.ifCond .ne 5, 3) := by decide +kernel
theorem dX0_readsPlace_43 : decode cX0_readsPlace 43 = .ok (.iconst 0, 1) := by decide +kernel
theorem dX0_readsPlace_44 : decode cX0_readsPlace 44 = .ok (.ireturn, 1) := by decide +kernel
theorem dX0_readsPlace_45 : decode cX0_readsPlace 45 = .ok (.aload_n 0, 1) := by decide +kernel
theorem dX0_readsPlace_46 : decode cX0_readsPlace 46 = .ok (.getfield 9, 3) := by decide +kernel
theorem dX0_readsPlace_49 : decode cX0_readsPlace 49 = .ok (.aload_n 0, 1) := by decide +kernel
theorem dX0_readsPlace_50 : decode cX0_readsPlace 50 = .ok (.getfield 51, 3) := by decide +kernel
theorem dX0_readsPlace_53 : decode cX0_readsPlace 53 = .ok (.lload_n 2, 1) := by decide +kernel
theorem dX0_readsPlace_54 : decode cX0_readsPlace 54 = .ok (.lastore, 1) := by decide +kernel
theorem dX0_readsPlace_55 : decode cX0_readsPlace 55 = .ok (.aload_n 0, 1) := by decide +kernel
theorem dX0_readsPlace_56 : decode cX0_readsPlace 56 = .ok (.getfield 15, 3) := by decide +kernel
theorem dX0_readsPlace_59 : decode cX0_readsPlace 59 = .ok (.aload_n 0, 1) := by decide +kernel
theorem dX0_readsPlace_60 : decode cX0_readsPlace 60 = .ok (.getfield 51, 3) := by decide +kernel
theorem dX0_readsPlace_63 : decode cX0_readsPlace 63 = .ok (.aload_n 1, 1) := by decide +kernel
theorem dX0_readsPlace_64 : decode cX0_readsPlace 64 = .ok (.getfield 151, 3) := by decide +kernel
theorem dX0_readsPlace_67 : decode cX0_readsPlace 67 = .ok (.iastore, 1) := by decide +kernel
theorem dX0_readsPlace_68 : decode cX0_readsPlace 68 = .ok (.aload_n 0, 1) := by decide +kernel
theorem dX0_readsPlace_69 : decode cX0_readsPlace 69 = .ok (.dup, 1) := by decide +kernel
theorem dX0_readsPlace_70 : decode cX0_readsPlace 70 = .ok (.getfield 51, 3) := by decide +kernel
theorem dX0_readsPlace_73 : decode cX0_readsPlace 73 = .ok (.iconst 1, 1) := by decide +kernel
theorem dX0_readsPlace_74 : decode cX0_readsPlace 74 = .ok (.iadd, 1) := by decide +kernel
theorem dX0_readsPlace_75 : decode cX0_readsPlace 75 = .ok (.putfield 51, 3) := by decide +kernel
theorem dX0_readsPlace_78 : decode cX0_readsPlace 78 = .ok (.iconst 1, 1) := by decide +kernel
theorem dX0_readsPlace_79 : decode cX0_readsPlace 79 = .ok (.ireturn, 1) := by decide +kernel
theorem dX0_readsWay_0 : decode cX0_readsWay 0 = .ok (.aload_n 1, 1) := by decide +kernel
theorem dX0_readsWay_1 : decode cX0_readsWay 1 = .ok (.getfield 71, 3) := by decide +kernel
theorem dX0_readsWay_4 : decode cX0_readsWay 4 = .ok (.invokevirtual 130, 3) := by decide +kernel
theorem dX0_readsWay_7 : decode cX0_readsWay 7 = .ok (.aload_n 0, 1) := by decide +kernel
theorem dX0_readsWay_8 : decode cX0_readsWay 8 = .ok (.aload_n 1, 1) := by decide +kernel
theorem dX0_readsWay_9 : decode cX0_readsWay 9 = .ok (.getfield 71, 3) := by decide +kernel
theorem dX0_readsWay_12 : decode cX0_readsWay 12 = .ok (.getfield 133, 3) := by decide +kernel
theorem dX0_readsWay_15 : decode cX0_readsWay 15 = .ok (.invokevirtual 154, 3) := by decide +kernel
theorem dX0_readsWay_18 : decode cX0_readsWay 18 = .ok (.istore_n 2, 1) := by decide +kernel
theorem dX0_readsWay_19 : decode cX0_readsWay 19 = .ok (.aload_n 0, 1) := by decide +kernel
theorem dX0_readsWay_20 : decode cX0_readsWay 20 = .ok (.aload_n 1, 1) := by decide +kernel
theorem dX0_readsWay_21 : decode cX0_readsWay 21 = .ok (.iconst (-1), 1) := by decide +kernel
theorem dX0_readsWay_22 : decode cX0_readsWay 22 = .ok (.invokevirtual 158, 3) := by decide +kernel
theorem dX0_readsWay_25 : decode cX0_readsWay 25 = .ok (.ifCond .ne 5, 3) := by decide +kernel
theorem dX0_readsWay_28 : decode cX0_readsWay 28 = .ok (.iconst 0, 1) := by decide +kernel
theorem dX0_readsWay_29 : decode cX0_readsWay 29 = .ok (.ireturn, 1) := by decide +kernel
theorem dX0_readsWay_30 : decode cX0_readsWay 30 = .ok (.aload_n 0, 1) := by decide +kernel
theorem dX0_readsWay_31 : decode cX0_readsWay 31 = .ok (.aload_n 1, 1) := by decide +kernel
theorem dX0_readsWay_32 : decode cX0_readsWay 32 = .ok (.getfield 71, 3) := by decide +kernel
theorem dX0_readsWay_35 : decode cX0_readsWay 35 = .ok (.getfield 133, 3) := by decide +kernel
theorem dX0_readsWay_38 : decode cX0_readsWay 38 = .ok (.invokevirtual 154, 3) := by decide +kernel
theorem dX0_readsWay_41 : decode cX0_readsWay 41 = .ok (.istore_n 3, 1) := by decide +kernel
theorem dX0_readsWay_42 : decode cX0_readsWay 42 = .ok (.aload_n 0, 1) := by decide +kernel
theorem dX0_readsWay_43 : decode cX0_readsWay 43 = .ok (.aload_n 1, 1) := by decide +kernel
theorem dX0_readsWay_44 : decode cX0_readsWay 44 = .ok (.iload_n 2, 1) := by decide +kernel
theorem dX0_readsWay_45 : decode cX0_readsWay 45 = .ok (.invokevirtual 158, 3) := by decide +kernel
theorem dX0_readsWay_48 : decode cX0_readsWay 48 = .ok (.ifCond .ne 5, 3) := by decide +kernel
theorem dX0_readsWay_51 : decode cX0_readsWay 51 = .ok (.iconst 0, 1) := by decide +kernel
theorem dX0_readsWay_52 : decode cX0_readsWay 52 = .ok (.ireturn, 1) := by decide +kernel
theorem dX0_readsWay_53 : decode cX0_readsWay 53 = .ok (.aload_n 1, 1) := by decide +kernel
theorem dX0_readsWay_54 : decode cX0_readsWay 54 = .ok (.getfield 71, 3) := by decide +kernel
theorem dX0_readsWay_57 : decode cX0_readsWay 57 = .ok (.getfield 90, 3) := by decide +kernel
theorem dX0_readsWay_60 : decode cX0_readsWay 60 = .ok (.getstatic 162, 3) := by decide +kernel
theorem dX0_readsWay_63 : decode cX0_readsWay 63 = .ok (.if_acmp .ne 7, 3) := by decide +kernel
theorem dX0_readsWay_66 : decode cX0_readsWay 66 = .ok (.iconst 1, 1) := by decide +kernel
theorem dX0_readsWay_67 : decode cX0_readsWay 67 = .ok (.goto 4, 3) := by decide +kernel
theorem dX0_readsWay_70 : decode cX0_readsWay 70 = .ok (.iconst 0, 1) := by decide +kernel
theorem dX0_readsWay_71 : decode cX0_readsWay 71 = .ok (.istore 4, 2) := by decide +kernel
theorem dX0_readsWay_73 : decode cX0_readsWay 73 = .ok (.aload_n 1, 1) := by decide +kernel
theorem dX0_readsWay_74 : decode cX0_readsWay 74 = .ok (.iload 4, 2) := by decide +kernel
theorem dX0_readsWay_76 : decode cX0_readsWay 76 = .ok (.ifCond .eq 9, 3) := by decide +kernel
theorem dX0_readsWay_79 : decode cX0_readsWay 79 = .ok (.getstatic 162, 3) := by decide +kernel
theorem dX0_readsWay_82 : decode cX0_readsWay 82 = .ok (.goto 6, 3) := by decide +kernel
theorem dX0_readsWay_85 : decode cX0_readsWay 85 = .ok (.getstatic 165, 3) := by decide +kernel
theorem dX0_readsWay_88 : decode cX0_readsWay 88 = .ok (.invokevirtual 143, 3) := by decide +kernel
theorem dX0_readsWay_91 : decode cX0_readsWay 91 = .ok (.ifCond .ne 5, 3) := by decide +kernel
theorem dX0_readsWay_94 : decode cX0_readsWay 94 = .ok (.iconst 0, 1) := by decide +kernel
theorem dX0_readsWay_95 : decode cX0_readsWay 95 = .ok (.ireturn, 1) := by decide +kernel
theorem dX0_readsWay_96 : decode cX0_readsWay 96 = .ok (.aload_n 1, 1) := by decide +kernel
theorem dX0_readsWay_97 : decode cX0_readsWay 97 = .ok (.getstatic 168, 3) := by decide +kernel
theorem dX0_readsWay_100 : decode cX0_readsWay 100 = .ok (.invokevirtual 143, 3) := by decide +kernel
theorem dX0_readsWay_103 : decode cX0_readsWay 103 = .ok (.ifCond .eq 13, 3) := by decide +kernel
theorem dX0_readsWay_106 : decode cX0_readsWay 106 = .ok (.aload_n 1, 1) := by decide +kernel
theorem dX0_readsWay_107 : decode cX0_readsWay 107 = .ok (.iconst 1, 1) := by decide +kernel
theorem dX0_readsWay_108 : decode cX0_readsWay 108 = .ok (.bipush 9, 2) := by decide +kernel
theorem dX0_readsWay_110 : decode cX0_readsWay 110 = .ok (.invokevirtual 147, 3) := by decide +kernel
theorem dX0_readsWay_113 : decode cX0_readsWay 113 = .ok (.ifCond .ne 5, 3) := by decide +kernel
theorem dX0_readsWay_116 : decode cX0_readsWay 116 = .ok (.iconst 0, 1) := by decide +kernel
theorem dX0_readsWay_117 : decode cX0_readsWay 117 = .ok (.ireturn, 1) := by decide +kernel
theorem dX0_readsWay_118 : decode cX0_readsWay 118 = .ok (.aload_n 0, 1) := by decide +kernel
theorem dX0_readsWay_119 : decode cX0_readsWay 119 = .ok (.getfield 19, 3) := by decide +kernel
theorem dX0_readsWay_122 : decode cX0_readsWay 122 = .ok (.aload_n 0, 1) := by decide +kernel
theorem dX0_readsWay_123 : decode cX0_readsWay 123 = .ok (.getfield 55, 3) := by decide +kernel
theorem dX0_readsWay_126 : decode cX0_readsWay 126 = .ok (.iload_n 2, 1) := by decide +kernel
theorem dX0_readsWay_127 : decode cX0_readsWay 127 = .ok (.iastore, 1) := by decide +kernel
theorem dX0_readsWay_128 : decode cX0_readsWay 128 = .ok (.aload_n 0, 1) := by decide +kernel
theorem dX0_readsWay_129 : decode cX0_readsWay 129 = .ok (.getfield 22, 3) := by decide +kernel
theorem dX0_readsWay_132 : decode cX0_readsWay 132 = .ok (.aload_n 0, 1) := by decide +kernel
theorem dX0_readsWay_133 : decode cX0_readsWay 133 = .ok (.getfield 55, 3) := by decide +kernel
theorem dX0_readsWay_136 : decode cX0_readsWay 136 = .ok (.iload_n 3, 1) := by decide +kernel
theorem dX0_readsWay_137 : decode cX0_readsWay 137 = .ok (.iastore, 1) := by decide +kernel
theorem dX0_readsWay_138 : decode cX0_readsWay 138 = .ok (.aload_n 0, 1) := by decide +kernel
theorem dX0_readsWay_139 : decode cX0_readsWay 139 = .ok (.getfield 28, 3) := by decide +kernel
theorem dX0_readsWay_142 : decode cX0_readsWay 142 = .ok (.aload_n 0, 1) := by decide +kernel
theorem dX0_readsWay_143 : decode cX0_readsWay 143 = .ok (.getfield 55, 3) := by decide +kernel
theorem dX0_readsWay_146 : decode cX0_readsWay 146 = .ok (.iload 4, 2) := by decide +kernel
theorem dX0_readsWay_148 : decode cX0_readsWay 148 = .ok (.bastore, 1) := by decide +kernel
theorem dX0_readsWay_149 : decode cX0_readsWay 149 = .ok (.aload_n 0, 1) := by decide +kernel
theorem dX0_readsWay_150 : decode cX0_readsWay 150 = .ok (.getfield 25, 3) := by decide +kernel
theorem dX0_readsWay_153 : decode cX0_readsWay 153 = .ok (.aload_n 0, 1) := by decide +kernel
theorem dX0_readsWay_154 : decode cX0_readsWay 154 = .ok (.getfield 55, 3) := by decide +kernel
theorem dX0_readsWay_157 : decode cX0_readsWay 157 = .ok (.aload_n 1, 1) := by decide +kernel
theorem dX0_readsWay_158 : decode cX0_readsWay 158 = .ok (.getfield 151, 3) := by decide +kernel
theorem dX0_readsWay_161 : decode cX0_readsWay 161 = .ok (.iastore, 1) := by decide +kernel
theorem dX0_readsWay_162 : decode cX0_readsWay 162 = .ok (.aload_n 0, 1) := by decide +kernel
theorem dX0_readsWay_163 : decode cX0_readsWay 163 = .ok (.dup, 1) := by decide +kernel
theorem dX0_readsWay_164 : decode cX0_readsWay 164 = .ok (.getfield 55, 3) := by decide +kernel
theorem dX0_readsWay_167 : decode cX0_readsWay 167 = .ok (.iconst 1, 1) := by decide +kernel
theorem dX0_readsWay_168 : decode cX0_readsWay 168 = .ok (.iadd, 1) := by decide +kernel
theorem dX0_readsWay_169 : decode cX0_readsWay 169 = .ok (.putfield 55, 3) := by decide +kernel
theorem dX0_readsWay_172 : decode cX0_readsWay 172 = .ok (.iconst 1, 1) := by decide +kernel
theorem dX0_readsWay_173 : decode cX0_readsWay 173 = .ok (.ireturn, 1) := by decide +kernel
theorem dX0_readsDiver_0 : decode cX0_readsDiver 0 = .ok (.aload_n 1, 1) := by decide +kernel
theorem dX0_readsDiver_1 : decode cX0_readsDiver 1 = .ok (.getfield 71, 3) := by decide +kernel
theorem dX0_readsDiver_4 : decode cX0_readsDiver 4 = .ok (.invokevirtual 130, 3) := by decide +kernel
theorem dX0_readsDiver_7 : decode cX0_readsDiver 7 = .ok (.aload_n 1, 1) := by decide +kernel
theorem dX0_readsDiver_8 : decode cX0_readsDiver 8 = .ok (.getfield 71, 3) := by decide +kernel
theorem dX0_readsDiver_11 : decode cX0_readsDiver 11 = .ok (.getfield 133, 3) := by decide +kernel
theorem dX0_readsDiver_14 : decode cX0_readsDiver 14 = .ok (.lstore_n 2, 1) := by decide +kernel
theorem dX0_readsDiver_15 : decode cX0_readsDiver 15 = .ok (.aload_n 0, 1) := by decide +kernel
theorem dX0_readsDiver_16 : decode cX0_readsDiver 16 = .ok (.aload_n 1, 1) := by decide +kernel
theorem dX0_readsDiver_17 : decode cX0_readsDiver 17 = .ok (.invokevirtual 137, 3) := by decide +kernel
theorem dX0_readsDiver_20 : decode cX0_readsDiver 20 = .ok (.ifCond .ne 5, 3) := by decide +kernel
theorem dX0_readsDiver_23 : decode cX0_readsDiver 23 = .ok (.iconst 0, 1) := by decide +kernel
theorem dX0_readsDiver_24 : decode cX0_readsDiver 24 = .ok (.ireturn, 1) := by decide +kernel
theorem dX0_readsDiver_25 : decode cX0_readsDiver 25 = .ok (.aload_n 1, 1) := by decide +kernel
theorem dX0_readsDiver_26 : decode cX0_readsDiver 26 = .ok (.getfield 71, 3) := by decide +kernel
theorem dX0_readsDiver_29 : decode cX0_readsDiver 29 = .ok (.getfield 90, 3) := by decide +kernel
theorem dX0_readsDiver_32 : decode cX0_readsDiver 32 = .ok (.invokestatic 171, 3) := by decide +kernel
theorem dX0_readsDiver_35 : decode cX0_readsDiver 35 = .ok (.istore 4, 2) := by decide +kernel
theorem dX0_readsDiver_37 : decode cX0_readsDiver 37 = .ok (.iload 4, 2) := by decide +kernel
theorem dX0_readsDiver_39 : decode cX0_readsDiver 39 = .ok (.iconst (-1), 1) := by decide +kernel
theorem dX0_readsDiver_40 : decode cX0_readsDiver 40 = .ok (.if_icmp .ne 9, 3) := by decide +kernel
theorem dX0_readsDiver_43 : decode cX0_readsDiver 43 = .ok (.aload_n 1, 1) := by decide +kernel
theorem dX0_readsDiver_44 : decode cX0_readsDiver 44 = .ok (.iconst 1, 1) := by decide +kernel
theorem dX0_readsDiver_45 : decode cX0_readsDiver 45 = .ok (.invokevirtual 102, 3) := by decide +kernel
theorem dX0_readsDiver_48 : decode cX0_readsDiver 48 = .ok (.ireturn, 1) := by decide +kernel
theorem dX0_readsDiver_49 : decode cX0_readsDiver 49 = .ok (.aload_n 1, 1) := by decide +kernel
theorem dX0_readsDiver_50 : decode cX0_readsDiver 50 = .ok (.getfield 71, 3) := by decide +kernel
theorem dX0_readsDiver_53 : decode cX0_readsDiver 53 = .ok (.invokevirtual 130, 3) := by decide +kernel
theorem dX0_readsDiver_56 : decode cX0_readsDiver 56 = .ok (.aload_n 1, 1) := by decide +kernel
theorem dX0_readsDiver_57 : decode cX0_readsDiver 57 = .ok (.getstatic 175, 3) := by decide +kernel
theorem dX0_readsDiver_60 : decode cX0_readsDiver 60 = .ok (.invokevirtual 143, 3) := by decide +kernel
theorem dX0_readsDiver_63 : decode cX0_readsDiver 63 = .ok (.ifCond .eq 14, 3) := by decide +kernel
theorem dX0_readsDiver_66 : decode cX0_readsDiver 66 = .ok (.aload_n 1, 1) := by decide +kernel
theorem dX0_readsDiver_67 : decode cX0_readsDiver 67 = .ok (.iconst 1, 1) := by decide +kernel
theorem dX0_readsDiver_68 : decode cX0_readsDiver 68 = .ok (.sipush 900, 3) := by decide +kernel
theorem dX0_readsDiver_71 : decode cX0_readsDiver 71 = .ok (.invokevirtual 147, 3) := by decide +kernel
theorem dX0_readsDiver_74 : decode cX0_readsDiver 74 = .ok (.ifCond .ne 5, 3) := by decide +kernel
theorem dX0_readsDiver_77 : decode cX0_readsDiver 77 = .ok (.iconst 0, 1) := by decide +kernel
theorem dX0_readsDiver_78 : decode cX0_readsDiver 78 = .ok (.ireturn, 1) := by decide +kernel
theorem dX0_readsDiver_79 : decode cX0_readsDiver 79 = .ok (.aload_n 0, 1) := by decide +kernel
theorem dX0_readsDiver_80 : decode cX0_readsDiver 80 = .ok (.getfield 32, 3) := by decide +kernel
theorem dX0_readsDiver_83 : decode cX0_readsDiver 83 = .ok (.aload_n 0, 1) := by decide +kernel
theorem dX0_readsDiver_84 : decode cX0_readsDiver 84 = .ok (.getfield 58, 3) := by decide +kernel
theorem dX0_readsDiver_87 : decode cX0_readsDiver 87 = .ok (.lload_n 2, 1) := by decide +kernel
theorem dX0_readsDiver_88 : decode cX0_readsDiver 88 = .ok (.lastore, 1) := by decide +kernel
theorem dX0_readsDiver_89 : decode cX0_readsDiver 89 = .ok (.aload_n 0, 1) := by decide +kernel
theorem dX0_readsDiver_90 : decode cX0_readsDiver 90 = .ok (.getfield 35, 3) := by decide +kernel
theorem dX0_readsDiver_93 : decode cX0_readsDiver 93 = .ok (.aload_n 0, 1) := by decide +kernel
theorem dX0_readsDiver_94 : decode cX0_readsDiver 94 = .ok (.getfield 58, 3) := by decide +kernel
theorem dX0_readsDiver_97 : decode cX0_readsDiver 97 = .ok (.iload 4, 2) := by decide +kernel
theorem dX0_readsDiver_99 : decode cX0_readsDiver 99 = .ok (.iastore, 1) := by decide +kernel
theorem dX0_readsDiver_100 : decode cX0_readsDiver 100 = .ok (.aload_n 0, 1) := by decide +kernel
theorem dX0_readsDiver_101 : decode cX0_readsDiver 101 = .ok (.getfield 38, 3) := by decide +kernel
theorem dX0_readsDiver_104 : decode cX0_readsDiver 104 = .ok (.aload_n 0, 1) := by decide +kernel
theorem dX0_readsDiver_105 : decode cX0_readsDiver 105 = .ok (.getfield 58, 3) := by decide +kernel
theorem dX0_readsDiver_108 : decode cX0_readsDiver 108 = .ok (.aload_n 1, 1) := by decide +kernel
theorem dX0_readsDiver_109 : decode cX0_readsDiver 109 = .ok (.getfield 151, 3) := by decide +kernel
theorem dX0_readsDiver_112 : decode cX0_readsDiver 112 = .ok (.iastore, 1) := by decide +kernel
theorem dX0_readsDiver_113 : decode cX0_readsDiver 113 = .ok (.aload_n 0, 1) := by decide +kernel
theorem dX0_readsDiver_114 : decode cX0_readsDiver 114 = .ok (.dup, 1) := by decide +kernel
theorem dX0_readsDiver_115 : decode cX0_readsDiver 115 = .ok (.getfield 58, 3) := by decide +kernel
theorem dX0_readsDiver_118 : decode cX0_readsDiver 118 = .ok (.iconst 1, 1) := by decide +kernel
theorem dX0_readsDiver_119 : decode cX0_readsDiver 119 = .ok (.iadd, 1) := by decide +kernel
theorem dX0_readsDiver_120 : decode cX0_readsDiver 120 = .ok (.putfield 58, 3) := by decide +kernel
theorem dX0_readsDiver_123 : decode cX0_readsDiver 123 = .ok (.iconst 1, 1) := by decide +kernel
theorem dX0_readsDiver_124 : decode cX0_readsDiver 124 = .ok (.ireturn, 1) := by decide +kernel
theorem dX0_readsRain_0 : decode cX0_readsRain 0 = .ok (.aload_n 1, 1) := by decide +kernel
theorem dX0_readsRain_1 : decode cX0_readsRain 1 = .ok (.getfield 71, 3) := by decide +kernel
theorem dX0_readsRain_4 : decode cX0_readsRain 4 = .ok (.invokevirtual 130, 3) := by decide +kernel
theorem dX0_readsRain_7 : decode cX0_readsRain 7 = .ok (.iconst 1, 1) := by decide +kernel
theorem dX0_readsRain_8 : decode cX0_readsRain 8 = .ok (.istore_n 2, 1) := by decide +kernel
theorem dX0_readsRain_9 : decode cX0_readsRain 9 = .ok (.iload_n 2, 1) := by decide +kernel
theorem dX0_readsRain_10 : decode cX0_readsRain 10 = .ok (.ifCond .eq 64, 3) := by decide +kernel
theorem dX0_readsRain_13 : decode cX0_readsRain 13 = .ok (.aload_n 0, 1) := by decide +kernel
theorem dX0_readsRain_14 : decode cX0_readsRain 14 = .ok (.getfield 61, 3) := by decide +kernel
theorem dX0_readsRain_17 : decode cX0_readsRain 17 = .ok (.bipush 12, 2) := by decide +kernel
theorem dX0_readsRain_19 : decode cX0_readsRain 19 = .ok (.if_icmp .ge 55, 3) := by decide +kernel
theorem dX0_readsRain_22 : decode cX0_readsRain 22 = .ok (.aload_n 0, 1) := by decide +kernel
theorem dX0_readsRain_23 : decode cX0_readsRain 23 = .ok (.getfield 61, 3) := by decide +kernel
theorem dX0_readsRain_26 : decode cX0_readsRain 26 = .ok (.ifCond .eq 14, 3) := by decide +kernel
theorem dX0_readsRain_29 : decode cX0_readsRain 29 = .ok (.aload_n 1, 1) := by decide +kernel
theorem dX0_readsRain_30 : decode cX0_readsRain 30 = .ok (.getfield 71, 3) := by decide +kernel
theorem dX0_readsRain_33 : decode cX0_readsRain 33 = .ok (.getfield 77, 3) := by decide +kernel
theorem dX0_readsRain_36 : decode cX0_readsRain 36 = .ok (.iconst 2, 1) := by decide +kernel
theorem dX0_readsRain_37 : decode cX0_readsRain 37 = .ok (.if_icmp .ne 37, 3) := by decide +kernel
theorem dX0_readsRain_40 : decode cX0_readsRain 40 = .ok (.aload_n 1, 1) := by decide +kernel
theorem dX0_readsRain_41 : decode cX0_readsRain 41 = .ok (.iconst 0, 1) := by decide +kernel
theorem dX0_readsRain_42 : decode cX0_readsRain 42 = .ok (.bipush 9, 2) := by decide +kernel
theorem dX0_readsRain_44 : decode cX0_readsRain 44 = .ok (.invokevirtual 147, 3) := by decide +kernel
theorem dX0_readsRain_47 : decode cX0_readsRain 47 = .ok (.istore_n 2, 1) := by decide +kernel
theorem dX0_readsRain_48 : decode cX0_readsRain 48 = .ok (.aload_n 0, 1) := by decide +kernel
theorem dX0_readsRain_49 : decode cX0_readsRain 49 = .ok (.getfield 41, 3) := by decide +kernel
theorem dX0_readsRain_52 : decode cX0_readsRain 52 = .ok (.aload_n 0, 1) := by decide +kernel
theorem dX0_readsRain_53 : decode cX0_readsRain 53 = .ok (.getfield 61, 3) := by decide +kernel
theorem dX0_readsRain_56 : decode cX0_readsRain 56 = .ok (.aload_n 1, 1) := by decide +kernel
theorem dX0_readsRain_57 : decode cX0_readsRain 57 = .ok (.getfield 151, 3) := by decide +kernel
theorem dX0_readsRain_60 : decode cX0_readsRain 60 = .ok (.iastore, 1) := by decide +kernel
theorem dX0_readsRain_61 : decode cX0_readsRain 61 = .ok (.aload_n 0, 1) := by decide +kernel
theorem dX0_readsRain_62 : decode cX0_readsRain 62 = .ok (.dup, 1) := by decide +kernel
theorem dX0_readsRain_63 : decode cX0_readsRain 63 = .ok (.getfield 61, 3) := by decide +kernel
theorem dX0_readsRain_66 : decode cX0_readsRain 66 = .ok (.iconst 1, 1) := by decide +kernel
theorem dX0_readsRain_67 : decode cX0_readsRain 67 = .ok (.iadd, 1) := by decide +kernel
theorem dX0_readsRain_68 : decode cX0_readsRain 68 = .ok (.putfield 61, 3) := by decide +kernel
theorem dX0_readsRain_71 : decode cX0_readsRain 71 = .ok (.goto (-62), 3) := by decide +kernel
theorem dX0_readsRain_74 : decode cX0_readsRain 74 = .ok (.iload_n 2, 1) := by decide +kernel
theorem dX0_readsRain_75 : decode cX0_readsRain 75 = .ok (.ifCond .eq 36, 3) := by decide +kernel
theorem dX0_readsRain_78 : decode cX0_readsRain 78 = .ok (.aload_n 1, 1) := by decide +kernel
theorem dX0_readsRain_79 : decode cX0_readsRain 79 = .ok (.getfield 71, 3) := by decide +kernel
theorem dX0_readsRain_82 : decode cX0_readsRain 82 = .ok (.getfield 77, 3) := by decide +kernel
theorem dX0_readsRain_85 : decode cX0_readsRain 85 = .ok (.iconst 2, 1) := by decide +kernel
theorem dX0_readsRain_86 : decode cX0_readsRain 86 = .ok (.if_icmp .ne 25, 3) := by decide +kernel
theorem dX0_readsRain_89 : decode cX0_readsRain 89 = .ok (.aload_n 1, 1) := by decide +kernel
theorem dX0_readsRain_90 : decode cX0_readsRain 90 = .ok (.aload_n 1, 1) := by decide +kernel
theorem dX0_readsRain_91 : decode cX0_readsRain 91 = .ok (.getfield 71, 3) := by decide +kernel
theorem dX0_readsRain_94 : decode cX0_readsRain 94 = .ok (.getfield 178, 3) := by decide +kernel
theorem dX0_readsRain_97 : decode cX0_readsRain 97 = .ok (.bipush 9, 2) := by decide +kernel
theorem dX0_readsRain_99 : decode cX0_readsRain 99 = .ok (.if_icmp .le 7, 3) := by decide +kernel
theorem dX0_readsRain_102 : decode cX0_readsRain 102 = .ok (.iconst 4, 1) := by decide +kernel
theorem dX0_readsRain_103 : decode cX0_readsRain 103 = .ok (.goto 4, 3) := by decide +kernel
theorem dX0_readsRain_106 : decode cX0_readsRain 106 = .ok (.iconst 5, 1) := by decide +kernel
theorem dX0_readsRain_107 : decode cX0_readsRain 107 = .ok (.invokevirtual 102, 3) := by decide +kernel
theorem dX0_readsRain_110 : decode cX0_readsRain 110 = .ok (.ireturn, 1) := by decide +kernel
theorem dX0_readsRain_111 : decode cX0_readsRain 111 = .ok (.iload_n 2, 1) := by decide +kernel
theorem dX0_readsRain_112 : decode cX0_readsRain 112 = .ok (.ireturn, 1) := by decide +kernel
theorem dX0_readsBreath_0 : decode cX0_readsBreath 0 = .ok (.aload_n 0, 1) := by decide +kernel
theorem dX0_readsBreath_1 : decode cX0_readsBreath 1 = .ok (.iconst 1, 1) := by decide +kernel
theorem dX0_readsBreath_2 : decode cX0_readsBreath 2 = .ok (.putfield 64, 3) := by decide +kernel
theorem dX0_readsBreath_5 : decode cX0_readsBreath 5 = .ok (.aload_n 0, 1) := by decide +kernel
theorem dX0_readsBreath_6 : decode cX0_readsBreath 6 = .ok (.getfield 47, 3) := by decide +kernel
theorem dX0_readsBreath_9 : decode cX0_readsBreath 9 = .ok (.iconst 0, 1) := by decide +kernel
theorem dX0_readsBreath_10 : decode cX0_readsBreath 10 = .ok (.putfield 179, 3) := by decide +kernel
theorem dX0_readsBreath_13 : decode cX0_readsBreath 13 = .ok (.aload_n 1, 1) := by decide +kernel
theorem dX0_readsBreath_14 : decode cX0_readsBreath 14 = .ok (.getfield 71, 3) := by decide +kernel
theorem dX0_readsBreath_17 : decode cX0_readsBreath 17 = .ok (.invokevirtual 130, 3) := by decide +kernel
theorem dX0_readsBreath_20 : decode cX0_readsBreath 20 = .ok (.aload_n 0, 1) := by decide +kernel
theorem dX0_readsBreath_21 : decode cX0_readsBreath 21 = .ok (.getfield 47, 3) := by decide +kernel
theorem dX0_readsBreath_24 : decode cX0_readsBreath 24 = .ok (.aload_n 1, 1) := by decide +kernel
theorem dX0_readsBreath_25 : decode cX0_readsBreath 25 = .ok (.iconst 0, 1) := by decide +kernel
theorem dX0_readsBreath_26 : decode cX0_readsBreath 26 = .ok (.invokevirtual 182, 3) := by decide +kernel
theorem dX0_readsBreath_29 : decode cX0_readsBreath 29 = .ok (.ireturn, 1) := by decide +kernel
theorem dX0_takesNewName_0 : decode cX0_takesNewName 0 = .ok (.aload_n 1, 1) := by decide +kernel
theorem dX0_takesNewName_1 : decode cX0_takesNewName 1 = .ok (.invokevirtual 185, 3) := by decide +kernel
theorem dX0_takesNewName_4 : decode cX0_takesNewName 4 = .ok (.ifCond .ne 5, 3) := by decide +kernel
theorem dX0_takesNewName_7 : decode cX0_takesNewName 7 = .ok (.iconst 0, 1) := by decide +kernel
theorem dX0_takesNewName_8 : decode cX0_takesNewName 8 = .ok (.ireturn, 1) := by decide +kernel
theorem dX0_takesNewName_9 : decode cX0_takesNewName 9 = .ok (.aload_n 1, 1) := by decide +kernel
theorem dX0_takesNewName_10 : decode cX0_takesNewName 10 = .ok (.getfield 71, 3) := by decide +kernel
theorem dX0_takesNewName_13 : decode cX0_takesNewName 13 = .ok (.getfield 133, 3) := by decide +kernel
theorem dX0_takesNewName_16 : decode cX0_takesNewName 16 = .ok (.lstore_n 2, 1) := by decide +kernel
theorem dX0_takesNewName_17 : decode cX0_takesNewName 17 = .ok (.aload_n 0, 1) := by decide +kernel
theorem dX0_takesNewName_18 : decode cX0_takesNewName 18 = .ok (.lload_n 2, 1) := by decide +kernel
theorem dX0_takesNewName_19 : decode cX0_takesNewName 19 = .ok (.invokevirtual 154, 3) := by decide +kernel
theorem dX0_takesNewName_22 : decode cX0_takesNewName 22 = .ok (.iconst (-1), 1) := by decide +kernel
theorem dX0_takesNewName_23 : decode cX0_takesNewName 23 = .ok (.if_icmp .ne 12, 3) := by decide +kernel
theorem dX0_takesNewName_26 : decode cX0_takesNewName 26 = .ok (.aload_n 0, 1) := by decide +kernel
theorem dX0_takesNewName_27 : decode cX0_takesNewName 27 = .ok (.lload_n 2, 1) := by decide +kernel
theorem dX0_takesNewName_28 : decode cX0_takesNewName 28 = .ok (.invokevirtual 189, 3) := by decide +kernel
theorem dX0_takesNewName_31 : decode cX0_takesNewName 31 = .ok (.iconst (-1), 1) := by decide +kernel
theorem dX0_takesNewName_32 : decode cX0_takesNewName 32 = .ok (.if_icmp .eq 9, 3) := by decide +kernel
theorem dX0_takesNewName_35 : decode cX0_takesNewName 35 = .ok (.aload_n 1, 1) := by decide +kernel
theorem dX0_takesNewName_36 : decode cX0_takesNewName 36 = .ok (.iconst 3, 1) := by decide +kernel
theorem dX0_takesNewName_37 : decode cX0_takesNewName 37 = .ok (.invokevirtual 102, 3) := by decide +kernel
theorem dX0_takesNewName_40 : decode cX0_takesNewName 40 = .ok (.ireturn, 1) := by decide +kernel
theorem dX0_takesNewName_41 : decode cX0_takesNewName 41 = .ok (.aload_n 1, 1) := by decide +kernel
theorem dX0_takesNewName_42 : decode cX0_takesNewName 42 = .ok (.getfield 71, 3) := by decide +kernel
theorem dX0_takesNewName_45 : decode cX0_takesNewName 45 = .ok (.invokevirtual 130, 3) := by decide +kernel
theorem dX0_takesNewName_48 : decode cX0_takesNewName 48 = .ok (.iconst 1, 1) := by decide +kernel
theorem dX0_takesNewName_49 : decode cX0_takesNewName 49 = .ok (.ireturn, 1) := by decide +kernel
theorem dX0_takesPlace_0 : decode cX0_takesPlace 0 = .ok (.aload_n 1, 1) := by decide +kernel
theorem dX0_takesPlace_1 : decode cX0_takesPlace 1 = .ok (.invokevirtual 185, 3) := by decide +kernel
theorem dX0_takesPlace_4 : decode cX0_takesPlace 4 = .ok (.ifCond .ne 5, 3) := by decide +kernel
theorem dX0_takesPlace_7 : decode cX0_takesPlace 7 = .ok (.iconst 0, 1) := by decide +kernel
theorem dX0_takesPlace_8 : decode cX0_takesPlace 8 = .ok (.ireturn, 1) := by decide +kernel
theorem dX0_takesPlace_9 : decode cX0_takesPlace 9 = .ok (.aload_n 0, 1) := by decide +kernel
theorem dX0_takesPlace_10 : decode cX0_takesPlace 10 = .ok (.aload_n 1, 1) := by decide +kernel
theorem dX0_takesPlace_11 : decode cX0_takesPlace 11 = .ok (.getfield 71, 3) := by decide +kernel
theorem dX0_takesPlace_14 : decode cX0_takesPlace 14 = .ok (.getfield 133, 3) := by decide +kernel
theorem dX0_takesPlace_17 : decode cX0_takesPlace 17 = .ok (.invokevirtual 154, 3) := by decide +kernel
theorem dX0_takesPlace_20 : decode cX0_takesPlace 20 = .ok (.istore_n 3, 1) := by decide +kernel
theorem dX0_takesPlace_21 : decode cX0_takesPlace 21 = .ok (.iload_n 3, 1) := by decide +kernel
theorem dX0_takesPlace_22 : decode cX0_takesPlace 22 = .ok (.iconst (-1), 1) := by decide +kernel
theorem dX0_takesPlace_23 : decode cX0_takesPlace 23 = .ok (.if_icmp .ne 9, 3) := by decide +kernel
theorem dX0_takesPlace_26 : decode cX0_takesPlace 26 = .ok (.aload_n 1, 1) := by decide +kernel
theorem dX0_takesPlace_27 : decode cX0_takesPlace 27 = .ok (.iconst 2, 1) := by decide +kernel
theorem dX0_takesPlace_28 : decode cX0_takesPlace 28 = .ok (.invokevirtual 102, 3) := by decide +kernel
theorem dX0_takesPlace_31 : decode cX0_takesPlace 31 = .ok (.ireturn, 1) := by decide +kernel
theorem dX0_takesPlace_32 : decode cX0_takesPlace 32 = .ok (.iload_n 3, 1) := by decide +kernel
theorem dX0_takesPlace_33 : decode cX0_takesPlace 33 = .ok (.iload_n 2, 1) := by decide +kernel
theorem dX0_takesPlace_34 : decode cX0_takesPlace 34 = .ok (.if_icmp .eq 12, 3) := by decide +kernel
theorem dX0_takesPlace_37 : decode cX0_takesPlace 37 = .ok (.aload_n 0, 1) := by decide +kernel
theorem dX0_takesPlace_38 : decode cX0_takesPlace 38 = .ok (.iload_n 3, 1) := by decide +kernel
theorem dX0_takesPlace_39 : decode cX0_takesPlace 39 = .ok (.iload_n 2, 1) := by decide +kernel
theorem dX0_takesPlace_40 : decode cX0_takesPlace 40 = .ok (.invokevirtual 192, 3) := by decide +kernel
theorem dX0_takesPlace_43 : decode cX0_takesPlace 43 = .ok (.ifCond .eq 9, 3) := by decide +kernel
theorem dX0_takesPlace_46 : decode cX0_takesPlace 46 = .ok (.aload_n 1, 1) := by decide +kernel
theorem dX0_takesPlace_47 : decode cX0_takesPlace 47 = .ok (.iconst 3, 1) := by decide +kernel
theorem dX0_takesPlace_48 : decode cX0_takesPlace 48 = .ok (.invokevirtual 102, 3) := by decide +kernel
theorem dX0_takesPlace_51 : decode cX0_takesPlace 51 = .ok (.ireturn, 1) := by decide +kernel
theorem dX0_takesPlace_52 : decode cX0_takesPlace 52 = .ok (.aload_n 1, 1) := by decide +kernel
theorem dX0_takesPlace_53 : decode cX0_takesPlace 53 = .ok (.getfield 71, 3) := by decide +kernel
theorem dX0_takesPlace_56 : decode cX0_takesPlace 56 = .ok (.invokevirtual 130, 3) := by decide +kernel
theorem dX0_takesPlace_59 : decode cX0_takesPlace 59 = .ok (.iconst 1, 1) := by decide +kernel
theorem dX0_takesPlace_60 : decode cX0_takesPlace 60 = .ok (.ireturn, 1) := by decide +kernel
theorem dX0_areJoined_0 : decode cX0_areJoined 0 = .ok (.iconst 0, 1) := by decide +kernel
theorem dX0_areJoined_1 : decode cX0_areJoined 1 = .ok (.istore_n 3, 1) := by decide +kernel
theorem dX0_areJoined_2 : decode cX0_areJoined 2 = .ok (.iload_n 3, 1) := by decide +kernel
theorem dX0_areJoined_3 : decode cX0_areJoined 3 = .ok (.aload_n 0, 1) := by decide +kernel
theorem dX0_areJoined_4 : decode cX0_areJoined 4 = .ok (.getfield 55, 3) := by decide +kernel
theorem dX0_areJoined_7 : decode cX0_areJoined 7 = .ok (.if_icmp .ge 26, 3) := by decide +kernel
theorem dX0_areJoined_10 : decode cX0_areJoined 10 = .ok (.iload_n 2, 1) := by decide +kernel
theorem dX0_areJoined_11 : decode cX0_areJoined 11 = .ok (.iconst (-1), 1) := by decide +kernel
theorem dX0_areJoined_12 : decode cX0_areJoined 12 = .ok (.if_icmp .eq 15, 3) := by decide +kernel
theorem dX0_areJoined_15 : decode cX0_areJoined 15 = .ok (.aload_n 0, 1) := by decide +kernel
theorem dX0_areJoined_16 : decode cX0_areJoined 16 = .ok (.iload_n 3, 1) := by decide +kernel
theorem dX0_areJoined_17 : decode cX0_areJoined 17 = .ok (.iload_n 2, 1) := by decide +kernel
theorem dX0_areJoined_18 : decode cX0_areJoined 18 = .ok (.invokevirtual 195, 3) := by decide +kernel
theorem dX0_areJoined_21 : decode cX0_areJoined 21 = .ok (.iload_n 1, 1) := by decide +kernel
theorem dX0_areJoined_22 : decode cX0_areJoined 22 = .ok (.if_icmp .ne 5, 3) := by decide +kernel
theorem dX0_areJoined_25 : decode cX0_areJoined 25 = .ok (.iconst 1, 1) := by decide +kernel
theorem dX0_areJoined_26 : decode cX0_areJoined 26 = .ok (.ireturn, 1) := by decide +kernel
theorem dX0_areJoined_27 : decode cX0_areJoined 27 = .ok (.iinc 3 1, 3) := by decide +kernel
theorem dX0_areJoined_30 : decode cX0_areJoined 30 = .ok (.goto (-28), 3) := by decide +kernel
theorem dX0_areJoined_33 : decode cX0_areJoined 33 = .ok (.iconst 0, 1) := by decide +kernel
theorem dX0_areJoined_34 : decode cX0_areJoined 34 = .ok (.ireturn, 1) := by decide +kernel
theorem dX0_placeNamed_0 : decode cX0_placeNamed 0 = .ok (.iconst 0, 1) := by decide +kernel
theorem dX0_placeNamed_1 : decode cX0_placeNamed 1 = .ok (.istore_n 3, 1) := by decide +kernel
theorem dX0_placeNamed_2 : decode cX0_placeNamed 2 = .ok (.iload_n 3, 1) := by decide +kernel
theorem dX0_placeNamed_3 : decode cX0_placeNamed 3 = .ok (.aload_n 0, 1) := by decide +kernel
theorem dX0_placeNamed_4 : decode cX0_placeNamed 4 = .ok (.getfield 51, 3) := by decide +kernel
theorem dX0_placeNamed_7 : decode cX0_placeNamed 7 = .ok (.if_icmp .ge 22, 3) := by decide +kernel
theorem dX0_placeNamed_10 : decode cX0_placeNamed 10 = .ok (.aload_n 0, 1) := by decide +kernel
theorem dX0_placeNamed_11 : decode cX0_placeNamed 11 = .ok (.getfield 9, 3) := by decide +kernel
theorem dX0_placeNamed_14 : decode cX0_placeNamed 14 = .ok (.iload_n 3, 1) := by decide +kernel
theorem dX0_placeNamed_15 : decode cX0_placeNamed 15 = .ok (.laload, 1) := by decide +kernel
theorem dX0_placeNamed_16 : decode cX0_placeNamed 16 = .ok (.lload_n 1, 1) := by decide +kernel
theorem dX0_placeNamed_17 : decode cX0_placeNamed 17 = .ok (.lcmp, 1) := by decide +kernel
theorem dX0_placeNamed_18 : decode cX0_placeNamed 18 = .ok (.ifCond .ne 5, 3) := by decide +kernel
theorem dX0_placeNamed_21 : decode cX0_placeNamed 21 = .ok (.iload_n 3, 1) := by decide +kernel
theorem dX0_placeNamed_22 : decode cX0_placeNamed 22 = .ok (.ireturn, 1) := by decide +kernel
theorem dX0_placeNamed_23 : decode cX0_placeNamed 23 = .ok (.iinc 3 1, 3) := by decide +kernel
theorem dX0_placeNamed_26 : decode cX0_placeNamed 26 = .ok (.goto (-24), 3) := by decide +kernel
theorem dX0_placeNamed_29 : decode cX0_placeNamed 29 = .ok (.iconst (-1), 1) := by decide +kernel
theorem dX0_placeNamed_30 : decode cX0_placeNamed 30 = .ok (.ireturn, 1) := by decide +kernel
theorem dX0_diverNamed_0 : decode cX0_diverNamed 0 = .ok (.iconst 0, 1) := by decide +kernel
theorem dX0_diverNamed_1 : decode cX0_diverNamed 1 = .ok (.istore_n 3, 1) := by decide +kernel
theorem dX0_diverNamed_2 : decode cX0_diverNamed 2 = .ok (.iload_n 3, 1) := by decide +kernel
theorem dX0_diverNamed_3 : decode cX0_diverNamed 3 = .ok (.aload_n 0, 1) := by decide +kernel
theorem dX0_diverNamed_4 : decode cX0_diverNamed 4 = .ok (.getfield 58, 3) := by decide +kernel
theorem dX0_diverNamed_7 : decode cX0_diverNamed 7 = .ok (.if_icmp .ge 22, 3) := by decide +kernel
theorem dX0_diverNamed_10 : decode cX0_diverNamed 10 = .ok (.aload_n 0, 1) := by decide +kernel
theorem dX0_diverNamed_11 : decode cX0_diverNamed 11 = .ok (.getfield 32, 3) := by decide +kernel
theorem dX0_diverNamed_14 : decode cX0_diverNamed 14 = .ok (.iload_n 3, 1) := by decide +kernel
theorem dX0_diverNamed_15 : decode cX0_diverNamed 15 = .ok (.laload, 1) := by decide +kernel
theorem dX0_diverNamed_16 : decode cX0_diverNamed 16 = .ok (.lload_n 1, 1) := by decide +kernel
theorem dX0_diverNamed_17 : decode cX0_diverNamed 17 = .ok (.lcmp, 1) := by decide +kernel
theorem dX0_diverNamed_18 : decode cX0_diverNamed 18 = .ok (.ifCond .ne 5, 3) := by decide +kernel
theorem dX0_diverNamed_21 : decode cX0_diverNamed 21 = .ok (.iload_n 3, 1) := by decide +kernel
theorem dX0_diverNamed_22 : decode cX0_diverNamed 22 = .ok (.ireturn, 1) := by decide +kernel
theorem dX0_diverNamed_23 : decode cX0_diverNamed 23 = .ok (.iinc 3 1, 3) := by decide +kernel
theorem dX0_diverNamed_26 : decode cX0_diverNamed 26 = .ok (.goto (-24), 3) := by decide +kernel
theorem dX0_diverNamed_29 : decode cX0_diverNamed 29 = .ok (.iconst (-1), 1) := by decide +kernel
theorem dX0_diverNamed_30 : decode cX0_diverNamed 30 = .ok (.ireturn, 1) := by decide +kernel
theorem dX0_kindOf_0 : decode cX0_kindOf 0 = .ok (.aload_n 0, 1) := by decide +kernel
theorem dX0_kindOf_1 : decode cX0_kindOf 1 = .ok (.getstatic 199, 3) := by decide +kernel
theorem dX0_kindOf_4 : decode cX0_kindOf 4 = .ok (.if_acmp .ne 7, 3) := by decide +kernel
theorem dX0_kindOf_7 : decode cX0_kindOf 7 = .ok (.iconst 0, 1) := by decide +kernel
theorem dX0_kindOf_8 : decode cX0_kindOf 8 = .ok (.goto 37, 3) := by decide +kernel
theorem dX0_kindOf_11 : decode cX0_kindOf 11 = .ok (.aload_n 0, 1) := by decide +kernel
theorem dX0_kindOf_12 : decode cX0_kindOf 12 = .ok (.getstatic 202, 3) := by decide +kernel
theorem dX0_kindOf_15 : decode cX0_kindOf 15 = .ok (.if_acmp .ne 7, 3) := by decide +kernel
theorem dX0_kindOf_18 : decode cX0_kindOf 18 = .ok (.iconst 1, 1) := by decide +kernel
theorem dX0_kindOf_19 : decode cX0_kindOf 19 = .ok (.goto 26, 3) := by decide +kernel
theorem dX0_kindOf_22 : decode cX0_kindOf 22 = .ok (.aload_n 0, 1) := by decide +kernel
theorem dX0_kindOf_23 : decode cX0_kindOf 23 = .ok (.getstatic 205, 3) := by decide +kernel
theorem dX0_kindOf_26 : decode cX0_kindOf 26 = .ok (.if_acmp .ne 7, 3) := by decide +kernel
theorem dX0_kindOf_29 : decode cX0_kindOf 29 = .ok (.iconst 2, 1) := by decide +kernel
theorem dX0_kindOf_30 : decode cX0_kindOf 30 = .ok (.goto 15, 3) := by decide +kernel
theorem dX0_kindOf_33 : decode cX0_kindOf 33 = .ok (.aload_n 0, 1) := by decide +kernel
theorem dX0_kindOf_34 : decode cX0_kindOf 34 = .ok (.getstatic 208, 3) := by decide +kernel
theorem dX0_kindOf_37 : decode cX0_kindOf 37 = .ok (.if_acmp .ne 7, 3) := by decide +kernel
theorem dX0_kindOf_40 : decode cX0_kindOf 40 = .ok (.iconst 3, 1) := by decide +kernel
theorem dX0_kindOf_41 : decode cX0_kindOf 41 = .ok (.goto 4, 3) := by decide +kernel
theorem dX0_kindOf_44 : decode cX0_kindOf 44 = .ok (.iconst (-1), 1) := by decide +kernel
theorem dX0_kindOf_45 : decode cX0_kindOf 45 = .ok (.ireturn, 1) := by decide +kernel
theorem dX0_hasPlace_0 : decode cX0_hasPlace 0 = .ok (.iload_n 1, 1) := by decide +kernel
theorem dX0_hasPlace_1 : decode cX0_hasPlace 1 = .ok (.ifCond .lt 15, 3) := by decide +kernel
theorem dX0_hasPlace_4 : decode cX0_hasPlace 4 = .ok (.iload_n 1, 1) := by decide +kernel
theorem dX0_hasPlace_5 : decode cX0_hasPlace 5 = .ok (.aload_n 0, 1) := by decide +kernel
theorem dX0_hasPlace_6 : decode cX0_hasPlace 6 = .ok (.getfield 51, 3) := by decide +kernel
theorem dX0_hasPlace_9 : decode cX0_hasPlace 9 = .ok (.if_icmp .ge 7, 3) := by decide +kernel
theorem dX0_hasPlace_12 : decode cX0_hasPlace 12 = .ok (.iconst 1, 1) := by decide +kernel
theorem dX0_hasPlace_13 : decode cX0_hasPlace 13 = .ok (.goto 4, 3) := by decide +kernel
theorem dX0_hasPlace_16 : decode cX0_hasPlace 16 = .ok (.iconst 0, 1) := by decide +kernel
theorem dX0_hasPlace_17 : decode cX0_hasPlace 17 = .ok (.ireturn, 1) := by decide +kernel
theorem dX0_hasWay_0 : decode cX0_hasWay 0 = .ok (.iload_n 1, 1) := by decide +kernel
theorem dX0_hasWay_1 : decode cX0_hasWay 1 = .ok (.ifCond .lt 15, 3) := by decide +kernel
theorem dX0_hasWay_4 : decode cX0_hasWay 4 = .ok (.iload_n 1, 1) := by decide +kernel
theorem dX0_hasWay_5 : decode cX0_hasWay 5 = .ok (.aload_n 0, 1) := by decide +kernel
theorem dX0_hasWay_6 : decode cX0_hasWay 6 = .ok (.getfield 55, 3) := by decide +kernel
theorem dX0_hasWay_9 : decode cX0_hasWay 9 = .ok (.if_icmp .ge 7, 3) := by decide +kernel
theorem dX0_hasWay_12 : decode cX0_hasWay 12 = .ok (.iconst 1, 1) := by decide +kernel
theorem dX0_hasWay_13 : decode cX0_hasWay 13 = .ok (.goto 4, 3) := by decide +kernel
theorem dX0_hasWay_16 : decode cX0_hasWay 16 = .ok (.iconst 0, 1) := by decide +kernel
theorem dX0_hasWay_17 : decode cX0_hasWay 17 = .ok (.ireturn, 1) := by decide +kernel
theorem dX0_hasDiver_0 : decode cX0_hasDiver 0 = .ok (.iload_n 1, 1) := by decide +kernel
theorem dX0_hasDiver_1 : decode cX0_hasDiver 1 = .ok (.ifCond .lt 15, 3) := by decide +kernel
theorem dX0_hasDiver_4 : decode cX0_hasDiver 4 = .ok (.iload_n 1, 1) := by decide +kernel
theorem dX0_hasDiver_5 : decode cX0_hasDiver 5 = .ok (.aload_n 0, 1) := by decide +kernel
theorem dX0_hasDiver_6 : decode cX0_hasDiver 6 = .ok (.getfield 58, 3) := by decide +kernel
theorem dX0_hasDiver_9 : decode cX0_hasDiver 9 = .ok (.if_icmp .ge 7, 3) := by decide +kernel
theorem dX0_hasDiver_12 : decode cX0_hasDiver 12 = .ok (.iconst 1, 1) := by decide +kernel
theorem dX0_hasDiver_13 : decode cX0_hasDiver 13 = .ok (.goto 4, 3) := by decide +kernel
theorem dX0_hasDiver_16 : decode cX0_hasDiver 16 = .ok (.iconst 0, 1) := by decide +kernel
theorem dX0_hasDiver_17 : decode cX0_hasDiver 17 = .ok (.ireturn, 1) := by decide +kernel
theorem dX0_allWays_0 : decode cX0_allWays 0 = .ok (.iconst 1, 1) := by decide +kernel
theorem dX0_allWays_1 : decode cX0_allWays 1 = .ok (.aload_n 0, 1) := by decide +kernel
theorem dX0_allWays_2 : decode cX0_allWays 2 = .ok (.getfield 55, 3) := by decide +kernel
theorem dX0_allWays_5 : decode cX0_allWays 5 = .ok (.ishl, 1) := by decide +kernel
theorem dX0_allWays_6 : decode cX0_allWays 6 = .ok (.iconst 1, 1) := by decide +kernel
theorem dX0_allWays_7 : decode cX0_allWays 7 = .ok (.isub, 1) := by decide +kernel
theorem dX0_allWays_8 : decode cX0_allWays 8 = .ok (.ireturn, 1) := by decide +kernel
theorem dX0_acrossFrom_0 : decode cX0_acrossFrom 0 = .ok (.aload_n 0, 1) := by decide +kernel
theorem dX0_acrossFrom_1 : decode cX0_acrossFrom 1 = .ok (.getfield 19, 3) := by decide +kernel
theorem dX0_acrossFrom_4 : decode cX0_acrossFrom 4 = .ok (.iload_n 1, 1) := by decide +kernel
theorem dX0_acrossFrom_5 : decode cX0_acrossFrom 5 = .ok (.iaload, 1) := by decide +kernel
theorem dX0_acrossFrom_6 : decode cX0_acrossFrom 6 = .ok (.iload_n 2, 1) := by decide +kernel
theorem dX0_acrossFrom_7 : decode cX0_acrossFrom 7 = .ok (.if_icmp .ne 12, 3) := by decide +kernel
theorem dX0_acrossFrom_10 : decode cX0_acrossFrom 10 = .ok (.aload_n 0, 1) := by decide +kernel
theorem dX0_acrossFrom_11 : decode cX0_acrossFrom 11 = .ok (.getfield 22, 3) := by decide +kernel
theorem dX0_acrossFrom_14 : decode cX0_acrossFrom 14 = .ok (.iload_n 1, 1) := by decide +kernel
theorem dX0_acrossFrom_15 : decode cX0_acrossFrom 15 = .ok (.iaload, 1) := by decide +kernel
theorem dX0_acrossFrom_16 : decode cX0_acrossFrom 16 = .ok (.goto 23, 3) := by decide +kernel
theorem dX0_acrossFrom_19 : decode cX0_acrossFrom 19 = .ok (.aload_n 0, 1) := by decide +kernel
theorem dX0_acrossFrom_20 : decode cX0_acrossFrom 20 = .ok (.getfield 22, 3) := by decide +kernel
theorem dX0_acrossFrom_23 : decode cX0_acrossFrom 23 = .ok (.iload_n 1, 1) := by decide +kernel
theorem dX0_acrossFrom_24 : decode cX0_acrossFrom 24 = .ok (.iaload, 1) := by decide +kernel
theorem dX0_acrossFrom_25 : decode cX0_acrossFrom 25 = .ok (.iload_n 2, 1) := by decide +kernel
theorem dX0_acrossFrom_26 : decode cX0_acrossFrom 26 = .ok (.if_icmp .ne 12, 3) := by decide +kernel
theorem dX0_acrossFrom_29 : decode cX0_acrossFrom 29 = .ok (.aload_n 0, 1) := by decide +kernel
theorem dX0_acrossFrom_30 : decode cX0_acrossFrom 30 = .ok (.getfield 19, 3) := by decide +kernel
theorem dX0_acrossFrom_33 : decode cX0_acrossFrom 33 = .ok (.iload_n 1, 1) := by decide +kernel
theorem dX0_acrossFrom_34 : decode cX0_acrossFrom 34 = .ok (.iaload, 1) := by decide +kernel
theorem dX0_acrossFrom_35 : decode cX0_acrossFrom 35 = .ok (.goto 4, 3) := by decide +kernel
theorem dX0_acrossFrom_38 : decode cX0_acrossFrom 38 = .ok (.iconst (-1), 1) := by decide +kernel
theorem dX0_acrossFrom_39 : decode cX0_acrossFrom 39 = .ok (.ireturn, 1) := by decide +kernel
theorem dX0_rainAt_0 : decode cX0_rainAt 0 = .ok (.aload_n 0, 1) := by decide +kernel
theorem dX0_rainAt_1 : decode cX0_rainAt 1 = .ok (.getfield 61, 3) := by decide +kernel
theorem dX0_rainAt_4 : decode cX0_rainAt 4 = .ok (.ifCond .le 17, 3) := by decide +kernel
theorem dX0_rainAt_7 : decode cX0_rainAt 7 = .ok (.aload_n 0, 1) := by decide +kernel
theorem dX0_rainAt_8 : decode cX0_rainAt 8 = .ok (.getfield 41, 3) := by decide +kernel
theorem dX0_rainAt_11 : decode cX0_rainAt 11 = .ok (.iload_n 1, 1) := by decide +kernel
theorem dX0_rainAt_12 : decode cX0_rainAt 12 = .ok (.aload_n 0, 1) := by decide +kernel
theorem dX0_rainAt_13 : decode cX0_rainAt 13 = .ok (.getfield 61, 3) := by decide +kernel
theorem dX0_rainAt_16 : decode cX0_rainAt 16 = .ok (.irem, 1) := by decide +kernel
theorem dX0_rainAt_17 : decode cX0_rainAt 17 = .ok (.iaload, 1) := by decide +kernel
theorem dX0_rainAt_18 : decode cX0_rainAt 18 = .ok (.goto 4, 3) := by decide +kernel
theorem dX0_rainAt_21 : decode cX0_rainAt 21 = .ok (.iconst 0, 1) := by decide +kernel
theorem dX0_rainAt_22 : decode cX0_rainAt 22 = .ok (.ireturn, 1) := by decide +kernel
theorem dX0_depthOf_0 : decode cX0_depthOf 0 = .ok (.aload_n 0, 1) := by decide +kernel
theorem dX0_depthOf_1 : decode cX0_depthOf 1 = .ok (.getfield 15, 3) := by decide +kernel
theorem dX0_depthOf_4 : decode cX0_depthOf 4 = .ok (.aload_n 0, 1) := by decide +kernel
theorem dX0_depthOf_5 : decode cX0_depthOf 5 = .ok (.getfield 19, 3) := by decide +kernel
theorem dX0_depthOf_8 : decode cX0_depthOf 8 = .ok (.iload_n 1, 1) := by decide +kernel
theorem dX0_depthOf_9 : decode cX0_depthOf 9 = .ok (.iaload, 1) := by decide +kernel
theorem dX0_depthOf_10 : decode cX0_depthOf 10 = .ok (.iaload, 1) := by decide +kernel
theorem dX0_depthOf_11 : decode cX0_depthOf 11 = .ok (.aload_n 0, 1) := by decide +kernel
theorem dX0_depthOf_12 : decode cX0_depthOf 12 = .ok (.getfield 15, 3) := by decide +kernel
theorem dX0_depthOf_15 : decode cX0_depthOf 15 = .ok (.aload_n 0, 1) := by decide +kernel
theorem dX0_depthOf_16 : decode cX0_depthOf 16 = .ok (.getfield 22, 3) := by decide +kernel
theorem dX0_depthOf_19 : decode cX0_depthOf 19 = .ok (.iload_n 1, 1) := by decide +kernel
theorem dX0_depthOf_20 : decode cX0_depthOf 20 = .ok (.iaload, 1) := by decide +kernel
theorem dX0_depthOf_21 : decode cX0_depthOf 21 = .ok (.iaload, 1) := by decide +kernel
theorem dX0_depthOf_22 : decode cX0_depthOf 22 = .ok (.invokestatic 211, 3) := by decide +kernel
theorem dX0_depthOf_25 : decode cX0_depthOf 25 = .ok (.ireturn, 1) := by decide +kernel
theorem dX0_breathOf_0 : decode cX0_breathOf 0 = .ok (.aload_n 0, 1) := by decide +kernel
theorem dX0_breathOf_1 : decode cX0_breathOf 1 = .ok (.getfield 35, 3) := by decide +kernel
theorem dX0_breathOf_4 : decode cX0_breathOf 4 = .ok (.iload_n 1, 1) := by decide +kernel
theorem dX0_breathOf_5 : decode cX0_breathOf 5 = .ok (.iaload, 1) := by decide +kernel
theorem dX0_breathOf_6 : decode cX0_breathOf 6 = .ok (.istore 6, 2) := by decide +kernel
theorem dX0_breathOf_8 : decode cX0_breathOf 8 = .ok (.iconst 1, 1) := by decide +kernel
theorem dX0_breathOf_9 : decode cX0_breathOf 9 = .ok (.bipush 20, 2) := by decide +kernel
theorem dX0_breathOf_11 : decode cX0_breathOf 11 = .ok (.aload_n 0, 1) := by decide +kernel
theorem dX0_breathOf_12 : decode cX0_breathOf 12 = .ok (.getfield 47, 3) := by decide +kernel
theorem dX0_breathOf_15 : decode cX0_breathOf 15 = .ok (.iload_n 2, 1) := by decide +kernel
theorem dX0_breathOf_16 : decode cX0_breathOf 16 = .ok (.iload_n 3, 1) := by decide +kernel
theorem dX0_breathOf_17 : decode cX0_breathOf 17 = .ok (.iload 4, 2) := by decide +kernel
theorem dX0_breathOf_19 : decode cX0_breathOf 19 = .ok (.iload 6, 2) := by decide +kernel
theorem dX0_breathOf_21 : decode cX0_breathOf 21 = .ok (.iconst 3, 1) := by decide +kernel
theorem dX0_breathOf_22 : decode cX0_breathOf 22 = .ok (.if_icmp .ne 7, 3) := by decide +kernel
theorem dX0_breathOf_25 : decode cX0_breathOf 25 = .ok (.iconst 0, 1) := by decide +kernel
theorem dX0_breathOf_26 : decode cX0_breathOf 26 = .ok (.goto 5, 3) := by decide +kernel
theorem dX0_breathOf_29 : decode cX0_breathOf 29 = .ok (.iload 5, 2) := by decide +kernel
theorem dX0_breathOf_31 : decode cX0_breathOf 31 = .ok (.invokevirtual 216, 3) := by decide +kernel
theorem dX0_breathOf_34 : decode cX0_breathOf 34 = .ok (.invokestatic 220, 3) := by decide +kernel
theorem dX0_breathOf_37 : decode cX0_breathOf 37 = .ok (.invokestatic 211, 3) := by decide +kernel
theorem dX0_breathOf_40 : decode cX0_breathOf 40 = .ok (.istore 7, 2) := by decide +kernel
theorem dX0_breathOf_42 : decode cX0_breathOf 42 = .ok (.iload 6, 2) := by decide +kernel
theorem dX0_breathOf_44 : decode cX0_breathOf 44 = .ok (.iconst 1, 1) := by decide +kernel
theorem dX0_breathOf_45 : decode cX0_breathOf 45 = .ok (.if_icmp .ne 12, 3) := by decide +kernel
theorem dX0_breathOf_48 : decode cX0_breathOf 48 = .ok (.iconst 1, 1) := by decide +kernel
theorem dX0_breathOf_49 : decode cX0_breathOf 49 = .ok (.iload 7, 2) := by decide +kernel
theorem dX0_breathOf_51 : decode cX0_breathOf 51 = .ok (.iconst 1, 1) := by decide +kernel
theorem dX0_breathOf_52 : decode cX0_breathOf 52 = .ok (.isub, 1) := by decide +kernel
theorem dX0_breathOf_53 : decode cX0_breathOf 53 = .ok (.invokestatic 211, 3) := by decide +kernel
theorem dX0_breathOf_56 : decode cX0_breathOf 56 = .ok (.ireturn, 1) := by decide +kernel
theorem dX0_breathOf_57 : decode cX0_breathOf 57 = .ok (.iload 6, 2) := by decide +kernel
theorem dX0_breathOf_59 : decode cX0_breathOf 59 = .ok (.iconst 2, 1) := by decide +kernel
theorem dX0_breathOf_60 : decode cX0_breathOf 60 = .ok (.if_icmp .ne 17, 3) := by decide +kernel
theorem dX0_breathOf_63 : decode cX0_breathOf 63 = .ok (.iload 7, 2) := by decide +kernel
theorem dX0_breathOf_65 : decode cX0_breathOf 65 = .ok (.iload_n 2, 1) := by decide +kernel
theorem dX0_breathOf_66 : decode cX0_breathOf 66 = .ok (.iconst 4, 1) := by decide +kernel
theorem dX0_breathOf_67 : decode cX0_breathOf 67 = .ok (.if_icmp .le 7, 3) := by decide +kernel
theorem dX0_breathOf_70 : decode cX0_breathOf 70 = .ok (.iconst 2, 1) := by decide +kernel
theorem dX0_breathOf_71 : decode cX0_breathOf 71 = .ok (.goto 4, 3) := by decide +kernel
theorem dX0_breathOf_74 : decode cX0_breathOf 74 = .ok (.iconst 1, 1) := by decide +kernel
theorem dX0_breathOf_75 : decode cX0_breathOf 75 = .ok (.iadd, 1) := by decide +kernel
theorem dX0_breathOf_76 : decode cX0_breathOf 76 = .ok (.ireturn, 1) := by decide +kernel
theorem dX0_breathOf_77 : decode cX0_breathOf 77 = .ok (.iload 7, 2) := by decide +kernel
theorem dX0_breathOf_79 : decode cX0_breathOf 79 = .ok (.ireturn, 1) := by decide +kernel
theorem dX1_init_0 : decode cX1_init 0 = .ok (.aload_n 0, 1) := by decide +kernel
theorem dX1_init_1 : decode cX1_init 1 = .ok (.invokespecial 3, 3) := by decide +kernel
theorem dX1_init_4 : decode cX1_init 4 = .ok (.aload_n 0, 1) := by decide +kernel
theorem dX1_init_5 : decode cX1_init 5 = .ok (.bipush 40, 2) := by decide +kernel
theorem dX1_init_7 : decode cX1_init 7 = .ok (.anewarray 9, 3) := by decide +kernel
theorem dX1_init_10 : decode cX1_init 10 = .ok (.putfield 11, 3) := by decide +kernel
theorem dX1_init_13 : decode cX1_init 13 = .ok (.aload_n 0, 1) := by decide +kernel
theorem dX1_init_14 : decode cX1_init 14 = .ok (.bipush 40, 2) := by decide +kernel
theorem dX1_init_16 : decode cX1_init 16 = .ok (.newarray .int, 2) := by decide +kernel
theorem dX1_init_18 : decode cX1_init 18 = .ok (.putfield 17, 3) := by decide +kernel
theorem dX1_init_21 : decode cX1_init 21 = .ok (.aload_n 0, 1) := by decide +kernel
theorem dX1_init_22 : decode cX1_init 22 = .ok (.bipush 40, 2) := by decide +kernel
theorem dX1_init_24 : decode cX1_init 24 = .ok (.newarray .int, 2) := by decide +kernel
theorem dX1_init_26 : decode cX1_init 26 = .ok (.putfield 21, 3) := by decide +kernel
theorem dX1_init_29 : decode cX1_init 29 = .ok (.aload_n 0, 1) := by decide +kernel
theorem dX1_init_30 : decode cX1_init 30 = .ok (.bipush 40, 2) := by decide +kernel
theorem dX1_init_32 : decode cX1_init 32 = .ok (.newarray .int, 2) := by decide +kernel
theorem dX1_init_34 : decode cX1_init 34 = .ok (.putfield 24, 3) := by decide +kernel
theorem dX1_init_37 : decode cX1_init 37 = .ok (.return_, 1) := by decide +kernel
theorem dX1_reads_0 : decode cX1_reads 0 = .ok (.aload_n 0, 1) := by decide +kernel
theorem dX1_reads_1 : decode cX1_reads 1 = .ok (.iconst 0, 1) := by decide +kernel
theorem dX1_reads_2 : decode cX1_reads 2 = .ok (.putfield 27, 3) := by decide +kernel
theorem dX1_reads_5 : decode cX1_reads 5 = .ok (.iconst 1, 1) := by decide +kernel
theorem dX1_reads_6 : decode cX1_reads 6 = .ok (.istore_n 3, 1) := by decide +kernel
theorem dX1_reads_7 : decode cX1_reads 7 = .ok (.iconst 0, 1) := by decide +kernel
theorem dX1_reads_8 : decode cX1_reads 8 = .ok (.istore 4, 2) := by decide +kernel
theorem dX1_reads_10 : decode cX1_reads 10 = .ok (.iload_n 3, 1) := by decide +kernel
theorem dX1_reads_11 : decode cX1_reads 11 = .ok (.ifCond .eq 50, 3) := by decide +kernel
theorem dX1_reads_14 : decode cX1_reads 14 = .ok (.iload 4, 2) := by decide +kernel
theorem dX1_reads_16 : decode cX1_reads 16 = .ok (.bipush 40, 2) := by decide +kernel
theorem dX1_reads_18 : decode cX1_reads 18 = .ok (.if_icmp .gt 43, 3) := by decide +kernel
theorem dX1_reads_21 : decode cX1_reads 21 = .ok (.aload_n 1, 1) := by decide +kernel
theorem dX1_reads_22 : decode cX1_reads 22 = .ok (.getfield 31, 3) := by decide +kernel
theorem dX1_reads_25 : decode cX1_reads 25 = .ok (.getfield 37, 3) := by decide +kernel
theorem dX1_reads_28 : decode cX1_reads 28 = .ok (.ifCond .eq 33, 3) := by decide +kernel
theorem dX1_reads_31 : decode cX1_reads 31 = .ok (.aload_n 0, 1) := by decide +kernel
theorem dX1_reads_32 : decode cX1_reads 32 = .ok (.aload_n 1, 1) := by decide +kernel
theorem dX1_reads_33 : decode cX1_reads 33 = .ok (.aload_n 2, 1) := by decide +kernel
theorem dX1_reads_34 : decode cX1_reads 34 = .ok (.invokevirtual 42, 3) := by decide +kernel
theorem dX1_reads_37 : decode cX1_reads 37 = .ok (.ifCond .eq 16, 3) := by decide +kernel
theorem dX1_reads_40 : decode cX1_reads 40 = .ok (.aload_n 1, 1) := by decide +kernel
theorem dX1_reads_41 : decode cX1_reads 41 = .ok (.bipush 59, 2) := by decide +kernel
theorem dX1_reads_43 : decode cX1_reads 43 = .ok (.invokevirtual 46, 3) := by decide +kernel
theorem dX1_reads_46 : decode cX1_reads 46 = .ok (.ifCond .eq 7, 3) := by decide +kernel
theorem dX1_reads_49 : decode cX1_reads 49 = .ok (.iconst 1, 1) := by decide +kernel
theorem dX1_reads_50 : decode cX1_reads 50 = .ok (.goto 4, 3) := by decide +kernel
theorem dX1_reads_53 : decode cX1_reads 53 = .ok (.iconst 0, 1) := by decide +kernel
theorem dX1_reads_54 : decode cX1_reads 54 = .ok (.istore_n 3, 1) := by decide +kernel
theorem dX1_reads_55 : decode cX1_reads 55 = .ok (.iinc 4 1, 3) := by decide +kernel
theorem dX1_reads_58 : decode cX1_reads 58 = .ok (.goto (-48), 3) := by decide +kernel
theorem dX1_reads_61 : decode cX1_reads 61 = .ok (.return_, 1) := by decide +kernel
theorem dX1_readsLine_0 : decode cX1_readsLine 0 = .ok (.aload_n 1, 1) := by decide +kernel
theorem dX1_readsLine_1 : decode cX1_readsLine 1 = .ok (.getfield 31, 3) := by decide +kernel
theorem dX1_readsLine_4 : decode cX1_readsLine 4 = .ok (.getfield 50, 3) := by decide +kernel
theorem dX1_readsLine_7 : decode cX1_readsLine 7 = .ok (.astore_n 3, 1) := by decide +kernel
theorem dX1_readsLine_8 : decode cX1_readsLine 8 = .ok (.aload_n 3, 1) := by decide +kernel
theorem dX1_readsLine_9 : decode cX1_readsLine 9 = .ok (.invokestatic 54, 3) := by decide +kernel
theorem dX1_readsLine_12 : decode cX1_readsLine 12 = .ok (.ifCond .ne 9, 3) := by decide +kernel
theorem dX1_readsLine_15 : decode cX1_readsLine 15 = .ok (.aload_n 1, 1) := by decide +kernel
theorem dX1_readsLine_16 : decode cX1_readsLine 16 = .ok (.iconst 1, 1) := by decide +kernel
theorem dX1_readsLine_17 : decode cX1_readsLine 17 = .ok (.invokevirtual 58, 3) := by decide +kernel
theorem dX1_readsLine_20 : decode cX1_readsLine 20 = .ok (.ireturn, 1) := by decide +kernel
theorem dX1_readsLine_21 : decode cX1_readsLine 21 = .ok (.aload_n 0, 1) := by decide +kernel
theorem dX1_readsLine_22 : decode cX1_readsLine 22 = .ok (.getfield 27, 3) := by decide +kernel
theorem dX1_readsLine_25 : decode cX1_readsLine 25 = .ok (.bipush 40, 2) := by decide +kernel
theorem dX1_readsLine_27 : decode cX1_readsLine 27 = .ok (.if_icmp .lt 9, 3) := by decide +kernel
theorem dX1_readsLine_30 : decode cX1_readsLine 30 = .ok (.aload_n 1, 1) := by decide +kernel
theorem dX1_readsLine_31 : decode cX1_readsLine 31 = .ok (.iconst 5, 1) := by decide +kernel
theorem dX1_readsLine_32 : decode cX1_readsLine 32 = .ok (.invokevirtual 58, 3) := by decide +kernel
theorem dX1_readsLine_35 : decode cX1_readsLine 35 = .ok (.ireturn, 1) := by decide +kernel
theorem dX1_readsLine_36 : decode cX1_readsLine 36 = .ok (.aload_n 1, 1) := by decide +kernel
theorem dX1_readsLine_37 : decode cX1_readsLine 37 = .ok (.getfield 31, 3) := by decide +kernel
theorem dX1_readsLine_40 : decode cX1_readsLine 40 = .ok (.invokevirtual 62, 3) := by decide +kernel
theorem dX1_readsLine_43 : decode cX1_readsLine 43 = .ok (.iconst 1, 1) := by decide +kernel
theorem dX1_readsLine_44 : decode cX1_readsLine 44 = .ok (.istore 4, 2) := by decide +kernel
theorem dX1_readsLine_46 : decode cX1_readsLine 46 = .ok (.aload_n 3, 1) := by decide +kernel
theorem dX1_readsLine_47 : decode cX1_readsLine 47 = .ok (.getstatic 65, 3) := by decide +kernel
theorem dX1_readsLine_50 : decode cX1_readsLine 50 = .ok (.if_acmp .eq 38, 3) := by decide +kernel
theorem dX1_readsLine_53 : decode cX1_readsLine 53 = .ok (.aload_n 3, 1) := by decide +kernel
theorem dX1_readsLine_54 : decode cX1_readsLine 54 = .ok (.getstatic 68, 3) := by decide +kernel
theorem dX1_readsLine_57 : decode cX1_readsLine 57 = .ok (.if_acmp .eq 31, 3) := by decide +kernel
theorem dX1_readsLine_60 : decode cX1_readsLine 60 = .ok (.aload_n 0, 1) := by decide +kernel
theorem dX1_readsLine_61 : decode cX1_readsLine 61 = .ok (.getfield 17, 3) := by decide +kernel
theorem dX1_readsLine_64 : decode cX1_readsLine 64 = .ok (.aload_n 0, 1) := by decide +kernel
theorem dX1_readsLine_65 : decode cX1_readsLine 65 = .ok (.getfield 27, 3) := by decide +kernel
theorem dX1_readsLine_68 : decode cX1_readsLine 68 = .ok (.aload_n 2, 1) := by decide +kernel
theorem dX1_readsLine_69 : decode cX1_readsLine 69 = .ok (.aload_n 1, 1) := by decide +kernel
theorem dX1_readsLine_70 : decode cX1_readsLine 70 = .ok (.getfield 31, 3) := by decide +kernel
theorem dX1_readsLine_73 : decode cX1_readsLine 73 = .ok (.getfield 71, 3) := by decide +kernel
theorem dX1_readsLine_76 : decode cX1_readsLine 76 = .ok (.invokevirtual 75, 3) := by decide +kernel
theorem dX1_readsLine_79 : decode cX1_readsLine 79 = .ok (.iastore, 1) := by decide +kernel
theorem dX1_readsLine_80 : decode cX1_readsLine 80 = .ok (.aload_n 1, 1) := by decide +kernel
theorem dX1_readsLine_81 : decode cX1_readsLine 81 = .ok (.aload_n 2, 1) := by decide +kernel
theorem dX1_readsLine_82 : decode cX1_readsLine 82 = .ok (.iconst (-1), 1) := by decide +kernel
theorem dX1_readsLine_83 : decode cX1_readsLine 83 = .ok (.invokestatic 81, 3) := by decide +kernel
theorem dX1_readsLine_86 : decode cX1_readsLine 86 = .ok (.istore 4, 2) := by decide +kernel
theorem dX1_readsLine_88 : decode cX1_readsLine 88 = .ok (.iload 4, 2) := by decide +kernel
theorem dX1_readsLine_90 : decode cX1_readsLine 90 = .ok (.ifCond .eq 46, 3) := by decide +kernel
theorem dX1_readsLine_93 : decode cX1_readsLine 93 = .ok (.aload_n 3, 1) := by decide +kernel
theorem dX1_readsLine_94 : decode cX1_readsLine 94 = .ok (.getstatic 85, 3) := by decide +kernel
theorem dX1_readsLine_97 : decode cX1_readsLine 97 = .ok (.if_acmp .ne 39, 3) := by decide +kernel
theorem dX1_readsLine_100 : decode cX1_readsLine 100 = .ok (.aload_n 0, 1) := by decide +kernel
theorem dX1_readsLine_101 : decode cX1_readsLine 101 = .ok (.getfield 21, 3) := by decide +kernel
theorem dX1_readsLine_104 : decode cX1_readsLine 104 = .ok (.aload_n 0, 1) := by decide +kernel
theorem dX1_readsLine_105 : decode cX1_readsLine 105 = .ok (.getfield 27, 3) := by decide +kernel
theorem dX1_readsLine_108 : decode cX1_readsLine 108 = .ok (.aload_n 2, 1) := by decide +kernel
theorem dX1_readsLine_109 : decode cX1_readsLine 109 = .ok (.aload_n 1, 1) := by decide +kernel
theorem dX1_readsLine_110 : decode cX1_readsLine 110 = .ok (.getfield 31, 3) := by decide +kernel
theorem dX1_readsLine_113 : decode cX1_readsLine 113 = .ok (.getfield 71, 3) := by decide +kernel
theorem dX1_readsLine_116 : decode cX1_readsLine 116 = .ok (.invokevirtual 75, 3) := by decide +kernel
theorem dX1_readsLine_119 : decode cX1_readsLine 119 = .ok (.iastore, 1) := by decide +kernel
theorem dX1_readsLine_120 : decode cX1_readsLine 120 = .ok (.aload_n 1, 1) := by decide +kernel
theorem dX1_readsLine_121 : decode cX1_readsLine 121 = .ok (.aload_n 2, 1) := by decide +kernel
theorem dX1_readsLine_122 : decode cX1_readsLine 122 = .ok (.aload_n 0, 1) := by decide +kernel
theorem dX1_readsLine_123 : decode cX1_readsLine 123 = .ok (.getfield 17, 3) := by decide +kernel
theorem dX1_readsLine_126 : decode cX1_readsLine 126 = .ok (.aload_n 0, 1) := by decide +kernel
theorem dX1_readsLine_127 : decode cX1_readsLine 127 = .ok (.getfield 27, 3) := by decide +kernel
theorem dX1_readsLine_130 : decode cX1_readsLine 130 = .ok (.iaload, 1) := by decide +kernel
theorem dX1_readsLine_131 : decode cX1_readsLine 131 = .ok (.invokestatic 81, 3) := by decide +kernel
theorem dX1_readsLine_134 : decode cX1_readsLine 134 = .ok (.istore 4, 2) := by decide +kernel
theorem dX1_readsLine_136 : decode cX1_readsLine 136 = .ok (.iload 4, 2) := by decide +kernel
theorem dX1_readsLine_138 : decode cX1_readsLine 138 = .ok (.ifCond .eq 75, 3) := by decide +kernel
theorem dX1_readsLine_141 : decode cX1_readsLine 141 = .ok (.aload_n 3, 1) := by decide +kernel
theorem dX1_readsLine_142 : decode cX1_readsLine 142 = .ok (.getstatic 68, 3) := by decide +kernel
theorem dX1_readsLine_145 : decode cX1_readsLine 145 = .ok (.if_acmp .eq 68, 3) := by decide +kernel
theorem dX1_readsLine_148 : decode cX1_readsLine 148 = .ok (.aload_n 3, 1) := by decide +kernel
theorem dX1_readsLine_149 : decode cX1_readsLine 149 = .ok (.getstatic 88, 3) := by decide +kernel
theorem dX1_readsLine_152 : decode cX1_readsLine 152 = .ok (.if_acmp .eq 17, 3) := by decide +kernel
theorem dX1_readsLine_155 : decode cX1_readsLine 155 = .ok (.aload_n 3, 1) := by decide +kernel
theorem dX1_readsLine_156 : decode cX1_readsLine 156 = .ok (.getstatic 91, 3) := by decide +kernel
theorem dX1_readsLine_159 : decode cX1_readsLine 159 = .ok (.if_acmp .eq 10, 3) := by decide +kernel
theorem dX1_readsLine_162 : decode cX1_readsLine 162 = .ok (.aload_n 3, 1) := by decide +kernel
theorem dX1_readsLine_163 : decode cX1_readsLine 163 = .ok (.getstatic 65, 3) := by decide +kernel
theorem dX1_readsLine_166 : decode cX1_readsLine 166 = .ok (.if_acmp .ne 7, 3) := by decide +kernel
theorem dX1_readsLine_169 : decode cX1_readsLine 169 = .ok (.iconst 1, 1) := by decide +kernel
theorem dX1_readsLine_170 : decode cX1_readsLine 170 = .ok (.goto 4, 3) := by decide +kernel
theorem dX1_readsLine_173 : decode cX1_readsLine 173 = .ok (.iconst 0, 1) := by decide +kernel
theorem dX1_readsLine_174 : decode cX1_readsLine 174 = .ok (.istore 5, 2) := by decide +kernel
theorem dX1_readsLine_176 : decode cX1_readsLine 176 = .ok (.iload 5, 2) := by decide +kernel
theorem dX1_readsLine_178 : decode cX1_readsLine 178 = .ok (.ifCond .eq 13, 3) := by decide +kernel
theorem dX1_readsLine_181 : decode cX1_readsLine 181 = .ok (.aload_n 1, 1) := by decide +kernel
theorem dX1_readsLine_182 : decode cX1_readsLine 182 = .ok (.iconst 0, 1) := by decide +kernel
theorem dX1_readsLine_183 : decode cX1_readsLine 183 = .ok (.bipush 7, 2) := by decide +kernel
theorem dX1_readsLine_185 : decode cX1_readsLine 185 = .ok (.invokevirtual 94, 3) := by decide +kernel
theorem dX1_readsLine_188 : decode cX1_readsLine 188 = .ok (.goto 10, 3) := by decide +kernel
theorem dX1_readsLine_191 : decode cX1_readsLine 191 = .ok (.aload_n 1, 1) := by decide +kernel
theorem dX1_readsLine_192 : decode cX1_readsLine 192 = .ok (.iconst 1, 1) := by decide +kernel
theorem dX1_readsLine_193 : decode cX1_readsLine 193 = .ok (.bipush 99, 2) := by decide +kernel
theorem dX1_readsLine_195 : decode cX1_readsLine 195 = .ok (.invokevirtual 94, 3) := by decide +kernel
theorem dX1_readsLine_198 : decode cX1_readsLine 198 = .ok (.istore 4, 2) := by decide +kernel
theorem dX1_readsLine_200 : decode cX1_readsLine 200 = .ok (.aload_n 0, 1) := by decide +kernel
theorem dX1_readsLine_201 : decode cX1_readsLine 201 = .ok (.getfield 24, 3) := by decide +kernel
theorem dX1_readsLine_204 : decode cX1_readsLine 204 = .ok (.aload_n 0, 1) := by decide +kernel
theorem dX1_readsLine_205 : decode cX1_readsLine 205 = .ok (.getfield 27, 3) := by decide +kernel
theorem dX1_readsLine_208 : decode cX1_readsLine 208 = .ok (.aload_n 1, 1) := by decide +kernel
theorem dX1_readsLine_209 : decode cX1_readsLine 209 = .ok (.getfield 98, 3) := by decide +kernel
theorem dX1_readsLine_212 : decode cX1_readsLine 212 = .ok (.iastore, 1) := by decide +kernel
theorem dX1_readsLine_213 : decode cX1_readsLine 213 = .ok (.aload_n 0, 1) := by decide +kernel
theorem dX1_readsLine_214 : decode cX1_readsLine 214 = .ok (.getfield 11, 3) := by decide +kernel
theorem dX1_readsLine_217 : decode cX1_readsLine 217 = .ok (.aload_n 0, 1) := by decide +kernel
theorem dX1_readsLine_218 : decode cX1_readsLine 218 = .ok (.getfield 27, 3) := by decide +kernel
theorem dX1_readsLine_221 : decode cX1_readsLine 221 = .ok (.aload_n 3, 1) := by decide +kernel
theorem dX1_readsLine_222 : decode cX1_readsLine 222 = .ok (.aastore, 1) := by decide +kernel
theorem dX1_readsLine_223 : decode cX1_readsLine 223 = .ok (.aload_n 0, 1) := by decide +kernel
theorem dX1_readsLine_224 : decode cX1_readsLine 224 = .ok (.dup, 1) := by decide +kernel
theorem dX1_readsLine_225 : decode cX1_readsLine 225 = .ok (.getfield 27, 3) := by decide +kernel
theorem dX1_readsLine_228 : decode cX1_readsLine 228 = .ok (.iconst 1, 1) := by decide +kernel
theorem dX1_readsLine_229 : decode cX1_readsLine 229 = .ok (.iadd, 1) := by decide +kernel
theorem dX1_readsLine_230 : decode cX1_readsLine 230 = .ok (.putfield 27, 3) := by decide +kernel
theorem dX1_readsLine_233 : decode cX1_readsLine 233 = .ok (.iload 4, 2) := by decide +kernel
theorem dX1_readsLine_235 : decode cX1_readsLine 235 = .ok (.ireturn, 1) := by decide +kernel
theorem dX1_isDeed_0 : decode cX1_isDeed 0 = .ok (.aload_n 0, 1) := by decide +kernel
theorem dX1_isDeed_1 : decode cX1_isDeed 1 = .ok (.getstatic 88, 3) := by decide +kernel
theorem dX1_isDeed_4 : decode cX1_isDeed 4 = .ok (.if_acmp .eq 45, 3) := by decide +kernel
theorem dX1_isDeed_7 : decode cX1_isDeed 7 = .ok (.aload_n 0, 1) := by decide +kernel
theorem dX1_isDeed_8 : decode cX1_isDeed 8 = .ok (.getstatic 91, 3) := by decide +kernel
theorem dX1_isDeed_11 : decode cX1_isDeed 11 = .ok (.if_acmp .eq 38, 3) := by decide +kernel
theorem dX1_isDeed_14 : decode cX1_isDeed 14 = .ok (.aload_n 0, 1) := by decide +kernel
theorem dX1_isDeed_15 : decode cX1_isDeed 15 = .ok (.getstatic 101, 3) := by decide +kernel
theorem dX1_isDeed_18 : decode cX1_isDeed 18 = .ok (.if_acmp .eq 31, 3) := by decide +kernel
theorem dX1_isDeed_21 : decode cX1_isDeed 21 = .ok (.aload_n 0, 1) := by decide +kernel
theorem dX1_isDeed_22 : decode cX1_isDeed 22 = .ok (.getstatic 104, 3) := by decide +kernel
theorem dX1_isDeed_25 : decode cX1_isDeed 25 = .ok (.if_acmp .eq 24, 3) := by decide +kernel
theorem dX1_isDeed_28 : decode cX1_isDeed 28 = .ok (.aload_n 0, 1) := by decide +kernel
theorem dX1_isDeed_29 : decode cX1_isDeed 29 = .ok (.getstatic 85, 3) := by decide +kernel
theorem dX1_isDeed_32 : decode cX1_isDeed 32 = .ok (.if_acmp .eq 17, 3) := by decide +kernel
theorem dX1_isDeed_35 : decode cX1_isDeed 35 = .ok (.aload_n 0, 1) := by decide +kernel
theorem dX1_isDeed_36 : decode cX1_isDeed 36 = .ok (.getstatic 65, 3) := by decide +kernel
theorem dX1_isDeed_39 : decode cX1_isDeed 39 = .ok (.if_acmp .eq 10, 3) := by decide +kernel
theorem dX1_isDeed_42 : decode cX1_isDeed 42 = .ok (.aload_n 0, 1) := by decide +kernel
theorem dX1_isDeed_43 : decode cX1_isDeed 43 = .ok (.getstatic 68, 3) := by decide +kernel
theorem dX1_isDeed_46 : decode cX1_isDeed 46 = .ok (.if_acmp .ne 7, 3) := by decide +kernel
theorem dX1_isDeed_49 : decode cX1_isDeed 49 = .ok (.iconst 1, 1) := by decide +kernel
theorem dX1_isDeed_50 : decode cX1_isDeed 50 = .ok (.goto 4, 3) := by decide +kernel
theorem dX1_isDeed_53 : decode cX1_isDeed 53 = .ok (.iconst 0, 1) := by decide +kernel
theorem dX1_isDeed_54 : decode cX1_isDeed 54 = .ok (.ireturn, 1) := by decide +kernel
theorem dX1_takesDiver_0 : decode cX1_takesDiver 0 = .ok (.aload_n 0, 1) := by decide +kernel
theorem dX1_takesDiver_1 : decode cX1_takesDiver 1 = .ok (.invokevirtual 107, 3) := by decide +kernel
theorem dX1_takesDiver_4 : decode cX1_takesDiver 4 = .ok (.ifCond .ne 5, 3) := by decide +kernel
theorem dX1_takesDiver_7 : decode cX1_takesDiver 7 = .ok (.iconst 0, 1) := by decide +kernel
theorem dX1_takesDiver_8 : decode cX1_takesDiver 8 = .ok (.ireturn, 1) := by decide +kernel
theorem dX1_takesDiver_9 : decode cX1_takesDiver 9 = .ok (.aload_n 1, 1) := by decide +kernel
theorem dX1_takesDiver_10 : decode cX1_takesDiver 10 = .ok (.aload_n 0, 1) := by decide +kernel
theorem dX1_takesDiver_11 : decode cX1_takesDiver 11 = .ok (.getfield 31, 3) := by decide +kernel
theorem dX1_takesDiver_14 : decode cX1_takesDiver 14 = .ok (.getfield 71, 3) := by decide +kernel
theorem dX1_takesDiver_17 : decode cX1_takesDiver 17 = .ok (.invokevirtual 75, 3) := by decide +kernel
theorem dX1_takesDiver_20 : decode cX1_takesDiver 20 = .ok (.istore_n 3, 1) := by decide +kernel
theorem dX1_takesDiver_21 : decode cX1_takesDiver 21 = .ok (.iload_n 3, 1) := by decide +kernel
theorem dX1_takesDiver_22 : decode cX1_takesDiver 22 = .ok (.iconst (-1), 1) := by decide +kernel
theorem dX1_takesDiver_23 : decode cX1_takesDiver 23 = .ok (.if_icmp .ne 9, 3) := by decide +kernel
theorem dX1_takesDiver_26 : decode cX1_takesDiver 26 = .ok (.aload_n 0, 1) := by decide +kernel
theorem dX1_takesDiver_27 : decode cX1_takesDiver 27 = .ok (.iconst 2, 1) := by decide +kernel
theorem dX1_takesDiver_28 : decode cX1_takesDiver 28 = .ok (.invokevirtual 58, 3) := by decide +kernel
theorem dX1_takesDiver_31 : decode cX1_takesDiver 31 = .ok (.ireturn, 1) := by decide +kernel
theorem dX1_takesDiver_32 : decode cX1_takesDiver 32 = .ok (.iload_n 3, 1) := by decide +kernel
theorem dX1_takesDiver_33 : decode cX1_takesDiver 33 = .ok (.iload_n 2, 1) := by decide +kernel
theorem dX1_takesDiver_34 : decode cX1_takesDiver 34 = .ok (.if_icmp .ne 9, 3) := by decide +kernel
theorem dX1_takesDiver_37 : decode cX1_takesDiver 37 = .ok (.aload_n 0, 1) := by decide +kernel
theorem dX1_takesDiver_38 : decode cX1_takesDiver 38 = .ok (.iconst 3, 1) := by decide +kernel
theorem dX1_takesDiver_39 : decode cX1_takesDiver 39 = .ok (.invokevirtual 58, 3) := by decide +kernel
theorem dX1_takesDiver_42 : decode cX1_takesDiver 42 = .ok (.ireturn, 1) := by decide +kernel
theorem dX1_takesDiver_43 : decode cX1_takesDiver 43 = .ok (.aload_n 0, 1) := by decide +kernel
theorem dX1_takesDiver_44 : decode cX1_takesDiver 44 = .ok (.getfield 31, 3) := by decide +kernel
theorem dX1_takesDiver_47 : decode cX1_takesDiver 47 = .ok (.invokevirtual 62, 3) := by decide +kernel
theorem dX1_takesDiver_50 : decode cX1_takesDiver 50 = .ok (.iconst 1, 1) := by decide +kernel
theorem dX1_takesDiver_51 : decode cX1_takesDiver 51 = .ok (.ireturn, 1) := by decide +kernel
theorem dX2_init_0 : decode cX2_init 0 = .ok (.aload_n 0, 1) := by decide +kernel
theorem dX2_init_1 : decode cX2_init 1 = .ok (.invokespecial 3, 3) := by decide +kernel
theorem dX2_init_4 : decode cX2_init 4 = .ok (.aload_n 0, 1) := by decide +kernel
theorem dX2_init_5 : decode cX2_init 5 = .ok (.bipush 8, 2) := by decide +kernel
theorem dX2_init_7 : decode cX2_init 7 = .ok (.newarray .int, 2) := by decide +kernel
theorem dX2_init_9 : decode cX2_init 9 = .ok (.putfield 9, 3) := by decide +kernel
theorem dX2_init_12 : decode cX2_init 12 = .ok (.aload_n 0, 1) := by decide +kernel
theorem dX2_init_13 : decode cX2_init 13 = .ok (.bipush 8, 2) := by decide +kernel
theorem dX2_init_15 : decode cX2_init 15 = .ok (.newarray .int, 2) := by decide +kernel
theorem dX2_init_17 : decode cX2_init 17 = .ok (.putfield 15, 3) := by decide +kernel
theorem dX2_init_20 : decode cX2_init 20 = .ok (.return_, 1) := by decide +kernel
theorem dX2_adds_0 : decode cX2_adds 0 = .ok (.aload_n 0, 1) := by decide +kernel
theorem dX2_adds_1 : decode cX2_adds 1 = .ok (.getfield 18, 3) := by decide +kernel
theorem dX2_adds_4 : decode cX2_adds 4 = .ok (.bipush 8, 2) := by decide +kernel
theorem dX2_adds_6 : decode cX2_adds 6 = .ok (.if_icmp .lt 5, 3) := by decide +kernel
theorem dX2_adds_9 : decode cX2_adds 9 = .ok (.iconst 0, 1) := by decide +kernel
theorem dX2_adds_10 : decode cX2_adds 10 = .ok (.ireturn, 1) := by decide +kernel
theorem dX2_adds_11 : decode cX2_adds 11 = .ok (.aload_n 0, 1) := by decide +kernel
theorem dX2_adds_12 : decode cX2_adds 12 = .ok (.getfield 9, 3) := by decide +kernel
theorem dX2_adds_15 : decode cX2_adds 15 = .ok (.aload_n 0, 1) := by decide +kernel
theorem dX2_adds_16 : decode cX2_adds 16 = .ok (.getfield 18, 3) := by decide +kernel
theorem dX2_adds_19 : decode cX2_adds 19 = .ok (.iload_n 1, 1) := by decide +kernel
theorem dX2_adds_20 : decode cX2_adds 20 = .ok (.iastore, 1) := by decide +kernel
theorem dX2_adds_21 : decode cX2_adds 21 = .ok (.aload_n 0, 1) := by decide +kernel
theorem dX2_adds_22 : decode cX2_adds 22 = .ok (.getfield 15, 3) := by decide +kernel
theorem dX2_adds_25 : decode cX2_adds 25 = .ok (.aload_n 0, 1) := by decide +kernel
theorem dX2_adds_26 : decode cX2_adds 26 = .ok (.getfield 18, 3) := by decide +kernel
theorem dX2_adds_29 : decode cX2_adds 29 = .ok (.iload_n 2, 1) := by decide +kernel
theorem dX2_adds_30 : decode cX2_adds 30 = .ok (.iastore, 1) := by decide +kernel
theorem dX2_adds_31 : decode cX2_adds 31 = .ok (.aload_n 0, 1) := by decide +kernel
theorem dX2_adds_32 : decode cX2_adds 32 = .ok (.dup, 1) := by decide +kernel
theorem dX2_adds_33 : decode cX2_adds 33 = .ok (.getfield 18, 3) := by decide +kernel
theorem dX2_adds_36 : decode cX2_adds 36 = .ok (.iconst 1, 1) := by decide +kernel
theorem dX2_adds_37 : decode cX2_adds 37 = .ok (.iadd, 1) := by decide +kernel
theorem dX2_adds_38 : decode cX2_adds 38 = .ok (.putfield 18, 3) := by decide +kernel
theorem dX2_adds_41 : decode cX2_adds 41 = .ok (.iconst 1, 1) := by decide +kernel
theorem dX2_adds_42 : decode cX2_adds 42 = .ok (.ireturn, 1) := by decide +kernel
theorem dX2_become_0 : decode cX2_become 0 = .ok (.aload_n 0, 1) := by decide +kernel
theorem dX2_become_1 : decode cX2_become 1 = .ok (.aload_n 1, 1) := by decide +kernel
theorem dX2_become_2 : decode cX2_become 2 = .ok (.getfield 18, 3) := by decide +kernel
theorem dX2_become_5 : decode cX2_become 5 = .ok (.putfield 18, 3) := by decide +kernel
theorem dX2_become_8 : decode cX2_become 8 = .ok (.aload_n 1, 1) := by decide +kernel
theorem dX2_become_9 : decode cX2_become 9 = .ok (.getfield 9, 3) := by decide +kernel
theorem dX2_become_12 : decode cX2_become 12 = .ok (.iconst 0, 1) := by decide +kernel
theorem dX2_become_13 : decode cX2_become 13 = .ok (.aload_n 0, 1) := by decide +kernel
theorem dX2_become_14 : decode cX2_become 14 = .ok (.getfield 9, 3) := by decide +kernel
theorem dX2_become_17 : decode cX2_become 17 = .ok (.iconst 0, 1) := by decide +kernel
theorem dX2_become_18 : decode cX2_become 18 = .ok (.bipush 8, 2) := by decide +kernel
theorem dX2_become_20 : decode cX2_become 20 = .ok (.invokestatic 22, 3) := by decide +kernel
theorem dX2_become_23 : decode cX2_become 23 = .ok (.aload_n 1, 1) := by decide +kernel
theorem dX2_become_24 : decode cX2_become 24 = .ok (.getfield 15, 3) := by decide +kernel
theorem dX2_become_27 : decode cX2_become 27 = .ok (.iconst 0, 1) := by decide +kernel
theorem dX2_become_28 : decode cX2_become 28 = .ok (.aload_n 0, 1) := by decide +kernel
theorem dX2_become_29 : decode cX2_become 29 = .ok (.getfield 15, 3) := by decide +kernel
theorem dX2_become_32 : decode cX2_become 32 = .ok (.iconst 0, 1) := by decide +kernel
theorem dX2_become_33 : decode cX2_become 33 = .ok (.bipush 8, 2) := by decide +kernel
theorem dX2_become_35 : decode cX2_become 35 = .ok (.invokestatic 22, 3) := by decide +kernel
theorem dX2_become_38 : decode cX2_become 38 = .ok (.return_, 1) := by decide +kernel
theorem dX2_fit_0 : decode cX2_fit 0 = .ok (.iconst 0, 1) := by decide +kernel
theorem dX2_fit_1 : decode cX2_fit 1 = .ok (.istore_n 2, 1) := by decide +kernel
theorem dX2_fit_2 : decode cX2_fit 2 = .ok (.iload_n 2, 1) := by decide +kernel
theorem dX2_fit_3 : decode cX2_fit 3 = .ok (.aload_n 0, 1) := by decide +kernel
theorem dX2_fit_4 : decode cX2_fit 4 = .ok (.getfield 18, 3) := by decide +kernel
theorem dX2_fit_7 : decode cX2_fit 7 = .ok (.if_icmp .ge 31, 3) := by decide +kernel
theorem dX2_fit_10 : decode cX2_fit 10 = .ok (.aload_n 1, 1) := by decide +kernel
theorem dX2_fit_11 : decode cX2_fit 11 = .ok (.getfield 28, 3) := by decide +kernel
theorem dX2_fit_14 : decode cX2_fit 14 = .ok (.aload_n 0, 1) := by decide +kernel
theorem dX2_fit_15 : decode cX2_fit 15 = .ok (.getfield 9, 3) := by decide +kernel
theorem dX2_fit_18 : decode cX2_fit 18 = .ok (.iload_n 2, 1) := by decide +kernel
theorem dX2_fit_19 : decode cX2_fit 19 = .ok (.iaload, 1) := by decide +kernel
theorem dX2_fit_20 : decode cX2_fit 20 = .ok (.iaload, 1) := by decide +kernel
theorem dX2_fit_21 : decode cX2_fit 21 = .ok (.aload_n 0, 1) := by decide +kernel
theorem dX2_fit_22 : decode cX2_fit 22 = .ok (.getfield 15, 3) := by decide +kernel
theorem dX2_fit_25 : decode cX2_fit 25 = .ok (.iload_n 2, 1) := by decide +kernel
theorem dX2_fit_26 : decode cX2_fit 26 = .ok (.iaload, 1) := by decide +kernel
theorem dX2_fit_27 : decode cX2_fit 27 = .ok (.if_icmp .eq 5, 3) := by decide +kernel
theorem dX2_fit_30 : decode cX2_fit 30 = .ok (.iconst 0, 1) := by decide +kernel
theorem dX2_fit_31 : decode cX2_fit 31 = .ok (.ireturn, 1) := by decide +kernel
theorem dX2_fit_32 : decode cX2_fit 32 = .ok (.iinc 2 1, 3) := by decide +kernel
theorem dX2_fit_35 : decode cX2_fit 35 = .ok (.goto (-33), 3) := by decide +kernel
theorem dX2_fit_38 : decode cX2_fit 38 = .ok (.iconst 1, 1) := by decide +kernel
theorem dX2_fit_39 : decode cX2_fit 39 = .ok (.ireturn, 1) := by decide +kernel
theorem dX3_init_0 : decode cX3_init 0 = .ok (.aload_n 0, 1) := by decide +kernel
theorem dX3_init_1 : decode cX3_init 1 = .ok (.invokespecial 3, 3) := by decide +kernel
theorem dX3_init_4 : decode cX3_init 4 = .ok (.aload_n 0, 1) := by decide +kernel
theorem dX3_init_5 : decode cX3_init 5 = .ok (.sipush 1000, 3) := by decide +kernel
theorem dX3_init_8 : decode cX3_init 8 = .ok (.newarray .int, 2) := by decide +kernel
theorem dX3_init_10 : decode cX3_init 10 = .ok (.putfield 9, 3) := by decide +kernel
theorem dX3_init_13 : decode cX3_init 13 = .ok (.aload_n 0, 1) := by decide +kernel
theorem dX3_init_14 : decode cX3_init 14 = .ok (.bipush 24, 2) := by decide +kernel
theorem dX3_init_16 : decode cX3_init 16 = .ok (.newarray .int, 2) := by decide +kernel
theorem dX3_init_18 : decode cX3_init 18 = .ok (.putfield 15, 3) := by decide +kernel
theorem dX3_init_21 : decode cX3_init 21 = .ok (.return_, 1) := by decide +kernel
theorem dX3_becomeUsual_0 : decode cX3_becomeUsual 0 = .ok (.aload_n 0, 1) := by decide +kernel
theorem dX3_becomeUsual_1 : decode cX3_becomeUsual 1 = .ok (.iconst 0, 1) := by decide +kernel
theorem dX3_becomeUsual_2 : decode cX3_becomeUsual 2 = .ok (.putfield 18, 3) := by decide +kernel
theorem dX3_becomeUsual_5 : decode cX3_becomeUsual 5 = .ok (.aload_n 0, 1) := by decide +kernel
theorem dX3_becomeUsual_6 : decode cX3_becomeUsual 6 = .ok (.iconst 1, 1) := by decide +kernel
theorem dX3_becomeUsual_7 : decode cX3_becomeUsual 7 = .ok (.invokevirtual 22, 3) := by decide +kernel
theorem dX3_becomeUsual_10 : decode cX3_becomeUsual 10 = .ok (.aload_n 0, 1) := by decide +kernel
theorem dX3_becomeUsual_11 : decode cX3_becomeUsual 11 = .ok (.iconst (-1), 1) := by decide +kernel
theorem dX3_becomeUsual_12 : decode cX3_becomeUsual 12 = .ok (.invokevirtual 22, 3) := by decide +kernel
theorem dX3_becomeUsual_15 : decode cX3_becomeUsual 15 = .ok (.aload_n 0, 1) := by decide +kernel
theorem dX3_becomeUsual_16 : decode cX3_becomeUsual 16 = .ok (.bipush (-10), 2) := by decide +kernel
theorem dX3_becomeUsual_18 : decode cX3_becomeUsual 18 = .ok (.invokevirtual 22, 3) := by decide +kernel
theorem dX3_becomeUsual_21 : decode cX3_becomeUsual 21 = .ok (.return_, 1) := by decide +kernel
theorem dX3_put_0 : decode cX3_put 0 = .ok (.aload_n 0, 1) := by decide +kernel
theorem dX3_put_1 : decode cX3_put 1 = .ok (.getfield 18, 3) := by decide +kernel
theorem dX3_put_4 : decode cX3_put 4 = .ok (.aload_n 0, 1) := by decide +kernel
theorem dX3_put_5 : decode cX3_put 5 = .ok (.getfield 9, 3) := by decide +kernel
theorem dX3_put_8 : decode cX3_put 8 = .ok (.arraylength, 1) := by decide +kernel
theorem dX3_put_9 : decode cX3_put 9 = .ok (.if_icmp .ge 23, 3) := by decide +kernel
theorem dX3_put_12 : decode cX3_put 12 = .ok (.aload_n 0, 1) := by decide +kernel
theorem dX3_put_13 : decode cX3_put 13 = .ok (.getfield 9, 3) := by decide +kernel
theorem dX3_put_16 : decode cX3_put 16 = .ok (.aload_n 0, 1) := by decide +kernel
theorem dX3_put_17 : decode cX3_put 17 = .ok (.getfield 18, 3) := by decide +kernel
theorem dX3_put_20 : decode cX3_put 20 = .ok (.iload_n 1, 1) := by decide +kernel
theorem dX3_put_21 : decode cX3_put 21 = .ok (.iastore, 1) := by decide +kernel
theorem dX3_put_22 : decode cX3_put 22 = .ok (.aload_n 0, 1) := by decide +kernel
theorem dX3_put_23 : decode cX3_put 23 = .ok (.dup, 1) := by decide +kernel
theorem dX3_put_24 : decode cX3_put 24 = .ok (.getfield 18, 3) := by decide +kernel
theorem dX3_put_27 : decode cX3_put 27 = .ok (.iconst 1, 1) := by decide +kernel
theorem dX3_put_28 : decode cX3_put 28 = .ok (.iadd, 1) := by decide +kernel
theorem dX3_put_29 : decode cX3_put 29 = .ok (.putfield 18, 3) := by decide +kernel
theorem dX3_put_32 : decode cX3_put 32 = .ok (.return_, 1) := by decide +kernel
theorem dX3_readsTests_0 : decode cX3_readsTests 0 = .ok (.aload_n 0, 1) := by decide +kernel
theorem dX3_readsTests_1 : decode cX3_readsTests 1 = .ok (.aload_n 1, 1) := by decide +kernel
theorem dX3_readsTests_2 : decode cX3_readsTests 2 = .ok (.iload_n 2, 1) := by decide +kernel
theorem dX3_readsTests_3 : decode cX3_readsTests 3 = .ok (.invokevirtual 26, 3) := by decide +kernel
theorem dX3_readsTests_6 : decode cX3_readsTests 6 = .ok (.istore_n 3, 1) := by decide +kernel
theorem dX3_readsTests_7 : decode cX3_readsTests 7 = .ok (.iconst 0, 1) := by decide +kernel
theorem dX3_readsTests_8 : decode cX3_readsTests 8 = .ok (.istore 4, 2) := by decide +kernel
theorem dX3_readsTests_10 : decode cX3_readsTests 10 = .ok (.iload_n 3, 1) := by decide +kernel
theorem dX3_readsTests_11 : decode cX3_readsTests 11 = .ok (.ifCond .eq 77, 3) := by decide +kernel
theorem dX3_readsTests_14 : decode cX3_readsTests 14 = .ok (.iload 4, 2) := by decide +kernel
theorem dX3_readsTests_16 : decode cX3_readsTests 16 = .ok (.sipush 1000, 3) := by decide +kernel
theorem dX3_readsTests_19 : decode cX3_readsTests 19 = .ok (.if_icmp .ge 69, 3) := by decide +kernel
theorem dX3_readsTests_22 : decode cX3_readsTests 22 = .ok (.aload_n 1, 1) := by decide +kernel
theorem dX3_readsTests_23 : decode cX3_readsTests 23 = .ok (.getfield 30, 3) := by decide +kernel
theorem dX3_readsTests_26 : decode cX3_readsTests 26 = .ok (.getfield 36, 3) := by decide +kernel
theorem dX3_readsTests_29 : decode cX3_readsTests 29 = .ok (.astore 5, 2) := by decide +kernel
theorem dX3_readsTests_31 : decode cX3_readsTests 31 = .ok (.aload 5, 2) := by decide +kernel
theorem dX3_readsTests_33 : decode cX3_readsTests 33 = .ok (.getstatic 42, 3) := by decide +kernel
theorem dX3_readsTests_36 : decode cX3_readsTests 36 = .ok (.if_acmp .eq 13, 3) := by decide +kernel
theorem dX3_readsTests_39 : decode cX3_readsTests 39 = .ok (.aload 5, 2) := by decide +kernel
theorem dX3_readsTests_41 : decode cX3_readsTests 41 = .ok (.getstatic 47, 3) := by decide +kernel
theorem dX3_readsTests_44 : decode cX3_readsTests 44 = .ok (.if_acmp .eq 5, 3) := by decide +kernel
theorem dX3_readsTests_47 : decode cX3_readsTests 47 = .ok (.iconst 1, 1) := by decide +kernel
theorem dX3_readsTests_48 : decode cX3_readsTests 48 = .ok (.ireturn, 1) := by decide +kernel
theorem dX3_readsTests_49 : decode cX3_readsTests 49 = .ok (.aload_n 1, 1) := by decide +kernel
theorem dX3_readsTests_50 : decode cX3_readsTests 50 = .ok (.getfield 30, 3) := by decide +kernel
theorem dX3_readsTests_53 : decode cX3_readsTests 53 = .ok (.invokevirtual 50, 3) := by decide +kernel
theorem dX3_readsTests_56 : decode cX3_readsTests 56 = .ok (.aload_n 0, 1) := by decide +kernel
theorem dX3_readsTests_57 : decode cX3_readsTests 57 = .ok (.aload_n 1, 1) := by decide +kernel
theorem dX3_readsTests_58 : decode cX3_readsTests 58 = .ok (.iload_n 2, 1) := by decide +kernel
theorem dX3_readsTests_59 : decode cX3_readsTests 59 = .ok (.invokevirtual 26, 3) := by decide +kernel
theorem dX3_readsTests_62 : decode cX3_readsTests 62 = .ok (.istore_n 3, 1) := by decide +kernel
theorem dX3_readsTests_63 : decode cX3_readsTests 63 = .ok (.aload_n 0, 1) := by decide +kernel
theorem dX3_readsTests_64 : decode cX3_readsTests 64 = .ok (.aload 5, 2) := by decide +kernel
theorem dX3_readsTests_66 : decode cX3_readsTests 66 = .ok (.getstatic 42, 3) := by decide +kernel
theorem dX3_readsTests_69 : decode cX3_readsTests 69 = .ok (.if_acmp .ne 8, 3) := by decide +kernel
theorem dX3_readsTests_72 : decode cX3_readsTests 72 = .ok (.bipush (-6), 2) := by decide +kernel
theorem dX3_readsTests_74 : decode cX3_readsTests 74 = .ok (.goto 5, 3) := by decide +kernel
theorem dX3_readsTests_77 : decode cX3_readsTests 77 = .ok (.bipush (-7), 2) := by decide +kernel
theorem dX3_readsTests_79 : decode cX3_readsTests 79 = .ok (.invokevirtual 22, 3) := by decide +kernel
theorem dX3_readsTests_82 : decode cX3_readsTests 82 = .ok (.iinc 4 1, 3) := by decide +kernel
theorem dX3_readsTests_85 : decode cX3_readsTests 85 = .ok (.goto (-75), 3) := by decide +kernel
theorem dX3_readsTests_88 : decode cX3_readsTests 88 = .ok (.iload_n 3, 1) := by decide +kernel
theorem dX3_readsTests_89 : decode cX3_readsTests 89 = .ok (.ireturn, 1) := by decide +kernel
theorem dX3_readsTest_0 : decode cX3_readsTest 0 = .ok (.aload_n 0, 1) := by decide +kernel
theorem dX3_readsTest_1 : decode cX3_readsTest 1 = .ok (.aload_n 1, 1) := by decide +kernel
theorem dX3_readsTest_2 : decode cX3_readsTest 2 = .ok (.iload_n 2, 1) := by decide +kernel
theorem dX3_readsTest_3 : decode cX3_readsTest 3 = .ok (.invokevirtual 53, 3) := by decide +kernel
theorem dX3_readsTest_6 : decode cX3_readsTest 6 = .ok (.istore_n 3, 1) := by decide +kernel
theorem dX3_readsTest_7 : decode cX3_readsTest 7 = .ok (.aload_n 1, 1) := by decide +kernel
theorem dX3_readsTest_8 : decode cX3_readsTest 8 = .ok (.getfield 30, 3) := by decide +kernel
theorem dX3_readsTest_11 : decode cX3_readsTest 11 = .ok (.getfield 56, 3) := by decide +kernel
theorem dX3_readsTest_14 : decode cX3_readsTest 14 = .ok (.istore 4, 2) := by decide +kernel
theorem dX3_readsTest_16 : decode cX3_readsTest 16 = .ok (.iload_n 3, 1) := by decide +kernel
theorem dX3_readsTest_17 : decode cX3_readsTest 17 = .ok (.ifCond .eq 17, 3) := by decide +kernel
theorem dX3_readsTest_20 : decode cX3_readsTest 20 = .ok (.iload 4, 2) := by decide +kernel
theorem dX3_readsTest_22 : decode cX3_readsTest 22 = .ok (.bipush 60, 2) := by decide +kernel
theorem dX3_readsTest_24 : decode cX3_readsTest 24 = .ok (.if_icmp .eq 12, 3) := by decide +kernel
theorem dX3_readsTest_27 : decode cX3_readsTest 27 = .ok (.iload 4, 2) := by decide +kernel
theorem dX3_readsTest_29 : decode cX3_readsTest 29 = .ok (.bipush 61, 2) := by decide +kernel
theorem dX3_readsTest_31 : decode cX3_readsTest 31 = .ok (.if_icmp .eq 5, 3) := by decide +kernel
theorem dX3_readsTest_34 : decode cX3_readsTest 34 = .ok (.iload_n 3, 1) := by decide +kernel
theorem dX3_readsTest_35 : decode cX3_readsTest 35 = .ok (.ireturn, 1) := by decide +kernel
theorem dX3_readsTest_36 : decode cX3_readsTest 36 = .ok (.aload_n 1, 1) := by decide +kernel
theorem dX3_readsTest_37 : decode cX3_readsTest 37 = .ok (.getfield 30, 3) := by decide +kernel
theorem dX3_readsTest_40 : decode cX3_readsTest 40 = .ok (.invokevirtual 50, 3) := by decide +kernel
theorem dX3_readsTest_43 : decode cX3_readsTest 43 = .ok (.aload_n 0, 1) := by decide +kernel
theorem dX3_readsTest_44 : decode cX3_readsTest 44 = .ok (.aload_n 1, 1) := by decide +kernel
theorem dX3_readsTest_45 : decode cX3_readsTest 45 = .ok (.iload_n 2, 1) := by decide +kernel
theorem dX3_readsTest_46 : decode cX3_readsTest 46 = .ok (.invokevirtual 53, 3) := by decide +kernel
theorem dX3_readsTest_49 : decode cX3_readsTest 49 = .ok (.istore_n 3, 1) := by decide +kernel
theorem dX3_readsTest_50 : decode cX3_readsTest 50 = .ok (.aload_n 0, 1) := by decide +kernel
theorem dX3_readsTest_51 : decode cX3_readsTest 51 = .ok (.iload 4, 2) := by decide +kernel
theorem dX3_readsTest_53 : decode cX3_readsTest 53 = .ok (.bipush 60, 2) := by decide +kernel
theorem dX3_readsTest_55 : decode cX3_readsTest 55 = .ok (.if_icmp .ne 8, 3) := by decide +kernel
theorem dX3_readsTest_58 : decode cX3_readsTest 58 = .ok (.bipush (-8), 2) := by decide +kernel
theorem dX3_readsTest_60 : decode cX3_readsTest 60 = .ok (.goto 5, 3) := by decide +kernel
theorem dX3_readsTest_63 : decode cX3_readsTest 63 = .ok (.bipush (-9), 2) := by decide +kernel
theorem dX3_readsTest_65 : decode cX3_readsTest 65 = .ok (.invokevirtual 22, 3) := by decide +kernel
theorem dX3_readsTest_68 : decode cX3_readsTest 68 = .ok (.iload_n 3, 1) := by decide +kernel
theorem dX3_readsTest_69 : decode cX3_readsTest 69 = .ok (.ireturn, 1) := by decide +kernel
theorem dX3_readsSum_0 : decode cX3_readsSum 0 = .ok (.aload_n 0, 1) := by decide +kernel
theorem dX3_readsSum_1 : decode cX3_readsSum 1 = .ok (.aload_n 1, 1) := by decide +kernel
theorem dX3_readsSum_2 : decode cX3_readsSum 2 = .ok (.iload_n 2, 1) := by decide +kernel
theorem dX3_readsSum_3 : decode cX3_readsSum 3 = .ok (.invokevirtual 59, 3) := by decide +kernel
theorem dX3_readsSum_6 : decode cX3_readsSum 6 = .ok (.istore_n 3, 1) := by decide +kernel
theorem dX3_readsSum_7 : decode cX3_readsSum 7 = .ok (.iconst 0, 1) := by decide +kernel
theorem dX3_readsSum_8 : decode cX3_readsSum 8 = .ok (.istore 4, 2) := by decide +kernel
theorem dX3_readsSum_10 : decode cX3_readsSum 10 = .ok (.iload_n 3, 1) := by decide +kernel
theorem dX3_readsSum_11 : decode cX3_readsSum 11 = .ok (.ifCond .eq 74, 3) := by decide +kernel
theorem dX3_readsSum_14 : decode cX3_readsSum 14 = .ok (.iload 4, 2) := by decide +kernel
theorem dX3_readsSum_16 : decode cX3_readsSum 16 = .ok (.sipush 1000, 3) := by decide +kernel
theorem dX3_readsSum_19 : decode cX3_readsSum 19 = .ok (.if_icmp .ge 66, 3) := by decide +kernel
theorem dX3_readsSum_22 : decode cX3_readsSum 22 = .ok (.aload_n 1, 1) := by decide +kernel
theorem dX3_readsSum_23 : decode cX3_readsSum 23 = .ok (.getfield 30, 3) := by decide +kernel
theorem dX3_readsSum_26 : decode cX3_readsSum 26 = .ok (.getfield 56, 3) := by decide +kernel
theorem dX3_readsSum_29 : decode cX3_readsSum 29 = .ok (.istore 5, 2) := by decide +kernel
theorem dX3_readsSum_31 : decode cX3_readsSum 31 = .ok (.iload 5, 2) := by decide +kernel
theorem dX3_readsSum_33 : decode cX3_readsSum 33 = .ok (.bipush 43, 2) := by decide +kernel
theorem dX3_readsSum_35 : decode cX3_readsSum 35 = .ok (.if_icmp .eq 12, 3) := by decide +kernel
theorem dX3_readsSum_38 : decode cX3_readsSum 38 = .ok (.iload 5, 2) := by decide +kernel
theorem dX3_readsSum_40 : decode cX3_readsSum 40 = .ok (.bipush 45, 2) := by decide +kernel
theorem dX3_readsSum_42 : decode cX3_readsSum 42 = .ok (.if_icmp .eq 5, 3) := by decide +kernel
theorem dX3_readsSum_45 : decode cX3_readsSum 45 = .ok (.iconst 1, 1) := by decide +kernel
theorem dX3_readsSum_46 : decode cX3_readsSum 46 = .ok (.ireturn, 1) := by decide +kernel
theorem dX3_readsSum_47 : decode cX3_readsSum 47 = .ok (.aload_n 1, 1) := by decide +kernel
theorem dX3_readsSum_48 : decode cX3_readsSum 48 = .ok (.getfield 30, 3) := by decide +kernel
theorem dX3_readsSum_51 : decode cX3_readsSum 51 = .ok (.invokevirtual 50, 3) := by decide +kernel
theorem dX3_readsSum_54 : decode cX3_readsSum 54 = .ok (.aload_n 0, 1) := by decide +kernel
theorem dX3_readsSum_55 : decode cX3_readsSum 55 = .ok (.aload_n 1, 1) := by decide +kernel
theorem dX3_readsSum_56 : decode cX3_readsSum 56 = .ok (.iload_n 2, 1) := by decide +kernel
theorem dX3_readsSum_57 : decode cX3_readsSum 57 = .ok (.invokevirtual 59, 3) := by decide +kernel
theorem dX3_readsSum_60 : decode cX3_readsSum 60 = .ok (.istore_n 3, 1) := by decide +kernel
theorem dX3_readsSum_61 : decode cX3_readsSum 61 = .ok (.aload_n 0, 1) := by decide +kernel
theorem dX3_readsSum_62 : decode cX3_readsSum 62 = .ok (.iload 5, 2) := by decide +kernel
theorem dX3_readsSum_64 : decode cX3_readsSum 64 = .ok (.bipush 43, 2) := by decide +kernel
theorem dX3_readsSum_66 : decode cX3_readsSum 66 = .ok (.if_icmp .ne 8, 3) := by decide +kernel
theorem dX3_readsSum_69 : decode cX3_readsSum 69 = .ok (.bipush (-10), 2) := by decide +kernel
theorem dX3_readsSum_71 : decode cX3_readsSum 71 = .ok (.goto 5, 3) := by decide +kernel
theorem dX3_readsSum_74 : decode cX3_readsSum 74 = .ok (.bipush (-11), 2) := by decide +kernel
theorem dX3_readsSum_76 : decode cX3_readsSum 76 = .ok (.invokevirtual 22, 3) := by decide +kernel
theorem dX3_readsSum_79 : decode cX3_readsSum 79 = .ok (.iinc 4 1, 3) := by decide +kernel
theorem dX3_readsSum_82 : decode cX3_readsSum 82 = .ok (.goto (-72), 3) := by decide +kernel
theorem dX3_readsSum_85 : decode cX3_readsSum 85 = .ok (.iload_n 3, 1) := by decide +kernel
theorem dX3_readsSum_86 : decode cX3_readsSum 86 = .ok (.ireturn, 1) := by decide +kernel
theorem dX3_readsProduct_0 : decode cX3_readsProduct 0 = .ok (.aload_n 0, 1) := by decide +kernel
theorem dX3_readsProduct_1 : decode cX3_readsProduct 1 = .ok (.aload_n 1, 1) := by decide +kernel
theorem dX3_readsProduct_2 : decode cX3_readsProduct 2 = .ok (.iload_n 2, 1) := by decide +kernel
theorem dX3_readsProduct_3 : decode cX3_readsProduct 3 = .ok (.invokevirtual 62, 3) := by decide +kernel
theorem dX3_readsProduct_6 : decode cX3_readsProduct 6 = .ok (.istore_n 3, 1) := by decide +kernel
theorem dX3_readsProduct_7 : decode cX3_readsProduct 7 = .ok (.iconst 0, 1) := by decide +kernel
theorem dX3_readsProduct_8 : decode cX3_readsProduct 8 = .ok (.istore 4, 2) := by decide +kernel
theorem dX3_readsProduct_10 : decode cX3_readsProduct 10 = .ok (.iload_n 3, 1) := by decide +kernel
theorem dX3_readsProduct_11 : decode cX3_readsProduct 11 = .ok (.ifCond .eq 51, 3) := by decide +kernel
theorem dX3_readsProduct_14 : decode cX3_readsProduct 14 = .ok (.iload 4, 2) := by decide +kernel
theorem dX3_readsProduct_16 : decode cX3_readsProduct 16 = .ok (.sipush 1000, 3) := by decide +kernel
theorem dX3_readsProduct_19 : decode cX3_readsProduct 19 = .ok (.if_icmp .ge 43, 3) := by decide +kernel
theorem dX3_readsProduct_22 : decode cX3_readsProduct 22 = .ok (.aload_n 1, 1) := by decide +kernel
theorem dX3_readsProduct_23 : decode cX3_readsProduct 23 = .ok (.getfield 30, 3) := by decide +kernel
theorem dX3_readsProduct_26 : decode cX3_readsProduct 26 = .ok (.getfield 56, 3) := by decide +kernel
theorem dX3_readsProduct_29 : decode cX3_readsProduct 29 = .ok (.bipush 42, 2) := by decide +kernel
theorem dX3_readsProduct_31 : decode cX3_readsProduct 31 = .ok (.if_icmp .eq 5, 3) := by decide +kernel
theorem dX3_readsProduct_34 : decode cX3_readsProduct 34 = .ok (.iconst 1, 1) := by decide +kernel
theorem dX3_readsProduct_35 : decode cX3_readsProduct 35 = .ok (.ireturn, 1) := by decide +kernel
theorem dX3_readsProduct_36 : decode cX3_readsProduct 36 = .ok (.aload_n 1, 1) := by decide +kernel
theorem dX3_readsProduct_37 : decode cX3_readsProduct 37 = .ok (.getfield 30, 3) := by decide +kernel
theorem dX3_readsProduct_40 : decode cX3_readsProduct 40 = .ok (.invokevirtual 50, 3) := by decide +kernel
theorem dX3_readsProduct_43 : decode cX3_readsProduct 43 = .ok (.aload_n 0, 1) := by decide +kernel
theorem dX3_readsProduct_44 : decode cX3_readsProduct 44 = .ok (.aload_n 1, 1) := by decide +kernel
theorem dX3_readsProduct_45 : decode cX3_readsProduct 45 = .ok (.iload_n 2, 1) := by decide +kernel
theorem dX3_readsProduct_46 : decode cX3_readsProduct 46 = .ok (.invokevirtual 62, 3) := by decide +kernel
theorem dX3_readsProduct_49 : decode cX3_readsProduct 49 = .ok (.istore_n 3, 1) := by decide +kernel
theorem dX3_readsProduct_50 : decode cX3_readsProduct 50 = .ok (.aload_n 0, 1) := by decide +kernel
theorem dX3_readsProduct_51 : decode cX3_readsProduct 51 = .ok (.bipush (-12), 2) := by decide +kernel
theorem dX3_readsProduct_53 : decode cX3_readsProduct 53 = .ok (.invokevirtual 22, 3) := by decide +kernel
theorem dX3_readsProduct_56 : decode cX3_readsProduct 56 = .ok (.iinc 4 1, 3) := by decide +kernel
theorem dX3_readsProduct_59 : decode cX3_readsProduct 59 = .ok (.goto (-49), 3) := by decide +kernel
theorem dX3_readsProduct_62 : decode cX3_readsProduct 62 = .ok (.iload_n 3, 1) := by decide +kernel
theorem dX3_readsProduct_63 : decode cX3_readsProduct 63 = .ok (.ireturn, 1) := by decide +kernel
theorem dX3_readsPart_0 : decode cX3_readsPart 0 = .ok (.aload_n 1, 1) := by decide +kernel
theorem dX3_readsPart_1 : decode cX3_readsPart 1 = .ok (.getfield 30, 3) := by decide +kernel
theorem dX3_readsPart_4 : decode cX3_readsPart 4 = .ok (.astore_n 3, 1) := by decide +kernel
theorem dX3_readsPart_5 : decode cX3_readsPart 5 = .ok (.aload_n 3, 1) := by decide +kernel
theorem dX3_readsPart_6 : decode cX3_readsPart 6 = .ok (.getfield 36, 3) := by decide +kernel
theorem dX3_readsPart_9 : decode cX3_readsPart 9 = .ok (.getstatic 65, 3) := by decide +kernel
theorem dX3_readsPart_12 : decode cX3_readsPart 12 = .ok (.if_acmp .ne 7, 3) := by decide +kernel
theorem dX3_readsPart_15 : decode cX3_readsPart 15 = .ok (.iconst 1, 1) := by decide +kernel
theorem dX3_readsPart_16 : decode cX3_readsPart 16 = .ok (.goto 4, 3) := by decide +kernel
theorem dX3_readsPart_19 : decode cX3_readsPart 19 = .ok (.iconst 0, 1) := by decide +kernel
theorem dX3_readsPart_20 : decode cX3_readsPart 20 = .ok (.istore 4, 2) := by decide +kernel
theorem dX3_readsPart_22 : decode cX3_readsPart 22 = .ok (.aload_n 3, 1) := by decide +kernel
theorem dX3_readsPart_23 : decode cX3_readsPart 23 = .ok (.getfield 56, 3) := by decide +kernel
theorem dX3_readsPart_26 : decode cX3_readsPart 26 = .ok (.bipush 40, 2) := by decide +kernel
theorem dX3_readsPart_28 : decode cX3_readsPart 28 = .ok (.if_icmp .ne 7, 3) := by decide +kernel
theorem dX3_readsPart_31 : decode cX3_readsPart 31 = .ok (.iconst 1, 1) := by decide +kernel
theorem dX3_readsPart_32 : decode cX3_readsPart 32 = .ok (.goto 4, 3) := by decide +kernel
theorem dX3_readsPart_35 : decode cX3_readsPart 35 = .ok (.iconst 0, 1) := by decide +kernel
theorem dX3_readsPart_36 : decode cX3_readsPart 36 = .ok (.istore 5, 2) := by decide +kernel
theorem dX3_readsPart_38 : decode cX3_readsPart 38 = .ok (.aload_n 3, 1) := by decide +kernel
theorem dX3_readsPart_39 : decode cX3_readsPart 39 = .ok (.getfield 36, 3) := by decide +kernel
theorem dX3_readsPart_42 : decode cX3_readsPart 42 = .ok (.ifnull 17, 3) := by decide +kernel
theorem dX3_readsPart_45 : decode cX3_readsPart 45 = .ok (.aload_n 3, 1) := by decide +kernel
theorem dX3_readsPart_46 : decode cX3_readsPart 46 = .ok (.getfield 36, 3) := by decide +kernel
theorem dX3_readsPart_49 : decode cX3_readsPart 49 = .ok (.invokevirtual 68, 3) := by decide +kernel
theorem dX3_readsPart_52 : decode cX3_readsPart 52 = .ok (.ifCond .eq 7, 3) := by decide +kernel
theorem dX3_readsPart_55 : decode cX3_readsPart 55 = .ok (.iconst 1, 1) := by decide +kernel
theorem dX3_readsPart_56 : decode cX3_readsPart 56 = .ok (.goto 4, 3) := by decide +kernel
theorem dX3_readsPart_59 : decode cX3_readsPart 59 = .ok (.iconst 0, 1) := by decide +kernel
theorem dX3_readsPart_60 : decode cX3_readsPart 60 = .ok (.istore 6, 2) := by decide +kernel
theorem dX3_readsPart_62 : decode cX3_readsPart 62 = .ok (.iload 4, 2) := by decide +kernel
theorem dX3_readsPart_64 : decode cX3_readsPart 64 = .ok (.ifCond .ne 27, 3) := by decide +kernel
theorem dX3_readsPart_67 : decode cX3_readsPart 67 = .ok (.iload 5, 2) := by decide +kernel
theorem dX3_readsPart_69 : decode cX3_readsPart 69 = .ok (.ifCond .ne 22, 3) := by decide +kernel
theorem dX3_readsPart_72 : decode cX3_readsPart 72 = .ok (.iload 6, 2) := by decide +kernel
theorem dX3_readsPart_74 : decode cX3_readsPart 74 = .ok (.ifCond .ne 17, 3) := by decide +kernel
theorem dX3_readsPart_77 : decode cX3_readsPart 77 = .ok (.aload_n 3, 1) := by decide +kernel
theorem dX3_readsPart_78 : decode cX3_readsPart 78 = .ok (.getfield 56, 3) := by decide +kernel
theorem dX3_readsPart_81 : decode cX3_readsPart 81 = .ok (.iconst 2, 1) := by decide +kernel
theorem dX3_readsPart_82 : decode cX3_readsPart 82 = .ok (.if_icmp .eq 9, 3) := by decide +kernel
theorem dX3_readsPart_85 : decode cX3_readsPart 85 = .ok (.aload_n 1, 1) := by decide +kernel
theorem dX3_readsPart_86 : decode cX3_readsPart 86 = .ok (.iconst 1, 1) := by decide +kernel
theorem dX3_readsPart_87 : decode cX3_readsPart 87 = .ok (.invokevirtual 72, 3) := by decide +kernel
theorem dX3_readsPart_90 : decode cX3_readsPart 90 = .ok (.ireturn, 1) := by decide +kernel
theorem dX3_readsPart_91 : decode cX3_readsPart 91 = .ok (.iload_n 2, 1) := by decide +kernel
theorem dX3_readsPart_92 : decode cX3_readsPart 92 = .ok (.iconst 5, 1) := by decide +kernel
theorem dX3_readsPart_93 : decode cX3_readsPart 93 = .ok (.if_icmp .lt 9, 3) := by decide +kernel
theorem dX3_readsPart_96 : decode cX3_readsPart 96 = .ok (.aload_n 1, 1) := by decide +kernel
theorem dX3_readsPart_97 : decode cX3_readsPart 97 = .ok (.iconst 5, 1) := by decide +kernel
theorem dX3_readsPart_98 : decode cX3_readsPart 98 = .ok (.invokevirtual 72, 3) := by decide +kernel
theorem dX3_readsPart_101 : decode cX3_readsPart 101 = .ok (.ireturn, 1) := by decide +kernel
theorem dX3_readsPart_102 : decode cX3_readsPart 102 = .ok (.iload 6, 2) := by decide +kernel
theorem dX3_readsPart_104 : decode cX3_readsPart 104 = .ok (.ifCond .ne 11, 3) := by decide +kernel
theorem dX3_readsPart_107 : decode cX3_readsPart 107 = .ok (.aload_n 3, 1) := by decide +kernel
theorem dX3_readsPart_108 : decode cX3_readsPart 108 = .ok (.getfield 56, 3) := by decide +kernel
theorem dX3_readsPart_111 : decode cX3_readsPart 111 = .ok (.iconst 2, 1) := by decide +kernel
theorem dX3_readsPart_112 : decode cX3_readsPart 112 = .ok (.if_icmp .ne 32, 3) := by decide +kernel
theorem dX3_readsPart_115 : decode cX3_readsPart 115 = .ok (.aload_n 0, 1) := by decide +kernel
theorem dX3_readsPart_116 : decode cX3_readsPart 116 = .ok (.iload 6, 2) := by decide +kernel
theorem dX3_readsPart_118 : decode cX3_readsPart 118 = .ok (.ifCond .eq 13, 3) := by decide +kernel
theorem dX3_readsPart_121 : decode cX3_readsPart 121 = .ok (.aload_n 3, 1) := by decide +kernel
theorem dX3_readsPart_122 : decode cX3_readsPart 122 = .ok (.getfield 36, 3) := by decide +kernel
theorem dX3_readsPart_125 : decode cX3_readsPart 125 = .ok (.invokestatic 76, 3) := by decide +kernel
theorem dX3_readsPart_128 : decode cX3_readsPart 128 = .ok (.goto 7, 3) := by decide +kernel
theorem dX3_readsPart_131 : decode cX3_readsPart 131 = .ok (.aload_n 3, 1) := by decide +kernel
theorem dX3_readsPart_132 : decode cX3_readsPart 132 = .ok (.getfield 80, 3) := by decide +kernel
theorem dX3_readsPart_135 : decode cX3_readsPart 135 = .ok (.invokevirtual 22, 3) := by decide +kernel
theorem dX3_readsPart_138 : decode cX3_readsPart 138 = .ok (.aload_n 3, 1) := by decide +kernel
theorem dX3_readsPart_139 : decode cX3_readsPart 139 = .ok (.invokevirtual 50, 3) := by decide +kernel
theorem dX3_readsPart_142 : decode cX3_readsPart 142 = .ok (.iconst 1, 1) := by decide +kernel
theorem dX3_readsPart_143 : decode cX3_readsPart 143 = .ok (.ireturn, 1) := by decide +kernel
theorem dX3_readsPart_144 : decode cX3_readsPart 144 = .ok (.aload_n 3, 1) := by decide +kernel
theorem dX3_readsPart_145 : decode cX3_readsPart 145 = .ok (.invokevirtual 50, 3) := by decide +kernel
theorem dX3_readsPart_148 : decode cX3_readsPart 148 = .ok (.iload 5, 2) := by decide +kernel
theorem dX3_readsPart_150 : decode cX3_readsPart 150 = .ok (.ifCond .ne 22, 3) := by decide +kernel
theorem dX3_readsPart_153 : decode cX3_readsPart 153 = .ok (.aload_n 0, 1) := by decide +kernel
theorem dX3_readsPart_154 : decode cX3_readsPart 154 = .ok (.aload_n 1, 1) := by decide +kernel
theorem dX3_readsPart_155 : decode cX3_readsPart 155 = .ok (.iload_n 2, 1) := by decide +kernel
theorem dX3_readsPart_156 : decode cX3_readsPart 156 = .ok (.iconst 1, 1) := by decide +kernel
theorem dX3_readsPart_157 : decode cX3_readsPart 157 = .ok (.iadd, 1) := by decide +kernel
theorem dX3_readsPart_158 : decode cX3_readsPart 158 = .ok (.invokevirtual 62, 3) := by decide +kernel
theorem dX3_readsPart_161 : decode cX3_readsPart 161 = .ok (.istore 7, 2) := by decide +kernel
theorem dX3_readsPart_163 : decode cX3_readsPart 163 = .ok (.aload_n 0, 1) := by decide +kernel
theorem dX3_readsPart_164 : decode cX3_readsPart 164 = .ok (.bipush (-5), 2) := by decide +kernel
theorem dX3_readsPart_166 : decode cX3_readsPart 166 = .ok (.invokevirtual 22, 3) := by decide +kernel
theorem dX3_readsPart_169 : decode cX3_readsPart 169 = .ok (.iload 7, 2) := by decide +kernel
theorem dX3_readsPart_171 : decode cX3_readsPart 171 = .ok (.ireturn, 1) := by decide +kernel
theorem dX3_readsPart_172 : decode cX3_readsPart 172 = .ok (.aload_n 0, 1) := by decide +kernel
theorem dX3_readsPart_173 : decode cX3_readsPart 173 = .ok (.aload_n 1, 1) := by decide +kernel
theorem dX3_readsPart_174 : decode cX3_readsPart 174 = .ok (.iload_n 2, 1) := by decide +kernel
theorem dX3_readsPart_175 : decode cX3_readsPart 175 = .ok (.iconst 1, 1) := by decide +kernel
theorem dX3_readsPart_176 : decode cX3_readsPart 176 = .ok (.iadd, 1) := by decide +kernel
theorem dX3_readsPart_177 : decode cX3_readsPart 177 = .ok (.invokevirtual 83, 3) := by decide +kernel
theorem dX3_readsPart_180 : decode cX3_readsPart 180 = .ok (.ifCond .ne 5, 3) := by decide +kernel
theorem dX3_readsPart_183 : decode cX3_readsPart 183 = .ok (.iconst 0, 1) := by decide +kernel
theorem dX3_readsPart_184 : decode cX3_readsPart 184 = .ok (.ireturn, 1) := by decide +kernel
theorem dX3_readsPart_185 : decode cX3_readsPart 185 = .ok (.aload_n 3, 1) := by decide +kernel
theorem dX3_readsPart_186 : decode cX3_readsPart 186 = .ok (.getfield 56, 3) := by decide +kernel
theorem dX3_readsPart_189 : decode cX3_readsPart 189 = .ok (.bipush 41, 2) := by decide +kernel
theorem dX3_readsPart_191 : decode cX3_readsPart 191 = .ok (.if_icmp .eq 9, 3) := by decide +kernel
theorem dX3_readsPart_194 : decode cX3_readsPart 194 = .ok (.aload_n 1, 1) := by decide +kernel
theorem dX3_readsPart_195 : decode cX3_readsPart 195 = .ok (.iconst 1, 1) := by decide +kernel
theorem dX3_readsPart_196 : decode cX3_readsPart 196 = .ok (.invokevirtual 72, 3) := by decide +kernel
theorem dX3_readsPart_199 : decode cX3_readsPart 199 = .ok (.ireturn, 1) := by decide +kernel
theorem dX3_readsPart_200 : decode cX3_readsPart 200 = .ok (.aload_n 3, 1) := by decide +kernel
theorem dX3_readsPart_201 : decode cX3_readsPart 201 = .ok (.invokevirtual 50, 3) := by decide +kernel
theorem dX3_readsPart_204 : decode cX3_readsPart 204 = .ok (.iconst 1, 1) := by decide +kernel
theorem dX3_readsPart_205 : decode cX3_readsPart 205 = .ok (.ireturn, 1) := by decide +kernel
theorem dX3_factOf_0 : decode cX3_factOf 0 = .ok (.aload_n 0, 1) := by decide +kernel
theorem dX3_factOf_1 : decode cX3_factOf 1 = .ok (.getstatic 86, 3) := by decide +kernel
theorem dX3_factOf_4 : decode cX3_factOf 4 = .ok (.if_acmp .ne 7, 3) := by decide +kernel
theorem dX3_factOf_7 : decode cX3_factOf 7 = .ok (.iconst (-1), 1) := by decide +kernel
theorem dX3_factOf_8 : decode cX3_factOf 8 = .ok (.goto 29, 3) := by decide +kernel
theorem dX3_factOf_11 : decode cX3_factOf 11 = .ok (.aload_n 0, 1) := by decide +kernel
theorem dX3_factOf_12 : decode cX3_factOf 12 = .ok (.getstatic 89, 3) := by decide +kernel
theorem dX3_factOf_15 : decode cX3_factOf 15 = .ok (.if_acmp .ne 8, 3) := by decide +kernel
theorem dX3_factOf_18 : decode cX3_factOf 18 = .ok (.bipush (-2), 2) := by decide +kernel
theorem dX3_factOf_20 : decode cX3_factOf 20 = .ok (.goto 17, 3) := by decide +kernel
theorem dX3_factOf_23 : decode cX3_factOf 23 = .ok (.aload_n 0, 1) := by decide +kernel
theorem dX3_factOf_24 : decode cX3_factOf 24 = .ok (.getstatic 92, 3) := by decide +kernel
theorem dX3_factOf_27 : decode cX3_factOf 27 = .ok (.if_acmp .ne 8, 3) := by decide +kernel
theorem dX3_factOf_30 : decode cX3_factOf 30 = .ok (.bipush (-3), 2) := by decide +kernel
theorem dX3_factOf_32 : decode cX3_factOf 32 = .ok (.goto 5, 3) := by decide +kernel
theorem dX3_factOf_35 : decode cX3_factOf 35 = .ok (.bipush (-4), 2) := by decide +kernel
theorem dX3_factOf_37 : decode cX3_factOf 37 = .ok (.ireturn, 1) := by decide +kernel
theorem dX3_value_0 : decode cX3_value 0 = .ok (.iconst 0, 1) := by decide +kernel
theorem dX3_value_1 : decode cX3_value 1 = .ok (.istore 5, 2) := by decide +kernel
theorem dX3_value_3 : decode cX3_value 3 = .ok (.iconst 0, 1) := by decide +kernel
theorem dX3_value_4 : decode cX3_value 4 = .ok (.istore 6, 2) := by decide +kernel
theorem dX3_value_6 : decode cX3_value 6 = .ok (.iload 6, 2) := by decide +kernel
theorem dX3_value_8 : decode cX3_value 8 = .ok (.aload_n 0, 1) := by decide +kernel
theorem dX3_value_9 : decode cX3_value 9 = .ok (.getfield 18, 3) := by decide +kernel
theorem dX3_value_12 : decode cX3_value 12 = .ok (.if_icmp .ge 143, 3) := by decide +kernel
theorem dX3_value_15 : decode cX3_value 15 = .ok (.aload_n 0, 1) := by decide +kernel
theorem dX3_value_16 : decode cX3_value 16 = .ok (.getfield 9, 3) := by decide +kernel
theorem dX3_value_19 : decode cX3_value 19 = .ok (.iload 6, 2) := by decide +kernel
theorem dX3_value_21 : decode cX3_value 21 = .ok (.iaload, 1) := by decide +kernel
theorem dX3_value_22 : decode cX3_value 22 = .ok (.istore 7, 2) := by decide +kernel
theorem dX3_value_24 : decode cX3_value 24 = .ok (.iload 7, 2) := by decide +kernel
theorem dX3_value_26 : decode cX3_value 26 = .ok (.bipush (-4), 2) := by decide +kernel
theorem dX3_value_28 : decode cX3_value 28 = .ok (.if_icmp .lt 33, 3) := by decide +kernel
theorem dX3_value_31 : decode cX3_value 31 = .ok (.iload 5, 2) := by decide +kernel
theorem dX3_value_33 : decode cX3_value 33 = .ok (.bipush 24, 2) := by decide +kernel
theorem dX3_value_35 : decode cX3_value 35 = .ok (.if_icmp .ge 26, 3) := by decide +kernel
theorem dX3_value_38 : decode cX3_value 38 = .ok (.aload_n 0, 1) := by decide +kernel
theorem dX3_value_39 : decode cX3_value 39 = .ok (.getfield 15, 3) := by decide +kernel
theorem dX3_value_42 : decode cX3_value 42 = .ok (.iload 5, 2) := by decide +kernel
theorem dX3_value_44 : decode cX3_value 44 = .ok (.iload 7, 2) := by decide +kernel
theorem dX3_value_46 : decode cX3_value 46 = .ok (.iload_n 1, 1) := by decide +kernel
theorem dX3_value_47 : decode cX3_value 47 = .ok (.iload_n 2, 1) := by decide +kernel
theorem dX3_value_48 : decode cX3_value 48 = .ok (.iload_n 3, 1) := by decide +kernel
theorem dX3_value_49 : decode cX3_value 49 = .ok (.iload 4, 2) := by decide +kernel
theorem dX3_value_51 : decode cX3_value 51 = .ok (.invokestatic 95, 3) := by decide +kernel
theorem dX3_value_54 : decode cX3_value 54 = .ok (.iastore, 1) := by decide +kernel
theorem dX3_value_55 : decode cX3_value 55 = .ok (.iinc 5 1, 3) := by decide +kernel
theorem dX3_value_58 : decode cX3_value 58 = .ok (.goto 91, 3) := by decide +kernel
theorem dX3_value_61 : decode cX3_value 61 = .ok (.iload 7, 2) := by decide +kernel
theorem dX3_value_63 : decode cX3_value 63 = .ok (.bipush (-5), 2) := by decide +kernel
theorem dX3_value_65 : decode cX3_value 65 = .ok (.if_icmp .ne 38, 3) := by decide +kernel
theorem dX3_value_68 : decode cX3_value 68 = .ok (.iload 5, 2) := by decide +kernel
theorem dX3_value_70 : decode cX3_value 70 = .ok (.iconst 1, 1) := by decide +kernel
theorem dX3_value_71 : decode cX3_value 71 = .ok (.if_icmp .lt 32, 3) := by decide +kernel
theorem dX3_value_74 : decode cX3_value 74 = .ok (.aload_n 0, 1) := by decide +kernel
theorem dX3_value_75 : decode cX3_value 75 = .ok (.getfield 15, 3) := by decide +kernel
theorem dX3_value_78 : decode cX3_value 78 = .ok (.iload 5, 2) := by decide +kernel
theorem dX3_value_80 : decode cX3_value 80 = .ok (.iconst 1, 1) := by decide +kernel
theorem dX3_value_81 : decode cX3_value 81 = .ok (.isub, 1) := by decide +kernel
theorem dX3_value_82 : decode cX3_value 82 = .ok (.aload_n 0, 1) := by decide +kernel
theorem dX3_value_83 : decode cX3_value 83 = .ok (.getfield 15, 3) := by decide +kernel
theorem dX3_value_86 : decode cX3_value 86 = .ok (.iload 5, 2) := by decide +kernel
theorem dX3_value_88 : decode cX3_value 88 = .ok (.iconst 1, 1) := by decide +kernel
theorem dX3_value_89 : decode cX3_value 89 = .ok (.isub, 1) := by decide +kernel
theorem dX3_value_90 : decode cX3_value 90 = .ok (.iaload, 1) := by decide +kernel
theorem dX3_value_91 : decode cX3_value 91 = .ok (.ifCond .ne 7, 3) := by decide +kernel
theorem dX3_value_94 : decode cX3_value 94 = .ok (.iconst 1, 1) := by decide +kernel
theorem dX3_value_95 : decode cX3_value 95 = .ok (.goto 4, 3) := by decide +kernel
theorem dX3_value_98 : decode cX3_value 98 = .ok (.iconst 0, 1) := by decide +kernel
theorem dX3_value_99 : decode cX3_value 99 = .ok (.iastore, 1) := by decide +kernel
theorem dX3_value_100 : decode cX3_value 100 = .ok (.goto 49, 3) := by decide +kernel
theorem dX3_value_103 : decode cX3_value 103 = .ok (.iload 7, 2) := by decide +kernel
theorem dX3_value_105 : decode cX3_value 105 = .ok (.bipush (-5), 2) := by decide +kernel
theorem dX3_value_107 : decode cX3_value 107 = .ok (.if_icmp .ge 42, 3) := by decide +kernel
theorem dX3_value_110 : decode cX3_value 110 = .ok (.iload 5, 2) := by decide +kernel
theorem dX3_value_112 : decode cX3_value 112 = .ok (.iconst 2, 1) := by decide +kernel
theorem dX3_value_113 : decode cX3_value 113 = .ok (.if_icmp .lt 36, 3) := by decide +kernel
theorem dX3_value_116 : decode cX3_value 116 = .ok (.iinc 5 (-1), 3) := by decide +kernel
theorem dX3_value_119 : decode cX3_value 119 = .ok (.aload_n 0, 1) := by decide +kernel
theorem dX3_value_120 : decode cX3_value 120 = .ok (.getfield 15, 3) := by decide +kernel
theorem dX3_value_123 : decode cX3_value 123 = .ok (.iload 5, 2) := by decide +kernel
theorem dX3_value_125 : decode cX3_value 125 = .ok (.iconst 1, 1) := by decide +kernel
theorem dX3_value_126 : decode cX3_value 126 = .ok (.isub, 1) := by decide +kernel
theorem dX3_value_127 : decode cX3_value 127 = .ok (.iload 7, 2) := by decide +kernel
theorem dX3_value_129 : decode cX3_value 129 = .ok (.aload_n 0, 1) := by decide +kernel
theorem dX3_value_130 : decode cX3_value 130 = .ok (.getfield 15, 3) := by decide +kernel
theorem dX3_value_133 : decode cX3_value 133 = .ok (.iload 5, 2) := by decide +kernel
theorem dX3_value_135 : decode cX3_value 135 = .ok (.iconst 1, 1) := by decide +kernel
theorem dX3_value_136 : decode cX3_value 136 = .ok (.isub, 1) := by decide +kernel
theorem dX3_value_137 : decode cX3_value 137 = .ok (.iaload, 1) := by decide +kernel
theorem dX3_value_138 : decode cX3_value 138 = .ok (.aload_n 0, 1) := by decide +kernel
theorem dX3_value_139 : decode cX3_value 139 = .ok (.getfield 15, 3) := by decide +kernel
theorem dX3_value_142 : decode cX3_value 142 = .ok (.iload 5, 2) := by decide +kernel
theorem dX3_value_144 : decode cX3_value 144 = .ok (.iaload, 1) := by decide +kernel
theorem dX3_value_145 : decode cX3_value 145 = .ok (.invokestatic 99, 3) := by decide +kernel
theorem dX3_value_148 : decode cX3_value 148 = .ok (.iastore, 1) := by decide +kernel
theorem dX3_value_149 : decode cX3_value 149 = .ok (.iinc 6 1, 3) := by decide +kernel
theorem dX3_value_152 : decode cX3_value 152 = .ok (.goto (-146), 3) := by decide +kernel
theorem dX3_value_155 : decode cX3_value 155 = .ok (.aload_n 0, 1) := by decide +kernel
theorem dX3_value_156 : decode cX3_value 156 = .ok (.getfield 15, 3) := by decide +kernel
theorem dX3_value_159 : decode cX3_value 159 = .ok (.iconst 0, 1) := by decide +kernel
theorem dX3_value_160 : decode cX3_value 160 = .ok (.iaload, 1) := by decide +kernel
theorem dX3_value_161 : decode cX3_value 161 = .ok (.ireturn, 1) := by decide +kernel
theorem dX3_stood_0 : decode cX3_stood 0 = .ok (.iload_n 0, 1) := by decide +kernel
theorem dX3_stood_1 : decode cX3_stood 1 = .ok (.tableswitch 40 (-4) (-1) #[37, 35, 33, 31], 31) := by decide +kernel
theorem dX3_stood_32 : decode cX3_stood 32 = .ok (.iload_n 1, 1) := by decide +kernel
theorem dX3_stood_33 : decode cX3_stood 33 = .ok (.ireturn, 1) := by decide +kernel
theorem dX3_stood_34 : decode cX3_stood 34 = .ok (.iload_n 2, 1) := by decide +kernel
theorem dX3_stood_35 : decode cX3_stood 35 = .ok (.ireturn, 1) := by decide +kernel
theorem dX3_stood_36 : decode cX3_stood 36 = .ok (.iload_n 3, 1) := by decide +kernel
theorem dX3_stood_37 : decode cX3_stood 37 = .ok (.ireturn, 1) := by decide +kernel
theorem dX3_stood_38 : decode cX3_stood 38 = .ok (.iload 4, 2) := by decide +kernel
theorem dX3_stood_40 : decode cX3_stood 40 = .ok (.ireturn, 1) := by decide +kernel
theorem dX3_stood_41 : decode cX3_stood 41 = .ok (.iload_n 0, 1) := by decide +kernel
theorem dX3_stood_42 : decode cX3_stood 42 = .ok (.ireturn, 1) := by decide +kernel
theorem dX3_joined_0 : decode cX3_joined 0 = .ok (.iload_n 0, 1) := by decide +kernel
theorem dX3_joined_1 : decode cX3_joined 1 = .ok (.tableswitch 97 (-11) (-6) #[93, 89, 78, 67, 53, 39], 39) := by decide +kernel
theorem dX3_joined_40 : decode cX3_joined 40 = .ok (.iload_n 1, 1) := by decide +kernel
theorem dX3_joined_41 : decode cX3_joined 41 = .ok (.ifCond .eq 11, 3) := by decide +kernel
theorem dX3_joined_44 : decode cX3_joined 44 = .ok (.iload_n 2, 1) := by decide +kernel
theorem dX3_joined_45 : decode cX3_joined 45 = .ok (.ifCond .eq 7, 3) := by decide +kernel
theorem dX3_joined_48 : decode cX3_joined 48 = .ok (.iconst 1, 1) := by decide +kernel
theorem dX3_joined_49 : decode cX3_joined 49 = .ok (.goto 4, 3) := by decide +kernel
theorem dX3_joined_52 : decode cX3_joined 52 = .ok (.iconst 0, 1) := by decide +kernel
theorem dX3_joined_53 : decode cX3_joined 53 = .ok (.ireturn, 1) := by decide +kernel
theorem dX3_joined_54 : decode cX3_joined 54 = .ok (.iload_n 1, 1) := by decide +kernel
theorem dX3_joined_55 : decode cX3_joined 55 = .ok (.ifCond .ne 7, 3) := by decide +kernel
theorem dX3_joined_58 : decode cX3_joined 58 = .ok (.iload_n 2, 1) := by decide +kernel
theorem dX3_joined_59 : decode cX3_joined 59 = .ok (.ifCond .eq 7, 3) := by decide +kernel
theorem dX3_joined_62 : decode cX3_joined 62 = .ok (.iconst 1, 1) := by decide +kernel
theorem dX3_joined_63 : decode cX3_joined 63 = .ok (.goto 4, 3) := by decide +kernel
theorem dX3_joined_66 : decode cX3_joined 66 = .ok (.iconst 0, 1) := by decide +kernel
theorem dX3_joined_67 : decode cX3_joined 67 = .ok (.ireturn, 1) := by decide +kernel
theorem dX3_joined_68 : decode cX3_joined 68 = .ok (.iload_n 1, 1) := by decide +kernel
theorem dX3_joined_69 : decode cX3_joined 69 = .ok (.iload_n 2, 1) := by decide +kernel
theorem dX3_joined_70 : decode cX3_joined 70 = .ok (.if_icmp .ge 7, 3) := by decide +kernel
theorem dX3_joined_73 : decode cX3_joined 73 = .ok (.iconst 1, 1) := by decide +kernel
theorem dX3_joined_74 : decode cX3_joined 74 = .ok (.goto 4, 3) := by decide +kernel
theorem dX3_joined_77 : decode cX3_joined 77 = .ok (.iconst 0, 1) := by decide +kernel
theorem dX3_joined_78 : decode cX3_joined 78 = .ok (.ireturn, 1) := by decide +kernel
theorem dX3_joined_79 : decode cX3_joined 79 = .ok (.iload_n 1, 1) := by decide +kernel
theorem dX3_joined_80 : decode cX3_joined 80 = .ok (.iload_n 2, 1) := by decide +kernel
theorem dX3_joined_81 : decode cX3_joined 81 = .ok (.if_icmp .ne 7, 3) := by decide +kernel
theorem dX3_joined_84 : decode cX3_joined 84 = .ok (.iconst 1, 1) := by decide +kernel
theorem dX3_joined_85 : decode cX3_joined 85 = .ok (.goto 4, 3) := by decide +kernel
theorem dX3_joined_88 : decode cX3_joined 88 = .ok (.iconst 0, 1) := by decide +kernel
theorem dX3_joined_89 : decode cX3_joined 89 = .ok (.ireturn, 1) := by decide +kernel
theorem dX3_joined_90 : decode cX3_joined 90 = .ok (.iload_n 1, 1) := by decide +kernel
theorem dX3_joined_91 : decode cX3_joined 91 = .ok (.iload_n 2, 1) := by decide +kernel
theorem dX3_joined_92 : decode cX3_joined 92 = .ok (.iadd, 1) := by decide +kernel
theorem dX3_joined_93 : decode cX3_joined 93 = .ok (.ireturn, 1) := by decide +kernel
theorem dX3_joined_94 : decode cX3_joined 94 = .ok (.iload_n 1, 1) := by decide +kernel
theorem dX3_joined_95 : decode cX3_joined 95 = .ok (.iload_n 2, 1) := by decide +kernel
theorem dX3_joined_96 : decode cX3_joined 96 = .ok (.isub, 1) := by decide +kernel
theorem dX3_joined_97 : decode cX3_joined 97 = .ok (.ireturn, 1) := by decide +kernel
theorem dX3_joined_98 : decode cX3_joined 98 = .ok (.iload_n 1, 1) := by decide +kernel
theorem dX3_joined_99 : decode cX3_joined 99 = .ok (.iload_n 2, 1) := by decide +kernel
theorem dX3_joined_100 : decode cX3_joined 100 = .ok (.imul, 1) := by decide +kernel
theorem dX3_joined_101 : decode cX3_joined 101 = .ok (.ireturn, 1) := by decide +kernel
theorem dX4_init_0 : decode cX4_init 0 = .ok (.aload_n 0, 1) := by decide +kernel
theorem dX4_init_1 : decode cX4_init 1 = .ok (.invokespecial 3, 3) := by decide +kernel
theorem dX4_init_4 : decode cX4_init 4 = .ok (.aload_n 0, 1) := by decide +kernel
theorem dX4_init_5 : decode cX4_init 5 = .ok (.bipush 17, 2) := by decide +kernel
theorem dX4_init_7 : decode cX4_init 7 = .ok (.anewarray 9, 3) := by decide +kernel
theorem dX4_init_10 : decode cX4_init 10 = .ok (.putfield 11, 3) := by decide +kernel
theorem dX4_init_13 : decode cX4_init 13 = .ok (.aload_n 0, 1) := by decide +kernel
theorem dX4_init_14 : decode cX4_init 14 = .ok (.iconst 4, 1) := by decide +kernel
theorem dX4_init_15 : decode cX4_init 15 = .ok (.anewarray 9, 3) := by decide +kernel
theorem dX4_init_18 : decode cX4_init 18 = .ok (.putfield 17, 3) := by decide +kernel
theorem dX4_init_21 : decode cX4_init 21 = .ok (.aload_n 0, 1) := by decide +kernel
theorem dX4_init_22 : decode cX4_init 22 = .ok (.iconst 4, 1) := by decide +kernel
theorem dX4_init_23 : decode cX4_init 23 = .ok (.anewarray 20, 3) := by decide +kernel
theorem dX4_init_26 : decode cX4_init 26 = .ok (.putfield 22, 3) := by decide +kernel
theorem dX4_init_29 : decode cX4_init 29 = .ok (.iconst 0, 1) := by decide +kernel
theorem dX4_init_30 : decode cX4_init 30 = .ok (.istore_n 1, 1) := by decide +kernel
theorem dX4_init_31 : decode cX4_init 31 = .ok (.iload_n 1, 1) := by decide +kernel
theorem dX4_init_32 : decode cX4_init 32 = .ok (.bipush 16, 2) := by decide +kernel
theorem dX4_init_34 : decode cX4_init 34 = .ok (.if_icmp .gt 22, 3) := by decide +kernel
theorem dX4_init_37 : decode cX4_init 37 = .ok (.aload_n 0, 1) := by decide +kernel
theorem dX4_init_38 : decode cX4_init 38 = .ok (.getfield 11, 3) := by decide +kernel
theorem dX4_init_41 : decode cX4_init 41 = .ok (.iload_n 1, 1) := by decide +kernel
theorem dX4_init_42 : decode cX4_init 42 = .ok (.new 9, 3) := by decide +kernel
theorem dX4_init_45 : decode cX4_init 45 = .ok (.dup, 1) := by decide +kernel
theorem dX4_init_46 : decode cX4_init 46 = .ok (.invokespecial 26, 3) := by decide +kernel
theorem dX4_init_49 : decode cX4_init 49 = .ok (.aastore, 1) := by decide +kernel
theorem dX4_init_50 : decode cX4_init 50 = .ok (.iinc 1 1, 3) := by decide +kernel
theorem dX4_init_53 : decode cX4_init 53 = .ok (.goto (-22), 3) := by decide +kernel
theorem dX4_init_56 : decode cX4_init 56 = .ok (.iconst 0, 1) := by decide +kernel
theorem dX4_init_57 : decode cX4_init 57 = .ok (.istore_n 1, 1) := by decide +kernel
theorem dX4_init_58 : decode cX4_init 58 = .ok (.iload_n 1, 1) := by decide +kernel
theorem dX4_init_59 : decode cX4_init 59 = .ok (.iconst 4, 1) := by decide +kernel
theorem dX4_init_60 : decode cX4_init 60 = .ok (.if_icmp .ge 35, 3) := by decide +kernel
theorem dX4_init_63 : decode cX4_init 63 = .ok (.aload_n 0, 1) := by decide +kernel
theorem dX4_init_64 : decode cX4_init 64 = .ok (.getfield 17, 3) := by decide +kernel
theorem dX4_init_67 : decode cX4_init 67 = .ok (.iload_n 1, 1) := by decide +kernel
theorem dX4_init_68 : decode cX4_init 68 = .ok (.new 9, 3) := by decide +kernel
theorem dX4_init_71 : decode cX4_init 71 = .ok (.dup, 1) := by decide +kernel
theorem dX4_init_72 : decode cX4_init 72 = .ok (.invokespecial 26, 3) := by decide +kernel
theorem dX4_init_75 : decode cX4_init 75 = .ok (.aastore, 1) := by decide +kernel
theorem dX4_init_76 : decode cX4_init 76 = .ok (.aload_n 0, 1) := by decide +kernel
theorem dX4_init_77 : decode cX4_init 77 = .ok (.getfield 22, 3) := by decide +kernel
theorem dX4_init_80 : decode cX4_init 80 = .ok (.iload_n 1, 1) := by decide +kernel
theorem dX4_init_81 : decode cX4_init 81 = .ok (.new 20, 3) := by decide +kernel
theorem dX4_init_84 : decode cX4_init 84 = .ok (.dup, 1) := by decide +kernel
theorem dX4_init_85 : decode cX4_init 85 = .ok (.invokespecial 27, 3) := by decide +kernel
theorem dX4_init_88 : decode cX4_init 88 = .ok (.aastore, 1) := by decide +kernel
theorem dX4_init_89 : decode cX4_init 89 = .ok (.iinc 1 1, 3) := by decide +kernel
theorem dX4_init_92 : decode cX4_init 92 = .ok (.goto (-34), 3) := by decide +kernel
theorem dX4_init_95 : decode cX4_init 95 = .ok (.return_, 1) := by decide +kernel
theorem dX4_forgetAll_0 : decode cX4_forgetAll 0 = .ok (.aload_n 0, 1) := by decide +kernel
theorem dX4_forgetAll_1 : decode cX4_forgetAll 1 = .ok (.iconst 0, 1) := by decide +kernel
theorem dX4_forgetAll_2 : decode cX4_forgetAll 2 = .ok (.putfield 28, 3) := by decide +kernel
theorem dX4_forgetAll_5 : decode cX4_forgetAll 5 = .ok (.aload_n 0, 1) := by decide +kernel
theorem dX4_forgetAll_6 : decode cX4_forgetAll 6 = .ok (.iconst 0, 1) := by decide +kernel
theorem dX4_forgetAll_7 : decode cX4_forgetAll 7 = .ok (.putfield 32, 3) := by decide +kernel
theorem dX4_forgetAll_10 : decode cX4_forgetAll 10 = .ok (.return_, 1) := by decide +kernel
theorem dX4_hold_0 : decode cX4_hold 0 = .ok (.aload_n 0, 1) := by decide +kernel
theorem dX4_hold_1 : decode cX4_hold 1 = .ok (.getfield 11, 3) := by decide +kernel
theorem dX4_hold_4 : decode cX4_hold 4 = .ok (.aload_n 0, 1) := by decide +kernel
theorem dX4_hold_5 : decode cX4_hold 5 = .ok (.getfield 35, 3) := by decide +kernel
theorem dX4_hold_8 : decode cX4_hold 8 = .ok (.aaload, 1) := by decide +kernel
theorem dX4_hold_9 : decode cX4_hold 9 = .ok (.aload_n 1, 1) := by decide +kernel
theorem dX4_hold_10 : decode cX4_hold 10 = .ok (.invokevirtual 38, 3) := by decide +kernel
theorem dX4_hold_13 : decode cX4_hold 13 = .ok (.return_, 1) := by decide +kernel
theorem dX4_keep_0 : decode cX4_keep 0 = .ok (.aload_n 0, 1) := by decide +kernel
theorem dX4_keep_1 : decode cX4_keep 1 = .ok (.aload_n 0, 1) := by decide +kernel
theorem dX4_keep_2 : decode cX4_keep 2 = .ok (.getfield 35, 3) := by decide +kernel
theorem dX4_keep_5 : decode cX4_keep 5 = .ok (.bipush 16, 2) := by decide +kernel
theorem dX4_keep_7 : decode cX4_keep 7 = .ok (.if_icmp .ge 12, 3) := by decide +kernel
theorem dX4_keep_10 : decode cX4_keep 10 = .ok (.aload_n 0, 1) := by decide +kernel
theorem dX4_keep_11 : decode cX4_keep 11 = .ok (.getfield 35, 3) := by decide +kernel
theorem dX4_keep_14 : decode cX4_keep 14 = .ok (.iconst 1, 1) := by decide +kernel
theorem dX4_keep_15 : decode cX4_keep 15 = .ok (.iadd, 1) := by decide +kernel
theorem dX4_keep_16 : decode cX4_keep 16 = .ok (.goto 4, 3) := by decide +kernel
theorem dX4_keep_19 : decode cX4_keep 19 = .ok (.iconst 0, 1) := by decide +kernel
theorem dX4_keep_20 : decode cX4_keep 20 = .ok (.putfield 35, 3) := by decide +kernel
theorem dX4_keep_23 : decode cX4_keep 23 = .ok (.aload_n 0, 1) := by decide +kernel
theorem dX4_keep_24 : decode cX4_keep 24 = .ok (.bipush 16, 2) := by decide +kernel
theorem dX4_keep_26 : decode cX4_keep 26 = .ok (.aload_n 0, 1) := by decide +kernel
theorem dX4_keep_27 : decode cX4_keep 27 = .ok (.getfield 28, 3) := by decide +kernel
theorem dX4_keep_30 : decode cX4_keep 30 = .ok (.iconst 1, 1) := by decide +kernel
theorem dX4_keep_31 : decode cX4_keep 31 = .ok (.iadd, 1) := by decide +kernel
theorem dX4_keep_32 : decode cX4_keep 32 = .ok (.invokestatic 42, 3) := by decide +kernel
theorem dX4_keep_35 : decode cX4_keep 35 = .ok (.putfield 28, 3) := by decide +kernel
theorem dX4_keep_38 : decode cX4_keep 38 = .ok (.return_, 1) := by decide +kernel
theorem dX4_takesBack_0 : decode cX4_takesBack 0 = .ok (.aload_n 0, 1) := by decide +kernel
theorem dX4_takesBack_1 : decode cX4_takesBack 1 = .ok (.getfield 28, 3) := by decide +kernel
theorem dX4_takesBack_4 : decode cX4_takesBack 4 = .ok (.ifCond .ne 5, 3) := by decide +kernel
theorem dX4_takesBack_7 : decode cX4_takesBack 7 = .ok (.iconst 0, 1) := by decide +kernel
theorem dX4_takesBack_8 : decode cX4_takesBack 8 = .ok (.ireturn, 1) := by decide +kernel
theorem dX4_takesBack_9 : decode cX4_takesBack 9 = .ok (.aload_n 0, 1) := by decide +kernel
theorem dX4_takesBack_10 : decode cX4_takesBack 10 = .ok (.aload_n 0, 1) := by decide +kernel
theorem dX4_takesBack_11 : decode cX4_takesBack 11 = .ok (.getfield 35, 3) := by decide +kernel
theorem dX4_takesBack_14 : decode cX4_takesBack 14 = .ok (.ifCond .le 12, 3) := by decide +kernel
theorem dX4_takesBack_17 : decode cX4_takesBack 17 = .ok (.aload_n 0, 1) := by decide +kernel
theorem dX4_takesBack_18 : decode cX4_takesBack 18 = .ok (.getfield 35, 3) := by decide +kernel
theorem dX4_takesBack_21 : decode cX4_takesBack 21 = .ok (.iconst 1, 1) := by decide +kernel
theorem dX4_takesBack_22 : decode cX4_takesBack 22 = .ok (.isub, 1) := by decide +kernel
theorem dX4_takesBack_23 : decode cX4_takesBack 23 = .ok (.goto 5, 3) := by decide +kernel
theorem dX4_takesBack_26 : decode cX4_takesBack 26 = .ok (.bipush 16, 2) := by decide +kernel
theorem dX4_takesBack_28 : decode cX4_takesBack 28 = .ok (.putfield 35, 3) := by decide +kernel
theorem dX4_takesBack_31 : decode cX4_takesBack 31 = .ok (.aload_n 0, 1) := by decide +kernel
theorem dX4_takesBack_32 : decode cX4_takesBack 32 = .ok (.dup, 1) := by decide +kernel
theorem dX4_takesBack_33 : decode cX4_takesBack 33 = .ok (.getfield 28, 3) := by decide +kernel
theorem dX4_takesBack_36 : decode cX4_takesBack 36 = .ok (.iconst 1, 1) := by decide +kernel
theorem dX4_takesBack_37 : decode cX4_takesBack 37 = .ok (.isub, 1) := by decide +kernel
theorem dX4_takesBack_38 : decode cX4_takesBack 38 = .ok (.putfield 28, 3) := by decide +kernel
theorem dX4_takesBack_41 : decode cX4_takesBack 41 = .ok (.aload_n 1, 1) := by decide +kernel
theorem dX4_takesBack_42 : decode cX4_takesBack 42 = .ok (.aload_n 0, 1) := by decide +kernel
theorem dX4_takesBack_43 : decode cX4_takesBack 43 = .ok (.getfield 11, 3) := by decide +kernel
theorem dX4_takesBack_46 : decode cX4_takesBack 46 = .ok (.aload_n 0, 1) := by decide +kernel
theorem dX4_takesBack_47 : decode cX4_takesBack 47 = .ok (.getfield 35, 3) := by decide +kernel
theorem dX4_takesBack_50 : decode cX4_takesBack 50 = .ok (.aaload, 1) := by decide +kernel
theorem dX4_takesBack_51 : decode cX4_takesBack 51 = .ok (.invokevirtual 38, 3) := by decide +kernel
theorem dX4_takesBack_54 : decode cX4_takesBack 54 = .ok (.iconst 1, 1) := by decide +kernel
theorem dX4_takesBack_55 : decode cX4_takesBack 55 = .ok (.ireturn, 1) := by decide +kernel
theorem dX4_remembers_0 : decode cX4_remembers 0 = .ok (.aload_n 0, 1) := by decide +kernel
theorem dX4_remembers_1 : decode cX4_remembers 1 = .ok (.getfield 17, 3) := by decide +kernel
theorem dX4_remembers_4 : decode cX4_remembers 4 = .ok (.iload_n 1, 1) := by decide +kernel
theorem dX4_remembers_5 : decode cX4_remembers 5 = .ok (.aaload, 1) := by decide +kernel
theorem dX4_remembers_6 : decode cX4_remembers 6 = .ok (.aload_n 2, 1) := by decide +kernel
theorem dX4_remembers_7 : decode cX4_remembers 7 = .ok (.invokevirtual 38, 3) := by decide +kernel
theorem dX4_remembers_10 : decode cX4_remembers 10 = .ok (.aload_n 0, 1) := by decide +kernel
theorem dX4_remembers_11 : decode cX4_remembers 11 = .ok (.getfield 22, 3) := by decide +kernel
theorem dX4_remembers_14 : decode cX4_remembers 14 = .ok (.iload_n 1, 1) := by decide +kernel
theorem dX4_remembers_15 : decode cX4_remembers 15 = .ok (.aaload, 1) := by decide +kernel
theorem dX4_remembers_16 : decode cX4_remembers 16 = .ok (.aload_n 3, 1) := by decide +kernel
theorem dX4_remembers_17 : decode cX4_remembers 17 = .ok (.invokevirtual 48, 3) := by decide +kernel
theorem dX4_remembers_20 : decode cX4_remembers 20 = .ok (.aload_n 0, 1) := by decide +kernel
theorem dX4_remembers_21 : decode cX4_remembers 21 = .ok (.dup, 1) := by decide +kernel
theorem dX4_remembers_22 : decode cX4_remembers 22 = .ok (.getfield 32, 3) := by decide +kernel
theorem dX4_remembers_25 : decode cX4_remembers 25 = .ok (.iconst 1, 1) := by decide +kernel
theorem dX4_remembers_26 : decode cX4_remembers 26 = .ok (.iload_n 1, 1) := by decide +kernel
theorem dX4_remembers_27 : decode cX4_remembers 27 = .ok (.ishl, 1) := by decide +kernel
theorem dX4_remembers_28 : decode cX4_remembers 28 = .ok (.ior, 1) := by decide +kernel
theorem dX4_remembers_29 : decode cX4_remembers 29 = .ok (.putfield 32, 3) := by decide +kernel
theorem dX4_remembers_32 : decode cX4_remembers 32 = .ok (.return_, 1) := by decide +kernel
theorem dX4_returnsTo_0 : decode cX4_returnsTo 0 = .ok (.aload_n 0, 1) := by decide +kernel
theorem dX4_returnsTo_1 : decode cX4_returnsTo 1 = .ok (.getfield 32, 3) := by decide +kernel
theorem dX4_returnsTo_4 : decode cX4_returnsTo 4 = .ok (.iload_n 1, 1) := by decide +kernel
theorem dX4_returnsTo_5 : decode cX4_returnsTo 5 = .ok (.invokestatic 51, 3) := by decide +kernel
theorem dX4_returnsTo_8 : decode cX4_returnsTo 8 = .ok (.ifCond .ne 5, 3) := by decide +kernel
theorem dX4_returnsTo_11 : decode cX4_returnsTo 11 = .ok (.iconst 0, 1) := by decide +kernel
theorem dX4_returnsTo_12 : decode cX4_returnsTo 12 = .ok (.ireturn, 1) := by decide +kernel
theorem dX4_returnsTo_13 : decode cX4_returnsTo 13 = .ok (.aload_n 2, 1) := by decide +kernel
theorem dX4_returnsTo_14 : decode cX4_returnsTo 14 = .ok (.aload_n 0, 1) := by decide +kernel
theorem dX4_returnsTo_15 : decode cX4_returnsTo 15 = .ok (.getfield 17, 3) := by decide +kernel
theorem dX4_returnsTo_18 : decode cX4_returnsTo 18 = .ok (.iload_n 1, 1) := by decide +kernel
theorem dX4_returnsTo_19 : decode cX4_returnsTo 19 = .ok (.aaload, 1) := by decide +kernel
theorem dX4_returnsTo_20 : decode cX4_returnsTo 20 = .ok (.invokevirtual 38, 3) := by decide +kernel
theorem dX4_returnsTo_23 : decode cX4_returnsTo 23 = .ok (.aload_n 3, 1) := by decide +kernel
theorem dX4_returnsTo_24 : decode cX4_returnsTo 24 = .ok (.aload_n 0, 1) := by decide +kernel
theorem dX4_returnsTo_25 : decode cX4_returnsTo 25 = .ok (.getfield 22, 3) := by decide +kernel
theorem dX4_returnsTo_28 : decode cX4_returnsTo 28 = .ok (.iload_n 1, 1) := by decide +kernel
theorem dX4_returnsTo_29 : decode cX4_returnsTo 29 = .ok (.aaload, 1) := by decide +kernel
theorem dX4_returnsTo_30 : decode cX4_returnsTo 30 = .ok (.invokevirtual 48, 3) := by decide +kernel
theorem dX4_returnsTo_33 : decode cX4_returnsTo 33 = .ok (.aload_n 0, 1) := by decide +kernel
theorem dX4_returnsTo_34 : decode cX4_returnsTo 34 = .ok (.iconst 0, 1) := by decide +kernel
theorem dX4_returnsTo_35 : decode cX4_returnsTo 35 = .ok (.putfield 28, 3) := by decide +kernel
theorem dX4_returnsTo_38 : decode cX4_returnsTo 38 = .ok (.iconst 1, 1) := by decide +kernel
theorem dX4_returnsTo_39 : decode cX4_returnsTo 39 = .ok (.ireturn, 1) := by decide +kernel
theorem dX5_init_0 : decode cX5_init 0 = .ok (.aload_n 0, 1) := by decide +kernel
theorem dX5_init_1 : decode cX5_init 1 = .ok (.invokespecial 3, 3) := by decide +kernel
theorem dX5_init_4 : decode cX5_init 4 = .ok (.aload_n 0, 1) := by decide +kernel
theorem dX5_init_5 : decode cX5_init 5 = .ok (.bipush 7, 2) := by decide +kernel
theorem dX5_init_7 : decode cX5_init 7 = .ok (.newarray .int, 2) := by decide +kernel
theorem dX5_init_9 : decode cX5_init 9 = .ok (.putfield 9, 3) := by decide +kernel
theorem dX5_init_12 : decode cX5_init 12 = .ok (.return_, 1) := by decide +kernel
theorem dX5_spread_0 : decode cX5_spread 0 = .ok (.iconst 0, 1) := by decide +kernel
theorem dX5_spread_1 : decode cX5_spread 1 = .ok (.istore 5, 2) := by decide +kernel
theorem dX5_spread_3 : decode cX5_spread 3 = .ok (.iload 5, 2) := by decide +kernel
theorem dX5_spread_5 : decode cX5_spread 5 = .ok (.bipush 7, 2) := by decide +kernel
theorem dX5_spread_7 : decode cX5_spread 7 = .ok (.if_icmp .ge 17, 3) := by decide +kernel
theorem dX5_spread_10 : decode cX5_spread 10 = .ok (.aload_n 0, 1) := by decide +kernel
theorem dX5_spread_11 : decode cX5_spread 11 = .ok (.getfield 9, 3) := by decide +kernel
theorem dX5_spread_14 : decode cX5_spread 14 = .ok (.iload 5, 2) := by decide +kernel
theorem dX5_spread_16 : decode cX5_spread 16 = .ok (.iconst (-1), 1) := by decide +kernel
theorem dX5_spread_17 : decode cX5_spread 17 = .ok (.iastore, 1) := by decide +kernel
theorem dX5_spread_18 : decode cX5_spread 18 = .ok (.iinc 5 1, 3) := by decide +kernel
theorem dX5_spread_21 : decode cX5_spread 21 = .ok (.goto (-18), 3) := by decide +kernel
theorem dX5_spread_24 : decode cX5_spread 24 = .ok (.aload_n 1, 1) := by decide +kernel
theorem dX5_spread_25 : decode cX5_spread 25 = .ok (.iload_n 2, 1) := by decide +kernel
theorem dX5_spread_26 : decode cX5_spread 26 = .ok (.invokevirtual 15, 3) := by decide +kernel
theorem dX5_spread_29 : decode cX5_spread 29 = .ok (.ifCond .ne 4, 3) := by decide +kernel
theorem dX5_spread_32 : decode cX5_spread 32 = .ok (.return_, 1) := by decide +kernel
theorem dX5_spread_33 : decode cX5_spread 33 = .ok (.aload_n 0, 1) := by decide +kernel
theorem dX5_spread_34 : decode cX5_spread 34 = .ok (.getfield 9, 3) := by decide +kernel
theorem dX5_spread_37 : decode cX5_spread 37 = .ok (.iload_n 2, 1) := by decide +kernel
theorem dX5_spread_38 : decode cX5_spread 38 = .ok (.iconst 0, 1) := by decide +kernel
theorem dX5_spread_39 : decode cX5_spread 39 = .ok (.iastore, 1) := by decide +kernel
theorem dX5_spread_40 : decode cX5_spread 40 = .ok (.iconst 1, 1) := by decide +kernel
theorem dX5_spread_41 : decode cX5_spread 41 = .ok (.istore 5, 2) := by decide +kernel
theorem dX5_spread_43 : decode cX5_spread 43 = .ok (.iconst 0, 1) := by decide +kernel
theorem dX5_spread_44 : decode cX5_spread 44 = .ok (.istore 6, 2) := by decide +kernel
theorem dX5_spread_46 : decode cX5_spread 46 = .ok (.iload 5, 2) := by decide +kernel
theorem dX5_spread_48 : decode cX5_spread 48 = .ok (.ifCond .eq 118, 3) := by decide +kernel
theorem dX5_spread_51 : decode cX5_spread 51 = .ok (.iload 6, 2) := by decide +kernel
theorem dX5_spread_53 : decode cX5_spread 53 = .ok (.bipush 7, 2) := by decide +kernel
theorem dX5_spread_55 : decode cX5_spread 55 = .ok (.if_icmp .ge 111, 3) := by decide +kernel
theorem dX5_spread_58 : decode cX5_spread 58 = .ok (.iconst 0, 1) := by decide +kernel
theorem dX5_spread_59 : decode cX5_spread 59 = .ok (.istore 5, 2) := by decide +kernel
theorem dX5_spread_61 : decode cX5_spread 61 = .ok (.iconst 0, 1) := by decide +kernel
theorem dX5_spread_62 : decode cX5_spread 62 = .ok (.istore 7, 2) := by decide +kernel
theorem dX5_spread_64 : decode cX5_spread 64 = .ok (.iload 7, 2) := by decide +kernel
theorem dX5_spread_66 : decode cX5_spread 66 = .ok (.aload_n 1, 1) := by decide +kernel
theorem dX5_spread_67 : decode cX5_spread 67 = .ok (.getfield 21, 3) := by decide +kernel
theorem dX5_spread_70 : decode cX5_spread 70 = .ok (.if_icmp .ge 90, 3) := by decide +kernel
theorem dX5_spread_73 : decode cX5_spread 73 = .ok (.iload_n 3, 1) := by decide +kernel
theorem dX5_spread_74 : decode cX5_spread 74 = .ok (.iload 7, 2) := by decide +kernel
theorem dX5_spread_76 : decode cX5_spread 76 = .ok (.invokestatic 25, 3) := by decide +kernel
theorem dX5_spread_79 : decode cX5_spread 79 = .ok (.ifCond .eq 75, 3) := by decide +kernel
theorem dX5_spread_82 : decode cX5_spread 82 = .ok (.aload_n 0, 1) := by decide +kernel
theorem dX5_spread_83 : decode cX5_spread 83 = .ok (.aload_n 1, 1) := by decide +kernel
theorem dX5_spread_84 : decode cX5_spread 84 = .ok (.getfield 29, 3) := by decide +kernel
theorem dX5_spread_87 : decode cX5_spread 87 = .ok (.iload 7, 2) := by decide +kernel
theorem dX5_spread_89 : decode cX5_spread 89 = .ok (.iaload, 1) := by decide +kernel
theorem dX5_spread_90 : decode cX5_spread 90 = .ok (.aload_n 1, 1) := by decide +kernel
theorem dX5_spread_91 : decode cX5_spread 91 = .ok (.getfield 32, 3) := by decide +kernel
theorem dX5_spread_94 : decode cX5_spread 94 = .ok (.iload 7, 2) := by decide +kernel
theorem dX5_spread_96 : decode cX5_spread 96 = .ok (.iaload, 1) := by decide +kernel
theorem dX5_spread_97 : decode cX5_spread 97 = .ok (.aload 4, 2) := by decide +kernel
theorem dX5_spread_99 : decode cX5_spread 99 = .ok (.iload 7, 2) := by decide +kernel
theorem dX5_spread_101 : decode cX5_spread 101 = .ok (.iaload, 1) := by decide +kernel
theorem dX5_spread_102 : decode cX5_spread 102 = .ok (.invokevirtual 35, 3) := by decide +kernel
theorem dX5_spread_105 : decode cX5_spread 105 = .ok (.istore 8, 2) := by decide +kernel
theorem dX5_spread_107 : decode cX5_spread 107 = .ok (.aload_n 0, 1) := by decide +kernel
theorem dX5_spread_108 : decode cX5_spread 108 = .ok (.aload_n 1, 1) := by decide +kernel
theorem dX5_spread_109 : decode cX5_spread 109 = .ok (.getfield 32, 3) := by decide +kernel
theorem dX5_spread_112 : decode cX5_spread 112 = .ok (.iload 7, 2) := by decide +kernel
theorem dX5_spread_114 : decode cX5_spread 114 = .ok (.iaload, 1) := by decide +kernel
theorem dX5_spread_115 : decode cX5_spread 115 = .ok (.aload_n 1, 1) := by decide +kernel
theorem dX5_spread_116 : decode cX5_spread 116 = .ok (.getfield 29, 3) := by decide +kernel
theorem dX5_spread_119 : decode cX5_spread 119 = .ok (.iload 7, 2) := by decide +kernel
theorem dX5_spread_121 : decode cX5_spread 121 = .ok (.iaload, 1) := by decide +kernel
theorem dX5_spread_122 : decode cX5_spread 122 = .ok (.aload 4, 2) := by decide +kernel
theorem dX5_spread_124 : decode cX5_spread 124 = .ok (.iload 7, 2) := by decide +kernel
theorem dX5_spread_126 : decode cX5_spread 126 = .ok (.iaload, 1) := by decide +kernel
theorem dX5_spread_127 : decode cX5_spread 127 = .ok (.invokevirtual 35, 3) := by decide +kernel
theorem dX5_spread_130 : decode cX5_spread 130 = .ok (.istore 9, 2) := by decide +kernel
theorem dX5_spread_132 : decode cX5_spread 132 = .ok (.iload 5, 2) := by decide +kernel
theorem dX5_spread_134 : decode cX5_spread 134 = .ok (.ifCond .ne 13, 3) := by decide +kernel
theorem dX5_spread_137 : decode cX5_spread 137 = .ok (.iload 8, 2) := by decide +kernel
theorem dX5_spread_139 : decode cX5_spread 139 = .ok (.ifCond .ne 8, 3) := by decide +kernel
theorem dX5_spread_142 : decode cX5_spread 142 = .ok (.iload 9, 2) := by decide +kernel
theorem dX5_spread_144 : decode cX5_spread 144 = .ok (.ifCond .eq 7, 3) := by decide +kernel
theorem dX5_spread_147 : decode cX5_spread 147 = .ok (.iconst 1, 1) := by decide +kernel
theorem dX5_spread_148 : decode cX5_spread 148 = .ok (.goto 4, 3) := by decide +kernel
theorem dX5_spread_151 : decode cX5_spread 151 = .ok (.iconst 0, 1) := by decide +kernel
theorem dX5_spread_152 : decode cX5_spread 152 = .ok (.istore 5, 2) := by decide +kernel
theorem dX5_spread_154 : decode cX5_spread 154 = .ok (.iinc 7 1, 3) := by decide +kernel
theorem dX5_spread_157 : decode cX5_spread 157 = .ok (.goto (-93), 3) := by decide +kernel
theorem dX5_spread_160 : decode cX5_spread 160 = .ok (.iinc 6 1, 3) := by decide +kernel
theorem dX5_spread_163 : decode cX5_spread 163 = .ok (.goto (-117), 3) := by decide +kernel
theorem dX5_spread_166 : decode cX5_spread 166 = .ok (.return_, 1) := by decide +kernel
theorem dX5_lowers_0 : decode cX5_lowers 0 = .ok (.aload_n 0, 1) := by decide +kernel
theorem dX5_lowers_1 : decode cX5_lowers 1 = .ok (.getfield 9, 3) := by decide +kernel
theorem dX5_lowers_4 : decode cX5_lowers 4 = .ok (.iload_n 1, 1) := by decide +kernel
theorem dX5_lowers_5 : decode cX5_lowers 5 = .ok (.iaload, 1) := by decide +kernel
theorem dX5_lowers_6 : decode cX5_lowers 6 = .ok (.iconst (-1), 1) := by decide +kernel
theorem dX5_lowers_7 : decode cX5_lowers 7 = .ok (.if_icmp .eq 30, 3) := by decide +kernel
theorem dX5_lowers_10 : decode cX5_lowers 10 = .ok (.aload_n 0, 1) := by decide +kernel
theorem dX5_lowers_11 : decode cX5_lowers 11 = .ok (.getfield 9, 3) := by decide +kernel
theorem dX5_lowers_14 : decode cX5_lowers 14 = .ok (.iload_n 2, 1) := by decide +kernel
theorem dX5_lowers_15 : decode cX5_lowers 15 = .ok (.iaload, 1) := by decide +kernel
theorem dX5_lowers_16 : decode cX5_lowers 16 = .ok (.iconst (-1), 1) := by decide +kernel
theorem dX5_lowers_17 : decode cX5_lowers 17 = .ok (.if_icmp .eq 22, 3) := by decide +kernel
theorem dX5_lowers_20 : decode cX5_lowers 20 = .ok (.aload_n 0, 1) := by decide +kernel
theorem dX5_lowers_21 : decode cX5_lowers 21 = .ok (.getfield 9, 3) := by decide +kernel
theorem dX5_lowers_24 : decode cX5_lowers 24 = .ok (.iload_n 2, 1) := by decide +kernel
theorem dX5_lowers_25 : decode cX5_lowers 25 = .ok (.iaload, 1) := by decide +kernel
theorem dX5_lowers_26 : decode cX5_lowers 26 = .ok (.aload_n 0, 1) := by decide +kernel
theorem dX5_lowers_27 : decode cX5_lowers 27 = .ok (.getfield 9, 3) := by decide +kernel
theorem dX5_lowers_30 : decode cX5_lowers 30 = .ok (.iload_n 1, 1) := by decide +kernel
theorem dX5_lowers_31 : decode cX5_lowers 31 = .ok (.iaload, 1) := by decide +kernel
theorem dX5_lowers_32 : decode cX5_lowers 32 = .ok (.iload_n 3, 1) := by decide +kernel
theorem dX5_lowers_33 : decode cX5_lowers 33 = .ok (.iadd, 1) := by decide +kernel
theorem dX5_lowers_34 : decode cX5_lowers 34 = .ok (.if_icmp .gt 5, 3) := by decide +kernel
theorem dX5_lowers_37 : decode cX5_lowers 37 = .ok (.iconst 0, 1) := by decide +kernel
theorem dX5_lowers_38 : decode cX5_lowers 38 = .ok (.ireturn, 1) := by decide +kernel
theorem dX5_lowers_39 : decode cX5_lowers 39 = .ok (.aload_n 0, 1) := by decide +kernel
theorem dX5_lowers_40 : decode cX5_lowers 40 = .ok (.getfield 9, 3) := by decide +kernel
theorem dX5_lowers_43 : decode cX5_lowers 43 = .ok (.iload_n 2, 1) := by decide +kernel
theorem dX5_lowers_44 : decode cX5_lowers 44 = .ok (.aload_n 0, 1) := by decide +kernel
theorem dX5_lowers_45 : decode cX5_lowers 45 = .ok (.getfield 9, 3) := by decide +kernel
theorem dX5_lowers_48 : decode cX5_lowers 48 = .ok (.iload_n 1, 1) := by decide +kernel
theorem dX5_lowers_49 : decode cX5_lowers 49 = .ok (.iaload, 1) := by decide +kernel
theorem dX5_lowers_50 : decode cX5_lowers 50 = .ok (.iload_n 3, 1) := by decide +kernel
theorem dX5_lowers_51 : decode cX5_lowers 51 = .ok (.iadd, 1) := by decide +kernel
theorem dX5_lowers_52 : decode cX5_lowers 52 = .ok (.iastore, 1) := by decide +kernel
theorem dX5_lowers_53 : decode cX5_lowers 53 = .ok (.iconst 1, 1) := by decide +kernel
theorem dX5_lowers_54 : decode cX5_lowers 54 = .ok (.ireturn, 1) := by decide +kernel
theorem dX5_reached_0 : decode cX5_reached 0 = .ok (.iconst 0, 1) := by decide +kernel
theorem dX5_reached_1 : decode cX5_reached 1 = .ok (.istore_n 1, 1) := by decide +kernel
theorem dX5_reached_2 : decode cX5_reached 2 = .ok (.iconst 0, 1) := by decide +kernel
theorem dX5_reached_3 : decode cX5_reached 3 = .ok (.istore_n 2, 1) := by decide +kernel
theorem dX5_reached_4 : decode cX5_reached 4 = .ok (.iload_n 2, 1) := by decide +kernel
theorem dX5_reached_5 : decode cX5_reached 5 = .ok (.bipush 7, 2) := by decide +kernel
theorem dX5_reached_7 : decode cX5_reached 7 = .ok (.if_icmp .ge 25, 3) := by decide +kernel
theorem dX5_reached_10 : decode cX5_reached 10 = .ok (.aload_n 0, 1) := by decide +kernel
theorem dX5_reached_11 : decode cX5_reached 11 = .ok (.getfield 9, 3) := by decide +kernel
theorem dX5_reached_14 : decode cX5_reached 14 = .ok (.iload_n 2, 1) := by decide +kernel
theorem dX5_reached_15 : decode cX5_reached 15 = .ok (.iaload, 1) := by decide +kernel
theorem dX5_reached_16 : decode cX5_reached 16 = .ok (.iconst (-1), 1) := by decide +kernel
theorem dX5_reached_17 : decode cX5_reached 17 = .ok (.if_icmp .eq 9, 3) := by decide +kernel
theorem dX5_reached_20 : decode cX5_reached 20 = .ok (.iload_n 1, 1) := by decide +kernel
theorem dX5_reached_21 : decode cX5_reached 21 = .ok (.iconst 1, 1) := by decide +kernel
theorem dX5_reached_22 : decode cX5_reached 22 = .ok (.iload_n 2, 1) := by decide +kernel
theorem dX5_reached_23 : decode cX5_reached 23 = .ok (.ishl, 1) := by decide +kernel
theorem dX5_reached_24 : decode cX5_reached 24 = .ok (.ior, 1) := by decide +kernel
theorem dX5_reached_25 : decode cX5_reached 25 = .ok (.istore_n 1, 1) := by decide +kernel
theorem dX5_reached_26 : decode cX5_reached 26 = .ok (.iinc 2 1, 3) := by decide +kernel
theorem dX5_reached_29 : decode cX5_reached 29 = .ok (.goto (-25), 3) := by decide +kernel
theorem dX5_reached_32 : decode cX5_reached 32 = .ok (.iload_n 1, 1) := by decide +kernel
theorem dX5_reached_33 : decode cX5_reached 33 = .ok (.ireturn, 1) := by decide +kernel
theorem dX6_init_0 : decode cX6_init 0 = .ok (.aload_n 0, 1) := by decide +kernel
theorem dX6_init_1 : decode cX6_init 1 = .ok (.invokespecial 3, 3) := by decide +kernel
theorem dX6_init_4 : decode cX6_init 4 = .ok (.aload_n 0, 1) := by decide +kernel
theorem dX6_init_5 : decode cX6_init 5 = .ok (.aload_n 1, 1) := by decide +kernel
theorem dX6_init_6 : decode cX6_init 6 = .ok (.putfield 9, 3) := by decide +kernel
theorem dX6_init_9 : decode cX6_init 9 = .ok (.return_, 1) := by decide +kernel
theorem dX6_begin_0 : decode cX6_begin 0 = .ok (.aload_n 0, 1) := by decide +kernel
theorem dX6_begin_1 : decode cX6_begin 1 = .ok (.iconst 0, 1) := by decide +kernel
theorem dX6_begin_2 : decode cX6_begin 2 = .ok (.putfield 15, 3) := by decide +kernel
theorem dX6_begin_5 : decode cX6_begin 5 = .ok (.aload_n 0, 1) := by decide +kernel
theorem dX6_begin_6 : decode cX6_begin 6 = .ok (.getfield 9, 3) := by decide +kernel
theorem dX6_begin_9 : decode cX6_begin 9 = .ok (.invokevirtual 19, 3) := by decide +kernel
theorem dX6_begin_12 : decode cX6_begin 12 = .ok (.return_, 1) := by decide +kernel
theorem dX6_wrong_0 : decode cX6_wrong 0 = .ok (.aload_n 0, 1) := by decide +kernel
theorem dX6_wrong_1 : decode cX6_wrong 1 = .ok (.iload_n 1, 1) := by decide +kernel
theorem dX6_wrong_2 : decode cX6_wrong 2 = .ok (.bipush 16, 2) := by decide +kernel
theorem dX6_wrong_4 : decode cX6_wrong 4 = .ok (.aload_n 0, 1) := by decide +kernel
theorem dX6_wrong_5 : decode cX6_wrong 5 = .ok (.getfield 9, 3) := by decide +kernel
theorem dX6_wrong_8 : decode cX6_wrong 8 = .ok (.getfield 24, 3) := by decide +kernel
theorem dX6_wrong_11 : decode cX6_wrong 11 = .ok (.imul, 1) := by decide +kernel
theorem dX6_wrong_12 : decode cX6_wrong 12 = .ok (.iadd, 1) := by decide +kernel
theorem dX6_wrong_13 : decode cX6_wrong 13 = .ok (.putfield 15, 3) := by decide +kernel
theorem dX6_wrong_16 : decode cX6_wrong 16 = .ok (.iconst 0, 1) := by decide +kernel
theorem dX6_wrong_17 : decode cX6_wrong 17 = .ok (.ireturn, 1) := by decide +kernel
theorem dX6_takesWord_0 : decode cX6_takesWord 0 = .ok (.aload_n 0, 1) := by decide +kernel
theorem dX6_takesWord_1 : decode cX6_takesWord 1 = .ok (.getfield 9, 3) := by decide +kernel
theorem dX6_takesWord_4 : decode cX6_takesWord 4 = .ok (.getfield 27, 3) := by decide +kernel
theorem dX6_takesWord_7 : decode cX6_takesWord 7 = .ok (.aload_n 1, 1) := by decide +kernel
theorem dX6_takesWord_8 : decode cX6_takesWord 8 = .ok (.if_acmp .eq 9, 3) := by decide +kernel
theorem dX6_takesWord_11 : decode cX6_takesWord 11 = .ok (.aload_n 0, 1) := by decide +kernel
theorem dX6_takesWord_12 : decode cX6_takesWord 12 = .ok (.iconst 1, 1) := by decide +kernel
theorem dX6_takesWord_13 : decode cX6_takesWord 13 = .ok (.invokevirtual 31, 3) := by decide +kernel
theorem dX6_takesWord_16 : decode cX6_takesWord 16 = .ok (.ireturn, 1) := by decide +kernel
theorem dX6_takesWord_17 : decode cX6_takesWord 17 = .ok (.aload_n 0, 1) := by decide +kernel
theorem dX6_takesWord_18 : decode cX6_takesWord 18 = .ok (.getfield 9, 3) := by decide +kernel
theorem dX6_takesWord_21 : decode cX6_takesWord 21 = .ok (.invokevirtual 35, 3) := by decide +kernel
theorem dX6_takesWord_24 : decode cX6_takesWord 24 = .ok (.iconst 1, 1) := by decide +kernel
theorem dX6_takesWord_25 : decode cX6_takesWord 25 = .ok (.ireturn, 1) := by decide +kernel
theorem dX6_takesSign_0 : decode cX6_takesSign 0 = .ok (.aload_n 0, 1) := by decide +kernel
theorem dX6_takesSign_1 : decode cX6_takesSign 1 = .ok (.getfield 9, 3) := by decide +kernel
theorem dX6_takesSign_4 : decode cX6_takesSign 4 = .ok (.getfield 38, 3) := by decide +kernel
theorem dX6_takesSign_7 : decode cX6_takesSign 7 = .ok (.iload_n 1, 1) := by decide +kernel
theorem dX6_takesSign_8 : decode cX6_takesSign 8 = .ok (.if_icmp .eq 9, 3) := by decide +kernel
theorem dX6_takesSign_11 : decode cX6_takesSign 11 = .ok (.aload_n 0, 1) := by decide +kernel
theorem dX6_takesSign_12 : decode cX6_takesSign 12 = .ok (.iconst 1, 1) := by decide +kernel
theorem dX6_takesSign_13 : decode cX6_takesSign 13 = .ok (.invokevirtual 31, 3) := by decide +kernel
theorem dX6_takesSign_16 : decode cX6_takesSign 16 = .ok (.ireturn, 1) := by decide +kernel
theorem dX6_takesSign_17 : decode cX6_takesSign 17 = .ok (.aload_n 0, 1) := by decide +kernel
theorem dX6_takesSign_18 : decode cX6_takesSign 18 = .ok (.getfield 9, 3) := by decide +kernel
theorem dX6_takesSign_21 : decode cX6_takesSign 21 = .ok (.invokevirtual 35, 3) := by decide +kernel
theorem dX6_takesSign_24 : decode cX6_takesSign 24 = .ok (.iconst 1, 1) := by decide +kernel
theorem dX6_takesSign_25 : decode cX6_takesSign 25 = .ok (.ireturn, 1) := by decide +kernel
theorem dX6_takesNumber_0 : decode cX6_takesNumber 0 = .ok (.aload_n 0, 1) := by decide +kernel
theorem dX6_takesNumber_1 : decode cX6_takesNumber 1 = .ok (.getfield 9, 3) := by decide +kernel
theorem dX6_takesNumber_4 : decode cX6_takesNumber 4 = .ok (.getfield 38, 3) := by decide +kernel
theorem dX6_takesNumber_7 : decode cX6_takesNumber 7 = .ok (.iconst 2, 1) := by decide +kernel
theorem dX6_takesNumber_8 : decode cX6_takesNumber 8 = .ok (.if_icmp .eq 9, 3) := by decide +kernel
theorem dX6_takesNumber_11 : decode cX6_takesNumber 11 = .ok (.aload_n 0, 1) := by decide +kernel
theorem dX6_takesNumber_12 : decode cX6_takesNumber 12 = .ok (.iconst 1, 1) := by decide +kernel
theorem dX6_takesNumber_13 : decode cX6_takesNumber 13 = .ok (.invokevirtual 31, 3) := by decide +kernel
theorem dX6_takesNumber_16 : decode cX6_takesNumber 16 = .ok (.ireturn, 1) := by decide +kernel
theorem dX6_takesNumber_17 : decode cX6_takesNumber 17 = .ok (.aload_n 0, 1) := by decide +kernel
theorem dX6_takesNumber_18 : decode cX6_takesNumber 18 = .ok (.getfield 9, 3) := by decide +kernel
theorem dX6_takesNumber_21 : decode cX6_takesNumber 21 = .ok (.getfield 41, 3) := by decide +kernel
theorem dX6_takesNumber_24 : decode cX6_takesNumber 24 = .ok (.iload_n 1, 1) := by decide +kernel
theorem dX6_takesNumber_25 : decode cX6_takesNumber 25 = .ok (.if_icmp .lt 14, 3) := by decide +kernel
theorem dX6_takesNumber_28 : decode cX6_takesNumber 28 = .ok (.aload_n 0, 1) := by decide +kernel
theorem dX6_takesNumber_29 : decode cX6_takesNumber 29 = .ok (.getfield 9, 3) := by decide +kernel
theorem dX6_takesNumber_32 : decode cX6_takesNumber 32 = .ok (.getfield 41, 3) := by decide +kernel
theorem dX6_takesNumber_35 : decode cX6_takesNumber 35 = .ok (.iload_n 2, 1) := by decide +kernel
theorem dX6_takesNumber_36 : decode cX6_takesNumber 36 = .ok (.if_icmp .le 9, 3) := by decide +kernel
theorem dX6_takesNumber_39 : decode cX6_takesNumber 39 = .ok (.aload_n 0, 1) := by decide +kernel
theorem dX6_takesNumber_40 : decode cX6_takesNumber 40 = .ok (.iconst 4, 1) := by decide +kernel
theorem dX6_takesNumber_41 : decode cX6_takesNumber 41 = .ok (.invokevirtual 31, 3) := by decide +kernel
theorem dX6_takesNumber_44 : decode cX6_takesNumber 44 = .ok (.ireturn, 1) := by decide +kernel
theorem dX6_takesNumber_45 : decode cX6_takesNumber 45 = .ok (.aload_n 0, 1) := by decide +kernel
theorem dX6_takesNumber_46 : decode cX6_takesNumber 46 = .ok (.aload_n 0, 1) := by decide +kernel
theorem dX6_takesNumber_47 : decode cX6_takesNumber 47 = .ok (.getfield 9, 3) := by decide +kernel
theorem dX6_takesNumber_50 : decode cX6_takesNumber 50 = .ok (.getfield 41, 3) := by decide +kernel
theorem dX6_takesNumber_53 : decode cX6_takesNumber 53 = .ok (.putfield 44, 3) := by decide +kernel
theorem dX6_takesNumber_56 : decode cX6_takesNumber 56 = .ok (.aload_n 0, 1) := by decide +kernel
theorem dX6_takesNumber_57 : decode cX6_takesNumber 57 = .ok (.getfield 9, 3) := by decide +kernel
theorem dX6_takesNumber_60 : decode cX6_takesNumber 60 = .ok (.invokevirtual 35, 3) := by decide +kernel
theorem dX6_takesNumber_63 : decode cX6_takesNumber 63 = .ok (.iconst 1, 1) := by decide +kernel
theorem dX6_takesNumber_64 : decode cX6_takesNumber 64 = .ok (.ireturn, 1) := by decide +kernel
theorem dX6_seesName_0 : decode cX6_seesName 0 = .ok (.aload_n 0, 1) := by decide +kernel
theorem dX6_seesName_1 : decode cX6_seesName 1 = .ok (.getfield 9, 3) := by decide +kernel
theorem dX6_seesName_4 : decode cX6_seesName 4 = .ok (.getfield 38, 3) := by decide +kernel
theorem dX6_seesName_7 : decode cX6_seesName 7 = .ok (.iconst 1, 1) := by decide +kernel
theorem dX6_seesName_8 : decode cX6_seesName 8 = .ok (.if_icmp .ne 26, 3) := by decide +kernel
theorem dX6_seesName_11 : decode cX6_seesName 11 = .ok (.aload_n 0, 1) := by decide +kernel
theorem dX6_seesName_12 : decode cX6_seesName 12 = .ok (.getfield 9, 3) := by decide +kernel
theorem dX6_seesName_15 : decode cX6_seesName 15 = .ok (.getfield 27, 3) := by decide +kernel
theorem dX6_seesName_18 : decode cX6_seesName 18 = .ok (.ifnull 22, 3) := by decide +kernel
theorem dX6_seesName_21 : decode cX6_seesName 21 = .ok (.aload_n 0, 1) := by decide +kernel
theorem dX6_seesName_22 : decode cX6_seesName 22 = .ok (.getfield 9, 3) := by decide +kernel
theorem dX6_seesName_25 : decode cX6_seesName 25 = .ok (.getfield 27, 3) := by decide +kernel
theorem dX6_seesName_28 : decode cX6_seesName 28 = .ok (.invokevirtual 45, 3) := by decide +kernel
theorem dX6_seesName_31 : decode cX6_seesName 31 = .ok (.ifCond .ne 9, 3) := by decide +kernel
theorem dX6_seesName_34 : decode cX6_seesName 34 = .ok (.aload_n 0, 1) := by decide +kernel
theorem dX6_seesName_35 : decode cX6_seesName 35 = .ok (.iconst 1, 1) := by decide +kernel
theorem dX6_seesName_36 : decode cX6_seesName 36 = .ok (.invokevirtual 31, 3) := by decide +kernel
theorem dX6_seesName_39 : decode cX6_seesName 39 = .ok (.ireturn, 1) := by decide +kernel
theorem dX6_seesName_40 : decode cX6_seesName 40 = .ok (.iconst 1, 1) := by decide +kernel
theorem dX6_seesName_41 : decode cX6_seesName 41 = .ok (.ireturn, 1) := by decide +kernel
theorem dX7_init_0 : decode cX7_init 0 = .ok (.aload_n 0, 1) := by decide +kernel
theorem dX7_init_1 : decode cX7_init 1 = .ok (.invokespecial 3, 3) := by decide +kernel
theorem dX7_init_4 : decode cX7_init 4 = .ok (.aload_n 0, 1) := by decide +kernel
theorem dX7_init_5 : decode cX7_init 5 = .ok (.iconst 4, 1) := by decide +kernel
theorem dX7_init_6 : decode cX7_init 6 = .ok (.newarray .int, 2) := by decide +kernel
theorem dX7_init_8 : decode cX7_init 8 = .ok (.putfield 9, 3) := by decide +kernel
theorem dX7_init_11 : decode cX7_init 11 = .ok (.aload_n 0, 1) := by decide +kernel
theorem dX7_init_12 : decode cX7_init 12 = .ok (.iconst 4, 1) := by decide +kernel
theorem dX7_init_13 : decode cX7_init 13 = .ok (.newarray .int, 2) := by decide +kernel
theorem dX7_init_15 : decode cX7_init 15 = .ok (.putfield 15, 3) := by decide +kernel
theorem dX7_init_18 : decode cX7_init 18 = .ok (.aload_n 0, 1) := by decide +kernel
theorem dX7_init_19 : decode cX7_init 19 = .ok (.iconst 4, 1) := by decide +kernel
theorem dX7_init_20 : decode cX7_init 20 = .ok (.newarray .int, 2) := by decide +kernel
theorem dX7_init_22 : decode cX7_init 22 = .ok (.putfield 18, 3) := by decide +kernel
theorem dX7_init_25 : decode cX7_init 25 = .ok (.aload_n 0, 1) := by decide +kernel
theorem dX7_init_26 : decode cX7_init 26 = .ok (.bipush 8, 2) := by decide +kernel
theorem dX7_init_28 : decode cX7_init 28 = .ok (.newarray .int, 2) := by decide +kernel
theorem dX7_init_30 : decode cX7_init 30 = .ok (.putfield 21, 3) := by decide +kernel
theorem dX7_init_33 : decode cX7_init 33 = .ok (.aload_n 0, 1) := by decide +kernel
theorem dX7_init_34 : decode cX7_init 34 = .ok (.bipush 7, 2) := by decide +kernel
theorem dX7_init_36 : decode cX7_init 36 = .ok (.newarray .int, 2) := by decide +kernel
theorem dX7_init_38 : decode cX7_init 38 = .ok (.putfield 24, 3) := by decide +kernel
theorem dX7_init_41 : decode cX7_init 41 = .ok (.return_, 1) := by decide +kernel
theorem dX7_begin_0 : decode cX7_begin 0 = .ok (.aload_n 0, 1) := by decide +kernel
theorem dX7_begin_1 : decode cX7_begin 1 = .ok (.iconst 0, 1) := by decide +kernel
theorem dX7_begin_2 : decode cX7_begin 2 = .ok (.putfield 27, 3) := by decide +kernel
theorem dX7_begin_5 : decode cX7_begin 5 = .ok (.aload_n 0, 1) := by decide +kernel
theorem dX7_begin_6 : decode cX7_begin 6 = .ok (.iconst 0, 1) := by decide +kernel
theorem dX7_begin_7 : decode cX7_begin 7 = .ok (.putfield 31, 3) := by decide +kernel
theorem dX7_begin_10 : decode cX7_begin 10 = .ok (.aload_n 0, 1) := by decide +kernel
theorem dX7_begin_11 : decode cX7_begin 11 = .ok (.iconst 0, 1) := by decide +kernel
theorem dX7_begin_12 : decode cX7_begin 12 = .ok (.putfield 34, 3) := by decide +kernel
theorem dX7_begin_15 : decode cX7_begin 15 = .ok (.aload_n 0, 1) := by decide +kernel
theorem dX7_begin_16 : decode cX7_begin 16 = .ok (.iconst 0, 1) := by decide +kernel
theorem dX7_begin_17 : decode cX7_begin 17 = .ok (.putfield 37, 3) := by decide +kernel
theorem dX7_begin_20 : decode cX7_begin 20 = .ok (.iconst 0, 1) := by decide +kernel
theorem dX7_begin_21 : decode cX7_begin 21 = .ok (.istore_n 2, 1) := by decide +kernel
theorem dX7_begin_22 : decode cX7_begin 22 = .ok (.iload_n 2, 1) := by decide +kernel
theorem dX7_begin_23 : decode cX7_begin 23 = .ok (.iconst 4, 1) := by decide +kernel
theorem dX7_begin_24 : decode cX7_begin 24 = .ok (.if_icmp .ge 58, 3) := by decide +kernel
theorem dX7_begin_27 : decode cX7_begin 27 = .ok (.aload_n 0, 1) := by decide +kernel
theorem dX7_begin_28 : decode cX7_begin 28 = .ok (.getfield 9, 3) := by decide +kernel
theorem dX7_begin_31 : decode cX7_begin 31 = .ok (.iload_n 2, 1) := by decide +kernel
theorem dX7_begin_32 : decode cX7_begin 32 = .ok (.aload_n 1, 1) := by decide +kernel
theorem dX7_begin_33 : decode cX7_begin 33 = .ok (.getfield 40, 3) := by decide +kernel
theorem dX7_begin_36 : decode cX7_begin 36 = .ok (.ifCond .le 7, 3) := by decide +kernel
theorem dX7_begin_39 : decode cX7_begin 39 = .ok (.iconst 0, 1) := by decide +kernel
theorem dX7_begin_40 : decode cX7_begin 40 = .ok (.goto 4, 3) := by decide +kernel
theorem dX7_begin_43 : decode cX7_begin 43 = .ok (.iconst (-1), 1) := by decide +kernel
theorem dX7_begin_44 : decode cX7_begin 44 = .ok (.iastore, 1) := by decide +kernel
theorem dX7_begin_45 : decode cX7_begin 45 = .ok (.aload_n 0, 1) := by decide +kernel
theorem dX7_begin_46 : decode cX7_begin 46 = .ok (.getfield 15, 3) := by decide +kernel
theorem dX7_begin_49 : decode cX7_begin 49 = .ok (.iload_n 2, 1) := by decide +kernel
theorem dX7_begin_50 : decode cX7_begin 50 = .ok (.iload_n 2, 1) := by decide +kernel
theorem dX7_begin_51 : decode cX7_begin 51 = .ok (.aload_n 1, 1) := by decide +kernel
theorem dX7_begin_52 : decode cX7_begin 52 = .ok (.getfield 45, 3) := by decide +kernel
theorem dX7_begin_55 : decode cX7_begin 55 = .ok (.if_icmp .ge 12, 3) := by decide +kernel
theorem dX7_begin_58 : decode cX7_begin 58 = .ok (.aload_n 1, 1) := by decide +kernel
theorem dX7_begin_59 : decode cX7_begin 59 = .ok (.getfield 48, 3) := by decide +kernel
theorem dX7_begin_62 : decode cX7_begin 62 = .ok (.iload_n 2, 1) := by decide +kernel
theorem dX7_begin_63 : decode cX7_begin 63 = .ok (.iaload, 1) := by decide +kernel
theorem dX7_begin_64 : decode cX7_begin 64 = .ok (.goto 4, 3) := by decide +kernel
theorem dX7_begin_67 : decode cX7_begin 67 = .ok (.iconst 0, 1) := by decide +kernel
theorem dX7_begin_68 : decode cX7_begin 68 = .ok (.iastore, 1) := by decide +kernel
theorem dX7_begin_69 : decode cX7_begin 69 = .ok (.aload_n 0, 1) := by decide +kernel
theorem dX7_begin_70 : decode cX7_begin 70 = .ok (.getfield 18, 3) := by decide +kernel
theorem dX7_begin_73 : decode cX7_begin 73 = .ok (.iload_n 2, 1) := by decide +kernel
theorem dX7_begin_74 : decode cX7_begin 74 = .ok (.iconst 0, 1) := by decide +kernel
theorem dX7_begin_75 : decode cX7_begin 75 = .ok (.iastore, 1) := by decide +kernel
theorem dX7_begin_76 : decode cX7_begin 76 = .ok (.iinc 2 1, 3) := by decide +kernel
theorem dX7_begin_79 : decode cX7_begin 79 = .ok (.goto (-57), 3) := by decide +kernel
theorem dX7_begin_82 : decode cX7_begin 82 = .ok (.iconst 0, 1) := by decide +kernel
theorem dX7_begin_83 : decode cX7_begin 83 = .ok (.istore_n 2, 1) := by decide +kernel
theorem dX7_begin_84 : decode cX7_begin 84 = .ok (.iload_n 2, 1) := by decide +kernel
theorem dX7_begin_85 : decode cX7_begin 85 = .ok (.bipush 8, 2) := by decide +kernel
theorem dX7_begin_87 : decode cX7_begin 87 = .ok (.if_icmp .ge 16, 3) := by decide +kernel
theorem dX7_begin_90 : decode cX7_begin 90 = .ok (.aload_n 0, 1) := by decide +kernel
theorem dX7_begin_91 : decode cX7_begin 91 = .ok (.getfield 21, 3) := by decide +kernel
theorem dX7_begin_94 : decode cX7_begin 94 = .ok (.iload_n 2, 1) := by decide +kernel
theorem dX7_begin_95 : decode cX7_begin 95 = .ok (.iconst 0, 1) := by decide +kernel
theorem dX7_begin_96 : decode cX7_begin 96 = .ok (.iastore, 1) := by decide +kernel
theorem dX7_begin_97 : decode cX7_begin 97 = .ok (.iinc 2 1, 3) := by decide +kernel
theorem dX7_begin_100 : decode cX7_begin 100 = .ok (.goto (-16), 3) := by decide +kernel
theorem dX7_begin_103 : decode cX7_begin 103 = .ok (.iconst 0, 1) := by decide +kernel
theorem dX7_begin_104 : decode cX7_begin 104 = .ok (.istore_n 2, 1) := by decide +kernel
theorem dX7_begin_105 : decode cX7_begin 105 = .ok (.iload_n 2, 1) := by decide +kernel
theorem dX7_begin_106 : decode cX7_begin 106 = .ok (.bipush 7, 2) := by decide +kernel
theorem dX7_begin_108 : decode cX7_begin 108 = .ok (.if_icmp .ge 16, 3) := by decide +kernel
theorem dX7_begin_111 : decode cX7_begin 111 = .ok (.aload_n 0, 1) := by decide +kernel
theorem dX7_begin_112 : decode cX7_begin 112 = .ok (.getfield 24, 3) := by decide +kernel
theorem dX7_begin_115 : decode cX7_begin 115 = .ok (.iload_n 2, 1) := by decide +kernel
theorem dX7_begin_116 : decode cX7_begin 116 = .ok (.iconst 0, 1) := by decide +kernel
theorem dX7_begin_117 : decode cX7_begin 117 = .ok (.iastore, 1) := by decide +kernel
theorem dX7_begin_118 : decode cX7_begin 118 = .ok (.iinc 2 1, 3) := by decide +kernel
theorem dX7_begin_121 : decode cX7_begin 121 = .ok (.goto (-16), 3) := by decide +kernel
theorem dX7_begin_124 : decode cX7_begin 124 = .ok (.return_, 1) := by decide +kernel
theorem dX7_become_0 : decode cX7_become 0 = .ok (.aload_n 0, 1) := by decide +kernel
theorem dX7_become_1 : decode cX7_become 1 = .ok (.aload_n 1, 1) := by decide +kernel
theorem dX7_become_2 : decode cX7_become 2 = .ok (.getfield 27, 3) := by decide +kernel
theorem dX7_become_5 : decode cX7_become 5 = .ok (.putfield 27, 3) := by decide +kernel
theorem dX7_become_8 : decode cX7_become 8 = .ok (.aload_n 0, 1) := by decide +kernel
theorem dX7_become_9 : decode cX7_become 9 = .ok (.aload_n 1, 1) := by decide +kernel
theorem dX7_become_10 : decode cX7_become 10 = .ok (.getfield 31, 3) := by decide +kernel
theorem dX7_become_13 : decode cX7_become 13 = .ok (.putfield 31, 3) := by decide +kernel
theorem dX7_become_16 : decode cX7_become 16 = .ok (.aload_n 0, 1) := by decide +kernel
theorem dX7_become_17 : decode cX7_become 17 = .ok (.aload_n 1, 1) := by decide +kernel
theorem dX7_become_18 : decode cX7_become 18 = .ok (.getfield 34, 3) := by decide +kernel
theorem dX7_become_21 : decode cX7_become 21 = .ok (.putfield 34, 3) := by decide +kernel
theorem dX7_become_24 : decode cX7_become 24 = .ok (.aload_n 0, 1) := by decide +kernel
theorem dX7_become_25 : decode cX7_become 25 = .ok (.aload_n 1, 1) := by decide +kernel
theorem dX7_become_26 : decode cX7_become 26 = .ok (.getfield 37, 3) := by decide +kernel
theorem dX7_become_29 : decode cX7_become 29 = .ok (.putfield 37, 3) := by decide +kernel
theorem dX7_become_32 : decode cX7_become 32 = .ok (.aload_n 1, 1) := by decide +kernel
theorem dX7_become_33 : decode cX7_become 33 = .ok (.getfield 9, 3) := by decide +kernel
theorem dX7_become_36 : decode cX7_become 36 = .ok (.iconst 0, 1) := by decide +kernel
theorem dX7_become_37 : decode cX7_become 37 = .ok (.aload_n 0, 1) := by decide +kernel
theorem dX7_become_38 : decode cX7_become 38 = .ok (.getfield 9, 3) := by decide +kernel
theorem dX7_become_41 : decode cX7_become 41 = .ok (.iconst 0, 1) := by decide +kernel
theorem dX7_become_42 : decode cX7_become 42 = .ok (.iconst 4, 1) := by decide +kernel
theorem dX7_become_43 : decode cX7_become 43 = .ok (.invokestatic 51, 3) := by decide +kernel
theorem dX7_become_46 : decode cX7_become 46 = .ok (.aload_n 1, 1) := by decide +kernel
theorem dX7_become_47 : decode cX7_become 47 = .ok (.getfield 15, 3) := by decide +kernel
theorem dX7_become_50 : decode cX7_become 50 = .ok (.iconst 0, 1) := by decide +kernel
theorem dX7_become_51 : decode cX7_become 51 = .ok (.aload_n 0, 1) := by decide +kernel
theorem dX7_become_52 : decode cX7_become 52 = .ok (.getfield 15, 3) := by decide +kernel
theorem dX7_become_55 : decode cX7_become 55 = .ok (.iconst 0, 1) := by decide +kernel
theorem dX7_become_56 : decode cX7_become 56 = .ok (.iconst 4, 1) := by decide +kernel
theorem dX7_become_57 : decode cX7_become 57 = .ok (.invokestatic 51, 3) := by decide +kernel
theorem dX7_become_60 : decode cX7_become 60 = .ok (.aload_n 1, 1) := by decide +kernel
theorem dX7_become_61 : decode cX7_become 61 = .ok (.getfield 18, 3) := by decide +kernel
theorem dX7_become_64 : decode cX7_become 64 = .ok (.iconst 0, 1) := by decide +kernel
theorem dX7_become_65 : decode cX7_become 65 = .ok (.aload_n 0, 1) := by decide +kernel
theorem dX7_become_66 : decode cX7_become 66 = .ok (.getfield 18, 3) := by decide +kernel
theorem dX7_become_69 : decode cX7_become 69 = .ok (.iconst 0, 1) := by decide +kernel
theorem dX7_become_70 : decode cX7_become 70 = .ok (.iconst 4, 1) := by decide +kernel
theorem dX7_become_71 : decode cX7_become 71 = .ok (.invokestatic 51, 3) := by decide +kernel
theorem dX7_become_74 : decode cX7_become 74 = .ok (.aload_n 1, 1) := by decide +kernel
theorem dX7_become_75 : decode cX7_become 75 = .ok (.getfield 21, 3) := by decide +kernel
theorem dX7_become_78 : decode cX7_become 78 = .ok (.iconst 0, 1) := by decide +kernel
theorem dX7_become_79 : decode cX7_become 79 = .ok (.aload_n 0, 1) := by decide +kernel
theorem dX7_become_80 : decode cX7_become 80 = .ok (.getfield 21, 3) := by decide +kernel
theorem dX7_become_83 : decode cX7_become 83 = .ok (.iconst 0, 1) := by decide +kernel
theorem dX7_become_84 : decode cX7_become 84 = .ok (.bipush 8, 2) := by decide +kernel
theorem dX7_become_86 : decode cX7_become 86 = .ok (.invokestatic 51, 3) := by decide +kernel
theorem dX7_become_89 : decode cX7_become 89 = .ok (.aload_n 1, 1) := by decide +kernel
theorem dX7_become_90 : decode cX7_become 90 = .ok (.getfield 24, 3) := by decide +kernel
theorem dX7_become_93 : decode cX7_become 93 = .ok (.iconst 0, 1) := by decide +kernel
theorem dX7_become_94 : decode cX7_become 94 = .ok (.aload_n 0, 1) := by decide +kernel
theorem dX7_become_95 : decode cX7_become 95 = .ok (.getfield 24, 3) := by decide +kernel
theorem dX7_become_98 : decode cX7_become 98 = .ok (.iconst 0, 1) := by decide +kernel
theorem dX7_become_99 : decode cX7_become 99 = .ok (.bipush 7, 2) := by decide +kernel
theorem dX7_become_101 : decode cX7_become 101 = .ok (.invokestatic 51, 3) := by decide +kernel
theorem dX7_become_104 : decode cX7_become 104 = .ok (.return_, 1) := by decide +kernel
theorem dX7_isDrowned_0 : decode cX7_isDrowned 0 = .ok (.aload_n 0, 1) := by decide +kernel
theorem dX7_isDrowned_1 : decode cX7_isDrowned 1 = .ok (.getfield 34, 3) := by decide +kernel
theorem dX7_isDrowned_4 : decode cX7_isDrowned 4 = .ok (.iload_n 1, 1) := by decide +kernel
theorem dX7_isDrowned_5 : decode cX7_isDrowned 5 = .ok (.invokestatic 57, 3) := by decide +kernel
theorem dX7_isDrowned_8 : decode cX7_isDrowned 8 = .ok (.ireturn, 1) := by decide +kernel
theorem dX7_hasThread_0 : decode cX7_hasThread 0 = .ok (.aload_n 0, 1) := by decide +kernel
theorem dX7_hasThread_1 : decode cX7_hasThread 1 = .ok (.getfield 37, 3) := by decide +kernel
theorem dX7_hasThread_4 : decode cX7_hasThread 4 = .ok (.iload_n 1, 1) := by decide +kernel
theorem dX7_hasThread_5 : decode cX7_hasThread 5 = .ok (.invokestatic 57, 3) := by decide +kernel
theorem dX7_hasThread_8 : decode cX7_hasThread 8 = .ok (.ireturn, 1) := by decide +kernel
theorem dX7_isBlind_0 : decode cX7_isBlind 0 = .ok (.aload_n 0, 1) := by decide +kernel
theorem dX7_isBlind_1 : decode cX7_isBlind 1 = .ok (.getfield 21, 3) := by decide +kernel
theorem dX7_isBlind_4 : decode cX7_isBlind 4 = .ok (.iload_n 2, 1) := by decide +kernel
theorem dX7_isBlind_5 : decode cX7_isBlind 5 = .ok (.iaload, 1) := by decide +kernel
theorem dX7_isBlind_6 : decode cX7_isBlind 6 = .ok (.aload_n 1, 1) := by decide +kernel
theorem dX7_isBlind_7 : decode cX7_isBlind 7 = .ok (.aload_n 0, 1) := by decide +kernel
theorem dX7_isBlind_8 : decode cX7_isBlind 8 = .ok (.getfield 27, 3) := by decide +kernel
theorem dX7_isBlind_11 : decode cX7_isBlind 11 = .ok (.invokevirtual 61, 3) := by decide +kernel
theorem dX7_isBlind_14 : decode cX7_isBlind 14 = .ok (.iadd, 1) := by decide +kernel
theorem dX7_isBlind_15 : decode cX7_isBlind 15 = .ok (.bipush 6, 2) := by decide +kernel
theorem dX7_isBlind_17 : decode cX7_isBlind 17 = .ok (.if_icmp .lt 7, 3) := by decide +kernel
theorem dX7_isBlind_20 : decode cX7_isBlind 20 = .ok (.iconst 1, 1) := by decide +kernel
theorem dX7_isBlind_21 : decode cX7_isBlind 21 = .ok (.goto 4, 3) := by decide +kernel
theorem dX7_isBlind_24 : decode cX7_isBlind 24 = .ok (.iconst 0, 1) := by decide +kernel
theorem dX7_isBlind_25 : decode cX7_isBlind 25 = .ok (.ireturn, 1) := by decide +kernel
theorem dX7_isOpen_0 : decode cX7_isOpen 0 = .ok (.aload_n 0, 1) := by decide +kernel
theorem dX7_isOpen_1 : decode cX7_isOpen 1 = .ok (.iload_n 2, 1) := by decide +kernel
theorem dX7_isOpen_2 : decode cX7_isOpen 2 = .ok (.invokevirtual 65, 3) := by decide +kernel
theorem dX7_isOpen_5 : decode cX7_isOpen 5 = .ok (.ifCond .ne 12, 3) := by decide +kernel
theorem dX7_isOpen_8 : decode cX7_isOpen 8 = .ok (.aload_n 0, 1) := by decide +kernel
theorem dX7_isOpen_9 : decode cX7_isOpen 9 = .ok (.aload_n 1, 1) := by decide +kernel
theorem dX7_isOpen_10 : decode cX7_isOpen 10 = .ok (.iload_n 2, 1) := by decide +kernel
theorem dX7_isOpen_11 : decode cX7_isOpen 11 = .ok (.invokevirtual 69, 3) := by decide +kernel
theorem dX7_isOpen_14 : decode cX7_isOpen 14 = .ok (.ifCond .ne 7, 3) := by decide +kernel
theorem dX7_isOpen_17 : decode cX7_isOpen 17 = .ok (.iconst 1, 1) := by decide +kernel
theorem dX7_isOpen_18 : decode cX7_isOpen 18 = .ok (.goto 4, 3) := by decide +kernel
theorem dX7_isOpen_21 : decode cX7_isOpen 21 = .ok (.iconst 0, 1) := by decide +kernel
theorem dX7_isOpen_22 : decode cX7_isOpen 22 = .ok (.ireturn, 1) := by decide +kernel
theorem dX7_isUnderWater_0 : decode cX7_isUnderWater 0 = .ok (.aload_n 0, 1) := by decide +kernel
theorem dX7_isUnderWater_1 : decode cX7_isUnderWater 1 = .ok (.getfield 9, 3) := by decide +kernel
theorem dX7_isUnderWater_4 : decode cX7_isUnderWater 4 = .ok (.iload_n 2, 1) := by decide +kernel
theorem dX7_isUnderWater_5 : decode cX7_isUnderWater 5 = .ok (.iaload, 1) := by decide +kernel
theorem dX7_isUnderWater_6 : decode cX7_isUnderWater 6 = .ok (.ifCond .eq 20, 3) := by decide +kernel
theorem dX7_isUnderWater_9 : decode cX7_isUnderWater 9 = .ok (.aload_n 1, 1) := by decide +kernel
theorem dX7_isUnderWater_10 : decode cX7_isUnderWater 10 = .ok (.aload_n 0, 1) := by decide +kernel
theorem dX7_isUnderWater_11 : decode cX7_isUnderWater 11 = .ok (.getfield 9, 3) := by decide +kernel
theorem dX7_isUnderWater_14 : decode cX7_isUnderWater 14 = .ok (.iload_n 2, 1) := by decide +kernel
theorem dX7_isUnderWater_15 : decode cX7_isUnderWater 15 = .ok (.iaload, 1) := by decide +kernel
theorem dX7_isUnderWater_16 : decode cX7_isUnderWater 16 = .ok (.invokevirtual 73, 3) := by decide +kernel
theorem dX7_isUnderWater_19 : decode cX7_isUnderWater 19 = .ok (.ifCond .eq 7, 3) := by decide +kernel
theorem dX7_isUnderWater_22 : decode cX7_isUnderWater 22 = .ok (.iconst 1, 1) := by decide +kernel
theorem dX7_isUnderWater_23 : decode cX7_isUnderWater 23 = .ok (.goto 4, 3) := by decide +kernel
theorem dX7_isUnderWater_26 : decode cX7_isUnderWater 26 = .ok (.iconst 0, 1) := by decide +kernel
theorem dX7_isUnderWater_27 : decode cX7_isUnderWater 27 = .ok (.ireturn, 1) := by decide +kernel
theorem dX7_openWays_0 : decode cX7_openWays 0 = .ok (.iconst 0, 1) := by decide +kernel
theorem dX7_openWays_1 : decode cX7_openWays 1 = .ok (.istore_n 2, 1) := by decide +kernel
theorem dX7_openWays_2 : decode cX7_openWays 2 = .ok (.iconst 0, 1) := by decide +kernel
theorem dX7_openWays_3 : decode cX7_openWays 3 = .ok (.istore_n 3, 1) := by decide +kernel
theorem dX7_openWays_4 : decode cX7_openWays 4 = .ok (.iload_n 3, 1) := by decide +kernel
theorem dX7_openWays_5 : decode cX7_openWays 5 = .ok (.aload_n 1, 1) := by decide +kernel
theorem dX7_openWays_6 : decode cX7_openWays 6 = .ok (.getfield 76, 3) := by decide +kernel
theorem dX7_openWays_9 : decode cX7_openWays 9 = .ok (.if_icmp .ge 24, 3) := by decide +kernel
theorem dX7_openWays_12 : decode cX7_openWays 12 = .ok (.aload_n 0, 1) := by decide +kernel
theorem dX7_openWays_13 : decode cX7_openWays 13 = .ok (.aload_n 1, 1) := by decide +kernel
theorem dX7_openWays_14 : decode cX7_openWays 14 = .ok (.iload_n 3, 1) := by decide +kernel
theorem dX7_openWays_15 : decode cX7_openWays 15 = .ok (.invokevirtual 79, 3) := by decide +kernel
theorem dX7_openWays_18 : decode cX7_openWays 18 = .ok (.ifCond .eq 9, 3) := by decide +kernel
theorem dX7_openWays_21 : decode cX7_openWays 21 = .ok (.iload_n 2, 1) := by decide +kernel
theorem dX7_openWays_22 : decode cX7_openWays 22 = .ok (.iconst 1, 1) := by decide +kernel
theorem dX7_openWays_23 : decode cX7_openWays 23 = .ok (.iload_n 3, 1) := by decide +kernel
theorem dX7_openWays_24 : decode cX7_openWays 24 = .ok (.ishl, 1) := by decide +kernel
theorem dX7_openWays_25 : decode cX7_openWays 25 = .ok (.ior, 1) := by decide +kernel
theorem dX7_openWays_26 : decode cX7_openWays 26 = .ok (.istore_n 2, 1) := by decide +kernel
theorem dX7_openWays_27 : decode cX7_openWays 27 = .ok (.iinc 3 1, 3) := by decide +kernel
theorem dX7_openWays_30 : decode cX7_openWays 30 = .ok (.goto (-26), 3) := by decide +kernel
theorem dX7_openWays_33 : decode cX7_openWays 33 = .ok (.iload_n 2, 1) := by decide +kernel
theorem dX7_openWays_34 : decode cX7_openWays 34 = .ok (.ireturn, 1) := by decide +kernel
theorem dX7_diversAt_0 : decode cX7_diversAt 0 = .ok (.iconst 0, 1) := by decide +kernel
theorem dX7_diversAt_1 : decode cX7_diversAt 1 = .ok (.istore_n 3, 1) := by decide +kernel
theorem dX7_diversAt_2 : decode cX7_diversAt 2 = .ok (.iconst 0, 1) := by decide +kernel
theorem dX7_diversAt_3 : decode cX7_diversAt 3 = .ok (.istore 4, 2) := by decide +kernel
theorem dX7_diversAt_5 : decode cX7_diversAt 5 = .ok (.iload 4, 2) := by decide +kernel
theorem dX7_diversAt_7 : decode cX7_diversAt 7 = .ok (.aload_n 1, 1) := by decide +kernel
theorem dX7_diversAt_8 : decode cX7_diversAt 8 = .ok (.getfield 45, 3) := by decide +kernel
theorem dX7_diversAt_11 : decode cX7_diversAt 11 = .ok (.if_icmp .ge 27, 3) := by decide +kernel
theorem dX7_diversAt_14 : decode cX7_diversAt 14 = .ok (.aload_n 0, 1) := by decide +kernel
theorem dX7_diversAt_15 : decode cX7_diversAt 15 = .ok (.getfield 9, 3) := by decide +kernel
theorem dX7_diversAt_18 : decode cX7_diversAt 18 = .ok (.iload 4, 2) := by decide +kernel
theorem dX7_diversAt_20 : decode cX7_diversAt 20 = .ok (.iaload, 1) := by decide +kernel
theorem dX7_diversAt_21 : decode cX7_diversAt 21 = .ok (.iload_n 2, 1) := by decide +kernel
theorem dX7_diversAt_22 : decode cX7_diversAt 22 = .ok (.if_icmp .ne 10, 3) := by decide +kernel
theorem dX7_diversAt_25 : decode cX7_diversAt 25 = .ok (.iload_n 3, 1) := by decide +kernel
theorem dX7_diversAt_26 : decode cX7_diversAt 26 = .ok (.iconst 1, 1) := by decide +kernel
theorem dX7_diversAt_27 : decode cX7_diversAt 27 = .ok (.iload 4, 2) := by decide +kernel
theorem dX7_diversAt_29 : decode cX7_diversAt 29 = .ok (.ishl, 1) := by decide +kernel
theorem dX7_diversAt_30 : decode cX7_diversAt 30 = .ok (.ior, 1) := by decide +kernel
theorem dX7_diversAt_31 : decode cX7_diversAt 31 = .ok (.istore_n 3, 1) := by decide +kernel
theorem dX7_diversAt_32 : decode cX7_diversAt 32 = .ok (.iinc 4 1, 3) := by decide +kernel
theorem dX7_diversAt_35 : decode cX7_diversAt 35 = .ok (.goto (-30), 3) := by decide +kernel
theorem dX7_diversAt_38 : decode cX7_diversAt 38 = .ok (.iload_n 3, 1) := by decide +kernel
theorem dX7_diversAt_39 : decode cX7_diversAt 39 = .ok (.ireturn, 1) := by decide +kernel
theorem dX7_price_0 : decode cX7_price 0 = .ok (.aload_n 1, 1) := by decide +kernel
theorem dX7_price_1 : decode cX7_price 1 = .ok (.getfield 82, 3) := by decide +kernel
theorem dX7_price_4 : decode cX7_price 4 = .ok (.iload_n 3, 1) := by decide +kernel
theorem dX7_price_5 : decode cX7_price 5 = .ok (.iaload, 1) := by decide +kernel
theorem dX7_price_6 : decode cX7_price 6 = .ok (.aload_n 1, 1) := by decide +kernel
theorem dX7_price_7 : decode cX7_price 7 = .ok (.iload_n 2, 1) := by decide +kernel
theorem dX7_price_8 : decode cX7_price 8 = .ok (.aload_n 1, 1) := by decide +kernel
theorem dX7_price_9 : decode cX7_price 9 = .ok (.iload_n 3, 1) := by decide +kernel
theorem dX7_price_10 : decode cX7_price 10 = .ok (.invokevirtual 85, 3) := by decide +kernel
theorem dX7_price_13 : decode cX7_price 13 = .ok (.aload_n 1, 1) := by decide +kernel
theorem dX7_price_14 : decode cX7_price 14 = .ok (.aload_n 0, 1) := by decide +kernel
theorem dX7_price_15 : decode cX7_price 15 = .ok (.getfield 27, 3) := by decide +kernel
theorem dX7_price_18 : decode cX7_price 18 = .ok (.invokevirtual 61, 3) := by decide +kernel
theorem dX7_price_21 : decode cX7_price 21 = .ok (.aload_n 0, 1) := by decide +kernel
theorem dX7_price_22 : decode cX7_price 22 = .ok (.getfield 21, 3) := by decide +kernel
theorem dX7_price_25 : decode cX7_price 25 = .ok (.iload_n 3, 1) := by decide +kernel
theorem dX7_price_26 : decode cX7_price 26 = .ok (.iaload, 1) := by decide +kernel
theorem dX7_price_27 : decode cX7_price 27 = .ok (.iload 4, 2) := by decide +kernel
theorem dX7_price_29 : decode cX7_price 29 = .ok (.invokevirtual 88, 3) := by decide +kernel
theorem dX7_price_32 : decode cX7_price 32 = .ok (.imul, 1) := by decide +kernel
