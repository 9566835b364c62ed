theorem dX11_readWay_199 : decode cX11_readWay 199 = .ok (.iconst 3, 1) := by decide +kernel
theorem dX11_readWay_200 : decode cX11_readWay 200 = .ok (.iadd, 1) := by decide +kernel
theorem dX11_readWay_201 : decode cX11_readWay 201 = .ok (.iconst 1, 1) := by decide +kernel
theorem dX11_readWay_202 : decode cX11_readWay 202 = .ok (.iload 5, 2) := by decide +kernel
theorem dX11_readWay_204 : decode cX11_readWay 204 = .ok (.isub, 1) := by decide +kernel
theorem dX11_readWay_205 : decode cX11_readWay 205 = .ok (.iastore, 1) := by decide +kernel
theorem dX11_readWay_206 : decode cX11_readWay 206 = .ok (.aload_n 0, 1) := by decide +kernel
theorem dX11_readWay_207 : decode cX11_readWay 207 = .ok (.getfield 93, 3) := by decide +kernel
theorem dX11_readWay_210 : decode cX11_readWay 210 = .ok (.bipush 71, 2) := by decide +kernel
theorem dX11_readWay_212 : decode cX11_readWay 212 = .ok (.dup2, 1) := by decide +kernel
theorem dX11_readWay_213 : decode cX11_readWay 213 = .ok (.iaload, 1) := by decide +kernel
theorem dX11_readWay_214 : decode cX11_readWay 214 = .ok (.iconst 1, 1) := by decide +kernel
theorem dX11_readWay_215 : decode cX11_readWay 215 = .ok (.iadd, 1) := by decide +kernel
theorem dX11_readWay_216 : decode cX11_readWay 216 = .ok (.iastore, 1) := by decide +kernel
theorem dX11_readWay_217 : decode cX11_readWay 217 = .ok (.return_, 1) := by decide +kernel
theorem dX11_readOnce_0 : decode cX11_readOnce 0 = .ok (.aload_n 0, 1) := by decide +kernel
theorem dX11_readOnce_1 : decode cX11_readOnce 1 = .ok (.bipush 6, 2) := by decide +kernel
theorem dX11_readOnce_3 : decode cX11_readOnce 3 = .ok (.iconst 2, 1) := by decide +kernel
theorem dX11_readOnce_4 : decode cX11_readOnce 4 = .ok (.invokevirtual 188, 3) := by decide +kernel
theorem dX11_readOnce_7 : decode cX11_readOnce 7 = .ok (.istore_n 1, 1) := by decide +kernel
theorem dX11_readOnce_8 : decode cX11_readOnce 8 = .ok (.iload_n 1, 1) := by decide +kernel
theorem dX11_readOnce_9 : decode cX11_readOnce 9 = .ok (.ifCond .ge 11, 3) := by decide +kernel
theorem dX11_readOnce_12 : decode cX11_readOnce 12 = .ok (.aload_n 0, 1) := by decide +kernel
theorem dX11_readOnce_13 : decode cX11_readOnce 13 = .ok (.iconst 1, 1) := by decide +kernel
theorem dX11_readOnce_14 : decode cX11_readOnce 14 = .ok (.invokevirtual 172, 3) := by decide +kernel
theorem dX11_readOnce_17 : decode cX11_readOnce 17 = .ok (.goto 20, 3) := by decide +kernel
theorem dX11_readOnce_20 : decode cX11_readOnce 20 = .ok (.aload_n 0, 1) := by decide +kernel
theorem dX11_readOnce_21 : decode cX11_readOnce 21 = .ok (.getfield 215, 3) := by decide +kernel
theorem dX11_readOnce_24 : decode cX11_readOnce 24 = .ok (.iload_n 1, 1) := by decide +kernel
theorem dX11_readOnce_25 : decode cX11_readOnce 25 = .ok (.ishr, 1) := by decide +kernel
theorem dX11_readOnce_26 : decode cX11_readOnce 26 = .ok (.iconst 1, 1) := by decide +kernel
theorem dX11_readOnce_27 : decode cX11_readOnce 27 = .ok (.iand, 1) := by decide +kernel
theorem dX11_readOnce_28 : decode cX11_readOnce 28 = .ok (.iconst 1, 1) := by decide +kernel
theorem dX11_readOnce_29 : decode cX11_readOnce 29 = .ok (.if_icmp .ne 8, 3) := by decide +kernel
theorem dX11_readOnce_32 : decode cX11_readOnce 32 = .ok (.aload_n 0, 1) := by decide +kernel
theorem dX11_readOnce_33 : decode cX11_readOnce 33 = .ok (.iconst 3, 1) := by decide +kernel
theorem dX11_readOnce_34 : decode cX11_readOnce 34 = .ok (.invokevirtual 172, 3) := by decide +kernel
theorem dX11_readOnce_37 : decode cX11_readOnce 37 = .ok (.aload_n 0, 1) := by decide +kernel
theorem dX11_readOnce_38 : decode cX11_readOnce 38 = .ok (.getfield 166, 3) := by decide +kernel
theorem dX11_readOnce_41 : decode cX11_readOnce 41 = .ok (.ifCond .le 4, 3) := by decide +kernel
theorem dX11_readOnce_44 : decode cX11_readOnce 44 = .ok (.return_, 1) := by decide +kernel
theorem dX11_readOnce_45 : decode cX11_readOnce 45 = .ok (.aload_n 0, 1) := by decide +kernel
theorem dX11_readOnce_46 : decode cX11_readOnce 46 = .ok (.dup, 1) := by decide +kernel
theorem dX11_readOnce_47 : decode cX11_readOnce 47 = .ok (.getfield 215, 3) := by decide +kernel
theorem dX11_readOnce_50 : decode cX11_readOnce 50 = .ok (.iconst 1, 1) := by decide +kernel
theorem dX11_readOnce_51 : decode cX11_readOnce 51 = .ok (.iload_n 1, 1) := by decide +kernel
theorem dX11_readOnce_52 : decode cX11_readOnce 52 = .ok (.ishl, 1) := by decide +kernel
theorem dX11_readOnce_53 : decode cX11_readOnce 53 = .ok (.ior, 1) := by decide +kernel
theorem dX11_readOnce_54 : decode cX11_readOnce 54 = .ok (.putfield 215, 3) := by decide +kernel
theorem dX11_readOnce_57 : decode cX11_readOnce 57 = .ok (.aload_n 0, 1) := by decide +kernel
theorem dX11_readOnce_58 : decode cX11_readOnce 58 = .ok (.dup, 1) := by decide +kernel
theorem dX11_readOnce_59 : decode cX11_readOnce 59 = .ok (.getfield 163, 3) := by decide +kernel
theorem dX11_readOnce_62 : decode cX11_readOnce 62 = .ok (.iconst 1, 1) := by decide +kernel
theorem dX11_readOnce_63 : decode cX11_readOnce 63 = .ok (.iadd, 1) := by decide +kernel
theorem dX11_readOnce_64 : decode cX11_readOnce 64 = .ok (.putfield 163, 3) := by decide +kernel
theorem dX11_readOnce_67 : decode cX11_readOnce 67 = .ok (.iload_n 1, 1) := by decide +kernel
theorem dX11_readOnce_68 : decode cX11_readOnce 68 = .ok (.ifCond .ne 10, 3) := by decide +kernel
theorem dX11_readOnce_71 : decode cX11_readOnce 71 = .ok (.aload_n 0, 1) := by decide +kernel
theorem dX11_readOnce_72 : decode cX11_readOnce 72 = .ok (.invokevirtual 245, 3) := by decide +kernel
theorem dX11_readOnce_75 : decode cX11_readOnce 75 = .ok (.goto 25, 3) := by decide +kernel
theorem dX11_readOnce_78 : decode cX11_readOnce 78 = .ok (.aload_n 0, 1) := by decide +kernel
theorem dX11_readOnce_79 : decode cX11_readOnce 79 = .ok (.getfield 93, 3) := by decide +kernel
theorem dX11_readOnce_82 : decode cX11_readOnce 82 = .ok (.bipush 74, 2) := by decide +kernel
theorem dX11_readOnce_84 : decode cX11_readOnce 84 = .ok (.aload_n 0, 1) := by decide +kernel
theorem dX11_readOnce_85 : decode cX11_readOnce 85 = .ok (.getfield 212, 3) := by decide +kernel
theorem dX11_readOnce_88 : decode cX11_readOnce 88 = .ok (.iastore, 1) := by decide +kernel
theorem dX11_readOnce_89 : decode cX11_readOnce 89 = .ok (.aload_n 0, 1) := by decide +kernel
theorem dX11_readOnce_90 : decode cX11_readOnce 90 = .ok (.iconst 0, 1) := by decide +kernel
theorem dX11_readOnce_91 : decode cX11_readOnce 91 = .ok (.invokevirtual 248, 3) := by decide +kernel
theorem dX11_readOnce_94 : decode cX11_readOnce 94 = .ok (.aload_n 0, 1) := by decide +kernel
theorem dX11_readOnce_95 : decode cX11_readOnce 95 = .ok (.iconst 0, 1) := by decide +kernel
theorem dX11_readOnce_96 : decode cX11_readOnce 96 = .ok (.iconst 0, 1) := by decide +kernel
theorem dX11_readOnce_97 : decode cX11_readOnce 97 = .ok (.invokevirtual 251, 3) := by decide +kernel
theorem dX11_readOnce_100 : decode cX11_readOnce 100 = .ok (.return_, 1) := by decide +kernel
theorem dX11_readRain_0 : decode cX11_readRain 0 = .ok (.iconst 0, 1) := by decide +kernel
theorem dX11_readRain_1 : decode cX11_readRain 1 = .ok (.istore_n 1, 1) := by decide +kernel
theorem dX11_readRain_2 : decode cX11_readRain 2 = .ok (.aload_n 0, 1) := by decide +kernel
theorem dX11_readRain_3 : decode cX11_readRain 3 = .ok (.getfield 166, 3) := by decide +kernel
theorem dX11_readRain_6 : decode cX11_readRain 6 = .ok (.ifCond .ne 82, 3) := by decide +kernel
theorem dX11_readRain_9 : decode cX11_readRain 9 = .ok (.iload_n 1, 1) := by decide +kernel
theorem dX11_readRain_10 : decode cX11_readRain 10 = .ok (.ifCond .eq 16, 3) := by decide +kernel
theorem dX11_readRain_13 : decode cX11_readRain 13 = .ok (.aload_n 0, 1) := by decide +kernel
theorem dX11_readRain_14 : decode cX11_readRain 14 = .ok (.getfield 24, 3) := by decide +kernel
theorem dX11_readRain_17 : decode cX11_readRain 17 = .ok (.aload_n 0, 1) := by decide +kernel
theorem dX11_readRain_18 : decode cX11_readRain 18 = .ok (.getfield 163, 3) := by decide +kernel
theorem dX11_readRain_21 : decode cX11_readRain 21 = .ok (.iaload, 1) := by decide +kernel
theorem dX11_readRain_22 : decode cX11_readRain 22 = .ok (.iconst 2, 1) := by decide +kernel
theorem dX11_readRain_23 : decode cX11_readRain 23 = .ok (.if_icmp .ne 65, 3) := by decide +kernel
theorem dX11_readRain_26 : decode cX11_readRain 26 = .ok (.aload_n 0, 1) := by decide +kernel
theorem dX11_readRain_27 : decode cX11_readRain 27 = .ok (.iconst 0, 1) := by decide +kernel
theorem dX11_readRain_28 : decode cX11_readRain 28 = .ok (.bipush 9, 2) := by decide +kernel
theorem dX11_readRain_30 : decode cX11_readRain 30 = .ok (.invokevirtual 184, 3) := by decide +kernel
theorem dX11_readRain_33 : decode cX11_readRain 33 = .ok (.istore_n 2, 1) := by decide +kernel
theorem dX11_readRain_34 : decode cX11_readRain 34 = .ok (.aload_n 0, 1) := by decide +kernel
theorem dX11_readRain_35 : decode cX11_readRain 35 = .ok (.getfield 166, 3) := by decide +kernel
theorem dX11_readRain_38 : decode cX11_readRain 38 = .ok (.ifCond .ne 27, 3) := by decide +kernel
theorem dX11_readRain_41 : decode cX11_readRain 41 = .ok (.iload_n 1, 1) := by decide +kernel
theorem dX11_readRain_42 : decode cX11_readRain 42 = .ok (.bipush 12, 2) := by decide +kernel
theorem dX11_readRain_44 : decode cX11_readRain 44 = .ok (.if_icmp .ne 21, 3) := by decide +kernel
theorem dX11_readRain_47 : decode cX11_readRain 47 = .ok (.aload_n 0, 1) := by decide +kernel
theorem dX11_readRain_48 : decode cX11_readRain 48 = .ok (.dup, 1) := by decide +kernel
theorem dX11_readRain_49 : decode cX11_readRain 49 = .ok (.getfield 163, 3) := by decide +kernel
theorem dX11_readRain_52 : decode cX11_readRain 52 = .ok (.iconst 1, 1) := by decide +kernel
theorem dX11_readRain_53 : decode cX11_readRain 53 = .ok (.isub, 1) := by decide +kernel
theorem dX11_readRain_54 : decode cX11_readRain 54 = .ok (.putfield 163, 3) := by decide +kernel
theorem dX11_readRain_57 : decode cX11_readRain 57 = .ok (.aload_n 0, 1) := by decide +kernel
theorem dX11_readRain_58 : decode cX11_readRain 58 = .ok (.iconst 5, 1) := by decide +kernel
theorem dX11_readRain_59 : decode cX11_readRain 59 = .ok (.invokevirtual 172, 3) := by decide +kernel
theorem dX11_readRain_62 : decode cX11_readRain 62 = .ok (.goto 23, 3) := by decide +kernel
theorem dX11_readRain_65 : decode cX11_readRain 65 = .ok (.aload_n 0, 1) := by decide +kernel
theorem dX11_readRain_66 : decode cX11_readRain 66 = .ok (.getfield 166, 3) := by decide +kernel
theorem dX11_readRain_69 : decode cX11_readRain 69 = .ok (.ifCond .ne 16, 3) := by decide +kernel
theorem dX11_readRain_72 : decode cX11_readRain 72 = .ok (.aload_n 0, 1) := by decide +kernel
theorem dX11_readRain_73 : decode cX11_readRain 73 = .ok (.getfield 93, 3) := by decide +kernel
theorem dX11_readRain_76 : decode cX11_readRain 76 = .ok (.bipush 122, 2) := by decide +kernel
theorem dX11_readRain_78 : decode cX11_readRain 78 = .ok (.iload_n 1, 1) := by decide +kernel
theorem dX11_readRain_79 : decode cX11_readRain 79 = .ok (.iadd, 1) := by decide +kernel
theorem dX11_readRain_80 : decode cX11_readRain 80 = .ok (.iload_n 2, 1) := by decide +kernel
theorem dX11_readRain_81 : decode cX11_readRain 81 = .ok (.iastore, 1) := by decide +kernel
theorem dX11_readRain_82 : decode cX11_readRain 82 = .ok (.iinc 1 1, 3) := by decide +kernel
theorem dX11_readRain_85 : decode cX11_readRain 85 = .ok (.goto (-83), 3) := by decide +kernel
theorem dX11_readRain_88 : decode cX11_readRain 88 = .ok (.aload_n 0, 1) := by decide +kernel
theorem dX11_readRain_89 : decode cX11_readRain 89 = .ok (.getfield 93, 3) := by decide +kernel
theorem dX11_readRain_92 : decode cX11_readRain 92 = .ok (.bipush 73, 2) := by decide +kernel
theorem dX11_readRain_94 : decode cX11_readRain 94 = .ok (.iload_n 1, 1) := by decide +kernel
theorem dX11_readRain_95 : decode cX11_readRain 95 = .ok (.iastore, 1) := by decide +kernel
theorem dX11_readRain_96 : decode cX11_readRain 96 = .ok (.return_, 1) := by decide +kernel
theorem dX11_dive_0 : decode cX11_dive 0 = .ok (.aload_n 0, 1) := by decide +kernel
theorem dX11_dive_1 : decode cX11_dive 1 = .ok (.iconst 0, 1) := by decide +kernel
theorem dX11_dive_2 : decode cX11_dive 2 = .ok (.putfield 1, 3) := by decide +kernel
theorem dX11_dive_5 : decode cX11_dive 5 = .ok (.aload_n 0, 1) := by decide +kernel
theorem dX11_dive_6 : decode cX11_dive 6 = .ok (.invokevirtual 209, 3) := by decide +kernel
theorem dX11_dive_9 : decode cX11_dive 9 = .ok (.iconst 0, 1) := by decide +kernel
theorem dX11_dive_10 : decode cX11_dive 10 = .ok (.istore_n 1, 1) := by decide +kernel
theorem dX11_dive_11 : decode cX11_dive 11 = .ok (.aload_n 0, 1) := by decide +kernel
theorem dX11_dive_12 : decode cX11_dive 12 = .ok (.getfield 166, 3) := by decide +kernel
theorem dX11_dive_15 : decode cX11_dive 15 = .ok (.ifCond .ne 84, 3) := by decide +kernel
theorem dX11_dive_18 : decode cX11_dive 18 = .ok (.aload_n 0, 1) := by decide +kernel
theorem dX11_dive_19 : decode cX11_dive 19 = .ok (.getfield 24, 3) := by decide +kernel
theorem dX11_dive_22 : decode cX11_dive 22 = .ok (.aload_n 0, 1) := by decide +kernel
theorem dX11_dive_23 : decode cX11_dive 23 = .ok (.getfield 163, 3) := by decide +kernel
theorem dX11_dive_26 : decode cX11_dive 26 = .ok (.iaload, 1) := by decide +kernel
theorem dX11_dive_27 : decode cX11_dive 27 = .ok (.ifCond .eq 72, 3) := by decide +kernel
theorem dX11_dive_30 : decode cX11_dive 30 = .ok (.aload_n 0, 1) := by decide +kernel
theorem dX11_dive_31 : decode cX11_dive 31 = .ok (.bipush 10, 2) := by decide +kernel
theorem dX11_dive_33 : decode cX11_dive 33 = .ok (.bipush 7, 2) := by decide +kernel
theorem dX11_dive_35 : decode cX11_dive 35 = .ok (.invokevirtual 188, 3) := by decide +kernel
theorem dX11_dive_38 : decode cX11_dive 38 = .ok (.istore_n 2, 1) := by decide +kernel
theorem dX11_dive_39 : decode cX11_dive 39 = .ok (.iload_n 2, 1) := by decide +kernel
theorem dX11_dive_40 : decode cX11_dive 40 = .ok (.ifCond .ge 11, 3) := by decide +kernel
theorem dX11_dive_43 : decode cX11_dive 43 = .ok (.aload_n 0, 1) := by decide +kernel
theorem dX11_dive_44 : decode cX11_dive 44 = .ok (.iconst 1, 1) := by decide +kernel
theorem dX11_dive_45 : decode cX11_dive 45 = .ok (.invokevirtual 172, 3) := by decide +kernel
theorem dX11_dive_48 : decode cX11_dive 48 = .ok (.goto 42, 3) := by decide +kernel
theorem dX11_dive_51 : decode cX11_dive 51 = .ok (.iload_n 1, 1) := by decide +kernel
theorem dX11_dive_52 : decode cX11_dive 52 = .ok (.bipush 40, 2) := by decide +kernel
theorem dX11_dive_54 : decode cX11_dive 54 = .ok (.if_icmp .ne 11, 3) := by decide +kernel
theorem dX11_dive_57 : decode cX11_dive 57 = .ok (.aload_n 0, 1) := by decide +kernel
theorem dX11_dive_58 : decode cX11_dive 58 = .ok (.iconst 5, 1) := by decide +kernel
theorem dX11_dive_59 : decode cX11_dive 59 = .ok (.invokevirtual 172, 3) := by decide +kernel
theorem dX11_dive_62 : decode cX11_dive 62 = .ok (.goto 28, 3) := by decide +kernel
theorem dX11_dive_65 : decode cX11_dive 65 = .ok (.aload_n 0, 1) := by decide +kernel
theorem dX11_dive_66 : decode cX11_dive 66 = .ok (.dup, 1) := by decide +kernel
theorem dX11_dive_67 : decode cX11_dive 67 = .ok (.getfield 163, 3) := by decide +kernel
theorem dX11_dive_70 : decode cX11_dive 70 = .ok (.iconst 1, 1) := by decide +kernel
theorem dX11_dive_71 : decode cX11_dive 71 = .ok (.iadd, 1) := by decide +kernel
theorem dX11_dive_72 : decode cX11_dive 72 = .ok (.putfield 163, 3) := by decide +kernel
theorem dX11_dive_75 : decode cX11_dive 75 = .ok (.aload_n 0, 1) := by decide +kernel
theorem dX11_dive_76 : decode cX11_dive 76 = .ok (.sipush 165, 3) := by decide +kernel
theorem dX11_dive_79 : decode cX11_dive 79 = .ok (.iconst 4, 1) := by decide +kernel
theorem dX11_dive_80 : decode cX11_dive 80 = .ok (.iload_n 1, 1) := by decide +kernel
theorem dX11_dive_81 : decode cX11_dive 81 = .ok (.imul, 1) := by decide +kernel
theorem dX11_dive_82 : decode cX11_dive 82 = .ok (.iadd, 1) := by decide +kernel
theorem dX11_dive_83 : decode cX11_dive 83 = .ok (.iload_n 2, 1) := by decide +kernel
theorem dX11_dive_84 : decode cX11_dive 84 = .ok (.invokevirtual 255, 3) := by decide +kernel
theorem dX11_dive_87 : decode cX11_dive 87 = .ok (.iinc 1 1, 3) := by decide +kernel
theorem dX11_dive_90 : decode cX11_dive 90 = .ok (.aload_n 0, 1) := by decide +kernel
theorem dX11_dive_91 : decode cX11_dive 91 = .ok (.bipush 59, 2) := by decide +kernel
theorem dX11_dive_93 : decode cX11_dive 93 = .ok (.invokevirtual 221, 3) := by decide +kernel
theorem dX11_dive_96 : decode cX11_dive 96 = .ok (.goto (-85), 3) := by decide +kernel
theorem dX11_dive_99 : decode cX11_dive 99 = .ok (.aload_n 0, 1) := by decide +kernel
theorem dX11_dive_100 : decode cX11_dive 100 = .ok (.getfield 166, 3) := by decide +kernel
theorem dX11_dive_103 : decode cX11_dive 103 = .ok (.ifCond .le 8, 3) := by decide +kernel
theorem dX11_dive_106 : decode cX11_dive 106 = .ok (.aload_n 0, 1) := by decide +kernel
theorem dX11_dive_107 : decode cX11_dive 107 = .ok (.getfield 166, 3) := by decide +kernel
theorem dX11_dive_110 : decode cX11_dive 110 = .ok (.ireturn, 1) := by decide +kernel
theorem dX11_dive_111 : decode cX11_dive 111 = .ok (.aload_n 0, 1) := by decide +kernel
theorem dX11_dive_112 : decode cX11_dive 112 = .ok (.getfield 114, 3) := by decide +kernel
theorem dX11_dive_115 : decode cX11_dive 115 = .ok (.iconst 0, 1) := by decide +kernel
theorem dX11_dive_116 : decode cX11_dive 116 = .ok (.iload_n 1, 1) := by decide +kernel
theorem dX11_dive_117 : decode cX11_dive 117 = .ok (.iastore, 1) := by decide +kernel
theorem dX11_dive_118 : decode cX11_dive 118 = .ok (.iconst 0, 1) := by decide +kernel
theorem dX11_dive_119 : decode cX11_dive 119 = .ok (.istore_n 2, 1) := by decide +kernel
theorem dX11_dive_120 : decode cX11_dive 120 = .ok (.iload_n 2, 1) := by decide +kernel
theorem dX11_dive_121 : decode cX11_dive 121 = .ok (.iconst 4, 1) := by decide +kernel
theorem dX11_dive_122 : decode cX11_dive 122 = .ok (.iload_n 1, 1) := by decide +kernel
theorem dX11_dive_123 : decode cX11_dive 123 = .ok (.imul, 1) := by decide +kernel
theorem dX11_dive_124 : decode cX11_dive 124 = .ok (.if_icmp .ge 27, 3) := by decide +kernel
theorem dX11_dive_127 : decode cX11_dive 127 = .ok (.aload_n 0, 1) := by decide +kernel
theorem dX11_dive_128 : decode cX11_dive 128 = .ok (.getfield 114, 3) := by decide +kernel
theorem dX11_dive_131 : decode cX11_dive 131 = .ok (.iconst 1, 1) := by decide +kernel
theorem dX11_dive_132 : decode cX11_dive 132 = .ok (.iload_n 2, 1) := by decide +kernel
theorem dX11_dive_133 : decode cX11_dive 133 = .ok (.iadd, 1) := by decide +kernel
theorem dX11_dive_134 : decode cX11_dive 134 = .ok (.aload_n 0, 1) := by decide +kernel
theorem dX11_dive_135 : decode cX11_dive 135 = .ok (.getfield 114, 3) := by decide +kernel
theorem dX11_dive_138 : decode cX11_dive 138 = .ok (.sipush 165, 3) := by decide +kernel
theorem dX11_dive_141 : decode cX11_dive 141 = .ok (.iload_n 2, 1) := by decide +kernel
theorem dX11_dive_142 : decode cX11_dive 142 = .ok (.iadd, 1) := by decide +kernel
theorem dX11_dive_143 : decode cX11_dive 143 = .ok (.iaload, 1) := by decide +kernel
theorem dX11_dive_144 : decode cX11_dive 144 = .ok (.iastore, 1) := by decide +kernel
theorem dX11_dive_145 : decode cX11_dive 145 = .ok (.iinc 2 1, 3) := by decide +kernel
theorem dX11_dive_148 : decode cX11_dive 148 = .ok (.goto (-28), 3) := by decide +kernel
theorem dX11_dive_151 : decode cX11_dive 151 = .ok (.iconst 0, 1) := by decide +kernel
theorem dX11_dive_152 : decode cX11_dive 152 = .ok (.ireturn, 1) := by decide +kernel
theorem dX11_readDive_0 : decode cX11_readDive 0 = .ok (.aload_n 0, 1) := by decide +kernel
theorem dX11_readDive_1 : decode cX11_readDive 1 = .ok (.getfield 114, 3) := by decide +kernel
theorem dX11_readDive_4 : decode cX11_readDive 4 = .ok (.iload_n 1, 1) := by decide +kernel
theorem dX11_readDive_5 : decode cX11_readDive 5 = .ok (.iload_n 2, 1) := by decide +kernel
theorem dX11_readDive_6 : decode cX11_readDive 6 = .ok (.iastore, 1) := by decide +kernel
theorem dX11_readDive_7 : decode cX11_readDive 7 = .ok (.aload_n 0, 1) := by decide +kernel
theorem dX11_readDive_8 : decode cX11_readDive 8 = .ok (.getfield 114, 3) := by decide +kernel
theorem dX11_readDive_11 : decode cX11_readDive 11 = .ok (.iload_n 1, 1) := by decide +kernel
theorem dX11_readDive_12 : decode cX11_readDive 12 = .ok (.iconst 1, 1) := by decide +kernel
theorem dX11_readDive_13 : decode cX11_readDive 13 = .ok (.iadd, 1) := by decide +kernel
theorem dX11_readDive_14 : decode cX11_readDive 14 = .ok (.iload_n 2, 1) := by decide +kernel
theorem dX11_readDive_15 : decode cX11_readDive 15 = .ok (.iconst 5, 1) := by decide +kernel
theorem dX11_readDive_16 : decode cX11_readDive 16 = .ok (.if_icmp .ge 14, 3) := by decide +kernel
theorem dX11_readDive_19 : decode cX11_readDive 19 = .ok (.aload_n 0, 1) := by decide +kernel
theorem dX11_readDive_20 : decode cX11_readDive 20 = .ok (.iconst 0, 1) := by decide +kernel
theorem dX11_readDive_21 : decode cX11_readDive 21 = .ok (.bipush 20, 2) := by decide +kernel
theorem dX11_readDive_23 : decode cX11_readDive 23 = .ok (.iconst 0, 1) := by decide +kernel
theorem dX11_readDive_24 : decode cX11_readDive 24 = .ok (.invokevirtual 241, 3) := by decide +kernel
theorem dX11_readDive_27 : decode cX11_readDive 27 = .ok (.goto 4, 3) := by decide +kernel
theorem dX11_readDive_30 : decode cX11_readDive 30 = .ok (.iconst 0, 1) := by decide +kernel
theorem dX11_readDive_31 : decode cX11_readDive 31 = .ok (.iastore, 1) := by decide +kernel
theorem dX11_readDive_32 : decode cX11_readDive 32 = .ok (.aload_n 0, 1) := by decide +kernel
theorem dX11_readDive_33 : decode cX11_readDive 33 = .ok (.getfield 114, 3) := by decide +kernel
theorem dX11_readDive_36 : decode cX11_readDive 36 = .ok (.iload_n 1, 1) := by decide +kernel
theorem dX11_readDive_37 : decode cX11_readDive 37 = .ok (.iconst 3, 1) := by decide +kernel
theorem dX11_readDive_38 : decode cX11_readDive 38 = .ok (.iadd, 1) := by decide +kernel
theorem dX11_readDive_39 : decode cX11_readDive 39 = .ok (.iload_n 2, 1) := by decide +kernel
theorem dX11_readDive_40 : decode cX11_readDive 40 = .ok (.iconst 4, 1) := by decide +kernel
theorem dX11_readDive_41 : decode cX11_readDive 41 = .ok (.if_icmp .ne 23, 3) := by decide +kernel
theorem dX11_readDive_44 : decode cX11_readDive 44 = .ok (.aload_n 0, 1) := by decide +kernel
theorem dX11_readDive_45 : decode cX11_readDive 45 = .ok (.iconst 0, 1) := by decide +kernel
theorem dX11_readDive_46 : decode cX11_readDive 46 = .ok (.bipush 20, 2) := by decide +kernel
theorem dX11_readDive_48 : decode cX11_readDive 48 = .ok (.iconst 1, 1) := by decide +kernel
theorem dX11_readDive_49 : decode cX11_readDive 49 = .ok (.aload_n 0, 1) := by decide +kernel
theorem dX11_readDive_50 : decode cX11_readDive 50 = .ok (.getfield 114, 3) := by decide +kernel
theorem dX11_readDive_53 : decode cX11_readDive 53 = .ok (.iload_n 1, 1) := by decide +kernel
theorem dX11_readDive_54 : decode cX11_readDive 54 = .ok (.iconst 1, 1) := by decide +kernel
theorem dX11_readDive_55 : decode cX11_readDive 55 = .ok (.iadd, 1) := by decide +kernel
theorem dX11_readDive_56 : decode cX11_readDive 56 = .ok (.iaload, 1) := by decide +kernel
theorem dX11_readDive_57 : decode cX11_readDive 57 = .ok (.ishl, 1) := by decide +kernel
theorem dX11_readDive_58 : decode cX11_readDive 58 = .ok (.invokevirtual 241, 3) := by decide +kernel
theorem dX11_readDive_61 : decode cX11_readDive 61 = .ok (.goto 4, 3) := by decide +kernel
theorem dX11_readDive_64 : decode cX11_readDive 64 = .ok (.iconst 0, 1) := by decide +kernel
theorem dX11_readDive_65 : decode cX11_readDive 65 = .ok (.iastore, 1) := by decide +kernel
theorem dX11_readDive_66 : decode cX11_readDive 66 = .ok (.aload_n 0, 1) := by decide +kernel
theorem dX11_readDive_67 : decode cX11_readDive 67 = .ok (.getfield 114, 3) := by decide +kernel
theorem dX11_readDive_70 : decode cX11_readDive 70 = .ok (.iload_n 1, 1) := by decide +kernel
theorem dX11_readDive_71 : decode cX11_readDive 71 = .ok (.iconst 2, 1) := by decide +kernel
theorem dX11_readDive_72 : decode cX11_readDive 72 = .ok (.iadd, 1) := by decide +kernel
theorem dX11_readDive_73 : decode cX11_readDive 73 = .ok (.iload_n 2, 1) := by decide +kernel
theorem dX11_readDive_74 : decode cX11_readDive 74 = .ok (.bipush 6, 2) := by decide +kernel
theorem dX11_readDive_76 : decode cX11_readDive 76 = .ok (.if_icmp .ne 7, 3) := by decide +kernel
theorem dX11_readDive_79 : decode cX11_readDive 79 = .ok (.iconst 0, 1) := by decide +kernel
theorem dX11_readDive_80 : decode cX11_readDive 80 = .ok (.goto 29, 3) := by decide +kernel
theorem dX11_readDive_83 : decode cX11_readDive 83 = .ok (.iload_n 2, 1) := by decide +kernel
theorem dX11_readDive_84 : decode cX11_readDive 84 = .ok (.iconst 2, 1) := by decide +kernel
theorem dX11_readDive_85 : decode cX11_readDive 85 = .ok (.iconst 4, 1) := by decide +kernel
theorem dX11_readDive_86 : decode cX11_readDive 86 = .ok (.invokestatic 205, 3) := by decide +kernel
theorem dX11_readDive_89 : decode cX11_readDive 89 = .ok (.ifCond .eq 13, 3) := by decide +kernel
theorem dX11_readDive_92 : decode cX11_readDive 92 = .ok (.aload_n 0, 1) := by decide +kernel
theorem dX11_readDive_93 : decode cX11_readDive 93 = .ok (.iconst 1, 1) := by decide +kernel
theorem dX11_readDive_94 : decode cX11_readDive 94 = .ok (.bipush 99, 2) := by decide +kernel
theorem dX11_readDive_96 : decode cX11_readDive 96 = .ok (.invokevirtual 184, 3) := by decide +kernel
theorem dX11_readDive_99 : decode cX11_readDive 99 = .ok (.goto 10, 3) := by decide +kernel
theorem dX11_readDive_102 : decode cX11_readDive 102 = .ok (.aload_n 0, 1) := by decide +kernel
theorem dX11_readDive_103 : decode cX11_readDive 103 = .ok (.iconst 0, 1) := by decide +kernel
theorem dX11_readDive_104 : decode cX11_readDive 104 = .ok (.bipush 7, 2) := by decide +kernel
theorem dX11_readDive_106 : decode cX11_readDive 106 = .ok (.invokevirtual 184, 3) := by decide +kernel
theorem dX11_readDive_109 : decode cX11_readDive 109 = .ok (.iastore, 1) := by decide +kernel
theorem dX11_readDive_110 : decode cX11_readDive 110 = .ok (.return_, 1) := by decide +kernel
theorem dX11_emit_0 : decode cX11_emit 0 = .ok (.aload_n 0, 1) := by decide +kernel
theorem dX11_emit_1 : decode cX11_emit 1 = .ok (.getfield 96, 3) := by decide +kernel
theorem dX11_emit_4 : decode cX11_emit 4 = .ok (.sipush 1100, 3) := by decide +kernel
theorem dX11_emit_7 : decode cX11_emit 7 = .ok (.aload_n 0, 1) := by decide +kernel
theorem dX11_emit_8 : decode cX11_emit 8 = .ok (.getfield 212, 3) := by decide +kernel
theorem dX11_emit_11 : decode cX11_emit 11 = .ok (.iadd, 1) := by decide +kernel
theorem dX11_emit_12 : decode cX11_emit 12 = .ok (.iload_n 1, 1) := by decide +kernel
theorem dX11_emit_13 : decode cX11_emit 13 = .ok (.iastore, 1) := by decide +kernel
theorem dX11_emit_14 : decode cX11_emit 14 = .ok (.aload_n 0, 1) := by decide +kernel
theorem dX11_emit_15 : decode cX11_emit 15 = .ok (.getfield 99, 3) := by decide +kernel
theorem dX11_emit_18 : decode cX11_emit 18 = .ok (.sipush 1100, 3) := by decide +kernel
theorem dX11_emit_21 : decode cX11_emit 21 = .ok (.aload_n 0, 1) := by decide +kernel
theorem dX11_emit_22 : decode cX11_emit 22 = .ok (.getfield 212, 3) := by decide +kernel
theorem dX11_emit_25 : decode cX11_emit 25 = .ok (.iadd, 1) := by decide +kernel
theorem dX11_emit_26 : decode cX11_emit 26 = .ok (.iload_n 2, 1) := by decide +kernel
theorem dX11_emit_27 : decode cX11_emit 27 = .ok (.iastore, 1) := by decide +kernel
theorem dX11_emit_28 : decode cX11_emit 28 = .ok (.aload_n 0, 1) := by decide +kernel
theorem dX11_emit_29 : decode cX11_emit 29 = .ok (.dup, 1) := by decide +kernel
theorem dX11_emit_30 : decode cX11_emit 30 = .ok (.getfield 212, 3) := by decide +kernel
theorem dX11_emit_33 : decode cX11_emit 33 = .ok (.iconst 1, 1) := by decide +kernel
theorem dX11_emit_34 : decode cX11_emit 34 = .ok (.iadd, 1) := by decide +kernel
theorem dX11_emit_35 : decode cX11_emit 35 = .ok (.putfield 212, 3) := by decide +kernel
theorem dX11_emit_38 : decode cX11_emit 38 = .ok (.return_, 1) := by decide +kernel
theorem dX11_whole_0 : decode cX11_whole 0 = .ok (.aload_n 0, 1) := by decide +kernel
theorem dX11_whole_1 : decode cX11_whole 1 = .ok (.iload_n 1, 1) := by decide +kernel
theorem dX11_whole_2 : decode cX11_whole 2 = .ok (.invokevirtual 258, 3) := by decide +kernel
theorem dX11_whole_5 : decode cX11_whole 5 = .ok (.aload_n 0, 1) := by decide +kernel
theorem dX11_whole_6 : decode cX11_whole 6 = .ok (.bipush 22, 2) := by decide +kernel
theorem dX11_whole_8 : decode cX11_whole 8 = .ok (.invokevirtual 175, 3) := by decide +kernel
theorem dX11_whole_11 : decode cX11_whole 11 = .ok (.ifCond .ne 12, 3) := by decide +kernel
theorem dX11_whole_14 : decode cX11_whole 14 = .ok (.aload_n 0, 1) := by decide +kernel
theorem dX11_whole_15 : decode cX11_whole 15 = .ok (.bipush 23, 2) := by decide +kernel
theorem dX11_whole_17 : decode cX11_whole 17 = .ok (.invokevirtual 175, 3) := by decide +kernel
theorem dX11_whole_20 : decode cX11_whole 20 = .ok (.ifCond .eq 44, 3) := by decide +kernel
theorem dX11_whole_23 : decode cX11_whole 23 = .ok (.aload_n 0, 1) := by decide +kernel
theorem dX11_whole_24 : decode cX11_whole 24 = .ok (.bipush 22, 2) := by decide +kernel
theorem dX11_whole_26 : decode cX11_whole 26 = .ok (.invokevirtual 175, 3) := by decide +kernel
theorem dX11_whole_29 : decode cX11_whole 29 = .ok (.istore_n 2, 1) := by decide +kernel
theorem dX11_whole_30 : decode cX11_whole 30 = .ok (.aload_n 0, 1) := by decide +kernel
theorem dX11_whole_31 : decode cX11_whole 31 = .ok (.dup, 1) := by decide +kernel
theorem dX11_whole_32 : decode cX11_whole 32 = .ok (.getfield 163, 3) := by decide +kernel
theorem dX11_whole_35 : decode cX11_whole 35 = .ok (.iconst 1, 1) := by decide +kernel
theorem dX11_whole_36 : decode cX11_whole 36 = .ok (.iadd, 1) := by decide +kernel
theorem dX11_whole_37 : decode cX11_whole 37 = .ok (.putfield 163, 3) := by decide +kernel
theorem dX11_whole_40 : decode cX11_whole 40 = .ok (.aload_n 0, 1) := by decide +kernel
theorem dX11_whole_41 : decode cX11_whole 41 = .ok (.iload_n 1, 1) := by decide +kernel
theorem dX11_whole_42 : decode cX11_whole 42 = .ok (.invokevirtual 258, 3) := by decide +kernel
theorem dX11_whole_45 : decode cX11_whole 45 = .ok (.aload_n 0, 1) := by decide +kernel
theorem dX11_whole_46 : decode cX11_whole 46 = .ok (.iload_n 2, 1) := by decide +kernel
theorem dX11_whole_47 : decode cX11_whole 47 = .ok (.ifCond .eq 8, 3) := by decide +kernel
theorem dX11_whole_50 : decode cX11_whole 50 = .ok (.bipush 9, 2) := by decide +kernel
theorem dX11_whole_52 : decode cX11_whole 52 = .ok (.goto 5, 3) := by decide +kernel
theorem dX11_whole_55 : decode cX11_whole 55 = .ok (.bipush 10, 2) := by decide +kernel
theorem dX11_whole_57 : decode cX11_whole 57 = .ok (.iconst 0, 1) := by decide +kernel
theorem dX11_whole_58 : decode cX11_whole 58 = .ok (.invokevirtual 251, 3) := by decide +kernel
theorem dX11_whole_61 : decode cX11_whole 61 = .ok (.goto (-56), 3) := by decide +kernel
theorem dX11_whole_64 : decode cX11_whole 64 = .ok (.return_, 1) := by decide +kernel
theorem dX11_test_0 : decode cX11_test 0 = .ok (.aload_n 0, 1) := by decide +kernel
theorem dX11_test_1 : decode cX11_test 1 = .ok (.iload_n 1, 1) := by decide +kernel
theorem dX11_test_2 : decode cX11_test 2 = .ok (.invokevirtual 261, 3) := by decide +kernel
theorem dX11_test_5 : decode cX11_test 5 = .ok (.aload_n 0, 1) := by decide +kernel
theorem dX11_test_6 : decode cX11_test 6 = .ok (.bipush 60, 2) := by decide +kernel
theorem dX11_test_8 : decode cX11_test 8 = .ok (.invokevirtual 169, 3) := by decide +kernel
theorem dX11_test_11 : decode cX11_test 11 = .ok (.istore_n 2, 1) := by decide +kernel
theorem dX11_test_12 : decode cX11_test 12 = .ok (.aload_n 0, 1) := by decide +kernel
theorem dX11_test_13 : decode cX11_test 13 = .ok (.bipush 60, 2) := by decide +kernel
theorem dX11_test_15 : decode cX11_test 15 = .ok (.invokevirtual 264, 3) := by decide +kernel
theorem dX11_test_18 : decode cX11_test 18 = .ok (.ifCond .ne 12, 3) := by decide +kernel
theorem dX11_test_21 : decode cX11_test 21 = .ok (.aload_n 0, 1) := by decide +kernel
theorem dX11_test_22 : decode cX11_test 22 = .ok (.bipush 61, 2) := by decide +kernel
theorem dX11_test_24 : decode cX11_test 24 = .ok (.invokevirtual 264, 3) := by decide +kernel
theorem dX11_test_27 : decode cX11_test 27 = .ok (.ifCond .eq 24, 3) := by decide +kernel
theorem dX11_test_30 : decode cX11_test 30 = .ok (.aload_n 0, 1) := by decide +kernel
theorem dX11_test_31 : decode cX11_test 31 = .ok (.iload_n 1, 1) := by decide +kernel
theorem dX11_test_32 : decode cX11_test 32 = .ok (.invokevirtual 261, 3) := by decide +kernel
theorem dX11_test_35 : decode cX11_test 35 = .ok (.aload_n 0, 1) := by decide +kernel
theorem dX11_test_36 : decode cX11_test 36 = .ok (.iload_n 2, 1) := by decide +kernel
theorem dX11_test_37 : decode cX11_test 37 = .ok (.ifCond .eq 8, 3) := by decide +kernel
theorem dX11_test_40 : decode cX11_test 40 = .ok (.bipush 7, 2) := by decide +kernel
theorem dX11_test_42 : decode cX11_test 42 = .ok (.goto 5, 3) := by decide +kernel
theorem dX11_test_45 : decode cX11_test 45 = .ok (.bipush 8, 2) := by decide +kernel
theorem dX11_test_47 : decode cX11_test 47 = .ok (.iconst 0, 1) := by decide +kernel
theorem dX11_test_48 : decode cX11_test 48 = .ok (.invokevirtual 251, 3) := by decide +kernel
theorem dX11_test_51 : decode cX11_test 51 = .ok (.return_, 1) := by decide +kernel
theorem dX11_sums_0 : decode cX11_sums 0 = .ok (.aload_n 0, 1) := by decide +kernel
theorem dX11_sums_1 : decode cX11_sums 1 = .ok (.iload_n 1, 1) := by decide +kernel
theorem dX11_sums_2 : decode cX11_sums 2 = .ok (.invokevirtual 267, 3) := by decide +kernel
theorem dX11_sums_5 : decode cX11_sums 5 = .ok (.aload_n 0, 1) := by decide +kernel
theorem dX11_sums_6 : decode cX11_sums 6 = .ok (.bipush 43, 2) := by decide +kernel
theorem dX11_sums_8 : decode cX11_sums 8 = .ok (.invokevirtual 169, 3) := by decide +kernel
theorem dX11_sums_11 : decode cX11_sums 11 = .ok (.ifCond .ne 12, 3) := by decide +kernel
theorem dX11_sums_14 : decode cX11_sums 14 = .ok (.aload_n 0, 1) := by decide +kernel
theorem dX11_sums_15 : decode cX11_sums 15 = .ok (.bipush 45, 2) := by decide +kernel
theorem dX11_sums_17 : decode cX11_sums 17 = .ok (.invokevirtual 169, 3) := by decide +kernel
theorem dX11_sums_20 : decode cX11_sums 20 = .ok (.ifCond .eq 42, 3) := by decide +kernel
theorem dX11_sums_23 : decode cX11_sums 23 = .ok (.aload_n 0, 1) := by decide +kernel
theorem dX11_sums_24 : decode cX11_sums 24 = .ok (.bipush 43, 2) := by decide +kernel
theorem dX11_sums_26 : decode cX11_sums 26 = .ok (.invokevirtual 169, 3) := by decide +kernel
theorem dX11_sums_29 : decode cX11_sums 29 = .ok (.istore_n 2, 1) := by decide +kernel
theorem dX11_sums_30 : decode cX11_sums 30 = .ok (.aload_n 0, 1) := by decide +kernel
theorem dX11_sums_31 : decode cX11_sums 31 = .ok (.dup, 1) := by decide +kernel
theorem dX11_sums_32 : decode cX11_sums 32 = .ok (.getfield 163, 3) := by decide +kernel
theorem dX11_sums_35 : decode cX11_sums 35 = .ok (.iconst 1, 1) := by decide +kernel
theorem dX11_sums_36 : decode cX11_sums 36 = .ok (.iadd, 1) := by decide +kernel
theorem dX11_sums_37 : decode cX11_sums 37 = .ok (.putfield 163, 3) := by decide +kernel
theorem dX11_sums_40 : decode cX11_sums 40 = .ok (.aload_n 0, 1) := by decide +kernel
theorem dX11_sums_41 : decode cX11_sums 41 = .ok (.iload_n 1, 1) := by decide +kernel
theorem dX11_sums_42 : decode cX11_sums 42 = .ok (.invokevirtual 267, 3) := by decide +kernel
theorem dX11_sums_45 : decode cX11_sums 45 = .ok (.aload_n 0, 1) := by decide +kernel
theorem dX11_sums_46 : decode cX11_sums 46 = .ok (.iload_n 2, 1) := by decide +kernel
theorem dX11_sums_47 : decode cX11_sums 47 = .ok (.ifCond .eq 7, 3) := by decide +kernel
theorem dX11_sums_50 : decode cX11_sums 50 = .ok (.iconst 4, 1) := by decide +kernel
theorem dX11_sums_51 : decode cX11_sums 51 = .ok (.goto 4, 3) := by decide +kernel
theorem dX11_sums_54 : decode cX11_sums 54 = .ok (.iconst 5, 1) := by decide +kernel
theorem dX11_sums_55 : decode cX11_sums 55 = .ok (.iconst 0, 1) := by decide +kernel
theorem dX11_sums_56 : decode cX11_sums 56 = .ok (.invokevirtual 251, 3) := by decide +kernel
theorem dX11_sums_59 : decode cX11_sums 59 = .ok (.goto (-54), 3) := by decide +kernel
theorem dX11_sums_62 : decode cX11_sums 62 = .ok (.return_, 1) := by decide +kernel
theorem dX11_products_0 : decode cX11_products 0 = .ok (.aload_n 0, 1) := by decide +kernel
theorem dX11_products_1 : decode cX11_products 1 = .ok (.iload_n 1, 1) := by decide +kernel
theorem dX11_products_2 : decode cX11_products 2 = .ok (.invokevirtual 270, 3) := by decide +kernel
theorem dX11_products_5 : decode cX11_products 5 = .ok (.aload_n 0, 1) := by decide +kernel
theorem dX11_products_6 : decode cX11_products 6 = .ok (.bipush 42, 2) := by decide +kernel
theorem dX11_products_8 : decode cX11_products 8 = .ok (.invokevirtual 264, 3) := by decide +kernel
theorem dX11_products_11 : decode cX11_products 11 = .ok (.ifCond .eq 18, 3) := by decide +kernel
theorem dX11_products_14 : decode cX11_products 14 = .ok (.aload_n 0, 1) := by decide +kernel
theorem dX11_products_15 : decode cX11_products 15 = .ok (.iload_n 1, 1) := by decide +kernel
theorem dX11_products_16 : decode cX11_products 16 = .ok (.invokevirtual 270, 3) := by decide +kernel
theorem dX11_products_19 : decode cX11_products 19 = .ok (.aload_n 0, 1) := by decide +kernel
theorem dX11_products_20 : decode cX11_products 20 = .ok (.bipush 6, 2) := by decide +kernel
theorem dX11_products_22 : decode cX11_products 22 = .ok (.iconst 0, 1) := by decide +kernel
theorem dX11_products_23 : decode cX11_products 23 = .ok (.invokevirtual 251, 3) := by decide +kernel
theorem dX11_products_26 : decode cX11_products 26 = .ok (.goto (-21), 3) := by decide +kernel
theorem dX11_products_29 : decode cX11_products 29 = .ok (.return_, 1) := by decide +kernel
theorem dX11_takePart_0 : decode cX11_takePart 0 = .ok (.aload_n 0, 1) := by decide +kernel
theorem dX11_takePart_1 : decode cX11_takePart 1 = .ok (.getfield 166, 3) := by decide +kernel
theorem dX11_takePart_4 : decode cX11_takePart 4 = .ok (.ifCond .le 4, 3) := by decide +kernel
theorem dX11_takePart_7 : decode cX11_takePart 7 = .ok (.return_, 1) := by decide +kernel
theorem dX11_takePart_8 : decode cX11_takePart 8 = .ok (.aload_n 0, 1) := by decide +kernel
theorem dX11_takePart_9 : decode cX11_takePart 9 = .ok (.getfield 24, 3) := by decide +kernel
theorem dX11_takePart_12 : decode cX11_takePart 12 = .ok (.aload_n 0, 1) := by decide +kernel
theorem dX11_takePart_13 : decode cX11_takePart 13 = .ok (.getfield 163, 3) := by decide +kernel
theorem dX11_takePart_16 : decode cX11_takePart 16 = .ok (.iaload, 1) := by decide +kernel
theorem dX11_takePart_17 : decode cX11_takePart 17 = .ok (.iconst 2, 1) := by decide +kernel
theorem dX11_takePart_18 : decode cX11_takePart 18 = .ok (.if_icmp .ne 7, 3) := by decide +kernel
theorem dX11_takePart_21 : decode cX11_takePart 21 = .ok (.iconst 1, 1) := by decide +kernel
theorem dX11_takePart_22 : decode cX11_takePart 22 = .ok (.goto 4, 3) := by decide +kernel
theorem dX11_takePart_25 : decode cX11_takePart 25 = .ok (.iconst 0, 1) := by decide +kernel
theorem dX11_takePart_26 : decode cX11_takePart 26 = .ok (.istore_n 2, 1) := by decide +kernel
theorem dX11_takePart_27 : decode cX11_takePart 27 = .ok (.aload_n 0, 1) := by decide +kernel
theorem dX11_takePart_28 : decode cX11_takePart 28 = .ok (.bipush 24, 2) := by decide +kernel
theorem dX11_takePart_30 : decode cX11_takePart 30 = .ok (.iconst 4, 1) := by decide +kernel
theorem dX11_takePart_31 : decode cX11_takePart 31 = .ok (.invokevirtual 188, 3) := by decide +kernel
theorem dX11_takePart_34 : decode cX11_takePart 34 = .ok (.istore_n 3, 1) := by decide +kernel
theorem dX11_takePart_35 : decode cX11_takePart 35 = .ok (.iload_n 3, 1) := by decide +kernel
theorem dX11_takePart_36 : decode cX11_takePart 36 = .ok (.ifCond .ge 33, 3) := by decide +kernel
theorem dX11_takePart_39 : decode cX11_takePart 39 = .ok (.iload_n 2, 1) := by decide +kernel
theorem dX11_takePart_40 : decode cX11_takePart 40 = .ok (.ifCond .ne 29, 3) := by decide +kernel
theorem dX11_takePart_43 : decode cX11_takePart 43 = .ok (.aload_n 0, 1) := by decide +kernel
theorem dX11_takePart_44 : decode cX11_takePart 44 = .ok (.bipush 40, 2) := by decide +kernel
theorem dX11_takePart_46 : decode cX11_takePart 46 = .ok (.invokevirtual 169, 3) := by decide +kernel
theorem dX11_takePart_49 : decode cX11_takePart 49 = .ok (.ifCond .ne 20, 3) := by decide +kernel
theorem dX11_takePart_52 : decode cX11_takePart 52 = .ok (.aload_n 0, 1) := by decide +kernel
theorem dX11_takePart_53 : decode cX11_takePart 53 = .ok (.bipush 21, 2) := by decide +kernel
theorem dX11_takePart_55 : decode cX11_takePart 55 = .ok (.invokevirtual 175, 3) := by decide +kernel
theorem dX11_takePart_58 : decode cX11_takePart 58 = .ok (.ifCond .ne 11, 3) := by decide +kernel
theorem dX11_takePart_61 : decode cX11_takePart 61 = .ok (.aload_n 0, 1) := by decide +kernel
theorem dX11_takePart_62 : decode cX11_takePart 62 = .ok (.iconst 1, 1) := by decide +kernel
theorem dX11_takePart_63 : decode cX11_takePart 63 = .ok (.invokevirtual 172, 3) := by decide +kernel
theorem dX11_takePart_66 : decode cX11_takePart 66 = .ok (.goto 13, 3) := by decide +kernel
theorem dX11_takePart_69 : decode cX11_takePart 69 = .ok (.iload_n 1, 1) := by decide +kernel
theorem dX11_takePart_70 : decode cX11_takePart 70 = .ok (.iconst 5, 1) := by decide +kernel
theorem dX11_takePart_71 : decode cX11_takePart 71 = .ok (.if_icmp .ne 8, 3) := by decide +kernel
theorem dX11_takePart_74 : decode cX11_takePart 74 = .ok (.aload_n 0, 1) := by decide +kernel
theorem dX11_takePart_75 : decode cX11_takePart 75 = .ok (.iconst 5, 1) := by decide +kernel
theorem dX11_takePart_76 : decode cX11_takePart 76 = .ok (.invokevirtual 172, 3) := by decide +kernel
theorem dX11_takePart_79 : decode cX11_takePart 79 = .ok (.aload_n 0, 1) := by decide +kernel
theorem dX11_takePart_80 : decode cX11_takePart 80 = .ok (.getfield 166, 3) := by decide +kernel
theorem dX11_takePart_83 : decode cX11_takePart 83 = .ok (.ifCond .le 4, 3) := by decide +kernel
theorem dX11_takePart_86 : decode cX11_takePart 86 = .ok (.return_, 1) := by decide +kernel
theorem dX11_takePart_87 : decode cX11_takePart 87 = .ok (.aload_n 0, 1) := by decide +kernel
theorem dX11_takePart_88 : decode cX11_takePart 88 = .ok (.bipush 21, 2) := by decide +kernel
theorem dX11_takePart_90 : decode cX11_takePart 90 = .ok (.invokevirtual 178, 3) := by decide +kernel
theorem dX11_takePart_93 : decode cX11_takePart 93 = .ok (.ifCond .eq 19, 3) := by decide +kernel
theorem dX11_takePart_96 : decode cX11_takePart 96 = .ok (.aload_n 0, 1) := by decide +kernel
theorem dX11_takePart_97 : decode cX11_takePart 97 = .ok (.iload_n 1, 1) := by decide +kernel
theorem dX11_takePart_98 : decode cX11_takePart 98 = .ok (.iconst 1, 1) := by decide +kernel
theorem dX11_takePart_99 : decode cX11_takePart 99 = .ok (.iadd, 1) := by decide +kernel
theorem dX11_takePart_100 : decode cX11_takePart 100 = .ok (.invokevirtual 270, 3) := by decide +kernel
theorem dX11_takePart_103 : decode cX11_takePart 103 = .ok (.aload_n 0, 1) := by decide +kernel
theorem dX11_takePart_104 : decode cX11_takePart 104 = .ok (.iconst 3, 1) := by decide +kernel
theorem dX11_takePart_105 : decode cX11_takePart 105 = .ok (.iconst 0, 1) := by decide +kernel
theorem dX11_takePart_106 : decode cX11_takePart 106 = .ok (.invokevirtual 251, 3) := by decide +kernel
theorem dX11_takePart_109 : decode cX11_takePart 109 = .ok (.goto 69, 3) := by decide +kernel
theorem dX11_takePart_112 : decode cX11_takePart 112 = .ok (.aload_n 0, 1) := by decide +kernel
theorem dX11_takePart_113 : decode cX11_takePart 113 = .ok (.bipush 40, 2) := by decide +kernel
theorem dX11_takePart_115 : decode cX11_takePart 115 = .ok (.invokevirtual 264, 3) := by decide +kernel
theorem dX11_takePart_118 : decode cX11_takePart 118 = .ok (.ifCond .eq 19, 3) := by decide +kernel
theorem dX11_takePart_121 : decode cX11_takePart 121 = .ok (.aload_n 0, 1) := by decide +kernel
theorem dX11_takePart_122 : decode cX11_takePart 122 = .ok (.iload_n 1, 1) := by decide +kernel
theorem dX11_takePart_123 : decode cX11_takePart 123 = .ok (.iconst 1, 1) := by decide +kernel
theorem dX11_takePart_124 : decode cX11_takePart 124 = .ok (.iadd, 1) := by decide +kernel
theorem dX11_takePart_125 : decode cX11_takePart 125 = .ok (.invokevirtual 248, 3) := by decide +kernel
theorem dX11_takePart_128 : decode cX11_takePart 128 = .ok (.aload_n 0, 1) := by decide +kernel
theorem dX11_takePart_129 : decode cX11_takePart 129 = .ok (.bipush 41, 2) := by decide +kernel
theorem dX11_takePart_131 : decode cX11_takePart 131 = .ok (.invokevirtual 221, 3) := by decide +kernel
theorem dX11_takePart_134 : decode cX11_takePart 134 = .ok (.goto 44, 3) := by decide +kernel
theorem dX11_takePart_137 : decode cX11_takePart 137 = .ok (.aload_n 0, 1) := by decide +kernel
theorem dX11_takePart_138 : decode cX11_takePart 138 = .ok (.iload_n 2, 1) := by decide +kernel
theorem dX11_takePart_139 : decode cX11_takePart 139 = .ok (.ifCond .eq 7, 3) := by decide +kernel
theorem dX11_takePart_142 : decode cX11_takePart 142 = .ok (.iconst 1, 1) := by decide +kernel
theorem dX11_takePart_143 : decode cX11_takePart 143 = .ok (.goto 4, 3) := by decide +kernel
theorem dX11_takePart_146 : decode cX11_takePart 146 = .ok (.iconst 2, 1) := by decide +kernel
theorem dX11_takePart_147 : decode cX11_takePart 147 = .ok (.iload_n 2, 1) := by decide +kernel
theorem dX11_takePart_148 : decode cX11_takePart 148 = .ok (.ifCond .eq 16, 3) := by decide +kernel
theorem dX11_takePart_151 : decode cX11_takePart 151 = .ok (.aload_n 0, 1) := by decide +kernel
theorem dX11_takePart_152 : decode cX11_takePart 152 = .ok (.getfield 30, 3) := by decide +kernel
theorem dX11_takePart_155 : decode cX11_takePart 155 = .ok (.aload_n 0, 1) := by decide +kernel
theorem dX11_takePart_156 : decode cX11_takePart 156 = .ok (.getfield 163, 3) := by decide +kernel
theorem dX11_takePart_159 : decode cX11_takePart 159 = .ok (.laload, 1) := by decide +kernel
theorem dX11_takePart_160 : decode cX11_takePart 160 = .ok (.l2i, 1) := by decide +kernel
theorem dX11_takePart_161 : decode cX11_takePart 161 = .ok (.goto 4, 3) := by decide +kernel
theorem dX11_takePart_164 : decode cX11_takePart 164 = .ok (.iload_n 3, 1) := by decide +kernel
theorem dX11_takePart_165 : decode cX11_takePart 165 = .ok (.invokevirtual 251, 3) := by decide +kernel
theorem dX11_takePart_168 : decode cX11_takePart 168 = .ok (.aload_n 0, 1) := by decide +kernel
theorem dX11_takePart_169 : decode cX11_takePart 169 = .ok (.dup, 1) := by decide +kernel
theorem dX11_takePart_170 : decode cX11_takePart 170 = .ok (.getfield 163, 3) := by decide +kernel
theorem dX11_takePart_173 : decode cX11_takePart 173 = .ok (.iconst 1, 1) := by decide +kernel
theorem dX11_takePart_174 : decode cX11_takePart 174 = .ok (.iadd, 1) := by decide +kernel
theorem dX11_takePart_175 : decode cX11_takePart 175 = .ok (.putfield 163, 3) := by decide +kernel
theorem dX11_takePart_178 : decode cX11_takePart 178 = .ok (.return_, 1) := by decide +kernel
theorem dX11_worthAt_0 : decode cX11_worthAt 0 = .ok (.iconst 0, 1) := by decide +kernel
theorem dX11_worthAt_1 : decode cX11_worthAt 1 = .ok (.istore_n 2, 1) := by decide +kernel
theorem dX11_worthAt_2 : decode cX11_worthAt 2 = .ok (.iload_n 1, 1) := by decide +kernel
theorem dX11_worthAt_3 : decode cX11_worthAt 3 = .ok (.istore_n 3, 1) := by decide +kernel
theorem dX11_worthAt_4 : decode cX11_worthAt 4 = .ok (.aload_n 0, 1) := by decide +kernel
theorem dX11_worthAt_5 : decode cX11_worthAt 5 = .ok (.getfield 96, 3) := by decide +kernel
theorem dX11_worthAt_8 : decode cX11_worthAt 8 = .ok (.iload_n 3, 1) := by decide +kernel
theorem dX11_worthAt_9 : decode cX11_worthAt 9 = .ok (.iaload, 1) := by decide +kernel
theorem dX11_worthAt_10 : decode cX11_worthAt 10 = .ok (.ifCond .eq 130, 3) := by decide +kernel
theorem dX11_worthAt_13 : decode cX11_worthAt 13 = .ok (.aload_n 0, 1) := by decide +kernel
theorem dX11_worthAt_14 : decode cX11_worthAt 14 = .ok (.getfield 96, 3) := by decide +kernel
theorem dX11_worthAt_17 : decode cX11_worthAt 17 = .ok (.iload_n 3, 1) := by decide +kernel
theorem dX11_worthAt_18 : decode cX11_worthAt 18 = .ok (.iaload, 1) := by decide +kernel
theorem dX11_worthAt_19 : decode cX11_worthAt 19 = .ok (.istore 4, 2) := by decide +kernel
theorem dX11_worthAt_21 : decode cX11_worthAt 21 = .ok (.iload 4, 2) := by decide +kernel
theorem dX11_worthAt_23 : decode cX11_worthAt 23 = .ok (.iconst 1, 1) := by decide +kernel
theorem dX11_worthAt_24 : decode cX11_worthAt 24 = .ok (.if_icmp .eq 9, 3) := by decide +kernel
theorem dX11_worthAt_27 : decode cX11_worthAt 27 = .ok (.iload 4, 2) := by decide +kernel
theorem dX11_worthAt_29 : decode cX11_worthAt 29 = .ok (.iconst 2, 1) := by decide +kernel
theorem dX11_worthAt_30 : decode cX11_worthAt 30 = .ok (.if_icmp .ne 41, 3) := by decide +kernel
theorem dX11_worthAt_33 : decode cX11_worthAt 33 = .ok (.aload_n 0, 1) := by decide +kernel
theorem dX11_worthAt_34 : decode cX11_worthAt 34 = .ok (.getfield 120, 3) := by decide +kernel
theorem dX11_worthAt_37 : decode cX11_worthAt 37 = .ok (.iload_n 2, 1) := by decide +kernel
theorem dX11_worthAt_38 : decode cX11_worthAt 38 = .ok (.iload 4, 2) := by decide +kernel
theorem dX11_worthAt_40 : decode cX11_worthAt 40 = .ok (.iconst 1, 1) := by decide +kernel
theorem dX11_worthAt_41 : decode cX11_worthAt 41 = .ok (.if_icmp .ne 12, 3) := by decide +kernel
theorem dX11_worthAt_44 : decode cX11_worthAt 44 = .ok (.aload_n 0, 1) := by decide +kernel
theorem dX11_worthAt_45 : decode cX11_worthAt 45 = .ok (.getfield 99, 3) := by decide +kernel
theorem dX11_worthAt_48 : decode cX11_worthAt 48 = .ok (.iload_n 3, 1) := by decide +kernel
theorem dX11_worthAt_49 : decode cX11_worthAt 49 = .ok (.iaload, 1) := by decide +kernel
theorem dX11_worthAt_50 : decode cX11_worthAt 50 = .ok (.goto 14, 3) := by decide +kernel
theorem dX11_worthAt_53 : decode cX11_worthAt 53 = .ok (.aload_n 0, 1) := by decide +kernel
theorem dX11_worthAt_54 : decode cX11_worthAt 54 = .ok (.getfield 117, 3) := by decide +kernel
theorem dX11_worthAt_57 : decode cX11_worthAt 57 = .ok (.aload_n 0, 1) := by decide +kernel
theorem dX11_worthAt_58 : decode cX11_worthAt 58 = .ok (.getfield 99, 3) := by decide +kernel
theorem dX11_worthAt_61 : decode cX11_worthAt 61 = .ok (.iload_n 3, 1) := by decide +kernel
theorem dX11_worthAt_62 : decode cX11_worthAt 62 = .ok (.iaload, 1) := by decide +kernel
theorem dX11_worthAt_63 : decode cX11_worthAt 63 = .ok (.iaload, 1) := by decide +kernel
theorem dX11_worthAt_64 : decode cX11_worthAt 64 = .ok (.iastore, 1) := by decide +kernel
theorem dX11_worthAt_65 : decode cX11_worthAt 65 = .ok (.iinc 2 1, 3) := by decide +kernel
theorem dX11_worthAt_68 : decode cX11_worthAt 68 = .ok (.goto 66, 3) := by decide +kernel
theorem dX11_worthAt_71 : decode cX11_worthAt 71 = .ok (.iload 4, 2) := by decide +kernel
theorem dX11_worthAt_73 : decode cX11_worthAt 73 = .ok (.iconst 3, 1) := by decide +kernel
theorem dX11_worthAt_74 : decode cX11_worthAt 74 = .ok (.if_icmp .ne 30, 3) := by decide +kernel
theorem dX11_worthAt_77 : decode cX11_worthAt 77 = .ok (.aload_n 0, 1) := by decide +kernel
theorem dX11_worthAt_78 : decode cX11_worthAt 78 = .ok (.getfield 120, 3) := by decide +kernel
theorem dX11_worthAt_81 : decode cX11_worthAt 81 = .ok (.iload_n 2, 1) := by decide +kernel
theorem dX11_worthAt_82 : decode cX11_worthAt 82 = .ok (.iconst 1, 1) := by decide +kernel
theorem dX11_worthAt_83 : decode cX11_worthAt 83 = .ok (.isub, 1) := by decide +kernel
theorem dX11_worthAt_84 : decode cX11_worthAt 84 = .ok (.aload_n 0, 1) := by decide +kernel
theorem dX11_worthAt_85 : decode cX11_worthAt 85 = .ok (.getfield 120, 3) := by decide +kernel
theorem dX11_worthAt_88 : decode cX11_worthAt 88 = .ok (.iload_n 2, 1) := by decide +kernel
theorem dX11_worthAt_89 : decode cX11_worthAt 89 = .ok (.iconst 1, 1) := by decide +kernel
theorem dX11_worthAt_90 : decode cX11_worthAt 90 = .ok (.isub, 1) := by decide +kernel
theorem dX11_worthAt_91 : decode cX11_worthAt 91 = .ok (.iaload, 1) := by decide +kernel
theorem dX11_worthAt_92 : decode cX11_worthAt 92 = .ok (.ifCond .ne 7, 3) := by decide +kernel
theorem dX11_worthAt_95 : decode cX11_worthAt 95 = .ok (.iconst 1, 1) := by decide +kernel
theorem dX11_worthAt_96 : decode cX11_worthAt 96 = .ok (.goto 4, 3) := by decide +kernel
theorem dX11_worthAt_99 : decode cX11_worthAt 99 = .ok (.iconst 0, 1) := by decide +kernel
theorem dX11_worthAt_100 : decode cX11_worthAt 100 = .ok (.iastore, 1) := by decide +kernel
theorem dX11_worthAt_101 : decode cX11_worthAt 101 = .ok (.goto 33, 3) := by decide +kernel
theorem dX11_worthAt_104 : decode cX11_worthAt 104 = .ok (.iinc 2 (-1), 3) := by decide +kernel
theorem dX11_worthAt_107 : decode cX11_worthAt 107 = .ok (.aload_n 0, 1) := by decide +kernel
theorem dX11_worthAt_108 : decode cX11_worthAt 108 = .ok (.getfield 120, 3) := by decide +kernel
theorem dX11_worthAt_111 : decode cX11_worthAt 111 = .ok (.iload_n 2, 1) := by decide +kernel
theorem dX11_worthAt_112 : decode cX11_worthAt 112 = .ok (.iconst 1, 1) := by decide +kernel
theorem dX11_worthAt_113 : decode cX11_worthAt 113 = .ok (.isub, 1) := by decide +kernel
theorem dX11_worthAt_114 : decode cX11_worthAt 114 = .ok (.iload 4, 2) := by decide +kernel
theorem dX11_worthAt_116 : decode cX11_worthAt 116 = .ok (.aload_n 0, 1) := by decide +kernel
theorem dX11_worthAt_117 : decode cX11_worthAt 117 = .ok (.getfield 120, 3) := by decide +kernel
theorem dX11_worthAt_120 : decode cX11_worthAt 120 = .ok (.iload_n 2, 1) := by decide +kernel
theorem dX11_worthAt_121 : decode cX11_worthAt 121 = .ok (.iconst 1, 1) := by decide +kernel
theorem dX11_worthAt_122 : decode cX11_worthAt 122 = .ok (.isub, 1) := by decide +kernel
theorem dX11_worthAt_123 : decode cX11_worthAt 123 = .ok (.iaload, 1) := by decide +kernel
theorem dX11_worthAt_124 : decode cX11_worthAt 124 = .ok (.aload_n 0, 1) := by decide +kernel
theorem dX11_worthAt_125 : decode cX11_worthAt 125 = .ok (.getfield 120, 3) := by decide +kernel
theorem dX11_worthAt_128 : decode cX11_worthAt 128 = .ok (.iload_n 2, 1) := by decide +kernel
theorem dX11_worthAt_129 : decode cX11_worthAt 129 = .ok (.iaload, 1) := by decide +kernel
theorem dX11_worthAt_130 : decode cX11_worthAt 130 = .ok (.invokestatic 273, 3) := by decide +kernel
theorem dX11_worthAt_133 : decode cX11_worthAt 133 = .ok (.iastore, 1) := by decide +kernel
theorem dX11_worthAt_134 : decode cX11_worthAt 134 = .ok (.iinc 3 1, 3) := by decide +kernel
theorem dX11_worthAt_137 : decode cX11_worthAt 137 = .ok (.goto (-133), 3) := by decide +kernel
theorem dX11_worthAt_140 : decode cX11_worthAt 140 = .ok (.aload_n 0, 1) := by decide +kernel
theorem dX11_worthAt_141 : decode cX11_worthAt 141 = .ok (.getfield 120, 3) := by decide +kernel
theorem dX11_worthAt_144 : decode cX11_worthAt 144 = .ok (.iconst 0, 1) := by decide +kernel
theorem dX11_worthAt_145 : decode cX11_worthAt 145 = .ok (.iaload, 1) := by decide +kernel
theorem dX11_worthAt_146 : decode cX11_worthAt 146 = .ok (.ireturn, 1) := by decide +kernel
theorem dX11_both_0 : decode cX11_both 0 = .ok (.iload_n 0, 1) := by decide +kernel
theorem dX11_both_1 : decode cX11_both 1 = .ok (.tableswitch 87 4 9 #[39, 43, 47, 51, 62, 73], 39) := by decide +kernel
theorem dX11_both_40 : decode cX11_both 40 = .ok (.iload_n 1, 1) := by decide +kernel
theorem dX11_both_41 : decode cX11_both 41 = .ok (.iload_n 2, 1) := by decide +kernel
theorem dX11_both_42 : decode cX11_both 42 = .ok (.iadd, 1) := by decide +kernel
theorem dX11_both_43 : decode cX11_both 43 = .ok (.ireturn, 1) := by decide +kernel
theorem dX11_both_44 : decode cX11_both 44 = .ok (.iload_n 1, 1) := by decide +kernel
theorem dX11_both_45 : decode cX11_both 45 = .ok (.iload_n 2, 1) := by decide +kernel
theorem dX11_both_46 : decode cX11_both 46 = .ok (.isub, 1) := by decide +kernel
theorem dX11_both_47 : decode cX11_both 47 = .ok (.ireturn, 1) := by decide +kernel
theorem dX11_both_48 : decode cX11_both 48 = .ok (.iload_n 1, 1) := by decide +kernel
theorem dX11_both_49 : decode cX11_both 49 = .ok (.iload_n 2, 1) := by decide +kernel
theorem dX11_both_50 : decode cX11_both 50 = .ok (.imul, 1) := by decide +kernel
theorem dX11_both_51 : decode cX11_both 51 = .ok (.ireturn, 1) := by decide +kernel
theorem dX11_both_52 : decode cX11_both 52 = .ok (.iload_n 1, 1) := by decide +kernel
theorem dX11_both_53 : decode cX11_both 53 = .ok (.iload_n 2, 1) := by decide +kernel
theorem dX11_both_54 : decode cX11_both 54 = .ok (.if_icmp .ge 7, 3) := by decide +kernel
theorem dX11_both_57 : decode cX11_both 57 = .ok (.iconst 1, 1) := by decide +kernel
theorem dX11_both_58 : decode cX11_both 58 = .ok (.goto 4, 3) := by decide +kernel
theorem dX11_both_61 : decode cX11_both 61 = .ok (.iconst 0, 1) := by decide +kernel
theorem dX11_both_62 : decode cX11_both 62 = .ok (.ireturn, 1) := by decide +kernel
theorem dX11_both_63 : decode cX11_both 63 = .ok (.iload_n 1, 1) := by decide +kernel
theorem dX11_both_64 : decode cX11_both 64 = .ok (.iload_n 2, 1) := by decide +kernel
theorem dX11_both_65 : decode cX11_both 65 = .ok (.if_icmp .ne 7, 3) := by decide +kernel
theorem dX11_both_68 : decode cX11_both 68 = .ok (.iconst 1, 1) := by decide +kernel
theorem dX11_both_69 : decode cX11_both 69 = .ok (.goto 4, 3) := by decide +kernel
theorem dX11_both_72 : decode cX11_both 72 = .ok (.iconst 0, 1) := by decide +kernel
theorem dX11_both_73 : decode cX11_both 73 = .ok (.ireturn, 1) := by decide +kernel
theorem dX11_both_74 : decode cX11_both 74 = .ok (.iload_n 1, 1) := by decide +kernel
theorem dX11_both_75 : decode cX11_both 75 = .ok (.ifCond .eq 11, 3) := by decide +kernel
theorem dX11_both_78 : decode cX11_both 78 = .ok (.iload_n 2, 1) := by decide +kernel
theorem dX11_both_79 : decode cX11_both 79 = .ok (.ifCond .eq 7, 3) := by decide +kernel
theorem dX11_both_82 : decode cX11_both 82 = .ok (.iconst 1, 1) := by decide +kernel
theorem dX11_both_83 : decode cX11_both 83 = .ok (.goto 4, 3) := by decide +kernel
theorem dX11_both_86 : decode cX11_both 86 = .ok (.iconst 0, 1) := by decide +kernel
theorem dX11_both_87 : decode cX11_both 87 = .ok (.ireturn, 1) := by decide +kernel
theorem dX11_both_88 : decode cX11_both 88 = .ok (.iload_n 1, 1) := by decide +kernel
theorem dX11_both_89 : decode cX11_both 89 = .ok (.ifCond .ne 7, 3) := by decide +kernel
theorem dX11_both_92 : decode cX11_both 92 = .ok (.iload_n 2, 1) := by decide +kernel
theorem dX11_both_93 : decode cX11_both 93 = .ok (.ifCond .eq 7, 3) := by decide +kernel
theorem dX11_both_96 : decode cX11_both 96 = .ok (.iconst 1, 1) := by decide +kernel
theorem dX11_both_97 : decode cX11_both 97 = .ok (.goto 4, 3) := by decide +kernel
theorem dX11_both_100 : decode cX11_both 100 = .ok (.iconst 0, 1) := by decide +kernel
theorem dX11_both_101 : decode cX11_both 101 = .ok (.ireturn, 1) := by decide +kernel
theorem dX11_copies_0 : decode cX11_copies 0 = .ok (.iconst 0, 1) := by decide +kernel
theorem dX11_copies_1 : decode cX11_copies 1 = .ok (.istore 4, 2) := by decide +kernel
theorem dX11_copies_3 : decode cX11_copies 3 = .ok (.iload 4, 2) := by decide +kernel
theorem dX11_copies_5 : decode cX11_copies 5 = .ok (.iload_n 3, 1) := by decide +kernel
theorem dX11_copies_6 : decode cX11_copies 6 = .ok (.if_icmp .ge 27, 3) := by decide +kernel
theorem dX11_copies_9 : decode cX11_copies 9 = .ok (.aload_n 0, 1) := by decide +kernel
theorem dX11_copies_10 : decode cX11_copies 10 = .ok (.getfield 123, 3) := by decide +kernel
theorem dX11_copies_13 : decode cX11_copies 13 = .ok (.iload_n 2, 1) := by decide +kernel
theorem dX11_copies_14 : decode cX11_copies 14 = .ok (.iload 4, 2) := by decide +kernel
theorem dX11_copies_16 : decode cX11_copies 16 = .ok (.iadd, 1) := by decide +kernel
theorem dX11_copies_17 : decode cX11_copies 17 = .ok (.aload_n 0, 1) := by decide +kernel
theorem dX11_copies_18 : decode cX11_copies 18 = .ok (.getfield 123, 3) := by decide +kernel
theorem dX11_copies_21 : decode cX11_copies 21 = .ok (.iload_n 1, 1) := by decide +kernel
theorem dX11_copies_22 : decode cX11_copies 22 = .ok (.iload 4, 2) := by decide +kernel
theorem dX11_copies_24 : decode cX11_copies 24 = .ok (.iadd, 1) := by decide +kernel
theorem dX11_copies_25 : decode cX11_copies 25 = .ok (.iaload, 1) := by decide +kernel
theorem dX11_copies_26 : decode cX11_copies 26 = .ok (.iastore, 1) := by decide +kernel
theorem dX11_copies_27 : decode cX11_copies 27 = .ok (.iinc 4 1, 3) := by decide +kernel
theorem dX11_copies_30 : decode cX11_copies 30 = .ok (.goto (-27), 3) := by decide +kernel
theorem dX11_copies_33 : decode cX11_copies 33 = .ok (.return_, 1) := by decide +kernel
theorem dX11_starts_0 : decode cX11_starts 0 = .ok (.iconst 0, 1) := by decide +kernel
theorem dX11_starts_1 : decode cX11_starts 1 = .ok (.istore_n 2, 1) := by decide +kernel
theorem dX11_starts_2 : decode cX11_starts 2 = .ok (.iload_n 2, 1) := by decide +kernel
theorem dX11_starts_3 : decode cX11_starts 3 = .ok (.bipush 31, 2) := by decide +kernel
theorem dX11_starts_5 : decode cX11_starts 5 = .ok (.if_icmp .ge 18, 3) := by decide +kernel
theorem dX11_starts_8 : decode cX11_starts 8 = .ok (.aload_n 0, 1) := by decide +kernel
theorem dX11_starts_9 : decode cX11_starts 9 = .ok (.getfield 123, 3) := by decide +kernel
theorem dX11_starts_12 : decode cX11_starts 12 = .ok (.iload_n 1, 1) := by decide +kernel
theorem dX11_starts_13 : decode cX11_starts 13 = .ok (.iload_n 2, 1) := by decide +kernel
theorem dX11_starts_14 : decode cX11_starts 14 = .ok (.iadd, 1) := by decide +kernel
theorem dX11_starts_15 : decode cX11_starts 15 = .ok (.iconst 0, 1) := by decide +kernel
theorem dX11_starts_16 : decode cX11_starts 16 = .ok (.iastore, 1) := by decide +kernel
theorem dX11_starts_17 : decode cX11_starts 17 = .ok (.iinc 2 1, 3) := by decide +kernel
theorem dX11_starts_20 : decode cX11_starts 20 = .ok (.goto (-18), 3) := by decide +kernel
theorem dX11_starts_23 : decode cX11_starts 23 = .ok (.iconst 0, 1) := by decide +kernel
theorem dX11_starts_24 : decode cX11_starts 24 = .ok (.istore_n 2, 1) := by decide +kernel
theorem dX11_starts_25 : decode cX11_starts 25 = .ok (.iload_n 2, 1) := by decide +kernel
theorem dX11_starts_26 : decode cX11_starts 26 = .ok (.aload_n 0, 1) := by decide +kernel
theorem dX11_starts_27 : decode cX11_starts 27 = .ok (.invokevirtual 276, 3) := by decide +kernel
theorem dX11_starts_30 : decode cX11_starts 30 = .ok (.if_icmp .ge 56, 3) := by decide +kernel
theorem dX11_starts_33 : decode cX11_starts 33 = .ok (.aload_n 0, 1) := by decide +kernel
theorem dX11_starts_34 : decode cX11_starts 34 = .ok (.getfield 123, 3) := by decide +kernel
theorem dX11_starts_37 : decode cX11_starts 37 = .ok (.iload_n 1, 1) := by decide +kernel
theorem dX11_starts_38 : decode cX11_starts 38 = .ok (.bipush 19, 2) := by decide +kernel
theorem dX11_starts_40 : decode cX11_starts 40 = .ok (.iadd, 1) := by decide +kernel
theorem dX11_starts_41 : decode cX11_starts 41 = .ok (.iload_n 2, 1) := by decide +kernel
theorem dX11_starts_42 : decode cX11_starts 42 = .ok (.iadd, 1) := by decide +kernel
theorem dX11_starts_43 : decode cX11_starts 43 = .ok (.aload_n 0, 1) := by decide +kernel
theorem dX11_starts_44 : decode cX11_starts 44 = .ok (.invokevirtual 280, 3) := by decide +kernel
theorem dX11_starts_47 : decode cX11_starts 47 = .ok (.ifCond .ne 7, 3) := by decide +kernel
theorem dX11_starts_50 : decode cX11_starts 50 = .ok (.iconst (-1), 1) := by decide +kernel
theorem dX11_starts_51 : decode cX11_starts 51 = .ok (.goto 4, 3) := by decide +kernel
theorem dX11_starts_54 : decode cX11_starts 54 = .ok (.iconst 0, 1) := by decide +kernel
theorem dX11_starts_55 : decode cX11_starts 55 = .ok (.iastore, 1) := by decide +kernel
theorem dX11_starts_56 : decode cX11_starts 56 = .ok (.aload_n 0, 1) := by decide +kernel
theorem dX11_starts_57 : decode cX11_starts 57 = .ok (.getfield 123, 3) := by decide +kernel
theorem dX11_starts_60 : decode cX11_starts 60 = .ok (.iload_n 1, 1) := by decide +kernel
theorem dX11_starts_61 : decode cX11_starts 61 = .ok (.bipush 23, 2) := by decide +kernel
theorem dX11_starts_63 : decode cX11_starts 63 = .ok (.iadd, 1) := by decide +kernel
theorem dX11_starts_64 : decode cX11_starts 64 = .ok (.iload_n 2, 1) := by decide +kernel
theorem dX11_starts_65 : decode cX11_starts 65 = .ok (.iadd, 1) := by decide +kernel
theorem dX11_starts_66 : decode cX11_starts 66 = .ok (.aload_n 0, 1) := by decide +kernel
theorem dX11_starts_67 : decode cX11_starts 67 = .ok (.getfield 93, 3) := by decide +kernel
theorem dX11_starts_70 : decode cX11_starts 70 = .ok (.bipush 44, 2) := by decide +kernel
theorem dX11_starts_72 : decode cX11_starts 72 = .ok (.iconst 2, 1) := by decide +kernel
theorem dX11_starts_73 : decode cX11_starts 73 = .ok (.iload_n 2, 1) := by decide +kernel
theorem dX11_starts_74 : decode cX11_starts 74 = .ok (.imul, 1) := by decide +kernel
theorem dX11_starts_75 : decode cX11_starts 75 = .ok (.iadd, 1) := by decide +kernel
theorem dX11_starts_76 : decode cX11_starts 76 = .ok (.iconst 1, 1) := by decide +kernel
theorem dX11_starts_77 : decode cX11_starts 77 = .ok (.iadd, 1) := by decide +kernel
theorem dX11_starts_78 : decode cX11_starts 78 = .ok (.iaload, 1) := by decide +kernel
theorem dX11_starts_79 : decode cX11_starts 79 = .ok (.iastore, 1) := by decide +kernel
theorem dX11_starts_80 : decode cX11_starts 80 = .ok (.iinc 2 1, 3) := by decide +kernel
theorem dX11_starts_83 : decode cX11_starts 83 = .ok (.goto (-58), 3) := by decide +kernel
theorem dX11_starts_86 : decode cX11_starts 86 = .ok (.return_, 1) := by decide +kernel
theorem dX11_begins_0 : decode cX11_begins 0 = .ok (.aload_n 0, 1) := by decide +kernel
theorem dX11_begins_1 : decode cX11_begins 1 = .ok (.iconst 0, 1) := by decide +kernel
theorem dX11_begins_2 : decode cX11_begins 2 = .ok (.invokevirtual 283, 3) := by decide +kernel
theorem dX11_begins_5 : decode cX11_begins 5 = .ok (.aload_n 0, 1) := by decide +kernel
theorem dX11_begins_6 : decode cX11_begins 6 = .ok (.getfield 123, 3) := by decide +kernel
theorem dX11_begins_9 : decode cX11_begins 9 = .ok (.bipush 31, 2) := by decide +kernel
theorem dX11_begins_11 : decode cX11_begins 11 = .ok (.iconst 0, 1) := by decide +kernel
theorem dX11_begins_12 : decode cX11_begins 12 = .ok (.iastore, 1) := by decide +kernel
theorem dX11_begins_13 : decode cX11_begins 13 = .ok (.aload_n 0, 1) := by decide +kernel
theorem dX11_begins_14 : decode cX11_begins 14 = .ok (.getfield 114, 3) := by decide +kernel
theorem dX11_begins_17 : decode cX11_begins 17 = .ok (.iconst 0, 1) := by decide +kernel
theorem dX11_begins_18 : decode cX11_begins 18 = .ok (.iconst 0, 1) := by decide +kernel
theorem dX11_begins_19 : decode cX11_begins 19 = .ok (.iastore, 1) := by decide +kernel
theorem dX11_begins_20 : decode cX11_begins 20 = .ok (.aload_n 0, 1) := by decide +kernel
theorem dX11_begins_21 : decode cX11_begins 21 = .ok (.iconst 0, 1) := by decide +kernel
theorem dX11_begins_22 : decode cX11_begins 22 = .ok (.putfield 286, 3) := by decide +kernel
theorem dX11_begins_25 : decode cX11_begins 25 = .ok (.iconst 0, 1) := by decide +kernel
theorem dX11_begins_26 : decode cX11_begins 26 = .ok (.istore_n 1, 1) := by decide +kernel
theorem dX11_begins_27 : decode cX11_begins 27 = .ok (.iload_n 1, 1) := by decide +kernel
theorem dX11_begins_28 : decode cX11_begins 28 = .ok (.iconst 4, 1) := by decide +kernel
theorem dX11_begins_29 : decode cX11_begins 29 = .ok (.if_icmp .ge 16, 3) := by decide +kernel
theorem dX11_begins_32 : decode cX11_begins 32 = .ok (.aload_n 0, 1) := by decide +kernel
theorem dX11_begins_33 : decode cX11_begins 33 = .ok (.getfield 126, 3) := by decide +kernel
theorem dX11_begins_36 : decode cX11_begins 36 = .ok (.iload_n 1, 1) := by decide +kernel
theorem dX11_begins_37 : decode cX11_begins 37 = .ok (.iconst 0, 1) := by decide +kernel
theorem dX11_begins_38 : decode cX11_begins 38 = .ok (.bastore, 1) := by decide +kernel
theorem dX11_begins_39 : decode cX11_begins 39 = .ok (.iinc 1 1, 3) := by decide +kernel
theorem dX11_begins_42 : decode cX11_begins 42 = .ok (.goto (-15), 3) := by decide +kernel
theorem dX11_begins_45 : decode cX11_begins 45 = .ok (.return_, 1) := by decide +kernel
theorem dX11_keeps_0 : decode cX11_keeps 0 = .ok (.aload_n 0, 1) := by decide +kernel
theorem dX11_keeps_1 : decode cX11_keeps 1 = .ok (.getfield 286, 3) := by decide +kernel
theorem dX11_keeps_4 : decode cX11_keeps 4 = .ok (.bipush 16, 2) := by decide +kernel
theorem dX11_keeps_6 : decode cX11_keeps 6 = .ok (.if_icmp .ne 47, 3) := by decide +kernel
theorem dX11_keeps_9 : decode cX11_keeps 9 = .ok (.iconst 1, 1) := by decide +kernel
theorem dX11_keeps_10 : decode cX11_keeps 10 = .ok (.istore_n 1, 1) := by decide +kernel
theorem dX11_keeps_11 : decode cX11_keeps 11 = .ok (.iload_n 1, 1) := by decide +kernel
theorem dX11_keeps_12 : decode cX11_keeps 12 = .ok (.bipush 16, 2) := by decide +kernel
theorem dX11_keeps_14 : decode cX11_keeps 14 = .ok (.if_icmp .ge 29, 3) := by decide +kernel
theorem dX11_keeps_17 : decode cX11_keeps 17 = .ok (.aload_n 0, 1) := by decide +kernel
theorem dX11_keeps_18 : decode cX11_keeps 18 = .ok (.bipush 48, 2) := by decide +kernel
theorem dX11_keeps_20 : decode cX11_keeps 20 = .ok (.iconst 5, 1) := by decide +kernel
theorem dX11_keeps_21 : decode cX11_keeps 21 = .ok (.iload_n 1, 1) := by decide +kernel
theorem dX11_keeps_22 : decode cX11_keeps 22 = .ok (.iadd, 1) := by decide +kernel
theorem dX11_keeps_23 : decode cX11_keeps 23 = .ok (.imul, 1) := by decide +kernel
theorem dX11_keeps_24 : decode cX11_keeps 24 = .ok (.bipush 48, 2) := by decide +kernel
theorem dX11_keeps_26 : decode cX11_keeps 26 = .ok (.iconst 5, 1) := by decide +kernel
theorem dX11_keeps_27 : decode cX11_keeps 27 = .ok (.iload_n 1, 1) := by decide +kernel
theorem dX11_keeps_28 : decode cX11_keeps 28 = .ok (.iadd, 1) := by decide +kernel
theorem dX11_keeps_29 : decode cX11_keeps 29 = .ok (.iconst 1, 1) := by decide +kernel
theorem dX11_keeps_30 : decode cX11_keeps 30 = .ok (.isub, 1) := by decide +kernel
theorem dX11_keeps_31 : decode cX11_keeps 31 = .ok (.imul, 1) := by decide +kernel
theorem dX11_keeps_32 : decode cX11_keeps 32 = .ok (.bipush 31, 2) := by decide +kernel
theorem dX11_keeps_34 : decode cX11_keeps 34 = .ok (.invokevirtual 289, 3) := by decide +kernel
theorem dX11_keeps_37 : decode cX11_keeps 37 = .ok (.iinc 1 1, 3) := by decide +kernel
theorem dX11_keeps_40 : decode cX11_keeps 40 = .ok (.goto (-29), 3) := by decide +kernel
theorem dX11_keeps_43 : decode cX11_keeps 43 = .ok (.aload_n 0, 1) := by decide +kernel
theorem dX11_keeps_44 : decode cX11_keeps 44 = .ok (.dup, 1) := by decide +kernel
theorem dX11_keeps_45 : decode cX11_keeps 45 = .ok (.getfield 286, 3) := by decide +kernel
theorem dX11_keeps_48 : decode cX11_keeps 48 = .ok (.iconst 1, 1) := by decide +kernel
theorem dX11_keeps_49 : decode cX11_keeps 49 = .ok (.isub, 1) := by decide +kernel
theorem dX11_keeps_50 : decode cX11_keeps 50 = .ok (.putfield 286, 3) := by decide +kernel
theorem dX11_keeps_53 : decode cX11_keeps 53 = .ok (.aload_n 0, 1) := by decide +kernel
theorem dX11_keeps_54 : decode cX11_keeps 54 = .ok (.iconst 0, 1) := by decide +kernel
theorem dX11_keeps_55 : decode cX11_keeps 55 = .ok (.bipush 48, 2) := by decide +kernel
theorem dX11_keeps_57 : decode cX11_keeps 57 = .ok (.iconst 5, 1) := by decide +kernel
theorem dX11_keeps_58 : decode cX11_keeps 58 = .ok (.aload_n 0, 1) := by decide +kernel
theorem dX11_keeps_59 : decode cX11_keeps 59 = .ok (.getfield 286, 3) := by decide +kernel
theorem dX11_keeps_62 : decode cX11_keeps 62 = .ok (.iadd, 1) := by decide +kernel
theorem dX11_keeps_63 : decode cX11_keeps 63 = .ok (.imul, 1) := by decide +kernel
theorem dX11_keeps_64 : decode cX11_keeps 64 = .ok (.bipush 31, 2) := by decide +kernel
theorem dX11_keeps_66 : decode cX11_keeps 66 = .ok (.invokevirtual 289, 3) := by decide +kernel
theorem dX11_keeps_69 : decode cX11_keeps 69 = .ok (.aload_n 0, 1) := by decide +kernel
theorem dX11_keeps_70 : decode cX11_keeps 70 = .ok (.dup, 1) := by decide +kernel
theorem dX11_keeps_71 : decode cX11_keeps 71 = .ok (.getfield 286, 3) := by decide +kernel
theorem dX11_keeps_74 : decode cX11_keeps 74 = .ok (.iconst 1, 1) := by decide +kernel
theorem dX11_keeps_75 : decode cX11_keeps 75 = .ok (.iadd, 1) := by decide +kernel
theorem dX11_keeps_76 : decode cX11_keeps 76 = .ok (.putfield 286, 3) := by decide +kernel
theorem dX11_keeps_79 : decode cX11_keeps 79 = .ok (.return_, 1) := by decide +kernel
theorem dX11_places_0 : decode cX11_places 0 = .ok (.aload_n 0, 1) := by decide +kernel
theorem dX11_places_1 : decode cX11_places 1 = .ok (.getfield 93, 3) := by decide +kernel
theorem dX11_places_4 : decode cX11_places 4 = .ok (.iconst 0, 1) := by decide +kernel
theorem dX11_places_5 : decode cX11_places 5 = .ok (.iaload, 1) := by decide +kernel
theorem dX11_places_6 : decode cX11_places 6 = .ok (.ireturn, 1) := by decide +kernel
theorem dX11_ways_0 : decode cX11_ways 0 = .ok (.aload_n 0, 1) := by decide +kernel
theorem dX11_ways_1 : decode cX11_ways 1 = .ok (.getfield 93, 3) := by decide +kernel
theorem dX11_ways_4 : decode cX11_ways 4 = .ok (.iconst 1, 1) := by decide +kernel
theorem dX11_ways_5 : decode cX11_ways 5 = .ok (.iaload, 1) := by decide +kernel
theorem dX11_ways_6 : decode cX11_ways 6 = .ok (.ireturn, 1) := by decide +kernel
theorem dX11_divers_0 : decode cX11_divers 0 = .ok (.aload_n 0, 1) := by decide +kernel
theorem dX11_divers_1 : decode cX11_divers 1 = .ok (.getfield 93, 3) := by decide +kernel
theorem dX11_divers_4 : decode cX11_divers 4 = .ok (.iconst 2, 1) := by decide +kernel
theorem dX11_divers_5 : decode cX11_divers 5 = .ok (.iaload, 1) := by decide +kernel
theorem dX11_divers_6 : decode cX11_divers 6 = .ok (.ireturn, 1) := by decide +kernel
theorem dX11_wayOf_0 : decode cX11_wayOf 0 = .ok (.aload_n 0, 1) := by decide +kernel
theorem dX11_wayOf_1 : decode cX11_wayOf 1 = .ok (.getfield 93, 3) := by decide +kernel
theorem dX11_wayOf_4 : decode cX11_wayOf 4 = .ok (.bipush 12, 2) := by decide +kernel
theorem dX11_wayOf_6 : decode cX11_wayOf 6 = .ok (.iconst 4, 1) := by decide +kernel
theorem dX11_wayOf_7 : decode cX11_wayOf 7 = .ok (.iload_n 1, 1) := by decide +kernel
theorem dX11_wayOf_8 : decode cX11_wayOf 8 = .ok (.imul, 1) := by decide +kernel
theorem dX11_wayOf_9 : decode cX11_wayOf 9 = .ok (.iadd, 1) := by decide +kernel
theorem dX11_wayOf_10 : decode cX11_wayOf 10 = .ok (.iload_n 2, 1) := by decide +kernel
theorem dX11_wayOf_11 : decode cX11_wayOf 11 = .ok (.iadd, 1) := by decide +kernel
theorem dX11_wayOf_12 : decode cX11_wayOf 12 = .ok (.iaload, 1) := by decide +kernel
theorem dX11_wayOf_13 : decode cX11_wayOf 13 = .ok (.ireturn, 1) := by decide +kernel
theorem dX11_kindOf_0 : decode cX11_kindOf 0 = .ok (.aload_n 0, 1) := by decide +kernel
theorem dX11_kindOf_1 : decode cX11_kindOf 1 = .ok (.getfield 93, 3) := by decide +kernel
theorem dX11_kindOf_4 : decode cX11_kindOf 4 = .ok (.bipush 44, 2) := by decide +kernel
theorem dX11_kindOf_6 : decode cX11_kindOf 6 = .ok (.iconst 2, 1) := by decide +kernel
theorem dX11_kindOf_7 : decode cX11_kindOf 7 = .ok (.iload_n 1, 1) := by decide +kernel
theorem dX11_kindOf_8 : decode cX11_kindOf 8 = .ok (.imul, 1) := by decide +kernel
theorem dX11_kindOf_9 : decode cX11_kindOf 9 = .ok (.iadd, 1) := by decide +kernel
theorem dX11_kindOf_10 : decode cX11_kindOf 10 = .ok (.iaload, 1) := by decide +kernel
theorem dX11_kindOf_11 : decode cX11_kindOf 11 = .ok (.ireturn, 1) := by decide +kernel
theorem dX11_isPlace_0 : decode cX11_isPlace 0 = .ok (.iload_n 1, 1) := by decide +kernel
theorem dX11_isPlace_1 : decode cX11_isPlace 1 = .ok (.ifCond .lt 15, 3) := by decide +kernel
theorem dX11_isPlace_4 : decode cX11_isPlace 4 = .ok (.iload_n 1, 1) := by decide +kernel
theorem dX11_isPlace_5 : decode cX11_isPlace 5 = .ok (.aload_n 0, 1) := by decide +kernel
theorem dX11_isPlace_6 : decode cX11_isPlace 6 = .ok (.invokevirtual 280, 3) := by decide +kernel
theorem dX11_isPlace_9 : decode cX11_isPlace 9 = .ok (.if_icmp .ge 7, 3) := by decide +kernel
theorem dX11_isPlace_12 : decode cX11_isPlace 12 = .ok (.iconst 1, 1) := by decide +kernel
theorem dX11_isPlace_13 : decode cX11_isPlace 13 = .ok (.goto 4, 3) := by decide +kernel
theorem dX11_isPlace_16 : decode cX11_isPlace 16 = .ok (.iconst 0, 1) := by decide +kernel
theorem dX11_isPlace_17 : decode cX11_isPlace 17 = .ok (.ireturn, 1) := by decide +kernel
theorem dX11_isWay_0 : decode cX11_isWay 0 = .ok (.iload_n 1, 1) := by decide +kernel
theorem dX11_isWay_1 : decode cX11_isWay 1 = .ok (.ifCond .lt 15, 3) := by decide +kernel
theorem dX11_isWay_4 : decode cX11_isWay 4 = .ok (.iload_n 1, 1) := by decide +kernel
theorem dX11_isWay_5 : decode cX11_isWay 5 = .ok (.aload_n 0, 1) := by decide +kernel
theorem dX11_isWay_6 : decode cX11_isWay 6 = .ok (.invokevirtual 292, 3) := by decide +kernel
theorem dX11_isWay_9 : decode cX11_isWay 9 = .ok (.if_icmp .ge 7, 3) := by decide +kernel
theorem dX11_isWay_12 : decode cX11_isWay 12 = .ok (.iconst 1, 1) := by decide +kernel
theorem dX11_isWay_13 : decode cX11_isWay 13 = .ok (.goto 4, 3) := by decide +kernel
theorem dX11_isWay_16 : decode cX11_isWay 16 = .ok (.iconst 0, 1) := by decide +kernel
theorem dX11_isWay_17 : decode cX11_isWay 17 = .ok (.ireturn, 1) := by decide +kernel
theorem dX11_isDiver_0 : decode cX11_isDiver 0 = .ok (.iload_n 1, 1) := by decide +kernel
theorem dX11_isDiver_1 : decode cX11_isDiver 1 = .ok (.ifCond .lt 15, 3) := by decide +kernel
theorem dX11_isDiver_4 : decode cX11_isDiver 4 = .ok (.iload_n 1, 1) := by decide +kernel
theorem dX11_isDiver_5 : decode cX11_isDiver 5 = .ok (.aload_n 0, 1) := by decide +kernel
theorem dX11_isDiver_6 : decode cX11_isDiver 6 = .ok (.invokevirtual 276, 3) := by decide +kernel
theorem dX11_isDiver_9 : decode cX11_isDiver 9 = .ok (.if_icmp .ge 7, 3) := by decide +kernel
theorem dX11_isDiver_12 : decode cX11_isDiver 12 = .ok (.iconst 1, 1) := by decide +kernel
theorem dX11_isDiver_13 : decode cX11_isDiver 13 = .ok (.goto 4, 3) := by decide +kernel
theorem dX11_isDiver_16 : decode cX11_isDiver 16 = .ok (.iconst 0, 1) := by decide +kernel
theorem dX11_isDiver_17 : decode cX11_isDiver 17 = .ok (.ireturn, 1) := by decide +kernel
theorem dX11_rainOn_0 : decode cX11_rainOn 0 = .ok (.aload_n 0, 1) := by decide +kernel
theorem dX11_rainOn_1 : decode cX11_rainOn 1 = .ok (.getfield 93, 3) := by decide +kernel
theorem dX11_rainOn_4 : decode cX11_rainOn 4 = .ok (.bipush 52, 2) := by decide +kernel
theorem dX11_rainOn_6 : decode cX11_rainOn 6 = .ok (.iload_n 1, 1) := by decide +kernel
theorem dX11_rainOn_7 : decode cX11_rainOn 7 = .ok (.aload_n 0, 1) := by decide +kernel
theorem dX11_rainOn_8 : decode cX11_rainOn 8 = .ok (.getfield 93, 3) := by decide +kernel
theorem dX11_rainOn_11 : decode cX11_rainOn 11 = .ok (.iconst 3, 1) := by decide +kernel
theorem dX11_rainOn_12 : decode cX11_rainOn 12 = .ok (.iaload, 1) := by decide +kernel
theorem dX11_rainOn_13 : decode cX11_rainOn 13 = .ok (.irem, 1) := by decide +kernel
theorem dX11_rainOn_14 : decode cX11_rainOn 14 = .ok (.iadd, 1) := by decide +kernel
theorem dX11_rainOn_15 : decode cX11_rainOn 15 = .ok (.iaload, 1) := by decide +kernel
theorem dX11_rainOn_16 : decode cX11_rainOn 16 = .ok (.ireturn, 1) := by decide +kernel
theorem dX11_bits_0 : decode cX11_bits 0 = .ok (.iconst 0, 1) := by decide +kernel
theorem dX11_bits_1 : decode cX11_bits 1 = .ok (.istore_n 1, 1) := by decide +kernel
theorem dX11_bits_2 : decode cX11_bits 2 = .ok (.iconst 0, 1) := by decide +kernel
theorem dX11_bits_3 : decode cX11_bits 3 = .ok (.istore_n 2, 1) := by decide +kernel
theorem dX11_bits_4 : decode cX11_bits 4 = .ok (.iload_n 2, 1) := by decide +kernel
theorem dX11_bits_5 : decode cX11_bits 5 = .ok (.bipush 30, 2) := by decide +kernel
theorem dX11_bits_7 : decode cX11_bits 7 = .ok (.if_icmp .ge 17, 3) := by decide +kernel
theorem dX11_bits_10 : decode cX11_bits 10 = .ok (.iload_n 1, 1) := by decide +kernel
theorem dX11_bits_11 : decode cX11_bits 11 = .ok (.iload_n 0, 1) := by decide +kernel
theorem dX11_bits_12 : decode cX11_bits 12 = .ok (.iload_n 2, 1) := by decide +kernel
theorem dX11_bits_13 : decode cX11_bits 13 = .ok (.ishr, 1) := by decide +kernel
theorem dX11_bits_14 : decode cX11_bits 14 = .ok (.iconst 1, 1) := by decide +kernel
theorem dX11_bits_15 : decode cX11_bits 15 = .ok (.iand, 1) := by decide +kernel
theorem dX11_bits_16 : decode cX11_bits 16 = .ok (.iadd, 1) := by decide +kernel
theorem dX11_bits_17 : decode cX11_bits 17 = .ok (.istore_n 1, 1) := by decide +kernel
theorem dX11_bits_18 : decode cX11_bits 18 = .ok (.iinc 2 1, 3) := by decide +kernel
theorem dX11_bits_21 : decode cX11_bits 21 = .ok (.goto (-17), 3) := by decide +kernel
theorem dX11_bits_24 : decode cX11_bits 24 = .ok (.iload_n 1, 1) := by decide +kernel
theorem dX11_bits_25 : decode cX11_bits 25 = .ok (.ireturn, 1) := by decide +kernel
theorem dX11_sumOf_0 : decode cX11_sumOf 0 = .ok (.iconst 0, 1) := by decide +kernel
theorem dX11_sumOf_1 : decode cX11_sumOf 1 = .ok (.istore_n 3, 1) := by decide +kernel
theorem dX11_sumOf_2 : decode cX11_sumOf 2 = .ok (.iconst 0, 1) := by decide +kernel
theorem dX11_sumOf_3 : decode cX11_sumOf 3 = .ok (.istore 4, 2) := by decide +kernel
theorem dX11_sumOf_5 : decode cX11_sumOf 5 = .ok (.iload 4, 2) := by decide +kernel
theorem dX11_sumOf_7 : decode cX11_sumOf 7 = .ok (.iload_n 2, 1) := by decide +kernel
theorem dX11_sumOf_8 : decode cX11_sumOf 8 = .ok (.if_icmp .ge 21, 3) := by decide +kernel
theorem dX11_sumOf_11 : decode cX11_sumOf 11 = .ok (.iload_n 3, 1) := by decide +kernel
theorem dX11_sumOf_12 : decode cX11_sumOf 12 = .ok (.aload_n 0, 1) := by decide +kernel
theorem dX11_sumOf_13 : decode cX11_sumOf 13 = .ok (.getfield 123, 3) := by decide +kernel
theorem dX11_sumOf_16 : decode cX11_sumOf 16 = .ok (.iload_n 1, 1) := by decide +kernel
theorem dX11_sumOf_17 : decode cX11_sumOf 17 = .ok (.iload 4, 2) := by decide +kernel
theorem dX11_sumOf_19 : decode cX11_sumOf 19 = .ok (.iadd, 1) := by decide +kernel
theorem dX11_sumOf_20 : decode cX11_sumOf 20 = .ok (.iaload, 1) := by decide +kernel
theorem dX11_sumOf_21 : decode cX11_sumOf 21 = .ok (.iadd, 1) := by decide +kernel
theorem dX11_sumOf_22 : decode cX11_sumOf 22 = .ok (.istore_n 3, 1) := by decide +kernel
theorem dX11_sumOf_23 : decode cX11_sumOf 23 = .ok (.iinc 4 1, 3) := by decide +kernel
theorem dX11_sumOf_26 : decode cX11_sumOf 26 = .ok (.goto (-21), 3) := by decide +kernel
theorem dX11_sumOf_29 : decode cX11_sumOf 29 = .ok (.iload_n 3, 1) := by decide +kernel
theorem dX11_sumOf_30 : decode cX11_sumOf 30 = .ok (.ireturn, 1) := by decide +kernel
theorem dX11_isDrowned_0 : decode cX11_isDrowned 0 = .ok (.aload_n 0, 1) := by decide +kernel
theorem dX11_isDrowned_1 : decode cX11_isDrowned 1 = .ok (.getfield 123, 3) := by decide +kernel
theorem dX11_isDrowned_4 : decode cX11_isDrowned 4 = .ok (.iload_n 1, 1) := by decide +kernel
theorem dX11_isDrowned_5 : decode cX11_isDrowned 5 = .ok (.iconst 2, 1) := by decide +kernel
theorem dX11_isDrowned_6 : decode cX11_isDrowned 6 = .ok (.iadd, 1) := by decide +kernel
theorem dX11_isDrowned_7 : decode cX11_isDrowned 7 = .ok (.iaload, 1) := by decide +kernel
theorem dX11_isDrowned_8 : decode cX11_isDrowned 8 = .ok (.iload_n 2, 1) := by decide +kernel
theorem dX11_isDrowned_9 : decode cX11_isDrowned 9 = .ok (.ishr, 1) := by decide +kernel
theorem dX11_isDrowned_10 : decode cX11_isDrowned 10 = .ok (.iconst 1, 1) := by decide +kernel
theorem dX11_isDrowned_11 : decode cX11_isDrowned 11 = .ok (.iand, 1) := by decide +kernel
theorem dX11_isDrowned_12 : decode cX11_isDrowned 12 = .ok (.iconst 1, 1) := by decide +kernel
theorem dX11_isDrowned_13 : decode cX11_isDrowned 13 = .ok (.if_icmp .ne 7, 3) := by decide +kernel
theorem dX11_isDrowned_16 : decode cX11_isDrowned 16 = .ok (.iconst 1, 1) := by decide +kernel
theorem dX11_isDrowned_17 : decode cX11_isDrowned 17 = .ok (.goto 4, 3) := by decide +kernel
theorem dX11_isDrowned_20 : decode cX11_isDrowned 20 = .ok (.iconst 0, 1) := by decide +kernel
theorem dX11_isDrowned_21 : decode cX11_isDrowned 21 = .ok (.ireturn, 1) := by decide +kernel
theorem dX11_hasThread_0 : decode cX11_hasThread 0 = .ok (.aload_n 0, 1) := by decide +kernel
theorem dX11_hasThread_1 : decode cX11_hasThread 1 = .ok (.getfield 123, 3) := by decide +kernel
theorem dX11_hasThread_4 : decode cX11_hasThread 4 = .ok (.iload_n 1, 1) := by decide +kernel
theorem dX11_hasThread_5 : decode cX11_hasThread 5 = .ok (.iconst 1, 1) := by decide +kernel
theorem dX11_hasThread_6 : decode cX11_hasThread 6 = .ok (.iadd, 1) := by decide +kernel
theorem dX11_hasThread_7 : decode cX11_hasThread 7 = .ok (.iaload, 1) := by decide +kernel
theorem dX11_hasThread_8 : decode cX11_hasThread 8 = .ok (.iload_n 2, 1) := by decide +kernel
theorem dX11_hasThread_9 : decode cX11_hasThread 9 = .ok (.ishr, 1) := by decide +kernel
theorem dX11_hasThread_10 : decode cX11_hasThread 10 = .ok (.iconst 1, 1) := by decide +kernel
theorem dX11_hasThread_11 : decode cX11_hasThread 11 = .ok (.iand, 1) := by decide +kernel
theorem dX11_hasThread_12 : decode cX11_hasThread 12 = .ok (.iconst 1, 1) := by decide +kernel
theorem dX11_hasThread_13 : decode cX11_hasThread 13 = .ok (.if_icmp .ne 7, 3) := by decide +kernel
theorem dX11_hasThread_16 : decode cX11_hasThread 16 = .ok (.iconst 1, 1) := by decide +kernel
theorem dX11_hasThread_17 : decode cX11_hasThread 17 = .ok (.goto 4, 3) := by decide +kernel
theorem dX11_hasThread_20 : decode cX11_hasThread 20 = .ok (.iconst 0, 1) := by decide +kernel
theorem dX11_hasThread_21 : decode cX11_hasThread 21 = .ok (.ireturn, 1) := by decide +kernel
theorem dX11_isBlind_0 : decode cX11_isBlind 0 = .ok (.aload_n 0, 1) := by decide +kernel
theorem dX11_isBlind_1 : decode cX11_isBlind 1 = .ok (.getfield 123, 3) := by decide +kernel
theorem dX11_isBlind_4 : decode cX11_isBlind 4 = .ok (.iload_n 1, 1) := by decide +kernel
theorem dX11_isBlind_5 : decode cX11_isBlind 5 = .ok (.iconst 4, 1) := by decide +kernel
theorem dX11_isBlind_6 : decode cX11_isBlind 6 = .ok (.iadd, 1) := by decide +kernel
theorem dX11_isBlind_7 : decode cX11_isBlind 7 = .ok (.iload_n 2, 1) := by decide +kernel
theorem dX11_isBlind_8 : decode cX11_isBlind 8 = .ok (.iadd, 1) := by decide +kernel
theorem dX11_isBlind_9 : decode cX11_isBlind 9 = .ok (.iaload, 1) := by decide +kernel
theorem dX11_isBlind_10 : decode cX11_isBlind 10 = .ok (.aload_n 0, 1) := by decide +kernel
theorem dX11_isBlind_11 : decode cX11_isBlind 11 = .ok (.aload_n 0, 1) := by decide +kernel
theorem dX11_isBlind_12 : decode cX11_isBlind 12 = .ok (.getfield 123, 3) := by decide +kernel
theorem dX11_isBlind_15 : decode cX11_isBlind 15 = .ok (.iload_n 1, 1) := by decide +kernel
theorem dX11_isBlind_16 : decode cX11_isBlind 16 = .ok (.iconst 0, 1) := by decide +kernel
theorem dX11_isBlind_17 : decode cX11_isBlind 17 = .ok (.iadd, 1) := by decide +kernel
theorem dX11_isBlind_18 : decode cX11_isBlind 18 = .ok (.iaload, 1) := by decide +kernel
theorem dX11_isBlind_19 : decode cX11_isBlind 19 = .ok (.invokevirtual 295, 3) := by decide +kernel
theorem dX11_isBlind_22 : decode cX11_isBlind 22 = .ok (.iadd, 1) := by decide +kernel
theorem dX11_isBlind_23 : decode cX11_isBlind 23 = .ok (.bipush 6, 2) := by decide +kernel
theorem dX11_isBlind_25 : decode cX11_isBlind 25 = .ok (.if_icmp .lt 7, 3) := by decide +kernel
theorem dX11_isBlind_28 : decode cX11_isBlind 28 = .ok (.iconst 1, 1) := by decide +kernel
theorem dX11_isBlind_29 : decode cX11_isBlind 29 = .ok (.goto 4, 3) := by decide +kernel
theorem dX11_isBlind_32 : decode cX11_isBlind 32 = .ok (.iconst 0, 1) := by decide +kernel
theorem dX11_isBlind_33 : decode cX11_isBlind 33 = .ok (.ireturn, 1) := by decide +kernel
theorem dX11_breathBy_0 : decode cX11_breathBy 0 = .ok (.aload_n 0, 1) := by decide +kernel
theorem dX11_breathBy_1 : decode cX11_breathBy 1 = .ok (.iload_n 2, 1) := by decide +kernel
theorem dX11_breathBy_2 : decode cX11_breathBy 2 = .ok (.invokevirtual 298, 3) := by decide +kernel
theorem dX11_breathBy_5 : decode cX11_breathBy 5 = .ok (.istore 6, 2) := by decide +kernel
theorem dX11_breathBy_7 : decode cX11_breathBy 7 = .ok (.aload_n 0, 1) := by decide +kernel
theorem dX11_breathBy_8 : decode cX11_breathBy 8 = .ok (.getfield 117, 3) := by decide +kernel
theorem dX11_breathBy_11 : decode cX11_breathBy 11 = .ok (.iconst 0, 1) := by decide +kernel
theorem dX11_breathBy_12 : decode cX11_breathBy 12 = .ok (.iload_n 3, 1) := by decide +kernel
theorem dX11_breathBy_13 : decode cX11_breathBy 13 = .ok (.iastore, 1) := by decide +kernel
theorem dX11_breathBy_14 : decode cX11_breathBy 14 = .ok (.aload_n 0, 1) := by decide +kernel
theorem dX11_breathBy_15 : decode cX11_breathBy 15 = .ok (.getfield 117, 3) := by decide +kernel
theorem dX11_breathBy_18 : decode cX11_breathBy 18 = .ok (.iconst 1, 1) := by decide +kernel
theorem dX11_breathBy_19 : decode cX11_breathBy 19 = .ok (.aload_n 0, 1) := by decide +kernel
theorem dX11_breathBy_20 : decode cX11_breathBy 20 = .ok (.aload_n 0, 1) := by decide +kernel
theorem dX11_breathBy_21 : decode cX11_breathBy 21 = .ok (.getfield 123, 3) := by decide +kernel
theorem dX11_breathBy_24 : decode cX11_breathBy 24 = .ok (.iload_n 1, 1) := by decide +kernel
theorem dX11_breathBy_25 : decode cX11_breathBy 25 = .ok (.iconst 0, 1) := by decide +kernel
theorem dX11_breathBy_26 : decode cX11_breathBy 26 = .ok (.iadd, 1) := by decide +kernel
theorem dX11_breathBy_27 : decode cX11_breathBy 27 = .ok (.iaload, 1) := by decide +kernel
theorem dX11_breathBy_28 : decode cX11_breathBy 28 = .ok (.invokevirtual 295, 3) := by decide +kernel
theorem dX11_breathBy_31 : decode cX11_breathBy 31 = .ok (.iastore, 1) := by decide +kernel
theorem dX11_breathBy_32 : decode cX11_breathBy 32 = .ok (.aload_n 0, 1) := by decide +kernel
theorem dX11_breathBy_33 : decode cX11_breathBy 33 = .ok (.getfield 117, 3) := by decide +kernel
theorem dX11_breathBy_36 : decode cX11_breathBy 36 = .ok (.iconst 2, 1) := by decide +kernel
theorem dX11_breathBy_37 : decode cX11_breathBy 37 = .ok (.iload 4, 2) := by decide +kernel
theorem dX11_breathBy_39 : decode cX11_breathBy 39 = .ok (.iastore, 1) := by decide +kernel
theorem dX11_breathBy_40 : decode cX11_breathBy 40 = .ok (.aload_n 0, 1) := by decide +kernel
theorem dX11_breathBy_41 : decode cX11_breathBy 41 = .ok (.getfield 117, 3) := by decide +kernel
theorem dX11_breathBy_44 : decode cX11_breathBy 44 = .ok (.iconst 3, 1) := by decide +kernel
theorem dX11_breathBy_45 : decode cX11_breathBy 45 = .ok (.iload 6, 2) := by decide +kernel
theorem dX11_breathBy_47 : decode cX11_breathBy 47 = .ok (.iconst 3, 1) := by decide +kernel
theorem dX11_breathBy_48 : decode cX11_breathBy 48 = .ok (.if_icmp .ne 7, 3) := by decide +kernel
theorem dX11_breathBy_51 : decode cX11_breathBy 51 = .ok (.iconst 0, 1) := by decide +kernel
theorem dX11_breathBy_52 : decode cX11_breathBy 52 = .ok (.goto 5, 3) := by decide +kernel
theorem dX11_breathBy_55 : decode cX11_breathBy 55 = .ok (.iload 5, 2) := by decide +kernel
theorem dX11_breathBy_57 : decode cX11_breathBy 57 = .ok (.iastore, 1) := by decide +kernel
theorem dX11_breathBy_58 : decode cX11_breathBy 58 = .ok (.aload_n 0, 1) := by decide +kernel
theorem dX11_breathBy_59 : decode cX11_breathBy 59 = .ok (.getfield 93, 3) := by decide +kernel
theorem dX11_breathBy_62 : decode cX11_breathBy 62 = .ok (.iconst 4, 1) := by decide +kernel
theorem dX11_breathBy_63 : decode cX11_breathBy 63 = .ok (.iaload, 1) := by decide +kernel
theorem dX11_breathBy_64 : decode cX11_breathBy 64 = .ok (.ifCond .ge 9, 3) := by decide +kernel
theorem dX11_breathBy_67 : decode cX11_breathBy 67 = .ok (.iconst 1, 1) := by decide +kernel
theorem dX11_breathBy_68 : decode cX11_breathBy 68 = .ok (.iload_n 3, 1) := by decide +kernel
theorem dX11_breathBy_69 : decode cX11_breathBy 69 = .ok (.iadd, 1) := by decide +kernel
theorem dX11_breathBy_70 : decode cX11_breathBy 70 = .ok (.goto 13, 3) := by decide +kernel
theorem dX11_breathBy_73 : decode cX11_breathBy 73 = .ok (.aload_n 0, 1) := by decide +kernel
theorem dX11_breathBy_74 : decode cX11_breathBy 74 = .ok (.aload_n 0, 1) := by decide +kernel
theorem dX11_breathBy_75 : decode cX11_breathBy 75 = .ok (.getfield 93, 3) := by decide +kernel
theorem dX11_breathBy_78 : decode cX11_breathBy 78 = .ok (.iconst 4, 1) := by decide +kernel
theorem dX11_breathBy_79 : decode cX11_breathBy 79 = .ok (.iaload, 1) := by decide +kernel
theorem dX11_breathBy_80 : decode cX11_breathBy 80 = .ok (.invokevirtual 301, 3) := by decide +kernel
theorem dX11_breathBy_83 : decode cX11_breathBy 83 = .ok (.istore 7, 2) := by decide +kernel
theorem dX11_breathBy_85 : decode cX11_breathBy 85 = .ok (.iload 7, 2) := by decide +kernel
theorem dX11_breathBy_87 : decode cX11_breathBy 87 = .ok (.iconst 1, 1) := by decide +kernel
theorem dX11_breathBy_88 : decode cX11_breathBy 88 = .ok (.if_icmp .ge 7, 3) := by decide +kernel
theorem dX11_breathBy_91 : decode cX11_breathBy 91 = .ok (.iconst 1, 1) := by decide +kernel
theorem dX11_breathBy_92 : decode cX11_breathBy 92 = .ok (.goto 17, 3) := by decide +kernel
theorem dX11_breathBy_95 : decode cX11_breathBy 95 = .ok (.iload 7, 2) := by decide +kernel
theorem dX11_breathBy_97 : decode cX11_breathBy 97 = .ok (.bipush 20, 2) := by decide +kernel
theorem dX11_breathBy_99 : decode cX11_breathBy 99 = .ok (.if_icmp .le 8, 3) := by decide +kernel
theorem dX11_breathBy_102 : decode cX11_breathBy 102 = .ok (.bipush 20, 2) := by decide +kernel
theorem dX11_breathBy_104 : decode cX11_breathBy 104 = .ok (.goto 5, 3) := by decide +kernel
theorem dX11_breathBy_107 : decode cX11_breathBy 107 = .ok (.iload 7, 2) := by decide +kernel
theorem dX11_breathBy_109 : decode cX11_breathBy 109 = .ok (.istore 7, 2) := by decide +kernel
theorem dX11_breathBy_111 : decode cX11_breathBy 111 = .ok (.iload 6, 2) := by decide +kernel
theorem dX11_breathBy_113 : decode cX11_breathBy 113 = .ok (.iconst 1, 1) := by decide +kernel
theorem dX11_breathBy_114 : decode cX11_breathBy 114 = .ok (.if_icmp .ne 20, 3) := by decide +kernel
theorem dX11_breathBy_117 : decode cX11_breathBy 117 = .ok (.iload 7, 2) := by decide +kernel
theorem dX11_breathBy_119 : decode cX11_breathBy 119 = .ok (.iconst 1, 1) := by decide +kernel
theorem dX11_breathBy_120 : decode cX11_breathBy 120 = .ok (.if_icmp .le 10, 3) := by decide +kernel
theorem dX11_breathBy_123 : decode cX11_breathBy 123 = .ok (.iload 7, 2) := by decide +kernel
theorem dX11_breathBy_125 : decode cX11_breathBy 125 = .ok (.iconst 1, 1) := by decide +kernel
theorem dX11_breathBy_126 : decode cX11_breathBy 126 = .ok (.isub, 1) := by decide +kernel
theorem dX11_breathBy_127 : decode cX11_breathBy 127 = .ok (.goto 31, 3) := by decide +kernel
theorem dX11_breathBy_130 : decode cX11_breathBy 130 = .ok (.iconst 1, 1) := by decide +kernel
theorem dX11_breathBy_131 : decode cX11_breathBy 131 = .ok (.goto 27, 3) := by decide +kernel
theorem dX11_breathBy_134 : decode cX11_breathBy 134 = .ok (.iload 6, 2) := by decide +kernel
theorem dX11_breathBy_136 : decode cX11_breathBy 136 = .ok (.iconst 2, 1) := by decide +kernel
theorem dX11_breathBy_137 : decode cX11_breathBy 137 = .ok (.if_icmp .ne 19, 3) := by decide +kernel
theorem dX11_breathBy_140 : decode cX11_breathBy 140 = .ok (.iload 7, 2) := by decide +kernel
theorem dX11_breathBy_142 : decode cX11_breathBy 142 = .ok (.iload_n 3, 1) := by decide +kernel
theorem dX11_breathBy_143 : decode cX11_breathBy 143 = .ok (.iconst 4, 1) := by decide +kernel
theorem dX11_breathBy_144 : decode cX11_breathBy 144 = .ok (.if_icmp .le 7, 3) := by decide +kernel
theorem dX11_breathBy_147 : decode cX11_breathBy 147 = .ok (.iconst 2, 1) := by decide +kernel
theorem dX11_breathBy_148 : decode cX11_breathBy 148 = .ok (.goto 4, 3) := by decide +kernel
theorem dX11_breathBy_151 : decode cX11_breathBy 151 = .ok (.iconst 1, 1) := by decide +kernel
theorem dX11_breathBy_152 : decode cX11_breathBy 152 = .ok (.iadd, 1) := by decide +kernel
theorem dX11_breathBy_153 : decode cX11_breathBy 153 = .ok (.goto 5, 3) := by decide +kernel
theorem dX11_breathBy_156 : decode cX11_breathBy 156 = .ok (.iload 7, 2) := by decide +kernel
theorem dX11_breathBy_158 : decode cX11_breathBy 158 = .ok (.ireturn, 1) := by decide +kernel
theorem dX11_costBy_0 : decode cX11_costBy 0 = .ok (.aload_n 0, 1) := by decide +kernel
theorem dX11_costBy_1 : decode cX11_costBy 1 = .ok (.getfield 93, 3) := by decide +kernel
theorem dX11_costBy_4 : decode cX11_costBy 4 = .ok (.iconst 5, 1) := by decide +kernel
theorem dX11_costBy_5 : decode cX11_costBy 5 = .ok (.aload_n 0, 1) := by decide +kernel
theorem dX11_costBy_6 : decode cX11_costBy 6 = .ok (.iload_n 3, 1) := by decide +kernel
theorem dX11_costBy_7 : decode cX11_costBy 7 = .ok (.iconst 0, 1) := by decide +kernel
theorem dX11_costBy_8 : decode cX11_costBy 8 = .ok (.invokevirtual 304, 3) := by decide +kernel
theorem dX11_costBy_11 : decode cX11_costBy 11 = .ok (.iadd, 1) := by decide +kernel
theorem dX11_costBy_12 : decode cX11_costBy 12 = .ok (.iaload, 1) := by decide +kernel
theorem dX11_costBy_13 : decode cX11_costBy 13 = .ok (.istore 5, 2) := by decide +kernel
theorem dX11_costBy_15 : decode cX11_costBy 15 = .ok (.aload_n 0, 1) := by decide +kernel
theorem dX11_costBy_16 : decode cX11_costBy 16 = .ok (.getfield 93, 3) := by decide +kernel
theorem dX11_costBy_19 : decode cX11_costBy 19 = .ok (.iconst 5, 1) := by decide +kernel
theorem dX11_costBy_20 : decode cX11_costBy 20 = .ok (.aload_n 0, 1) := by decide +kernel
theorem dX11_costBy_21 : decode cX11_costBy 21 = .ok (.iload_n 3, 1) := by decide +kernel
theorem dX11_costBy_22 : decode cX11_costBy 22 = .ok (.iconst 1, 1) := by decide +kernel
theorem dX11_costBy_23 : decode cX11_costBy 23 = .ok (.invokevirtual 304, 3) := by decide +kernel
theorem dX11_costBy_26 : decode cX11_costBy 26 = .ok (.iadd, 1) := by decide +kernel
theorem dX11_costBy_27 : decode cX11_costBy 27 = .ok (.iaload, 1) := by decide +kernel
theorem dX11_costBy_28 : decode cX11_costBy 28 = .ok (.istore 6, 2) := by decide +kernel
theorem dX11_costBy_30 : decode cX11_costBy 30 = .ok (.aload_n 0, 1) := by decide +kernel
theorem dX11_costBy_31 : decode cX11_costBy 31 = .ok (.iload_n 3, 1) := by decide +kernel
theorem dX11_costBy_32 : decode cX11_costBy 32 = .ok (.iconst 2, 1) := by decide +kernel
theorem dX11_costBy_33 : decode cX11_costBy 33 = .ok (.invokevirtual 304, 3) := by decide +kernel
theorem dX11_costBy_36 : decode cX11_costBy 36 = .ok (.aload_n 0, 1) := by decide +kernel
theorem dX11_costBy_37 : decode cX11_costBy 37 = .ok (.iload_n 1, 1) := by decide +kernel
theorem dX11_costBy_38 : decode cX11_costBy 38 = .ok (.iload_n 2, 1) := by decide +kernel
theorem dX11_costBy_39 : decode cX11_costBy 39 = .ok (.iload 5, 2) := by decide +kernel
theorem dX11_costBy_41 : decode cX11_costBy 41 = .ok (.iload 6, 2) := by decide +kernel
theorem dX11_costBy_43 : decode cX11_costBy 43 = .ok (.if_icmp .le 8, 3) := by decide +kernel
theorem dX11_costBy_46 : decode cX11_costBy 46 = .ok (.iload 5, 2) := by decide +kernel
theorem dX11_costBy_48 : decode cX11_costBy 48 = .ok (.goto 5, 3) := by decide +kernel
theorem dX11_costBy_51 : decode cX11_costBy 51 = .ok (.iload 6, 2) := by decide +kernel
theorem dX11_costBy_53 : decode cX11_costBy 53 = .ok (.aload_n 0, 1) := by decide +kernel
theorem dX11_costBy_54 : decode cX11_costBy 54 = .ok (.getfield 123, 3) := by decide +kernel
theorem dX11_costBy_57 : decode cX11_costBy 57 = .ok (.iload_n 1, 1) := by decide +kernel
theorem dX11_costBy_58 : decode cX11_costBy 58 = .ok (.iconst 4, 1) := by decide +kernel
theorem dX11_costBy_59 : decode cX11_costBy 59 = .ok (.iadd, 1) := by decide +kernel
theorem dX11_costBy_60 : decode cX11_costBy 60 = .ok (.iload_n 3, 1) := by decide +kernel
theorem dX11_costBy_61 : decode cX11_costBy 61 = .ok (.iadd, 1) := by decide +kernel
theorem dX11_costBy_62 : decode cX11_costBy 62 = .ok (.iaload, 1) := by decide +kernel
theorem dX11_costBy_63 : decode cX11_costBy 63 = .ok (.iload 4, 2) := by decide +kernel
theorem dX11_costBy_65 : decode cX11_costBy 65 = .ok (.invokevirtual 307, 3) := by decide +kernel
theorem dX11_costBy_68 : decode cX11_costBy 68 = .ok (.imul, 1) := by decide +kernel
theorem dX11_costBy_69 : decode cX11_costBy 69 = .ok (.ireturn, 1) := by decide +kernel
theorem dX11_costOf_0 : decode cX11_costOf 0 = .ok (.aload_n 0, 1) := by decide +kernel
theorem dX11_costOf_1 : decode cX11_costOf 1 = .ok (.iload_n 1, 1) := by decide +kernel
theorem dX11_costOf_2 : decode cX11_costOf 2 = .ok (.iload_n 2, 1) := by decide +kernel
theorem dX11_costOf_3 : decode cX11_costOf 3 = .ok (.iload_n 3, 1) := by decide +kernel
theorem dX11_costOf_4 : decode cX11_costOf 4 = .ok (.aload_n 0, 1) := by decide +kernel
theorem dX11_costOf_5 : decode cX11_costOf 5 = .ok (.getfield 123, 3) := by decide +kernel
theorem dX11_costOf_8 : decode cX11_costOf 8 = .ok (.iload_n 1, 1) := by decide +kernel
theorem dX11_costOf_9 : decode cX11_costOf 9 = .ok (.bipush 27, 2) := by decide +kernel
theorem dX11_costOf_11 : decode cX11_costOf 11 = .ok (.iadd, 1) := by decide +kernel
theorem dX11_costOf_12 : decode cX11_costOf 12 = .ok (.iload_n 2, 1) := by decide +kernel
theorem dX11_costOf_13 : decode cX11_costOf 13 = .ok (.iadd, 1) := by decide +kernel
theorem dX11_costOf_14 : decode cX11_costOf 14 = .ok (.iaload, 1) := by decide +kernel
theorem dX11_costOf_15 : decode cX11_costOf 15 = .ok (.invokevirtual 311, 3) := by decide +kernel
theorem dX11_costOf_18 : decode cX11_costOf 18 = .ok (.ireturn, 1) := by decide +kernel
theorem dX11_endOf_0 : decode cX11_endOf 0 = .ok (.aload_n 0, 1) := by decide +kernel
theorem dX11_endOf_1 : decode cX11_endOf 1 = .ok (.iload_n 1, 1) := by decide +kernel
theorem dX11_endOf_2 : decode cX11_endOf 2 = .ok (.iconst 0, 1) := by decide +kernel
theorem dX11_endOf_3 : decode cX11_endOf 3 = .ok (.invokevirtual 304, 3) := by decide +kernel
theorem dX11_endOf_6 : decode cX11_endOf 6 = .ok (.iload_n 2, 1) := by decide +kernel
theorem dX11_endOf_7 : decode cX11_endOf 7 = .ok (.if_icmp .ne 12, 3) := by decide +kernel
theorem dX11_endOf_10 : decode cX11_endOf 10 = .ok (.aload_n 0, 1) := by decide +kernel
theorem dX11_endOf_11 : decode cX11_endOf 11 = .ok (.iload_n 1, 1) := by decide +kernel
theorem dX11_endOf_12 : decode cX11_endOf 12 = .ok (.iconst 1, 1) := by decide +kernel
theorem dX11_endOf_13 : decode cX11_endOf 13 = .ok (.invokevirtual 304, 3) := by decide +kernel
theorem dX11_endOf_16 : decode cX11_endOf 16 = .ok (.goto 23, 3) := by decide +kernel
theorem dX11_endOf_19 : decode cX11_endOf 19 = .ok (.aload_n 0, 1) := by decide +kernel
theorem dX11_endOf_20 : decode cX11_endOf 20 = .ok (.iload_n 1, 1) := by decide +kernel
theorem dX11_endOf_21 : decode cX11_endOf 21 = .ok (.iconst 1, 1) := by decide +kernel
theorem dX11_endOf_22 : decode cX11_endOf 22 = .ok (.invokevirtual 304, 3) := by decide +kernel
theorem dX11_endOf_25 : decode cX11_endOf 25 = .ok (.iload_n 2, 1) := by decide +kernel
theorem dX11_endOf_26 : decode cX11_endOf 26 = .ok (.if_icmp .ne 12, 3) := by decide +kernel
theorem dX11_endOf_29 : decode cX11_endOf 29 = .ok (.aload_n 0, 1) := by decide +kernel
theorem dX11_endOf_30 : decode cX11_endOf 30 = .ok (.iload_n 1, 1) := by decide +kernel
theorem dX11_endOf_31 : decode cX11_endOf 31 = .ok (.iconst 0, 1) := by decide +kernel
theorem dX11_endOf_32 : decode cX11_endOf 32 = .ok (.invokevirtual 304, 3) := by decide +kernel
theorem dX11_endOf_35 : decode cX11_endOf 35 = .ok (.goto 4, 3) := by decide +kernel
theorem dX11_endOf_38 : decode cX11_endOf 38 = .ok (.iconst (-1), 1) := by decide +kernel
theorem dX11_endOf_39 : decode cX11_endOf 39 = .ok (.ireturn, 1) := by decide +kernel
theorem dX11_maySwim_0 : decode cX11_maySwim 0 = .ok (.aload_n 0, 1) := by decide +kernel
theorem dX11_maySwim_1 : decode cX11_maySwim 1 = .ok (.iload_n 1, 1) := by decide +kernel
theorem dX11_maySwim_2 : decode cX11_maySwim 2 = .ok (.iload_n 2, 1) := by decide +kernel
theorem dX11_maySwim_3 : decode cX11_maySwim 3 = .ok (.invokevirtual 315, 3) := by decide +kernel
theorem dX11_maySwim_6 : decode cX11_maySwim 6 = .ok (.ifCond .ne 40, 3) := by decide +kernel
theorem dX11_maySwim_9 : decode cX11_maySwim 9 = .ok (.aload_n 0, 1) := by decide +kernel
theorem dX11_maySwim_10 : decode cX11_maySwim 10 = .ok (.getfield 123, 3) := by decide +kernel
theorem dX11_maySwim_13 : decode cX11_maySwim 13 = .ok (.iload_n 1, 1) := by decide +kernel
theorem dX11_maySwim_14 : decode cX11_maySwim 14 = .ok (.bipush 19, 2) := by decide +kernel
theorem dX11_maySwim_16 : decode cX11_maySwim 16 = .ok (.iadd, 1) := by decide +kernel
theorem dX11_maySwim_17 : decode cX11_maySwim 17 = .ok (.iload_n 2, 1) := by decide +kernel
theorem dX11_maySwim_18 : decode cX11_maySwim 18 = .ok (.iadd, 1) := by decide +kernel
theorem dX11_maySwim_19 : decode cX11_maySwim 19 = .ok (.iaload, 1) := by decide +kernel
theorem dX11_maySwim_20 : decode cX11_maySwim 20 = .ok (.ifCond .lt 26, 3) := by decide +kernel
theorem dX11_maySwim_23 : decode cX11_maySwim 23 = .ok (.aload_n 0, 1) := by decide +kernel
theorem dX11_maySwim_24 : decode cX11_maySwim 24 = .ok (.iload_n 3, 1) := by decide +kernel
theorem dX11_maySwim_25 : decode cX11_maySwim 25 = .ok (.aload_n 0, 1) := by decide +kernel
theorem dX11_maySwim_26 : decode cX11_maySwim 26 = .ok (.getfield 123, 3) := by decide +kernel
theorem dX11_maySwim_29 : decode cX11_maySwim 29 = .ok (.iload_n 1, 1) := by decide +kernel
theorem dX11_maySwim_30 : decode cX11_maySwim 30 = .ok (.bipush 19, 2) := by decide +kernel
theorem dX11_maySwim_32 : decode cX11_maySwim 32 = .ok (.iadd, 1) := by decide +kernel
theorem dX11_maySwim_33 : decode cX11_maySwim 33 = .ok (.iload_n 2, 1) := by decide +kernel
theorem dX11_maySwim_34 : decode cX11_maySwim 34 = .ok (.iadd, 1) := by decide +kernel
theorem dX11_maySwim_35 : decode cX11_maySwim 35 = .ok (.iaload, 1) := by decide +kernel
theorem dX11_maySwim_36 : decode cX11_maySwim 36 = .ok (.invokevirtual 319, 3) := by decide +kernel
theorem dX11_maySwim_39 : decode cX11_maySwim 39 = .ok (.ifCond .lt 7, 3) := by decide +kernel
theorem dX11_maySwim_42 : decode cX11_maySwim 42 = .ok (.iconst 1, 1) := by decide +kernel
theorem dX11_maySwim_43 : decode cX11_maySwim 43 = .ok (.goto 4, 3) := by decide +kernel
theorem dX11_maySwim_46 : decode cX11_maySwim 46 = .ok (.iconst 0, 1) := by decide +kernel
theorem dX11_maySwim_47 : decode cX11_maySwim 47 = .ok (.istore 4, 2) := by decide +kernel
theorem dX11_maySwim_49 : decode cX11_maySwim 49 = .ok (.iload 4, 2) := by decide +kernel
theorem dX11_maySwim_51 : decode cX11_maySwim 51 = .ok (.ifCond .eq 46, 3) := by decide +kernel
theorem dX11_maySwim_54 : decode cX11_maySwim 54 = .ok (.aload_n 0, 1) := by decide +kernel
theorem dX11_maySwim_55 : decode cX11_maySwim 55 = .ok (.iload_n 1, 1) := by decide +kernel
theorem dX11_maySwim_56 : decode cX11_maySwim 56 = .ok (.iload_n 3, 1) := by decide +kernel
theorem dX11_maySwim_57 : decode cX11_maySwim 57 = .ok (.invokevirtual 322, 3) := by decide +kernel
theorem dX11_maySwim_60 : decode cX11_maySwim 60 = .ok (.ifCond .eq 12, 3) := by decide +kernel
theorem dX11_maySwim_63 : decode cX11_maySwim 63 = .ok (.aload_n 0, 1) := by decide +kernel
theorem dX11_maySwim_64 : decode cX11_maySwim 64 = .ok (.iload_n 1, 1) := by decide +kernel
theorem dX11_maySwim_65 : decode cX11_maySwim 65 = .ok (.iload_n 3, 1) := by decide +kernel
theorem dX11_maySwim_66 : decode cX11_maySwim 66 = .ok (.invokevirtual 325, 3) := by decide +kernel
theorem dX11_maySwim_69 : decode cX11_maySwim 69 = .ok (.ifCond .eq 28, 3) := by decide +kernel
theorem dX11_maySwim_72 : decode cX11_maySwim 72 = .ok (.aload_n 0, 1) := by decide +kernel
theorem dX11_maySwim_73 : decode cX11_maySwim 73 = .ok (.getfield 123, 3) := by decide +kernel
theorem dX11_maySwim_76 : decode cX11_maySwim 76 = .ok (.iload_n 1, 1) := by decide +kernel
theorem dX11_maySwim_77 : decode cX11_maySwim 77 = .ok (.bipush 23, 2) := by decide +kernel
theorem dX11_maySwim_79 : decode cX11_maySwim 79 = .ok (.iadd, 1) := by decide +kernel
theorem dX11_maySwim_80 : decode cX11_maySwim 80 = .ok (.iload_n 2, 1) := by decide +kernel
theorem dX11_maySwim_81 : decode cX11_maySwim 81 = .ok (.iadd, 1) := by decide +kernel
theorem dX11_maySwim_82 : decode cX11_maySwim 82 = .ok (.iaload, 1) := by decide +kernel
theorem dX11_maySwim_83 : decode cX11_maySwim 83 = .ok (.aload_n 0, 1) := by decide +kernel
theorem dX11_maySwim_84 : decode cX11_maySwim 84 = .ok (.iload_n 1, 1) := by decide +kernel
theorem dX11_maySwim_85 : decode cX11_maySwim 85 = .ok (.iload_n 2, 1) := by decide +kernel
theorem dX11_maySwim_86 : decode cX11_maySwim 86 = .ok (.iload_n 3, 1) := by decide +kernel
theorem dX11_maySwim_87 : decode cX11_maySwim 87 = .ok (.invokevirtual 328, 3) := by decide +kernel
theorem dX11_maySwim_90 : decode cX11_maySwim 90 = .ok (.if_icmp .lt 7, 3) := by decide +kernel
theorem dX11_maySwim_93 : decode cX11_maySwim 93 = .ok (.iconst 1, 1) := by decide +kernel
theorem dX11_maySwim_94 : decode cX11_maySwim 94 = .ok (.goto 4, 3) := by decide +kernel
theorem dX11_maySwim_97 : decode cX11_maySwim 97 = .ok (.iconst 0, 1) := by decide +kernel
theorem dX11_maySwim_98 : decode cX11_maySwim 98 = .ok (.ireturn, 1) := by decide +kernel
theorem dX11_mayLay_0 : decode cX11_mayLay 0 = .ok (.aload_n 0, 1) := by decide +kernel
theorem dX11_mayLay_1 : decode cX11_mayLay 1 = .ok (.iload_n 1, 1) := by decide +kernel
theorem dX11_mayLay_2 : decode cX11_mayLay 2 = .ok (.iload_n 3, 1) := by decide +kernel
theorem dX11_mayLay_3 : decode cX11_mayLay 3 = .ok (.invokevirtual 325, 3) := by decide +kernel
theorem dX11_mayLay_6 : decode cX11_mayLay 6 = .ok (.ifCond .ne 17, 3) := by decide +kernel
theorem dX11_mayLay_9 : decode cX11_mayLay 9 = .ok (.aload_n 0, 1) := by decide +kernel
theorem dX11_mayLay_10 : decode cX11_mayLay 10 = .ok (.iload_n 1, 1) := by decide +kernel
theorem dX11_mayLay_11 : decode cX11_mayLay 11 = .ok (.iload_n 2, 1) := by decide +kernel
theorem dX11_mayLay_12 : decode cX11_mayLay 12 = .ok (.iload_n 3, 1) := by decide +kernel
theorem dX11_mayLay_13 : decode cX11_mayLay 13 = .ok (.invokevirtual 331, 3) := by decide +kernel
theorem dX11_mayLay_16 : decode cX11_mayLay 16 = .ok (.ifCond .eq 7, 3) := by decide +kernel
theorem dX11_mayLay_19 : decode cX11_mayLay 19 = .ok (.iconst 1, 1) := by decide +kernel
theorem dX11_mayLay_20 : decode cX11_mayLay 20 = .ok (.goto 4, 3) := by decide +kernel
theorem dX11_mayLay_23 : decode cX11_mayLay 23 = .ok (.iconst 0, 1) := by decide +kernel
theorem dX11_mayLay_24 : decode cX11_mayLay 24 = .ok (.ireturn, 1) := by decide +kernel
theorem dX11_swims_0 : decode cX11_swims 0 = .ok (.aload_n 0, 1) := by decide +kernel
theorem dX11_swims_1 : decode cX11_swims 1 = .ok (.iload_n 1, 1) := by decide +kernel
theorem dX11_swims_2 : decode cX11_swims 2 = .ok (.iload_n 2, 1) := by decide +kernel
theorem dX11_swims_3 : decode cX11_swims 3 = .ok (.iload_n 3, 1) := by decide +kernel
theorem dX11_swims_4 : decode cX11_swims 4 = .ok (.invokevirtual 328, 3) := by decide +kernel
theorem dX11_swims_7 : decode cX11_swims 7 = .ok (.istore 5, 2) := by decide +kernel
theorem dX11_swims_9 : decode cX11_swims 9 = .ok (.aload_n 0, 1) := by decide +kernel
theorem dX11_swims_10 : decode cX11_swims 10 = .ok (.getfield 123, 3) := by decide +kernel
theorem dX11_swims_13 : decode cX11_swims 13 = .ok (.iload_n 1, 1) := by decide +kernel
theorem dX11_swims_14 : decode cX11_swims 14 = .ok (.bipush 23, 2) := by decide +kernel
theorem dX11_swims_16 : decode cX11_swims 16 = .ok (.iadd, 1) := by decide +kernel
theorem dX11_swims_17 : decode cX11_swims 17 = .ok (.iload_n 2, 1) := by decide +kernel
theorem dX11_swims_18 : decode cX11_swims 18 = .ok (.iadd, 1) := by decide +kernel
theorem dX11_swims_19 : decode cX11_swims 19 = .ok (.dup2, 1) := by decide +kernel
theorem dX11_swims_20 : decode cX11_swims 20 = .ok (.iaload, 1) := by decide +kernel
theorem dX11_swims_21 : decode cX11_swims 21 = .ok (.iload 5, 2) := by decide +kernel
theorem dX11_swims_23 : decode cX11_swims 23 = .ok (.isub, 1) := by decide +kernel
theorem dX11_swims_24 : decode cX11_swims 24 = .ok (.iastore, 1) := by decide +kernel
theorem dX11_swims_25 : decode cX11_swims 25 = .ok (.aload_n 0, 1) := by decide +kernel
theorem dX11_swims_26 : decode cX11_swims 26 = .ok (.getfield 123, 3) := by decide +kernel
theorem dX11_swims_29 : decode cX11_swims 29 = .ok (.iload_n 1, 1) := by decide +kernel
theorem dX11_swims_30 : decode cX11_swims 30 = .ok (.iconst 3, 1) := by decide +kernel
theorem dX11_swims_31 : decode cX11_swims 31 = .ok (.iadd, 1) := by decide +kernel
theorem dX11_swims_32 : decode cX11_swims 32 = .ok (.dup2, 1) := by decide +kernel
theorem dX11_swims_33 : decode cX11_swims 33 = .ok (.iaload, 1) := by decide +kernel
theorem dX11_swims_34 : decode cX11_swims 34 = .ok (.iload 5, 2) := by decide +kernel
theorem dX11_swims_36 : decode cX11_swims 36 = .ok (.iadd, 1) := by decide +kernel
theorem dX11_swims_37 : decode cX11_swims 37 = .ok (.iastore, 1) := by decide +kernel
theorem dX11_swims_38 : decode cX11_swims 38 = .ok (.aload_n 0, 1) := by decide +kernel
theorem dX11_swims_39 : decode cX11_swims 39 = .ok (.getfield 123, 3) := by decide +kernel
theorem dX11_swims_42 : decode cX11_swims 42 = .ok (.iload_n 1, 1) := by decide +kernel
theorem dX11_swims_43 : decode cX11_swims 43 = .ok (.bipush 19, 2) := by decide +kernel
theorem dX11_swims_45 : decode cX11_swims 45 = .ok (.iadd, 1) := by decide +kernel
theorem dX11_swims_46 : decode cX11_swims 46 = .ok (.iload_n 2, 1) := by decide +kernel
theorem dX11_swims_47 : decode cX11_swims 47 = .ok (.iadd, 1) := by decide +kernel
theorem dX11_swims_48 : decode cX11_swims 48 = .ok (.aload_n 0, 1) := by decide +kernel
theorem dX11_swims_49 : decode cX11_swims 49 = .ok (.iload_n 3, 1) := by decide +kernel
theorem dX11_swims_50 : decode cX11_swims 50 = .ok (.aload_n 0, 1) := by decide +kernel
theorem dX11_swims_51 : decode cX11_swims 51 = .ok (.getfield 123, 3) := by decide +kernel
theorem dX11_swims_54 : decode cX11_swims 54 = .ok (.iload_n 1, 1) := by decide +kernel
theorem dX11_swims_55 : decode cX11_swims 55 = .ok (.bipush 19, 2) := by decide +kernel
theorem dX11_swims_57 : decode cX11_swims 57 = .ok (.iadd, 1) := by decide +kernel
theorem dX11_swims_58 : decode cX11_swims 58 = .ok (.iload_n 2, 1) := by decide +kernel
theorem dX11_swims_59 : decode cX11_swims 59 = .ok (.iadd, 1) := by decide +kernel
theorem dX11_swims_60 : decode cX11_swims 60 = .ok (.iaload, 1) := by decide +kernel
theorem dX11_swims_61 : decode cX11_swims 61 = .ok (.invokevirtual 319, 3) := by decide +kernel
theorem dX11_swims_64 : decode cX11_swims 64 = .ok (.iastore, 1) := by decide +kernel
theorem dX11_swims_65 : decode cX11_swims 65 = .ok (.aload_n 0, 1) := by decide +kernel
theorem dX11_swims_66 : decode cX11_swims 66 = .ok (.getfield 123, 3) := by decide +kernel
theorem dX11_swims_69 : decode cX11_swims 69 = .ok (.iload_n 1, 1) := by decide +kernel
theorem dX11_swims_70 : decode cX11_swims 70 = .ok (.iconst 4, 1) := by decide +kernel
theorem dX11_swims_71 : decode cX11_swims 71 = .ok (.iadd, 1) := by decide +kernel
theorem dX11_swims_72 : decode cX11_swims 72 = .ok (.iload_n 3, 1) := by decide +kernel
theorem dX11_swims_73 : decode cX11_swims 73 = .ok (.iadd, 1) := by decide +kernel
theorem dX11_swims_74 : decode cX11_swims 74 = .ok (.iaload, 1) := by decide +kernel
theorem dX11_swims_75 : decode cX11_swims 75 = .ok (.aload_n 0, 1) := by decide +kernel
theorem dX11_swims_76 : decode cX11_swims 76 = .ok (.iload_n 3, 1) := by decide +kernel
theorem dX11_swims_77 : decode cX11_swims 77 = .ok (.iconst 3, 1) := by decide +kernel
theorem dX11_swims_78 : decode cX11_swims 78 = .ok (.invokevirtual 304, 3) := by decide +kernel
theorem dX11_swims_81 : decode cX11_swims 81 = .ok (.iconst 1, 1) := by decide +kernel
theorem dX11_swims_82 : decode cX11_swims 82 = .ok (.if_icmp .ne 7, 3) := by decide +kernel
theorem dX11_swims_85 : decode cX11_swims 85 = .ok (.iconst 3, 1) := by decide +kernel
theorem dX11_swims_86 : decode cX11_swims 86 = .ok (.goto 4, 3) := by decide +kernel
theorem dX11_swims_89 : decode cX11_swims 89 = .ok (.iconst 2, 1) := by decide +kernel
theorem dX11_swims_90 : decode cX11_swims 90 = .ok (.iadd, 1) := by decide +kernel
theorem dX11_swims_91 : decode cX11_swims 91 = .ok (.istore 6, 2) := by decide +kernel
theorem dX11_swims_93 : decode cX11_swims 93 = .ok (.aload_n 0, 1) := by decide +kernel
theorem dX11_swims_94 : decode cX11_swims 94 = .ok (.getfield 123, 3) := by decide +kernel
theorem dX11_swims_97 : decode cX11_swims 97 = .ok (.iload_n 1, 1) := by decide +kernel
theorem dX11_swims_98 : decode cX11_swims 98 = .ok (.iconst 4, 1) := by decide +kernel
theorem dX11_swims_99 : decode cX11_swims 99 = .ok (.iadd, 1) := by decide +kernel
theorem dX11_swims_100 : decode cX11_swims 100 = .ok (.iload_n 3, 1) := by decide +kernel
theorem dX11_swims_101 : decode cX11_swims 101 = .ok (.iadd, 1) := by decide +kernel
theorem dX11_swims_102 : decode cX11_swims 102 = .ok (.iload 6, 2) := by decide +kernel
theorem dX11_swims_104 : decode cX11_swims 104 = .ok (.bipush 9, 2) := by decide +kernel
theorem dX11_swims_106 : decode cX11_swims 106 = .ok (.if_icmp .le 8, 3) := by decide +kernel
theorem dX11_swims_109 : decode cX11_swims 109 = .ok (.bipush 9, 2) := by decide +kernel
theorem dX11_swims_111 : decode cX11_swims 111 = .ok (.goto 5, 3) := by decide +kernel
theorem dX11_swims_114 : decode cX11_swims 114 = .ok (.iload 6, 2) := by decide +kernel
theorem dX11_swims_116 : decode cX11_swims 116 = .ok (.iastore, 1) := by decide +kernel
theorem dX11_swims_117 : decode cX11_swims 117 = .ok (.aload_n 0, 1) := by decide +kernel
theorem dX11_swims_118 : decode cX11_swims 118 = .ok (.getfield 123, 3) := by decide +kernel
theorem dX11_swims_121 : decode cX11_swims 121 = .ok (.iload_n 1, 1) := by decide +kernel
theorem dX11_swims_122 : decode cX11_swims 122 = .ok (.iconst 1, 1) := by decide +kernel
theorem dX11_swims_123 : decode cX11_swims 123 = .ok (.iadd, 1) := by decide +kernel
theorem dX11_swims_124 : decode cX11_swims 124 = .ok (.dup2, 1) := by decide +kernel
theorem dX11_swims_125 : decode cX11_swims 125 = .ok (.iaload, 1) := by decide +kernel
theorem dX11_swims_126 : decode cX11_swims 126 = .ok (.iload 4, 2) := by decide +kernel
theorem dX11_swims_128 : decode cX11_swims 128 = .ok (.ifCond .eq 9, 3) := by decide +kernel
theorem dX11_swims_131 : decode cX11_swims 131 = .ok (.iconst 1, 1) := by decide +kernel
theorem dX11_swims_132 : decode cX11_swims 132 = .ok (.iload_n 3, 1) := by decide +kernel
theorem dX11_swims_133 : decode cX11_swims 133 = .ok (.ishl, 1) := by decide +kernel
theorem dX11_swims_134 : decode cX11_swims 134 = .ok (.goto 4, 3) := by decide +kernel
theorem dX11_swims_137 : decode cX11_swims 137 = .ok (.iconst 0, 1) := by decide +kernel
theorem dX11_swims_138 : decode cX11_swims 138 = .ok (.ior, 1) := by decide +kernel
theorem dX11_swims_139 : decode cX11_swims 139 = .ok (.iastore, 1) := by decide +kernel
theorem dX11_swims_140 : decode cX11_swims 140 = .ok (.return_, 1) := by decide +kernel
theorem dX11_isThere_0 : decode cX11_isThere 0 = .ok (.aload_n 0, 1) := by decide +kernel
theorem dX11_isThere_1 : decode cX11_isThere 1 = .ok (.iload_n 1, 1) := by decide +kernel
theorem dX11_isThere_2 : decode cX11_isThere 2 = .ok (.iload_n 2, 1) := by decide +kernel
theorem dX11_isThere_3 : decode cX11_isThere 3 = .ok (.invokevirtual 315, 3) := by decide +kernel
theorem dX11_isThere_6 : decode cX11_isThere 6 = .ok (.ifCond .ne 21, 3) := by decide +kernel
theorem dX11_isThere_9 : decode cX11_isThere 9 = .ok (.aload_n 0, 1) := by decide +kernel
theorem dX11_isThere_10 : decode cX11_isThere 10 = .ok (.getfield 123, 3) := by decide +kernel
theorem dX11_isThere_13 : decode cX11_isThere 13 = .ok (.iload_n 1, 1) := by decide +kernel
theorem dX11_isThere_14 : decode cX11_isThere 14 = .ok (.bipush 19, 2) := by decide +kernel
theorem dX11_isThere_16 : decode cX11_isThere 16 = .ok (.iadd, 1) := by decide +kernel
theorem dX11_isThere_17 : decode cX11_isThere 17 = .ok (.iload_n 2, 1) := by decide +kernel
theorem dX11_isThere_18 : decode cX11_isThere 18 = .ok (.iadd, 1) := by decide +kernel
theorem dX11_isThere_19 : decode cX11_isThere 19 = .ok (.iaload, 1) := by decide +kernel
theorem dX11_isThere_20 : decode cX11_isThere 20 = .ok (.ifCond .lt 7, 3) := by decide +kernel
theorem dX11_isThere_23 : decode cX11_isThere 23 = .ok (.iconst 1, 1) := by decide +kernel
theorem dX11_isThere_24 : decode cX11_isThere 24 = .ok (.goto 4, 3) := by decide +kernel
theorem dX11_isThere_27 : decode cX11_isThere 27 = .ok (.iconst 0, 1) := by decide +kernel
theorem dX11_isThere_28 : decode cX11_isThere 28 = .ok (.ireturn, 1) := by decide +kernel
theorem dX11_mayStage_0 : decode cX11_mayStage 0 = .ok (.aload_n 0, 1) := by decide +kernel
theorem dX11_mayStage_1 : decode cX11_mayStage 1 = .ok (.iload_n 1, 1) := by decide +kernel
theorem dX11_mayStage_2 : decode cX11_mayStage 2 = .ok (.iload_n 2, 1) := by decide +kernel
theorem dX11_mayStage_3 : decode cX11_mayStage 3 = .ok (.invokevirtual 334, 3) := by decide +kernel
theorem dX11_mayStage_6 : decode cX11_mayStage 6 = .ok (.ifCond .eq 51, 3) := by decide +kernel
theorem dX11_mayStage_9 : decode cX11_mayStage 9 = .ok (.aload_n 0, 1) := by decide +kernel
theorem dX11_mayStage_10 : decode cX11_mayStage 10 = .ok (.getfield 123, 3) := by decide +kernel
theorem dX11_mayStage_13 : decode cX11_mayStage 13 = .ok (.iload_n 1, 1) := by decide +kernel
theorem dX11_mayStage_14 : decode cX11_mayStage 14 = .ok (.bipush 23, 2) := by decide +kernel
theorem dX11_mayStage_16 : decode cX11_mayStage 16 = .ok (.iadd, 1) := by decide +kernel
theorem dX11_mayStage_17 : decode cX11_mayStage 17 = .ok (.iload_n 2, 1) := by decide +kernel
theorem dX11_mayStage_18 : decode cX11_mayStage 18 = .ok (.iadd, 1) := by decide +kernel
theorem dX11_mayStage_19 : decode cX11_mayStage 19 = .ok (.iaload, 1) := by decide +kernel
theorem dX11_mayStage_20 : decode cX11_mayStage 20 = .ok (.iload_n 3, 1) := by decide +kernel
theorem dX11_mayStage_21 : decode cX11_mayStage 21 = .ok (.if_icmp .lt 36, 3) := by decide +kernel
theorem dX11_mayStage_24 : decode cX11_mayStage 24 = .ok (.aload_n 0, 1) := by decide +kernel
theorem dX11_mayStage_25 : decode cX11_mayStage 25 = .ok (.getfield 123, 3) := by decide +kernel
theorem dX11_mayStage_28 : decode cX11_mayStage 28 = .ok (.iload_n 1, 1) := by decide +kernel
theorem dX11_mayStage_29 : decode cX11_mayStage 29 = .ok (.bipush 12, 2) := by decide +kernel
theorem dX11_mayStage_31 : decode cX11_mayStage 31 = .ok (.iadd, 1) := by decide +kernel
theorem dX11_mayStage_32 : decode cX11_mayStage 32 = .ok (.aload_n 0, 1) := by decide +kernel
theorem dX11_mayStage_33 : decode cX11_mayStage 33 = .ok (.getfield 123, 3) := by decide +kernel
theorem dX11_mayStage_36 : decode cX11_mayStage 36 = .ok (.iload_n 1, 1) := by decide +kernel
theorem dX11_mayStage_37 : decode cX11_mayStage 37 = .ok (.bipush 19, 2) := by decide +kernel
theorem dX11_mayStage_39 : decode cX11_mayStage 39 = .ok (.iadd, 1) := by decide +kernel
theorem dX11_mayStage_40 : decode cX11_mayStage 40 = .ok (.iload_n 2, 1) := by decide +kernel
theorem dX11_mayStage_41 : decode cX11_mayStage 41 = .ok (.iadd, 1) := by decide +kernel
theorem dX11_mayStage_42 : decode cX11_mayStage 42 = .ok (.iaload, 1) := by decide +kernel
theorem dX11_mayStage_43 : decode cX11_mayStage 43 = .ok (.iadd, 1) := by decide +kernel
theorem dX11_mayStage_44 : decode cX11_mayStage 44 = .ok (.iaload, 1) := by decide +kernel
theorem dX11_mayStage_45 : decode cX11_mayStage 45 = .ok (.iload_n 3, 1) := by decide +kernel
theorem dX11_mayStage_46 : decode cX11_mayStage 46 = .ok (.iadd, 1) := by decide +kernel
theorem dX11_mayStage_47 : decode cX11_mayStage 47 = .ok (.sipush 999, 3) := by decide +kernel
theorem dX11_mayStage_50 : decode cX11_mayStage 50 = .ok (.if_icmp .gt 7, 3) := by decide +kernel
theorem dX11_mayStage_53 : decode cX11_mayStage 53 = .ok (.iconst 1, 1) := by decide +kernel
theorem dX11_mayStage_54 : decode cX11_mayStage 54 = .ok (.goto 4, 3) := by decide +kernel
theorem dX11_mayStage_57 : decode cX11_mayStage 57 = .ok (.iconst 0, 1) := by decide +kernel
theorem dX11_mayStage_58 : decode cX11_mayStage 58 = .ok (.ireturn, 1) := by decide +kernel
theorem dX11_mayTake_0 : decode cX11_mayTake 0 = .ok (.aload_n 0, 1) := by decide +kernel
theorem dX11_mayTake_1 : decode cX11_mayTake 1 = .ok (.iload_n 1, 1) := by decide +kernel
theorem dX11_mayTake_2 : decode cX11_mayTake 2 = .ok (.iload_n 2, 1) := by decide +kernel
theorem dX11_mayTake_3 : decode cX11_mayTake 3 = .ok (.invokevirtual 334, 3) := by decide +kernel
theorem dX11_mayTake_6 : decode cX11_mayTake 6 = .ok (.ifCond .eq 51, 3) := by decide +kernel
theorem dX11_mayTake_9 : decode cX11_mayTake 9 = .ok (.aload_n 0, 1) := by decide +kernel
theorem dX11_mayTake_10 : decode cX11_mayTake 10 = .ok (.getfield 123, 3) := by decide +kernel
theorem dX11_mayTake_13 : decode cX11_mayTake 13 = .ok (.iload_n 1, 1) := by decide +kernel
theorem dX11_mayTake_14 : decode cX11_mayTake 14 = .ok (.bipush 12, 2) := by decide +kernel
theorem dX11_mayTake_16 : decode cX11_mayTake 16 = .ok (.iadd, 1) := by decide +kernel
theorem dX11_mayTake_17 : decode cX11_mayTake 17 = .ok (.aload_n 0, 1) := by decide +kernel
theorem dX11_mayTake_18 : decode cX11_mayTake 18 = .ok (.getfield 123, 3) := by decide +kernel
theorem dX11_mayTake_21 : decode cX11_mayTake 21 = .ok (.iload_n 1, 1) := by decide +kernel
theorem dX11_mayTake_22 : decode cX11_mayTake 22 = .ok (.bipush 19, 2) := by decide +kernel
theorem dX11_mayTake_24 : decode cX11_mayTake 24 = .ok (.iadd, 1) := by decide +kernel
theorem dX11_mayTake_25 : decode cX11_mayTake 25 = .ok (.iload_n 2, 1) := by decide +kernel
theorem dX11_mayTake_26 : decode cX11_mayTake 26 = .ok (.iadd, 1) := by decide +kernel
theorem dX11_mayTake_27 : decode cX11_mayTake 27 = .ok (.iaload, 1) := by decide +kernel
theorem dX11_mayTake_28 : decode cX11_mayTake 28 = .ok (.iadd, 1) := by decide +kernel
theorem dX11_mayTake_29 : decode cX11_mayTake 29 = .ok (.iaload, 1) := by decide +kernel
theorem dX11_mayTake_30 : decode cX11_mayTake 30 = .ok (.iload_n 3, 1) := by decide +kernel
theorem dX11_mayTake_31 : decode cX11_mayTake 31 = .ok (.if_icmp .lt 26, 3) := by decide +kernel
theorem dX11_mayTake_34 : decode cX11_mayTake 34 = .ok (.aload_n 0, 1) := by decide +kernel
theorem dX11_mayTake_35 : decode cX11_mayTake 35 = .ok (.getfield 123, 3) := by decide +kernel
theorem dX11_mayTake_38 : decode cX11_mayTake 38 = .ok (.iload_n 1, 1) := by decide +kernel
theorem dX11_mayTake_39 : decode cX11_mayTake 39 = .ok (.bipush 23, 2) := by decide +kernel
theorem dX11_mayTake_41 : decode cX11_mayTake 41 = .ok (.iadd, 1) := by decide +kernel
theorem dX11_mayTake_42 : decode cX11_mayTake 42 = .ok (.iload_n 2, 1) := by decide +kernel
theorem dX11_mayTake_43 : decode cX11_mayTake 43 = .ok (.iadd, 1) := by decide +kernel
theorem dX11_mayTake_44 : decode cX11_mayTake 44 = .ok (.iaload, 1) := by decide +kernel
theorem dX11_mayTake_45 : decode cX11_mayTake 45 = .ok (.iload_n 3, 1) := by decide +kernel
theorem dX11_mayTake_46 : decode cX11_mayTake 46 = .ok (.iadd, 1) := by decide +kernel
theorem dX11_mayTake_47 : decode cX11_mayTake 47 = .ok (.sipush 999, 3) := by decide +kernel
theorem dX11_mayTake_50 : decode cX11_mayTake 50 = .ok (.if_icmp .gt 7, 3) := by decide +kernel
theorem dX11_mayTake_53 : decode cX11_mayTake 53 = .ok (.iconst 1, 1) := by decide +kernel
theorem dX11_mayTake_54 : decode cX11_mayTake 54 = .ok (.goto 4, 3) := by decide +kernel
theorem dX11_mayTake_57 : decode cX11_mayTake 57 = .ok (.iconst 0, 1) := by decide +kernel
theorem dX11_mayTake_58 : decode cX11_mayTake 58 = .ok (.ireturn, 1) := by decide +kernel
theorem dX11_mayShare_0 : decode cX11_mayShare 0 = .ok (.aload_n 0, 1) := by decide +kernel
theorem dX11_mayShare_1 : decode cX11_mayShare 1 = .ok (.iload_n 1, 1) := by decide +kernel
theorem dX11_mayShare_2 : decode cX11_mayShare 2 = .ok (.iload_n 2, 1) := by decide +kernel
theorem dX11_mayShare_3 : decode cX11_mayShare 3 = .ok (.invokevirtual 334, 3) := by decide +kernel
theorem dX11_mayShare_6 : decode cX11_mayShare 6 = .ok (.ifCond .eq 82, 3) := by decide +kernel
theorem dX11_mayShare_9 : decode cX11_mayShare 9 = .ok (.aload_n 0, 1) := by decide +kernel
theorem dX11_mayShare_10 : decode cX11_mayShare 10 = .ok (.iload_n 1, 1) := by decide +kernel
theorem dX11_mayShare_11 : decode cX11_mayShare 11 = .ok (.iload_n 3, 1) := by decide +kernel
theorem dX11_mayShare_12 : decode cX11_mayShare 12 = .ok (.invokevirtual 334, 3) := by decide +kernel
theorem dX11_mayShare_15 : decode cX11_mayShare 15 = .ok (.ifCond .eq 73, 3) := by decide +kernel
theorem dX11_mayShare_18 : decode cX11_mayShare 18 = .ok (.iload_n 2, 1) := by decide +kernel
theorem dX11_mayShare_19 : decode cX11_mayShare 19 = .ok (.iload_n 3, 1) := by decide +kernel
theorem dX11_mayShare_20 : decode cX11_mayShare 20 = .ok (.if_icmp .eq 68, 3) := by decide +kernel
theorem dX11_mayShare_23 : decode cX11_mayShare 23 = .ok (.aload_n 0, 1) := by decide +kernel
theorem dX11_mayShare_24 : decode cX11_mayShare 24 = .ok (.getfield 123, 3) := by decide +kernel
theorem dX11_mayShare_27 : decode cX11_mayShare 27 = .ok (.iload_n 1, 1) := by decide +kernel
theorem dX11_mayShare_28 : decode cX11_mayShare 28 = .ok (.bipush 19, 2) := by decide +kernel
theorem dX11_mayShare_30 : decode cX11_mayShare 30 = .ok (.iadd, 1) := by decide +kernel
theorem dX11_mayShare_31 : decode cX11_mayShare 31 = .ok (.iload_n 2, 1) := by decide +kernel
theorem dX11_mayShare_32 : decode cX11_mayShare 32 = .ok (.iadd, 1) := by decide +kernel
theorem dX11_mayShare_33 : decode cX11_mayShare 33 = .ok (.iaload, 1) := by decide +kernel
theorem dX11_mayShare_34 : decode cX11_mayShare 34 = .ok (.aload_n 0, 1) := by decide +kernel
theorem dX11_mayShare_35 : decode cX11_mayShare 35 = .ok (.getfield 123, 3) := by decide +kernel
theorem dX11_mayShare_38 : decode cX11_mayShare 38 = .ok (.iload_n 1, 1) := by decide +kernel
theorem dX11_mayShare_39 : decode cX11_mayShare 39 = .ok (.bipush 19, 2) := by decide +kernel
theorem dX11_mayShare_41 : decode cX11_mayShare 41 = .ok (.iadd, 1) := by decide +kernel
theorem dX11_mayShare_42 : decode cX11_mayShare 42 = .ok (.iload_n 3, 1) := by decide +kernel
theorem dX11_mayShare_43 : decode cX11_mayShare 43 = .ok (.iadd, 1) := by decide +kernel
theorem dX11_mayShare_44 : decode cX11_mayShare 44 = .ok (.iaload, 1) := by decide +kernel
theorem dX11_mayShare_45 : decode cX11_mayShare 45 = .ok (.if_icmp .ne 43, 3) := by decide +kernel
theorem dX11_mayShare_48 : decode cX11_mayShare 48 = .ok (.aload_n 0, 1) := by decide +kernel
theorem dX11_mayShare_49 : decode cX11_mayShare 49 = .ok (.getfield 123, 3) := by decide +kernel
theorem dX11_mayShare_52 : decode cX11_mayShare 52 = .ok (.iload_n 1, 1) := by decide +kernel
theorem dX11_mayShare_53 : decode cX11_mayShare 53 = .ok (.bipush 23, 2) := by decide +kernel
theorem dX11_mayShare_55 : decode cX11_mayShare 55 = .ok (.iadd, 1) := by decide +kernel
theorem dX11_mayShare_56 : decode cX11_mayShare 56 = .ok (.iload_n 2, 1) := by decide +kernel
theorem dX11_mayShare_57 : decode cX11_mayShare 57 = .ok (.iadd, 1) := by decide +kernel
theorem dX11_mayShare_58 : decode cX11_mayShare 58 = .ok (.iaload, 1) := by decide +kernel
theorem dX11_mayShare_59 : decode cX11_mayShare 59 = .ok (.iload 4, 2) := by decide +kernel
theorem dX11_mayShare_61 : decode cX11_mayShare 61 = .ok (.if_icmp .lt 27, 3) := by decide +kernel
theorem dX11_mayShare_64 : decode cX11_mayShare 64 = .ok (.aload_n 0, 1) := by decide +kernel
theorem dX11_mayShare_65 : decode cX11_mayShare 65 = .ok (.getfield 123, 3) := by decide +kernel
theorem dX11_mayShare_68 : decode cX11_mayShare 68 = .ok (.iload_n 1, 1) := by decide +kernel
theorem dX11_mayShare_69 : decode cX11_mayShare 69 = .ok (.bipush 23, 2) := by decide +kernel
theorem dX11_mayShare_71 : decode cX11_mayShare 71 = .ok (.iadd, 1) := by decide +kernel
theorem dX11_mayShare_72 : decode cX11_mayShare 72 = .ok (.iload_n 3, 1) := by decide +kernel
theorem dX11_mayShare_73 : decode cX11_mayShare 73 = .ok (.iadd, 1) := by decide +kernel
theorem dX11_mayShare_74 : decode cX11_mayShare 74 = .ok (.iaload, 1) := by decide +kernel
theorem dX11_mayShare_75 : decode cX11_mayShare 75 = .ok (.iload 4, 2) := by decide +kernel
theorem dX11_mayShare_77 : decode cX11_mayShare 77 = .ok (.iadd, 1) := by decide +kernel
theorem dX11_mayShare_78 : decode cX11_mayShare 78 = .ok (.sipush 999, 3) := by decide +kernel
theorem dX11_mayShare_81 : decode cX11_mayShare 81 = .ok (.if_icmp .gt 7, 3) := by decide +kernel
theorem dX11_mayShare_84 : decode cX11_mayShare 84 = .ok (.iconst 1, 1) := by decide +kernel
theorem dX11_mayShare_85 : decode cX11_mayShare 85 = .ok (.goto 4, 3) := by decide +kernel
theorem dX11_mayShare_88 : decode cX11_mayShare 88 = .ok (.iconst 0, 1) := by decide +kernel
theorem dX11_mayShare_89 : decode cX11_mayShare 89 = .ok (.ireturn, 1) := by decide +kernel
theorem dX11_gives_0 : decode cX11_gives 0 = .ok (.aload_n 0, 1) := by decide +kernel
theorem dX11_gives_1 : decode cX11_gives 1 = .ok (.getfield 123, 3) := by decide +kernel
theorem dX11_gives_4 : decode cX11_gives 4 = .ok (.iload_n 1, 1) := by decide +kernel
theorem dX11_gives_5 : decode cX11_gives 5 = .ok (.bipush 23, 2) := by decide +kernel
theorem dX11_gives_7 : decode cX11_gives 7 = .ok (.iadd, 1) := by decide +kernel
theorem dX11_gives_8 : decode cX11_gives 8 = .ok (.iload_n 2, 1) := by decide +kernel
theorem dX11_gives_9 : decode cX11_gives 9 = .ok (.iadd, 1) := by decide +kernel
theorem dX11_gives_10 : decode cX11_gives 10 = .ok (.dup2, 1) := by decide +kernel
theorem dX11_gives_11 : decode cX11_gives 11 = .ok (.iaload, 1) := by decide +kernel
theorem dX11_gives_12 : decode cX11_gives 12 = .ok (.iload_n 3, 1) := by decide +kernel
theorem dX11_gives_13 : decode cX11_gives 13 = .ok (.isub, 1) := by decide +kernel
theorem dX11_gives_14 : decode cX11_gives 14 = .ok (.iastore, 1) := by decide +kernel
theorem dX11_gives_15 : decode cX11_gives 15 = .ok (.return_, 1) := by decide +kernel
theorem dX11_stages_0 : decode cX11_stages 0 = .ok (.aload_n 0, 1) := by decide +kernel
theorem dX11_stages_1 : decode cX11_stages 1 = .ok (.iload_n 1, 1) := by decide +kernel
theorem dX11_stages_2 : decode cX11_stages 2 = .ok (.iload_n 2, 1) := by decide +kernel
theorem dX11_stages_3 : decode cX11_stages 3 = .ok (.iload_n 3, 1) := by decide +kernel
theorem dX11_stages_4 : decode cX11_stages 4 = .ok (.invokevirtual 337, 3) := by decide +kernel
theorem dX11_stages_7 : decode cX11_stages 7 = .ok (.aload_n 0, 1) := by decide +kernel
theorem dX11_stages_8 : decode cX11_stages 8 = .ok (.getfield 123, 3) := by decide +kernel
theorem dX11_stages_11 : decode cX11_stages 11 = .ok (.iload_n 1, 1) := by decide +kernel
theorem dX11_stages_12 : decode cX11_stages 12 = .ok (.bipush 12, 2) := by decide +kernel
theorem dX11_stages_14 : decode cX11_stages 14 = .ok (.iadd, 1) := by decide +kernel
theorem dX11_stages_15 : decode cX11_stages 15 = .ok (.aload_n 0, 1) := by decide +kernel
theorem dX11_stages_16 : decode cX11_stages 16 = .ok (.getfield 123, 3) := by decide +kernel
theorem dX11_stages_19 : decode cX11_stages 19 = .ok (.iload_n 1, 1) := by decide +kernel
theorem dX11_stages_20 : decode cX11_stages 20 = .ok (.bipush 19, 2) := by decide +kernel
theorem dX11_stages_22 : decode cX11_stages 22 = .ok (.iadd, 1) := by decide +kernel
theorem dX11_stages_23 : decode cX11_stages 23 = .ok (.iload_n 2, 1) := by decide +kernel
theorem dX11_stages_24 : decode cX11_stages 24 = .ok (.iadd, 1) := by decide +kernel
theorem dX11_stages_25 : decode cX11_stages 25 = .ok (.iaload, 1) := by decide +kernel
theorem dX11_stages_26 : decode cX11_stages 26 = .ok (.iadd, 1) := by decide +kernel
theorem dX11_stages_27 : decode cX11_stages 27 = .ok (.dup2, 1) := by decide +kernel
theorem dX11_stages_28 : decode cX11_stages 28 = .ok (.iaload, 1) := by decide +kernel
theorem dX11_stages_29 : decode cX11_stages 29 = .ok (.iload_n 3, 1) := by decide +kernel
theorem dX11_stages_30 : decode cX11_stages 30 = .ok (.iadd, 1) := by decide +kernel
theorem dX11_stages_31 : decode cX11_stages 31 = .ok (.iastore, 1) := by decide +kernel
theorem dX11_stages_32 : decode cX11_stages 32 = .ok (.return_, 1) := by decide +kernel
theorem dX11_passes_0 : decode cX11_passes 0 = .ok (.iconst 0, 1) := by decide +kernel
theorem dX11_passes_1 : decode cX11_passes 1 = .ok (.istore_n 3, 1) := by decide +kernel
theorem dX11_passes_2 : decode cX11_passes 2 = .ok (.iconst 0, 1) := by decide +kernel
theorem dX11_passes_3 : decode cX11_passes 3 = .ok (.istore 4, 2) := by decide +kernel
theorem dX11_passes_5 : decode cX11_passes 5 = .ok (.iload 4, 2) := by decide +kernel
theorem dX11_passes_7 : decode cX11_passes 7 = .ok (.aload_n 0, 1) := by decide +kernel
theorem dX11_passes_8 : decode cX11_passes 8 = .ok (.invokevirtual 276, 3) := by decide +kernel
theorem dX11_passes_11 : decode cX11_passes 11 = .ok (.if_icmp .ge 191, 3) := by decide +kernel
theorem dX11_passes_14 : decode cX11_passes 14 = .ok (.aload_n 0, 1) := by decide +kernel
theorem dX11_passes_15 : decode cX11_passes 15 = .ok (.getfield 123, 3) := by decide +kernel
theorem dX11_passes_18 : decode cX11_passes 18 = .ok (.iload_n 1, 1) := by decide +kernel
theorem dX11_passes_19 : decode cX11_passes 19 = .ok (.bipush 19, 2) := by decide +kernel
theorem dX11_passes_21 : decode cX11_passes 21 = .ok (.iadd, 1) := by decide +kernel
theorem dX11_passes_22 : decode cX11_passes 22 = .ok (.iload 4, 2) := by decide +kernel
theorem dX11_passes_24 : decode cX11_passes 24 = .ok (.iadd, 1) := by decide +kernel
theorem dX11_passes_25 : decode cX11_passes 25 = .ok (.iaload, 1) := by decide +kernel
theorem dX11_passes_26 : decode cX11_passes 26 = .ok (.istore 5, 2) := by decide +kernel
theorem dX11_passes_28 : decode cX11_passes 28 = .ok (.aload_n 0, 1) := by decide +kernel
theorem dX11_passes_29 : decode cX11_passes 29 = .ok (.iload_n 1, 1) := by decide +kernel
theorem dX11_passes_30 : decode cX11_passes 30 = .ok (.iload 4, 2) := by decide +kernel
theorem dX11_passes_32 : decode cX11_passes 32 = .ok (.invokevirtual 315, 3) := by decide +kernel
theorem dX11_passes_35 : decode cX11_passes 35 = .ok (.ifCond .ne 143, 3) := by decide +kernel
theorem dX11_passes_38 : decode cX11_passes 38 = .ok (.iload 5, 2) := by decide +kernel
theorem dX11_passes_40 : decode cX11_passes 40 = .ok (.ifCond .le 138, 3) := by decide +kernel
theorem dX11_passes_43 : decode cX11_passes 43 = .ok (.aload_n 0, 1) := by decide +kernel
theorem dX11_passes_44 : decode cX11_passes 44 = .ok (.iload_n 1, 1) := by decide +kernel
theorem dX11_passes_45 : decode cX11_passes 45 = .ok (.iload 4, 2) := by decide +kernel
theorem dX11_passes_47 : decode cX11_passes 47 = .ok (.aload_n 0, 1) := by decide +kernel
theorem dX11_passes_48 : decode cX11_passes 48 = .ok (.getfield 93, 3) := by decide +kernel
theorem dX11_passes_51 : decode cX11_passes 51 = .ok (.iconst 5, 1) := by decide +kernel
theorem dX11_passes_52 : decode cX11_passes 52 = .ok (.iload 5, 2) := by decide +kernel
theorem dX11_passes_54 : decode cX11_passes 54 = .ok (.iadd, 1) := by decide +kernel
theorem dX11_passes_55 : decode cX11_passes 55 = .ok (.iaload, 1) := by decide +kernel
theorem dX11_passes_56 : decode cX11_passes 56 = .ok (.iconst 0, 1) := by decide +kernel
theorem dX11_passes_57 : decode cX11_passes 57 = .ok (.aload_n 0, 1) := by decide +kernel
theorem dX11_passes_58 : decode cX11_passes 58 = .ok (.getfield 123, 3) := by decide +kernel
theorem dX11_passes_61 : decode cX11_passes 61 = .ok (.iload_n 1, 1) := by decide +kernel
theorem dX11_passes_62 : decode cX11_passes 62 = .ok (.bipush 27, 2) := by decide +kernel
theorem dX11_passes_64 : decode cX11_passes 64 = .ok (.iadd, 1) := by decide +kernel
theorem dX11_passes_65 : decode cX11_passes 65 = .ok (.iload 4, 2) := by decide +kernel
theorem dX11_passes_67 : decode cX11_passes 67 = .ok (.iadd, 1) := by decide +kernel
theorem dX11_passes_68 : decode cX11_passes 68 = .ok (.iaload, 1) := by decide +kernel
theorem dX11_passes_69 : decode cX11_passes 69 = .ok (.invokevirtual 307, 3) := by decide +kernel
theorem dX11_passes_72 : decode cX11_passes 72 = .ok (.istore 6, 2) := by decide +kernel
theorem dX11_passes_74 : decode cX11_passes 74 = .ok (.aload_n 0, 1) := by decide +kernel
theorem dX11_passes_75 : decode cX11_passes 75 = .ok (.getfield 123, 3) := by decide +kernel
theorem dX11_passes_78 : decode cX11_passes 78 = .ok (.iload_n 1, 1) := by decide +kernel
theorem dX11_passes_79 : decode cX11_passes 79 = .ok (.bipush 23, 2) := by decide +kernel
theorem dX11_passes_81 : decode cX11_passes 81 = .ok (.iadd, 1) := by decide +kernel
theorem dX11_passes_82 : decode cX11_passes 82 = .ok (.iload 4, 2) := by decide +kernel
theorem dX11_passes_84 : decode cX11_passes 84 = .ok (.iadd, 1) := by decide +kernel
theorem dX11_passes_85 : decode cX11_passes 85 = .ok (.iaload, 1) := by decide +kernel
theorem dX11_passes_86 : decode cX11_passes 86 = .ok (.istore 7, 2) := by decide +kernel
theorem dX11_passes_88 : decode cX11_passes 88 = .ok (.aload_n 0, 1) := by decide +kernel
theorem dX11_passes_89 : decode cX11_passes 89 = .ok (.getfield 123, 3) := by decide +kernel
theorem dX11_passes_92 : decode cX11_passes 92 = .ok (.iload_n 1, 1) := by decide +kernel
theorem dX11_passes_93 : decode cX11_passes 93 = .ok (.bipush 27, 2) := by decide +kernel
theorem dX11_passes_95 : decode cX11_passes 95 = .ok (.iadd, 1) := by decide +kernel
theorem dX11_passes_96 : decode cX11_passes 96 = .ok (.iload 4, 2) := by decide +kernel
theorem dX11_passes_98 : decode cX11_passes 98 = .ok (.iadd, 1) := by decide +kernel
theorem dX11_passes_99 : decode cX11_passes 99 = .ok (.dup2, 1) := by decide +kernel
theorem dX11_passes_100 : decode cX11_passes 100 = .ok (.iaload, 1) := by decide +kernel
theorem dX11_passes_101 : decode cX11_passes 101 = .ok (.iconst 1, 1) := by decide +kernel
theorem dX11_passes_102 : decode cX11_passes 102 = .ok (.iadd, 1) := by decide +kernel
theorem dX11_passes_103 : decode cX11_passes 103 = .ok (.iastore, 1) := by decide +kernel
theorem dX11_passes_104 : decode cX11_passes 104 = .ok (.aload_n 0, 1) := by decide +kernel
theorem dX11_passes_105 : decode cX11_passes 105 = .ok (.getfield 123, 3) := by decide +kernel
theorem dX11_passes_108 : decode cX11_passes 108 = .ok (.iload_n 1, 1) := by decide +kernel
theorem dX11_passes_109 : decode cX11_passes 109 = .ok (.bipush 23, 2) := by decide +kernel
theorem dX11_passes_111 : decode cX11_passes 111 = .ok (.iadd, 1) := by decide +kernel
theorem dX11_passes_112 : decode cX11_passes 112 = .ok (.iload 4, 2) := by decide +kernel
theorem dX11_passes_114 : decode cX11_passes 114 = .ok (.iadd, 1) := by decide +kernel
theorem dX11_passes_115 : decode cX11_passes 115 = .ok (.iload 7, 2) := by decide +kernel
theorem dX11_passes_117 : decode cX11_passes 117 = .ok (.iload 6, 2) := by decide +kernel
theorem dX11_passes_119 : decode cX11_passes 119 = .ok (.if_icmp .ge 7, 3) := by decide +kernel
theorem dX11_passes_122 : decode cX11_passes 122 = .ok (.iconst 0, 1) := by decide +kernel
theorem dX11_passes_123 : decode cX11_passes 123 = .ok (.goto 8, 3) := by decide +kernel
theorem dX11_passes_126 : decode cX11_passes 126 = .ok (.iload 7, 2) := by decide +kernel
theorem dX11_passes_128 : decode cX11_passes 128 = .ok (.iload 6, 2) := by decide +kernel
theorem dX11_passes_130 : decode cX11_passes 130 = .ok (.isub, 1) := by decide +kernel
theorem dX11_passes_131 : decode cX11_passes 131 = .ok (.iastore, 1) := by decide +kernel
theorem dX11_passes_132 : decode cX11_passes 132 = .ok (.aload_n 0, 1) := by decide +kernel
theorem dX11_passes_133 : decode cX11_passes 133 = .ok (.getfield 123, 3) := by decide +kernel
theorem dX11_passes_136 : decode cX11_passes 136 = .ok (.iload_n 1, 1) := by decide +kernel
theorem dX11_passes_137 : decode cX11_passes 137 = .ok (.iconst 3, 1) := by decide +kernel
theorem dX11_passes_138 : decode cX11_passes 138 = .ok (.iadd, 1) := by decide +kernel
theorem dX11_passes_139 : decode cX11_passes 139 = .ok (.dup2, 1) := by decide +kernel
theorem dX11_passes_140 : decode cX11_passes 140 = .ok (.iaload, 1) := by decide +kernel
theorem dX11_passes_141 : decode cX11_passes 141 = .ok (.iload 7, 2) := by decide +kernel
theorem dX11_passes_143 : decode cX11_passes 143 = .ok (.iload 6, 2) := by decide +kernel
theorem dX11_passes_145 : decode cX11_passes 145 = .ok (.if_icmp .ge 8, 3) := by decide +kernel
theorem dX11_passes_148 : decode cX11_passes 148 = .ok (.iload 7, 2) := by decide +kernel
theorem dX11_passes_150 : decode cX11_passes 150 = .ok (.goto 5, 3) := by decide +kernel
theorem dX11_passes_153 : decode cX11_passes 153 = .ok (.iload 6, 2) := by decide +kernel
theorem dX11_passes_155 : decode cX11_passes 155 = .ok (.iadd, 1) := by decide +kernel
theorem dX11_passes_156 : decode cX11_passes 156 = .ok (.iastore, 1) := by decide +kernel
theorem dX11_passes_157 : decode cX11_passes 157 = .ok (.iload_n 3, 1) := by decide +kernel
theorem dX11_passes_158 : decode cX11_passes 158 = .ok (.iload 7, 2) := by decide +kernel
theorem dX11_passes_160 : decode cX11_passes 160 = .ok (.iload 6, 2) := by decide +kernel
theorem dX11_passes_162 : decode cX11_passes 162 = .ok (.if_icmp .ge 10, 3) := by decide +kernel
theorem dX11_passes_165 : decode cX11_passes 165 = .ok (.iconst 1, 1) := by decide +kernel
theorem dX11_passes_166 : decode cX11_passes 166 = .ok (.iload 4, 2) := by decide +kernel
theorem dX11_passes_168 : decode cX11_passes 168 = .ok (.ishl, 1) := by decide +kernel
theorem dX11_passes_169 : decode cX11_passes 169 = .ok (.goto 4, 3) := by decide +kernel
theorem dX11_passes_172 : decode cX11_passes 172 = .ok (.iconst 0, 1) := by decide +kernel
theorem dX11_passes_173 : decode cX11_passes 173 = .ok (.ior, 1) := by decide +kernel
theorem dX11_passes_174 : decode cX11_passes 174 = .ok (.istore_n 3, 1) := by decide +kernel
theorem dX11_passes_175 : decode cX11_passes 175 = .ok (.goto 21, 3) := by decide +kernel
theorem dX11_passes_178 : decode cX11_passes 178 = .ok (.iload 5, 2) := by decide +kernel
theorem dX11_passes_180 : decode cX11_passes 180 = .ok (.ifCond .ne 16, 3) := by decide +kernel
theorem dX11_passes_183 : decode cX11_passes 183 = .ok (.aload_n 0, 1) := by decide +kernel
theorem dX11_passes_184 : decode cX11_passes 184 = .ok (.getfield 123, 3) := by decide +kernel
theorem dX11_passes_187 : decode cX11_passes 187 = .ok (.iload_n 1, 1) := by decide +kernel
theorem dX11_passes_188 : decode cX11_passes 188 = .ok (.bipush 27, 2) := by decide +kernel
theorem dX11_passes_190 : decode cX11_passes 190 = .ok (.iadd, 1) := by decide +kernel
theorem dX11_passes_191 : decode cX11_passes 191 = .ok (.iload 4, 2) := by decide +kernel
theorem dX11_passes_193 : decode cX11_passes 193 = .ok (.iadd, 1) := by decide +kernel
theorem dX11_passes_194 : decode cX11_passes 194 = .ok (.iconst 0, 1) := by decide +kernel
theorem dX11_passes_195 : decode cX11_passes 195 = .ok (.iastore, 1) := by decide +kernel
theorem dX11_passes_196 : decode cX11_passes 196 = .ok (.iinc 4 1, 3) := by decide +kernel
theorem dX11_passes_199 : decode cX11_passes 199 = .ok (.goto (-194), 3) := by decide +kernel
theorem dX11_passes_202 : decode cX11_passes 202 = .ok (.aload_n 0, 1) := by decide +kernel
theorem dX11_passes_203 : decode cX11_passes 203 = .ok (.getfield 123, 3) := by decide +kernel
theorem dX11_passes_206 : decode cX11_passes 206 = .ok (.iload_n 1, 1) := by decide +kernel
theorem dX11_passes_207 : decode cX11_passes 207 = .ok (.iconst 2, 1) := by decide +kernel
theorem dX11_passes_208 : decode cX11_passes 208 = .ok (.iadd, 1) := by decide +kernel
theorem dX11_passes_209 : decode cX11_passes 209 = .ok (.dup2, 1) := by decide +kernel
theorem dX11_passes_210 : decode cX11_passes 210 = .ok (.iaload, 1) := by decide +kernel
theorem dX11_passes_211 : decode cX11_passes 211 = .ok (.iload_n 3, 1) := by decide +kernel
theorem dX11_passes_212 : decode cX11_passes 212 = .ok (.ior, 1) := by decide +kernel
theorem dX11_passes_213 : decode cX11_passes 213 = .ok (.iastore, 1) := by decide +kernel
theorem dX11_passes_214 : decode cX11_passes 214 = .ok (.iconst 0, 1) := by decide +kernel
theorem dX11_passes_215 : decode cX11_passes 215 = .ok (.istore 4, 2) := by decide +kernel
theorem dX11_passes_217 : decode cX11_passes 217 = .ok (.iload 4, 2) := by decide +kernel
theorem dX11_passes_219 : decode cX11_passes 219 = .ok (.aload_n 0, 1) := by decide +kernel
theorem dX11_passes_220 : decode cX11_passes 220 = .ok (.invokevirtual 292, 3) := by decide +kernel
theorem dX11_passes_223 : decode cX11_passes 223 = .ok (.if_icmp .ge 68, 3) := by decide +kernel
theorem dX11_passes_226 : decode cX11_passes 226 = .ok (.aload_n 0, 1) := by decide +kernel
theorem dX11_passes_227 : decode cX11_passes 227 = .ok (.getfield 123, 3) := by decide +kernel
theorem dX11_passes_230 : decode cX11_passes 230 = .ok (.iload_n 1, 1) := by decide +kernel
theorem dX11_passes_231 : decode cX11_passes 231 = .ok (.iconst 4, 1) := by decide +kernel
theorem dX11_passes_232 : decode cX11_passes 232 = .ok (.iadd, 1) := by decide +kernel
theorem dX11_passes_233 : decode cX11_passes 233 = .ok (.iload 4, 2) := by decide +kernel
theorem dX11_passes_235 : decode cX11_passes 235 = .ok (.iadd, 1) := by decide +kernel
theorem dX11_passes_236 : decode cX11_passes 236 = .ok (.iaload, 1) := by decide +kernel
theorem dX11_passes_237 : decode cX11_passes 237 = .ok (.iload_n 2, 1) := by decide +kernel
theorem dX11_passes_238 : decode cX11_passes 238 = .ok (.bipush 7, 2) := by decide +kernel
theorem dX11_passes_240 : decode cX11_passes 240 = .ok (.if_icmp .lt 7, 3) := by decide +kernel
theorem dX11_passes_243 : decode cX11_passes 243 = .ok (.iconst 1, 1) := by decide +kernel
theorem dX11_passes_244 : decode cX11_passes 244 = .ok (.goto 4, 3) := by decide +kernel
theorem dX11_passes_247 : decode cX11_passes 247 = .ok (.iconst (-1), 1) := by decide +kernel
theorem dX11_passes_248 : decode cX11_passes 248 = .ok (.iadd, 1) := by decide +kernel
theorem dX11_passes_249 : decode cX11_passes 249 = .ok (.istore 5, 2) := by decide +kernel
theorem dX11_passes_251 : decode cX11_passes 251 = .ok (.aload_n 0, 1) := by decide +kernel
theorem dX11_passes_252 : decode cX11_passes 252 = .ok (.getfield 123, 3) := by decide +kernel
theorem dX11_passes_255 : decode cX11_passes 255 = .ok (.iload_n 1, 1) := by decide +kernel
theorem dX11_passes_256 : decode cX11_passes 256 = .ok (.iconst 4, 1) := by decide +kernel
theorem dX11_passes_257 : decode cX11_passes 257 = .ok (.iadd, 1) := by decide +kernel
theorem dX11_passes_258 : decode cX11_passes 258 = .ok (.iload 4, 2) := by decide +kernel
theorem dX11_passes_260 : decode cX11_passes 260 = .ok (.iadd, 1) := by decide +kernel
theorem dX11_passes_261 : decode cX11_passes 261 = .ok (.iload 5, 2) := by decide +kernel
theorem dX11_passes_263 : decode cX11_passes 263 = .ok (.ifCond .ge 7, 3) := by decide +kernel
theorem dX11_passes_266 : decode cX11_passes 266 = .ok (.iconst 0, 1) := by decide +kernel
theorem dX11_passes_267 : decode cX11_passes 267 = .ok (.goto 17, 3) := by decide +kernel
theorem dX11_passes_270 : decode cX11_passes 270 = .ok (.iload 5, 2) := by decide +kernel
theorem dX11_passes_272 : decode cX11_passes 272 = .ok (.bipush 9, 2) := by decide +kernel
theorem dX11_passes_274 : decode cX11_passes 274 = .ok (.if_icmp .le 8, 3) := by decide +kernel
theorem dX11_passes_277 : decode cX11_passes 277 = .ok (.bipush 9, 2) := by decide +kernel
theorem dX11_passes_279 : decode cX11_passes 279 = .ok (.goto 5, 3) := by decide +kernel
theorem dX11_passes_282 : decode cX11_passes 282 = .ok (.iload 5, 2) := by decide +kernel
theorem dX11_passes_284 : decode cX11_passes 284 = .ok (.iastore, 1) := by decide +kernel
theorem dX11_passes_285 : decode cX11_passes 285 = .ok (.iinc 4 1, 3) := by decide +kernel
theorem dX11_passes_288 : decode cX11_passes 288 = .ok (.goto (-71), 3) := by decide +kernel
theorem dX11_passes_291 : decode cX11_passes 291 = .ok (.aload_n 0, 1) := by decide +kernel
theorem dX11_passes_292 : decode cX11_passes 292 = .ok (.getfield 123, 3) := by decide +kernel
theorem dX11_passes_295 : decode cX11_passes 295 = .ok (.iload_n 1, 1) := by decide +kernel
theorem dX11_passes_296 : decode cX11_passes 296 = .ok (.iconst 0, 1) := by decide +kernel
theorem dX11_passes_297 : decode cX11_passes 297 = .ok (.iadd, 1) := by decide +kernel
theorem dX11_passes_298 : decode cX11_passes 298 = .ok (.dup2, 1) := by decide +kernel
theorem dX11_passes_299 : decode cX11_passes 299 = .ok (.iaload, 1) := by decide +kernel
theorem dX11_passes_300 : decode cX11_passes 300 = .ok (.iconst 1, 1) := by decide +kernel
theorem dX11_passes_301 : decode cX11_passes 301 = .ok (.iadd, 1) := by decide +kernel
theorem dX11_passes_302 : decode cX11_passes 302 = .ok (.iastore, 1) := by decide +kernel
theorem dX11_passes_303 : decode cX11_passes 303 = .ok (.iload_n 3, 1) := by decide +kernel
theorem dX11_passes_304 : decode cX11_passes 304 = .ok (.ireturn, 1) := by decide +kernel
theorem dX11_passes__0 : decode cX11_passes_ 0 = .ok (.aload_n 0, 1) := by decide +kernel
theorem dX11_passes__1 : decode cX11_passes_ 1 = .ok (.iload_n 1, 1) := by decide +kernel
theorem dX11_passes__2 : decode cX11_passes_ 2 = .ok (.aload_n 0, 1) := by decide +kernel
theorem dX11_passes__3 : decode cX11_passes_ 3 = .ok (.aload_n 0, 1) := by decide +kernel
theorem dX11_passes__4 : decode cX11_passes_ 4 = .ok (.getfield 123, 3) := by decide +kernel
theorem dX11_passes__7 : decode cX11_passes_ 7 = .ok (.iload_n 1, 1) := by decide +kernel
theorem dX11_passes__8 : decode cX11_passes_ 8 = .ok (.iconst 0, 1) := by decide +kernel
theorem dX11_passes__9 : decode cX11_passes_ 9 = .ok (.iadd, 1) := by decide +kernel
theorem dX11_passes__10 : decode cX11_passes_ 10 = .ok (.iaload, 1) := by decide +kernel
theorem dX11_passes__11 : decode cX11_passes_ 11 = .ok (.invokevirtual 295, 3) := by decide +kernel
theorem dX11_passes__14 : decode cX11_passes_ 14 = .ok (.invokevirtual 340, 3) := by decide +kernel
theorem dX11_passes__17 : decode cX11_passes_ 17 = .ok (.ireturn, 1) := by decide +kernel
theorem dX11_inPlace_0 : decode cX11_inPlace 0 = .ok (.iconst 0, 1) := by decide +kernel
theorem dX11_inPlace_1 : decode cX11_inPlace 1 = .ok (.istore_n 2, 1) := by decide +kernel
theorem dX11_inPlace_2 : decode cX11_inPlace 2 = .ok (.iconst 0, 1) := by decide +kernel
theorem dX11_inPlace_3 : decode cX11_inPlace 3 = .ok (.istore_n 3, 1) := by decide +kernel
theorem dX11_inPlace_4 : decode cX11_inPlace 4 = .ok (.iload_n 3, 1) := by decide +kernel
theorem dX11_inPlace_5 : decode cX11_inPlace 5 = .ok (.aload_n 0, 1) := by decide +kernel
theorem dX11_inPlace_6 : decode cX11_inPlace 6 = .ok (.invokevirtual 276, 3) := by decide +kernel
theorem dX11_inPlace_9 : decode cX11_inPlace 9 = .ok (.if_icmp .ge 32, 3) := by decide +kernel
theorem dX11_inPlace_12 : decode cX11_inPlace 12 = .ok (.iload_n 2, 1) := by decide +kernel
theorem dX11_inPlace_13 : decode cX11_inPlace 13 = .ok (.aload_n 0, 1) := by decide +kernel
theorem dX11_inPlace_14 : decode cX11_inPlace 14 = .ok (.getfield 123, 3) := by decide +kernel
theorem dX11_inPlace_17 : decode cX11_inPlace 17 = .ok (.bipush 19, 2) := by decide +kernel
theorem dX11_inPlace_19 : decode cX11_inPlace 19 = .ok (.iload_n 3, 1) := by decide +kernel
theorem dX11_inPlace_20 : decode cX11_inPlace 20 = .ok (.iadd, 1) := by decide +kernel
theorem dX11_inPlace_21 : decode cX11_inPlace 21 = .ok (.iaload, 1) := by decide +kernel
theorem dX11_inPlace_22 : decode cX11_inPlace 22 = .ok (.iload_n 1, 1) := by decide +kernel
theorem dX11_inPlace_23 : decode cX11_inPlace 23 = .ok (.if_icmp .ne 9, 3) := by decide +kernel
theorem dX11_inPlace_26 : decode cX11_inPlace 26 = .ok (.iconst 1, 1) := by decide +kernel
theorem dX11_inPlace_27 : decode cX11_inPlace 27 = .ok (.iload_n 3, 1) := by decide +kernel
theorem dX11_inPlace_28 : decode cX11_inPlace 28 = .ok (.ishl, 1) := by decide +kernel
theorem dX11_inPlace_29 : decode cX11_inPlace 29 = .ok (.goto 4, 3) := by decide +kernel
theorem dX11_inPlace_32 : decode cX11_inPlace 32 = .ok (.iconst 0, 1) := by decide +kernel
theorem dX11_inPlace_33 : decode cX11_inPlace 33 = .ok (.ior, 1) := by decide +kernel
theorem dX11_inPlace_34 : decode cX11_inPlace 34 = .ok (.istore_n 2, 1) := by decide +kernel
theorem dX11_inPlace_35 : decode cX11_inPlace 35 = .ok (.iinc 3 1, 3) := by decide +kernel
theorem dX11_inPlace_38 : decode cX11_inPlace 38 = .ok (.goto (-34), 3) := by decide +kernel
theorem dX11_inPlace_41 : decode cX11_inPlace 41 = .ok (.iload_n 2, 1) := by decide +kernel
theorem dX11_inPlace_42 : decode cX11_inPlace 42 = .ok (.ireturn, 1) := by decide +kernel
theorem dX11_place_0 : decode cX11_place 0 = .ok (.aload_n 0, 1) := by decide +kernel
theorem dX11_place_1 : decode cX11_place 1 = .ok (.iconst 0, 1) := by decide +kernel
theorem dX11_place_2 : decode cX11_place 2 = .ok (.putfield 1, 3) := by decide +kernel
theorem dX11_place_5 : decode cX11_place 5 = .ok (.aload_n 0, 1) := by decide +kernel
theorem dX11_place_6 : decode cX11_place 6 = .ok (.iload_n 1, 1) := by decide +kernel
theorem dX11_place_7 : decode cX11_place 7 = .ok (.invokevirtual 343, 3) := by decide +kernel
theorem dX11_place_10 : decode cX11_place 10 = .ok (.ifCond .eq 12, 3) := by decide +kernel
theorem dX11_place_13 : decode cX11_place 13 = .ok (.iload_n 2, 1) := by decide +kernel
theorem dX11_place_14 : decode cX11_place 14 = .ok (.iconst 0, 1) := by decide +kernel
theorem dX11_place_15 : decode cX11_place 15 = .ok (.iconst 2, 1) := by decide +kernel
theorem dX11_place_16 : decode cX11_place 16 = .ok (.invokestatic 205, 3) := by decide +kernel
theorem dX11_place_19 : decode cX11_place 19 = .ok (.ifCond .ne 5, 3) := by decide +kernel
theorem dX11_place_22 : decode cX11_place 22 = .ok (.iconst (-1), 1) := by decide +kernel
theorem dX11_place_23 : decode cX11_place 23 = .ok (.ireturn, 1) := by decide +kernel
theorem dX11_place_24 : decode cX11_place 24 = .ok (.iload_n 2, 1) := by decide +kernel
theorem dX11_place_25 : decode cX11_place 25 = .ok (.ifCond .ne 14, 3) := by decide +kernel
theorem dX11_place_28 : decode cX11_place 28 = .ok (.aload_n 0, 1) := by decide +kernel
theorem dX11_place_29 : decode cX11_place 29 = .ok (.getfield 93, 3) := by decide +kernel
theorem dX11_place_32 : decode cX11_place 32 = .ok (.iconst 5, 1) := by decide +kernel
theorem dX11_place_33 : decode cX11_place 33 = .ok (.iload_n 1, 1) := by decide +kernel
theorem dX11_place_34 : decode cX11_place 34 = .ok (.iadd, 1) := by decide +kernel
theorem dX11_place_35 : decode cX11_place 35 = .ok (.iaload, 1) := by decide +kernel
theorem dX11_place_36 : decode cX11_place 36 = .ok (.goto 25, 3) := by decide +kernel
theorem dX11_place_39 : decode cX11_place 39 = .ok (.iload_n 2, 1) := by decide +kernel
theorem dX11_place_40 : decode cX11_place 40 = .ok (.iconst 1, 1) := by decide +kernel
theorem dX11_place_41 : decode cX11_place 41 = .ok (.if_icmp .ne 15, 3) := by decide +kernel
theorem dX11_place_44 : decode cX11_place 44 = .ok (.aload_n 0, 1) := by decide +kernel
theorem dX11_place_45 : decode cX11_place 45 = .ok (.getfield 123, 3) := by decide +kernel
theorem dX11_place_48 : decode cX11_place 48 = .ok (.bipush 12, 2) := by decide +kernel
theorem dX11_place_50 : decode cX11_place 50 = .ok (.iload_n 1, 1) := by decide +kernel
theorem dX11_place_51 : decode cX11_place 51 = .ok (.iadd, 1) := by decide +kernel
theorem dX11_place_52 : decode cX11_place 52 = .ok (.iaload, 1) := by decide +kernel
theorem dX11_place_53 : decode cX11_place 53 = .ok (.goto 8, 3) := by decide +kernel
theorem dX11_place_56 : decode cX11_place 56 = .ok (.aload_n 0, 1) := by decide +kernel
theorem dX11_place_57 : decode cX11_place 57 = .ok (.iload_n 1, 1) := by decide +kernel
theorem dX11_place_58 : decode cX11_place 58 = .ok (.invokevirtual 346, 3) := by decide +kernel
theorem dX11_place_61 : decode cX11_place 61 = .ok (.ireturn, 1) := by decide +kernel
theorem dX11_way_0 : decode cX11_way 0 = .ok (.aload_n 0, 1) := by decide +kernel
theorem dX11_way_1 : decode cX11_way 1 = .ok (.iconst 0, 1) := by decide +kernel
theorem dX11_way_2 : decode cX11_way 2 = .ok (.putfield 1, 3) := by decide +kernel
theorem dX11_way_5 : decode cX11_way 5 = .ok (.aload_n 0, 1) := by decide +kernel
theorem dX11_way_6 : decode cX11_way 6 = .ok (.iload_n 1, 1) := by decide +kernel
theorem dX11_way_7 : decode cX11_way 7 = .ok (.invokevirtual 349, 3) := by decide +kernel
theorem dX11_way_10 : decode cX11_way 10 = .ok (.ifCond .eq 13, 3) := by decide +kernel
theorem dX11_way_13 : decode cX11_way 13 = .ok (.iload_n 2, 1) := by decide +kernel
theorem dX11_way_14 : decode cX11_way 14 = .ok (.iconst 0, 1) := by decide +kernel
theorem dX11_way_15 : decode cX11_way 15 = .ok (.bipush 6, 2) := by decide +kernel
theorem dX11_way_17 : decode cX11_way 17 = .ok (.invokestatic 205, 3) := by decide +kernel
theorem dX11_way_20 : decode cX11_way 20 = .ok (.ifCond .ne 5, 3) := by decide +kernel
theorem dX11_way_23 : decode cX11_way 23 = .ok (.iconst (-1), 1) := by decide +kernel
theorem dX11_way_24 : decode cX11_way 24 = .ok (.ireturn, 1) := by decide +kernel
theorem dX11_way_25 : decode cX11_way 25 = .ok (.iload_n 2, 1) := by decide +kernel
theorem dX11_way_26 : decode cX11_way 26 = .ok (.tableswitch 65 4 6 #[26, 35, 50], 26) := by decide +kernel
theorem dX11_way_52 : decode cX11_way 52 = .ok (.aload_n 0, 1) := by decide +kernel
theorem dX11_way_53 : decode cX11_way 53 = .ok (.getfield 123, 3) := by decide +kernel
theorem dX11_way_56 : decode cX11_way 56 = .ok (.iconst 4, 1) := by decide +kernel
theorem dX11_way_57 : decode cX11_way 57 = .ok (.iload_n 1, 1) := by decide +kernel
theorem dX11_way_58 : decode cX11_way 58 = .ok (.iadd, 1) := by decide +kernel
theorem dX11_way_59 : decode cX11_way 59 = .ok (.iaload, 1) := by decide +kernel
theorem dX11_way_60 : decode cX11_way 60 = .ok (.ireturn, 1) := by decide +kernel
theorem dX11_way_61 : decode cX11_way 61 = .ok (.aload_n 0, 1) := by decide +kernel
theorem dX11_way_62 : decode cX11_way 62 = .ok (.iconst 0, 1) := by decide +kernel
theorem dX11_way_63 : decode cX11_way 63 = .ok (.iload_n 1, 1) := by decide +kernel
theorem dX11_way_64 : decode cX11_way 64 = .ok (.invokevirtual 325, 3) := by decide +kernel
theorem dX11_way_67 : decode cX11_way 67 = .ok (.ifCond .eq 7, 3) := by decide +kernel
theorem dX11_way_70 : decode cX11_way 70 = .ok (.iconst 1, 1) := by decide +kernel
theorem dX11_way_71 : decode cX11_way 71 = .ok (.goto 4, 3) := by decide +kernel
theorem dX11_way_74 : decode cX11_way 74 = .ok (.iconst 0, 1) := by decide +kernel
theorem dX11_way_75 : decode cX11_way 75 = .ok (.ireturn, 1) := by decide +kernel
theorem dX11_way_76 : decode cX11_way 76 = .ok (.aload_n 0, 1) := by decide +kernel
theorem dX11_way_77 : decode cX11_way 77 = .ok (.iconst 0, 1) := by decide +kernel
theorem dX11_way_78 : decode cX11_way 78 = .ok (.iload_n 1, 1) := by decide +kernel
theorem dX11_way_79 : decode cX11_way 79 = .ok (.invokevirtual 322, 3) := by decide +kernel
theorem dX11_way_82 : decode cX11_way 82 = .ok (.ifCond .eq 7, 3) := by decide +kernel
theorem dX11_way_85 : decode cX11_way 85 = .ok (.iconst 1, 1) := by decide +kernel
theorem dX11_way_86 : decode cX11_way 86 = .ok (.goto 4, 3) := by decide +kernel
theorem dX11_way_89 : decode cX11_way 89 = .ok (.iconst 0, 1) := by decide +kernel
theorem dX11_way_90 : decode cX11_way 90 = .ok (.ireturn, 1) := by decide +kernel
theorem dX11_way_91 : decode cX11_way 91 = .ok (.aload_n 0, 1) := by decide +kernel
theorem dX11_way_92 : decode cX11_way 92 = .ok (.iload_n 1, 1) := by decide +kernel
theorem dX11_way_93 : decode cX11_way 93 = .ok (.iload_n 2, 1) := by decide +kernel
theorem dX11_way_94 : decode cX11_way 94 = .ok (.invokevirtual 304, 3) := by decide +kernel
theorem dX11_way_97 : decode cX11_way 97 = .ok (.ireturn, 1) := by decide +kernel
theorem dX11_diver_0 : decode cX11_diver 0 = .ok (.aload_n 0, 1) := by decide +kernel
theorem dX11_diver_1 : decode cX11_diver 1 = .ok (.iconst 0, 1) := by decide +kernel
theorem dX11_diver_2 : decode cX11_diver 2 = .ok (.putfield 1, 3) := by decide +kernel
theorem dX11_diver_5 : decode cX11_diver 5 = .ok (.aload_n 0, 1) := by decide +kernel
theorem dX11_diver_6 : decode cX11_diver 6 = .ok (.iload_n 1, 1) := by decide +kernel
theorem dX11_diver_7 : decode cX11_diver 7 = .ok (.invokevirtual 352, 3) := by decide +kernel
theorem dX11_diver_10 : decode cX11_diver 10 = .ok (.ifCond .eq 12, 3) := by decide +kernel
theorem dX11_diver_13 : decode cX11_diver 13 = .ok (.iload_n 2, 1) := by decide +kernel
theorem dX11_diver_14 : decode cX11_diver 14 = .ok (.iconst 0, 1) := by decide +kernel
theorem dX11_diver_15 : decode cX11_diver 15 = .ok (.iconst 4, 1) := by decide +kernel
theorem dX11_diver_16 : decode cX11_diver 16 = .ok (.invokestatic 205, 3) := by decide +kernel
theorem dX11_diver_19 : decode cX11_diver 19 = .ok (.ifCond .ne 6, 3) := by decide +kernel
theorem dX11_diver_22 : decode cX11_diver 22 = .ok (.bipush (-2), 2) := by decide +kernel
theorem dX11_diver_24 : decode cX11_diver 24 = .ok (.ireturn, 1) := by decide +kernel
theorem dX11_diver_25 : decode cX11_diver 25 = .ok (.iload_n 2, 1) := by decide +kernel
theorem dX11_diver_26 : decode cX11_diver 26 = .ok (.ifCond .ne 11, 3) := by decide +kernel
theorem dX11_diver_29 : decode cX11_diver 29 = .ok (.aload_n 0, 1) := by decide +kernel
theorem dX11_diver_30 : decode cX11_diver 30 = .ok (.iload_n 1, 1) := by decide +kernel
theorem dX11_diver_31 : decode cX11_diver 31 = .ok (.invokevirtual 298, 3) := by decide +kernel
theorem dX11_diver_34 : decode cX11_diver 34 = .ok (.goto 68, 3) := by decide +kernel
theorem dX11_diver_37 : decode cX11_diver 37 = .ok (.iload_n 2, 1) := by decide +kernel
theorem dX11_diver_38 : decode cX11_diver 38 = .ok (.iconst 1, 1) := by decide +kernel
theorem dX11_diver_39 : decode cX11_diver 39 = .ok (.if_icmp .ne 15, 3) := by decide +kernel
theorem dX11_diver_42 : decode cX11_diver 42 = .ok (.aload_n 0, 1) := by decide +kernel
theorem dX11_diver_43 : decode cX11_diver 43 = .ok (.getfield 123, 3) := by decide +kernel
theorem dX11_diver_46 : decode cX11_diver 46 = .ok (.bipush 19, 2) := by decide +kernel
theorem dX11_diver_48 : decode cX11_diver 48 = .ok (.iload_n 1, 1) := by decide +kernel
theorem dX11_diver_49 : decode cX11_diver 49 = .ok (.iadd, 1) := by decide +kernel
theorem dX11_diver_50 : decode cX11_diver 50 = .ok (.iaload, 1) := by decide +kernel
theorem dX11_diver_51 : decode cX11_diver 51 = .ok (.goto 51, 3) := by decide +kernel
theorem dX11_diver_54 : decode cX11_diver 54 = .ok (.iload_n 2, 1) := by decide +kernel
theorem dX11_diver_55 : decode cX11_diver 55 = .ok (.iconst 2, 1) := by decide +kernel
theorem dX11_diver_56 : decode cX11_diver 56 = .ok (.if_icmp .ne 15, 3) := by decide +kernel
theorem dX11_diver_59 : decode cX11_diver 59 = .ok (.aload_n 0, 1) := by decide +kernel
theorem dX11_diver_60 : decode cX11_diver 60 = .ok (.getfield 123, 3) := by decide +kernel
theorem dX11_diver_63 : decode cX11_diver 63 = .ok (.bipush 23, 2) := by decide +kernel
theorem dX11_diver_65 : decode cX11_diver 65 = .ok (.iload_n 1, 1) := by decide +kernel
theorem dX11_diver_66 : decode cX11_diver 66 = .ok (.iadd, 1) := by decide +kernel
theorem dX11_diver_67 : decode cX11_diver 67 = .ok (.iaload, 1) := by decide +kernel
theorem dX11_diver_68 : decode cX11_diver 68 = .ok (.goto 34, 3) := by decide +kernel
theorem dX11_diver_71 : decode cX11_diver 71 = .ok (.iload_n 2, 1) := by decide +kernel
theorem dX11_diver_72 : decode cX11_diver 72 = .ok (.iconst 3, 1) := by decide +kernel
theorem dX11_diver_73 : decode cX11_diver 73 = .ok (.if_icmp .ne 15, 3) := by decide +kernel
theorem dX11_diver_76 : decode cX11_diver 76 = .ok (.aload_n 0, 1) := by decide +kernel
theorem dX11_diver_77 : decode cX11_diver 77 = .ok (.getfield 123, 3) := by decide +kernel
theorem dX11_diver_80 : decode cX11_diver 80 = .ok (.bipush 27, 2) := by decide +kernel
theorem dX11_diver_82 : decode cX11_diver 82 = .ok (.iload_n 1, 1) := by decide +kernel
theorem dX11_diver_83 : decode cX11_diver 83 = .ok (.iadd, 1) := by decide +kernel
theorem dX11_diver_84 : decode cX11_diver 84 = .ok (.iaload, 1) := by decide +kernel
theorem dX11_diver_85 : decode cX11_diver 85 = .ok (.goto 17, 3) := by decide +kernel
theorem dX11_diver_88 : decode cX11_diver 88 = .ok (.aload_n 0, 1) := by decide +kernel
theorem dX11_diver_89 : decode cX11_diver 89 = .ok (.iconst 0, 1) := by decide +kernel
theorem dX11_diver_90 : decode cX11_diver 90 = .ok (.iload_n 1, 1) := by decide +kernel
theorem dX11_diver_91 : decode cX11_diver 91 = .ok (.invokevirtual 315, 3) := by decide +kernel
theorem dX11_diver_94 : decode cX11_diver 94 = .ok (.ifCond .eq 7, 3) := by decide +kernel
theorem dX11_diver_97 : decode cX11_diver 97 = .ok (.iconst 1, 1) := by decide +kernel
theorem dX11_diver_98 : decode cX11_diver 98 = .ok (.goto 4, 3) := by decide +kernel
theorem dX11_diver_101 : decode cX11_diver 101 = .ok (.iconst 0, 1) := by decide +kernel
theorem dX11_diver_102 : decode cX11_diver 102 = .ok (.ireturn, 1) := by decide +kernel
theorem dX11_cost_0 : decode cX11_cost 0 = .ok (.aload_n 0, 1) := by decide +kernel
theorem dX11_cost_1 : decode cX11_cost 1 = .ok (.iconst 0, 1) := by decide +kernel
theorem dX11_cost_2 : decode cX11_cost 2 = .ok (.putfield 1, 3) := by decide +kernel
theorem dX11_cost_5 : decode cX11_cost 5 = .ok (.aload_n 0, 1) := by decide +kernel
theorem dX11_cost_6 : decode cX11_cost 6 = .ok (.iload_n 1, 1) := by decide +kernel
theorem dX11_cost_7 : decode cX11_cost 7 = .ok (.invokevirtual 352, 3) := by decide +kernel
theorem dX11_cost_10 : decode cX11_cost 10 = .ok (.ifCond .eq 21, 3) := by decide +kernel
theorem dX11_cost_13 : decode cX11_cost 13 = .ok (.aload_n 0, 1) := by decide +kernel
theorem dX11_cost_14 : decode cX11_cost 14 = .ok (.iload_n 2, 1) := by decide +kernel
theorem dX11_cost_15 : decode cX11_cost 15 = .ok (.invokevirtual 349, 3) := by decide +kernel
theorem dX11_cost_18 : decode cX11_cost 18 = .ok (.ifCond .eq 13, 3) := by decide +kernel
theorem dX11_cost_21 : decode cX11_cost 21 = .ok (.aload_n 0, 1) := by decide +kernel
theorem dX11_cost_22 : decode cX11_cost 22 = .ok (.iconst 0, 1) := by decide +kernel
theorem dX11_cost_23 : decode cX11_cost 23 = .ok (.iload_n 1, 1) := by decide +kernel
theorem dX11_cost_24 : decode cX11_cost 24 = .ok (.iload_n 2, 1) := by decide +kernel
theorem dX11_cost_25 : decode cX11_cost 25 = .ok (.invokevirtual 328, 3) := by decide +kernel
theorem dX11_cost_28 : decode cX11_cost 28 = .ok (.goto 4, 3) := by decide +kernel
theorem dX11_cost_31 : decode cX11_cost 31 = .ok (.iconst (-1), 1) := by decide +kernel
theorem dX11_cost_32 : decode cX11_cost 32 = .ok (.ireturn, 1) := by decide +kernel
theorem dX11_swim_0 : decode cX11_swim 0 = .ok (.aload_n 0, 1) := by decide +kernel
theorem dX11_swim_1 : decode cX11_swim 1 = .ok (.iconst 0, 1) := by decide +kernel
theorem dX11_swim_2 : decode cX11_swim 2 = .ok (.putfield 1, 3) := by decide +kernel
theorem dX11_swim_5 : decode cX11_swim 5 = .ok (.aload_n 0, 1) := by decide +kernel
theorem dX11_swim_6 : decode cX11_swim 6 = .ok (.iload_n 1, 1) := by decide +kernel
theorem dX11_swim_7 : decode cX11_swim 7 = .ok (.invokevirtual 352, 3) := by decide +kernel
theorem dX11_swim_10 : decode cX11_swim 10 = .ok (.ifCond .eq 21, 3) := by decide +kernel
theorem dX11_swim_13 : decode cX11_swim 13 = .ok (.aload_n 0, 1) := by decide +kernel
theorem dX11_swim_14 : decode cX11_swim 14 = .ok (.iload_n 2, 1) := by decide +kernel
theorem dX11_swim_15 : decode cX11_swim 15 = .ok (.invokevirtual 349, 3) := by decide +kernel
theorem dX11_swim_18 : decode cX11_swim 18 = .ok (.ifCond .eq 13, 3) := by decide +kernel
theorem dX11_swim_21 : decode cX11_swim 21 = .ok (.aload_n 0, 1) := by decide +kernel
theorem dX11_swim_22 : decode cX11_swim 22 = .ok (.iconst 0, 1) := by decide +kernel
theorem dX11_swim_23 : decode cX11_swim 23 = .ok (.iload_n 1, 1) := by decide +kernel
theorem dX11_swim_24 : decode cX11_swim 24 = .ok (.iload_n 2, 1) := by decide +kernel
theorem dX11_swim_25 : decode cX11_swim 25 = .ok (.invokevirtual 331, 3) := by decide +kernel
theorem dX11_swim_28 : decode cX11_swim 28 = .ok (.ifCond .ne 5, 3) := by decide +kernel
theorem dX11_swim_31 : decode cX11_swim 31 = .ok (.iconst (-1), 1) := by decide +kernel
theorem dX11_swim_32 : decode cX11_swim 32 = .ok (.ireturn, 1) := by decide +kernel
theorem dX11_swim_33 : decode cX11_swim 33 = .ok (.aload_n 0, 1) := by decide +kernel
theorem dX11_swim_34 : decode cX11_swim 34 = .ok (.invokevirtual 355, 3) := by decide +kernel
theorem dX11_swim_37 : decode cX11_swim 37 = .ok (.aload_n 0, 1) := by decide +kernel
theorem dX11_swim_38 : decode cX11_swim 38 = .ok (.iconst 0, 1) := by decide +kernel
theorem dX11_swim_39 : decode cX11_swim 39 = .ok (.iload_n 1, 1) := by decide +kernel
theorem dX11_swim_40 : decode cX11_swim 40 = .ok (.iload_n 2, 1) := by decide +kernel
theorem dX11_swim_41 : decode cX11_swim 41 = .ok (.iconst 0, 1) := by decide +kernel
theorem dX11_swim_42 : decode cX11_swim 42 = .ok (.invokevirtual 358, 3) := by decide +kernel
theorem dX11_swim_45 : decode cX11_swim 45 = .ok (.aload_n 0, 1) := by decide +kernel
theorem dX11_swim_46 : decode cX11_swim 46 = .ok (.getfield 123, 3) := by decide +kernel
theorem dX11_swim_49 : decode cX11_swim 49 = .ok (.bipush 19, 2) := by decide +kernel
theorem dX11_swim_51 : decode cX11_swim 51 = .ok (.iload_n 1, 1) := by decide +kernel
theorem dX11_swim_52 : decode cX11_swim 52 = .ok (.iadd, 1) := by decide +kernel
theorem dX11_swim_53 : decode cX11_swim 53 = .ok (.iaload, 1) := by decide +kernel
theorem dX11_swim_54 : decode cX11_swim 54 = .ok (.ireturn, 1) := by decide +kernel
theorem dX11_lay__0 : decode cX11_lay_ 0 = .ok (.aload_n 0, 1) := by decide +kernel
theorem dX11_lay__1 : decode cX11_lay_ 1 = .ok (.iconst 0, 1) := by decide +kernel
theorem dX11_lay__2 : decode cX11_lay_ 2 = .ok (.putfield 1, 3) := by decide +kernel
theorem dX11_lay__5 : decode cX11_lay_ 5 = .ok (.aload_n 0, 1) := by decide +kernel
theorem dX11_lay__6 : decode cX11_lay_ 6 = .ok (.iload_n 1, 1) := by decide +kernel
theorem dX11_lay__7 : decode cX11_lay_ 7 = .ok (.invokevirtual 352, 3) := by decide +kernel
theorem dX11_lay__10 : decode cX11_lay_ 10 = .ok (.ifCond .eq 21, 3) := by decide +kernel
theorem dX11_lay__13 : decode cX11_lay_ 13 = .ok (.aload_n 0, 1) := by decide +kernel
theorem dX11_lay__14 : decode cX11_lay_ 14 = .ok (.iload_n 2, 1) := by decide +kernel
theorem dX11_lay__15 : decode cX11_lay_ 15 = .ok (.invokevirtual 349, 3) := by decide +kernel
theorem dX11_lay__18 : decode cX11_lay_ 18 = .ok (.ifCond .eq 13, 3) := by decide +kernel
theorem dX11_lay__21 : decode cX11_lay_ 21 = .ok (.aload_n 0, 1) := by decide +kernel
theorem dX11_lay__22 : decode cX11_lay_ 22 = .ok (.iconst 0, 1) := by decide +kernel
theorem dX11_lay__23 : decode cX11_lay_ 23 = .ok (.iload_n 1, 1) := by decide +kernel
theorem dX11_lay__24 : decode cX11_lay_ 24 = .ok (.iload_n 2, 1) := by decide +kernel
theorem dX11_lay__25 : decode cX11_lay_ 25 = .ok (.invokevirtual 362, 3) := by decide +kernel
theorem dX11_lay__28 : decode cX11_lay_ 28 = .ok (.ifCond .ne 5, 3) := by decide +kernel
theorem dX11_lay__31 : decode cX11_lay_ 31 = .ok (.iconst (-1), 1) := by decide +kernel
theorem dX11_lay__32 : decode cX11_lay_ 32 = .ok (.ireturn, 1) := by decide +kernel
theorem dX11_lay__33 : decode cX11_lay_ 33 = .ok (.aload_n 0, 1) := by decide +kernel
theorem dX11_lay__34 : decode cX11_lay_ 34 = .ok (.invokevirtual 355, 3) := by decide +kernel
theorem dX11_lay__37 : decode cX11_lay_ 37 = .ok (.aload_n 0, 1) := by decide +kernel
theorem dX11_lay__38 : decode cX11_lay_ 38 = .ok (.iconst 0, 1) := by decide +kernel
theorem dX11_lay__39 : decode cX11_lay_ 39 = .ok (.iload_n 1, 1) := by decide +kernel
theorem dX11_lay__40 : decode cX11_lay_ 40 = .ok (.iload_n 2, 1) := by decide +kernel
theorem dX11_lay__41 : decode cX11_lay_ 41 = .ok (.iconst 1, 1) := by decide +kernel
theorem dX11_lay__42 : decode cX11_lay_ 42 = .ok (.invokevirtual 358, 3) := by decide +kernel
theorem dX11_lay__45 : decode cX11_lay_ 45 = .ok (.aload_n 0, 1) := by decide +kernel
theorem dX11_lay__46 : decode cX11_lay_ 46 = .ok (.getfield 123, 3) := by decide +kernel
theorem dX11_lay__49 : decode cX11_lay_ 49 = .ok (.bipush 19, 2) := by decide +kernel
theorem dX11_lay__51 : decode cX11_lay_ 51 = .ok (.iload_n 1, 1) := by decide +kernel
theorem dX11_lay__52 : decode cX11_lay_ 52 = .ok (.iadd, 1) := by decide +kernel
theorem dX11_lay__53 : decode cX11_lay_ 53 = .ok (.iaload, 1) := by decide +kernel
theorem dX11_lay__54 : decode cX11_lay_ 54 = .ok (.ireturn, 1) := by decide +kernel
theorem dX11_stage_0 : decode cX11_stage 0 = .ok (.aload_n 0, 1) := by decide +kernel
theorem dX11_stage_1 : decode cX11_stage 1 = .ok (.iconst 0, 1) := by decide +kernel
theorem dX11_stage_2 : decode cX11_stage 2 = .ok (.putfield 1, 3) := by decide +kernel
theorem dX11_stage_5 : decode cX11_stage 5 = .ok (.aload_n 0, 1) := by decide +kernel
theorem dX11_stage_6 : decode cX11_stage 6 = .ok (.iload_n 1, 1) := by decide +kernel
theorem dX11_stage_7 : decode cX11_stage 7 = .ok (.invokevirtual 352, 3) := by decide +kernel
theorem dX11_stage_10 : decode cX11_stage 10 = .ok (.ifCond .eq 23, 3) := by decide +kernel
theorem dX11_stage_13 : decode cX11_stage 13 = .ok (.iload_n 2, 1) := by decide +kernel
theorem dX11_stage_14 : decode cX11_stage 14 = .ok (.iconst 1, 1) := by decide +kernel
theorem dX11_stage_15 : decode cX11_stage 15 = .ok (.bipush 99, 2) := by decide +kernel
theorem dX11_stage_17 : decode cX11_stage 17 = .ok (.invokestatic 205, 3) := by decide +kernel
theorem dX11_stage_20 : decode cX11_stage 20 = .ok (.ifCond .eq 13, 3) := by decide +kernel
theorem dX11_stage_23 : decode cX11_stage 23 = .ok (.aload_n 0, 1) := by decide +kernel
theorem dX11_stage_24 : decode cX11_stage 24 = .ok (.iconst 0, 1) := by decide +kernel
theorem dX11_stage_25 : decode cX11_stage 25 = .ok (.iload_n 1, 1) := by decide +kernel
theorem dX11_stage_26 : decode cX11_stage 26 = .ok (.iload_n 2, 1) := by decide +kernel
theorem dX11_stage_27 : decode cX11_stage 27 = .ok (.invokevirtual 365, 3) := by decide +kernel
theorem dX11_stage_30 : decode cX11_stage 30 = .ok (.ifCond .ne 5, 3) := by decide +kernel
theorem dX11_stage_33 : decode cX11_stage 33 = .ok (.iconst (-1), 1) := by decide +kernel
theorem dX11_stage_34 : decode cX11_stage 34 = .ok (.ireturn, 1) := by decide +kernel
theorem dX11_stage_35 : decode cX11_stage 35 = .ok (.aload_n 0, 1) := by decide +kernel
theorem dX11_stage_36 : decode cX11_stage 36 = .ok (.invokevirtual 355, 3) := by decide +kernel
theorem dX11_stage_39 : decode cX11_stage 39 = .ok (.aload_n 0, 1) := by decide +kernel
theorem dX11_stage_40 : decode cX11_stage 40 = .ok (.iconst 0, 1) := by decide +kernel
theorem dX11_stage_41 : decode cX11_stage 41 = .ok (.iload_n 1, 1) := by decide +kernel
theorem dX11_stage_42 : decode cX11_stage 42 = .ok (.iload_n 2, 1) := by decide +kernel
theorem dX11_stage_43 : decode cX11_stage 43 = .ok (.invokevirtual 368, 3) := by decide +kernel
theorem dX11_stage_46 : decode cX11_stage 46 = .ok (.aload_n 0, 1) := by decide +kernel
theorem dX11_stage_47 : decode cX11_stage 47 = .ok (.getfield 123, 3) := by decide +kernel
theorem dX11_stage_50 : decode cX11_stage 50 = .ok (.bipush 12, 2) := by decide +kernel
theorem dX11_stage_52 : decode cX11_stage 52 = .ok (.aload_n 0, 1) := by decide +kernel
theorem dX11_stage_53 : decode cX11_stage 53 = .ok (.getfield 123, 3) := by decide +kernel
theorem dX11_stage_56 : decode cX11_stage 56 = .ok (.bipush 19, 2) := by decide +kernel
theorem dX11_stage_58 : decode cX11_stage 58 = .ok (.iload_n 1, 1) := by decide +kernel
theorem dX11_stage_59 : decode cX11_stage 59 = .ok (.iadd, 1) := by decide +kernel
theorem dX11_stage_60 : decode cX11_stage 60 = .ok (.iaload, 1) := by decide +kernel
theorem dX11_stage_61 : decode cX11_stage 61 = .ok (.iadd, 1) := by decide +kernel
theorem dX11_stage_62 : decode cX11_stage 62 = .ok (.iaload, 1) := by decide +kernel
theorem dX11_stage_63 : decode cX11_stage 63 = .ok (.ireturn, 1) := by decide +kernel
theorem dX11_take_0 : decode cX11_take 0 = .ok (.aload_n 0, 1) := by decide +kernel
theorem dX11_take_1 : decode cX11_take 1 = .ok (.iconst 0, 1) := by decide +kernel
theorem dX11_take_2 : decode cX11_take 2 = .ok (.putfield 1, 3) := by decide +kernel
theorem dX11_take_5 : decode cX11_take 5 = .ok (.aload_n 0, 1) := by decide +kernel
theorem dX11_take_6 : decode cX11_take 6 = .ok (.iload_n 1, 1) := by decide +kernel
theorem dX11_take_7 : decode cX11_take 7 = .ok (.invokevirtual 352, 3) := by decide +kernel
theorem dX11_take_10 : decode cX11_take 10 = .ok (.ifCond .eq 23, 3) := by decide +kernel
theorem dX11_take_13 : decode cX11_take 13 = .ok (.iload_n 2, 1) := by decide +kernel
theorem dX11_take_14 : decode cX11_take 14 = .ok (.iconst 1, 1) := by decide +kernel
theorem dX11_take_15 : decode cX11_take 15 = .ok (.bipush 99, 2) := by decide +kernel
theorem dX11_take_17 : decode cX11_take 17 = .ok (.invokestatic 205, 3) := by decide +kernel
theorem dX11_take_20 : decode cX11_take 20 = .ok (.ifCond .eq 13, 3) := by decide +kernel
theorem dX11_take_23 : decode cX11_take 23 = .ok (.aload_n 0, 1) := by decide +kernel
theorem dX11_take_24 : decode cX11_take 24 = .ok (.iconst 0, 1) := by decide +kernel
theorem dX11_take_25 : decode cX11_take 25 = .ok (.iload_n 1, 1) := by decide +kernel
theorem dX11_take_26 : decode cX11_take 26 = .ok (.iload_n 2, 1) := by decide +kernel
theorem dX11_take_27 : decode cX11_take 27 = .ok (.invokevirtual 371, 3) := by decide +kernel
theorem dX11_take_30 : decode cX11_take 30 = .ok (.ifCond .ne 5, 3) := by decide +kernel
theorem dX11_take_33 : decode cX11_take 33 = .ok (.iconst (-1), 1) := by decide +kernel
theorem dX11_take_34 : decode cX11_take 34 = .ok (.ireturn, 1) := by decide +kernel
theorem dX11_take_35 : decode cX11_take 35 = .ok (.aload_n 0, 1) := by decide +kernel
theorem dX11_take_36 : decode cX11_take 36 = .ok (.invokevirtual 355, 3) := by decide +kernel
theorem dX11_take_39 : decode cX11_take 39 = .ok (.aload_n 0, 1) := by decide +kernel
theorem dX11_take_40 : decode cX11_take 40 = .ok (.iconst 0, 1) := by decide +kernel
theorem dX11_take_41 : decode cX11_take 41 = .ok (.iload_n 1, 1) := by decide +kernel
theorem dX11_take_42 : decode cX11_take 42 = .ok (.iload_n 2, 1) := by decide +kernel
theorem dX11_take_43 : decode cX11_take 43 = .ok (.ineg, 1) := by decide +kernel
theorem dX11_take_44 : decode cX11_take 44 = .ok (.invokevirtual 368, 3) := by decide +kernel
theorem dX11_take_47 : decode cX11_take 47 = .ok (.aload_n 0, 1) := by decide +kernel
theorem dX11_take_48 : decode cX11_take 48 = .ok (.getfield 123, 3) := by decide +kernel
theorem dX11_take_51 : decode cX11_take 51 = .ok (.bipush 23, 2) := by decide +kernel
theorem dX11_take_53 : decode cX11_take 53 = .ok (.iload_n 1, 1) := by decide +kernel
theorem dX11_take_54 : decode cX11_take 54 = .ok (.iadd, 1) := by decide +kernel
theorem dX11_take_55 : decode cX11_take 55 = .ok (.iaload, 1) := by decide +kernel
theorem dX11_take_56 : decode cX11_take 56 = .ok (.ireturn, 1) := by decide +kernel
theorem dX11_share_0 : decode cX11_share 0 = .ok (.aload_n 0, 1) := by decide +kernel
theorem dX11_share_1 : decode cX11_share 1 = .ok (.iconst 0, 1) := by decide +kernel
theorem dX11_share_2 : decode cX11_share 2 = .ok (.putfield 1, 3) := by decide +kernel
theorem dX11_share_5 : decode cX11_share 5 = .ok (.aload_n 0, 1) := by decide +kernel
theorem dX11_share_6 : decode cX11_share 6 = .ok (.iload_n 1, 1) := by decide +kernel
theorem dX11_share_7 : decode cX11_share 7 = .ok (.invokevirtual 352, 3) := by decide +kernel
theorem dX11_share_10 : decode cX11_share 10 = .ok (.ifCond .eq 32, 3) := by decide +kernel
theorem dX11_share_13 : decode cX11_share 13 = .ok (.aload_n 0, 1) := by decide +kernel
theorem dX11_share_14 : decode cX11_share 14 = .ok (.iload_n 2, 1) := by decide +kernel
theorem dX11_share_15 : decode cX11_share 15 = .ok (.invokevirtual 352, 3) := by decide +kernel
theorem dX11_share_18 : decode cX11_share 18 = .ok (.ifCond .eq 24, 3) := by decide +kernel
theorem dX11_share_21 : decode cX11_share 21 = .ok (.iload_n 3, 1) := by decide +kernel
theorem dX11_share_22 : decode cX11_share 22 = .ok (.iconst 1, 1) := by decide +kernel
theorem dX11_share_23 : decode cX11_share 23 = .ok (.bipush 99, 2) := by decide +kernel
theorem dX11_share_25 : decode cX11_share 25 = .ok (.invokestatic 205, 3) := by decide +kernel
theorem dX11_share_28 : decode cX11_share 28 = .ok (.ifCond .eq 14, 3) := by decide +kernel
theorem dX11_share_31 : decode cX11_share 31 = .ok (.aload_n 0, 1) := by decide +kernel
theorem dX11_share_32 : decode cX11_share 32 = .ok (.iconst 0, 1) := by decide +kernel
theorem dX11_share_33 : decode cX11_share 33 = .ok (.iload_n 1, 1) := by decide +kernel
theorem dX11_share_34 : decode cX11_share 34 = .ok (.iload_n 2, 1) := by decide +kernel
theorem dX11_share_35 : decode cX11_share 35 = .ok (.iload_n 3, 1) := by decide +kernel
theorem dX11_share_36 : decode cX11_share 36 = .ok (.invokevirtual 374, 3) := by decide +kernel
theorem dX11_share_39 : decode cX11_share 39 = .ok (.ifCond .ne 5, 3) := by decide +kernel
theorem dX11_share_42 : decode cX11_share 42 = .ok (.iconst 0, 1) := by decide +kernel
theorem dX11_share_43 : decode cX11_share 43 = .ok (.ireturn, 1) := by decide +kernel
theorem dX11_share_44 : decode cX11_share 44 = .ok (.aload_n 0, 1) := by decide +kernel
theorem dX11_share_45 : decode cX11_share 45 = .ok (.invokevirtual 355, 3) := by decide +kernel
theorem dX11_share_48 : decode cX11_share 48 = .ok (.aload_n 0, 1) := by decide +kernel
theorem dX11_share_49 : decode cX11_share 49 = .ok (.iconst 0, 1) := by decide +kernel
theorem dX11_share_50 : decode cX11_share 50 = .ok (.iload_n 1, 1) := by decide +kernel
theorem dX11_share_51 : decode cX11_share 51 = .ok (.iload_n 3, 1) := by decide +kernel
theorem dX11_share_52 : decode cX11_share 52 = .ok (.invokevirtual 337, 3) := by decide +kernel
theorem dX11_share_55 : decode cX11_share 55 = .ok (.aload_n 0, 1) := by decide +kernel
theorem dX11_share_56 : decode cX11_share 56 = .ok (.iconst 0, 1) := by decide +kernel
theorem dX11_share_57 : decode cX11_share 57 = .ok (.iload_n 2, 1) := by decide +kernel
theorem dX11_share_58 : decode cX11_share 58 = .ok (.iload_n 3, 1) := by decide +kernel
theorem dX11_share_59 : decode cX11_share 59 = .ok (.ineg, 1) := by decide +kernel
theorem dX11_share_60 : decode cX11_share 60 = .ok (.invokevirtual 337, 3) := by decide +kernel
theorem dX11_share_63 : decode cX11_share 63 = .ok (.iconst 1, 1) := by decide +kernel
theorem dX11_share_64 : decode cX11_share 64 = .ok (.ireturn, 1) := by decide +kernel
theorem dX11_stone_0 : decode cX11_stone 0 = .ok (.aload_n 0, 1) := by decide +kernel
theorem dX11_stone_1 : decode cX11_stone 1 = .ok (.iconst 0, 1) := by decide +kernel
theorem dX11_stone_2 : decode cX11_stone 2 = .ok (.putfield 1, 3) := by decide +kernel
theorem dX11_stone_5 : decode cX11_stone 5 = .ok (.aload_n 0, 1) := by decide +kernel
theorem dX11_stone_6 : decode cX11_stone 6 = .ok (.iload_n 1, 1) := by decide +kernel
theorem dX11_stone_7 : decode cX11_stone 7 = .ok (.invokevirtual 349, 3) := by decide +kernel
theorem dX11_stone_10 : decode cX11_stone 10 = .ok (.ifCond .eq 12, 3) := by decide +kernel
theorem dX11_stone_13 : decode cX11_stone 13 = .ok (.aload_n 0, 1) := by decide +kernel
theorem dX11_stone_14 : decode cX11_stone 14 = .ok (.iconst 0, 1) := by decide +kernel
theorem dX11_stone_15 : decode cX11_stone 15 = .ok (.iload_n 1, 1) := by decide +kernel
theorem dX11_stone_16 : decode cX11_stone 16 = .ok (.invokevirtual 325, 3) := by decide +kernel
theorem dX11_stone_19 : decode cX11_stone 19 = .ok (.ifCond .ne 5, 3) := by decide +kernel
theorem dX11_stone_22 : decode cX11_stone 22 = .ok (.iconst 0, 1) := by decide +kernel
theorem dX11_stone_23 : decode cX11_stone 23 = .ok (.ireturn, 1) := by decide +kernel
theorem dX11_stone_24 : decode cX11_stone 24 = .ok (.aload_n 0, 1) := by decide +kernel
theorem dX11_stone_25 : decode cX11_stone 25 = .ok (.invokevirtual 355, 3) := by decide +kernel
theorem dX11_stone_28 : decode cX11_stone 28 = .ok (.aload_n 0, 1) := by decide +kernel
theorem dX11_stone_29 : decode cX11_stone 29 = .ok (.getfield 123, 3) := by decide +kernel
theorem dX11_stone_32 : decode cX11_stone 32 = .ok (.iconst 1, 1) := by decide +kernel
theorem dX11_stone_33 : decode cX11_stone 33 = .ok (.dup2, 1) := by decide +kernel
theorem dX11_stone_34 : decode cX11_stone 34 = .ok (.iaload, 1) := by decide +kernel
theorem dX11_stone_35 : decode cX11_stone 35 = .ok (.iconst 1, 1) := by decide +kernel
theorem dX11_stone_36 : decode cX11_stone 36 = .ok (.iload_n 1, 1) := by decide +kernel
theorem dX11_stone_37 : decode cX11_stone 37 = .ok (.ishl, 1) := by decide +kernel
theorem dX11_stone_38 : decode cX11_stone 38 = .ok (.iconst (-1), 1) := by decide +kernel
theorem dX11_stone_39 : decode cX11_stone 39 = .ok (.ixor, 1) := by decide +kernel
theorem dX11_stone_40 : decode cX11_stone 40 = .ok (.iand, 1) := by decide +kernel
theorem dX11_stone_41 : decode cX11_stone 41 = .ok (.iastore, 1) := by decide +kernel
theorem dX11_stone_42 : decode cX11_stone 42 = .ok (.iconst 1, 1) := by decide +kernel
theorem dX11_stone_43 : decode cX11_stone 43 = .ok (.ireturn, 1) := by decide +kernel
theorem dX11_hour_0 : decode cX11_hour 0 = .ok (.aload_n 0, 1) := by decide +kernel
theorem dX11_hour_1 : decode cX11_hour 1 = .ok (.iconst 0, 1) := by decide +kernel
theorem dX11_hour_2 : decode cX11_hour 2 = .ok (.putfield 1, 3) := by decide +kernel
theorem dX11_hour_5 : decode cX11_hour 5 = .ok (.aload_n 0, 1) := by decide +kernel
theorem dX11_hour_6 : decode cX11_hour 6 = .ok (.invokevirtual 355, 3) := by decide +kernel
theorem dX11_hour_9 : decode cX11_hour 9 = .ok (.aload_n 0, 1) := by decide +kernel
theorem dX11_hour_10 : decode cX11_hour 10 = .ok (.iconst 0, 1) := by decide +kernel
theorem dX11_hour_11 : decode cX11_hour 11 = .ok (.invokevirtual 378, 3) := by decide +kernel
theorem dX11_hour_14 : decode cX11_hour 14 = .ok (.ireturn, 1) := by decide +kernel
theorem dX11_undo_0 : decode cX11_undo 0 = .ok (.aload_n 0, 1) := by decide +kernel
theorem dX11_undo_1 : decode cX11_undo 1 = .ok (.iconst 0, 1) := by decide +kernel
theorem dX11_undo_2 : decode cX11_undo 2 = .ok (.putfield 1, 3) := by decide +kernel
theorem dX11_undo_5 : decode cX11_undo 5 = .ok (.aload_n 0, 1) := by decide +kernel
theorem dX11_undo_6 : decode cX11_undo 6 = .ok (.getfield 286, 3) := by decide +kernel
theorem dX11_undo_9 : decode cX11_undo 9 = .ok (.ifCond .ne 5, 3) := by decide +kernel
theorem dX11_undo_12 : decode cX11_undo 12 = .ok (.iconst 0, 1) := by decide +kernel
theorem dX11_undo_13 : decode cX11_undo 13 = .ok (.ireturn, 1) := by decide +kernel
theorem dX11_undo_14 : decode cX11_undo 14 = .ok (.aload_n 0, 1) := by decide +kernel
theorem dX11_undo_15 : decode cX11_undo 15 = .ok (.dup, 1) := by decide +kernel
theorem dX11_undo_16 : decode cX11_undo 16 = .ok (.getfield 286, 3) := by decide +kernel
theorem dX11_undo_19 : decode cX11_undo 19 = .ok (.iconst 1, 1) := by decide +kernel
theorem dX11_undo_20 : decode cX11_undo 20 = .ok (.isub, 1) := by decide +kernel
theorem dX11_undo_21 : decode cX11_undo 21 = .ok (.putfield 286, 3) := by decide +kernel
theorem dX11_undo_24 : decode cX11_undo 24 = .ok (.aload_n 0, 1) := by decide +kernel
theorem dX11_undo_25 : decode cX11_undo 25 = .ok (.bipush 48, 2) := by decide +kernel
theorem dX11_undo_27 : decode cX11_undo 27 = .ok (.iconst 5, 1) := by decide +kernel
theorem dX11_undo_28 : decode cX11_undo 28 = .ok (.aload_n 0, 1) := by decide +kernel
theorem dX11_undo_29 : decode cX11_undo 29 = .ok (.getfield 286, 3) := by decide +kernel
theorem dX11_undo_32 : decode cX11_undo 32 = .ok (.iadd, 1) := by decide +kernel
theorem dX11_undo_33 : decode cX11_undo 33 = .ok (.imul, 1) := by decide +kernel
theorem dX11_undo_34 : decode cX11_undo 34 = .ok (.iconst 0, 1) := by decide +kernel
theorem dX11_undo_35 : decode cX11_undo 35 = .ok (.bipush 31, 2) := by decide +kernel
theorem dX11_undo_37 : decode cX11_undo 37 = .ok (.invokevirtual 289, 3) := by decide +kernel
theorem dX11_undo_40 : decode cX11_undo 40 = .ok (.iconst 1, 1) := by decide +kernel
theorem dX11_undo_41 : decode cX11_undo 41 = .ok (.ireturn, 1) := by decide +kernel
theorem dX11_mayBe_0 : decode cX11_mayBe 0 = .ok (.iload_n 1, 1) := by decide +kernel
theorem dX11_mayBe_1 : decode cX11_mayBe 1 = .ok (.tableswitch 148 0 5 #[39, 65, 91, 101, 111, 123], 39) := by decide +kernel
theorem dX11_mayBe_40 : decode cX11_mayBe 40 = .ok (.aload_n 0, 1) := by decide +kernel
theorem dX11_mayBe_41 : decode cX11_mayBe 41 = .ok (.iload_n 3, 1) := by decide +kernel
theorem dX11_mayBe_42 : decode cX11_mayBe 42 = .ok (.invokevirtual 349, 3) := by decide +kernel
theorem dX11_mayBe_45 : decode cX11_mayBe 45 = .ok (.ifCond .eq 19, 3) := by decide +kernel
theorem dX11_mayBe_48 : decode cX11_mayBe 48 = .ok (.aload_n 0, 1) := by decide +kernel
theorem dX11_mayBe_49 : decode cX11_mayBe 49 = .ok (.sipush 1008, 3) := by decide +kernel
theorem dX11_mayBe_52 : decode cX11_mayBe 52 = .ok (.iload_n 2, 1) := by decide +kernel
theorem dX11_mayBe_53 : decode cX11_mayBe 53 = .ok (.iload_n 3, 1) := by decide +kernel
theorem dX11_mayBe_54 : decode cX11_mayBe 54 = .ok (.invokevirtual 331, 3) := by decide +kernel
theorem dX11_mayBe_57 : decode cX11_mayBe 57 = .ok (.ifCond .eq 7, 3) := by decide +kernel
theorem dX11_mayBe_60 : decode cX11_mayBe 60 = .ok (.iconst 1, 1) := by decide +kernel
theorem dX11_mayBe_61 : decode cX11_mayBe 61 = .ok (.goto 4, 3) := by decide +kernel
theorem dX11_mayBe_64 : decode cX11_mayBe 64 = .ok (.iconst 0, 1) := by decide +kernel
theorem dX11_mayBe_65 : decode cX11_mayBe 65 = .ok (.ireturn, 1) := by decide +kernel
theorem dX11_mayBe_66 : decode cX11_mayBe 66 = .ok (.aload_n 0, 1) := by decide +kernel
theorem dX11_mayBe_67 : decode cX11_mayBe 67 = .ok (.iload_n 3, 1) := by decide +kernel
theorem dX11_mayBe_68 : decode cX11_mayBe 68 = .ok (.invokevirtual 349, 3) := by decide +kernel
theorem dX11_mayBe_71 : decode cX11_mayBe 71 = .ok (.ifCond .eq 19, 3) := by decide +kernel
theorem dX11_mayBe_74 : decode cX11_mayBe 74 = .ok (.aload_n 0, 1) := by decide +kernel
theorem dX11_mayBe_75 : decode cX11_mayBe 75 = .ok (.sipush 1008, 3) := by decide +kernel
theorem dX11_mayBe_78 : decode cX11_mayBe 78 = .ok (.iload_n 2, 1) := by decide +kernel
theorem dX11_mayBe_79 : decode cX11_mayBe 79 = .ok (.iload_n 3, 1) := by decide +kernel
theorem dX11_mayBe_80 : decode cX11_mayBe 80 = .ok (.invokevirtual 362, 3) := by decide +kernel
theorem dX11_mayBe_83 : decode cX11_mayBe 83 = .ok (.ifCond .eq 7, 3) := by decide +kernel
theorem dX11_mayBe_86 : decode cX11_mayBe 86 = .ok (.iconst 1, 1) := by decide +kernel
theorem dX11_mayBe_87 : decode cX11_mayBe 87 = .ok (.goto 4, 3) := by decide +kernel
theorem dX11_mayBe_90 : decode cX11_mayBe 90 = .ok (.iconst 0, 1) := by decide +kernel
theorem dX11_mayBe_91 : decode cX11_mayBe 91 = .ok (.ireturn, 1) := by decide +kernel
theorem dX11_mayBe_92 : decode cX11_mayBe 92 = .ok (.aload_n 0, 1) := by decide +kernel
theorem dX11_mayBe_93 : decode cX11_mayBe 93 = .ok (.sipush 1008, 3) := by decide +kernel
theorem dX11_mayBe_96 : decode cX11_mayBe 96 = .ok (.iload_n 2, 1) := by decide +kernel
theorem dX11_mayBe_97 : decode cX11_mayBe 97 = .ok (.iload_n 3, 1) := by decide +kernel
theorem dX11_mayBe_98 : decode cX11_mayBe 98 = .ok (.invokevirtual 365, 3) := by decide +kernel
theorem dX11_mayBe_101 : decode cX11_mayBe 101 = .ok (.ireturn, 1) := by decide +kernel
theorem dX11_mayBe_102 : decode cX11_mayBe 102 = .ok (.aload_n 0, 1) := by decide +kernel
theorem dX11_mayBe_103 : decode cX11_mayBe 103 = .ok (.sipush 1008, 3) := by decide +kernel
theorem dX11_mayBe_106 : decode cX11_mayBe 106 = .ok (.iload_n 2, 1) := by decide +kernel
theorem dX11_mayBe_107 : decode cX11_mayBe 107 = .ok (.iload_n 3, 1) := by decide +kernel
theorem dX11_mayBe_108 : decode cX11_mayBe 108 = .ok (.invokevirtual 371, 3) := by decide +kernel
theorem dX11_mayBe_111 : decode cX11_mayBe 111 = .ok (.ireturn, 1) := by decide +kernel
theorem dX11_mayBe_112 : decode cX11_mayBe 112 = .ok (.aload_n 0, 1) := by decide +kernel
theorem dX11_mayBe_113 : decode cX11_mayBe 113 = .ok (.sipush 1008, 3) := by decide +kernel
theorem dX11_mayBe_116 : decode cX11_mayBe 116 = .ok (.iload_n 2, 1) := by decide +kernel
theorem dX11_mayBe_117 : decode cX11_mayBe 117 = .ok (.iload 4, 2) := by decide +kernel
theorem dX11_mayBe_119 : decode cX11_mayBe 119 = .ok (.iload_n 3, 1) := by decide +kernel
theorem dX11_mayBe_120 : decode cX11_mayBe 120 = .ok (.invokevirtual 374, 3) := by decide +kernel
theorem dX11_mayBe_123 : decode cX11_mayBe 123 = .ok (.ireturn, 1) := by decide +kernel
theorem dX11_mayBe_124 : decode cX11_mayBe 124 = .ok (.aload_n 0, 1) := by decide +kernel
theorem dX11_mayBe_125 : decode cX11_mayBe 125 = .ok (.iload_n 3, 1) := by decide +kernel
theorem dX11_mayBe_126 : decode cX11_mayBe 126 = .ok (.invokevirtual 349, 3) := by decide +kernel
theorem dX11_mayBe_129 : decode cX11_mayBe 129 = .ok (.ifCond .eq 18, 3) := by decide +kernel
theorem dX11_mayBe_132 : decode cX11_mayBe 132 = .ok (.aload_n 0, 1) := by decide +kernel
theorem dX11_mayBe_133 : decode cX11_mayBe 133 = .ok (.sipush 1008, 3) := by decide +kernel
theorem dX11_mayBe_136 : decode cX11_mayBe 136 = .ok (.iload_n 3, 1) := by decide +kernel
theorem dX11_mayBe_137 : decode cX11_mayBe 137 = .ok (.invokevirtual 325, 3) := by decide +kernel
theorem dX11_mayBe_140 : decode cX11_mayBe 140 = .ok (.ifCond .eq 7, 3) := by decide +kernel
theorem dX11_mayBe_143 : decode cX11_mayBe 143 = .ok (.iconst 1, 1) := by decide +kernel
theorem dX11_mayBe_144 : decode cX11_mayBe 144 = .ok (.goto 4, 3) := by decide +kernel
theorem dX11_mayBe_147 : decode cX11_mayBe 147 = .ok (.iconst 0, 1) := by decide +kernel
theorem dX11_mayBe_148 : decode cX11_mayBe 148 = .ok (.ireturn, 1) := by decide +kernel
theorem dX11_mayBe_149 : decode cX11_mayBe 149 = .ok (.iconst 1, 1) := by decide +kernel
theorem dX11_mayBe_150 : decode cX11_mayBe 150 = .ok (.ireturn, 1) := by decide +kernel
