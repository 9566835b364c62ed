theorem dX7_price_33 : decode cX7_price 33 = .ok (.ireturn, 1) := by decide +kernel
theorem dX7_breathAhead_0 : decode cX7_breathAhead 0 = .ok (.aload_n 0, 1) := by decide +kernel
theorem dX7_breathAhead_1 : decode cX7_breathAhead 1 = .ok (.aload_n 1, 1) := by decide +kernel
theorem dX7_breathAhead_2 : decode cX7_breathAhead 2 = .ok (.iload_n 2, 1) := by decide +kernel
theorem dX7_breathAhead_3 : decode cX7_breathAhead 3 = .ok (.invokevirtual 92, 3) := by decide +kernel
theorem dX7_breathAhead_6 : decode cX7_breathAhead 6 = .ok (.ifCond .eq 17, 3) := by decide +kernel
theorem dX7_breathAhead_9 : decode cX7_breathAhead 9 = .ok (.aload_n 1, 1) := by decide +kernel
theorem dX7_breathAhead_10 : decode cX7_breathAhead 10 = .ok (.getfield 95, 3) := by decide +kernel
theorem dX7_breathAhead_13 : decode cX7_breathAhead 13 = .ok (.aload_n 0, 1) := by decide +kernel
theorem dX7_breathAhead_14 : decode cX7_breathAhead 14 = .ok (.getfield 9, 3) := by decide +kernel
theorem dX7_breathAhead_17 : decode cX7_breathAhead 17 = .ok (.iload_n 2, 1) := by decide +kernel
theorem dX7_breathAhead_18 : decode cX7_breathAhead 18 = .ok (.iaload, 1) := by decide +kernel
theorem dX7_breathAhead_19 : decode cX7_breathAhead 19 = .ok (.iaload, 1) := by decide +kernel
theorem dX7_breathAhead_20 : decode cX7_breathAhead 20 = .ok (.goto 4, 3) := by decide +kernel
theorem dX7_breathAhead_23 : decode cX7_breathAhead 23 = .ok (.iconst 0, 1) := by decide +kernel
theorem dX7_breathAhead_24 : decode cX7_breathAhead 24 = .ok (.istore 4, 2) := by decide +kernel
theorem dX7_breathAhead_26 : decode cX7_breathAhead 26 = .ok (.aload_n 1, 1) := by decide +kernel
theorem dX7_breathAhead_27 : decode cX7_breathAhead 27 = .ok (.iload_n 2, 1) := by decide +kernel
theorem dX7_breathAhead_28 : decode cX7_breathAhead 28 = .ok (.iload 4, 2) := by decide +kernel
theorem dX7_breathAhead_30 : decode cX7_breathAhead 30 = .ok (.aload_n 1, 1) := by decide +kernel
theorem dX7_breathAhead_31 : decode cX7_breathAhead 31 = .ok (.aload_n 0, 1) := by decide +kernel
theorem dX7_breathAhead_32 : decode cX7_breathAhead 32 = .ok (.getfield 27, 3) := by decide +kernel
theorem dX7_breathAhead_35 : decode cX7_breathAhead 35 = .ok (.iload_n 3, 1) := by decide +kernel
theorem dX7_breathAhead_36 : decode cX7_breathAhead 36 = .ok (.iadd, 1) := by decide +kernel
theorem dX7_breathAhead_37 : decode cX7_breathAhead 37 = .ok (.invokevirtual 61, 3) := by decide +kernel
theorem dX7_breathAhead_40 : decode cX7_breathAhead 40 = .ok (.iconst 0, 1) := by decide +kernel
theorem dX7_breathAhead_41 : decode cX7_breathAhead 41 = .ok (.aload_n 0, 1) := by decide +kernel
theorem dX7_breathAhead_42 : decode cX7_breathAhead 42 = .ok (.getfield 18, 3) := by decide +kernel
theorem dX7_breathAhead_45 : decode cX7_breathAhead 45 = .ok (.iload_n 2, 1) := by decide +kernel
theorem dX7_breathAhead_46 : decode cX7_breathAhead 46 = .ok (.iaload, 1) := by decide +kernel
theorem dX7_breathAhead_47 : decode cX7_breathAhead 47 = .ok (.iload_n 3, 1) := by decide +kernel
theorem dX7_breathAhead_48 : decode cX7_breathAhead 48 = .ok (.iadd, 1) := by decide +kernel
theorem dX7_breathAhead_49 : decode cX7_breathAhead 49 = .ok (.invokevirtual 88, 3) := by decide +kernel
theorem dX7_breathAhead_52 : decode cX7_breathAhead 52 = .ok (.ireturn, 1) := by decide +kernel
theorem dX7_swims_0 : decode cX7_swims 0 = .ok (.aload_n 1, 1) := by decide +kernel
theorem dX7_swims_1 : decode cX7_swims 1 = .ok (.iload_n 3, 1) := by decide +kernel
theorem dX7_swims_2 : decode cX7_swims 2 = .ok (.invokevirtual 98, 3) := by decide +kernel
theorem dX7_swims_5 : decode cX7_swims 5 = .ok (.ifCond .eq 26, 3) := by decide +kernel
theorem dX7_swims_8 : decode cX7_swims 8 = .ok (.aload_n 0, 1) := by decide +kernel
theorem dX7_swims_9 : decode cX7_swims 9 = .ok (.aload_n 1, 1) := by decide +kernel
theorem dX7_swims_10 : decode cX7_swims 10 = .ok (.iload_n 3, 1) := by decide +kernel
theorem dX7_swims_11 : decode cX7_swims 11 = .ok (.invokevirtual 79, 3) := by decide +kernel
theorem dX7_swims_14 : decode cX7_swims 14 = .ok (.ifCond .eq 17, 3) := by decide +kernel
theorem dX7_swims_17 : decode cX7_swims 17 = .ok (.aload_n 0, 1) := by decide +kernel
theorem dX7_swims_18 : decode cX7_swims 18 = .ok (.aload_n 1, 1) := by decide +kernel
theorem dX7_swims_19 : decode cX7_swims 19 = .ok (.iload_n 2, 1) := by decide +kernel
theorem dX7_swims_20 : decode cX7_swims 20 = .ok (.iload_n 3, 1) := by decide +kernel
theorem dX7_swims_21 : decode cX7_swims 21 = .ok (.invokevirtual 101, 3) := by decide +kernel
theorem dX7_swims_24 : decode cX7_swims 24 = .ok (.ifCond .eq 7, 3) := by decide +kernel
theorem dX7_swims_27 : decode cX7_swims 27 = .ok (.iconst 1, 1) := by decide +kernel
theorem dX7_swims_28 : decode cX7_swims 28 = .ok (.goto 4, 3) := by decide +kernel
theorem dX7_swims_31 : decode cX7_swims 31 = .ok (.iconst 0, 1) := by decide +kernel
theorem dX7_swims_32 : decode cX7_swims 32 = .ok (.ireturn, 1) := by decide +kernel
theorem dX7_lays_0 : decode cX7_lays 0 = .ok (.aload_n 1, 1) := by decide +kernel
theorem dX7_lays_1 : decode cX7_lays 1 = .ok (.iload_n 3, 1) := by decide +kernel
theorem dX7_lays_2 : decode cX7_lays 2 = .ok (.invokevirtual 98, 3) := by decide +kernel
theorem dX7_lays_5 : decode cX7_lays 5 = .ok (.ifCond .eq 30, 3) := by decide +kernel
theorem dX7_lays_8 : decode cX7_lays 8 = .ok (.aload_n 0, 1) := by decide +kernel
theorem dX7_lays_9 : decode cX7_lays 9 = .ok (.iload_n 3, 1) := by decide +kernel
theorem dX7_lays_10 : decode cX7_lays 10 = .ok (.invokevirtual 65, 3) := by decide +kernel
theorem dX7_lays_13 : decode cX7_lays 13 = .ok (.ifCond .ne 22, 3) := by decide +kernel
theorem dX7_lays_16 : decode cX7_lays 16 = .ok (.aload_n 0, 1) := by decide +kernel
theorem dX7_lays_17 : decode cX7_lays 17 = .ok (.aload_n 1, 1) := by decide +kernel
theorem dX7_lays_18 : decode cX7_lays 18 = .ok (.iload_n 3, 1) := by decide +kernel
theorem dX7_lays_19 : decode cX7_lays 19 = .ok (.invokevirtual 69, 3) := by decide +kernel
theorem dX7_lays_22 : decode cX7_lays 22 = .ok (.ifCond .ne 13, 3) := by decide +kernel
theorem dX7_lays_25 : decode cX7_lays 25 = .ok (.aload_n 0, 1) := by decide +kernel
theorem dX7_lays_26 : decode cX7_lays 26 = .ok (.aload_n 1, 1) := by decide +kernel
theorem dX7_lays_27 : decode cX7_lays 27 = .ok (.iload_n 2, 1) := by decide +kernel
theorem dX7_lays_28 : decode cX7_lays 28 = .ok (.iload_n 3, 1) := by decide +kernel
theorem dX7_lays_29 : decode cX7_lays 29 = .ok (.invokevirtual 101, 3) := by decide +kernel
theorem dX7_lays_32 : decode cX7_lays 32 = .ok (.ifCond .ne 5, 3) := by decide +kernel
theorem dX7_lays_35 : decode cX7_lays 35 = .ok (.iconst 0, 1) := by decide +kernel
theorem dX7_lays_36 : decode cX7_lays 36 = .ok (.ireturn, 1) := by decide +kernel
theorem dX7_lays_37 : decode cX7_lays 37 = .ok (.aload_n 0, 1) := by decide +kernel
theorem dX7_lays_38 : decode cX7_lays 38 = .ok (.dup, 1) := by decide +kernel
theorem dX7_lays_39 : decode cX7_lays 39 = .ok (.getfield 37, 3) := by decide +kernel
theorem dX7_lays_42 : decode cX7_lays 42 = .ok (.iconst 1, 1) := by decide +kernel
theorem dX7_lays_43 : decode cX7_lays 43 = .ok (.iload_n 3, 1) := by decide +kernel
theorem dX7_lays_44 : decode cX7_lays 44 = .ok (.ishl, 1) := by decide +kernel
theorem dX7_lays_45 : decode cX7_lays 45 = .ok (.ior, 1) := by decide +kernel
theorem dX7_lays_46 : decode cX7_lays 46 = .ok (.putfield 37, 3) := by decide +kernel
theorem dX7_lays_49 : decode cX7_lays 49 = .ok (.iconst 1, 1) := by decide +kernel
theorem dX7_lays_50 : decode cX7_lays 50 = .ok (.ireturn, 1) := by decide +kernel
theorem dX7_goesThrough_0 : decode cX7_goesThrough 0 = .ok (.aload_n 1, 1) := by decide +kernel
theorem dX7_goesThrough_1 : decode cX7_goesThrough 1 = .ok (.iload_n 2, 1) := by decide +kernel
theorem dX7_goesThrough_2 : decode cX7_goesThrough 2 = .ok (.invokevirtual 105, 3) := by decide +kernel
theorem dX7_goesThrough_5 : decode cX7_goesThrough 5 = .ok (.ifCond .eq 11, 3) := by decide +kernel
theorem dX7_goesThrough_8 : decode cX7_goesThrough 8 = .ok (.aload_n 0, 1) := by decide +kernel
theorem dX7_goesThrough_9 : decode cX7_goesThrough 9 = .ok (.iload_n 2, 1) := by decide +kernel
theorem dX7_goesThrough_10 : decode cX7_goesThrough 10 = .ok (.invokevirtual 108, 3) := by decide +kernel
theorem dX7_goesThrough_13 : decode cX7_goesThrough 13 = .ok (.ifCond .eq 5, 3) := by decide +kernel
theorem dX7_goesThrough_16 : decode cX7_goesThrough 16 = .ok (.iconst 0, 1) := by decide +kernel
theorem dX7_goesThrough_17 : decode cX7_goesThrough 17 = .ok (.ireturn, 1) := by decide +kernel
theorem dX7_goesThrough_18 : decode cX7_goesThrough 18 = .ok (.aload_n 1, 1) := by decide +kernel
theorem dX7_goesThrough_19 : decode cX7_goesThrough 19 = .ok (.iload_n 3, 1) := by decide +kernel
theorem dX7_goesThrough_20 : decode cX7_goesThrough 20 = .ok (.aload_n 0, 1) := by decide +kernel
theorem dX7_goesThrough_21 : decode cX7_goesThrough 21 = .ok (.getfield 9, 3) := by decide +kernel
theorem dX7_goesThrough_24 : decode cX7_goesThrough 24 = .ok (.iload_n 2, 1) := by decide +kernel
theorem dX7_goesThrough_25 : decode cX7_goesThrough 25 = .ok (.iaload, 1) := by decide +kernel
theorem dX7_goesThrough_26 : decode cX7_goesThrough 26 = .ok (.invokevirtual 111, 3) := by decide +kernel
theorem dX7_goesThrough_29 : decode cX7_goesThrough 29 = .ok (.istore 4, 2) := by decide +kernel
theorem dX7_goesThrough_31 : decode cX7_goesThrough 31 = .ok (.aload_n 0, 1) := by decide +kernel
theorem dX7_goesThrough_32 : decode cX7_goesThrough 32 = .ok (.aload_n 1, 1) := by decide +kernel
theorem dX7_goesThrough_33 : decode cX7_goesThrough 33 = .ok (.iload_n 2, 1) := by decide +kernel
theorem dX7_goesThrough_34 : decode cX7_goesThrough 34 = .ok (.iload_n 3, 1) := by decide +kernel
theorem dX7_goesThrough_35 : decode cX7_goesThrough 35 = .ok (.aload_n 0, 1) := by decide +kernel
theorem dX7_goesThrough_36 : decode cX7_goesThrough 36 = .ok (.getfield 18, 3) := by decide +kernel
theorem dX7_goesThrough_39 : decode cX7_goesThrough 39 = .ok (.iload_n 2, 1) := by decide +kernel
theorem dX7_goesThrough_40 : decode cX7_goesThrough 40 = .ok (.iaload, 1) := by decide +kernel
theorem dX7_goesThrough_41 : decode cX7_goesThrough 41 = .ok (.invokevirtual 115, 3) := by decide +kernel
theorem dX7_goesThrough_44 : decode cX7_goesThrough 44 = .ok (.istore 5, 2) := by decide +kernel
theorem dX7_goesThrough_46 : decode cX7_goesThrough 46 = .ok (.iload 4, 2) := by decide +kernel
theorem dX7_goesThrough_48 : decode cX7_goesThrough 48 = .ok (.iconst (-1), 1) := by decide +kernel
theorem dX7_goesThrough_49 : decode cX7_goesThrough 49 = .ok (.if_icmp .eq 14, 3) := by decide +kernel
theorem dX7_goesThrough_52 : decode cX7_goesThrough 52 = .ok (.aload_n 0, 1) := by decide +kernel
theorem dX7_goesThrough_53 : decode cX7_goesThrough 53 = .ok (.getfield 15, 3) := by decide +kernel
theorem dX7_goesThrough_56 : decode cX7_goesThrough 56 = .ok (.iload_n 2, 1) := by decide +kernel
theorem dX7_goesThrough_57 : decode cX7_goesThrough 57 = .ok (.iaload, 1) := by decide +kernel
theorem dX7_goesThrough_58 : decode cX7_goesThrough 58 = .ok (.iload 5, 2) := by decide +kernel
theorem dX7_goesThrough_60 : decode cX7_goesThrough 60 = .ok (.if_icmp .ge 5, 3) := by decide +kernel
theorem dX7_goesThrough_63 : decode cX7_goesThrough 63 = .ok (.iconst 0, 1) := by decide +kernel
theorem dX7_goesThrough_64 : decode cX7_goesThrough 64 = .ok (.ireturn, 1) := by decide +kernel
theorem dX7_goesThrough_65 : decode cX7_goesThrough 65 = .ok (.aload_n 0, 1) := by decide +kernel
theorem dX7_goesThrough_66 : decode cX7_goesThrough 66 = .ok (.getfield 9, 3) := by decide +kernel
theorem dX7_goesThrough_69 : decode cX7_goesThrough 69 = .ok (.iload_n 2, 1) := by decide +kernel
theorem dX7_goesThrough_70 : decode cX7_goesThrough 70 = .ok (.iload 4, 2) := by decide +kernel
theorem dX7_goesThrough_72 : decode cX7_goesThrough 72 = .ok (.iastore, 1) := by decide +kernel
theorem dX7_goesThrough_73 : decode cX7_goesThrough 73 = .ok (.aload_n 0, 1) := by decide +kernel
theorem dX7_goesThrough_74 : decode cX7_goesThrough 74 = .ok (.getfield 15, 3) := by decide +kernel
theorem dX7_goesThrough_77 : decode cX7_goesThrough 77 = .ok (.iload_n 2, 1) := by decide +kernel
theorem dX7_goesThrough_78 : decode cX7_goesThrough 78 = .ok (.dup2, 1) := by decide +kernel
theorem dX7_goesThrough_79 : decode cX7_goesThrough 79 = .ok (.iaload, 1) := by decide +kernel
theorem dX7_goesThrough_80 : decode cX7_goesThrough 80 = .ok (.iload 5, 2) := by decide +kernel
theorem dX7_goesThrough_82 : decode cX7_goesThrough 82 = .ok (.isub, 1) := by decide +kernel
theorem dX7_goesThrough_83 : decode cX7_goesThrough 83 = .ok (.iastore, 1) := by decide +kernel
theorem dX7_goesThrough_84 : decode cX7_goesThrough 84 = .ok (.aload_n 0, 1) := by decide +kernel
theorem dX7_goesThrough_85 : decode cX7_goesThrough 85 = .ok (.dup, 1) := by decide +kernel
theorem dX7_goesThrough_86 : decode cX7_goesThrough 86 = .ok (.getfield 31, 3) := by decide +kernel
theorem dX7_goesThrough_89 : decode cX7_goesThrough 89 = .ok (.iload 5, 2) := by decide +kernel
theorem dX7_goesThrough_91 : decode cX7_goesThrough 91 = .ok (.iadd, 1) := by decide +kernel
theorem dX7_goesThrough_92 : decode cX7_goesThrough 92 = .ok (.putfield 31, 3) := by decide +kernel
theorem dX7_goesThrough_95 : decode cX7_goesThrough 95 = .ok (.aload_n 0, 1) := by decide +kernel
theorem dX7_goesThrough_96 : decode cX7_goesThrough 96 = .ok (.getfield 21, 3) := by decide +kernel
theorem dX7_goesThrough_99 : decode cX7_goesThrough 99 = .ok (.iload_n 3, 1) := by decide +kernel
theorem dX7_goesThrough_100 : decode cX7_goesThrough 100 = .ok (.bipush 9, 2) := by decide +kernel
theorem dX7_goesThrough_102 : decode cX7_goesThrough 102 = .ok (.aload_n 0, 1) := by decide +kernel
theorem dX7_goesThrough_103 : decode cX7_goesThrough 103 = .ok (.getfield 21, 3) := by decide +kernel
theorem dX7_goesThrough_106 : decode cX7_goesThrough 106 = .ok (.iload_n 3, 1) := by decide +kernel
theorem dX7_goesThrough_107 : decode cX7_goesThrough 107 = .ok (.iaload, 1) := by decide +kernel
theorem dX7_goesThrough_108 : decode cX7_goesThrough 108 = .ok (.aload_n 1, 1) := by decide +kernel
theorem dX7_goesThrough_109 : decode cX7_goesThrough 109 = .ok (.getfield 119, 3) := by decide +kernel
theorem dX7_goesThrough_112 : decode cX7_goesThrough 112 = .ok (.iload_n 3, 1) := by decide +kernel
theorem dX7_goesThrough_113 : decode cX7_goesThrough 113 = .ok (.baload, 1) := by decide +kernel
theorem dX7_goesThrough_114 : decode cX7_goesThrough 114 = .ok (.ifCond .eq 7, 3) := by decide +kernel
theorem dX7_goesThrough_117 : decode cX7_goesThrough 117 = .ok (.iconst 3, 1) := by decide +kernel
theorem dX7_goesThrough_118 : decode cX7_goesThrough 118 = .ok (.goto 4, 3) := by decide +kernel
theorem dX7_goesThrough_121 : decode cX7_goesThrough 121 = .ok (.iconst 2, 1) := by decide +kernel
theorem dX7_goesThrough_122 : decode cX7_goesThrough 122 = .ok (.iadd, 1) := by decide +kernel
theorem dX7_goesThrough_123 : decode cX7_goesThrough 123 = .ok (.invokestatic 123, 3) := by decide +kernel
theorem dX7_goesThrough_126 : decode cX7_goesThrough 126 = .ok (.iastore, 1) := by decide +kernel
theorem dX7_goesThrough_127 : decode cX7_goesThrough 127 = .ok (.iconst 1, 1) := by decide +kernel
theorem dX7_goesThrough_128 : decode cX7_goesThrough 128 = .ok (.ireturn, 1) := by decide +kernel
theorem dX7_leaves_0 : decode cX7_leaves 0 = .ok (.aload_n 0, 1) := by decide +kernel
theorem dX7_leaves_1 : decode cX7_leaves 1 = .ok (.aload_n 1, 1) := by decide +kernel
theorem dX7_leaves_2 : decode cX7_leaves 2 = .ok (.iload_n 2, 1) := by decide +kernel
theorem dX7_leaves_3 : decode cX7_leaves 3 = .ok (.iload_n 3, 1) := by decide +kernel
theorem dX7_leaves_4 : decode cX7_leaves 4 = .ok (.invokevirtual 128, 3) := by decide +kernel
theorem dX7_leaves_7 : decode cX7_leaves 7 = .ok (.ifCond .eq 32, 3) := by decide +kernel
theorem dX7_leaves_10 : decode cX7_leaves 10 = .ok (.aload_n 0, 1) := by decide +kernel
theorem dX7_leaves_11 : decode cX7_leaves 11 = .ok (.getfield 15, 3) := by decide +kernel
theorem dX7_leaves_14 : decode cX7_leaves 14 = .ok (.iload_n 2, 1) := by decide +kernel
theorem dX7_leaves_15 : decode cX7_leaves 15 = .ok (.iaload, 1) := by decide +kernel
theorem dX7_leaves_16 : decode cX7_leaves 16 = .ok (.iload_n 3, 1) := by decide +kernel
theorem dX7_leaves_17 : decode cX7_leaves 17 = .ok (.if_icmp .lt 22, 3) := by decide +kernel
theorem dX7_leaves_20 : decode cX7_leaves 20 = .ok (.aload_n 0, 1) := by decide +kernel
theorem dX7_leaves_21 : decode cX7_leaves 21 = .ok (.getfield 24, 3) := by decide +kernel
theorem dX7_leaves_24 : decode cX7_leaves 24 = .ok (.aload_n 0, 1) := by decide +kernel
theorem dX7_leaves_25 : decode cX7_leaves 25 = .ok (.getfield 9, 3) := by decide +kernel
theorem dX7_leaves_28 : decode cX7_leaves 28 = .ok (.iload_n 2, 1) := by decide +kernel
theorem dX7_leaves_29 : decode cX7_leaves 29 = .ok (.iaload, 1) := by decide +kernel
theorem dX7_leaves_30 : decode cX7_leaves 30 = .ok (.iaload, 1) := by decide +kernel
theorem dX7_leaves_31 : decode cX7_leaves 31 = .ok (.iload_n 3, 1) := by decide +kernel
theorem dX7_leaves_32 : decode cX7_leaves 32 = .ok (.iadd, 1) := by decide +kernel
theorem dX7_leaves_33 : decode cX7_leaves 33 = .ok (.sipush 999, 3) := by decide +kernel
theorem dX7_leaves_36 : decode cX7_leaves 36 = .ok (.if_icmp .le 5, 3) := by decide +kernel
theorem dX7_leaves_39 : decode cX7_leaves 39 = .ok (.iconst 0, 1) := by decide +kernel
theorem dX7_leaves_40 : decode cX7_leaves 40 = .ok (.ireturn, 1) := by decide +kernel
theorem dX7_leaves_41 : decode cX7_leaves 41 = .ok (.aload_n 0, 1) := by decide +kernel
theorem dX7_leaves_42 : decode cX7_leaves 42 = .ok (.getfield 15, 3) := by decide +kernel
theorem dX7_leaves_45 : decode cX7_leaves 45 = .ok (.iload_n 2, 1) := by decide +kernel
theorem dX7_leaves_46 : decode cX7_leaves 46 = .ok (.dup2, 1) := by decide +kernel
theorem dX7_leaves_47 : decode cX7_leaves 47 = .ok (.iaload, 1) := by decide +kernel
theorem dX7_leaves_48 : decode cX7_leaves 48 = .ok (.iload_n 3, 1) := by decide +kernel
theorem dX7_leaves_49 : decode cX7_leaves 49 = .ok (.isub, 1) := by decide +kernel
theorem dX7_leaves_50 : decode cX7_leaves 50 = .ok (.iastore, 1) := by decide +kernel
theorem dX7_leaves_51 : decode cX7_leaves 51 = .ok (.aload_n 0, 1) := by decide +kernel
theorem dX7_leaves_52 : decode cX7_leaves 52 = .ok (.getfield 24, 3) := by decide +kernel
theorem dX7_leaves_55 : decode cX7_leaves 55 = .ok (.aload_n 0, 1) := by decide +kernel
theorem dX7_leaves_56 : decode cX7_leaves 56 = .ok (.getfield 9, 3) := by decide +kernel
theorem dX7_leaves_59 : decode cX7_leaves 59 = .ok (.iload_n 2, 1) := by decide +kernel
theorem dX7_leaves_60 : decode cX7_leaves 60 = .ok (.iaload, 1) := by decide +kernel
theorem dX7_leaves_61 : decode cX7_leaves 61 = .ok (.dup2, 1) := by decide +kernel
theorem dX7_leaves_62 : decode cX7_leaves 62 = .ok (.iaload, 1) := by decide +kernel
theorem dX7_leaves_63 : decode cX7_leaves 63 = .ok (.iload_n 3, 1) := by decide +kernel
theorem dX7_leaves_64 : decode cX7_leaves 64 = .ok (.iadd, 1) := by decide +kernel
theorem dX7_leaves_65 : decode cX7_leaves 65 = .ok (.iastore, 1) := by decide +kernel
theorem dX7_leaves_66 : decode cX7_leaves 66 = .ok (.iconst 1, 1) := by decide +kernel
theorem dX7_leaves_67 : decode cX7_leaves 67 = .ok (.ireturn, 1) := by decide +kernel
theorem dX7_picks_0 : decode cX7_picks 0 = .ok (.aload_n 0, 1) := by decide +kernel
theorem dX7_picks_1 : decode cX7_picks 1 = .ok (.aload_n 1, 1) := by decide +kernel
theorem dX7_picks_2 : decode cX7_picks 2 = .ok (.iload_n 2, 1) := by decide +kernel
theorem dX7_picks_3 : decode cX7_picks 3 = .ok (.iload_n 3, 1) := by decide +kernel
theorem dX7_picks_4 : decode cX7_picks 4 = .ok (.invokevirtual 128, 3) := by decide +kernel
theorem dX7_picks_7 : decode cX7_picks 7 = .ok (.ifCond .eq 32, 3) := by decide +kernel
theorem dX7_picks_10 : decode cX7_picks 10 = .ok (.aload_n 0, 1) := by decide +kernel
theorem dX7_picks_11 : decode cX7_picks 11 = .ok (.getfield 24, 3) := by decide +kernel
theorem dX7_picks_14 : decode cX7_picks 14 = .ok (.aload_n 0, 1) := by decide +kernel
theorem dX7_picks_15 : decode cX7_picks 15 = .ok (.getfield 9, 3) := by decide +kernel
theorem dX7_picks_18 : decode cX7_picks 18 = .ok (.iload_n 2, 1) := by decide +kernel
theorem dX7_picks_19 : decode cX7_picks 19 = .ok (.iaload, 1) := by decide +kernel
theorem dX7_picks_20 : decode cX7_picks 20 = .ok (.iaload, 1) := by decide +kernel
theorem dX7_picks_21 : decode cX7_picks 21 = .ok (.iload_n 3, 1) := by decide +kernel
theorem dX7_picks_22 : decode cX7_picks 22 = .ok (.if_icmp .lt 17, 3) := by decide +kernel
theorem dX7_picks_25 : decode cX7_picks 25 = .ok (.aload_n 0, 1) := by decide +kernel
theorem dX7_picks_26 : decode cX7_picks 26 = .ok (.getfield 15, 3) := by decide +kernel
theorem dX7_picks_29 : decode cX7_picks 29 = .ok (.iload_n 2, 1) := by decide +kernel
theorem dX7_picks_30 : decode cX7_picks 30 = .ok (.iaload, 1) := by decide +kernel
theorem dX7_picks_31 : decode cX7_picks 31 = .ok (.iload_n 3, 1) := by decide +kernel
theorem dX7_picks_32 : decode cX7_picks 32 = .ok (.iadd, 1) := by decide +kernel
theorem dX7_picks_33 : decode cX7_picks 33 = .ok (.sipush 999, 3) := by decide +kernel
theorem dX7_picks_36 : decode cX7_picks 36 = .ok (.if_icmp .le 5, 3) := by decide +kernel
theorem dX7_picks_39 : decode cX7_picks 39 = .ok (.iconst 0, 1) := by decide +kernel
theorem dX7_picks_40 : decode cX7_picks 40 = .ok (.ireturn, 1) := by decide +kernel
theorem dX7_picks_41 : decode cX7_picks 41 = .ok (.aload_n 0, 1) := by decide +kernel
theorem dX7_picks_42 : decode cX7_picks 42 = .ok (.getfield 24, 3) := by decide +kernel
theorem dX7_picks_45 : decode cX7_picks 45 = .ok (.aload_n 0, 1) := by decide +kernel
theorem dX7_picks_46 : decode cX7_picks 46 = .ok (.getfield 9, 3) := by decide +kernel
theorem dX7_picks_49 : decode cX7_picks 49 = .ok (.iload_n 2, 1) := by decide +kernel
theorem dX7_picks_50 : decode cX7_picks 50 = .ok (.iaload, 1) := by decide +kernel
theorem dX7_picks_51 : decode cX7_picks 51 = .ok (.dup2, 1) := by decide +kernel
theorem dX7_picks_52 : decode cX7_picks 52 = .ok (.iaload, 1) := by decide +kernel
theorem dX7_picks_53 : decode cX7_picks 53 = .ok (.iload_n 3, 1) := by decide +kernel
theorem dX7_picks_54 : decode cX7_picks 54 = .ok (.isub, 1) := by decide +kernel
theorem dX7_picks_55 : decode cX7_picks 55 = .ok (.iastore, 1) := by decide +kernel
theorem dX7_picks_56 : decode cX7_picks 56 = .ok (.aload_n 0, 1) := by decide +kernel
theorem dX7_picks_57 : decode cX7_picks 57 = .ok (.getfield 15, 3) := by decide +kernel
theorem dX7_picks_60 : decode cX7_picks 60 = .ok (.iload_n 2, 1) := by decide +kernel
theorem dX7_picks_61 : decode cX7_picks 61 = .ok (.dup2, 1) := by decide +kernel
theorem dX7_picks_62 : decode cX7_picks 62 = .ok (.iaload, 1) := by decide +kernel
theorem dX7_picks_63 : decode cX7_picks 63 = .ok (.iload_n 3, 1) := by decide +kernel
theorem dX7_picks_64 : decode cX7_picks 64 = .ok (.iadd, 1) := by decide +kernel
theorem dX7_picks_65 : decode cX7_picks 65 = .ok (.iastore, 1) := by decide +kernel
theorem dX7_picks_66 : decode cX7_picks 66 = .ok (.iconst 1, 1) := by decide +kernel
theorem dX7_picks_67 : decode cX7_picks 67 = .ok (.ireturn, 1) := by decide +kernel
theorem dX7_gives_0 : decode cX7_gives 0 = .ok (.aload_n 0, 1) := by decide +kernel
theorem dX7_gives_1 : decode cX7_gives 1 = .ok (.aload_n 1, 1) := by decide +kernel
theorem dX7_gives_2 : decode cX7_gives 2 = .ok (.iload_n 2, 1) := by decide +kernel
theorem dX7_gives_3 : decode cX7_gives 3 = .ok (.iload 4, 2) := by decide +kernel
theorem dX7_gives_5 : decode cX7_gives 5 = .ok (.invokevirtual 128, 3) := by decide +kernel
theorem dX7_gives_8 : decode cX7_gives 8 = .ok (.ifCond .eq 19, 3) := by decide +kernel
theorem dX7_gives_11 : decode cX7_gives 11 = .ok (.aload_n 0, 1) := by decide +kernel
theorem dX7_gives_12 : decode cX7_gives 12 = .ok (.aload_n 1, 1) := by decide +kernel
theorem dX7_gives_13 : decode cX7_gives 13 = .ok (.iload_n 3, 1) := by decide +kernel
theorem dX7_gives_14 : decode cX7_gives 14 = .ok (.iload 4, 2) := by decide +kernel
theorem dX7_gives_16 : decode cX7_gives 16 = .ok (.invokevirtual 128, 3) := by decide +kernel
theorem dX7_gives_19 : decode cX7_gives 19 = .ok (.ifCond .eq 8, 3) := by decide +kernel
theorem dX7_gives_22 : decode cX7_gives 22 = .ok (.iload_n 2, 1) := by decide +kernel
theorem dX7_gives_23 : decode cX7_gives 23 = .ok (.iload_n 3, 1) := by decide +kernel
theorem dX7_gives_24 : decode cX7_gives 24 = .ok (.if_icmp .ne 5, 3) := by decide +kernel
theorem dX7_gives_27 : decode cX7_gives 27 = .ok (.iconst 0, 1) := by decide +kernel
theorem dX7_gives_28 : decode cX7_gives 28 = .ok (.ireturn, 1) := by decide +kernel
theorem dX7_gives_29 : decode cX7_gives 29 = .ok (.aload_n 0, 1) := by decide +kernel
theorem dX7_gives_30 : decode cX7_gives 30 = .ok (.getfield 9, 3) := by decide +kernel
theorem dX7_gives_33 : decode cX7_gives 33 = .ok (.iload_n 2, 1) := by decide +kernel
theorem dX7_gives_34 : decode cX7_gives 34 = .ok (.iaload, 1) := by decide +kernel
theorem dX7_gives_35 : decode cX7_gives 35 = .ok (.aload_n 0, 1) := by decide +kernel
theorem dX7_gives_36 : decode cX7_gives 36 = .ok (.getfield 9, 3) := by decide +kernel
theorem dX7_gives_39 : decode cX7_gives 39 = .ok (.iload_n 3, 1) := by decide +kernel
theorem dX7_gives_40 : decode cX7_gives 40 = .ok (.iaload, 1) := by decide +kernel
theorem dX7_gives_41 : decode cX7_gives 41 = .ok (.if_icmp .ne 29, 3) := by decide +kernel
theorem dX7_gives_44 : decode cX7_gives 44 = .ok (.aload_n 0, 1) := by decide +kernel
theorem dX7_gives_45 : decode cX7_gives 45 = .ok (.getfield 15, 3) := by decide +kernel
theorem dX7_gives_48 : decode cX7_gives 48 = .ok (.iload_n 2, 1) := by decide +kernel
theorem dX7_gives_49 : decode cX7_gives 49 = .ok (.iaload, 1) := by decide +kernel
theorem dX7_gives_50 : decode cX7_gives 50 = .ok (.iload 4, 2) := by decide +kernel
theorem dX7_gives_52 : decode cX7_gives 52 = .ok (.if_icmp .lt 18, 3) := by decide +kernel
theorem dX7_gives_55 : decode cX7_gives 55 = .ok (.aload_n 0, 1) := by decide +kernel
theorem dX7_gives_56 : decode cX7_gives 56 = .ok (.getfield 15, 3) := by decide +kernel
theorem dX7_gives_59 : decode cX7_gives 59 = .ok (.iload_n 3, 1) := by decide +kernel
theorem dX7_gives_60 : decode cX7_gives 60 = .ok (.iaload, 1) := by decide +kernel
theorem dX7_gives_61 : decode cX7_gives 61 = .ok (.iload 4, 2) := by decide +kernel
theorem dX7_gives_63 : decode cX7_gives 63 = .ok (.iadd, 1) := by decide +kernel
theorem dX7_gives_64 : decode cX7_gives 64 = .ok (.sipush 999, 3) := by decide +kernel
theorem dX7_gives_67 : decode cX7_gives 67 = .ok (.if_icmp .le 5, 3) := by decide +kernel
theorem dX7_gives_70 : decode cX7_gives 70 = .ok (.iconst 0, 1) := by decide +kernel
theorem dX7_gives_71 : decode cX7_gives 71 = .ok (.ireturn, 1) := by decide +kernel
theorem dX7_gives_72 : decode cX7_gives 72 = .ok (.aload_n 0, 1) := by decide +kernel
theorem dX7_gives_73 : decode cX7_gives 73 = .ok (.getfield 15, 3) := by decide +kernel
theorem dX7_gives_76 : decode cX7_gives 76 = .ok (.iload_n 2, 1) := by decide +kernel
theorem dX7_gives_77 : decode cX7_gives 77 = .ok (.dup2, 1) := by decide +kernel
theorem dX7_gives_78 : decode cX7_gives 78 = .ok (.iaload, 1) := by decide +kernel
theorem dX7_gives_79 : decode cX7_gives 79 = .ok (.iload 4, 2) := by decide +kernel
theorem dX7_gives_81 : decode cX7_gives 81 = .ok (.isub, 1) := by decide +kernel
theorem dX7_gives_82 : decode cX7_gives 82 = .ok (.iastore, 1) := by decide +kernel
theorem dX7_gives_83 : decode cX7_gives 83 = .ok (.aload_n 0, 1) := by decide +kernel
theorem dX7_gives_84 : decode cX7_gives 84 = .ok (.getfield 15, 3) := by decide +kernel
theorem dX7_gives_87 : decode cX7_gives 87 = .ok (.iload_n 3, 1) := by decide +kernel
theorem dX7_gives_88 : decode cX7_gives 88 = .ok (.dup2, 1) := by decide +kernel
theorem dX7_gives_89 : decode cX7_gives 89 = .ok (.iaload, 1) := by decide +kernel
theorem dX7_gives_90 : decode cX7_gives 90 = .ok (.iload 4, 2) := by decide +kernel
theorem dX7_gives_92 : decode cX7_gives 92 = .ok (.iadd, 1) := by decide +kernel
theorem dX7_gives_93 : decode cX7_gives 93 = .ok (.iastore, 1) := by decide +kernel
theorem dX7_gives_94 : decode cX7_gives 94 = .ok (.iconst 1, 1) := by decide +kernel
theorem dX7_gives_95 : decode cX7_gives 95 = .ok (.ireturn, 1) := by decide +kernel
theorem dX7_handles_0 : decode cX7_handles 0 = .ok (.aload_n 1, 1) := by decide +kernel
theorem dX7_handles_1 : decode cX7_handles 1 = .ok (.iload_n 2, 1) := by decide +kernel
theorem dX7_handles_2 : decode cX7_handles 2 = .ok (.invokevirtual 105, 3) := by decide +kernel
theorem dX7_handles_5 : decode cX7_handles 5 = .ok (.ifCond .eq 39, 3) := by decide +kernel
theorem dX7_handles_8 : decode cX7_handles 8 = .ok (.aload_n 0, 1) := by decide +kernel
theorem dX7_handles_9 : decode cX7_handles 9 = .ok (.iload_n 2, 1) := by decide +kernel
theorem dX7_handles_10 : decode cX7_handles 10 = .ok (.invokevirtual 108, 3) := by decide +kernel
theorem dX7_handles_13 : decode cX7_handles 13 = .ok (.ifCond .ne 31, 3) := by decide +kernel
theorem dX7_handles_16 : decode cX7_handles 16 = .ok (.aload_n 1, 1) := by decide +kernel
theorem dX7_handles_17 : decode cX7_handles 17 = .ok (.aload_n 0, 1) := by decide +kernel
theorem dX7_handles_18 : decode cX7_handles 18 = .ok (.getfield 9, 3) := by decide +kernel
theorem dX7_handles_21 : decode cX7_handles 21 = .ok (.iload_n 2, 1) := by decide +kernel
theorem dX7_handles_22 : decode cX7_handles 22 = .ok (.iaload, 1) := by decide +kernel
theorem dX7_handles_23 : decode cX7_handles 23 = .ok (.invokevirtual 73, 3) := by decide +kernel
theorem dX7_handles_26 : decode cX7_handles 26 = .ok (.ifCond .eq 18, 3) := by decide +kernel
theorem dX7_handles_29 : decode cX7_handles 29 = .ok (.iload_n 3, 1) := by decide +kernel
theorem dX7_handles_30 : decode cX7_handles 30 = .ok (.iconst 1, 1) := by decide +kernel
theorem dX7_handles_31 : decode cX7_handles 31 = .ok (.if_icmp .lt 13, 3) := by decide +kernel
theorem dX7_handles_34 : decode cX7_handles 34 = .ok (.iload_n 3, 1) := by decide +kernel
theorem dX7_handles_35 : decode cX7_handles 35 = .ok (.bipush 99, 2) := by decide +kernel
theorem dX7_handles_37 : decode cX7_handles 37 = .ok (.if_icmp .gt 7, 3) := by decide +kernel
theorem dX7_handles_40 : decode cX7_handles 40 = .ok (.iconst 1, 1) := by decide +kernel
theorem dX7_handles_41 : decode cX7_handles 41 = .ok (.goto 4, 3) := by decide +kernel
theorem dX7_handles_44 : decode cX7_handles 44 = .ok (.iconst 0, 1) := by decide +kernel
theorem dX7_handles_45 : decode cX7_handles 45 = .ok (.ireturn, 1) := by decide +kernel
theorem dX7_cuts_0 : decode cX7_cuts 0 = .ok (.aload_n 1, 1) := by decide +kernel
theorem dX7_cuts_1 : decode cX7_cuts 1 = .ok (.iload_n 2, 1) := by decide +kernel
theorem dX7_cuts_2 : decode cX7_cuts 2 = .ok (.invokevirtual 98, 3) := by decide +kernel
theorem dX7_cuts_5 : decode cX7_cuts 5 = .ok (.ifCond .eq 11, 3) := by decide +kernel
theorem dX7_cuts_8 : decode cX7_cuts 8 = .ok (.aload_n 0, 1) := by decide +kernel
theorem dX7_cuts_9 : decode cX7_cuts 9 = .ok (.iload_n 2, 1) := by decide +kernel
theorem dX7_cuts_10 : decode cX7_cuts 10 = .ok (.invokevirtual 65, 3) := by decide +kernel
theorem dX7_cuts_13 : decode cX7_cuts 13 = .ok (.ifCond .ne 5, 3) := by decide +kernel
theorem dX7_cuts_16 : decode cX7_cuts 16 = .ok (.iconst 0, 1) := by decide +kernel
theorem dX7_cuts_17 : decode cX7_cuts 17 = .ok (.ireturn, 1) := by decide +kernel
theorem dX7_cuts_18 : decode cX7_cuts 18 = .ok (.aload_n 0, 1) := by decide +kernel
theorem dX7_cuts_19 : decode cX7_cuts 19 = .ok (.dup, 1) := by decide +kernel
theorem dX7_cuts_20 : decode cX7_cuts 20 = .ok (.getfield 37, 3) := by decide +kernel
theorem dX7_cuts_23 : decode cX7_cuts 23 = .ok (.iconst 1, 1) := by decide +kernel
theorem dX7_cuts_24 : decode cX7_cuts 24 = .ok (.iload_n 2, 1) := by decide +kernel
theorem dX7_cuts_25 : decode cX7_cuts 25 = .ok (.ishl, 1) := by decide +kernel
theorem dX7_cuts_26 : decode cX7_cuts 26 = .ok (.iconst (-1), 1) := by decide +kernel
theorem dX7_cuts_27 : decode cX7_cuts 27 = .ok (.ixor, 1) := by decide +kernel
theorem dX7_cuts_28 : decode cX7_cuts 28 = .ok (.iand, 1) := by decide +kernel
theorem dX7_cuts_29 : decode cX7_cuts 29 = .ok (.putfield 37, 3) := by decide +kernel
theorem dX7_cuts_32 : decode cX7_cuts 32 = .ok (.iconst 1, 1) := by decide +kernel
theorem dX7_cuts_33 : decode cX7_cuts 33 = .ok (.ireturn, 1) := by decide +kernel
theorem dX7_passesHour_0 : decode cX7_passesHour 0 = .ok (.aload_n 0, 1) := by decide +kernel
theorem dX7_passesHour_1 : decode cX7_passesHour 1 = .ok (.getfield 34, 3) := by decide +kernel
theorem dX7_passesHour_4 : decode cX7_passesHour 4 = .ok (.istore_n 2, 1) := by decide +kernel
theorem dX7_passesHour_5 : decode cX7_passesHour 5 = .ok (.iconst 0, 1) := by decide +kernel
theorem dX7_passesHour_6 : decode cX7_passesHour 6 = .ok (.istore_n 3, 1) := by decide +kernel
theorem dX7_passesHour_7 : decode cX7_passesHour 7 = .ok (.iload_n 3, 1) := by decide +kernel
theorem dX7_passesHour_8 : decode cX7_passesHour 8 = .ok (.aload_n 1, 1) := by decide +kernel
theorem dX7_passesHour_9 : decode cX7_passesHour 9 = .ok (.getfield 45, 3) := by decide +kernel
theorem dX7_passesHour_12 : decode cX7_passesHour 12 = .ok (.if_icmp .ge 42, 3) := by decide +kernel
theorem dX7_passesHour_15 : decode cX7_passesHour 15 = .ok (.aload_n 0, 1) := by decide +kernel
theorem dX7_passesHour_16 : decode cX7_passesHour 16 = .ok (.aload_n 1, 1) := by decide +kernel
theorem dX7_passesHour_17 : decode cX7_passesHour 17 = .ok (.iload_n 3, 1) := by decide +kernel
theorem dX7_passesHour_18 : decode cX7_passesHour 18 = .ok (.invokevirtual 92, 3) := by decide +kernel
theorem dX7_passesHour_21 : decode cX7_passesHour 21 = .ok (.ifCond .ne 13, 3) := by decide +kernel
theorem dX7_passesHour_24 : decode cX7_passesHour 24 = .ok (.aload_n 0, 1) := by decide +kernel
theorem dX7_passesHour_25 : decode cX7_passesHour 25 = .ok (.getfield 18, 3) := by decide +kernel
theorem dX7_passesHour_28 : decode cX7_passesHour 28 = .ok (.iload_n 3, 1) := by decide +kernel
theorem dX7_passesHour_29 : decode cX7_passesHour 29 = .ok (.iconst 0, 1) := by decide +kernel
theorem dX7_passesHour_30 : decode cX7_passesHour 30 = .ok (.iastore, 1) := by decide +kernel
theorem dX7_passesHour_31 : decode cX7_passesHour 31 = .ok (.goto 17, 3) := by decide +kernel
theorem dX7_passesHour_34 : decode cX7_passesHour 34 = .ok (.aload_n 0, 1) := by decide +kernel
theorem dX7_passesHour_35 : decode cX7_passesHour 35 = .ok (.iload_n 3, 1) := by decide +kernel
theorem dX7_passesHour_36 : decode cX7_passesHour 36 = .ok (.invokevirtual 108, 3) := by decide +kernel
theorem dX7_passesHour_39 : decode cX7_passesHour 39 = .ok (.ifCond .ne 9, 3) := by decide +kernel
theorem dX7_passesHour_42 : decode cX7_passesHour 42 = .ok (.aload_n 0, 1) := by decide +kernel
theorem dX7_passesHour_43 : decode cX7_passesHour 43 = .ok (.aload_n 1, 1) := by decide +kernel
theorem dX7_passesHour_44 : decode cX7_passesHour 44 = .ok (.iload_n 3, 1) := by decide +kernel
theorem dX7_passesHour_45 : decode cX7_passesHour 45 = .ok (.invokevirtual 131, 3) := by decide +kernel
theorem dX7_passesHour_48 : decode cX7_passesHour 48 = .ok (.iinc 3 1, 3) := by decide +kernel
theorem dX7_passesHour_51 : decode cX7_passesHour 51 = .ok (.goto (-44), 3) := by decide +kernel
theorem dX7_passesHour_54 : decode cX7_passesHour 54 = .ok (.aload_n 1, 1) := by decide +kernel
theorem dX7_passesHour_55 : decode cX7_passesHour 55 = .ok (.aload_n 0, 1) := by decide +kernel
theorem dX7_passesHour_56 : decode cX7_passesHour 56 = .ok (.getfield 27, 3) := by decide +kernel
theorem dX7_passesHour_59 : decode cX7_passesHour 59 = .ok (.invokevirtual 61, 3) := by decide +kernel
theorem dX7_passesHour_62 : decode cX7_passesHour 62 = .ok (.istore_n 3, 1) := by decide +kernel
theorem dX7_passesHour_63 : decode cX7_passesHour 63 = .ok (.iconst 0, 1) := by decide +kernel
theorem dX7_passesHour_64 : decode cX7_passesHour 64 = .ok (.istore 4, 2) := by decide +kernel
theorem dX7_passesHour_66 : decode cX7_passesHour 66 = .ok (.iload 4, 2) := by decide +kernel
theorem dX7_passesHour_68 : decode cX7_passesHour 68 = .ok (.aload_n 1, 1) := by decide +kernel
theorem dX7_passesHour_69 : decode cX7_passesHour 69 = .ok (.getfield 76, 3) := by decide +kernel
theorem dX7_passesHour_72 : decode cX7_passesHour 72 = .ok (.if_icmp .ge 27, 3) := by decide +kernel
theorem dX7_passesHour_75 : decode cX7_passesHour 75 = .ok (.aload_n 0, 1) := by decide +kernel
theorem dX7_passesHour_76 : decode cX7_passesHour 76 = .ok (.getfield 21, 3) := by decide +kernel
theorem dX7_passesHour_79 : decode cX7_passesHour 79 = .ok (.iload 4, 2) := by decide +kernel
theorem dX7_passesHour_81 : decode cX7_passesHour 81 = .ok (.aload_n 0, 1) := by decide +kernel
theorem dX7_passesHour_82 : decode cX7_passesHour 82 = .ok (.getfield 21, 3) := by decide +kernel
theorem dX7_passesHour_85 : decode cX7_passesHour 85 = .ok (.iload 4, 2) := by decide +kernel
theorem dX7_passesHour_87 : decode cX7_passesHour 87 = .ok (.iaload, 1) := by decide +kernel
theorem dX7_passesHour_88 : decode cX7_passesHour 88 = .ok (.iload_n 3, 1) := by decide +kernel
theorem dX7_passesHour_89 : decode cX7_passesHour 89 = .ok (.invokestatic 135, 3) := by decide +kernel
theorem dX7_passesHour_92 : decode cX7_passesHour 92 = .ok (.iastore, 1) := by decide +kernel
theorem dX7_passesHour_93 : decode cX7_passesHour 93 = .ok (.iinc 4 1, 3) := by decide +kernel
theorem dX7_passesHour_96 : decode cX7_passesHour 96 = .ok (.goto (-30), 3) := by decide +kernel
theorem dX7_passesHour_99 : decode cX7_passesHour 99 = .ok (.aload_n 0, 1) := by decide +kernel
theorem dX7_passesHour_100 : decode cX7_passesHour 100 = .ok (.dup, 1) := by decide +kernel
theorem dX7_passesHour_101 : decode cX7_passesHour 101 = .ok (.getfield 27, 3) := by decide +kernel
theorem dX7_passesHour_104 : decode cX7_passesHour 104 = .ok (.iconst 1, 1) := by decide +kernel
theorem dX7_passesHour_105 : decode cX7_passesHour 105 = .ok (.iadd, 1) := by decide +kernel
theorem dX7_passesHour_106 : decode cX7_passesHour 106 = .ok (.putfield 27, 3) := by decide +kernel
theorem dX7_passesHour_109 : decode cX7_passesHour 109 = .ok (.aload_n 0, 1) := by decide +kernel
theorem dX7_passesHour_110 : decode cX7_passesHour 110 = .ok (.getfield 34, 3) := by decide +kernel
theorem dX7_passesHour_113 : decode cX7_passesHour 113 = .ok (.iload_n 2, 1) := by decide +kernel
theorem dX7_passesHour_114 : decode cX7_passesHour 114 = .ok (.iconst (-1), 1) := by decide +kernel
theorem dX7_passesHour_115 : decode cX7_passesHour 115 = .ok (.ixor, 1) := by decide +kernel
theorem dX7_passesHour_116 : decode cX7_passesHour 116 = .ok (.iand, 1) := by decide +kernel
theorem dX7_passesHour_117 : decode cX7_passesHour 117 = .ok (.ireturn, 1) := by decide +kernel
theorem dX7_breathes_0 : decode cX7_breathes 0 = .ok (.aload_n 0, 1) := by decide +kernel
theorem dX7_breathes_1 : decode cX7_breathes 1 = .ok (.aload_n 1, 1) := by decide +kernel
theorem dX7_breathes_2 : decode cX7_breathes 2 = .ok (.iload_n 2, 1) := by decide +kernel
theorem dX7_breathes_3 : decode cX7_breathes 3 = .ok (.iconst 0, 1) := by decide +kernel
theorem dX7_breathes_4 : decode cX7_breathes 4 = .ok (.invokevirtual 138, 3) := by decide +kernel
theorem dX7_breathes_7 : decode cX7_breathes 7 = .ok (.istore_n 3, 1) := by decide +kernel
theorem dX7_breathes_8 : decode cX7_breathes 8 = .ok (.iload_n 3, 1) := by decide +kernel
theorem dX7_breathes_9 : decode cX7_breathes 9 = .ok (.aload_n 0, 1) := by decide +kernel
theorem dX7_breathes_10 : decode cX7_breathes 10 = .ok (.getfield 15, 3) := by decide +kernel
theorem dX7_breathes_13 : decode cX7_breathes 13 = .ok (.iload_n 2, 1) := by decide +kernel
theorem dX7_breathes_14 : decode cX7_breathes 14 = .ok (.iaload, 1) := by decide +kernel
theorem dX7_breathes_15 : decode cX7_breathes 15 = .ok (.invokestatic 123, 3) := by decide +kernel
theorem dX7_breathes_18 : decode cX7_breathes 18 = .ok (.istore 4, 2) := by decide +kernel
theorem dX7_breathes_20 : decode cX7_breathes 20 = .ok (.aload_n 0, 1) := by decide +kernel
theorem dX7_breathes_21 : decode cX7_breathes 21 = .ok (.getfield 18, 3) := by decide +kernel
theorem dX7_breathes_24 : decode cX7_breathes 24 = .ok (.iload_n 2, 1) := by decide +kernel
theorem dX7_breathes_25 : decode cX7_breathes 25 = .ok (.dup2, 1) := by decide +kernel
theorem dX7_breathes_26 : decode cX7_breathes 26 = .ok (.iaload, 1) := by decide +kernel
theorem dX7_breathes_27 : decode cX7_breathes 27 = .ok (.iconst 1, 1) := by decide +kernel
theorem dX7_breathes_28 : decode cX7_breathes 28 = .ok (.iadd, 1) := by decide +kernel
theorem dX7_breathes_29 : decode cX7_breathes 29 = .ok (.iastore, 1) := by decide +kernel
theorem dX7_breathes_30 : decode cX7_breathes 30 = .ok (.aload_n 0, 1) := by decide +kernel
theorem dX7_breathes_31 : decode cX7_breathes 31 = .ok (.getfield 15, 3) := by decide +kernel
theorem dX7_breathes_34 : decode cX7_breathes 34 = .ok (.iload_n 2, 1) := by decide +kernel
theorem dX7_breathes_35 : decode cX7_breathes 35 = .ok (.dup2, 1) := by decide +kernel
theorem dX7_breathes_36 : decode cX7_breathes 36 = .ok (.iaload, 1) := by decide +kernel
theorem dX7_breathes_37 : decode cX7_breathes 37 = .ok (.iload 4, 2) := by decide +kernel
theorem dX7_breathes_39 : decode cX7_breathes 39 = .ok (.isub, 1) := by decide +kernel
theorem dX7_breathes_40 : decode cX7_breathes 40 = .ok (.iastore, 1) := by decide +kernel
theorem dX7_breathes_41 : decode cX7_breathes 41 = .ok (.aload_n 0, 1) := by decide +kernel
theorem dX7_breathes_42 : decode cX7_breathes 42 = .ok (.dup, 1) := by decide +kernel
theorem dX7_breathes_43 : decode cX7_breathes 43 = .ok (.getfield 31, 3) := by decide +kernel
theorem dX7_breathes_46 : decode cX7_breathes 46 = .ok (.iload 4, 2) := by decide +kernel
theorem dX7_breathes_48 : decode cX7_breathes 48 = .ok (.iadd, 1) := by decide +kernel
theorem dX7_breathes_49 : decode cX7_breathes 49 = .ok (.putfield 31, 3) := by decide +kernel
theorem dX7_breathes_52 : decode cX7_breathes 52 = .ok (.iload 4, 2) := by decide +kernel
theorem dX7_breathes_54 : decode cX7_breathes 54 = .ok (.iload_n 3, 1) := by decide +kernel
theorem dX7_breathes_55 : decode cX7_breathes 55 = .ok (.if_icmp .ge 15, 3) := by decide +kernel
theorem dX7_breathes_58 : decode cX7_breathes 58 = .ok (.aload_n 0, 1) := by decide +kernel
theorem dX7_breathes_59 : decode cX7_breathes 59 = .ok (.dup, 1) := by decide +kernel
theorem dX7_breathes_60 : decode cX7_breathes 60 = .ok (.getfield 34, 3) := by decide +kernel
theorem dX7_breathes_63 : decode cX7_breathes 63 = .ok (.iconst 1, 1) := by decide +kernel
theorem dX7_breathes_64 : decode cX7_breathes 64 = .ok (.iload_n 2, 1) := by decide +kernel
theorem dX7_breathes_65 : decode cX7_breathes 65 = .ok (.ishl, 1) := by decide +kernel
theorem dX7_breathes_66 : decode cX7_breathes 66 = .ok (.ior, 1) := by decide +kernel
theorem dX7_breathes_67 : decode cX7_breathes 67 = .ok (.putfield 34, 3) := by decide +kernel
theorem dX7_breathes_70 : decode cX7_breathes 70 = .ok (.return_, 1) := by decide +kernel
theorem dX7_follows_0 : decode cX7_follows 0 = .ok (.aload_n 2, 1) := by decide +kernel
theorem dX7_follows_1 : decode cX7_follows 1 = .ok (.getfield 142, 3) := by decide +kernel
theorem dX7_follows_4 : decode cX7_follows 4 = .ok (.iload_n 3, 1) := by decide +kernel
theorem dX7_follows_5 : decode cX7_follows 5 = .ok (.aaload, 1) := by decide +kernel
theorem dX7_follows_6 : decode cX7_follows 6 = .ok (.astore 4, 2) := by decide +kernel
theorem dX7_follows_8 : decode cX7_follows 8 = .ok (.aload_n 2, 1) := by decide +kernel
theorem dX7_follows_9 : decode cX7_follows 9 = .ok (.getfield 148, 3) := by decide +kernel
theorem dX7_follows_12 : decode cX7_follows 12 = .ok (.iload_n 3, 1) := by decide +kernel
theorem dX7_follows_13 : decode cX7_follows 13 = .ok (.iaload, 1) := by decide +kernel
theorem dX7_follows_14 : decode cX7_follows 14 = .ok (.istore 5, 2) := by decide +kernel
theorem dX7_follows_16 : decode cX7_follows 16 = .ok (.aload_n 2, 1) := by decide +kernel
theorem dX7_follows_17 : decode cX7_follows 17 = .ok (.getfield 151, 3) := by decide +kernel
theorem dX7_follows_20 : decode cX7_follows 20 = .ok (.iload_n 3, 1) := by decide +kernel
theorem dX7_follows_21 : decode cX7_follows 21 = .ok (.iaload, 1) := by decide +kernel
theorem dX7_follows_22 : decode cX7_follows 22 = .ok (.istore 6, 2) := by decide +kernel
theorem dX7_follows_24 : decode cX7_follows 24 = .ok (.aload 4, 2) := by decide +kernel
theorem dX7_follows_26 : decode cX7_follows 26 = .ok (.getstatic 154, 3) := by decide +kernel
theorem dX7_follows_29 : decode cX7_follows 29 = .ok (.if_acmp .ne 13, 3) := by decide +kernel
theorem dX7_follows_32 : decode cX7_follows 32 = .ok (.aload_n 0, 1) := by decide +kernel
theorem dX7_follows_33 : decode cX7_follows 33 = .ok (.aload_n 1, 1) := by decide +kernel
theorem dX7_follows_34 : decode cX7_follows 34 = .ok (.iload 5, 2) := by decide +kernel
theorem dX7_follows_36 : decode cX7_follows 36 = .ok (.iload 6, 2) := by decide +kernel
theorem dX7_follows_38 : decode cX7_follows 38 = .ok (.invokevirtual 160, 3) := by decide +kernel
theorem dX7_follows_41 : decode cX7_follows 41 = .ok (.ireturn, 1) := by decide +kernel
theorem dX7_follows_42 : decode cX7_follows 42 = .ok (.aload 4, 2) := by decide +kernel
theorem dX7_follows_44 : decode cX7_follows 44 = .ok (.getstatic 163, 3) := by decide +kernel
theorem dX7_follows_47 : decode cX7_follows 47 = .ok (.if_acmp .ne 13, 3) := by decide +kernel
theorem dX7_follows_50 : decode cX7_follows 50 = .ok (.aload_n 0, 1) := by decide +kernel
theorem dX7_follows_51 : decode cX7_follows 51 = .ok (.aload_n 1, 1) := by decide +kernel
theorem dX7_follows_52 : decode cX7_follows 52 = .ok (.iload 5, 2) := by decide +kernel
theorem dX7_follows_54 : decode cX7_follows 54 = .ok (.iload 6, 2) := by decide +kernel
theorem dX7_follows_56 : decode cX7_follows 56 = .ok (.invokevirtual 166, 3) := by decide +kernel
theorem dX7_follows_59 : decode cX7_follows 59 = .ok (.ireturn, 1) := by decide +kernel
theorem dX7_follows_60 : decode cX7_follows 60 = .ok (.aload 4, 2) := by decide +kernel
theorem dX7_follows_62 : decode cX7_follows 62 = .ok (.getstatic 169, 3) := by decide +kernel
theorem dX7_follows_65 : decode cX7_follows 65 = .ok (.if_acmp .ne 13, 3) := by decide +kernel
theorem dX7_follows_68 : decode cX7_follows 68 = .ok (.aload_n 0, 1) := by decide +kernel
theorem dX7_follows_69 : decode cX7_follows 69 = .ok (.aload_n 1, 1) := by decide +kernel
theorem dX7_follows_70 : decode cX7_follows 70 = .ok (.iload 5, 2) := by decide +kernel
theorem dX7_follows_72 : decode cX7_follows 72 = .ok (.iload 6, 2) := by decide +kernel
theorem dX7_follows_74 : decode cX7_follows 74 = .ok (.invokevirtual 172, 3) := by decide +kernel
theorem dX7_follows_77 : decode cX7_follows 77 = .ok (.ireturn, 1) := by decide +kernel
theorem dX7_follows_78 : decode cX7_follows 78 = .ok (.aload 4, 2) := by decide +kernel
theorem dX7_follows_80 : decode cX7_follows 80 = .ok (.getstatic 175, 3) := by decide +kernel
theorem dX7_follows_83 : decode cX7_follows 83 = .ok (.if_acmp .ne 13, 3) := by decide +kernel
theorem dX7_follows_86 : decode cX7_follows 86 = .ok (.aload_n 0, 1) := by decide +kernel
theorem dX7_follows_87 : decode cX7_follows 87 = .ok (.aload_n 1, 1) := by decide +kernel
theorem dX7_follows_88 : decode cX7_follows 88 = .ok (.iload 5, 2) := by decide +kernel
theorem dX7_follows_90 : decode cX7_follows 90 = .ok (.iload 6, 2) := by decide +kernel
theorem dX7_follows_92 : decode cX7_follows 92 = .ok (.invokevirtual 178, 3) := by decide +kernel
theorem dX7_follows_95 : decode cX7_follows 95 = .ok (.ireturn, 1) := by decide +kernel
theorem dX7_follows_96 : decode cX7_follows 96 = .ok (.aload 4, 2) := by decide +kernel
theorem dX7_follows_98 : decode cX7_follows 98 = .ok (.getstatic 181, 3) := by decide +kernel
theorem dX7_follows_101 : decode cX7_follows 101 = .ok (.if_acmp .ne 19, 3) := by decide +kernel
theorem dX7_follows_104 : decode cX7_follows 104 = .ok (.aload_n 0, 1) := by decide +kernel
theorem dX7_follows_105 : decode cX7_follows 105 = .ok (.aload_n 1, 1) := by decide +kernel
theorem dX7_follows_106 : decode cX7_follows 106 = .ok (.iload 5, 2) := by decide +kernel
theorem dX7_follows_108 : decode cX7_follows 108 = .ok (.aload_n 2, 1) := by decide +kernel
theorem dX7_follows_109 : decode cX7_follows 109 = .ok (.getfield 184, 3) := by decide +kernel
theorem dX7_follows_112 : decode cX7_follows 112 = .ok (.iload_n 3, 1) := by decide +kernel
theorem dX7_follows_113 : decode cX7_follows 113 = .ok (.iaload, 1) := by decide +kernel
theorem dX7_follows_114 : decode cX7_follows 114 = .ok (.iload 6, 2) := by decide +kernel
theorem dX7_follows_116 : decode cX7_follows 116 = .ok (.invokevirtual 187, 3) := by decide +kernel
theorem dX7_follows_119 : decode cX7_follows 119 = .ok (.ireturn, 1) := by decide +kernel
theorem dX7_follows_120 : decode cX7_follows 120 = .ok (.aload 4, 2) := by decide +kernel
theorem dX7_follows_122 : decode cX7_follows 122 = .ok (.getstatic 191, 3) := by decide +kernel
theorem dX7_follows_125 : decode cX7_follows 125 = .ok (.if_acmp .ne 11, 3) := by decide +kernel
theorem dX7_follows_128 : decode cX7_follows 128 = .ok (.aload_n 0, 1) := by decide +kernel
theorem dX7_follows_129 : decode cX7_follows 129 = .ok (.aload_n 1, 1) := by decide +kernel
theorem dX7_follows_130 : decode cX7_follows 130 = .ok (.iload 6, 2) := by decide +kernel
theorem dX7_follows_132 : decode cX7_follows 132 = .ok (.invokevirtual 194, 3) := by decide +kernel
theorem dX7_follows_135 : decode cX7_follows 135 = .ok (.ireturn, 1) := by decide +kernel
theorem dX7_follows_136 : decode cX7_follows 136 = .ok (.aload_n 0, 1) := by decide +kernel
theorem dX7_follows_137 : decode cX7_follows 137 = .ok (.aload_n 1, 1) := by decide +kernel
theorem dX7_follows_138 : decode cX7_follows 138 = .ok (.invokevirtual 197, 3) := by decide +kernel
theorem dX7_follows_141 : decode cX7_follows 141 = .ok (.pop, 1) := by decide +kernel
theorem dX7_follows_142 : decode cX7_follows 142 = .ok (.iconst 1, 1) := by decide +kernel
theorem dX7_follows_143 : decode cX7_follows 143 = .ok (.ireturn, 1) := by decide +kernel
theorem dX8_init_0 : decode cX8_init 0 = .ok (.aload_n 0, 1) := by decide +kernel
theorem dX8_init_1 : decode cX8_init 1 = .ok (.invokespecial 3, 3) := by decide +kernel
theorem dX8_init_4 : decode cX8_init 4 = .ok (.aload_n 0, 1) := by decide +kernel
theorem dX8_init_5 : decode cX8_init 5 = .ok (.sipush 1000, 3) := by decide +kernel
theorem dX8_init_8 : decode cX8_init 8 = .ok (.newarray .char, 2) := by decide +kernel
theorem dX8_init_10 : decode cX8_init 10 = .ok (.putfield 9, 3) := by decide +kernel
theorem dX8_init_13 : decode cX8_init 13 = .ok (.return_, 1) := by decide +kernel
theorem dX8_put_0 : decode cX8_put 0 = .ok (.bipush 56, 2) := by decide +kernel
theorem dX8_put_2 : decode cX8_put 2 = .ok (.istore_n 3, 1) := by decide +kernel
theorem dX8_put_3 : decode cX8_put 3 = .ok (.iload_n 3, 1) := by decide +kernel
theorem dX8_put_4 : decode cX8_put 4 = .ok (.ifCond .lt 84, 3) := by decide +kernel
theorem dX8_put_7 : decode cX8_put 7 = .ok (.lload_n 1, 1) := by decide +kernel
theorem dX8_put_8 : decode cX8_put 8 = .ok (.iload_n 3, 1) := by decide +kernel
theorem dX8_put_9 : decode cX8_put 9 = .ok (.lshr, 1) := by decide +kernel
theorem dX8_put_10 : decode cX8_put 10 = .ok (.l2i, 1) := by decide +kernel
theorem dX8_put_11 : decode cX8_put 11 = .ok (.sipush 255, 3) := by decide +kernel
theorem dX8_put_14 : decode cX8_put 14 = .ok (.iand, 1) := by decide +kernel
theorem dX8_put_15 : decode cX8_put 15 = .ok (.istore 4, 2) := by decide +kernel
theorem dX8_put_17 : decode cX8_put 17 = .ok (.iload 4, 2) := by decide +kernel
theorem dX8_put_19 : decode cX8_put 19 = .ok (.bipush 10, 2) := by decide +kernel
theorem dX8_put_21 : decode cX8_put 21 = .ok (.if_icmp .eq 17, 3) := by decide +kernel
theorem dX8_put_24 : decode cX8_put 24 = .ok (.iload 4, 2) := by decide +kernel
theorem dX8_put_26 : decode cX8_put 26 = .ok (.bipush 32, 2) := by decide +kernel
theorem dX8_put_28 : decode cX8_put 28 = .ok (.if_icmp .lt 14, 3) := by decide +kernel
theorem dX8_put_31 : decode cX8_put 31 = .ok (.iload 4, 2) := by decide +kernel
theorem dX8_put_33 : decode cX8_put 33 = .ok (.bipush 126, 2) := by decide +kernel
theorem dX8_put_35 : decode cX8_put 35 = .ok (.if_icmp .gt 7, 3) := by decide +kernel
theorem dX8_put_38 : decode cX8_put 38 = .ok (.iconst 1, 1) := by decide +kernel
theorem dX8_put_39 : decode cX8_put 39 = .ok (.goto 4, 3) := by decide +kernel
theorem dX8_put_42 : decode cX8_put 42 = .ok (.iconst 0, 1) := by decide +kernel
theorem dX8_put_43 : decode cX8_put 43 = .ok (.istore 5, 2) := by decide +kernel
theorem dX8_put_45 : decode cX8_put 45 = .ok (.iload 5, 2) := by decide +kernel
theorem dX8_put_47 : decode cX8_put 47 = .ok (.ifCond .eq 35, 3) := by decide +kernel
theorem dX8_put_50 : decode cX8_put 50 = .ok (.aload_n 0, 1) := by decide +kernel
theorem dX8_put_51 : decode cX8_put 51 = .ok (.getfield 15, 3) := by decide +kernel
theorem dX8_put_54 : decode cX8_put 54 = .ok (.sipush 1000, 3) := by decide +kernel
theorem dX8_put_57 : decode cX8_put 57 = .ok (.if_icmp .ge 25, 3) := by decide +kernel
theorem dX8_put_60 : decode cX8_put 60 = .ok (.aload_n 0, 1) := by decide +kernel
theorem dX8_put_61 : decode cX8_put 61 = .ok (.getfield 9, 3) := by decide +kernel
theorem dX8_put_64 : decode cX8_put 64 = .ok (.aload_n 0, 1) := by decide +kernel
theorem dX8_put_65 : decode cX8_put 65 = .ok (.getfield 15, 3) := by decide +kernel
theorem dX8_put_68 : decode cX8_put 68 = .ok (.iload 4, 2) := by decide +kernel
theorem dX8_put_70 : decode cX8_put 70 = .ok (.i2c, 1) := by decide +kernel
theorem dX8_put_71 : decode cX8_put 71 = .ok (.castore, 1) := by decide +kernel
theorem dX8_put_72 : decode cX8_put 72 = .ok (.aload_n 0, 1) := by decide +kernel
theorem dX8_put_73 : decode cX8_put 73 = .ok (.dup, 1) := by decide +kernel
theorem dX8_put_74 : decode cX8_put 74 = .ok (.getfield 15, 3) := by decide +kernel
theorem dX8_put_77 : decode cX8_put 77 = .ok (.iconst 1, 1) := by decide +kernel
theorem dX8_put_78 : decode cX8_put 78 = .ok (.iadd, 1) := by decide +kernel
theorem dX8_put_79 : decode cX8_put 79 = .ok (.putfield 15, 3) := by decide +kernel
theorem dX8_put_82 : decode cX8_put 82 = .ok (.iinc 3 (-8), 3) := by decide +kernel
theorem dX8_put_85 : decode cX8_put 85 = .ok (.goto (-82), 3) := by decide +kernel
theorem dX8_put_88 : decode cX8_put 88 = .ok (.return_, 1) := by decide +kernel
theorem dX8_rewind_0 : decode cX8_rewind 0 = .ok (.aload_n 0, 1) := by decide +kernel
theorem dX8_rewind_1 : decode cX8_rewind 1 = .ok (.iconst 0, 1) := by decide +kernel
theorem dX8_rewind_2 : decode cX8_rewind 2 = .ok (.putfield 19, 3) := by decide +kernel
theorem dX8_rewind_5 : decode cX8_rewind 5 = .ok (.aload_n 0, 1) := by decide +kernel
theorem dX8_rewind_6 : decode cX8_rewind 6 = .ok (.invokevirtual 22, 3) := by decide +kernel
theorem dX8_rewind_9 : decode cX8_rewind 9 = .ok (.return_, 1) := by decide +kernel
theorem dX8_next_0 : decode cX8_next 0 = .ok (.aload_n 0, 1) := by decide +kernel
theorem dX8_next_1 : decode cX8_next 1 = .ok (.aload_n 0, 1) := by decide +kernel
theorem dX8_next_2 : decode cX8_next 2 = .ok (.getfield 19, 3) := by decide +kernel
theorem dX8_next_5 : decode cX8_next 5 = .ok (.putfield 25, 3) := by decide +kernel
theorem dX8_next_8 : decode cX8_next 8 = .ok (.aload_n 0, 1) := by decide +kernel
theorem dX8_next_9 : decode cX8_next 9 = .ok (.getfield 25, 3) := by decide +kernel
theorem dX8_next_12 : decode cX8_next 12 = .ok (.aload_n 0, 1) := by decide +kernel
theorem dX8_next_13 : decode cX8_next 13 = .ok (.getfield 15, 3) := by decide +kernel
theorem dX8_next_16 : decode cX8_next 16 = .ok (.if_icmp .ge 44, 3) := by decide +kernel
theorem dX8_next_19 : decode cX8_next 19 = .ok (.aload_n 0, 1) := by decide +kernel
theorem dX8_next_20 : decode cX8_next 20 = .ok (.getfield 9, 3) := by decide +kernel
theorem dX8_next_23 : decode cX8_next 23 = .ok (.aload_n 0, 1) := by decide +kernel
theorem dX8_next_24 : decode cX8_next 24 = .ok (.getfield 25, 3) := by decide +kernel
theorem dX8_next_27 : decode cX8_next 27 = .ok (.caload, 1) := by decide +kernel
theorem dX8_next_28 : decode cX8_next 28 = .ok (.bipush 10, 2) := by decide +kernel
theorem dX8_next_30 : decode cX8_next 30 = .ok (.if_icmp .eq 17, 3) := by decide +kernel
theorem dX8_next_33 : decode cX8_next 33 = .ok (.aload_n 0, 1) := by decide +kernel
theorem dX8_next_34 : decode cX8_next 34 = .ok (.getfield 9, 3) := by decide +kernel
theorem dX8_next_37 : decode cX8_next 37 = .ok (.aload_n 0, 1) := by decide +kernel
theorem dX8_next_38 : decode cX8_next 38 = .ok (.getfield 25, 3) := by decide +kernel
theorem dX8_next_41 : decode cX8_next 41 = .ok (.caload, 1) := by decide +kernel
theorem dX8_next_42 : decode cX8_next 42 = .ok (.bipush 32, 2) := by decide +kernel
theorem dX8_next_44 : decode cX8_next 44 = .ok (.if_icmp .ne 16, 3) := by decide +kernel
theorem dX8_next_47 : decode cX8_next 47 = .ok (.aload_n 0, 1) := by decide +kernel
theorem dX8_next_48 : decode cX8_next 48 = .ok (.dup, 1) := by decide +kernel
theorem dX8_next_49 : decode cX8_next 49 = .ok (.getfield 25, 3) := by decide +kernel
theorem dX8_next_52 : decode cX8_next 52 = .ok (.iconst 1, 1) := by decide +kernel
theorem dX8_next_53 : decode cX8_next 53 = .ok (.iadd, 1) := by decide +kernel
theorem dX8_next_54 : decode cX8_next 54 = .ok (.putfield 25, 3) := by decide +kernel
theorem dX8_next_57 : decode cX8_next 57 = .ok (.goto (-49), 3) := by decide +kernel
theorem dX8_next_60 : decode cX8_next 60 = .ok (.aload_n 0, 1) := by decide +kernel
theorem dX8_next_61 : decode cX8_next 61 = .ok (.aload_n 0, 1) := by decide +kernel
theorem dX8_next_62 : decode cX8_next 62 = .ok (.getfield 25, 3) := by decide +kernel
theorem dX8_next_65 : decode cX8_next 65 = .ok (.putfield 19, 3) := by decide +kernel
theorem dX8_next_68 : decode cX8_next 68 = .ok (.aload_n 0, 1) := by decide +kernel
theorem dX8_next_69 : decode cX8_next 69 = .ok (.iconst 0, 1) := by decide +kernel
theorem dX8_next_70 : decode cX8_next 70 = .ok (.putfield 28, 3) := by decide +kernel
theorem dX8_next_73 : decode cX8_next 73 = .ok (.aload_n 0, 1) := by decide +kernel
theorem dX8_next_74 : decode cX8_next 74 = .ok (.aconst_null, 1) := by decide +kernel
theorem dX8_next_75 : decode cX8_next 75 = .ok (.putfield 31, 3) := by decide +kernel
theorem dX8_next_78 : decode cX8_next 78 = .ok (.aload_n 0, 1) := by decide +kernel
theorem dX8_next_79 : decode cX8_next 79 = .ok (.getfield 25, 3) := by decide +kernel
theorem dX8_next_82 : decode cX8_next 82 = .ok (.aload_n 0, 1) := by decide +kernel
theorem dX8_next_83 : decode cX8_next 83 = .ok (.getfield 15, 3) := by decide +kernel
theorem dX8_next_86 : decode cX8_next 86 = .ok (.if_icmp .ge 67, 3) := by decide +kernel
theorem dX8_next_89 : decode cX8_next 89 = .ok (.aload_n 0, 1) := by decide +kernel
theorem dX8_next_90 : decode cX8_next 90 = .ok (.getfield 9, 3) := by decide +kernel
theorem dX8_next_93 : decode cX8_next 93 = .ok (.aload_n 0, 1) := by decide +kernel
theorem dX8_next_94 : decode cX8_next 94 = .ok (.getfield 25, 3) := by decide +kernel
theorem dX8_next_97 : decode cX8_next 97 = .ok (.caload, 1) := by decide +kernel
theorem dX8_next_98 : decode cX8_next 98 = .ok (.istore_n 1, 1) := by decide +kernel
theorem dX8_next_99 : decode cX8_next 99 = .ok (.iload_n 1, 1) := by decide +kernel
theorem dX8_next_100 : decode cX8_next 100 = .ok (.invokestatic 35, 3) := by decide +kernel
theorem dX8_next_103 : decode cX8_next 103 = .ok (.ifCond .eq 10, 3) := by decide +kernel
theorem dX8_next_106 : decode cX8_next 106 = .ok (.aload_n 0, 1) := by decide +kernel
theorem dX8_next_107 : decode cX8_next 107 = .ok (.invokevirtual 39, 3) := by decide +kernel
theorem dX8_next_110 : decode cX8_next 110 = .ok (.goto 43, 3) := by decide +kernel
theorem dX8_next_113 : decode cX8_next 113 = .ok (.iload_n 1, 1) := by decide +kernel
theorem dX8_next_114 : decode cX8_next 114 = .ok (.invokestatic 42, 3) := by decide +kernel
theorem dX8_next_117 : decode cX8_next 117 = .ok (.ifCond .eq 10, 3) := by decide +kernel
theorem dX8_next_120 : decode cX8_next 120 = .ok (.aload_n 0, 1) := by decide +kernel
theorem dX8_next_121 : decode cX8_next 121 = .ok (.invokevirtual 45, 3) := by decide +kernel
theorem dX8_next_124 : decode cX8_next 124 = .ok (.goto 29, 3) := by decide +kernel
theorem dX8_next_127 : decode cX8_next 127 = .ok (.aload_n 0, 1) := by decide +kernel
theorem dX8_next_128 : decode cX8_next 128 = .ok (.dup, 1) := by decide +kernel
theorem dX8_next_129 : decode cX8_next 129 = .ok (.getfield 19, 3) := by decide +kernel
theorem dX8_next_132 : decode cX8_next 132 = .ok (.iconst 1, 1) := by decide +kernel
theorem dX8_next_133 : decode cX8_next 133 = .ok (.iadd, 1) := by decide +kernel
theorem dX8_next_134 : decode cX8_next 134 = .ok (.putfield 19, 3) := by decide +kernel
theorem dX8_next_137 : decode cX8_next 137 = .ok (.aload_n 0, 1) := by decide +kernel
theorem dX8_next_138 : decode cX8_next 138 = .ok (.iload_n 1, 1) := by decide +kernel
theorem dX8_next_139 : decode cX8_next 139 = .ok (.invokestatic 48, 3) := by decide +kernel
theorem dX8_next_142 : decode cX8_next 142 = .ok (.ifCond .eq 7, 3) := by decide +kernel
theorem dX8_next_145 : decode cX8_next 145 = .ok (.iload_n 1, 1) := by decide +kernel
theorem dX8_next_146 : decode cX8_next 146 = .ok (.goto 4, 3) := by decide +kernel
theorem dX8_next_149 : decode cX8_next 149 = .ok (.iconst 3, 1) := by decide +kernel
theorem dX8_next_150 : decode cX8_next 150 = .ok (.putfield 28, 3) := by decide +kernel
theorem dX8_next_153 : decode cX8_next 153 = .ok (.return_, 1) := by decide +kernel
theorem dX8_scanWord_0 : decode cX8_scanWord 0 = .ok (.aload_n 0, 1) := by decide +kernel
theorem dX8_scanWord_1 : decode cX8_scanWord 1 = .ok (.lconst 0, 1) := by decide +kernel
theorem dX8_scanWord_2 : decode cX8_scanWord 2 = .ok (.putfield 51, 3) := by decide +kernel
theorem dX8_scanWord_5 : decode cX8_scanWord 5 = .ok (.aload_n 0, 1) := by decide +kernel
theorem dX8_scanWord_6 : decode cX8_scanWord 6 = .ok (.getfield 19, 3) := by decide +kernel
theorem dX8_scanWord_9 : decode cX8_scanWord 9 = .ok (.aload_n 0, 1) := by decide +kernel
theorem dX8_scanWord_10 : decode cX8_scanWord 10 = .ok (.getfield 15, 3) := by decide +kernel
theorem dX8_scanWord_13 : decode cX8_scanWord 13 = .ok (.if_icmp .ge 51, 3) := by decide +kernel
theorem dX8_scanWord_16 : decode cX8_scanWord 16 = .ok (.aload_n 0, 1) := by decide +kernel
theorem dX8_scanWord_17 : decode cX8_scanWord 17 = .ok (.getfield 9, 3) := by decide +kernel
theorem dX8_scanWord_20 : decode cX8_scanWord 20 = .ok (.aload_n 0, 1) := by decide +kernel
theorem dX8_scanWord_21 : decode cX8_scanWord 21 = .ok (.getfield 19, 3) := by decide +kernel
theorem dX8_scanWord_24 : decode cX8_scanWord 24 = .ok (.caload, 1) := by decide +kernel
theorem dX8_scanWord_25 : decode cX8_scanWord 25 = .ok (.invokestatic 35, 3) := by decide +kernel
theorem dX8_scanWord_28 : decode cX8_scanWord 28 = .ok (.ifCond .eq 36, 3) := by decide +kernel
theorem dX8_scanWord_31 : decode cX8_scanWord 31 = .ok (.aload_n 0, 1) := by decide +kernel
theorem dX8_scanWord_32 : decode cX8_scanWord 32 = .ok (.aload_n 0, 1) := by decide +kernel
theorem dX8_scanWord_33 : decode cX8_scanWord 33 = .ok (.getfield 51, 3) := by decide +kernel
theorem dX8_scanWord_36 : decode cX8_scanWord 36 = .ok (.aload_n 0, 1) := by decide +kernel
theorem dX8_scanWord_37 : decode cX8_scanWord 37 = .ok (.getfield 9, 3) := by decide +kernel
theorem dX8_scanWord_40 : decode cX8_scanWord 40 = .ok (.aload_n 0, 1) := by decide +kernel
theorem dX8_scanWord_41 : decode cX8_scanWord 41 = .ok (.getfield 19, 3) := by decide +kernel
theorem dX8_scanWord_44 : decode cX8_scanWord 44 = .ok (.caload, 1) := by decide +kernel
theorem dX8_scanWord_45 : decode cX8_scanWord 45 = .ok (.invokestatic 55, 3) := by decide +kernel
theorem dX8_scanWord_48 : decode cX8_scanWord 48 = .ok (.putfield 51, 3) := by decide +kernel
theorem dX8_scanWord_51 : decode cX8_scanWord 51 = .ok (.aload_n 0, 1) := by decide +kernel
theorem dX8_scanWord_52 : decode cX8_scanWord 52 = .ok (.dup, 1) := by decide +kernel
theorem dX8_scanWord_53 : decode cX8_scanWord 53 = .ok (.getfield 19, 3) := by decide +kernel
theorem dX8_scanWord_56 : decode cX8_scanWord 56 = .ok (.iconst 1, 1) := by decide +kernel
theorem dX8_scanWord_57 : decode cX8_scanWord 57 = .ok (.iadd, 1) := by decide +kernel
theorem dX8_scanWord_58 : decode cX8_scanWord 58 = .ok (.putfield 19, 3) := by decide +kernel
theorem dX8_scanWord_61 : decode cX8_scanWord 61 = .ok (.goto (-56), 3) := by decide +kernel
theorem dX8_scanWord_64 : decode cX8_scanWord 64 = .ok (.aload_n 0, 1) := by decide +kernel
theorem dX8_scanWord_65 : decode cX8_scanWord 65 = .ok (.aload_n 0, 1) := by decide +kernel
theorem dX8_scanWord_66 : decode cX8_scanWord 66 = .ok (.getfield 19, 3) := by decide +kernel
theorem dX8_scanWord_69 : decode cX8_scanWord 69 = .ok (.aload_n 0, 1) := by decide +kernel
theorem dX8_scanWord_70 : decode cX8_scanWord 70 = .ok (.getfield 25, 3) := by decide +kernel
theorem dX8_scanWord_73 : decode cX8_scanWord 73 = .ok (.isub, 1) := by decide +kernel
theorem dX8_scanWord_74 : decode cX8_scanWord 74 = .ok (.bipush 8, 2) := by decide +kernel
theorem dX8_scanWord_76 : decode cX8_scanWord 76 = .ok (.if_icmp .le 7, 3) := by decide +kernel
theorem dX8_scanWord_79 : decode cX8_scanWord 79 = .ok (.iconst 3, 1) := by decide +kernel
theorem dX8_scanWord_80 : decode cX8_scanWord 80 = .ok (.goto 4, 3) := by decide +kernel
theorem dX8_scanWord_83 : decode cX8_scanWord 83 = .ok (.iconst 1, 1) := by decide +kernel
theorem dX8_scanWord_84 : decode cX8_scanWord 84 = .ok (.putfield 28, 3) := by decide +kernel
theorem dX8_scanWord_87 : decode cX8_scanWord 87 = .ok (.aload_n 0, 1) := by decide +kernel
theorem dX8_scanWord_88 : decode cX8_scanWord 88 = .ok (.aload_n 0, 1) := by decide +kernel
theorem dX8_scanWord_89 : decode cX8_scanWord 89 = .ok (.getfield 28, 3) := by decide +kernel
theorem dX8_scanWord_92 : decode cX8_scanWord 92 = .ok (.iconst 1, 1) := by decide +kernel
theorem dX8_scanWord_93 : decode cX8_scanWord 93 = .ok (.if_icmp .ne 13, 3) := by decide +kernel
theorem dX8_scanWord_96 : decode cX8_scanWord 96 = .ok (.aload_n 0, 1) := by decide +kernel
theorem dX8_scanWord_97 : decode cX8_scanWord 97 = .ok (.getfield 51, 3) := by decide +kernel
theorem dX8_scanWord_100 : decode cX8_scanWord 100 = .ok (.invokestatic 61, 3) := by decide +kernel
theorem dX8_scanWord_103 : decode cX8_scanWord 103 = .ok (.goto 4, 3) := by decide +kernel
theorem dX8_scanWord_106 : decode cX8_scanWord 106 = .ok (.aconst_null, 1) := by decide +kernel
theorem dX8_scanWord_107 : decode cX8_scanWord 107 = .ok (.putfield 31, 3) := by decide +kernel
theorem dX8_scanWord_110 : decode cX8_scanWord 110 = .ok (.return_, 1) := by decide +kernel
theorem dX8_scanNumber_0 : decode cX8_scanNumber 0 = .ok (.aload_n 0, 1) := by decide +kernel
theorem dX8_scanNumber_1 : decode cX8_scanNumber 1 = .ok (.iconst 0, 1) := by decide +kernel
theorem dX8_scanNumber_2 : decode cX8_scanNumber 2 = .ok (.putfield 65, 3) := by decide +kernel
theorem dX8_scanNumber_5 : decode cX8_scanNumber 5 = .ok (.aload_n 0, 1) := by decide +kernel
theorem dX8_scanNumber_6 : decode cX8_scanNumber 6 = .ok (.getfield 19, 3) := by decide +kernel
theorem dX8_scanNumber_9 : decode cX8_scanNumber 9 = .ok (.aload_n 0, 1) := by decide +kernel
theorem dX8_scanNumber_10 : decode cX8_scanNumber 10 = .ok (.getfield 15, 3) := by decide +kernel
theorem dX8_scanNumber_13 : decode cX8_scanNumber 13 = .ok (.if_icmp .ge 55, 3) := by decide +kernel
theorem dX8_scanNumber_16 : decode cX8_scanNumber 16 = .ok (.aload_n 0, 1) := by decide +kernel
theorem dX8_scanNumber_17 : decode cX8_scanNumber 17 = .ok (.getfield 9, 3) := by decide +kernel
theorem dX8_scanNumber_20 : decode cX8_scanNumber 20 = .ok (.aload_n 0, 1) := by decide +kernel
theorem dX8_scanNumber_21 : decode cX8_scanNumber 21 = .ok (.getfield 19, 3) := by decide +kernel
theorem dX8_scanNumber_24 : decode cX8_scanNumber 24 = .ok (.caload, 1) := by decide +kernel
theorem dX8_scanNumber_25 : decode cX8_scanNumber 25 = .ok (.invokestatic 42, 3) := by decide +kernel
theorem dX8_scanNumber_28 : decode cX8_scanNumber 28 = .ok (.ifCond .eq 40, 3) := by decide +kernel
theorem dX8_scanNumber_31 : decode cX8_scanNumber 31 = .ok (.aload_n 0, 1) := by decide +kernel
theorem dX8_scanNumber_32 : decode cX8_scanNumber 32 = .ok (.aload_n 0, 1) := by decide +kernel
theorem dX8_scanNumber_33 : decode cX8_scanNumber 33 = .ok (.getfield 65, 3) := by decide +kernel
theorem dX8_scanNumber_36 : decode cX8_scanNumber 36 = .ok (.bipush 10, 2) := by decide +kernel
theorem dX8_scanNumber_38 : decode cX8_scanNumber 38 = .ok (.imul, 1) := by decide +kernel
theorem dX8_scanNumber_39 : decode cX8_scanNumber 39 = .ok (.aload_n 0, 1) := by decide +kernel
theorem dX8_scanNumber_40 : decode cX8_scanNumber 40 = .ok (.getfield 9, 3) := by decide +kernel
theorem dX8_scanNumber_43 : decode cX8_scanNumber 43 = .ok (.aload_n 0, 1) := by decide +kernel
theorem dX8_scanNumber_44 : decode cX8_scanNumber 44 = .ok (.getfield 19, 3) := by decide +kernel
theorem dX8_scanNumber_47 : decode cX8_scanNumber 47 = .ok (.caload, 1) := by decide +kernel
theorem dX8_scanNumber_48 : decode cX8_scanNumber 48 = .ok (.bipush 48, 2) := by decide +kernel
theorem dX8_scanNumber_50 : decode cX8_scanNumber 50 = .ok (.isub, 1) := by decide +kernel
theorem dX8_scanNumber_51 : decode cX8_scanNumber 51 = .ok (.iadd, 1) := by decide +kernel
theorem dX8_scanNumber_52 : decode cX8_scanNumber 52 = .ok (.putfield 65, 3) := by decide +kernel
theorem dX8_scanNumber_55 : decode cX8_scanNumber 55 = .ok (.aload_n 0, 1) := by decide +kernel
theorem dX8_scanNumber_56 : decode cX8_scanNumber 56 = .ok (.dup, 1) := by decide +kernel
theorem dX8_scanNumber_57 : decode cX8_scanNumber 57 = .ok (.getfield 19, 3) := by decide +kernel
theorem dX8_scanNumber_60 : decode cX8_scanNumber 60 = .ok (.iconst 1, 1) := by decide +kernel
theorem dX8_scanNumber_61 : decode cX8_scanNumber 61 = .ok (.iadd, 1) := by decide +kernel
theorem dX8_scanNumber_62 : decode cX8_scanNumber 62 = .ok (.putfield 19, 3) := by decide +kernel
theorem dX8_scanNumber_65 : decode cX8_scanNumber 65 = .ok (.goto (-60), 3) := by decide +kernel
theorem dX8_scanNumber_68 : decode cX8_scanNumber 68 = .ok (.aload_n 0, 1) := by decide +kernel
theorem dX8_scanNumber_69 : decode cX8_scanNumber 69 = .ok (.aload_n 0, 1) := by decide +kernel
theorem dX8_scanNumber_70 : decode cX8_scanNumber 70 = .ok (.getfield 19, 3) := by decide +kernel
theorem dX8_scanNumber_73 : decode cX8_scanNumber 73 = .ok (.aload_n 0, 1) := by decide +kernel
theorem dX8_scanNumber_74 : decode cX8_scanNumber 74 = .ok (.getfield 25, 3) := by decide +kernel
theorem dX8_scanNumber_77 : decode cX8_scanNumber 77 = .ok (.isub, 1) := by decide +kernel
theorem dX8_scanNumber_78 : decode cX8_scanNumber 78 = .ok (.iconst 4, 1) := by decide +kernel
theorem dX8_scanNumber_79 : decode cX8_scanNumber 79 = .ok (.if_icmp .le 7, 3) := by decide +kernel
theorem dX8_scanNumber_82 : decode cX8_scanNumber 82 = .ok (.iconst 3, 1) := by decide +kernel
theorem dX8_scanNumber_83 : decode cX8_scanNumber 83 = .ok (.goto 4, 3) := by decide +kernel
theorem dX8_scanNumber_86 : decode cX8_scanNumber 86 = .ok (.iconst 2, 1) := by decide +kernel
theorem dX8_scanNumber_87 : decode cX8_scanNumber 87 = .ok (.putfield 28, 3) := by decide +kernel
theorem dX8_scanNumber_90 : decode cX8_scanNumber 90 = .ok (.return_, 1) := by decide +kernel
theorem dX8_isLetter_0 : decode cX8_isLetter 0 = .ok (.iload_n 0, 1) := by decide +kernel
theorem dX8_isLetter_1 : decode cX8_isLetter 1 = .ok (.bipush 97, 2) := by decide +kernel
theorem dX8_isLetter_3 : decode cX8_isLetter 3 = .ok (.if_icmp .lt 13, 3) := by decide +kernel
theorem dX8_isLetter_6 : decode cX8_isLetter 6 = .ok (.iload_n 0, 1) := by decide +kernel
theorem dX8_isLetter_7 : decode cX8_isLetter 7 = .ok (.bipush 122, 2) := by decide +kernel
theorem dX8_isLetter_9 : decode cX8_isLetter 9 = .ok (.if_icmp .gt 7, 3) := by decide +kernel
theorem dX8_isLetter_12 : decode cX8_isLetter 12 = .ok (.iconst 1, 1) := by decide +kernel
theorem dX8_isLetter_13 : decode cX8_isLetter 13 = .ok (.goto 4, 3) := by decide +kernel
theorem dX8_isLetter_16 : decode cX8_isLetter 16 = .ok (.iconst 0, 1) := by decide +kernel
theorem dX8_isLetter_17 : decode cX8_isLetter 17 = .ok (.ireturn, 1) := by decide +kernel
theorem dX8_isFigure_0 : decode cX8_isFigure 0 = .ok (.iload_n 0, 1) := by decide +kernel
theorem dX8_isFigure_1 : decode cX8_isFigure 1 = .ok (.bipush 48, 2) := by decide +kernel
theorem dX8_isFigure_3 : decode cX8_isFigure 3 = .ok (.if_icmp .lt 13, 3) := by decide +kernel
theorem dX8_isFigure_6 : decode cX8_isFigure 6 = .ok (.iload_n 0, 1) := by decide +kernel
theorem dX8_isFigure_7 : decode cX8_isFigure 7 = .ok (.bipush 57, 2) := by decide +kernel
theorem dX8_isFigure_9 : decode cX8_isFigure 9 = .ok (.if_icmp .gt 7, 3) := by decide +kernel
theorem dX8_isFigure_12 : decode cX8_isFigure 12 = .ok (.iconst 1, 1) := by decide +kernel
theorem dX8_isFigure_13 : decode cX8_isFigure 13 = .ok (.goto 4, 3) := by decide +kernel
theorem dX8_isFigure_16 : decode cX8_isFigure 16 = .ok (.iconst 0, 1) := by decide +kernel
theorem dX8_isFigure_17 : decode cX8_isFigure 17 = .ok (.ireturn, 1) := by decide +kernel
theorem dX8_isSign_0 : decode cX8_isSign 0 = .ok (.ldc 68, 2) := by decide +kernel
theorem dX8_isSign_2 : decode cX8_isSign 2 = .ok (.iload_n 0, 1) := by decide +kernel
theorem dX8_isSign_3 : decode cX8_isSign 3 = .ok (.invokevirtual 70, 3) := by decide +kernel
theorem dX8_isSign_6 : decode cX8_isSign 6 = .ok (.ifCond .lt 7, 3) := by decide +kernel
theorem dX8_isSign_9 : decode cX8_isSign 9 = .ok (.iconst 1, 1) := by decide +kernel
theorem dX8_isSign_10 : decode cX8_isSign 10 = .ok (.goto 4, 3) := by decide +kernel
theorem dX8_isSign_13 : decode cX8_isSign 13 = .ok (.iconst 0, 1) := by decide +kernel
theorem dX8_isSign_14 : decode cX8_isSign 14 = .ok (.ireturn, 1) := by decide +kernel
theorem dX9_withLetter_0 : decode cX9_withLetter 0 = .ok (.lload_n 0, 1) := by decide +kernel
theorem dX9_withLetter_1 : decode cX9_withLetter 1 = .ok (.ldc2_w 125, 3) := by decide +kernel
theorem dX9_withLetter_4 : decode cX9_withLetter 4 = .ok (.lmul, 1) := by decide +kernel
theorem dX9_withLetter_5 : decode cX9_withLetter 5 = .ok (.iload_n 2, 1) := by decide +kernel
theorem dX9_withLetter_6 : decode cX9_withLetter 6 = .ok (.bipush 97, 2) := by decide +kernel
theorem dX9_withLetter_8 : decode cX9_withLetter 8 = .ok (.isub, 1) := by decide +kernel
theorem dX9_withLetter_9 : decode cX9_withLetter 9 = .ok (.iconst 1, 1) := by decide +kernel
theorem dX9_withLetter_10 : decode cX9_withLetter 10 = .ok (.iadd, 1) := by decide +kernel
theorem dX9_withLetter_11 : decode cX9_withLetter 11 = .ok (.i2l, 1) := by decide +kernel
theorem dX9_withLetter_12 : decode cX9_withLetter 12 = .ok (.ladd, 1) := by decide +kernel
theorem dX9_withLetter_13 : decode cX9_withLetter 13 = .ok (.lreturn, 1) := by decide +kernel
theorem dX9_of_0 : decode cX9_of 0 = .ok (.iconst 0, 1) := by decide +kernel
theorem dX9_of_1 : decode cX9_of 1 = .ok (.istore_n 2, 1) := by decide +kernel
theorem dX9_of_2 : decode cX9_of 2 = .ok (.iload_n 2, 1) := by decide +kernel
theorem dX9_of_3 : decode cX9_of 3 = .ok (.getstatic 127, 3) := by decide +kernel
theorem dX9_of_6 : decode cX9_of 6 = .ok (.arraylength, 1) := by decide +kernel
theorem dX9_of_7 : decode cX9_of 7 = .ok (.if_icmp .ge 28, 3) := by decide +kernel
theorem dX9_of_10 : decode cX9_of 10 = .ok (.getstatic 127, 3) := by decide +kernel
theorem dX9_of_13 : decode cX9_of 13 = .ok (.iload_n 2, 1) := by decide +kernel
theorem dX9_of_14 : decode cX9_of 14 = .ok (.aaload, 1) := by decide +kernel
theorem dX9_of_15 : decode cX9_of 15 = .ok (.getfield 121, 3) := by decide +kernel
theorem dX9_of_18 : decode cX9_of 18 = .ok (.lload_n 0, 1) := by decide +kernel
theorem dX9_of_19 : decode cX9_of 19 = .ok (.lcmp, 1) := by decide +kernel
theorem dX9_of_20 : decode cX9_of 20 = .ok (.ifCond .ne 9, 3) := by decide +kernel
theorem dX9_of_23 : decode cX9_of 23 = .ok (.getstatic 127, 3) := by decide +kernel
theorem dX9_of_26 : decode cX9_of 26 = .ok (.iload_n 2, 1) := by decide +kernel
theorem dX9_of_27 : decode cX9_of 27 = .ok (.aaload, 1) := by decide +kernel
theorem dX9_of_28 : decode cX9_of 28 = .ok (.areturn, 1) := by decide +kernel
theorem dX9_of_29 : decode cX9_of 29 = .ok (.iinc 2 1, 3) := by decide +kernel
theorem dX9_of_32 : decode cX9_of 32 = .ok (.goto (-30), 3) := by decide +kernel
theorem dX9_of_35 : decode cX9_of 35 = .ok (.aconst_null, 1) := by decide +kernel
theorem dX9_of_36 : decode cX9_of 36 = .ok (.areturn, 1) := by decide +kernel
theorem dX9_isFact_0 : decode cX9_isFact 0 = .ok (.aload_n 0, 1) := by decide +kernel
theorem dX9_isFact_1 : decode cX9_isFact 1 = .ok (.getstatic 76, 3) := by decide +kernel
theorem dX9_isFact_4 : decode cX9_isFact 4 = .ok (.if_acmp .eq 24, 3) := by decide +kernel
theorem dX9_isFact_7 : decode cX9_isFact 7 = .ok (.aload_n 0, 1) := by decide +kernel
theorem dX9_isFact_8 : decode cX9_isFact 8 = .ok (.getstatic 79, 3) := by decide +kernel
theorem dX9_isFact_11 : decode cX9_isFact 11 = .ok (.if_acmp .eq 17, 3) := by decide +kernel
theorem dX9_isFact_14 : decode cX9_isFact 14 = .ok (.aload_n 0, 1) := by decide +kernel
theorem dX9_isFact_15 : decode cX9_isFact 15 = .ok (.getstatic 82, 3) := by decide +kernel
theorem dX9_isFact_18 : decode cX9_isFact 18 = .ok (.if_acmp .eq 10, 3) := by decide +kernel
theorem dX9_isFact_21 : decode cX9_isFact 21 = .ok (.aload_n 0, 1) := by decide +kernel
theorem dX9_isFact_22 : decode cX9_isFact 22 = .ok (.getstatic 85, 3) := by decide +kernel
theorem dX9_isFact_25 : decode cX9_isFact 25 = .ok (.if_acmp .ne 7, 3) := by decide +kernel
theorem dX9_isFact_28 : decode cX9_isFact 28 = .ok (.iconst 1, 1) := by decide +kernel
theorem dX9_isFact_29 : decode cX9_isFact 29 = .ok (.goto 4, 3) := by decide +kernel
theorem dX9_isFact_32 : decode cX9_isFact 32 = .ok (.iconst 0, 1) := by decide +kernel
theorem dX9_isFact_33 : decode cX9_isFact 33 = .ok (.ireturn, 1) := by decide +kernel
theorem dX10_init_0 : decode cX10_init 0 = .ok (.aload_n 0, 1) := by decide +kernel
theorem dX10_init_1 : decode cX10_init 1 = .ok (.invokespecial 1, 3) := by decide +kernel
theorem dX10_init_4 : decode cX10_init 4 = .ok (.aload_n 0, 1) := by decide +kernel
theorem dX10_init_5 : decode cX10_init 5 = .ok (.new 7, 3) := by decide +kernel
theorem dX10_init_8 : decode cX10_init 8 = .ok (.dup, 1) := by decide +kernel
theorem dX10_init_9 : decode cX10_init 9 = .ok (.invokespecial 9, 3) := by decide +kernel
theorem dX10_init_12 : decode cX10_init 12 = .ok (.putfield 10, 3) := by decide +kernel
theorem dX10_init_15 : decode cX10_init 15 = .ok (.aload_n 0, 1) := by decide +kernel
theorem dX10_init_16 : decode cX10_init 16 = .ok (.new 16, 3) := by decide +kernel
theorem dX10_init_19 : decode cX10_init 19 = .ok (.dup, 1) := by decide +kernel
theorem dX10_init_20 : decode cX10_init 20 = .ok (.aload_n 0, 1) := by decide +kernel
theorem dX10_init_21 : decode cX10_init 21 = .ok (.getfield 10, 3) := by decide +kernel
theorem dX10_init_24 : decode cX10_init 24 = .ok (.invokespecial 18, 3) := by decide +kernel
theorem dX10_init_27 : decode cX10_init 27 = .ok (.putfield 21, 3) := by decide +kernel
theorem dX10_init_30 : decode cX10_init 30 = .ok (.aload_n 0, 1) := by decide +kernel
theorem dX10_init_31 : decode cX10_init 31 = .ok (.new 25, 3) := by decide +kernel
theorem dX10_init_34 : decode cX10_init 34 = .ok (.dup, 1) := by decide +kernel
theorem dX10_init_35 : decode cX10_init 35 = .ok (.invokespecial 27, 3) := by decide +kernel
theorem dX10_init_38 : decode cX10_init 38 = .ok (.putfield 28, 3) := by decide +kernel
theorem dX10_init_41 : decode cX10_init 41 = .ok (.aload_n 0, 1) := by decide +kernel
theorem dX10_init_42 : decode cX10_init 42 = .ok (.new 25, 3) := by decide +kernel
theorem dX10_init_45 : decode cX10_init 45 = .ok (.dup, 1) := by decide +kernel
theorem dX10_init_46 : decode cX10_init 46 = .ok (.invokespecial 27, 3) := by decide +kernel
theorem dX10_init_49 : decode cX10_init 49 = .ok (.putfield 32, 3) := by decide +kernel
theorem dX10_init_52 : decode cX10_init 52 = .ok (.aload_n 0, 1) := by decide +kernel
theorem dX10_init_53 : decode cX10_init 53 = .ok (.new 35, 3) := by decide +kernel
theorem dX10_init_56 : decode cX10_init 56 = .ok (.dup, 1) := by decide +kernel
theorem dX10_init_57 : decode cX10_init 57 = .ok (.invokespecial 37, 3) := by decide +kernel
theorem dX10_init_60 : decode cX10_init 60 = .ok (.putfield 38, 3) := by decide +kernel
theorem dX10_init_63 : decode cX10_init 63 = .ok (.aload_n 0, 1) := by decide +kernel
theorem dX10_init_64 : decode cX10_init 64 = .ok (.new 35, 3) := by decide +kernel
theorem dX10_init_67 : decode cX10_init 67 = .ok (.dup, 1) := by decide +kernel
theorem dX10_init_68 : decode cX10_init 68 = .ok (.invokespecial 37, 3) := by decide +kernel
theorem dX10_init_71 : decode cX10_init 71 = .ok (.putfield 42, 3) := by decide +kernel
theorem dX10_init_74 : decode cX10_init 74 = .ok (.aload_n 0, 1) := by decide +kernel
theorem dX10_init_75 : decode cX10_init 75 = .ok (.new 45, 3) := by decide +kernel
theorem dX10_init_78 : decode cX10_init 78 = .ok (.dup, 1) := by decide +kernel
theorem dX10_init_79 : decode cX10_init 79 = .ok (.invokespecial 47, 3) := by decide +kernel
theorem dX10_init_82 : decode cX10_init 82 = .ok (.putfield 48, 3) := by decide +kernel
theorem dX10_init_85 : decode cX10_init 85 = .ok (.aload_n 0, 1) := by decide +kernel
theorem dX10_init_86 : decode cX10_init 86 = .ok (.new 45, 3) := by decide +kernel
theorem dX10_init_89 : decode cX10_init 89 = .ok (.dup, 1) := by decide +kernel
theorem dX10_init_90 : decode cX10_init 90 = .ok (.invokespecial 47, 3) := by decide +kernel
theorem dX10_init_93 : decode cX10_init 93 = .ok (.putfield 52, 3) := by decide +kernel
theorem dX10_init_96 : decode cX10_init 96 = .ok (.aload_n 0, 1) := by decide +kernel
theorem dX10_init_97 : decode cX10_init 97 = .ok (.new 55, 3) := by decide +kernel
theorem dX10_init_100 : decode cX10_init 100 = .ok (.dup, 1) := by decide +kernel
theorem dX10_init_101 : decode cX10_init 101 = .ok (.invokespecial 57, 3) := by decide +kernel
theorem dX10_init_104 : decode cX10_init 104 = .ok (.putfield 58, 3) := by decide +kernel
theorem dX10_init_107 : decode cX10_init 107 = .ok (.aload_n 0, 1) := by decide +kernel
theorem dX10_init_108 : decode cX10_init 108 = .ok (.new 62, 3) := by decide +kernel
theorem dX10_init_111 : decode cX10_init 111 = .ok (.dup, 1) := by decide +kernel
theorem dX10_init_112 : decode cX10_init 112 = .ok (.invokespecial 64, 3) := by decide +kernel
theorem dX10_init_115 : decode cX10_init 115 = .ok (.putfield 65, 3) := by decide +kernel
theorem dX10_init_118 : decode cX10_init 118 = .ok (.aload_n 0, 1) := by decide +kernel
theorem dX10_init_119 : decode cX10_init 119 = .ok (.bipush 8, 2) := by decide +kernel
theorem dX10_init_121 : decode cX10_init 121 = .ok (.newarray .int, 2) := by decide +kernel
theorem dX10_init_123 : decode cX10_init 123 = .ok (.putfield 69, 3) := by decide +kernel
theorem dX10_init_126 : decode cX10_init 126 = .ok (.aload_n 0, 1) := by decide +kernel
theorem dX10_init_127 : decode cX10_init 127 = .ok (.bipush 8, 2) := by decide +kernel
theorem dX10_init_129 : decode cX10_init 129 = .ok (.newarray .int, 2) := by decide +kernel
theorem dX10_init_131 : decode cX10_init 131 = .ok (.putfield 73, 3) := by decide +kernel
theorem dX10_init_134 : decode cX10_init 134 = .ok (.aload_n 0, 1) := by decide +kernel
theorem dX10_init_135 : decode cX10_init 135 = .ok (.new 76, 3) := by decide +kernel
theorem dX10_init_138 : decode cX10_init 138 = .ok (.dup, 1) := by decide +kernel
theorem dX10_init_139 : decode cX10_init 139 = .ok (.invokespecial 78, 3) := by decide +kernel
theorem dX10_init_142 : decode cX10_init 142 = .ok (.putfield 79, 3) := by decide +kernel
theorem dX10_init_145 : decode cX10_init 145 = .ok (.aload_n 0, 1) := by decide +kernel
theorem dX10_init_146 : decode cX10_init 146 = .ok (.iconst 4, 1) := by decide +kernel
theorem dX10_init_147 : decode cX10_init 147 = .ok (.anewarray 76, 3) := by decide +kernel
theorem dX10_init_150 : decode cX10_init 150 = .ok (.putfield 83, 3) := by decide +kernel
theorem dX10_init_153 : decode cX10_init 153 = .ok (.aload_n 0, 1) := by decide +kernel
theorem dX10_init_154 : decode cX10_init 154 = .ok (.iconst 4, 1) := by decide +kernel
theorem dX10_init_155 : decode cX10_init 155 = .ok (.anewarray 76, 3) := by decide +kernel
theorem dX10_init_158 : decode cX10_init 158 = .ok (.putfield 87, 3) := by decide +kernel
theorem dX10_init_161 : decode cX10_init 161 = .ok (.iconst 0, 1) := by decide +kernel
theorem dX10_init_162 : decode cX10_init 162 = .ok (.istore_n 1, 1) := by decide +kernel
theorem dX10_init_163 : decode cX10_init 163 = .ok (.iload_n 1, 1) := by decide +kernel
theorem dX10_init_164 : decode cX10_init 164 = .ok (.bipush 8, 2) := by decide +kernel
theorem dX10_init_166 : decode cX10_init 166 = .ok (.if_icmp .ge 16, 3) := by decide +kernel
theorem dX10_init_169 : decode cX10_init 169 = .ok (.aload_n 0, 1) := by decide +kernel
theorem dX10_init_170 : decode cX10_init 170 = .ok (.getfield 73, 3) := by decide +kernel
theorem dX10_init_173 : decode cX10_init 173 = .ok (.iload_n 1, 1) := by decide +kernel
theorem dX10_init_174 : decode cX10_init 174 = .ok (.iconst 1, 1) := by decide +kernel
theorem dX10_init_175 : decode cX10_init 175 = .ok (.iastore, 1) := by decide +kernel
theorem dX10_init_176 : decode cX10_init 176 = .ok (.iinc 1 1, 3) := by decide +kernel
theorem dX10_init_179 : decode cX10_init 179 = .ok (.goto (-16), 3) := by decide +kernel
theorem dX10_init_182 : decode cX10_init 182 = .ok (.iconst 0, 1) := by decide +kernel
theorem dX10_init_183 : decode cX10_init 183 = .ok (.istore_n 1, 1) := by decide +kernel
theorem dX10_init_184 : decode cX10_init 184 = .ok (.iload_n 1, 1) := by decide +kernel
theorem dX10_init_185 : decode cX10_init 185 = .ok (.iconst 4, 1) := by decide +kernel
theorem dX10_init_186 : decode cX10_init 186 = .ok (.if_icmp .ge 35, 3) := by decide +kernel
theorem dX10_init_189 : decode cX10_init 189 = .ok (.aload_n 0, 1) := by decide +kernel
theorem dX10_init_190 : decode cX10_init 190 = .ok (.getfield 83, 3) := by decide +kernel
theorem dX10_init_193 : decode cX10_init 193 = .ok (.iload_n 1, 1) := by decide +kernel
theorem dX10_init_194 : decode cX10_init 194 = .ok (.new 76, 3) := by decide +kernel
theorem dX10_init_197 : decode cX10_init 197 = .ok (.dup, 1) := by decide +kernel
theorem dX10_init_198 : decode cX10_init 198 = .ok (.invokespecial 78, 3) := by decide +kernel
theorem dX10_init_201 : decode cX10_init 201 = .ok (.aastore, 1) := by decide +kernel
theorem dX10_init_202 : decode cX10_init 202 = .ok (.aload_n 0, 1) := by decide +kernel
theorem dX10_init_203 : decode cX10_init 203 = .ok (.getfield 87, 3) := by decide +kernel
theorem dX10_init_206 : decode cX10_init 206 = .ok (.iload_n 1, 1) := by decide +kernel
theorem dX10_init_207 : decode cX10_init 207 = .ok (.new 76, 3) := by decide +kernel
theorem dX10_init_210 : decode cX10_init 210 = .ok (.dup, 1) := by decide +kernel
theorem dX10_init_211 : decode cX10_init 211 = .ok (.invokespecial 78, 3) := by decide +kernel
theorem dX10_init_214 : decode cX10_init 214 = .ok (.aastore, 1) := by decide +kernel
theorem dX10_init_215 : decode cX10_init 215 = .ok (.iinc 1 1, 3) := by decide +kernel
theorem dX10_init_218 : decode cX10_init 218 = .ok (.goto (-34), 3) := by decide +kernel
theorem dX10_init_221 : decode cX10_init 221 = .ok (.return_, 1) := by decide +kernel
theorem dX10_feed_0 : decode cX10_feed 0 = .ok (.aload_n 0, 1) := by decide +kernel
theorem dX10_feed_1 : decode cX10_feed 1 = .ok (.getfield 10, 3) := by decide +kernel
theorem dX10_feed_4 : decode cX10_feed 4 = .ok (.lload_n 1, 1) := by decide +kernel
theorem dX10_feed_5 : decode cX10_feed 5 = .ok (.invokevirtual 90, 3) := by decide +kernel
theorem dX10_feed_8 : decode cX10_feed 8 = .ok (.aload_n 0, 1) := by decide +kernel
theorem dX10_feed_9 : decode cX10_feed 9 = .ok (.getfield 10, 3) := by decide +kernel
theorem dX10_feed_12 : decode cX10_feed 12 = .ok (.lload_n 3, 1) := by decide +kernel
theorem dX10_feed_13 : decode cX10_feed 13 = .ok (.invokevirtual 90, 3) := by decide +kernel
theorem dX10_feed_16 : decode cX10_feed 16 = .ok (.aload_n 0, 1) := by decide +kernel
theorem dX10_feed_17 : decode cX10_feed 17 = .ok (.getfield 10, 3) := by decide +kernel
theorem dX10_feed_20 : decode cX10_feed 20 = .ok (.lload 5, 2) := by decide +kernel
theorem dX10_feed_22 : decode cX10_feed 22 = .ok (.invokevirtual 90, 3) := by decide +kernel
theorem dX10_feed_25 : decode cX10_feed 25 = .ok (.aload_n 0, 1) := by decide +kernel
theorem dX10_feed_26 : decode cX10_feed 26 = .ok (.getfield 10, 3) := by decide +kernel
theorem dX10_feed_29 : decode cX10_feed 29 = .ok (.getfield 94, 3) := by decide +kernel
theorem dX10_feed_32 : decode cX10_feed 32 = .ok (.ireturn, 1) := by decide +kernel
theorem dX10_cave_0 : decode cX10_cave 0 = .ok (.aload_n 0, 1) := by decide +kernel
theorem dX10_cave_1 : decode cX10_cave 1 = .ok (.getfield 21, 3) := by decide +kernel
theorem dX10_cave_4 : decode cX10_cave 4 = .ok (.invokevirtual 98, 3) := by decide +kernel
theorem dX10_cave_7 : decode cX10_cave 7 = .ok (.aload_n 0, 1) := by decide +kernel
theorem dX10_cave_8 : decode cX10_cave 8 = .ok (.getfield 32, 3) := by decide +kernel
theorem dX10_cave_11 : decode cX10_cave 11 = .ok (.aload_n 0, 1) := by decide +kernel
theorem dX10_cave_12 : decode cX10_cave 12 = .ok (.getfield 21, 3) := by decide +kernel
theorem dX10_cave_15 : decode cX10_cave 15 = .ok (.invokevirtual 101, 3) := by decide +kernel
theorem dX10_cave_18 : decode cX10_cave 18 = .ok (.aload_n 0, 1) := by decide +kernel
theorem dX10_cave_19 : decode cX10_cave 19 = .ok (.getfield 10, 3) := by decide +kernel
theorem dX10_cave_22 : decode cX10_cave 22 = .ok (.iconst 0, 1) := by decide +kernel
theorem dX10_cave_23 : decode cX10_cave 23 = .ok (.putfield 94, 3) := by decide +kernel
theorem dX10_cave_26 : decode cX10_cave 26 = .ok (.aload_n 0, 1) := by decide +kernel
theorem dX10_cave_27 : decode cX10_cave 27 = .ok (.getfield 21, 3) := by decide +kernel
theorem dX10_cave_30 : decode cX10_cave 30 = .ok (.getfield 105, 3) := by decide +kernel
theorem dX10_cave_33 : decode cX10_cave 33 = .ok (.ifCond .eq 11, 3) := by decide +kernel
theorem dX10_cave_36 : decode cX10_cave 36 = .ok (.aload_n 0, 1) := by decide +kernel
theorem dX10_cave_37 : decode cX10_cave 37 = .ok (.getfield 21, 3) := by decide +kernel
theorem dX10_cave_40 : decode cX10_cave 40 = .ok (.getfield 105, 3) := by decide +kernel
theorem dX10_cave_43 : decode cX10_cave 43 = .ok (.ireturn, 1) := by decide +kernel
theorem dX10_cave_44 : decode cX10_cave 44 = .ok (.aload_n 0, 1) := by decide +kernel
theorem dX10_cave_45 : decode cX10_cave 45 = .ok (.getfield 28, 3) := by decide +kernel
theorem dX10_cave_48 : decode cX10_cave 48 = .ok (.astore_n 1, 1) := by decide +kernel
theorem dX10_cave_49 : decode cX10_cave 49 = .ok (.aload_n 0, 1) := by decide +kernel
theorem dX10_cave_50 : decode cX10_cave 50 = .ok (.aload_n 0, 1) := by decide +kernel
theorem dX10_cave_51 : decode cX10_cave 51 = .ok (.getfield 32, 3) := by decide +kernel
theorem dX10_cave_54 : decode cX10_cave 54 = .ok (.putfield 28, 3) := by decide +kernel
theorem dX10_cave_57 : decode cX10_cave 57 = .ok (.aload_n 0, 1) := by decide +kernel
theorem dX10_cave_58 : decode cX10_cave 58 = .ok (.aload_n 1, 1) := by decide +kernel
theorem dX10_cave_59 : decode cX10_cave 59 = .ok (.putfield 32, 3) := by decide +kernel
theorem dX10_cave_62 : decode cX10_cave 62 = .ok (.aload_n 0, 1) := by decide +kernel
theorem dX10_cave_63 : decode cX10_cave 63 = .ok (.getfield 48, 3) := by decide +kernel
theorem dX10_cave_66 : decode cX10_cave 66 = .ok (.aload_n 0, 1) := by decide +kernel
theorem dX10_cave_67 : decode cX10_cave 67 = .ok (.getfield 28, 3) := by decide +kernel
theorem dX10_cave_70 : decode cX10_cave 70 = .ok (.invokevirtual 108, 3) := by decide +kernel
theorem dX10_cave_73 : decode cX10_cave 73 = .ok (.aload_n 0, 1) := by decide +kernel
theorem dX10_cave_74 : decode cX10_cave 74 = .ok (.getfield 38, 3) := by decide +kernel
theorem dX10_cave_77 : decode cX10_cave 77 = .ok (.iconst 0, 1) := by decide +kernel
theorem dX10_cave_78 : decode cX10_cave 78 = .ok (.putfield 111, 3) := by decide +kernel
theorem dX10_cave_81 : decode cX10_cave 81 = .ok (.aload_n 0, 1) := by decide +kernel
theorem dX10_cave_82 : decode cX10_cave 82 = .ok (.getfield 65, 3) := by decide +kernel
theorem dX10_cave_85 : decode cX10_cave 85 = .ok (.iconst 0, 1) := by decide +kernel
theorem dX10_cave_86 : decode cX10_cave 86 = .ok (.putfield 114, 3) := by decide +kernel
theorem dX10_cave_89 : decode cX10_cave 89 = .ok (.aload_n 0, 1) := by decide +kernel
theorem dX10_cave_90 : decode cX10_cave 90 = .ok (.getfield 58, 3) := by decide +kernel
theorem dX10_cave_93 : decode cX10_cave 93 = .ok (.invokevirtual 115, 3) := by decide +kernel
theorem dX10_cave_96 : decode cX10_cave 96 = .ok (.iconst 0, 1) := by decide +kernel
theorem dX10_cave_97 : decode cX10_cave 97 = .ok (.ireturn, 1) := by decide +kernel
theorem dX10_dive_0 : decode cX10_dive 0 = .ok (.aload_n 0, 1) := by decide +kernel
theorem dX10_dive_1 : decode cX10_dive 1 = .ok (.getfield 21, 3) := by decide +kernel
theorem dX10_dive_4 : decode cX10_dive 4 = .ok (.invokevirtual 98, 3) := by decide +kernel
theorem dX10_dive_7 : decode cX10_dive 7 = .ok (.aload_n 0, 1) := by decide +kernel
theorem dX10_dive_8 : decode cX10_dive 8 = .ok (.getfield 42, 3) := by decide +kernel
theorem dX10_dive_11 : decode cX10_dive 11 = .ok (.aload_n 0, 1) := by decide +kernel
theorem dX10_dive_12 : decode cX10_dive 12 = .ok (.getfield 21, 3) := by decide +kernel
theorem dX10_dive_15 : decode cX10_dive 15 = .ok (.aload_n 0, 1) := by decide +kernel
theorem dX10_dive_16 : decode cX10_dive 16 = .ok (.getfield 28, 3) := by decide +kernel
theorem dX10_dive_19 : decode cX10_dive 19 = .ok (.invokevirtual 118, 3) := by decide +kernel
theorem dX10_dive_22 : decode cX10_dive 22 = .ok (.aload_n 0, 1) := by decide +kernel
theorem dX10_dive_23 : decode cX10_dive 23 = .ok (.getfield 10, 3) := by decide +kernel
theorem dX10_dive_26 : decode cX10_dive 26 = .ok (.iconst 0, 1) := by decide +kernel
theorem dX10_dive_27 : decode cX10_dive 27 = .ok (.putfield 94, 3) := by decide +kernel
theorem dX10_dive_30 : decode cX10_dive 30 = .ok (.aload_n 0, 1) := by decide +kernel
theorem dX10_dive_31 : decode cX10_dive 31 = .ok (.getfield 21, 3) := by decide +kernel
theorem dX10_dive_34 : decode cX10_dive 34 = .ok (.getfield 105, 3) := by decide +kernel
theorem dX10_dive_37 : decode cX10_dive 37 = .ok (.ifCond .eq 11, 3) := by decide +kernel
theorem dX10_dive_40 : decode cX10_dive 40 = .ok (.aload_n 0, 1) := by decide +kernel
theorem dX10_dive_41 : decode cX10_dive 41 = .ok (.getfield 21, 3) := by decide +kernel
theorem dX10_dive_44 : decode cX10_dive 44 = .ok (.getfield 105, 3) := by decide +kernel
theorem dX10_dive_47 : decode cX10_dive 47 = .ok (.ireturn, 1) := by decide +kernel
theorem dX10_dive_48 : decode cX10_dive 48 = .ok (.aload_n 0, 1) := by decide +kernel
theorem dX10_dive_49 : decode cX10_dive 49 = .ok (.getfield 38, 3) := by decide +kernel
theorem dX10_dive_52 : decode cX10_dive 52 = .ok (.astore_n 1, 1) := by decide +kernel
theorem dX10_dive_53 : decode cX10_dive 53 = .ok (.aload_n 0, 1) := by decide +kernel
theorem dX10_dive_54 : decode cX10_dive 54 = .ok (.aload_n 0, 1) := by decide +kernel
theorem dX10_dive_55 : decode cX10_dive 55 = .ok (.getfield 42, 3) := by decide +kernel
theorem dX10_dive_58 : decode cX10_dive 58 = .ok (.putfield 38, 3) := by decide +kernel
theorem dX10_dive_61 : decode cX10_dive 61 = .ok (.aload_n 0, 1) := by decide +kernel
theorem dX10_dive_62 : decode cX10_dive 62 = .ok (.aload_n 1, 1) := by decide +kernel
theorem dX10_dive_63 : decode cX10_dive 63 = .ok (.putfield 42, 3) := by decide +kernel
theorem dX10_dive_66 : decode cX10_dive 66 = .ok (.iconst 0, 1) := by decide +kernel
theorem dX10_dive_67 : decode cX10_dive 67 = .ok (.ireturn, 1) := by decide +kernel
theorem dX10_place_0 : decode cX10_place 0 = .ok (.aload_n 0, 1) := by decide +kernel
theorem dX10_place_1 : decode cX10_place 1 = .ok (.getfield 28, 3) := by decide +kernel
theorem dX10_place_4 : decode cX10_place 4 = .ok (.iload_n 1, 1) := by decide +kernel
theorem dX10_place_5 : decode cX10_place 5 = .ok (.invokevirtual 121, 3) := by decide +kernel
theorem dX10_place_8 : decode cX10_place 8 = .ok (.ifCond .ne 5, 3) := by decide +kernel
theorem dX10_place_11 : decode cX10_place 11 = .ok (.iconst (-1), 1) := by decide +kernel
theorem dX10_place_12 : decode cX10_place 12 = .ok (.ireturn, 1) := by decide +kernel
theorem dX10_place_13 : decode cX10_place 13 = .ok (.iload_n 2, 1) := by decide +kernel
theorem dX10_place_14 : decode cX10_place 14 = .ok (.tableswitch 59 0 2 #[26, 36, 46], 26) := by decide +kernel
theorem dX10_place_40 : decode cX10_place 40 = .ok (.aload_n 0, 1) := by decide +kernel
theorem dX10_place_41 : decode cX10_place 41 = .ok (.getfield 28, 3) := by decide +kernel
theorem dX10_place_44 : decode cX10_place 44 = .ok (.getfield 125, 3) := by decide +kernel
theorem dX10_place_47 : decode cX10_place 47 = .ok (.iload_n 1, 1) := by decide +kernel
theorem dX10_place_48 : decode cX10_place 48 = .ok (.iaload, 1) := by decide +kernel
theorem dX10_place_49 : decode cX10_place 49 = .ok (.ireturn, 1) := by decide +kernel
theorem dX10_place_50 : decode cX10_place 50 = .ok (.aload_n 0, 1) := by decide +kernel
theorem dX10_place_51 : decode cX10_place 51 = .ok (.getfield 48, 3) := by decide +kernel
theorem dX10_place_54 : decode cX10_place 54 = .ok (.getfield 128, 3) := by decide +kernel
theorem dX10_place_57 : decode cX10_place 57 = .ok (.iload_n 1, 1) := by decide +kernel
theorem dX10_place_58 : decode cX10_place 58 = .ok (.iaload, 1) := by decide +kernel
theorem dX10_place_59 : decode cX10_place 59 = .ok (.ireturn, 1) := by decide +kernel
theorem dX10_place_60 : decode cX10_place 60 = .ok (.aload_n 0, 1) := by decide +kernel
theorem dX10_place_61 : decode cX10_place 61 = .ok (.getfield 48, 3) := by decide +kernel
theorem dX10_place_64 : decode cX10_place 64 = .ok (.aload_n 0, 1) := by decide +kernel
theorem dX10_place_65 : decode cX10_place 65 = .ok (.getfield 28, 3) := by decide +kernel
theorem dX10_place_68 : decode cX10_place 68 = .ok (.iload_n 1, 1) := by decide +kernel
theorem dX10_place_69 : decode cX10_place 69 = .ok (.invokevirtual 131, 3) := by decide +kernel
theorem dX10_place_72 : decode cX10_place 72 = .ok (.ireturn, 1) := by decide +kernel
theorem dX10_place_73 : decode cX10_place 73 = .ok (.iconst (-1), 1) := by decide +kernel
theorem dX10_place_74 : decode cX10_place 74 = .ok (.ireturn, 1) := by decide +kernel
theorem dX10_way_0 : decode cX10_way 0 = .ok (.aload_n 0, 1) := by decide +kernel
theorem dX10_way_1 : decode cX10_way 1 = .ok (.getfield 28, 3) := by decide +kernel
theorem dX10_way_4 : decode cX10_way 4 = .ok (.iload_n 1, 1) := by decide +kernel
theorem dX10_way_5 : decode cX10_way 5 = .ok (.invokevirtual 135, 3) := by decide +kernel
theorem dX10_way_8 : decode cX10_way 8 = .ok (.ifCond .ne 5, 3) := by decide +kernel
theorem dX10_way_11 : decode cX10_way 11 = .ok (.iconst (-1), 1) := by decide +kernel
theorem dX10_way_12 : decode cX10_way 12 = .ok (.ireturn, 1) := by decide +kernel
theorem dX10_way_13 : decode cX10_way 13 = .ok (.iload_n 2, 1) := by decide +kernel
theorem dX10_way_14 : decode cX10_way 14 = .ok (.tableswitch 138 0 6 #[42, 52, 62, 72, 90, 100, 117], 42) := by decide +kernel
theorem dX10_way_56 : decode cX10_way 56 = .ok (.aload_n 0, 1) := by decide +kernel
theorem dX10_way_57 : decode cX10_way 57 = .ok (.getfield 28, 3) := by decide +kernel
theorem dX10_way_60 : decode cX10_way 60 = .ok (.getfield 138, 3) := by decide +kernel
theorem dX10_way_63 : decode cX10_way 63 = .ok (.iload_n 1, 1) := by decide +kernel
theorem dX10_way_64 : decode cX10_way 64 = .ok (.iaload, 1) := by decide +kernel
theorem dX10_way_65 : decode cX10_way 65 = .ok (.ireturn, 1) := by decide +kernel
theorem dX10_way_66 : decode cX10_way 66 = .ok (.aload_n 0, 1) := by decide +kernel
theorem dX10_way_67 : decode cX10_way 67 = .ok (.getfield 28, 3) := by decide +kernel
theorem dX10_way_70 : decode cX10_way 70 = .ok (.getfield 141, 3) := by decide +kernel
theorem dX10_way_73 : decode cX10_way 73 = .ok (.iload_n 1, 1) := by decide +kernel
theorem dX10_way_74 : decode cX10_way 74 = .ok (.iaload, 1) := by decide +kernel
theorem dX10_way_75 : decode cX10_way 75 = .ok (.ireturn, 1) := by decide +kernel
theorem dX10_way_76 : decode cX10_way 76 = .ok (.aload_n 0, 1) := by decide +kernel
theorem dX10_way_77 : decode cX10_way 77 = .ok (.getfield 28, 3) := by decide +kernel
theorem dX10_way_80 : decode cX10_way 80 = .ok (.getfield 144, 3) := by decide +kernel
theorem dX10_way_83 : decode cX10_way 83 = .ok (.iload_n 1, 1) := by decide +kernel
theorem dX10_way_84 : decode cX10_way 84 = .ok (.iaload, 1) := by decide +kernel
theorem dX10_way_85 : decode cX10_way 85 = .ok (.ireturn, 1) := by decide +kernel
theorem dX10_way_86 : decode cX10_way 86 = .ok (.aload_n 0, 1) := by decide +kernel
theorem dX10_way_87 : decode cX10_way 87 = .ok (.getfield 28, 3) := by decide +kernel
theorem dX10_way_90 : decode cX10_way 90 = .ok (.getfield 147, 3) := by decide +kernel
theorem dX10_way_93 : decode cX10_way 93 = .ok (.iload_n 1, 1) := by decide +kernel
theorem dX10_way_94 : decode cX10_way 94 = .ok (.baload, 1) := by decide +kernel
theorem dX10_way_95 : decode cX10_way 95 = .ok (.ifCond .eq 7, 3) := by decide +kernel
theorem dX10_way_98 : decode cX10_way 98 = .ok (.iconst 1, 1) := by decide +kernel
theorem dX10_way_99 : decode cX10_way 99 = .ok (.goto 4, 3) := by decide +kernel
theorem dX10_way_102 : decode cX10_way 102 = .ok (.iconst 0, 1) := by decide +kernel
theorem dX10_way_103 : decode cX10_way 103 = .ok (.ireturn, 1) := by decide +kernel
theorem dX10_way_104 : decode cX10_way 104 = .ok (.aload_n 0, 1) := by decide +kernel
theorem dX10_way_105 : decode cX10_way 105 = .ok (.getfield 48, 3) := by decide +kernel
theorem dX10_way_108 : decode cX10_way 108 = .ok (.getfield 151, 3) := by decide +kernel
theorem dX10_way_111 : decode cX10_way 111 = .ok (.iload_n 1, 1) := by decide +kernel
theorem dX10_way_112 : decode cX10_way 112 = .ok (.iaload, 1) := by decide +kernel
theorem dX10_way_113 : decode cX10_way 113 = .ok (.ireturn, 1) := by decide +kernel
theorem dX10_way_114 : decode cX10_way 114 = .ok (.aload_n 0, 1) := by decide +kernel
theorem dX10_way_115 : decode cX10_way 115 = .ok (.getfield 48, 3) := by decide +kernel
theorem dX10_way_118 : decode cX10_way 118 = .ok (.iload_n 1, 1) := by decide +kernel
theorem dX10_way_119 : decode cX10_way 119 = .ok (.invokevirtual 154, 3) := by decide +kernel
theorem dX10_way_122 : decode cX10_way 122 = .ok (.ifCond .eq 7, 3) := by decide +kernel
theorem dX10_way_125 : decode cX10_way 125 = .ok (.iconst 1, 1) := by decide +kernel
theorem dX10_way_126 : decode cX10_way 126 = .ok (.goto 4, 3) := by decide +kernel
theorem dX10_way_129 : decode cX10_way 129 = .ok (.iconst 0, 1) := by decide +kernel
theorem dX10_way_130 : decode cX10_way 130 = .ok (.ireturn, 1) := by decide +kernel
theorem dX10_way_131 : decode cX10_way 131 = .ok (.aload_n 0, 1) := by decide +kernel
theorem dX10_way_132 : decode cX10_way 132 = .ok (.getfield 48, 3) := by decide +kernel
theorem dX10_way_135 : decode cX10_way 135 = .ok (.aload_n 0, 1) := by decide +kernel
theorem dX10_way_136 : decode cX10_way 136 = .ok (.getfield 28, 3) := by decide +kernel
theorem dX10_way_139 : decode cX10_way 139 = .ok (.iload_n 1, 1) := by decide +kernel
theorem dX10_way_140 : decode cX10_way 140 = .ok (.invokevirtual 157, 3) := by decide +kernel
theorem dX10_way_143 : decode cX10_way 143 = .ok (.ifCond .eq 7, 3) := by decide +kernel
theorem dX10_way_146 : decode cX10_way 146 = .ok (.iconst 1, 1) := by decide +kernel
theorem dX10_way_147 : decode cX10_way 147 = .ok (.goto 4, 3) := by decide +kernel
theorem dX10_way_150 : decode cX10_way 150 = .ok (.iconst 0, 1) := by decide +kernel
theorem dX10_way_151 : decode cX10_way 151 = .ok (.ireturn, 1) := by decide +kernel
theorem dX10_way_152 : decode cX10_way 152 = .ok (.iconst (-1), 1) := by decide +kernel
theorem dX10_way_153 : decode cX10_way 153 = .ok (.ireturn, 1) := by decide +kernel
theorem dX10_diver_0 : decode cX10_diver 0 = .ok (.aload_n 0, 1) := by decide +kernel
theorem dX10_diver_1 : decode cX10_diver 1 = .ok (.getfield 28, 3) := by decide +kernel
theorem dX10_diver_4 : decode cX10_diver 4 = .ok (.iload_n 1, 1) := by decide +kernel
theorem dX10_diver_5 : decode cX10_diver 5 = .ok (.invokevirtual 161, 3) := by decide +kernel
theorem dX10_diver_8 : decode cX10_diver 8 = .ok (.ifCond .ne 6, 3) := by decide +kernel
theorem dX10_diver_11 : decode cX10_diver 11 = .ok (.bipush (-2), 2) := by decide +kernel
theorem dX10_diver_13 : decode cX10_diver 13 = .ok (.ireturn, 1) := by decide +kernel
theorem dX10_diver_14 : decode cX10_diver 14 = .ok (.iload_n 2, 1) := by decide +kernel
theorem dX10_diver_15 : decode cX10_diver 15 = .ok (.tableswitch 90 0 4 #[33, 43, 53, 63, 73], 33) := by decide +kernel
theorem dX10_diver_48 : decode cX10_diver 48 = .ok (.aload_n 0, 1) := by decide +kernel
theorem dX10_diver_49 : decode cX10_diver 49 = .ok (.getfield 28, 3) := by decide +kernel
theorem dX10_diver_52 : decode cX10_diver 52 = .ok (.getfield 164, 3) := by decide +kernel
theorem dX10_diver_55 : decode cX10_diver 55 = .ok (.iload_n 1, 1) := by decide +kernel
theorem dX10_diver_56 : decode cX10_diver 56 = .ok (.iaload, 1) := by decide +kernel
theorem dX10_diver_57 : decode cX10_diver 57 = .ok (.ireturn, 1) := by decide +kernel
theorem dX10_diver_58 : decode cX10_diver 58 = .ok (.aload_n 0, 1) := by decide +kernel
theorem dX10_diver_59 : decode cX10_diver 59 = .ok (.getfield 48, 3) := by decide +kernel
theorem dX10_diver_62 : decode cX10_diver 62 = .ok (.getfield 167, 3) := by decide +kernel
theorem dX10_diver_65 : decode cX10_diver 65 = .ok (.iload_n 1, 1) := by decide +kernel
theorem dX10_diver_66 : decode cX10_diver 66 = .ok (.iaload, 1) := by decide +kernel
theorem dX10_diver_67 : decode cX10_diver 67 = .ok (.ireturn, 1) := by decide +kernel
theorem dX10_diver_68 : decode cX10_diver 68 = .ok (.aload_n 0, 1) := by decide +kernel
theorem dX10_diver_69 : decode cX10_diver 69 = .ok (.getfield 48, 3) := by decide +kernel
theorem dX10_diver_72 : decode cX10_diver 72 = .ok (.getfield 170, 3) := by decide +kernel
theorem dX10_diver_75 : decode cX10_diver 75 = .ok (.iload_n 1, 1) := by decide +kernel
theorem dX10_diver_76 : decode cX10_diver 76 = .ok (.iaload, 1) := by decide +kernel
theorem dX10_diver_77 : decode cX10_diver 77 = .ok (.ireturn, 1) := by decide +kernel
theorem dX10_diver_78 : decode cX10_diver 78 = .ok (.aload_n 0, 1) := by decide +kernel
theorem dX10_diver_79 : decode cX10_diver 79 = .ok (.getfield 48, 3) := by decide +kernel
theorem dX10_diver_82 : decode cX10_diver 82 = .ok (.getfield 173, 3) := by decide +kernel
theorem dX10_diver_85 : decode cX10_diver 85 = .ok (.iload_n 1, 1) := by decide +kernel
theorem dX10_diver_86 : decode cX10_diver 86 = .ok (.iaload, 1) := by decide +kernel
theorem dX10_diver_87 : decode cX10_diver 87 = .ok (.ireturn, 1) := by decide +kernel
theorem dX10_diver_88 : decode cX10_diver 88 = .ok (.aload_n 0, 1) := by decide +kernel
theorem dX10_diver_89 : decode cX10_diver 89 = .ok (.getfield 48, 3) := by decide +kernel
theorem dX10_diver_92 : decode cX10_diver 92 = .ok (.iload_n 1, 1) := by decide +kernel
theorem dX10_diver_93 : decode cX10_diver 93 = .ok (.invokevirtual 176, 3) := by decide +kernel
theorem dX10_diver_96 : decode cX10_diver 96 = .ok (.ifCond .eq 7, 3) := by decide +kernel
theorem dX10_diver_99 : decode cX10_diver 99 = .ok (.iconst 1, 1) := by decide +kernel
theorem dX10_diver_100 : decode cX10_diver 100 = .ok (.goto 4, 3) := by decide +kernel
theorem dX10_diver_103 : decode cX10_diver 103 = .ok (.iconst 0, 1) := by decide +kernel
theorem dX10_diver_104 : decode cX10_diver 104 = .ok (.ireturn, 1) := by decide +kernel
theorem dX10_diver_105 : decode cX10_diver 105 = .ok (.bipush (-2), 2) := by decide +kernel
theorem dX10_diver_107 : decode cX10_diver 107 = .ok (.ireturn, 1) := by decide +kernel
theorem dX10_cost_0 : decode cX10_cost 0 = .ok (.aload_n 0, 1) := by decide +kernel
theorem dX10_cost_1 : decode cX10_cost 1 = .ok (.getfield 28, 3) := by decide +kernel
theorem dX10_cost_4 : decode cX10_cost 4 = .ok (.iload_n 1, 1) := by decide +kernel
theorem dX10_cost_5 : decode cX10_cost 5 = .ok (.invokevirtual 161, 3) := by decide +kernel
theorem dX10_cost_8 : decode cX10_cost 8 = .ok (.ifCond .eq 14, 3) := by decide +kernel
theorem dX10_cost_11 : decode cX10_cost 11 = .ok (.aload_n 0, 1) := by decide +kernel
theorem dX10_cost_12 : decode cX10_cost 12 = .ok (.getfield 28, 3) := by decide +kernel
theorem dX10_cost_15 : decode cX10_cost 15 = .ok (.iload_n 2, 1) := by decide +kernel
theorem dX10_cost_16 : decode cX10_cost 16 = .ok (.invokevirtual 135, 3) := by decide +kernel
theorem dX10_cost_19 : decode cX10_cost 19 = .ok (.ifCond .ne 5, 3) := by decide +kernel
theorem dX10_cost_22 : decode cX10_cost 22 = .ok (.iconst (-1), 1) := by decide +kernel
theorem dX10_cost_23 : decode cX10_cost 23 = .ok (.ireturn, 1) := by decide +kernel
theorem dX10_cost_24 : decode cX10_cost 24 = .ok (.aload_n 0, 1) := by decide +kernel
theorem dX10_cost_25 : decode cX10_cost 25 = .ok (.getfield 48, 3) := by decide +kernel
theorem dX10_cost_28 : decode cX10_cost 28 = .ok (.aload_n 0, 1) := by decide +kernel
theorem dX10_cost_29 : decode cX10_cost 29 = .ok (.getfield 28, 3) := by decide +kernel
theorem dX10_cost_32 : decode cX10_cost 32 = .ok (.iload_n 1, 1) := by decide +kernel
theorem dX10_cost_33 : decode cX10_cost 33 = .ok (.iload_n 2, 1) := by decide +kernel
theorem dX10_cost_34 : decode cX10_cost 34 = .ok (.aload_n 0, 1) := by decide +kernel
theorem dX10_cost_35 : decode cX10_cost 35 = .ok (.getfield 48, 3) := by decide +kernel
theorem dX10_cost_38 : decode cX10_cost 38 = .ok (.getfield 173, 3) := by decide +kernel
theorem dX10_cost_41 : decode cX10_cost 41 = .ok (.iload_n 1, 1) := by decide +kernel
theorem dX10_cost_42 : decode cX10_cost 42 = .ok (.iaload, 1) := by decide +kernel
theorem dX10_cost_43 : decode cX10_cost 43 = .ok (.invokevirtual 179, 3) := by decide +kernel
theorem dX10_cost_46 : decode cX10_cost 46 = .ok (.ireturn, 1) := by decide +kernel
theorem dX10_swim_0 : decode cX10_swim 0 = .ok (.aload_n 0, 1) := by decide +kernel
theorem dX10_swim_1 : decode cX10_swim 1 = .ok (.getfield 58, 3) := by decide +kernel
theorem dX10_swim_4 : decode cX10_swim 4 = .ok (.aload_n 0, 1) := by decide +kernel
theorem dX10_swim_5 : decode cX10_swim 5 = .ok (.getfield 48, 3) := by decide +kernel
theorem dX10_swim_8 : decode cX10_swim 8 = .ok (.invokevirtual 183, 3) := by decide +kernel
theorem dX10_swim_11 : decode cX10_swim 11 = .ok (.aload_n 0, 1) := by decide +kernel
theorem dX10_swim_12 : decode cX10_swim 12 = .ok (.getfield 48, 3) := by decide +kernel
theorem dX10_swim_15 : decode cX10_swim 15 = .ok (.aload_n 0, 1) := by decide +kernel
theorem dX10_swim_16 : decode cX10_swim 16 = .ok (.getfield 28, 3) := by decide +kernel
theorem dX10_swim_19 : decode cX10_swim 19 = .ok (.iload_n 1, 1) := by decide +kernel
theorem dX10_swim_20 : decode cX10_swim 20 = .ok (.iload_n 2, 1) := by decide +kernel
theorem dX10_swim_21 : decode cX10_swim 21 = .ok (.invokevirtual 187, 3) := by decide +kernel
theorem dX10_swim_24 : decode cX10_swim 24 = .ok (.ifCond .ne 5, 3) := by decide +kernel
theorem dX10_swim_27 : decode cX10_swim 27 = .ok (.iconst (-1), 1) := by decide +kernel
theorem dX10_swim_28 : decode cX10_swim 28 = .ok (.ireturn, 1) := by decide +kernel
theorem dX10_swim_29 : decode cX10_swim 29 = .ok (.aload_n 0, 1) := by decide +kernel
theorem dX10_swim_30 : decode cX10_swim 30 = .ok (.getfield 58, 3) := by decide +kernel
theorem dX10_swim_33 : decode cX10_swim 33 = .ok (.invokevirtual 191, 3) := by decide +kernel
theorem dX10_swim_36 : decode cX10_swim 36 = .ok (.aload_n 0, 1) := by decide +kernel
theorem dX10_swim_37 : decode cX10_swim 37 = .ok (.getfield 48, 3) := by decide +kernel
theorem dX10_swim_40 : decode cX10_swim 40 = .ok (.getfield 167, 3) := by decide +kernel
theorem dX10_swim_43 : decode cX10_swim 43 = .ok (.iload_n 1, 1) := by decide +kernel
theorem dX10_swim_44 : decode cX10_swim 44 = .ok (.iaload, 1) := by decide +kernel
theorem dX10_swim_45 : decode cX10_swim 45 = .ok (.ireturn, 1) := by decide +kernel
theorem dX10_lay_0 : decode cX10_lay 0 = .ok (.aload_n 0, 1) := by decide +kernel
theorem dX10_lay_1 : decode cX10_lay 1 = .ok (.getfield 58, 3) := by decide +kernel
theorem dX10_lay_4 : decode cX10_lay 4 = .ok (.aload_n 0, 1) := by decide +kernel
theorem dX10_lay_5 : decode cX10_lay 5 = .ok (.getfield 48, 3) := by decide +kernel
theorem dX10_lay_8 : decode cX10_lay 8 = .ok (.invokevirtual 183, 3) := by decide +kernel
theorem dX10_lay_11 : decode cX10_lay 11 = .ok (.aload_n 0, 1) := by decide +kernel
theorem dX10_lay_12 : decode cX10_lay 12 = .ok (.getfield 48, 3) := by decide +kernel
theorem dX10_lay_15 : decode cX10_lay 15 = .ok (.aload_n 0, 1) := by decide +kernel
theorem dX10_lay_16 : decode cX10_lay 16 = .ok (.getfield 28, 3) := by decide +kernel
theorem dX10_lay_19 : decode cX10_lay 19 = .ok (.iload_n 1, 1) := by decide +kernel
theorem dX10_lay_20 : decode cX10_lay 20 = .ok (.iload_n 2, 1) := by decide +kernel
theorem dX10_lay_21 : decode cX10_lay 21 = .ok (.invokevirtual 194, 3) := by decide +kernel
theorem dX10_lay_24 : decode cX10_lay 24 = .ok (.ifCond .ne 5, 3) := by decide +kernel
theorem dX10_lay_27 : decode cX10_lay 27 = .ok (.iconst (-1), 1) := by decide +kernel
theorem dX10_lay_28 : decode cX10_lay 28 = .ok (.ireturn, 1) := by decide +kernel
theorem dX10_lay_29 : decode cX10_lay 29 = .ok (.aload_n 0, 1) := by decide +kernel
theorem dX10_lay_30 : decode cX10_lay 30 = .ok (.getfield 58, 3) := by decide +kernel
theorem dX10_lay_33 : decode cX10_lay 33 = .ok (.invokevirtual 191, 3) := by decide +kernel
theorem dX10_lay_36 : decode cX10_lay 36 = .ok (.aload_n 0, 1) := by decide +kernel
theorem dX10_lay_37 : decode cX10_lay 37 = .ok (.getfield 48, 3) := by decide +kernel
theorem dX10_lay_40 : decode cX10_lay 40 = .ok (.getfield 167, 3) := by decide +kernel
theorem dX10_lay_43 : decode cX10_lay 43 = .ok (.iload_n 1, 1) := by decide +kernel
theorem dX10_lay_44 : decode cX10_lay 44 = .ok (.iaload, 1) := by decide +kernel
theorem dX10_lay_45 : decode cX10_lay 45 = .ok (.ireturn, 1) := by decide +kernel
theorem dX10_stage_0 : decode cX10_stage 0 = .ok (.aload_n 0, 1) := by decide +kernel
theorem dX10_stage_1 : decode cX10_stage 1 = .ok (.getfield 58, 3) := by decide +kernel
theorem dX10_stage_4 : decode cX10_stage 4 = .ok (.aload_n 0, 1) := by decide +kernel
theorem dX10_stage_5 : decode cX10_stage 5 = .ok (.getfield 48, 3) := by decide +kernel
theorem dX10_stage_8 : decode cX10_stage 8 = .ok (.invokevirtual 183, 3) := by decide +kernel
theorem dX10_stage_11 : decode cX10_stage 11 = .ok (.aload_n 0, 1) := by decide +kernel
theorem dX10_stage_12 : decode cX10_stage 12 = .ok (.getfield 48, 3) := by decide +kernel
theorem dX10_stage_15 : decode cX10_stage 15 = .ok (.aload_n 0, 1) := by decide +kernel
theorem dX10_stage_16 : decode cX10_stage 16 = .ok (.getfield 28, 3) := by decide +kernel
theorem dX10_stage_19 : decode cX10_stage 19 = .ok (.iload_n 1, 1) := by decide +kernel
theorem dX10_stage_20 : decode cX10_stage 20 = .ok (.iload_n 2, 1) := by decide +kernel
theorem dX10_stage_21 : decode cX10_stage 21 = .ok (.invokevirtual 197, 3) := by decide +kernel
theorem dX10_stage_24 : decode cX10_stage 24 = .ok (.ifCond .ne 5, 3) := by decide +kernel
theorem dX10_stage_27 : decode cX10_stage 27 = .ok (.iconst (-1), 1) := by decide +kernel
theorem dX10_stage_28 : decode cX10_stage 28 = .ok (.ireturn, 1) := by decide +kernel
theorem dX10_stage_29 : decode cX10_stage 29 = .ok (.aload_n 0, 1) := by decide +kernel
theorem dX10_stage_30 : decode cX10_stage 30 = .ok (.getfield 58, 3) := by decide +kernel
theorem dX10_stage_33 : decode cX10_stage 33 = .ok (.invokevirtual 191, 3) := by decide +kernel
theorem dX10_stage_36 : decode cX10_stage 36 = .ok (.aload_n 0, 1) := by decide +kernel
theorem dX10_stage_37 : decode cX10_stage 37 = .ok (.getfield 48, 3) := by decide +kernel
theorem dX10_stage_40 : decode cX10_stage 40 = .ok (.getfield 128, 3) := by decide +kernel
theorem dX10_stage_43 : decode cX10_stage 43 = .ok (.aload_n 0, 1) := by decide +kernel
theorem dX10_stage_44 : decode cX10_stage 44 = .ok (.getfield 48, 3) := by decide +kernel
theorem dX10_stage_47 : decode cX10_stage 47 = .ok (.getfield 167, 3) := by decide +kernel
theorem dX10_stage_50 : decode cX10_stage 50 = .ok (.iload_n 1, 1) := by decide +kernel
theorem dX10_stage_51 : decode cX10_stage 51 = .ok (.iaload, 1) := by decide +kernel
theorem dX10_stage_52 : decode cX10_stage 52 = .ok (.iaload, 1) := by decide +kernel
theorem dX10_stage_53 : decode cX10_stage 53 = .ok (.ireturn, 1) := by decide +kernel
theorem dX10_take_0 : decode cX10_take 0 = .ok (.aload_n 0, 1) := by decide +kernel
theorem dX10_take_1 : decode cX10_take 1 = .ok (.getfield 58, 3) := by decide +kernel
theorem dX10_take_4 : decode cX10_take 4 = .ok (.aload_n 0, 1) := by decide +kernel
theorem dX10_take_5 : decode cX10_take 5 = .ok (.getfield 48, 3) := by decide +kernel
theorem dX10_take_8 : decode cX10_take 8 = .ok (.invokevirtual 183, 3) := by decide +kernel
theorem dX10_take_11 : decode cX10_take 11 = .ok (.aload_n 0, 1) := by decide +kernel
theorem dX10_take_12 : decode cX10_take 12 = .ok (.getfield 48, 3) := by decide +kernel
theorem dX10_take_15 : decode cX10_take 15 = .ok (.aload_n 0, 1) := by decide +kernel
theorem dX10_take_16 : decode cX10_take 16 = .ok (.getfield 28, 3) := by decide +kernel
theorem dX10_take_19 : decode cX10_take 19 = .ok (.iload_n 1, 1) := by decide +kernel
theorem dX10_take_20 : decode cX10_take 20 = .ok (.iload_n 2, 1) := by decide +kernel
theorem dX10_take_21 : decode cX10_take 21 = .ok (.invokevirtual 200, 3) := by decide +kernel
theorem dX10_take_24 : decode cX10_take 24 = .ok (.ifCond .ne 5, 3) := by decide +kernel
theorem dX10_take_27 : decode cX10_take 27 = .ok (.iconst (-1), 1) := by decide +kernel
theorem dX10_take_28 : decode cX10_take 28 = .ok (.ireturn, 1) := by decide +kernel
theorem dX10_take_29 : decode cX10_take 29 = .ok (.aload_n 0, 1) := by decide +kernel
theorem dX10_take_30 : decode cX10_take 30 = .ok (.getfield 58, 3) := by decide +kernel
theorem dX10_take_33 : decode cX10_take 33 = .ok (.invokevirtual 191, 3) := by decide +kernel
theorem dX10_take_36 : decode cX10_take 36 = .ok (.aload_n 0, 1) := by decide +kernel
theorem dX10_take_37 : decode cX10_take 37 = .ok (.getfield 48, 3) := by decide +kernel
theorem dX10_take_40 : decode cX10_take 40 = .ok (.getfield 170, 3) := by decide +kernel
theorem dX10_take_43 : decode cX10_take 43 = .ok (.iload_n 1, 1) := by decide +kernel
theorem dX10_take_44 : decode cX10_take 44 = .ok (.iaload, 1) := by decide +kernel
theorem dX10_take_45 : decode cX10_take 45 = .ok (.ireturn, 1) := by decide +kernel
theorem dX10_share_0 : decode cX10_share 0 = .ok (.aload_n 0, 1) := by decide +kernel
theorem dX10_share_1 : decode cX10_share 1 = .ok (.getfield 58, 3) := by decide +kernel
theorem dX10_share_4 : decode cX10_share 4 = .ok (.aload_n 0, 1) := by decide +kernel
theorem dX10_share_5 : decode cX10_share 5 = .ok (.getfield 48, 3) := by decide +kernel
theorem dX10_share_8 : decode cX10_share 8 = .ok (.invokevirtual 183, 3) := by decide +kernel
theorem dX10_share_11 : decode cX10_share 11 = .ok (.aload_n 0, 1) := by decide +kernel
theorem dX10_share_12 : decode cX10_share 12 = .ok (.getfield 48, 3) := by decide +kernel
theorem dX10_share_15 : decode cX10_share 15 = .ok (.aload_n 0, 1) := by decide +kernel
theorem dX10_share_16 : decode cX10_share 16 = .ok (.getfield 28, 3) := by decide +kernel
theorem dX10_share_19 : decode cX10_share 19 = .ok (.iload_n 1, 1) := by decide +kernel
theorem dX10_share_20 : decode cX10_share 20 = .ok (.iload_n 2, 1) := by decide +kernel
theorem dX10_share_21 : decode cX10_share 21 = .ok (.iload_n 3, 1) := by decide +kernel
theorem dX10_share_22 : decode cX10_share 22 = .ok (.invokevirtual 203, 3) := by decide +kernel
theorem dX10_share_25 : decode cX10_share 25 = .ok (.istore 4, 2) := by decide +kernel
theorem dX10_share_27 : decode cX10_share 27 = .ok (.iload 4, 2) := by decide +kernel
theorem dX10_share_29 : decode cX10_share 29 = .ok (.ifCond .eq 10, 3) := by decide +kernel
theorem dX10_share_32 : decode cX10_share 32 = .ok (.aload_n 0, 1) := by decide +kernel
theorem dX10_share_33 : decode cX10_share 33 = .ok (.getfield 58, 3) := by decide +kernel
theorem dX10_share_36 : decode cX10_share 36 = .ok (.invokevirtual 191, 3) := by decide +kernel
theorem dX10_share_39 : decode cX10_share 39 = .ok (.iload 4, 2) := by decide +kernel
theorem dX10_share_41 : decode cX10_share 41 = .ok (.ireturn, 1) := by decide +kernel
theorem dX10_stone_0 : decode cX10_stone 0 = .ok (.aload_n 0, 1) := by decide +kernel
theorem dX10_stone_1 : decode cX10_stone 1 = .ok (.getfield 58, 3) := by decide +kernel
theorem dX10_stone_4 : decode cX10_stone 4 = .ok (.aload_n 0, 1) := by decide +kernel
theorem dX10_stone_5 : decode cX10_stone 5 = .ok (.getfield 48, 3) := by decide +kernel
theorem dX10_stone_8 : decode cX10_stone 8 = .ok (.invokevirtual 183, 3) := by decide +kernel
theorem dX10_stone_11 : decode cX10_stone 11 = .ok (.aload_n 0, 1) := by decide +kernel
theorem dX10_stone_12 : decode cX10_stone 12 = .ok (.getfield 48, 3) := by decide +kernel
theorem dX10_stone_15 : decode cX10_stone 15 = .ok (.aload_n 0, 1) := by decide +kernel
theorem dX10_stone_16 : decode cX10_stone 16 = .ok (.getfield 28, 3) := by decide +kernel
theorem dX10_stone_19 : decode cX10_stone 19 = .ok (.iload_n 1, 1) := by decide +kernel
theorem dX10_stone_20 : decode cX10_stone 20 = .ok (.invokevirtual 207, 3) := by decide +kernel
theorem dX10_stone_23 : decode cX10_stone 23 = .ok (.istore_n 2, 1) := by decide +kernel
theorem dX10_stone_24 : decode cX10_stone 24 = .ok (.iload_n 2, 1) := by decide +kernel
theorem dX10_stone_25 : decode cX10_stone 25 = .ok (.ifCond .eq 10, 3) := by decide +kernel
theorem dX10_stone_28 : decode cX10_stone 28 = .ok (.aload_n 0, 1) := by decide +kernel
theorem dX10_stone_29 : decode cX10_stone 29 = .ok (.getfield 58, 3) := by decide +kernel
theorem dX10_stone_32 : decode cX10_stone 32 = .ok (.invokevirtual 191, 3) := by decide +kernel
theorem dX10_stone_35 : decode cX10_stone 35 = .ok (.iload_n 2, 1) := by decide +kernel
theorem dX10_stone_36 : decode cX10_stone 36 = .ok (.ireturn, 1) := by decide +kernel
theorem dX10_hour_0 : decode cX10_hour 0 = .ok (.aload_n 0, 1) := by decide +kernel
theorem dX10_hour_1 : decode cX10_hour 1 = .ok (.getfield 58, 3) := by decide +kernel
theorem dX10_hour_4 : decode cX10_hour 4 = .ok (.aload_n 0, 1) := by decide +kernel
theorem dX10_hour_5 : decode cX10_hour 5 = .ok (.getfield 48, 3) := by decide +kernel
theorem dX10_hour_8 : decode cX10_hour 8 = .ok (.invokevirtual 183, 3) := by decide +kernel
theorem dX10_hour_11 : decode cX10_hour 11 = .ok (.aload_n 0, 1) := by decide +kernel
theorem dX10_hour_12 : decode cX10_hour 12 = .ok (.getfield 58, 3) := by decide +kernel
theorem dX10_hour_15 : decode cX10_hour 15 = .ok (.invokevirtual 191, 3) := by decide +kernel
theorem dX10_hour_18 : decode cX10_hour 18 = .ok (.aload_n 0, 1) := by decide +kernel
theorem dX10_hour_19 : decode cX10_hour 19 = .ok (.getfield 48, 3) := by decide +kernel
theorem dX10_hour_22 : decode cX10_hour 22 = .ok (.aload_n 0, 1) := by decide +kernel
theorem dX10_hour_23 : decode cX10_hour 23 = .ok (.getfield 28, 3) := by decide +kernel
theorem dX10_hour_26 : decode cX10_hour 26 = .ok (.invokevirtual 210, 3) := by decide +kernel
theorem dX10_hour_29 : decode cX10_hour 29 = .ok (.ireturn, 1) := by decide +kernel
theorem dX10_undo_0 : decode cX10_undo 0 = .ok (.aload_n 0, 1) := by decide +kernel
theorem dX10_undo_1 : decode cX10_undo 1 = .ok (.getfield 58, 3) := by decide +kernel
theorem dX10_undo_4 : decode cX10_undo 4 = .ok (.aload_n 0, 1) := by decide +kernel
theorem dX10_undo_5 : decode cX10_undo 5 = .ok (.getfield 48, 3) := by decide +kernel
theorem dX10_undo_8 : decode cX10_undo 8 = .ok (.invokevirtual 214, 3) := by decide +kernel
theorem dX10_undo_11 : decode cX10_undo 11 = .ok (.ireturn, 1) := by decide +kernel
theorem dX10_judged_0 : decode cX10_judged 0 = .ok (.iload_n 1, 1) := by decide +kernel
theorem dX10_judged_1 : decode cX10_judged 1 = .ok (.ifCond .lt 8, 3) := by decide +kernel
theorem dX10_judged_4 : decode cX10_judged 4 = .ok (.iload_n 1, 1) := by decide +kernel
theorem dX10_judged_5 : decode cX10_judged 5 = .ok (.iconst 2, 1) := by decide +kernel
theorem dX10_judged_6 : decode cX10_judged 6 = .ok (.if_icmp .le 6, 3) := by decide +kernel
theorem dX10_judged_9 : decode cX10_judged 9 = .ok (.bipush (-2), 2) := by decide +kernel
theorem dX10_judged_11 : decode cX10_judged 11 = .ok (.ireturn, 1) := by decide +kernel
theorem dX10_judged_12 : decode cX10_judged 12 = .ok (.aload_n 0, 1) := by decide +kernel
theorem dX10_judged_13 : decode cX10_judged 13 = .ok (.getfield 52, 3) := by decide +kernel
theorem dX10_judged_16 : decode cX10_judged 16 = .ok (.aload_n 0, 1) := by decide +kernel
theorem dX10_judged_17 : decode cX10_judged 17 = .ok (.getfield 28, 3) := by decide +kernel
theorem dX10_judged_20 : decode cX10_judged 20 = .ok (.invokevirtual 108, 3) := by decide +kernel
theorem dX10_judged_23 : decode cX10_judged 23 = .ok (.iconst (-1), 1) := by decide +kernel
theorem dX10_judged_24 : decode cX10_judged 24 = .ok (.istore_n 2, 1) := by decide +kernel
theorem dX10_judged_25 : decode cX10_judged 25 = .ok (.iconst (-1), 1) := by decide +kernel
theorem dX10_judged_26 : decode cX10_judged 26 = .ok (.istore_n 3, 1) := by decide +kernel
theorem dX10_judged_27 : decode cX10_judged 27 = .ok (.iconst 0, 1) := by decide +kernel
theorem dX10_judged_28 : decode cX10_judged 28 = .ok (.istore 4, 2) := by decide +kernel
theorem dX10_judged_30 : decode cX10_judged 30 = .ok (.iload 4, 2) := by decide +kernel
theorem dX10_judged_32 : decode cX10_judged 32 = .ok (.aload_n 0, 1) := by decide +kernel
theorem dX10_judged_33 : decode cX10_judged 33 = .ok (.getfield 38, 3) := by decide +kernel
theorem dX10_judged_36 : decode cX10_judged 36 = .ok (.getfield 111, 3) := by decide +kernel
theorem dX10_judged_39 : decode cX10_judged 39 = .ok (.if_icmp .ge 66, 3) := by decide +kernel
theorem dX10_judged_42 : decode cX10_judged 42 = .ok (.aload_n 0, 1) := by decide +kernel
theorem dX10_judged_43 : decode cX10_judged 43 = .ok (.getfield 52, 3) := by decide +kernel
theorem dX10_judged_46 : decode cX10_judged 46 = .ok (.getfield 218, 3) := by decide +kernel
theorem dX10_judged_49 : decode cX10_judged 49 = .ok (.istore 5, 2) := by decide +kernel
theorem dX10_judged_51 : decode cX10_judged 51 = .ok (.aload_n 0, 1) := by decide +kernel
theorem dX10_judged_52 : decode cX10_judged 52 = .ok (.getfield 52, 3) := by decide +kernel
theorem dX10_judged_55 : decode cX10_judged 55 = .ok (.aload_n 0, 1) := by decide +kernel
theorem dX10_judged_56 : decode cX10_judged 56 = .ok (.getfield 28, 3) := by decide +kernel
theorem dX10_judged_59 : decode cX10_judged 59 = .ok (.aload_n 0, 1) := by decide +kernel
theorem dX10_judged_60 : decode cX10_judged 60 = .ok (.getfield 38, 3) := by decide +kernel
theorem dX10_judged_63 : decode cX10_judged 63 = .ok (.iload 4, 2) := by decide +kernel
theorem dX10_judged_65 : decode cX10_judged 65 = .ok (.invokevirtual 221, 3) := by decide +kernel
theorem dX10_judged_68 : decode cX10_judged 68 = .ok (.ifCond .ne 11, 3) := by decide +kernel
theorem dX10_judged_71 : decode cX10_judged 71 = .ok (.iload_n 2, 1) := by decide +kernel
theorem dX10_judged_72 : decode cX10_judged 72 = .ok (.iconst (-1), 1) := by decide +kernel
theorem dX10_judged_73 : decode cX10_judged 73 = .ok (.if_icmp .ne 6, 3) := by decide +kernel
theorem dX10_judged_76 : decode cX10_judged 76 = .ok (.iload 4, 2) := by decide +kernel
theorem dX10_judged_78 : decode cX10_judged 78 = .ok (.istore_n 2, 1) := by decide +kernel
theorem dX10_judged_79 : decode cX10_judged 79 = .ok (.aload_n 0, 1) := by decide +kernel
theorem dX10_judged_80 : decode cX10_judged 80 = .ok (.getfield 52, 3) := by decide +kernel
theorem dX10_judged_83 : decode cX10_judged 83 = .ok (.getfield 218, 3) := by decide +kernel
theorem dX10_judged_86 : decode cX10_judged 86 = .ok (.iload 5, 2) := by decide +kernel
theorem dX10_judged_88 : decode cX10_judged 88 = .ok (.if_icmp .eq 11, 3) := by decide +kernel
theorem dX10_judged_91 : decode cX10_judged 91 = .ok (.iload_n 3, 1) := by decide +kernel
theorem dX10_judged_92 : decode cX10_judged 92 = .ok (.iconst (-1), 1) := by decide +kernel
theorem dX10_judged_93 : decode cX10_judged 93 = .ok (.if_icmp .ne 6, 3) := by decide +kernel
theorem dX10_judged_96 : decode cX10_judged 96 = .ok (.iload 4, 2) := by decide +kernel
theorem dX10_judged_98 : decode cX10_judged 98 = .ok (.istore_n 3, 1) := by decide +kernel
theorem dX10_judged_99 : decode cX10_judged 99 = .ok (.iinc 4 1, 3) := by decide +kernel
theorem dX10_judged_102 : decode cX10_judged 102 = .ok (.goto (-72), 3) := by decide +kernel
theorem dX10_judged_105 : decode cX10_judged 105 = .ok (.iload_n 1, 1) := by decide +kernel
theorem dX10_judged_106 : decode cX10_judged 106 = .ok (.ifCond .ne 7, 3) := by decide +kernel
theorem dX10_judged_109 : decode cX10_judged 109 = .ok (.iload_n 2, 1) := by decide +kernel
theorem dX10_judged_110 : decode cX10_judged 110 = .ok (.goto 22, 3) := by decide +kernel
theorem dX10_judged_113 : decode cX10_judged 113 = .ok (.iload_n 1, 1) := by decide +kernel
theorem dX10_judged_114 : decode cX10_judged 114 = .ok (.iconst 1, 1) := by decide +kernel
theorem dX10_judged_115 : decode cX10_judged 115 = .ok (.if_icmp .ne 7, 3) := by decide +kernel
theorem dX10_judged_118 : decode cX10_judged 118 = .ok (.iload_n 3, 1) := by decide +kernel
theorem dX10_judged_119 : decode cX10_judged 119 = .ok (.goto 13, 3) := by decide +kernel
theorem dX10_judged_122 : decode cX10_judged 122 = .ok (.aload_n 0, 1) := by decide +kernel
theorem dX10_judged_123 : decode cX10_judged 123 = .ok (.getfield 52, 3) := by decide +kernel
theorem dX10_judged_126 : decode cX10_judged 126 = .ok (.getfield 218, 3) := by decide +kernel
theorem dX10_judged_129 : decode cX10_judged 129 = .ok (.invokestatic 225, 3) := by decide +kernel
theorem dX10_judged_132 : decode cX10_judged 132 = .ok (.ireturn, 1) := by decide +kernel
theorem dX10_open_0 : decode cX10_open 0 = .ok (.aload_n 0, 1) := by decide +kernel
theorem dX10_open_1 : decode cX10_open 1 = .ok (.getfield 48, 3) := by decide +kernel
theorem dX10_open_4 : decode cX10_open 4 = .ok (.aload_n 0, 1) := by decide +kernel
theorem dX10_open_5 : decode cX10_open 5 = .ok (.getfield 28, 3) := by decide +kernel
theorem dX10_open_8 : decode cX10_open 8 = .ok (.invokevirtual 231, 3) := by decide +kernel
theorem dX10_open_11 : decode cX10_open 11 = .ok (.ireturn, 1) := by decide +kernel
theorem dX10_needs_0 : decode cX10_needs 0 = .ok (.aload_n 0, 1) := by decide +kernel
theorem dX10_needs_1 : decode cX10_needs 1 = .ok (.getfield 28, 3) := by decide +kernel
theorem dX10_needs_4 : decode cX10_needs 4 = .ok (.iload_n 1, 1) := by decide +kernel
theorem dX10_needs_5 : decode cX10_needs 5 = .ok (.invokevirtual 161, 3) := by decide +kernel
theorem dX10_needs_8 : decode cX10_needs 8 = .ok (.ifCond .eq 14, 3) := by decide +kernel
theorem dX10_needs_11 : decode cX10_needs 11 = .ok (.aload_n 0, 1) := by decide +kernel
theorem dX10_needs_12 : decode cX10_needs 12 = .ok (.getfield 28, 3) := by decide +kernel
theorem dX10_needs_15 : decode cX10_needs 15 = .ok (.iload_n 2, 1) := by decide +kernel
theorem dX10_needs_16 : decode cX10_needs 16 = .ok (.invokevirtual 121, 3) := by decide +kernel
theorem dX10_needs_19 : decode cX10_needs 19 = .ok (.ifCond .ne 5, 3) := by decide +kernel
theorem dX10_needs_22 : decode cX10_needs 22 = .ok (.iconst (-1), 1) := by decide +kernel
theorem dX10_needs_23 : decode cX10_needs 23 = .ok (.ireturn, 1) := by decide +kernel
theorem dX10_needs_24 : decode cX10_needs 24 = .ok (.aload_n 0, 1) := by decide +kernel
theorem dX10_needs_25 : decode cX10_needs 25 = .ok (.iload_n 1, 1) := by decide +kernel
theorem dX10_needs_26 : decode cX10_needs 26 = .ok (.invokevirtual 234, 3) := by decide +kernel
theorem dX10_needs_29 : decode cX10_needs 29 = .ok (.aload_n 0, 1) := by decide +kernel
theorem dX10_needs_30 : decode cX10_needs 30 = .ok (.getfield 83, 3) := by decide +kernel
theorem dX10_needs_33 : decode cX10_needs 33 = .ok (.iload_n 1, 1) := by decide +kernel
theorem dX10_needs_34 : decode cX10_needs 34 = .ok (.aaload, 1) := by decide +kernel
theorem dX10_needs_35 : decode cX10_needs 35 = .ok (.getfield 238, 3) := by decide +kernel
theorem dX10_needs_38 : decode cX10_needs 38 = .ok (.iload_n 2, 1) := by decide +kernel
theorem dX10_needs_39 : decode cX10_needs 39 = .ok (.iaload, 1) := by decide +kernel
theorem dX10_needs_40 : decode cX10_needs 40 = .ok (.ireturn, 1) := by decide +kernel
theorem dX10_out_0 : decode cX10_out 0 = .ok (.aload_n 0, 1) := by decide +kernel
theorem dX10_out_1 : decode cX10_out 1 = .ok (.iload_n 1, 1) := by decide +kernel
theorem dX10_out_2 : decode cX10_out 2 = .ok (.invokevirtual 241, 3) := by decide +kernel
theorem dX10_out_5 : decode cX10_out 5 = .ok (.ireturn, 1) := by decide +kernel
theorem dX10_thirds_0 : decode cX10_thirds 0 = .ok (.aload_n 0, 1) := by decide +kernel
theorem dX10_thirds_1 : decode cX10_thirds 1 = .ok (.iload_n 1, 1) := by decide +kernel
theorem dX10_thirds_2 : decode cX10_thirds 2 = .ok (.invokevirtual 241, 3) := by decide +kernel
theorem dX10_thirds_5 : decode cX10_thirds 5 = .ok (.istore_n 2, 1) := by decide +kernel
theorem dX10_thirds_6 : decode cX10_thirds 6 = .ok (.iload_n 2, 1) := by decide +kernel
theorem dX10_thirds_7 : decode cX10_thirds 7 = .ok (.iconst (-1), 1) := by decide +kernel
theorem dX10_thirds_8 : decode cX10_thirds 8 = .ok (.if_icmp .eq 33, 3) := by decide +kernel
theorem dX10_thirds_11 : decode cX10_thirds 11 = .ok (.aload_n 0, 1) := by decide +kernel
theorem dX10_thirds_12 : decode cX10_thirds 12 = .ok (.getfield 48, 3) := by decide +kernel
theorem dX10_thirds_15 : decode cX10_thirds 15 = .ok (.iload_n 1, 1) := by decide +kernel
theorem dX10_thirds_16 : decode cX10_thirds 16 = .ok (.invokevirtual 176, 3) := by decide +kernel
theorem dX10_thirds_19 : decode cX10_thirds 19 = .ok (.ifCond .ne 22, 3) := by decide +kernel
theorem dX10_thirds_22 : decode cX10_thirds 22 = .ok (.iconst 3, 1) := by decide +kernel
theorem dX10_thirds_23 : decode cX10_thirds 23 = .ok (.iload_n 2, 1) := by decide +kernel
theorem dX10_thirds_24 : decode cX10_thirds 24 = .ok (.imul, 1) := by decide +kernel
theorem dX10_thirds_25 : decode cX10_thirds 25 = .ok (.aload_n 0, 1) := by decide +kernel
theorem dX10_thirds_26 : decode cX10_thirds 26 = .ok (.getfield 48, 3) := by decide +kernel
theorem dX10_thirds_29 : decode cX10_thirds 29 = .ok (.getfield 170, 3) := by decide +kernel
theorem dX10_thirds_32 : decode cX10_thirds 32 = .ok (.iload_n 1, 1) := by decide +kernel
theorem dX10_thirds_33 : decode cX10_thirds 33 = .ok (.iaload, 1) := by decide +kernel
theorem dX10_thirds_34 : decode cX10_thirds 34 = .ok (.if_icmp .gt 7, 3) := by decide +kernel
theorem dX10_thirds_37 : decode cX10_thirds 37 = .ok (.iconst 1, 1) := by decide +kernel
theorem dX10_thirds_38 : decode cX10_thirds 38 = .ok (.goto 4, 3) := by decide +kernel
theorem dX10_thirds_41 : decode cX10_thirds 41 = .ok (.iconst 0, 1) := by decide +kernel
theorem dX10_thirds_42 : decode cX10_thirds 42 = .ok (.ireturn, 1) := by decide +kernel
theorem dX10_can_0 : decode cX10_can 0 = .ok (.iconst 0, 1) := by decide +kernel
theorem dX10_can_1 : decode cX10_can 1 = .ok (.istore_n 1, 1) := by decide +kernel
theorem dX10_can_2 : decode cX10_can 2 = .ok (.iconst 0, 1) := by decide +kernel
theorem dX10_can_3 : decode cX10_can 3 = .ok (.istore_n 2, 1) := by decide +kernel
theorem dX10_can_4 : decode cX10_can 4 = .ok (.iload_n 2, 1) := by decide +kernel
theorem dX10_can_5 : decode cX10_can 5 = .ok (.aload_n 0, 1) := by decide +kernel
theorem dX10_can_6 : decode cX10_can 6 = .ok (.getfield 28, 3) := by decide +kernel
theorem dX10_can_9 : decode cX10_can 9 = .ok (.getfield 244, 3) := by decide +kernel
theorem dX10_can_12 : decode cX10_can 12 = .ok (.if_icmp .ge 50, 3) := by decide +kernel
theorem dX10_can_15 : decode cX10_can 15 = .ok (.aload_n 0, 1) := by decide +kernel
theorem dX10_can_16 : decode cX10_can 16 = .ok (.iload_n 2, 1) := by decide +kernel
theorem dX10_can_17 : decode cX10_can 17 = .ok (.invokevirtual 241, 3) := by decide +kernel
theorem dX10_can_20 : decode cX10_can 20 = .ok (.istore_n 3, 1) := by decide +kernel
theorem dX10_can_21 : decode cX10_can 21 = .ok (.iload_n 3, 1) := by decide +kernel
theorem dX10_can_22 : decode cX10_can 22 = .ok (.iconst (-1), 1) := by decide +kernel
theorem dX10_can_23 : decode cX10_can 23 = .ok (.if_icmp .eq 33, 3) := by decide +kernel
theorem dX10_can_26 : decode cX10_can 26 = .ok (.aload_n 0, 1) := by decide +kernel
theorem dX10_can_27 : decode cX10_can 27 = .ok (.getfield 48, 3) := by decide +kernel
theorem dX10_can_30 : decode cX10_can 30 = .ok (.iload_n 2, 1) := by decide +kernel
theorem dX10_can_31 : decode cX10_can 31 = .ok (.invokevirtual 176, 3) := by decide +kernel
theorem dX10_can_34 : decode cX10_can 34 = .ok (.ifCond .ne 22, 3) := by decide +kernel
theorem dX10_can_37 : decode cX10_can 37 = .ok (.iload_n 3, 1) := by decide +kernel
theorem dX10_can_38 : decode cX10_can 38 = .ok (.aload_n 0, 1) := by decide +kernel
theorem dX10_can_39 : decode cX10_can 39 = .ok (.getfield 48, 3) := by decide +kernel
theorem dX10_can_42 : decode cX10_can 42 = .ok (.getfield 170, 3) := by decide +kernel
theorem dX10_can_45 : decode cX10_can 45 = .ok (.iload_n 2, 1) := by decide +kernel
theorem dX10_can_46 : decode cX10_can 46 = .ok (.iaload, 1) := by decide +kernel
theorem dX10_can_47 : decode cX10_can 47 = .ok (.if_icmp .gt 9, 3) := by decide +kernel
theorem dX10_can_50 : decode cX10_can 50 = .ok (.iload_n 1, 1) := by decide +kernel
theorem dX10_can_51 : decode cX10_can 51 = .ok (.iconst 1, 1) := by decide +kernel
theorem dX10_can_52 : decode cX10_can 52 = .ok (.iload_n 2, 1) := by decide +kernel
theorem dX10_can_53 : decode cX10_can 53 = .ok (.ishl, 1) := by decide +kernel
theorem dX10_can_54 : decode cX10_can 54 = .ok (.ior, 1) := by decide +kernel
theorem dX10_can_55 : decode cX10_can 55 = .ok (.istore_n 1, 1) := by decide +kernel
theorem dX10_can_56 : decode cX10_can 56 = .ok (.iinc 2 1, 3) := by decide +kernel
theorem dX10_can_59 : decode cX10_can 59 = .ok (.goto (-55), 3) := by decide +kernel
theorem dX10_can_62 : decode cX10_can 62 = .ok (.iload_n 1, 1) := by decide +kernel
theorem dX10_can_63 : decode cX10_can 63 = .ok (.ireturn, 1) := by decide +kernel
theorem dX10_reaches_0 : decode cX10_reaches 0 = .ok (.aload_n 0, 1) := by decide +kernel
theorem dX10_reaches_1 : decode cX10_reaches 1 = .ok (.getfield 28, 3) := by decide +kernel
theorem dX10_reaches_4 : decode cX10_reaches 4 = .ok (.iload_n 1, 1) := by decide +kernel
theorem dX10_reaches_5 : decode cX10_reaches 5 = .ok (.invokevirtual 161, 3) := by decide +kernel
theorem dX10_reaches_8 : decode cX10_reaches 8 = .ok (.ifCond .eq 11, 3) := by decide +kernel
theorem dX10_reaches_11 : decode cX10_reaches 11 = .ok (.aload_n 0, 1) := by decide +kernel
theorem dX10_reaches_12 : decode cX10_reaches 12 = .ok (.iload_n 1, 1) := by decide +kernel
theorem dX10_reaches_13 : decode cX10_reaches 13 = .ok (.invokevirtual 247, 3) := by decide +kernel
theorem dX10_reaches_16 : decode cX10_reaches 16 = .ok (.goto 4, 3) := by decide +kernel
theorem dX10_reaches_19 : decode cX10_reaches 19 = .ok (.iconst (-1), 1) := by decide +kernel
theorem dX10_reaches_20 : decode cX10_reaches 20 = .ok (.ireturn, 1) := by decide +kernel
theorem dX10_deepest_0 : decode cX10_deepest 0 = .ok (.aload_n 0, 1) := by decide +kernel
theorem dX10_deepest_1 : decode cX10_deepest 1 = .ok (.getfield 28, 3) := by decide +kernel
theorem dX10_deepest_4 : decode cX10_deepest 4 = .ok (.iload_n 1, 1) := by decide +kernel
theorem dX10_deepest_5 : decode cX10_deepest 5 = .ok (.invokevirtual 161, 3) := by decide +kernel
theorem dX10_deepest_8 : decode cX10_deepest 8 = .ok (.ifCond .ne 5, 3) := by decide +kernel
theorem dX10_deepest_11 : decode cX10_deepest 11 = .ok (.iconst (-1), 1) := by decide +kernel
theorem dX10_deepest_12 : decode cX10_deepest 12 = .ok (.ireturn, 1) := by decide +kernel
theorem dX10_deepest_13 : decode cX10_deepest 13 = .ok (.aload_n 0, 1) := by decide +kernel
theorem dX10_deepest_14 : decode cX10_deepest 14 = .ok (.iload_n 1, 1) := by decide +kernel
theorem dX10_deepest_15 : decode cX10_deepest 15 = .ok (.invokevirtual 247, 3) := by decide +kernel
theorem dX10_deepest_18 : decode cX10_deepest 18 = .ok (.istore_n 2, 1) := by decide +kernel
theorem dX10_deepest_19 : decode cX10_deepest 19 = .ok (.iconst (-1), 1) := by decide +kernel
theorem dX10_deepest_20 : decode cX10_deepest 20 = .ok (.istore_n 3, 1) := by decide +kernel
theorem dX10_deepest_21 : decode cX10_deepest 21 = .ok (.iconst 0, 1) := by decide +kernel
theorem dX10_deepest_22 : decode cX10_deepest 22 = .ok (.istore 4, 2) := by decide +kernel
theorem dX10_deepest_24 : decode cX10_deepest 24 = .ok (.iload 4, 2) := by decide +kernel
theorem dX10_deepest_26 : decode cX10_deepest 26 = .ok (.aload_n 0, 1) := by decide +kernel
theorem dX10_deepest_27 : decode cX10_deepest 27 = .ok (.getfield 28, 3) := by decide +kernel
theorem dX10_deepest_30 : decode cX10_deepest 30 = .ok (.getfield 250, 3) := by decide +kernel
theorem dX10_deepest_33 : decode cX10_deepest 33 = .ok (.if_icmp .ge 48, 3) := by decide +kernel
theorem dX10_deepest_36 : decode cX10_deepest 36 = .ok (.iload_n 2, 1) := by decide +kernel
theorem dX10_deepest_37 : decode cX10_deepest 37 = .ok (.iload 4, 2) := by decide +kernel
theorem dX10_deepest_39 : decode cX10_deepest 39 = .ok (.invokestatic 253, 3) := by decide +kernel
theorem dX10_deepest_42 : decode cX10_deepest 42 = .ok (.ifCond .eq 33, 3) := by decide +kernel
theorem dX10_deepest_45 : decode cX10_deepest 45 = .ok (.iload_n 3, 1) := by decide +kernel
theorem dX10_deepest_46 : decode cX10_deepest 46 = .ok (.iconst (-1), 1) := by decide +kernel
theorem dX10_deepest_47 : decode cX10_deepest 47 = .ok (.if_icmp .eq 25, 3) := by decide +kernel
theorem dX10_deepest_50 : decode cX10_deepest 50 = .ok (.aload_n 0, 1) := by decide +kernel
theorem dX10_deepest_51 : decode cX10_deepest 51 = .ok (.getfield 28, 3) := by decide +kernel
theorem dX10_deepest_54 : decode cX10_deepest 54 = .ok (.getfield 125, 3) := by decide +kernel
theorem dX10_deepest_57 : decode cX10_deepest 57 = .ok (.iload 4, 2) := by decide +kernel
theorem dX10_deepest_59 : decode cX10_deepest 59 = .ok (.iaload, 1) := by decide +kernel
theorem dX10_deepest_60 : decode cX10_deepest 60 = .ok (.aload_n 0, 1) := by decide +kernel
theorem dX10_deepest_61 : decode cX10_deepest 61 = .ok (.getfield 28, 3) := by decide +kernel
theorem dX10_deepest_64 : decode cX10_deepest 64 = .ok (.getfield 125, 3) := by decide +kernel
theorem dX10_deepest_67 : decode cX10_deepest 67 = .ok (.iload_n 3, 1) := by decide +kernel
theorem dX10_deepest_68 : decode cX10_deepest 68 = .ok (.iaload, 1) := by decide +kernel
theorem dX10_deepest_69 : decode cX10_deepest 69 = .ok (.if_icmp .le 6, 3) := by decide +kernel
theorem dX10_deepest_72 : decode cX10_deepest 72 = .ok (.iload 4, 2) := by decide +kernel
theorem dX10_deepest_74 : decode cX10_deepest 74 = .ok (.istore_n 3, 1) := by decide +kernel
theorem dX10_deepest_75 : decode cX10_deepest 75 = .ok (.iinc 4 1, 3) := by decide +kernel
theorem dX10_deepest_78 : decode cX10_deepest 78 = .ok (.goto (-54), 3) := by decide +kernel
theorem dX10_deepest_81 : decode cX10_deepest 81 = .ok (.iload_n 3, 1) := by decide +kernel
theorem dX10_deepest_82 : decode cX10_deepest 82 = .ok (.ireturn, 1) := by decide +kernel
theorem dX10_all_0 : decode cX10_all 0 = .ok (.iconst 1, 1) := by decide +kernel
theorem dX10_all_1 : decode cX10_all 1 = .ok (.aload_n 0, 1) := by decide +kernel
theorem dX10_all_2 : decode cX10_all 2 = .ok (.getfield 28, 3) := by decide +kernel
theorem dX10_all_5 : decode cX10_all 5 = .ok (.getfield 250, 3) := by decide +kernel
theorem dX10_all_8 : decode cX10_all 8 = .ok (.ishl, 1) := by decide +kernel
theorem dX10_all_9 : decode cX10_all 9 = .ok (.iconst 1, 1) := by decide +kernel
theorem dX10_all_10 : decode cX10_all 10 = .ok (.isub, 1) := by decide +kernel
theorem dX10_all_11 : decode cX10_all 11 = .ok (.istore_n 1, 1) := by decide +kernel
theorem dX10_all_12 : decode cX10_all 12 = .ok (.iconst 0, 1) := by decide +kernel
theorem dX10_all_13 : decode cX10_all 13 = .ok (.istore_n 2, 1) := by decide +kernel
theorem dX10_all_14 : decode cX10_all 14 = .ok (.iload_n 2, 1) := by decide +kernel
theorem dX10_all_15 : decode cX10_all 15 = .ok (.aload_n 0, 1) := by decide +kernel
theorem dX10_all_16 : decode cX10_all 16 = .ok (.getfield 28, 3) := by decide +kernel
theorem dX10_all_19 : decode cX10_all 19 = .ok (.getfield 244, 3) := by decide +kernel
theorem dX10_all_22 : decode cX10_all 22 = .ok (.if_icmp .ge 28, 3) := by decide +kernel
theorem dX10_all_25 : decode cX10_all 25 = .ok (.aload_n 0, 1) := by decide +kernel
theorem dX10_all_26 : decode cX10_all 26 = .ok (.getfield 48, 3) := by decide +kernel
theorem dX10_all_29 : decode cX10_all 29 = .ok (.iload_n 2, 1) := by decide +kernel
theorem dX10_all_30 : decode cX10_all 30 = .ok (.invokevirtual 176, 3) := by decide +kernel
theorem dX10_all_33 : decode cX10_all 33 = .ok (.ifCond .ne 11, 3) := by decide +kernel
theorem dX10_all_36 : decode cX10_all 36 = .ok (.iload_n 1, 1) := by decide +kernel
theorem dX10_all_37 : decode cX10_all 37 = .ok (.aload_n 0, 1) := by decide +kernel
theorem dX10_all_38 : decode cX10_all 38 = .ok (.iload_n 2, 1) := by decide +kernel
theorem dX10_all_39 : decode cX10_all 39 = .ok (.invokevirtual 247, 3) := by decide +kernel
theorem dX10_all_42 : decode cX10_all 42 = .ok (.iand, 1) := by decide +kernel
theorem dX10_all_43 : decode cX10_all 43 = .ok (.istore_n 1, 1) := by decide +kernel
theorem dX10_all_44 : decode cX10_all 44 = .ok (.iinc 2 1, 3) := by decide +kernel
theorem dX10_all_47 : decode cX10_all 47 = .ok (.goto (-33), 3) := by decide +kernel
theorem dX10_all_50 : decode cX10_all 50 = .ok (.iload_n 1, 1) := by decide +kernel
theorem dX10_all_51 : decode cX10_all 51 = .ok (.ireturn, 1) := by decide +kernel
theorem dX10_sure_0 : decode cX10_sure 0 = .ok (.iconst 0, 1) := by decide +kernel
theorem dX10_sure_1 : decode cX10_sure 1 = .ok (.istore_n 1, 1) := by decide +kernel
theorem dX10_sure_2 : decode cX10_sure 2 = .ok (.iconst 0, 1) := by decide +kernel
theorem dX10_sure_3 : decode cX10_sure 3 = .ok (.istore_n 2, 1) := by decide +kernel
theorem dX10_sure_4 : decode cX10_sure 4 = .ok (.iload_n 2, 1) := by decide +kernel
theorem dX10_sure_5 : decode cX10_sure 5 = .ok (.aload_n 0, 1) := by decide +kernel
theorem dX10_sure_6 : decode cX10_sure 6 = .ok (.getfield 28, 3) := by decide +kernel
theorem dX10_sure_9 : decode cX10_sure 9 = .ok (.getfield 244, 3) := by decide +kernel
theorem dX10_sure_12 : decode cX10_sure 12 = .ok (.if_icmp .ge 28, 3) := by decide +kernel
theorem dX10_sure_15 : decode cX10_sure 15 = .ok (.aload_n 0, 1) := by decide +kernel
theorem dX10_sure_16 : decode cX10_sure 16 = .ok (.getfield 48, 3) := by decide +kernel
theorem dX10_sure_19 : decode cX10_sure 19 = .ok (.iload_n 2, 1) := by decide +kernel
theorem dX10_sure_20 : decode cX10_sure 20 = .ok (.invokevirtual 176, 3) := by decide +kernel
theorem dX10_sure_23 : decode cX10_sure 23 = .ok (.ifCond .ne 11, 3) := by decide +kernel
theorem dX10_sure_26 : decode cX10_sure 26 = .ok (.aload_n 0, 1) := by decide +kernel
theorem dX10_sure_27 : decode cX10_sure 27 = .ok (.iload_n 2, 1) := by decide +kernel
theorem dX10_sure_28 : decode cX10_sure 28 = .ok (.invokevirtual 234, 3) := by decide +kernel
theorem dX10_sure_31 : decode cX10_sure 31 = .ok (.iinc 1 1, 3) := by decide +kernel
theorem dX10_sure_34 : decode cX10_sure 34 = .ok (.iinc 2 1, 3) := by decide +kernel
theorem dX10_sure_37 : decode cX10_sure 37 = .ok (.goto (-33), 3) := by decide +kernel
theorem dX10_sure_40 : decode cX10_sure 40 = .ok (.iconst 0, 1) := by decide +kernel
theorem dX10_sure_41 : decode cX10_sure 41 = .ok (.istore_n 2, 1) := by decide +kernel
theorem dX10_sure_42 : decode cX10_sure 42 = .ok (.iconst 0, 1) := by decide +kernel
theorem dX10_sure_43 : decode cX10_sure 43 = .ok (.istore_n 3, 1) := by decide +kernel
theorem dX10_sure_44 : decode cX10_sure 44 = .ok (.iload_n 1, 1) := by decide +kernel
theorem dX10_sure_45 : decode cX10_sure 45 = .ok (.ifCond .le 34, 3) := by decide +kernel
theorem dX10_sure_48 : decode cX10_sure 48 = .ok (.iload_n 3, 1) := by decide +kernel
theorem dX10_sure_49 : decode cX10_sure 49 = .ok (.aload_n 0, 1) := by decide +kernel
theorem dX10_sure_50 : decode cX10_sure 50 = .ok (.getfield 28, 3) := by decide +kernel
theorem dX10_sure_53 : decode cX10_sure 53 = .ok (.getfield 250, 3) := by decide +kernel
theorem dX10_sure_56 : decode cX10_sure 56 = .ok (.if_icmp .ge 23, 3) := by decide +kernel
theorem dX10_sure_59 : decode cX10_sure 59 = .ok (.aload_n 0, 1) := by decide +kernel
theorem dX10_sure_60 : decode cX10_sure 60 = .ok (.iload_n 3, 1) := by decide +kernel
theorem dX10_sure_61 : decode cX10_sure 61 = .ok (.invokevirtual 257, 3) := by decide +kernel
theorem dX10_sure_64 : decode cX10_sure 64 = .ok (.ifCond .eq 9, 3) := by decide +kernel
theorem dX10_sure_67 : decode cX10_sure 67 = .ok (.iload_n 2, 1) := by decide +kernel
theorem dX10_sure_68 : decode cX10_sure 68 = .ok (.iconst 1, 1) := by decide +kernel
theorem dX10_sure_69 : decode cX10_sure 69 = .ok (.iload_n 3, 1) := by decide +kernel
theorem dX10_sure_70 : decode cX10_sure 70 = .ok (.ishl, 1) := by decide +kernel
theorem dX10_sure_71 : decode cX10_sure 71 = .ok (.ior, 1) := by decide +kernel
theorem dX10_sure_72 : decode cX10_sure 72 = .ok (.istore_n 2, 1) := by decide +kernel
theorem dX10_sure_73 : decode cX10_sure 73 = .ok (.iinc 3 1, 3) := by decide +kernel
theorem dX10_sure_76 : decode cX10_sure 76 = .ok (.goto (-32), 3) := by decide +kernel
theorem dX10_sure_79 : decode cX10_sure 79 = .ok (.iload_n 2, 1) := by decide +kernel
theorem dX10_sure_80 : decode cX10_sure 80 = .ok (.ireturn, 1) := by decide +kernel
theorem dX10_lacks_0 : decode cX10_lacks 0 = .ok (.aload_n 0, 1) := by decide +kernel
theorem dX10_lacks_1 : decode cX10_lacks 1 = .ok (.getfield 28, 3) := by decide +kernel
theorem dX10_lacks_4 : decode cX10_lacks 4 = .ok (.iload_n 1, 1) := by decide +kernel
theorem dX10_lacks_5 : decode cX10_lacks 5 = .ok (.invokevirtual 161, 3) := by decide +kernel
theorem dX10_lacks_8 : decode cX10_lacks 8 = .ok (.ifCond .eq 25, 3) := by decide +kernel
theorem dX10_lacks_11 : decode cX10_lacks 11 = .ok (.aload_n 0, 1) := by decide +kernel
theorem dX10_lacks_12 : decode cX10_lacks 12 = .ok (.getfield 28, 3) := by decide +kernel
theorem dX10_lacks_15 : decode cX10_lacks 15 = .ok (.iload_n 2, 1) := by decide +kernel
theorem dX10_lacks_16 : decode cX10_lacks 16 = .ok (.invokevirtual 121, 3) := by decide +kernel
theorem dX10_lacks_19 : decode cX10_lacks 19 = .ok (.ifCond .eq 14, 3) := by decide +kernel
theorem dX10_lacks_22 : decode cX10_lacks 22 = .ok (.aload_n 0, 1) := by decide +kernel
theorem dX10_lacks_23 : decode cX10_lacks 23 = .ok (.getfield 48, 3) := by decide +kernel
theorem dX10_lacks_26 : decode cX10_lacks 26 = .ok (.iload_n 1, 1) := by decide +kernel
theorem dX10_lacks_27 : decode cX10_lacks 27 = .ok (.invokevirtual 176, 3) := by decide +kernel
theorem dX10_lacks_30 : decode cX10_lacks 30 = .ok (.ifCond .eq 5, 3) := by decide +kernel
theorem dX10_lacks_33 : decode cX10_lacks 33 = .ok (.iconst (-1), 1) := by decide +kernel
theorem dX10_lacks_34 : decode cX10_lacks 34 = .ok (.ireturn, 1) := by decide +kernel
theorem dX10_lacks_35 : decode cX10_lacks 35 = .ok (.aload_n 0, 1) := by decide +kernel
theorem dX10_lacks_36 : decode cX10_lacks 36 = .ok (.iload_n 1, 1) := by decide +kernel
theorem dX10_lacks_37 : decode cX10_lacks 37 = .ok (.invokevirtual 234, 3) := by decide +kernel
theorem dX10_lacks_40 : decode cX10_lacks 40 = .ok (.aload_n 0, 1) := by decide +kernel
theorem dX10_lacks_41 : decode cX10_lacks 41 = .ok (.iload_n 1, 1) := by decide +kernel
theorem dX10_lacks_42 : decode cX10_lacks 42 = .ok (.iload_n 2, 1) := by decide +kernel
theorem dX10_lacks_43 : decode cX10_lacks 43 = .ok (.invokevirtual 260, 3) := by decide +kernel
theorem dX10_lacks_46 : decode cX10_lacks 46 = .ok (.istore_n 3, 1) := by decide +kernel
theorem dX10_lacks_47 : decode cX10_lacks 47 = .ok (.iload_n 3, 1) := by decide +kernel
theorem dX10_lacks_48 : decode cX10_lacks 48 = .ok (.iconst (-1), 1) := by decide +kernel
theorem dX10_lacks_49 : decode cX10_lacks 49 = .ok (.if_icmp .ne 7, 3) := by decide +kernel
theorem dX10_lacks_52 : decode cX10_lacks 52 = .ok (.iconst (-1), 1) := by decide +kernel
theorem dX10_lacks_53 : decode cX10_lacks 53 = .ok (.goto 18, 3) := by decide +kernel
theorem dX10_lacks_56 : decode cX10_lacks 56 = .ok (.iconst 0, 1) := by decide +kernel
theorem dX10_lacks_57 : decode cX10_lacks 57 = .ok (.iload_n 3, 1) := by decide +kernel
theorem dX10_lacks_58 : decode cX10_lacks 58 = .ok (.aload_n 0, 1) := by decide +kernel
theorem dX10_lacks_59 : decode cX10_lacks 59 = .ok (.getfield 48, 3) := by decide +kernel
theorem dX10_lacks_62 : decode cX10_lacks 62 = .ok (.getfield 170, 3) := by decide +kernel
theorem dX10_lacks_65 : decode cX10_lacks 65 = .ok (.iload_n 1, 1) := by decide +kernel
theorem dX10_lacks_66 : decode cX10_lacks 66 = .ok (.iaload, 1) := by decide +kernel
theorem dX10_lacks_67 : decode cX10_lacks 67 = .ok (.isub, 1) := by decide +kernel
theorem dX10_lacks_68 : decode cX10_lacks 68 = .ok (.invokestatic 264, 3) := by decide +kernel
theorem dX10_lacks_71 : decode cX10_lacks 71 = .ok (.ireturn, 1) := by decide +kernel
theorem dX10_clear_0 : decode cX10_clear 0 = .ok (.aload_n 0, 1) := by decide +kernel
theorem dX10_clear_1 : decode cX10_clear 1 = .ok (.getfield 28, 3) := by decide +kernel
theorem dX10_clear_4 : decode cX10_clear 4 = .ok (.iload_n 1, 1) := by decide +kernel
theorem dX10_clear_5 : decode cX10_clear 5 = .ok (.invokevirtual 135, 3) := by decide +kernel
theorem dX10_clear_8 : decode cX10_clear 8 = .ok (.ifCond .ne 5, 3) := by decide +kernel
theorem dX10_clear_11 : decode cX10_clear 11 = .ok (.iconst (-1), 1) := by decide +kernel
theorem dX10_clear_12 : decode cX10_clear 12 = .ok (.ireturn, 1) := by decide +kernel
theorem dX10_clear_13 : decode cX10_clear 13 = .ok (.aload_n 0, 1) := by decide +kernel
theorem dX10_clear_14 : decode cX10_clear 14 = .ok (.getfield 48, 3) := by decide +kernel
theorem dX10_clear_17 : decode cX10_clear 17 = .ok (.getfield 151, 3) := by decide +kernel
theorem dX10_clear_20 : decode cX10_clear 20 = .ok (.iload_n 1, 1) := by decide +kernel
theorem dX10_clear_21 : decode cX10_clear 21 = .ok (.iaload, 1) := by decide +kernel
theorem dX10_clear_22 : decode cX10_clear 22 = .ok (.istore_n 2, 1) := by decide +kernel
theorem dX10_clear_23 : decode cX10_clear 23 = .ok (.iconst 0, 1) := by decide +kernel
theorem dX10_clear_24 : decode cX10_clear 24 = .ok (.istore_n 3, 1) := by decide +kernel
theorem dX10_clear_25 : decode cX10_clear 25 = .ok (.iload_n 3, 1) := by decide +kernel
theorem dX10_clear_26 : decode cX10_clear 26 = .ok (.bipush 60, 2) := by decide +kernel
theorem dX10_clear_28 : decode cX10_clear 28 = .ok (.if_icmp .gt 45, 3) := by decide +kernel
theorem dX10_clear_31 : decode cX10_clear 31 = .ok (.aload_n 0, 1) := by decide +kernel
theorem dX10_clear_32 : decode cX10_clear 32 = .ok (.getfield 28, 3) := by decide +kernel
theorem dX10_clear_35 : decode cX10_clear 35 = .ok (.aload_n 0, 1) := by decide +kernel
theorem dX10_clear_36 : decode cX10_clear 36 = .ok (.getfield 48, 3) := by decide +kernel
theorem dX10_clear_39 : decode cX10_clear 39 = .ok (.getfield 269, 3) := by decide +kernel
theorem dX10_clear_42 : decode cX10_clear 42 = .ok (.iload_n 3, 1) := by decide +kernel
theorem dX10_clear_43 : decode cX10_clear 43 = .ok (.iadd, 1) := by decide +kernel
theorem dX10_clear_44 : decode cX10_clear 44 = .ok (.invokevirtual 272, 3) := by decide +kernel
theorem dX10_clear_47 : decode cX10_clear 47 = .ok (.istore 4, 2) := by decide +kernel
theorem dX10_clear_49 : decode cX10_clear 49 = .ok (.iload_n 2, 1) := by decide +kernel
theorem dX10_clear_50 : decode cX10_clear 50 = .ok (.iload 4, 2) := by decide +kernel
theorem dX10_clear_52 : decode cX10_clear 52 = .ok (.iadd, 1) := by decide +kernel
theorem dX10_clear_53 : decode cX10_clear 53 = .ok (.bipush 6, 2) := by decide +kernel
theorem dX10_clear_55 : decode cX10_clear 55 = .ok (.if_icmp .ge 5, 3) := by decide +kernel
theorem dX10_clear_58 : decode cX10_clear 58 = .ok (.iload_n 3, 1) := by decide +kernel
theorem dX10_clear_59 : decode cX10_clear 59 = .ok (.ireturn, 1) := by decide +kernel
theorem dX10_clear_60 : decode cX10_clear 60 = .ok (.iload_n 2, 1) := by decide +kernel
theorem dX10_clear_61 : decode cX10_clear 61 = .ok (.iload 4, 2) := by decide +kernel
theorem dX10_clear_63 : decode cX10_clear 63 = .ok (.invokestatic 275, 3) := by decide +kernel
theorem dX10_clear_66 : decode cX10_clear 66 = .ok (.istore_n 2, 1) := by decide +kernel
theorem dX10_clear_67 : decode cX10_clear 67 = .ok (.iinc 3 1, 3) := by decide +kernel
theorem dX10_clear_70 : decode cX10_clear 70 = .ok (.goto (-45), 3) := by decide +kernel
theorem dX10_clear_73 : decode cX10_clear 73 = .ok (.iconst (-1), 1) := by decide +kernel
theorem dX10_clear_74 : decode cX10_clear 74 = .ok (.ireturn, 1) := by decide +kernel
theorem dX10_led_0 : decode cX10_led 0 = .ok (.aload_n 0, 1) := by decide +kernel
theorem dX10_led_1 : decode cX10_led 1 = .ok (.getfield 79, 3) := by decide +kernel
theorem dX10_led_4 : decode cX10_led 4 = .ok (.aload_n 0, 1) := by decide +kernel
theorem dX10_led_5 : decode cX10_led 5 = .ok (.getfield 28, 3) := by decide +kernel
theorem dX10_led_8 : decode cX10_led 8 = .ok (.iconst 0, 1) := by decide +kernel
theorem dX10_led_9 : decode cX10_led 9 = .ok (.aload_n 0, 1) := by decide +kernel
theorem dX10_led_10 : decode cX10_led 10 = .ok (.getfield 48, 3) := by decide +kernel
theorem dX10_led_13 : decode cX10_led 13 = .ok (.getfield 278, 3) := by decide +kernel
theorem dX10_led_16 : decode cX10_led 16 = .ok (.aload_n 0, 1) := by decide +kernel
theorem dX10_led_17 : decode cX10_led 17 = .ok (.getfield 73, 3) := by decide +kernel
theorem dX10_led_20 : decode cX10_led 20 = .ok (.invokevirtual 281, 3) := by decide +kernel
theorem dX10_led_23 : decode cX10_led 23 = .ok (.aload_n 0, 1) := by decide +kernel
theorem dX10_led_24 : decode cX10_led 24 = .ok (.getfield 79, 3) := by decide +kernel
theorem dX10_led_27 : decode cX10_led 27 = .ok (.invokevirtual 285, 3) := by decide +kernel
theorem dX10_led_30 : decode cX10_led 30 = .ok (.ireturn, 1) := by decide +kernel
theorem dX10_lost_0 : decode cX10_lost 0 = .ok (.aload_n 0, 1) := by decide +kernel
theorem dX10_lost_1 : decode cX10_lost 1 = .ok (.getfield 79, 3) := by decide +kernel
theorem dX10_lost_4 : decode cX10_lost 4 = .ok (.aload_n 0, 1) := by decide +kernel
theorem dX10_lost_5 : decode cX10_lost 5 = .ok (.getfield 28, 3) := by decide +kernel
theorem dX10_lost_8 : decode cX10_lost 8 = .ok (.iconst 0, 1) := by decide +kernel
theorem dX10_lost_9 : decode cX10_lost 9 = .ok (.aload_n 0, 1) := by decide +kernel
theorem dX10_lost_10 : decode cX10_lost 10 = .ok (.getfield 48, 3) := by decide +kernel
theorem dX10_lost_13 : decode cX10_lost 13 = .ok (.aload_n 0, 1) := by decide +kernel
theorem dX10_lost_14 : decode cX10_lost 14 = .ok (.getfield 28, 3) := by decide +kernel
theorem dX10_lost_17 : decode cX10_lost 17 = .ok (.invokevirtual 231, 3) := by decide +kernel
theorem dX10_lost_20 : decode cX10_lost 20 = .ok (.aload_n 0, 1) := by decide +kernel
theorem dX10_lost_21 : decode cX10_lost 21 = .ok (.getfield 73, 3) := by decide +kernel
theorem dX10_lost_24 : decode cX10_lost 24 = .ok (.invokevirtual 281, 3) := by decide +kernel
theorem dX10_lost_27 : decode cX10_lost 27 = .ok (.iconst 0, 1) := by decide +kernel
theorem dX10_lost_28 : decode cX10_lost 28 = .ok (.istore_n 1, 1) := by decide +kernel
theorem dX10_lost_29 : decode cX10_lost 29 = .ok (.iconst 0, 1) := by decide +kernel
theorem dX10_lost_30 : decode cX10_lost 30 = .ok (.istore_n 2, 1) := by decide +kernel
theorem dX10_lost_31 : decode cX10_lost 31 = .ok (.iload_n 2, 1) := by decide +kernel
theorem dX10_lost_32 : decode cX10_lost 32 = .ok (.aload_n 0, 1) := by decide +kernel
theorem dX10_lost_33 : decode cX10_lost 33 = .ok (.getfield 28, 3) := by decide +kernel
theorem dX10_lost_36 : decode cX10_lost 36 = .ok (.getfield 244, 3) := by decide +kernel
theorem dX10_lost_39 : decode cX10_lost 39 = .ok (.if_icmp .ge 76, 3) := by decide +kernel
theorem dX10_lost_42 : decode cX10_lost 42 = .ok (.aload_n 0, 1) := by decide +kernel
theorem dX10_lost_43 : decode cX10_lost 43 = .ok (.getfield 28, 3) := by decide +kernel
theorem dX10_lost_46 : decode cX10_lost 46 = .ok (.aload_n 0, 1) := by decide +kernel
theorem dX10_lost_47 : decode cX10_lost 47 = .ok (.getfield 48, 3) := by decide +kernel
theorem dX10_lost_50 : decode cX10_lost 50 = .ok (.getfield 167, 3) := by decide +kernel
theorem dX10_lost_53 : decode cX10_lost 53 = .ok (.iload_n 2, 1) := by decide +kernel
theorem dX10_lost_54 : decode cX10_lost 54 = .ok (.iaload, 1) := by decide +kernel
theorem dX10_lost_55 : decode cX10_lost 55 = .ok (.invokevirtual 121, 3) := by decide +kernel
theorem dX10_lost_58 : decode cX10_lost 58 = .ok (.ifCond .eq 28, 3) := by decide +kernel
theorem dX10_lost_61 : decode cX10_lost 61 = .ok (.aload_n 0, 1) := by decide +kernel
theorem dX10_lost_62 : decode cX10_lost 62 = .ok (.getfield 79, 3) := by decide +kernel
theorem dX10_lost_65 : decode cX10_lost 65 = .ok (.getfield 238, 3) := by decide +kernel
theorem dX10_lost_68 : decode cX10_lost 68 = .ok (.aload_n 0, 1) := by decide +kernel
theorem dX10_lost_69 : decode cX10_lost 69 = .ok (.getfield 48, 3) := by decide +kernel
theorem dX10_lost_72 : decode cX10_lost 72 = .ok (.getfield 167, 3) := by decide +kernel
theorem dX10_lost_75 : decode cX10_lost 75 = .ok (.iload_n 2, 1) := by decide +kernel
theorem dX10_lost_76 : decode cX10_lost 76 = .ok (.iaload, 1) := by decide +kernel
theorem dX10_lost_77 : decode cX10_lost 77 = .ok (.iaload, 1) := by decide +kernel
theorem dX10_lost_78 : decode cX10_lost 78 = .ok (.iconst (-1), 1) := by decide +kernel
theorem dX10_lost_79 : decode cX10_lost 79 = .ok (.if_icmp .eq 7, 3) := by decide +kernel
theorem dX10_lost_82 : decode cX10_lost 82 = .ok (.iconst 1, 1) := by decide +kernel
theorem dX10_lost_83 : decode cX10_lost 83 = .ok (.goto 4, 3) := by decide +kernel
theorem dX10_lost_86 : decode cX10_lost 86 = .ok (.iconst 0, 1) := by decide +kernel
theorem dX10_lost_87 : decode cX10_lost 87 = .ok (.istore_n 3, 1) := by decide +kernel
theorem dX10_lost_88 : decode cX10_lost 88 = .ok (.iload_n 3, 1) := by decide +kernel
theorem dX10_lost_89 : decode cX10_lost 89 = .ok (.ifCond .ne 20, 3) := by decide +kernel
theorem dX10_lost_92 : decode cX10_lost 92 = .ok (.aload_n 0, 1) := by decide +kernel
theorem dX10_lost_93 : decode cX10_lost 93 = .ok (.getfield 48, 3) := by decide +kernel
theorem dX10_lost_96 : decode cX10_lost 96 = .ok (.iload_n 2, 1) := by decide +kernel
theorem dX10_lost_97 : decode cX10_lost 97 = .ok (.invokevirtual 176, 3) := by decide +kernel
theorem dX10_lost_100 : decode cX10_lost 100 = .ok (.ifCond .ne 9, 3) := by decide +kernel
theorem dX10_lost_103 : decode cX10_lost 103 = .ok (.iload_n 1, 1) := by decide +kernel
theorem dX10_lost_104 : decode cX10_lost 104 = .ok (.iconst 1, 1) := by decide +kernel
theorem dX10_lost_105 : decode cX10_lost 105 = .ok (.iload_n 2, 1) := by decide +kernel
theorem dX10_lost_106 : decode cX10_lost 106 = .ok (.ishl, 1) := by decide +kernel
theorem dX10_lost_107 : decode cX10_lost 107 = .ok (.ior, 1) := by decide +kernel
theorem dX10_lost_108 : decode cX10_lost 108 = .ok (.istore_n 1, 1) := by decide +kernel
theorem dX10_lost_109 : decode cX10_lost 109 = .ok (.iinc 2 1, 3) := by decide +kernel
theorem dX10_lost_112 : decode cX10_lost 112 = .ok (.goto (-81), 3) := by decide +kernel
theorem dX10_lost_115 : decode cX10_lost 115 = .ok (.iload_n 1, 1) := by decide +kernel
theorem dX10_lost_116 : decode cX10_lost 116 = .ok (.ireturn, 1) := by decide +kernel
theorem dX10_worst_0 : decode cX10_worst 0 = .ok (.iconst (-1), 1) := by decide +kernel
theorem dX10_worst_1 : decode cX10_worst 1 = .ok (.istore_n 1, 1) := by decide +kernel
theorem dX10_worst_2 : decode cX10_worst 2 = .ok (.iconst 0, 1) := by decide +kernel
theorem dX10_worst_3 : decode cX10_worst 3 = .ok (.istore_n 2, 1) := by decide +kernel
theorem dX10_worst_4 : decode cX10_worst 4 = .ok (.iconst 0, 1) := by decide +kernel
theorem dX10_worst_5 : decode cX10_worst 5 = .ok (.istore_n 3, 1) := by decide +kernel
theorem dX10_worst_6 : decode cX10_worst 6 = .ok (.iload_n 3, 1) := by decide +kernel
theorem dX10_worst_7 : decode cX10_worst 7 = .ok (.aload_n 0, 1) := by decide +kernel
theorem dX10_worst_8 : decode cX10_worst 8 = .ok (.getfield 28, 3) := by decide +kernel
theorem dX10_worst_11 : decode cX10_worst 11 = .ok (.getfield 289, 3) := by decide +kernel
theorem dX10_worst_14 : decode cX10_worst 14 = .ok (.if_icmp .ge 66, 3) := by decide +kernel
theorem dX10_worst_17 : decode cX10_worst 17 = .ok (.aload_n 0, 1) := by decide +kernel
theorem dX10_worst_18 : decode cX10_worst 18 = .ok (.getfield 79, 3) := by decide +kernel
theorem dX10_worst_21 : decode cX10_worst 21 = .ok (.aload_n 0, 1) := by decide +kernel
theorem dX10_worst_22 : decode cX10_worst 22 = .ok (.getfield 28, 3) := by decide +kernel
theorem dX10_worst_25 : decode cX10_worst 25 = .ok (.iconst 0, 1) := by decide +kernel
theorem dX10_worst_26 : decode cX10_worst 26 = .ok (.aload_n 0, 1) := by decide +kernel
theorem dX10_worst_27 : decode cX10_worst 27 = .ok (.getfield 28, 3) := by decide +kernel
theorem dX10_worst_30 : decode cX10_worst 30 = .ok (.invokevirtual 292, 3) := by decide +kernel
theorem dX10_worst_33 : decode cX10_worst 33 = .ok (.iconst 1, 1) := by decide +kernel
theorem dX10_worst_34 : decode cX10_worst 34 = .ok (.iload_n 3, 1) := by decide +kernel
theorem dX10_worst_35 : decode cX10_worst 35 = .ok (.ishl, 1) := by decide +kernel
theorem dX10_worst_36 : decode cX10_worst 36 = .ok (.iconst (-1), 1) := by decide +kernel
theorem dX10_worst_37 : decode cX10_worst 37 = .ok (.ixor, 1) := by decide +kernel
theorem dX10_worst_38 : decode cX10_worst 38 = .ok (.iand, 1) := by decide +kernel
theorem dX10_worst_39 : decode cX10_worst 39 = .ok (.aload_n 0, 1) := by decide +kernel
theorem dX10_worst_40 : decode cX10_worst 40 = .ok (.getfield 73, 3) := by decide +kernel
theorem dX10_worst_43 : decode cX10_worst 43 = .ok (.invokevirtual 281, 3) := by decide +kernel
theorem dX10_worst_46 : decode cX10_worst 46 = .ok (.aload_n 0, 1) := by decide +kernel
theorem dX10_worst_47 : decode cX10_worst 47 = .ok (.getfield 79, 3) := by decide +kernel
theorem dX10_worst_50 : decode cX10_worst 50 = .ok (.invokevirtual 285, 3) := by decide +kernel
theorem dX10_worst_53 : decode cX10_worst 53 = .ok (.invokestatic 225, 3) := by decide +kernel
theorem dX10_worst_56 : decode cX10_worst 56 = .ok (.istore 4, 2) := by decide +kernel
theorem dX10_worst_58 : decode cX10_worst 58 = .ok (.iload_n 1, 1) := by decide +kernel
theorem dX10_worst_59 : decode cX10_worst 59 = .ok (.iconst (-1), 1) := by decide +kernel
theorem dX10_worst_60 : decode cX10_worst 60 = .ok (.if_icmp .eq 9, 3) := by decide +kernel
theorem dX10_worst_63 : decode cX10_worst 63 = .ok (.iload 4, 2) := by decide +kernel
theorem dX10_worst_65 : decode cX10_worst 65 = .ok (.iload_n 2, 1) := by decide +kernel
theorem dX10_worst_66 : decode cX10_worst 66 = .ok (.if_icmp .ge 8, 3) := by decide +kernel
theorem dX10_worst_69 : decode cX10_worst 69 = .ok (.iload_n 3, 1) := by decide +kernel
theorem dX10_worst_70 : decode cX10_worst 70 = .ok (.istore_n 1, 1) := by decide +kernel
theorem dX10_worst_71 : decode cX10_worst 71 = .ok (.iload 4, 2) := by decide +kernel
theorem dX10_worst_73 : decode cX10_worst 73 = .ok (.istore_n 2, 1) := by decide +kernel
theorem dX10_worst_74 : decode cX10_worst 74 = .ok (.iinc 3 1, 3) := by decide +kernel
theorem dX10_worst_77 : decode cX10_worst 77 = .ok (.goto (-71), 3) := by decide +kernel
theorem dX10_worst_80 : decode cX10_worst 80 = .ok (.iload_n 1, 1) := by decide +kernel
theorem dX10_worst_81 : decode cX10_worst 81 = .ok (.ireturn, 1) := by decide +kernel
theorem dX10_near_0 : decode cX10_near 0 = .ok (.aload_n 0, 1) := by decide +kernel
theorem dX10_near_1 : decode cX10_near 1 = .ok (.getfield 28, 3) := by decide +kernel
theorem dX10_near_4 : decode cX10_near 4 = .ok (.iload_n 1, 1) := by decide +kernel
theorem dX10_near_5 : decode cX10_near 5 = .ok (.invokevirtual 161, 3) := by decide +kernel
theorem dX10_near_8 : decode cX10_near 8 = .ok (.ifCond .eq 19, 3) := by decide +kernel
theorem dX10_near_11 : decode cX10_near 11 = .ok (.aload_n 0, 1) := by decide +kernel
theorem dX10_near_12 : decode cX10_near 12 = .ok (.getfield 28, 3) := by decide +kernel
theorem dX10_near_15 : decode cX10_near 15 = .ok (.iload_n 2, 1) := by decide +kernel
theorem dX10_near_16 : decode cX10_near 16 = .ok (.invokevirtual 161, 3) := by decide +kernel
theorem dX10_near_19 : decode cX10_near 19 = .ok (.ifCond .eq 8, 3) := by decide +kernel
theorem dX10_near_22 : decode cX10_near 22 = .ok (.iload_n 1, 1) := by decide +kernel
theorem dX10_near_23 : decode cX10_near 23 = .ok (.iload_n 2, 1) := by decide +kernel
theorem dX10_near_24 : decode cX10_near 24 = .ok (.if_icmp .ne 5, 3) := by decide +kernel
theorem dX10_near_27 : decode cX10_near 27 = .ok (.iconst (-1), 1) := by decide +kernel
theorem dX10_near_28 : decode cX10_near 28 = .ok (.ireturn, 1) := by decide +kernel
theorem dX10_near_29 : decode cX10_near 29 = .ok (.aload_n 0, 1) := by decide +kernel
theorem dX10_near_30 : decode cX10_near 30 = .ok (.getfield 48, 3) := by decide +kernel
theorem dX10_near_33 : decode cX10_near 33 = .ok (.getfield 167, 3) := by decide +kernel
theorem dX10_near_36 : decode cX10_near 36 = .ok (.iload_n 2, 1) := by decide +kernel
theorem dX10_near_37 : decode cX10_near 37 = .ok (.iaload, 1) := by decide +kernel
theorem dX10_near_38 : decode cX10_near 38 = .ok (.istore_n 3, 1) := by decide +kernel
theorem dX10_near_39 : decode cX10_near 39 = .ok (.aload_n 0, 1) := by decide +kernel
theorem dX10_near_40 : decode cX10_near 40 = .ok (.getfield 28, 3) := by decide +kernel
theorem dX10_near_43 : decode cX10_near 43 = .ok (.iload_n 3, 1) := by decide +kernel
theorem dX10_near_44 : decode cX10_near 44 = .ok (.invokevirtual 121, 3) := by decide +kernel
theorem dX10_near_47 : decode cX10_near 47 = .ok (.ifCond .ne 5, 3) := by decide +kernel
theorem dX10_near_50 : decode cX10_near 50 = .ok (.iconst (-1), 1) := by decide +kernel
theorem dX10_near_51 : decode cX10_near 51 = .ok (.ireturn, 1) := by decide +kernel
theorem dX10_near_52 : decode cX10_near 52 = .ok (.aload_n 0, 1) := by decide +kernel
theorem dX10_near_53 : decode cX10_near 53 = .ok (.iload_n 1, 1) := by decide +kernel
theorem dX10_near_54 : decode cX10_near 54 = .ok (.invokevirtual 234, 3) := by decide +kernel
theorem dX10_near_57 : decode cX10_near 57 = .ok (.aload_n 0, 1) := by decide +kernel
theorem dX10_near_58 : decode cX10_near 58 = .ok (.getfield 83, 3) := by decide +kernel
theorem dX10_near_61 : decode cX10_near 61 = .ok (.iload_n 1, 1) := by decide +kernel
theorem dX10_near_62 : decode cX10_near 62 = .ok (.aaload, 1) := by decide +kernel
theorem dX10_near_63 : decode cX10_near 63 = .ok (.getfield 238, 3) := by decide +kernel
theorem dX10_near_66 : decode cX10_near 66 = .ok (.iload_n 3, 1) := by decide +kernel
theorem dX10_near_67 : decode cX10_near 67 = .ok (.iaload, 1) := by decide +kernel
theorem dX10_near_68 : decode cX10_near 68 = .ok (.ireturn, 1) := by decide +kernel
theorem dX10_lasts_0 : decode cX10_lasts 0 = .ok (.aload_n 0, 1) := by decide +kernel
theorem dX10_lasts_1 : decode cX10_lasts 1 = .ok (.getfield 28, 3) := by decide +kernel
theorem dX10_lasts_4 : decode cX10_lasts 4 = .ok (.iload_n 1, 1) := by decide +kernel
theorem dX10_lasts_5 : decode cX10_lasts 5 = .ok (.invokevirtual 161, 3) := by decide +kernel
theorem dX10_lasts_8 : decode cX10_lasts 8 = .ok (.ifCond .eq 29, 3) := by decide +kernel
theorem dX10_lasts_11 : decode cX10_lasts 11 = .ok (.aload_n 0, 1) := by decide +kernel
theorem dX10_lasts_12 : decode cX10_lasts 12 = .ok (.getfield 48, 3) := by decide +kernel
theorem dX10_lasts_15 : decode cX10_lasts 15 = .ok (.iload_n 1, 1) := by decide +kernel
theorem dX10_lasts_16 : decode cX10_lasts 16 = .ok (.invokevirtual 176, 3) := by decide +kernel
theorem dX10_lasts_19 : decode cX10_lasts 19 = .ok (.ifCond .ne 18, 3) := by decide +kernel
theorem dX10_lasts_22 : decode cX10_lasts 22 = .ok (.aload_n 0, 1) := by decide +kernel
theorem dX10_lasts_23 : decode cX10_lasts 23 = .ok (.getfield 48, 3) := by decide +kernel
theorem dX10_lasts_26 : decode cX10_lasts 26 = .ok (.aload_n 0, 1) := by decide +kernel
theorem dX10_lasts_27 : decode cX10_lasts 27 = .ok (.getfield 28, 3) := by decide +kernel
theorem dX10_lasts_30 : decode cX10_lasts 30 = .ok (.iload_n 1, 1) := by decide +kernel
theorem dX10_lasts_31 : decode cX10_lasts 31 = .ok (.invokevirtual 295, 3) := by decide +kernel
theorem dX10_lasts_34 : decode cX10_lasts 34 = .ok (.ifCond .ne 5, 3) := by decide +kernel
theorem dX10_lasts_37 : decode cX10_lasts 37 = .ok (.iconst (-1), 1) := by decide +kernel
theorem dX10_lasts_38 : decode cX10_lasts 38 = .ok (.ireturn, 1) := by decide +kernel
theorem dX10_lasts_39 : decode cX10_lasts 39 = .ok (.aload_n 0, 1) := by decide +kernel
theorem dX10_lasts_40 : decode cX10_lasts 40 = .ok (.getfield 48, 3) := by decide +kernel
theorem dX10_lasts_43 : decode cX10_lasts 43 = .ok (.getfield 170, 3) := by decide +kernel
theorem dX10_lasts_46 : decode cX10_lasts 46 = .ok (.iload_n 1, 1) := by decide +kernel
theorem dX10_lasts_47 : decode cX10_lasts 47 = .ok (.iaload, 1) := by decide +kernel
theorem dX10_lasts_48 : decode cX10_lasts 48 = .ok (.istore_n 2, 1) := by decide +kernel
theorem dX10_lasts_49 : decode cX10_lasts 49 = .ok (.iconst 0, 1) := by decide +kernel
theorem dX10_lasts_50 : decode cX10_lasts 50 = .ok (.istore_n 3, 1) := by decide +kernel
theorem dX10_lasts_51 : decode cX10_lasts 51 = .ok (.iload_n 3, 1) := by decide +kernel
theorem dX10_lasts_52 : decode cX10_lasts 52 = .ok (.bipush 99, 2) := by decide +kernel
theorem dX10_lasts_54 : decode cX10_lasts 54 = .ok (.if_icmp .ge 39, 3) := by decide +kernel
theorem dX10_lasts_57 : decode cX10_lasts 57 = .ok (.aload_n 0, 1) := by decide +kernel
theorem dX10_lasts_58 : decode cX10_lasts 58 = .ok (.getfield 48, 3) := by decide +kernel
theorem dX10_lasts_61 : decode cX10_lasts 61 = .ok (.aload_n 0, 1) := by decide +kernel
theorem dX10_lasts_62 : decode cX10_lasts 62 = .ok (.getfield 28, 3) := by decide +kernel
theorem dX10_lasts_65 : decode cX10_lasts 65 = .ok (.iload_n 1, 1) := by decide +kernel
theorem dX10_lasts_66 : decode cX10_lasts 66 = .ok (.iload_n 3, 1) := by decide +kernel
theorem dX10_lasts_67 : decode cX10_lasts 67 = .ok (.invokevirtual 298, 3) := by decide +kernel
theorem dX10_lasts_70 : decode cX10_lasts 70 = .ok (.istore 4, 2) := by decide +kernel
theorem dX10_lasts_72 : decode cX10_lasts 72 = .ok (.iload_n 2, 1) := by decide +kernel
theorem dX10_lasts_73 : decode cX10_lasts 73 = .ok (.iload 4, 2) := by decide +kernel
theorem dX10_lasts_75 : decode cX10_lasts 75 = .ok (.if_icmp .ge 7, 3) := by decide +kernel
theorem dX10_lasts_78 : decode cX10_lasts 78 = .ok (.iload_n 3, 1) := by decide +kernel
theorem dX10_lasts_79 : decode cX10_lasts 79 = .ok (.iconst 1, 1) := by decide +kernel
theorem dX10_lasts_80 : decode cX10_lasts 80 = .ok (.iadd, 1) := by decide +kernel
theorem dX10_lasts_81 : decode cX10_lasts 81 = .ok (.ireturn, 1) := by decide +kernel
theorem dX10_lasts_82 : decode cX10_lasts 82 = .ok (.iload_n 2, 1) := by decide +kernel
theorem dX10_lasts_83 : decode cX10_lasts 83 = .ok (.iload 4, 2) := by decide +kernel
theorem dX10_lasts_85 : decode cX10_lasts 85 = .ok (.isub, 1) := by decide +kernel
theorem dX10_lasts_86 : decode cX10_lasts 86 = .ok (.istore_n 2, 1) := by decide +kernel
theorem dX10_lasts_87 : decode cX10_lasts 87 = .ok (.iinc 3 1, 3) := by decide +kernel
theorem dX10_lasts_90 : decode cX10_lasts 90 = .ok (.goto (-39), 3) := by decide +kernel
theorem dX10_lasts_93 : decode cX10_lasts 93 = .ok (.iconst (-1), 1) := by decide +kernel
theorem dX10_lasts_94 : decode cX10_lasts 94 = .ok (.ireturn, 1) := by decide +kernel
theorem dX10_tie_0 : decode cX10_tie 0 = .ok (.aload_n 0, 1) := by decide +kernel
theorem dX10_tie_1 : decode cX10_tie 1 = .ok (.getfield 79, 3) := by decide +kernel
theorem dX10_tie_4 : decode cX10_tie 4 = .ok (.aload_n 0, 1) := by decide +kernel
theorem dX10_tie_5 : decode cX10_tie 5 = .ok (.getfield 28, 3) := by decide +kernel
theorem dX10_tie_8 : decode cX10_tie 8 = .ok (.iconst 0, 1) := by decide +kernel
theorem dX10_tie_9 : decode cX10_tie 9 = .ok (.aload_n 0, 1) := by decide +kernel
theorem dX10_tie_10 : decode cX10_tie 10 = .ok (.getfield 28, 3) := by decide +kernel
theorem dX10_tie_13 : decode cX10_tie 13 = .ok (.invokevirtual 292, 3) := by decide +kernel
theorem dX10_tie_16 : decode cX10_tie 16 = .ok (.aload_n 0, 1) := by decide +kernel
theorem dX10_tie_17 : decode cX10_tie 17 = .ok (.getfield 73, 3) := by decide +kernel
theorem dX10_tie_20 : decode cX10_tie 20 = .ok (.invokevirtual 281, 3) := by decide +kernel
theorem dX10_tie_23 : decode cX10_tie 23 = .ok (.aload_n 0, 1) := by decide +kernel
theorem dX10_tie_24 : decode cX10_tie 24 = .ok (.getfield 79, 3) := by decide +kernel
theorem dX10_tie_27 : decode cX10_tie 27 = .ok (.invokevirtual 285, 3) := by decide +kernel
theorem dX10_tie_30 : decode cX10_tie 30 = .ok (.istore_n 1, 1) := by decide +kernel
theorem dX10_tie_31 : decode cX10_tie 31 = .ok (.iconst (-1), 1) := by decide +kernel
theorem dX10_tie_32 : decode cX10_tie 32 = .ok (.istore_n 2, 1) := by decide +kernel
theorem dX10_tie_33 : decode cX10_tie 33 = .ok (.iconst 0, 1) := by decide +kernel
theorem dX10_tie_34 : decode cX10_tie 34 = .ok (.istore_n 3, 1) := by decide +kernel
theorem dX10_tie_35 : decode cX10_tie 35 = .ok (.iload_n 3, 1) := by decide +kernel
theorem dX10_tie_36 : decode cX10_tie 36 = .ok (.aload_n 0, 1) := by decide +kernel
theorem dX10_tie_37 : decode cX10_tie 37 = .ok (.getfield 28, 3) := by decide +kernel
theorem dX10_tie_40 : decode cX10_tie 40 = .ok (.getfield 250, 3) := by decide +kernel
theorem dX10_tie_43 : decode cX10_tie 43 = .ok (.if_icmp .ge 55, 3) := by decide +kernel
theorem dX10_tie_46 : decode cX10_tie 46 = .ok (.iload_n 1, 1) := by decide +kernel
theorem dX10_tie_47 : decode cX10_tie 47 = .ok (.iload_n 3, 1) := by decide +kernel
theorem dX10_tie_48 : decode cX10_tie 48 = .ok (.invokestatic 253, 3) := by decide +kernel
theorem dX10_tie_51 : decode cX10_tie 51 = .ok (.ifCond .eq 41, 3) := by decide +kernel
theorem dX10_tie_54 : decode cX10_tie 54 = .ok (.aload_n 0, 1) := by decide +kernel
theorem dX10_tie_55 : decode cX10_tie 55 = .ok (.getfield 79, 3) := by decide +kernel
theorem dX10_tie_58 : decode cX10_tie 58 = .ok (.aload_n 0, 1) := by decide +kernel
theorem dX10_tie_59 : decode cX10_tie 59 = .ok (.getfield 28, 3) := by decide +kernel
theorem dX10_tie_62 : decode cX10_tie 62 = .ok (.iload_n 3, 1) := by decide +kernel
theorem dX10_tie_63 : decode cX10_tie 63 = .ok (.aload_n 0, 1) := by decide +kernel
theorem dX10_tie_64 : decode cX10_tie 64 = .ok (.getfield 48, 3) := by decide +kernel
theorem dX10_tie_67 : decode cX10_tie 67 = .ok (.getfield 278, 3) := by decide +kernel
theorem dX10_tie_70 : decode cX10_tie 70 = .ok (.aload_n 0, 1) := by decide +kernel
theorem dX10_tie_71 : decode cX10_tie 71 = .ok (.getfield 73, 3) := by decide +kernel
theorem dX10_tie_74 : decode cX10_tie 74 = .ok (.invokevirtual 281, 3) := by decide +kernel
theorem dX10_tie_77 : decode cX10_tie 77 = .ok (.iload_n 1, 1) := by decide +kernel
theorem dX10_tie_78 : decode cX10_tie 78 = .ok (.aload_n 0, 1) := by decide +kernel
theorem dX10_tie_79 : decode cX10_tie 79 = .ok (.getfield 79, 3) := by decide +kernel
theorem dX10_tie_82 : decode cX10_tie 82 = .ok (.invokevirtual 285, 3) := by decide +kernel
theorem dX10_tie_85 : decode cX10_tie 85 = .ok (.iconst (-1), 1) := by decide +kernel
theorem dX10_tie_86 : decode cX10_tie 86 = .ok (.ixor, 1) := by decide +kernel
theorem dX10_tie_87 : decode cX10_tie 87 = .ok (.iand, 1) := by decide +kernel
theorem dX10_tie_88 : decode cX10_tie 88 = .ok (.istore_n 1, 1) := by decide +kernel
theorem dX10_tie_89 : decode cX10_tie 89 = .ok (.iinc 2 1, 3) := by decide +kernel
theorem dX10_tie_92 : decode cX10_tie 92 = .ok (.iinc 3 1, 3) := by decide +kernel
theorem dX10_tie_95 : decode cX10_tie 95 = .ok (.goto (-60), 3) := by decide +kernel
theorem dX10_tie_98 : decode cX10_tie 98 = .ok (.iconst 0, 1) := by decide +kernel
theorem dX10_tie_99 : decode cX10_tie 99 = .ok (.iload_n 2, 1) := by decide +kernel
theorem dX10_tie_100 : decode cX10_tie 100 = .ok (.invokestatic 264, 3) := by decide +kernel
theorem dX10_tie_103 : decode cX10_tie 103 = .ok (.ireturn, 1) := by decide +kernel
theorem dX10_find_0 : decode cX10_find 0 = .ok (.aload_n 0, 1) := by decide +kernel
theorem dX10_find_1 : decode cX10_find 1 = .ok (.getfield 28, 3) := by decide +kernel
theorem dX10_find_4 : decode cX10_find 4 = .ok (.iload_n 1, 1) := by decide +kernel
theorem dX10_find_5 : decode cX10_find 5 = .ok (.invokevirtual 121, 3) := by decide +kernel
theorem dX10_find_8 : decode cX10_find 8 = .ok (.ifCond .eq 14, 3) := by decide +kernel
theorem dX10_find_11 : decode cX10_find 11 = .ok (.iload_n 2, 1) := by decide +kernel
theorem dX10_find_12 : decode cX10_find 12 = .ok (.ifCond .lt 10, 3) := by decide +kernel
theorem dX10_find_15 : decode cX10_find 15 = .ok (.iload_n 2, 1) := by decide +kernel
theorem dX10_find_16 : decode cX10_find 16 = .ok (.sipush 9999, 3) := by decide +kernel
theorem dX10_find_19 : decode cX10_find 19 = .ok (.if_icmp .le 5, 3) := by decide +kernel
theorem dX10_find_22 : decode cX10_find 22 = .ok (.iconst 0, 1) := by decide +kernel
theorem dX10_find_23 : decode cX10_find 23 = .ok (.ireturn, 1) := by decide +kernel
theorem dX10_find_24 : decode cX10_find 24 = .ok (.aload_n 0, 1) := by decide +kernel
theorem dX10_find_25 : decode cX10_find 25 = .ok (.getfield 65, 3) := by decide +kernel
theorem dX10_find_28 : decode cX10_find 28 = .ok (.iload_n 1, 1) := by decide +kernel
theorem dX10_find_29 : decode cX10_find 29 = .ok (.iload_n 2, 1) := by decide +kernel
theorem dX10_find_30 : decode cX10_find 30 = .ok (.invokevirtual 302, 3) := by decide +kernel
theorem dX10_find_33 : decode cX10_find 33 = .ok (.ireturn, 1) := by decide +kernel
theorem dX10_who_0 : decode cX10_who 0 = .ok (.iconst 0, 1) := by decide +kernel
theorem dX10_who_1 : decode cX10_who 1 = .ok (.istore_n 1, 1) := by decide +kernel
theorem dX10_who_2 : decode cX10_who 2 = .ok (.iconst 0, 1) := by decide +kernel
theorem dX10_who_3 : decode cX10_who 3 = .ok (.istore_n 2, 1) := by decide +kernel
theorem dX10_who_4 : decode cX10_who 4 = .ok (.iload_n 2, 1) := by decide +kernel
theorem dX10_who_5 : decode cX10_who 5 = .ok (.aload_n 0, 1) := by decide +kernel
theorem dX10_who_6 : decode cX10_who 6 = .ok (.getfield 28, 3) := by decide +kernel
theorem dX10_who_9 : decode cX10_who 9 = .ok (.getfield 244, 3) := by decide +kernel
theorem dX10_who_12 : decode cX10_who 12 = .ok (.if_icmp .ge 36, 3) := by decide +kernel
theorem dX10_who_15 : decode cX10_who 15 = .ok (.aload_n 0, 1) := by decide +kernel
theorem dX10_who_16 : decode cX10_who 16 = .ok (.iload_n 2, 1) := by decide +kernel
theorem dX10_who_17 : decode cX10_who 17 = .ok (.invokevirtual 305, 3) := by decide +kernel
theorem dX10_who_20 : decode cX10_who 20 = .ok (.aload_n 0, 1) := by decide +kernel
theorem dX10_who_21 : decode cX10_who 21 = .ok (.getfield 65, 3) := by decide +kernel
theorem dX10_who_24 : decode cX10_who 24 = .ok (.aload_n 0, 1) := by decide +kernel
theorem dX10_who_25 : decode cX10_who 25 = .ok (.getfield 83, 3) := by decide +kernel
theorem dX10_who_28 : decode cX10_who 28 = .ok (.iload_n 2, 1) := by decide +kernel
theorem dX10_who_29 : decode cX10_who 29 = .ok (.aaload, 1) := by decide +kernel
theorem dX10_who_30 : decode cX10_who 30 = .ok (.invokevirtual 308, 3) := by decide +kernel
theorem dX10_who_33 : decode cX10_who 33 = .ok (.ifCond .eq 9, 3) := by decide +kernel
theorem dX10_who_36 : decode cX10_who 36 = .ok (.iload_n 1, 1) := by decide +kernel
theorem dX10_who_37 : decode cX10_who 37 = .ok (.iconst 1, 1) := by decide +kernel
theorem dX10_who_38 : decode cX10_who 38 = .ok (.iload_n 2, 1) := by decide +kernel
theorem dX10_who_39 : decode cX10_who 39 = .ok (.ishl, 1) := by decide +kernel
theorem dX10_who_40 : decode cX10_who 40 = .ok (.ior, 1) := by decide +kernel
theorem dX10_who_41 : decode cX10_who 41 = .ok (.istore_n 1, 1) := by decide +kernel
theorem dX10_who_42 : decode cX10_who 42 = .ok (.iinc 2 1, 3) := by decide +kernel
theorem dX10_who_45 : decode cX10_who 45 = .ok (.goto (-41), 3) := by decide +kernel
theorem dX10_who_48 : decode cX10_who 48 = .ok (.iload_n 1, 1) := by decide +kernel
theorem dX10_who_49 : decode cX10_who 49 = .ok (.ireturn, 1) := by decide +kernel
theorem dX10_ask_0 : decode cX10_ask 0 = .ok (.aload_n 0, 1) := by decide +kernel
theorem dX10_ask_1 : decode cX10_ask 1 = .ok (.invokevirtual 312, 3) := by decide +kernel
theorem dX10_ask_4 : decode cX10_ask 4 = .ok (.istore_n 1, 1) := by decide +kernel
theorem dX10_ask_5 : decode cX10_ask 5 = .ok (.iconst (-1), 1) := by decide +kernel
theorem dX10_ask_6 : decode cX10_ask 6 = .ok (.istore_n 2, 1) := by decide +kernel
theorem dX10_ask_7 : decode cX10_ask 7 = .ok (.iload_n 1, 1) := by decide +kernel
theorem dX10_ask_8 : decode cX10_ask 8 = .ok (.invokestatic 225, 3) := by decide +kernel
theorem dX10_ask_11 : decode cX10_ask 11 = .ok (.istore_n 3, 1) := by decide +kernel
theorem dX10_ask_12 : decode cX10_ask 12 = .ok (.iconst 0, 1) := by decide +kernel
theorem dX10_ask_13 : decode cX10_ask 13 = .ok (.istore 4, 2) := by decide +kernel
theorem dX10_ask_15 : decode cX10_ask 15 = .ok (.iload 4, 2) := by decide +kernel
theorem dX10_ask_17 : decode cX10_ask 17 = .ok (.aload_n 0, 1) := by decide +kernel
theorem dX10_ask_18 : decode cX10_ask 18 = .ok (.getfield 28, 3) := by decide +kernel
theorem dX10_ask_21 : decode cX10_ask 21 = .ok (.getfield 250, 3) := by decide +kernel
theorem dX10_ask_24 : decode cX10_ask 24 = .ok (.if_icmp .ge 30, 3) := by decide +kernel
theorem dX10_ask_27 : decode cX10_ask 27 = .ok (.aload_n 0, 1) := by decide +kernel
theorem dX10_ask_28 : decode cX10_ask 28 = .ok (.iload_n 1, 1) := by decide +kernel
theorem dX10_ask_29 : decode cX10_ask 29 = .ok (.iload 4, 2) := by decide +kernel
theorem dX10_ask_31 : decode cX10_ask 31 = .ok (.invokevirtual 315, 3) := by decide +kernel
theorem dX10_ask_34 : decode cX10_ask 34 = .ok (.istore 5, 2) := by decide +kernel
theorem dX10_ask_36 : decode cX10_ask 36 = .ok (.iload 5, 2) := by decide +kernel
theorem dX10_ask_38 : decode cX10_ask 38 = .ok (.iload_n 3, 1) := by decide +kernel
theorem dX10_ask_39 : decode cX10_ask 39 = .ok (.if_icmp .ge 9, 3) := by decide +kernel
theorem dX10_ask_42 : decode cX10_ask 42 = .ok (.iload 4, 2) := by decide +kernel
theorem dX10_ask_44 : decode cX10_ask 44 = .ok (.istore_n 2, 1) := by decide +kernel
theorem dX10_ask_45 : decode cX10_ask 45 = .ok (.iload 5, 2) := by decide +kernel
theorem dX10_ask_47 : decode cX10_ask 47 = .ok (.istore_n 3, 1) := by decide +kernel
theorem dX10_ask_48 : decode cX10_ask 48 = .ok (.iinc 4 1, 3) := by decide +kernel
theorem dX10_ask_51 : decode cX10_ask 51 = .ok (.goto (-36), 3) := by decide +kernel
theorem dX10_ask_54 : decode cX10_ask 54 = .ok (.iload_n 2, 1) := by decide +kernel
theorem dX10_ask_55 : decode cX10_ask 55 = .ok (.ireturn, 1) := by decide +kernel
theorem dX10_bell_0 : decode cX10_bell 0 = .ok (.iconst (-1), 1) := by decide +kernel
theorem dX10_bell_1 : decode cX10_bell 1 = .ok (.istore_n 1, 1) := by decide +kernel
theorem dX10_bell_2 : decode cX10_bell 2 = .ok (.iconst 0, 1) := by decide +kernel
theorem dX10_bell_3 : decode cX10_bell 3 = .ok (.istore_n 2, 1) := by decide +kernel
theorem dX10_bell_4 : decode cX10_bell 4 = .ok (.iload_n 2, 1) := by decide +kernel
theorem dX10_bell_5 : decode cX10_bell 5 = .ok (.aload_n 0, 1) := by decide +kernel
theorem dX10_bell_6 : decode cX10_bell 6 = .ok (.getfield 28, 3) := by decide +kernel
theorem dX10_bell_9 : decode cX10_bell 9 = .ok (.getfield 250, 3) := by decide +kernel
theorem dX10_bell_12 : decode cX10_bell 12 = .ok (.if_icmp .ge 41, 3) := by decide +kernel
theorem dX10_bell_15 : decode cX10_bell 15 = .ok (.aload_n 0, 1) := by decide +kernel
theorem dX10_bell_16 : decode cX10_bell 16 = .ok (.getfield 48, 3) := by decide +kernel
theorem dX10_bell_19 : decode cX10_bell 19 = .ok (.getfield 128, 3) := by decide +kernel
theorem dX10_bell_22 : decode cX10_bell 22 = .ok (.iload_n 2, 1) := by decide +kernel
theorem dX10_bell_23 : decode cX10_bell 23 = .ok (.iaload, 1) := by decide +kernel
theorem dX10_bell_24 : decode cX10_bell 24 = .ok (.iload_n 1, 1) := by decide +kernel
theorem dX10_bell_25 : decode cX10_bell 25 = .ok (.iconst (-1), 1) := by decide +kernel
theorem dX10_bell_26 : decode cX10_bell 26 = .ok (.if_icmp .ne 7, 3) := by decide +kernel
theorem dX10_bell_29 : decode cX10_bell 29 = .ok (.iconst 0, 1) := by decide +kernel
theorem dX10_bell_30 : decode cX10_bell 30 = .ok (.goto 12, 3) := by decide +kernel
theorem dX10_bell_33 : decode cX10_bell 33 = .ok (.aload_n 0, 1) := by decide +kernel
theorem dX10_bell_34 : decode cX10_bell 34 = .ok (.getfield 48, 3) := by decide +kernel
theorem dX10_bell_37 : decode cX10_bell 37 = .ok (.getfield 128, 3) := by decide +kernel
theorem dX10_bell_40 : decode cX10_bell 40 = .ok (.iload_n 1, 1) := by decide +kernel
theorem dX10_bell_41 : decode cX10_bell 41 = .ok (.iaload, 1) := by decide +kernel
theorem dX10_bell_42 : decode cX10_bell 42 = .ok (.if_icmp .le 5, 3) := by decide +kernel
theorem dX10_bell_45 : decode cX10_bell 45 = .ok (.iload_n 2, 1) := by decide +kernel
theorem dX10_bell_46 : decode cX10_bell 46 = .ok (.istore_n 1, 1) := by decide +kernel
theorem dX10_bell_47 : decode cX10_bell 47 = .ok (.iinc 2 1, 3) := by decide +kernel
theorem dX10_bell_50 : decode cX10_bell 50 = .ok (.goto (-46), 3) := by decide +kernel
theorem dX10_bell_53 : decode cX10_bell 53 = .ok (.iload_n 1, 1) := by decide +kernel
theorem dX10_bell_54 : decode cX10_bell 54 = .ok (.ireturn, 1) := by decide +kernel
theorem dX10_slate_0 : decode cX10_slate 0 = .ok (.iconst (-1), 1) := by decide +kernel
theorem dX10_slate_1 : decode cX10_slate 1 = .ok (.istore_n 1, 1) := by decide +kernel
theorem dX10_slate_2 : decode cX10_slate 2 = .ok (.iconst 0, 1) := by decide +kernel
theorem dX10_slate_3 : decode cX10_slate 3 = .ok (.istore_n 2, 1) := by decide +kernel
theorem dX10_slate_4 : decode cX10_slate 4 = .ok (.iload_n 2, 1) := by decide +kernel
theorem dX10_slate_5 : decode cX10_slate 5 = .ok (.aload_n 0, 1) := by decide +kernel
theorem dX10_slate_6 : decode cX10_slate 6 = .ok (.getfield 28, 3) := by decide +kernel
theorem dX10_slate_9 : decode cX10_slate 9 = .ok (.getfield 244, 3) := by decide +kernel
theorem dX10_slate_12 : decode cX10_slate 12 = .ok (.if_icmp .ge 48, 3) := by decide +kernel
theorem dX10_slate_15 : decode cX10_slate 15 = .ok (.aload_n 0, 1) := by decide +kernel
theorem dX10_slate_16 : decode cX10_slate 16 = .ok (.getfield 48, 3) := by decide +kernel
theorem dX10_slate_19 : decode cX10_slate 19 = .ok (.iload_n 2, 1) := by decide +kernel
theorem dX10_slate_20 : decode cX10_slate 20 = .ok (.invokevirtual 176, 3) := by decide +kernel
theorem dX10_slate_23 : decode cX10_slate 23 = .ok (.ifCond .ne 31, 3) := by decide +kernel
theorem dX10_slate_26 : decode cX10_slate 26 = .ok (.iload_n 1, 1) := by decide +kernel
theorem dX10_slate_27 : decode cX10_slate 27 = .ok (.iconst (-1), 1) := by decide +kernel
theorem dX10_slate_28 : decode cX10_slate 28 = .ok (.if_icmp .eq 24, 3) := by decide +kernel
theorem dX10_slate_31 : decode cX10_slate 31 = .ok (.aload_n 0, 1) := by decide +kernel
theorem dX10_slate_32 : decode cX10_slate 32 = .ok (.getfield 48, 3) := by decide +kernel
theorem dX10_slate_35 : decode cX10_slate 35 = .ok (.getfield 170, 3) := by decide +kernel
theorem dX10_slate_38 : decode cX10_slate 38 = .ok (.iload_n 2, 1) := by decide +kernel
theorem dX10_slate_39 : decode cX10_slate 39 = .ok (.iaload, 1) := by decide +kernel
theorem dX10_slate_40 : decode cX10_slate 40 = .ok (.aload_n 0, 1) := by decide +kernel
theorem dX10_slate_41 : decode cX10_slate 41 = .ok (.getfield 48, 3) := by decide +kernel
theorem dX10_slate_44 : decode cX10_slate 44 = .ok (.getfield 170, 3) := by decide +kernel
theorem dX10_slate_47 : decode cX10_slate 47 = .ok (.iload_n 1, 1) := by decide +kernel
theorem dX10_slate_48 : decode cX10_slate 48 = .ok (.iaload, 1) := by decide +kernel
theorem dX10_slate_49 : decode cX10_slate 49 = .ok (.if_icmp .ge 5, 3) := by decide +kernel
theorem dX10_slate_52 : decode cX10_slate 52 = .ok (.iload_n 2, 1) := by decide +kernel
theorem dX10_slate_53 : decode cX10_slate 53 = .ok (.istore_n 1, 1) := by decide +kernel
theorem dX10_slate_54 : decode cX10_slate 54 = .ok (.iinc 2 1, 3) := by decide +kernel
theorem dX10_slate_57 : decode cX10_slate 57 = .ok (.goto (-53), 3) := by decide +kernel
theorem dX10_slate_60 : decode cX10_slate 60 = .ok (.iload_n 1, 1) := by decide +kernel
theorem dX10_slate_61 : decode cX10_slate 61 = .ok (.ireturn, 1) := by decide +kernel
theorem dX10_together_0 : decode cX10_together 0 = .ok (.iconst 0, 1) := by decide +kernel
theorem dX10_together_1 : decode cX10_together 1 = .ok (.istore_n 1, 1) := by decide +kernel
theorem dX10_together_2 : decode cX10_together 2 = .ok (.iconst 0, 1) := by decide +kernel
theorem dX10_together_3 : decode cX10_together 3 = .ok (.istore_n 2, 1) := by decide +kernel
theorem dX10_together_4 : decode cX10_together 4 = .ok (.iload_n 2, 1) := by decide +kernel
theorem dX10_together_5 : decode cX10_together 5 = .ok (.aload_n 0, 1) := by decide +kernel
theorem dX10_together_6 : decode cX10_together 6 = .ok (.getfield 28, 3) := by decide +kernel
theorem dX10_together_9 : decode cX10_together 9 = .ok (.getfield 244, 3) := by decide +kernel
