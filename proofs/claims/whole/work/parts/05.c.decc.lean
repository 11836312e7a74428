theorem d_CR_gatherSteps_45 : decode b_CR_gatherSteps 45 = .ok (.invokevirtual 60, 3) := by decide +kernel
theorem d_CR_gatherSteps_48 : decode b_CR_gatherSteps 48 = .ok (.istore_n 3, 1) := by decide +kernel
theorem d_CR_gatherSteps_49 : decode b_CR_gatherSteps 49 = .ok (.iload_n 3, 1) := by decide +kernel
theorem d_CR_gatherSteps_50 : decode b_CR_gatherSteps 50 = .ok (.iconst (-1), 1) := by decide +kernel
theorem d_CR_gatherSteps_51 : decode b_CR_gatherSteps 51 = .ok (.if_icmp .eq 32, 3) := by decide +kernel
theorem d_CR_gatherSteps_54 : decode b_CR_gatherSteps 54 = .ok (.iload_n 1, 1) := by decide +kernel
theorem d_CR_gatherSteps_55 : decode b_CR_gatherSteps 55 = .ok (.bipush 16, 2) := by decide +kernel
theorem d_CR_gatherSteps_57 : decode b_CR_gatherSteps 57 = .ok (.imul, 1) := by decide +kernel
theorem d_CR_gatherSteps_58 : decode b_CR_gatherSteps 58 = .ok (.iload_n 2, 1) := by decide +kernel
theorem d_CR_gatherSteps_59 : decode b_CR_gatherSteps 59 = .ok (.iadd, 1) := by decide +kernel
theorem d_CR_gatherSteps_60 : decode b_CR_gatherSteps 60 = .ok (.istore 4, 2) := by decide +kernel
theorem d_CR_gatherSteps_62 : decode b_CR_gatherSteps 62 = .ok (.aload_n 0, 1) := by decide +kernel
theorem d_CR_gatherSteps_63 : decode b_CR_gatherSteps 63 = .ok (.getfield 15, 3) := by decide +kernel
theorem d_CR_gatherSteps_66 : decode b_CR_gatherSteps 66 = .ok (.iload 4, 2) := by decide +kernel
theorem d_CR_gatherSteps_68 : decode b_CR_gatherSteps 68 = .ok (.aload_n 0, 1) := by decide +kernel
theorem d_CR_gatherSteps_69 : decode b_CR_gatherSteps 69 = .ok (.getfield 9, 3) := by decide +kernel
theorem d_CR_gatherSteps_72 : decode b_CR_gatherSteps 72 = .ok (.iload_n 3, 1) := by decide +kernel
theorem d_CR_gatherSteps_73 : decode b_CR_gatherSteps 73 = .ok (.iaload, 1) := by decide +kernel
theorem d_CR_gatherSteps_74 : decode b_CR_gatherSteps 74 = .ok (.iastore, 1) := by decide +kernel
theorem d_CR_gatherSteps_75 : decode b_CR_gatherSteps 75 = .ok (.aload_n 0, 1) := by decide +kernel
theorem d_CR_gatherSteps_76 : decode b_CR_gatherSteps 76 = .ok (.getfield 9, 3) := by decide +kernel
theorem d_CR_gatherSteps_79 : decode b_CR_gatherSteps 79 = .ok (.iload_n 3, 1) := by decide +kernel
theorem d_CR_gatherSteps_80 : decode b_CR_gatherSteps 80 = .ok (.iload 4, 2) := by decide +kernel
theorem d_CR_gatherSteps_82 : decode b_CR_gatherSteps 82 = .ok (.iastore, 1) := by decide +kernel
theorem d_CR_gatherSteps_83 : decode b_CR_gatherSteps 83 = .ok (.iinc 2 1, 3) := by decide +kernel
theorem d_CR_gatherSteps_86 : decode b_CR_gatherSteps 86 = .ok (.goto (-63), 3) := by decide +kernel
theorem d_CR_gatherSteps_89 : decode b_CR_gatherSteps 89 = .ok (.iinc 1 1, 3) := by decide +kernel
theorem d_CR_gatherSteps_92 : decode b_CR_gatherSteps 92 = .ok (.goto (-82), 3) := by decide +kernel
theorem d_CR_gatherSteps_95 : decode b_CR_gatherSteps 95 = .ok (.return_, 1) := by decide +kernel
theorem d_CR_closeAt_0 : decode b_CR_closeAt 0 = .ok (.aload_n 0, 1) := by decide +kernel
theorem d_CR_closeAt_1 : decode b_CR_closeAt 1 = .ok (.getfield 18, 3) := by decide +kernel
theorem d_CR_closeAt_4 : decode b_CR_closeAt 4 = .ok (.iconst 0, 1) := by decide +kernel
theorem d_CR_closeAt_5 : decode b_CR_closeAt 5 = .ok (.invokestatic 47, 3) := by decide +kernel
theorem d_CR_closeAt_8 : decode b_CR_closeAt 8 = .ok (.aload_n 0, 1) := by decide +kernel
theorem d_CR_closeAt_9 : decode b_CR_closeAt 9 = .ok (.getfield 21, 3) := by decide +kernel
theorem d_CR_closeAt_12 : decode b_CR_closeAt 12 = .ok (.iconst 0, 1) := by decide +kernel
theorem d_CR_closeAt_13 : decode b_CR_closeAt 13 = .ok (.iload_n 1, 1) := by decide +kernel
theorem d_CR_closeAt_14 : decode b_CR_closeAt 14 = .ok (.iastore, 1) := by decide +kernel
theorem d_CR_closeAt_15 : decode b_CR_closeAt 15 = .ok (.iconst 1, 1) := by decide +kernel
theorem d_CR_closeAt_16 : decode b_CR_closeAt 16 = .ok (.istore_n 2, 1) := by decide +kernel
theorem d_CR_closeAt_17 : decode b_CR_closeAt 17 = .ok (.iconst 0, 1) := by decide +kernel
theorem d_CR_closeAt_18 : decode b_CR_closeAt 18 = .ok (.istore_n 3, 1) := by decide +kernel
theorem d_CR_closeAt_19 : decode b_CR_closeAt 19 = .ok (.iload_n 3, 1) := by decide +kernel
theorem d_CR_closeAt_20 : decode b_CR_closeAt 20 = .ok (.iload_n 2, 1) := by decide +kernel
theorem d_CR_closeAt_21 : decode b_CR_closeAt 21 = .ok (.if_icmp .ge 142, 3) := by decide +kernel
theorem d_CR_closeAt_24 : decode b_CR_closeAt 24 = .ok (.iload_n 3, 1) := by decide +kernel
theorem d_CR_closeAt_25 : decode b_CR_closeAt 25 = .ok (.sipush 160, 3) := by decide +kernel
theorem d_CR_closeAt_28 : decode b_CR_closeAt 28 = .ok (.if_icmp .ge 135, 3) := by decide +kernel
theorem d_CR_closeAt_31 : decode b_CR_closeAt 31 = .ok (.aload_n 0, 1) := by decide +kernel
theorem d_CR_closeAt_32 : decode b_CR_closeAt 32 = .ok (.getfield 18, 3) := by decide +kernel
theorem d_CR_closeAt_35 : decode b_CR_closeAt 35 = .ok (.iload_n 1, 1) := by decide +kernel
theorem d_CR_closeAt_36 : decode b_CR_closeAt 36 = .ok (.iaload, 1) := by decide +kernel
theorem d_CR_closeAt_37 : decode b_CR_closeAt 37 = .ok (.ifCond .ne 126, 3) := by decide +kernel
theorem d_CR_closeAt_40 : decode b_CR_closeAt 40 = .ok (.aload_n 0, 1) := by decide +kernel
theorem d_CR_closeAt_41 : decode b_CR_closeAt 41 = .ok (.getfield 21, 3) := by decide +kernel
theorem d_CR_closeAt_44 : decode b_CR_closeAt 44 = .ok (.iload_n 3, 1) := by decide +kernel
theorem d_CR_closeAt_45 : decode b_CR_closeAt 45 = .ok (.iaload, 1) := by decide +kernel
theorem d_CR_closeAt_46 : decode b_CR_closeAt 46 = .ok (.istore 4, 2) := by decide +kernel
theorem d_CR_closeAt_48 : decode b_CR_closeAt 48 = .ok (.aload_n 0, 1) := by decide +kernel
theorem d_CR_closeAt_49 : decode b_CR_closeAt 49 = .ok (.getfield 9, 3) := by decide +kernel
theorem d_CR_closeAt_52 : decode b_CR_closeAt 52 = .ok (.iload 4, 2) := by decide +kernel
theorem d_CR_closeAt_54 : decode b_CR_closeAt 54 = .ok (.iaload, 1) := by decide +kernel
theorem d_CR_closeAt_55 : decode b_CR_closeAt 55 = .ok (.istore 5, 2) := by decide +kernel
theorem d_CR_closeAt_57 : decode b_CR_closeAt 57 = .ok (.iconst 0, 1) := by decide +kernel
theorem d_CR_closeAt_58 : decode b_CR_closeAt 58 = .ok (.istore 6, 2) := by decide +kernel
theorem d_CR_closeAt_60 : decode b_CR_closeAt 60 = .ok (.iload 6, 2) := by decide +kernel
theorem d_CR_closeAt_62 : decode b_CR_closeAt 62 = .ok (.sipush 256, 3) := by decide +kernel
theorem d_CR_closeAt_65 : decode b_CR_closeAt 65 = .ok (.if_icmp .ge 92, 3) := by decide +kernel
theorem d_CR_closeAt_68 : decode b_CR_closeAt 68 = .ok (.iload 5, 2) := by decide +kernel
theorem d_CR_closeAt_70 : decode b_CR_closeAt 70 = .ok (.iconst (-1), 1) := by decide +kernel
theorem d_CR_closeAt_71 : decode b_CR_closeAt 71 = .ok (.if_icmp .eq 86, 3) := by decide +kernel
theorem d_CR_closeAt_74 : decode b_CR_closeAt 74 = .ok (.aload_n 0, 1) := by decide +kernel
theorem d_CR_closeAt_75 : decode b_CR_closeAt 75 = .ok (.getfield 24, 3) := by decide +kernel
theorem d_CR_closeAt_78 : decode b_CR_closeAt 78 = .ok (.getfield 66, 3) := by decide +kernel
theorem d_CR_closeAt_81 : decode b_CR_closeAt 81 = .ok (.iload 5, 2) := by decide +kernel
theorem d_CR_closeAt_83 : decode b_CR_closeAt 83 = .ok (.iaload, 1) := by decide +kernel
theorem d_CR_closeAt_84 : decode b_CR_closeAt 84 = .ok (.istore 7, 2) := by decide +kernel
theorem d_CR_closeAt_86 : decode b_CR_closeAt 86 = .ok (.iload 7, 2) := by decide +kernel
theorem d_CR_closeAt_88 : decode b_CR_closeAt 88 = .ok (.iconst (-1), 1) := by decide +kernel
theorem d_CR_closeAt_89 : decode b_CR_closeAt 89 = .ok (.if_icmp .eq 53, 3) := by decide +kernel
theorem d_CR_closeAt_92 : decode b_CR_closeAt 92 = .ok (.aload_n 0, 1) := by decide +kernel
theorem d_CR_closeAt_93 : decode b_CR_closeAt 93 = .ok (.getfield 18, 3) := by decide +kernel
theorem d_CR_closeAt_96 : decode b_CR_closeAt 96 = .ok (.iload 7, 2) := by decide +kernel
theorem d_CR_closeAt_98 : decode b_CR_closeAt 98 = .ok (.iaload, 1) := by decide +kernel
theorem d_CR_closeAt_99 : decode b_CR_closeAt 99 = .ok (.ifCond .ne 43, 3) := by decide +kernel
theorem d_CR_closeAt_102 : decode b_CR_closeAt 102 = .ok (.aload_n 0, 1) := by decide +kernel
theorem d_CR_closeAt_103 : decode b_CR_closeAt 103 = .ok (.getfield 18, 3) := by decide +kernel
theorem d_CR_closeAt_106 : decode b_CR_closeAt 106 = .ok (.iload 7, 2) := by decide +kernel
theorem d_CR_closeAt_108 : decode b_CR_closeAt 108 = .ok (.aload_n 0, 1) := by decide +kernel
theorem d_CR_closeAt_109 : decode b_CR_closeAt 109 = .ok (.getfield 18, 3) := by decide +kernel
theorem d_CR_closeAt_112 : decode b_CR_closeAt 112 = .ok (.iload 4, 2) := by decide +kernel
theorem d_CR_closeAt_114 : decode b_CR_closeAt 114 = .ok (.iaload, 1) := by decide +kernel
theorem d_CR_closeAt_115 : decode b_CR_closeAt 115 = .ok (.iconst 1, 1) := by decide +kernel
theorem d_CR_closeAt_116 : decode b_CR_closeAt 116 = .ok (.iadd, 1) := by decide +kernel
theorem d_CR_closeAt_117 : decode b_CR_closeAt 117 = .ok (.iastore, 1) := by decide +kernel
theorem d_CR_closeAt_118 : decode b_CR_closeAt 118 = .ok (.iload 7, 2) := by decide +kernel
theorem d_CR_closeAt_120 : decode b_CR_closeAt 120 = .ok (.iload_n 1, 1) := by decide +kernel
theorem d_CR_closeAt_121 : decode b_CR_closeAt 121 = .ok (.if_icmp .eq 21, 3) := by decide +kernel
theorem d_CR_closeAt_124 : decode b_CR_closeAt 124 = .ok (.iload_n 2, 1) := by decide +kernel
theorem d_CR_closeAt_125 : decode b_CR_closeAt 125 = .ok (.sipush 160, 3) := by decide +kernel
theorem d_CR_closeAt_128 : decode b_CR_closeAt 128 = .ok (.if_icmp .ge 14, 3) := by decide +kernel
theorem d_CR_closeAt_131 : decode b_CR_closeAt 131 = .ok (.aload_n 0, 1) := by decide +kernel
theorem d_CR_closeAt_132 : decode b_CR_closeAt 132 = .ok (.getfield 21, 3) := by decide +kernel
theorem d_CR_closeAt_135 : decode b_CR_closeAt 135 = .ok (.iload_n 2, 1) := by decide +kernel
theorem d_CR_closeAt_136 : decode b_CR_closeAt 136 = .ok (.iload 7, 2) := by decide +kernel
theorem d_CR_closeAt_138 : decode b_CR_closeAt 138 = .ok (.iastore, 1) := by decide +kernel
theorem d_CR_closeAt_139 : decode b_CR_closeAt 139 = .ok (.iinc 2 1, 3) := by decide +kernel
theorem d_CR_closeAt_142 : decode b_CR_closeAt 142 = .ok (.aload_n 0, 1) := by decide +kernel
theorem d_CR_closeAt_143 : decode b_CR_closeAt 143 = .ok (.getfield 15, 3) := by decide +kernel
theorem d_CR_closeAt_146 : decode b_CR_closeAt 146 = .ok (.iload 5, 2) := by decide +kernel
theorem d_CR_closeAt_148 : decode b_CR_closeAt 148 = .ok (.iaload, 1) := by decide +kernel
theorem d_CR_closeAt_149 : decode b_CR_closeAt 149 = .ok (.istore 5, 2) := by decide +kernel
theorem d_CR_closeAt_151 : decode b_CR_closeAt 151 = .ok (.iinc 6 1, 3) := by decide +kernel
theorem d_CR_closeAt_154 : decode b_CR_closeAt 154 = .ok (.goto (-94), 3) := by decide +kernel
theorem d_CR_closeAt_157 : decode b_CR_closeAt 157 = .ok (.iinc 3 1, 3) := by decide +kernel
theorem d_CR_closeAt_160 : decode b_CR_closeAt 160 = .ok (.goto (-141), 3) := by decide +kernel
theorem d_CR_closeAt_163 : decode b_CR_closeAt 163 = .ok (.aload_n 0, 1) := by decide +kernel
theorem d_CR_closeAt_164 : decode b_CR_closeAt 164 = .ok (.getfield 18, 3) := by decide +kernel
theorem d_CR_closeAt_167 : decode b_CR_closeAt 167 = .ok (.iload_n 1, 1) := by decide +kernel
theorem d_CR_closeAt_168 : decode b_CR_closeAt 168 = .ok (.iaload, 1) := by decide +kernel
theorem d_CR_closeAt_169 : decode b_CR_closeAt 169 = .ok (.ireturn, 1) := by decide +kernel
theorem d_CR_search_0 : decode b_CR_search 0 = .ok (.aload_n 0, 1) := by decide +kernel
theorem d_CR_search_1 : decode b_CR_search 1 = .ok (.invokevirtual 28, 3) := by decide +kernel
theorem d_CR_search_4 : decode b_CR_search 4 = .ok (.aload_n 0, 1) := by decide +kernel
theorem d_CR_search_5 : decode b_CR_search 5 = .ok (.iconst (-1), 1) := by decide +kernel
theorem d_CR_search_6 : decode b_CR_search 6 = .ok (.putfield 31, 3) := by decide +kernel
theorem d_CR_search_9 : decode b_CR_search 9 = .ok (.aload_n 0, 1) := by decide +kernel
theorem d_CR_search_10 : decode b_CR_search 10 = .ok (.iconst 0, 1) := by decide +kernel
theorem d_CR_search_11 : decode b_CR_search 11 = .ok (.putfield 35, 3) := by decide +kernel
theorem d_CR_search_14 : decode b_CR_search 14 = .ok (.iconst 0, 1) := by decide +kernel
theorem d_CR_search_15 : decode b_CR_search 15 = .ok (.istore_n 1, 1) := by decide +kernel
theorem d_CR_search_16 : decode b_CR_search 16 = .ok (.iload_n 1, 1) := by decide +kernel
theorem d_CR_search_17 : decode b_CR_search 17 = .ok (.aload_n 0, 1) := by decide +kernel
theorem d_CR_search_18 : decode b_CR_search 18 = .ok (.getfield 24, 3) := by decide +kernel
theorem d_CR_search_21 : decode b_CR_search 21 = .ok (.getfield 38, 3) := by decide +kernel
theorem d_CR_search_24 : decode b_CR_search 24 = .ok (.iconst 4, 1) := by decide +kernel
theorem d_CR_search_25 : decode b_CR_search 25 = .ok (.imul, 1) := by decide +kernel
theorem d_CR_search_26 : decode b_CR_search 26 = .ok (.if_icmp .ge 44, 3) := by decide +kernel
theorem d_CR_search_29 : decode b_CR_search 29 = .ok (.aload_n 0, 1) := by decide +kernel
theorem d_CR_search_30 : decode b_CR_search 30 = .ok (.iload_n 1, 1) := by decide +kernel
theorem d_CR_search_31 : decode b_CR_search 31 = .ok (.invokevirtual 43, 3) := by decide +kernel
theorem d_CR_search_34 : decode b_CR_search 34 = .ok (.istore_n 2, 1) := by decide +kernel
theorem d_CR_search_35 : decode b_CR_search 35 = .ok (.iload_n 2, 1) := by decide +kernel
theorem d_CR_search_36 : decode b_CR_search 36 = .ok (.ifCond .eq 28, 3) := by decide +kernel
theorem d_CR_search_39 : decode b_CR_search 39 = .ok (.aload_n 0, 1) := by decide +kernel
theorem d_CR_search_40 : decode b_CR_search 40 = .ok (.getfield 35, 3) := by decide +kernel
theorem d_CR_search_43 : decode b_CR_search 43 = .ok (.ifCond .eq 11, 3) := by decide +kernel
theorem d_CR_search_46 : decode b_CR_search 46 = .ok (.iload_n 2, 1) := by decide +kernel
theorem d_CR_search_47 : decode b_CR_search 47 = .ok (.aload_n 0, 1) := by decide +kernel
theorem d_CR_search_48 : decode b_CR_search 48 = .ok (.getfield 35, 3) := by decide +kernel
theorem d_CR_search_51 : decode b_CR_search 51 = .ok (.if_icmp .ge 13, 3) := by decide +kernel
theorem d_CR_search_54 : decode b_CR_search 54 = .ok (.aload_n 0, 1) := by decide +kernel
theorem d_CR_search_55 : decode b_CR_search 55 = .ok (.iload_n 1, 1) := by decide +kernel
theorem d_CR_search_56 : decode b_CR_search 56 = .ok (.putfield 31, 3) := by decide +kernel
theorem d_CR_search_59 : decode b_CR_search 59 = .ok (.aload_n 0, 1) := by decide +kernel
theorem d_CR_search_60 : decode b_CR_search 60 = .ok (.iload_n 2, 1) := by decide +kernel
theorem d_CR_search_61 : decode b_CR_search 61 = .ok (.putfield 35, 3) := by decide +kernel
theorem d_CR_search_64 : decode b_CR_search 64 = .ok (.iinc 1 1, 3) := by decide +kernel
theorem d_CR_search_67 : decode b_CR_search 67 = .ok (.goto (-51), 3) := by decide +kernel
theorem d_CR_search_70 : decode b_CR_search 70 = .ok (.return_, 1) := by decide +kernel
theorem d_CN_ring_0 : decode b_CN_ring 0 = .ok (.aload_n 0, 1) := by decide +kernel
theorem d_CN_ring_1 : decode b_CN_ring 1 = .ok (.getfield 50, 3) := by decide +kernel
theorem d_CN_ring_4 : decode b_CN_ring 4 = .ok (.invokevirtual 197, 3) := by decide +kernel
theorem d_CN_ring_7 : decode b_CN_ring 7 = .ok (.aload_n 0, 1) := by decide +kernel
theorem d_CN_ring_8 : decode b_CN_ring 8 = .ok (.getfield 50, 3) := by decide +kernel
theorem d_CN_ring_11 : decode b_CN_ring 11 = .ok (.getfield 200, 3) := by decide +kernel
theorem d_CN_ring_14 : decode b_CN_ring 14 = .ok (.ireturn, 1) := by decide +kernel
theorem d_CR_lowestThatCloses_0 : decode b_CR_lowestThatCloses 0 = .ok (.aload_n 0, 1) := by decide +kernel
theorem d_CR_lowestThatCloses_1 : decode b_CR_lowestThatCloses 1 = .ok (.getfield 24, 3) := by decide +kernel
theorem d_CR_lowestThatCloses_4 : decode b_CR_lowestThatCloses 4 = .ok (.iload_n 1, 1) := by decide +kernel
theorem d_CR_lowestThatCloses_5 : decode b_CR_lowestThatCloses 5 = .ok (.invokevirtual 72, 3) := by decide +kernel
theorem d_CR_lowestThatCloses_8 : decode b_CR_lowestThatCloses 8 = .ok (.istore_n 3, 1) := by decide +kernel
theorem d_CR_lowestThatCloses_9 : decode b_CR_lowestThatCloses 9 = .ok (.iconst (-1), 1) := by decide +kernel
theorem d_CR_lowestThatCloses_10 : decode b_CR_lowestThatCloses 10 = .ok (.istore 4, 2) := by decide +kernel
theorem d_CR_lowestThatCloses_12 : decode b_CR_lowestThatCloses 12 = .ok (.iconst 0, 1) := by decide +kernel
theorem d_CR_lowestThatCloses_13 : decode b_CR_lowestThatCloses 13 = .ok (.istore 5, 2) := by decide +kernel
theorem d_CR_lowestThatCloses_15 : decode b_CR_lowestThatCloses 15 = .ok (.iload 5, 2) := by decide +kernel
theorem d_CR_lowestThatCloses_17 : decode b_CR_lowestThatCloses 17 = .ok (.aload_n 0, 1) := by decide +kernel
theorem d_CR_lowestThatCloses_18 : decode b_CR_lowestThatCloses 18 = .ok (.getfield 24, 3) := by decide +kernel
theorem d_CR_lowestThatCloses_21 : decode b_CR_lowestThatCloses 21 = .ok (.getfield 53, 3) := by decide +kernel
theorem d_CR_lowestThatCloses_24 : decode b_CR_lowestThatCloses 24 = .ok (.if_icmp .ge 66, 3) := by decide +kernel
theorem d_CR_lowestThatCloses_27 : decode b_CR_lowestThatCloses 27 = .ok (.aload_n 0, 1) := by decide +kernel
theorem d_CR_lowestThatCloses_28 : decode b_CR_lowestThatCloses 28 = .ok (.getfield 24, 3) := by decide +kernel
theorem d_CR_lowestThatCloses_31 : decode b_CR_lowestThatCloses 31 = .ok (.iload_n 3, 1) := by decide +kernel
theorem d_CR_lowestThatCloses_32 : decode b_CR_lowestThatCloses 32 = .ok (.iload 5, 2) := by decide +kernel
theorem d_CR_lowestThatCloses_34 : decode b_CR_lowestThatCloses 34 = .ok (.invokevirtual 56, 3) := by decide +kernel
theorem d_CR_lowestThatCloses_37 : decode b_CR_lowestThatCloses 37 = .ok (.iload_n 1, 1) := by decide +kernel
theorem d_CR_lowestThatCloses_38 : decode b_CR_lowestThatCloses 38 = .ok (.if_icmp .ne 46, 3) := by decide +kernel
theorem d_CR_lowestThatCloses_41 : decode b_CR_lowestThatCloses 41 = .ok (.aload_n 0, 1) := by decide +kernel
theorem d_CR_lowestThatCloses_42 : decode b_CR_lowestThatCloses 42 = .ok (.iload_n 1, 1) := by decide +kernel
theorem d_CR_lowestThatCloses_43 : decode b_CR_lowestThatCloses 43 = .ok (.iload 5, 2) := by decide +kernel
theorem d_CR_lowestThatCloses_45 : decode b_CR_lowestThatCloses 45 = .ok (.invokevirtual 60, 3) := by decide +kernel
theorem d_CR_lowestThatCloses_48 : decode b_CR_lowestThatCloses 48 = .ok (.istore 6, 2) := by decide +kernel
theorem d_CR_lowestThatCloses_50 : decode b_CR_lowestThatCloses 50 = .ok (.iload 6, 2) := by decide +kernel
theorem d_CR_lowestThatCloses_52 : decode b_CR_lowestThatCloses 52 = .ok (.iconst (-1), 1) := by decide +kernel
theorem d_CR_lowestThatCloses_53 : decode b_CR_lowestThatCloses 53 = .ok (.if_icmp .eq 31, 3) := by decide +kernel
theorem d_CR_lowestThatCloses_56 : decode b_CR_lowestThatCloses 56 = .ok (.aload_n 0, 1) := by decide +kernel
theorem d_CR_lowestThatCloses_57 : decode b_CR_lowestThatCloses 57 = .ok (.getfield 18, 3) := by decide +kernel
theorem d_CR_lowestThatCloses_60 : decode b_CR_lowestThatCloses 60 = .ok (.iload 6, 2) := by decide +kernel
theorem d_CR_lowestThatCloses_62 : decode b_CR_lowestThatCloses 62 = .ok (.iaload, 1) := by decide +kernel
theorem d_CR_lowestThatCloses_63 : decode b_CR_lowestThatCloses 63 = .ok (.iload_n 2, 1) := by decide +kernel
theorem d_CR_lowestThatCloses_64 : decode b_CR_lowestThatCloses 64 = .ok (.if_icmp .ne 20, 3) := by decide +kernel
theorem d_CR_lowestThatCloses_67 : decode b_CR_lowestThatCloses 67 = .ok (.iload 4, 2) := by decide +kernel
theorem d_CR_lowestThatCloses_69 : decode b_CR_lowestThatCloses 69 = .ok (.iconst (-1), 1) := by decide +kernel
theorem d_CR_lowestThatCloses_70 : decode b_CR_lowestThatCloses 70 = .ok (.if_icmp .eq 10, 3) := by decide +kernel
theorem d_CR_lowestThatCloses_73 : decode b_CR_lowestThatCloses 73 = .ok (.iload 6, 2) := by decide +kernel
theorem d_CR_lowestThatCloses_75 : decode b_CR_lowestThatCloses 75 = .ok (.iload 4, 2) := by decide +kernel
theorem d_CR_lowestThatCloses_77 : decode b_CR_lowestThatCloses 77 = .ok (.if_icmp .ge 7, 3) := by decide +kernel
theorem d_CR_lowestThatCloses_80 : decode b_CR_lowestThatCloses 80 = .ok (.iload 6, 2) := by decide +kernel
theorem d_CR_lowestThatCloses_82 : decode b_CR_lowestThatCloses 82 = .ok (.istore 4, 2) := by decide +kernel
theorem d_CR_lowestThatCloses_84 : decode b_CR_lowestThatCloses 84 = .ok (.iinc 5 1, 3) := by decide +kernel
theorem d_CR_lowestThatCloses_87 : decode b_CR_lowestThatCloses 87 = .ok (.goto (-72), 3) := by decide +kernel
theorem d_CR_lowestThatCloses_90 : decode b_CR_lowestThatCloses 90 = .ok (.iload 4, 2) := by decide +kernel
theorem d_CR_lowestThatCloses_92 : decode b_CR_lowestThatCloses 92 = .ok (.ireturn, 1) := by decide +kernel
theorem d_CR_channelBehind_0 : decode b_CR_channelBehind 0 = .ok (.aload_n 0, 1) := by decide +kernel
theorem d_CR_channelBehind_1 : decode b_CR_channelBehind 1 = .ok (.getfield 31, 3) := by decide +kernel
theorem d_CR_channelBehind_4 : decode b_CR_channelBehind 4 = .ok (.iconst (-1), 1) := by decide +kernel
theorem d_CR_channelBehind_5 : decode b_CR_channelBehind 5 = .ok (.if_icmp .ne 5, 3) := by decide +kernel
theorem d_CR_channelBehind_8 : decode b_CR_channelBehind 8 = .ok (.iconst (-1), 1) := by decide +kernel
theorem d_CR_channelBehind_9 : decode b_CR_channelBehind 9 = .ok (.ireturn, 1) := by decide +kernel
theorem d_CR_channelBehind_10 : decode b_CR_channelBehind 10 = .ok (.aload_n 0, 1) := by decide +kernel
theorem d_CR_channelBehind_11 : decode b_CR_channelBehind 11 = .ok (.aload_n 0, 1) := by decide +kernel
theorem d_CR_channelBehind_12 : decode b_CR_channelBehind 12 = .ok (.getfield 31, 3) := by decide +kernel
theorem d_CR_channelBehind_15 : decode b_CR_channelBehind 15 = .ok (.invokevirtual 43, 3) := by decide +kernel
theorem d_CR_channelBehind_18 : decode b_CR_channelBehind 18 = .ok (.pop, 1) := by decide +kernel
theorem d_CR_channelBehind_19 : decode b_CR_channelBehind 19 = .ok (.aload_n 0, 1) := by decide +kernel
theorem d_CR_channelBehind_20 : decode b_CR_channelBehind 20 = .ok (.getfield 31, 3) := by decide +kernel
theorem d_CR_channelBehind_23 : decode b_CR_channelBehind 23 = .ok (.istore_n 2, 1) := by decide +kernel
theorem d_CR_channelBehind_24 : decode b_CR_channelBehind 24 = .ok (.iconst 1, 1) := by decide +kernel
theorem d_CR_channelBehind_25 : decode b_CR_channelBehind 25 = .ok (.istore_n 3, 1) := by decide +kernel
theorem d_CR_channelBehind_26 : decode b_CR_channelBehind 26 = .ok (.iload_n 3, 1) := by decide +kernel
theorem d_CR_channelBehind_27 : decode b_CR_channelBehind 27 = .ok (.iload_n 1, 1) := by decide +kernel
theorem d_CR_channelBehind_28 : decode b_CR_channelBehind 28 = .ok (.if_icmp .gt 26, 3) := by decide +kernel
theorem d_CR_channelBehind_31 : decode b_CR_channelBehind 31 = .ok (.iload_n 2, 1) := by decide +kernel
theorem d_CR_channelBehind_32 : decode b_CR_channelBehind 32 = .ok (.iconst (-1), 1) := by decide +kernel
theorem d_CR_channelBehind_33 : decode b_CR_channelBehind 33 = .ok (.if_icmp .eq 21, 3) := by decide +kernel
theorem d_CR_channelBehind_36 : decode b_CR_channelBehind 36 = .ok (.aload_n 0, 1) := by decide +kernel
theorem d_CR_channelBehind_37 : decode b_CR_channelBehind 37 = .ok (.iload_n 2, 1) := by decide +kernel
theorem d_CR_channelBehind_38 : decode b_CR_channelBehind 38 = .ok (.aload_n 0, 1) := by decide +kernel
theorem d_CR_channelBehind_39 : decode b_CR_channelBehind 39 = .ok (.getfield 35, 3) := by decide +kernel
theorem d_CR_channelBehind_42 : decode b_CR_channelBehind 42 = .ok (.iload_n 3, 1) := by decide +kernel
theorem d_CR_channelBehind_43 : decode b_CR_channelBehind 43 = .ok (.isub, 1) := by decide +kernel
theorem d_CR_channelBehind_44 : decode b_CR_channelBehind 44 = .ok (.invokevirtual 69, 3) := by decide +kernel
theorem d_CR_channelBehind_47 : decode b_CR_channelBehind 47 = .ok (.istore_n 2, 1) := by decide +kernel
theorem d_CR_channelBehind_48 : decode b_CR_channelBehind 48 = .ok (.iinc 3 1, 3) := by decide +kernel
theorem d_CR_channelBehind_51 : decode b_CR_channelBehind 51 = .ok (.goto (-25), 3) := by decide +kernel
theorem d_CR_channelBehind_54 : decode b_CR_channelBehind 54 = .ok (.iload_n 2, 1) := by decide +kernel
theorem d_CR_channelBehind_55 : decode b_CR_channelBehind 55 = .ok (.ireturn, 1) := by decide +kernel
theorem d_CN_ringAt_0 : decode b_CN_ringAt 0 = .ok (.aload_n 0, 1) := by decide +kernel
theorem d_CN_ringAt_1 : decode b_CN_ringAt 1 = .ok (.getfield 50, 3) := by decide +kernel
theorem d_CN_ringAt_4 : decode b_CN_ringAt 4 = .ok (.invokevirtual 197, 3) := by decide +kernel
theorem d_CN_ringAt_7 : decode b_CN_ringAt 7 = .ok (.iload_n 1, 1) := by decide +kernel
theorem d_CN_ringAt_8 : decode b_CN_ringAt 8 = .ok (.ifCond .lt 14, 3) := by decide +kernel
theorem d_CN_ringAt_11 : decode b_CN_ringAt 11 = .ok (.iload_n 1, 1) := by decide +kernel
theorem d_CN_ringAt_12 : decode b_CN_ringAt 12 = .ok (.aload_n 0, 1) := by decide +kernel
theorem d_CN_ringAt_13 : decode b_CN_ringAt 13 = .ok (.getfield 50, 3) := by decide +kernel
theorem d_CN_ringAt_16 : decode b_CN_ringAt 16 = .ok (.getfield 200, 3) := by decide +kernel
theorem d_CN_ringAt_19 : decode b_CN_ringAt 19 = .ok (.if_icmp .lt 13, 3) := by decide +kernel
theorem d_CN_ringAt_22 : decode b_CN_ringAt 22 = .ok (.new 158, 3) := by decide +kernel
theorem d_CN_ringAt_25 : decode b_CN_ringAt 25 = .ok (.dup, 1) := by decide +kernel
theorem d_CN_ringAt_26 : decode b_CN_ringAt 26 = .ok (.ldc 203, 2) := by decide +kernel
theorem d_CN_ringAt_28 : decode b_CN_ringAt 28 = .ok (.invokespecial 162, 3) := by decide +kernel
theorem d_CN_ringAt_31 : decode b_CN_ringAt 31 = .ok (.athrow, 1) := by decide +kernel
theorem d_CN_ringAt_32 : decode b_CN_ringAt 32 = .ok (.aload_n 0, 1) := by decide +kernel
theorem d_CN_ringAt_33 : decode b_CN_ringAt 33 = .ok (.getfield 50, 3) := by decide +kernel
theorem d_CN_ringAt_36 : decode b_CN_ringAt 36 = .ok (.iload_n 1, 1) := by decide +kernel
theorem d_CN_ringAt_37 : decode b_CN_ringAt 37 = .ok (.invokevirtual 205, 3) := by decide +kernel
theorem d_CN_ringAt_40 : decode b_CN_ringAt 40 = .ok (.ireturn, 1) := by decide +kernel
theorem d_CT_isAtRest_0 : decode b_CT_isAtRest 0 = .ok (.iconst 0, 1) := by decide +kernel
theorem d_CT_isAtRest_1 : decode b_CT_isAtRest 1 = .ok (.istore_n 1, 1) := by decide +kernel
theorem d_CT_isAtRest_2 : decode b_CT_isAtRest 2 = .ok (.iload_n 1, 1) := by decide +kernel
theorem d_CT_isAtRest_3 : decode b_CT_isAtRest 3 = .ok (.aload_n 0, 1) := by decide +kernel
theorem d_CT_isAtRest_4 : decode b_CT_isAtRest 4 = .ok (.getfield 35, 3) := by decide +kernel
theorem d_CT_isAtRest_7 : decode b_CT_isAtRest 7 = .ok (.invokevirtual 64, 3) := by decide +kernel
theorem d_CT_isAtRest_10 : decode b_CT_isAtRest 10 = .ok (.if_icmp .ge 29, 3) := by decide +kernel
theorem d_CT_isAtRest_13 : decode b_CT_isAtRest 13 = .ok (.aload_n 0, 1) := by decide +kernel
theorem d_CT_isAtRest_14 : decode b_CT_isAtRest 14 = .ok (.iload_n 1, 1) := by decide +kernel
theorem d_CT_isAtRest_15 : decode b_CT_isAtRest 15 = .ok (.invokevirtual 68, 3) := by decide +kernel
theorem d_CT_isAtRest_18 : decode b_CT_isAtRest 18 = .ok (.iconst (-1), 1) := by decide +kernel
theorem d_CT_isAtRest_19 : decode b_CT_isAtRest 19 = .ok (.if_icmp .ne 12, 3) := by decide +kernel
theorem d_CT_isAtRest_22 : decode b_CT_isAtRest 22 = .ok (.aload_n 0, 1) := by decide +kernel
theorem d_CT_isAtRest_23 : decode b_CT_isAtRest 23 = .ok (.iload_n 1, 1) := by decide +kernel
theorem d_CT_isAtRest_24 : decode b_CT_isAtRest 24 = .ok (.invokevirtual 92, 3) := by decide +kernel
theorem d_CT_isAtRest_27 : decode b_CT_isAtRest 27 = .ok (.iconst (-1), 1) := by decide +kernel
theorem d_CT_isAtRest_28 : decode b_CT_isAtRest 28 = .ok (.if_icmp .eq 5, 3) := by decide +kernel
theorem d_CT_isAtRest_31 : decode b_CT_isAtRest 31 = .ok (.iconst 0, 1) := by decide +kernel
theorem d_CT_isAtRest_32 : decode b_CT_isAtRest 32 = .ok (.ireturn, 1) := by decide +kernel
theorem d_CT_isAtRest_33 : decode b_CT_isAtRest 33 = .ok (.iinc 1 1, 3) := by decide +kernel
theorem d_CT_isAtRest_36 : decode b_CT_isAtRest 36 = .ok (.goto (-34), 3) := by decide +kernel
theorem d_CT_isAtRest_39 : decode b_CT_isAtRest 39 = .ok (.iconst 0, 1) := by decide +kernel
theorem d_CT_isAtRest_40 : decode b_CT_isAtRest 40 = .ok (.istore_n 1, 1) := by decide +kernel
theorem d_CT_isAtRest_41 : decode b_CT_isAtRest 41 = .ok (.iload_n 1, 1) := by decide +kernel
theorem d_CT_isAtRest_42 : decode b_CT_isAtRest 42 = .ok (.aload_n 0, 1) := by decide +kernel
theorem d_CT_isAtRest_43 : decode b_CT_isAtRest 43 = .ok (.getfield 27, 3) := by decide +kernel
theorem d_CT_isAtRest_46 : decode b_CT_isAtRest 46 = .ok (.getfield 80, 3) := by decide +kernel
theorem d_CT_isAtRest_49 : decode b_CT_isAtRest 49 = .ok (.if_icmp .ge 20, 3) := by decide +kernel
theorem d_CT_isAtRest_52 : decode b_CT_isAtRest 52 = .ok (.aload_n 0, 1) := by decide +kernel
theorem d_CT_isAtRest_53 : decode b_CT_isAtRest 53 = .ok (.iload_n 1, 1) := by decide +kernel
theorem d_CT_isAtRest_54 : decode b_CT_isAtRest 54 = .ok (.invokevirtual 85, 3) := by decide +kernel
theorem d_CT_isAtRest_57 : decode b_CT_isAtRest 57 = .ok (.iconst (-1), 1) := by decide +kernel
theorem d_CT_isAtRest_58 : decode b_CT_isAtRest 58 = .ok (.if_icmp .eq 5, 3) := by decide +kernel
theorem d_CT_isAtRest_61 : decode b_CT_isAtRest 61 = .ok (.iconst 0, 1) := by decide +kernel
theorem d_CT_isAtRest_62 : decode b_CT_isAtRest 62 = .ok (.ireturn, 1) := by decide +kernel
theorem d_CT_isAtRest_63 : decode b_CT_isAtRest 63 = .ok (.iinc 1 1, 3) := by decide +kernel
theorem d_CT_isAtRest_66 : decode b_CT_isAtRest 66 = .ok (.goto (-25), 3) := by decide +kernel
theorem d_CT_isAtRest_69 : decode b_CT_isAtRest 69 = .ok (.iconst 1, 1) := by decide +kernel
theorem d_CT_isAtRest_70 : decode b_CT_isAtRest 70 = .ok (.ireturn, 1) := by decide +kernel
theorem d_CN_stuck_0 : decode b_CN_stuck 0 = .ok (.aload_n 0, 1) := by decide +kernel
theorem d_CN_stuck_1 : decode b_CN_stuck 1 = .ok (.getfield 23, 3) := by decide +kernel
theorem d_CN_stuck_4 : decode b_CN_stuck 4 = .ok (.getfield 148, 3) := by decide +kernel
theorem d_CN_stuck_7 : decode b_CN_stuck 7 = .ok (.aload_n 0, 1) := by decide +kernel
theorem d_CN_stuck_8 : decode b_CN_stuck 8 = .ok (.getfield 23, 3) := by decide +kernel
theorem d_CN_stuck_11 : decode b_CN_stuck 11 = .ok (.getfield 125, 3) := by decide +kernel
theorem d_CN_stuck_14 : decode b_CN_stuck 14 = .ok (.if_icmp .ge 17, 3) := by decide +kernel
theorem d_CN_stuck_17 : decode b_CN_stuck 17 = .ok (.aload_n 0, 1) := by decide +kernel
theorem d_CN_stuck_18 : decode b_CN_stuck 18 = .ok (.getfield 41, 3) := by decide +kernel
theorem d_CN_stuck_21 : decode b_CN_stuck 21 = .ok (.invokevirtual 208, 3) := by decide +kernel
theorem d_CN_stuck_24 : decode b_CN_stuck 24 = .ok (.ifCond .eq 7, 3) := by decide +kernel
theorem d_CN_stuck_27 : decode b_CN_stuck 27 = .ok (.iconst 1, 1) := by decide +kernel
theorem d_CN_stuck_28 : decode b_CN_stuck 28 = .ok (.goto 4, 3) := by decide +kernel
theorem d_CN_stuck_31 : decode b_CN_stuck 31 = .ok (.iconst 0, 1) := by decide +kernel
theorem d_CN_stuck_32 : decode b_CN_stuck 32 = .ok (.ireturn, 1) := by decide +kernel
theorem d_CK_sumOf_0 : decode b_CK_sumOf 0 = .ok (.iconst 0, 1) := by decide +kernel
theorem d_CK_sumOf_1 : decode b_CK_sumOf 1 = .ok (.istore_n 2, 1) := by decide +kernel
theorem d_CK_sumOf_2 : decode b_CK_sumOf 2 = .ok (.iconst 0, 1) := by decide +kernel
theorem d_CK_sumOf_3 : decode b_CK_sumOf 3 = .ok (.istore_n 3, 1) := by decide +kernel
theorem d_CK_sumOf_4 : decode b_CK_sumOf 4 = .ok (.iload_n 3, 1) := by decide +kernel
theorem d_CK_sumOf_5 : decode b_CK_sumOf 5 = .ok (.aload_n 0, 1) := by decide +kernel
theorem d_CK_sumOf_6 : decode b_CK_sumOf 6 = .ok (.getfield 27, 3) := by decide +kernel
theorem d_CK_sumOf_9 : decode b_CK_sumOf 9 = .ok (.if_icmp .ge 21, 3) := by decide +kernel
theorem d_CK_sumOf_12 : decode b_CK_sumOf 12 = .ok (.iload_n 3, 1) := by decide +kernel
theorem d_CK_sumOf_13 : decode b_CK_sumOf 13 = .ok (.aload_n 1, 1) := by decide +kernel
theorem d_CK_sumOf_14 : decode b_CK_sumOf 14 = .ok (.arraylength, 1) := by decide +kernel
theorem d_CK_sumOf_15 : decode b_CK_sumOf 15 = .ok (.if_icmp .ge 15, 3) := by decide +kernel
theorem d_CK_sumOf_18 : decode b_CK_sumOf 18 = .ok (.iload_n 2, 1) := by decide +kernel
theorem d_CK_sumOf_19 : decode b_CK_sumOf 19 = .ok (.aload_n 1, 1) := by decide +kernel
theorem d_CK_sumOf_20 : decode b_CK_sumOf 20 = .ok (.iload_n 3, 1) := by decide +kernel
theorem d_CK_sumOf_21 : decode b_CK_sumOf 21 = .ok (.iaload, 1) := by decide +kernel
theorem d_CK_sumOf_22 : decode b_CK_sumOf 22 = .ok (.iadd, 1) := by decide +kernel
theorem d_CK_sumOf_23 : decode b_CK_sumOf 23 = .ok (.istore_n 2, 1) := by decide +kernel
theorem d_CK_sumOf_24 : decode b_CK_sumOf 24 = .ok (.iinc 3 1, 3) := by decide +kernel
theorem d_CK_sumOf_27 : decode b_CK_sumOf 27 = .ok (.goto (-23), 3) := by decide +kernel
theorem d_CK_sumOf_30 : decode b_CK_sumOf 30 = .ok (.iload_n 2, 1) := by decide +kernel
theorem d_CK_sumOf_31 : decode b_CK_sumOf 31 = .ok (.ireturn, 1) := by decide +kernel
theorem d_CK_flitsInQueues_0 : decode b_CK_flitsInQueues 0 = .ok (.aload_n 0, 1) := by decide +kernel
theorem d_CK_flitsInQueues_1 : decode b_CK_flitsInQueues 1 = .ok (.aload_n 0, 1) := by decide +kernel
theorem d_CK_flitsInQueues_2 : decode b_CK_flitsInQueues 2 = .ok (.getfield 18, 3) := by decide +kernel
theorem d_CK_flitsInQueues_5 : decode b_CK_flitsInQueues 5 = .ok (.invokevirtual 42, 3) := by decide +kernel
theorem d_CK_flitsInQueues_8 : decode b_CK_flitsInQueues 8 = .ok (.ireturn, 1) := by decide +kernel
theorem d_CK_flitsInBuffers_0 : decode b_CK_flitsInBuffers 0 = .ok (.aload_n 0, 1) := by decide +kernel
theorem d_CK_flitsInBuffers_1 : decode b_CK_flitsInBuffers 1 = .ok (.aload_n 0, 1) := by decide +kernel
theorem d_CK_flitsInBuffers_2 : decode b_CK_flitsInBuffers 2 = .ok (.getfield 15, 3) := by decide +kernel
theorem d_CK_flitsInBuffers_5 : decode b_CK_flitsInBuffers 5 = .ok (.invokevirtual 42, 3) := by decide +kernel
theorem d_CK_flitsInBuffers_8 : decode b_CK_flitsInBuffers 8 = .ok (.aload_n 0, 1) := by decide +kernel
theorem d_CK_flitsInBuffers_9 : decode b_CK_flitsInBuffers 9 = .ok (.aload_n 0, 1) := by decide +kernel
theorem d_CK_flitsInBuffers_10 : decode b_CK_flitsInBuffers 10 = .ok (.getfield 18, 3) := by decide +kernel
theorem d_CK_flitsInBuffers_13 : decode b_CK_flitsInBuffers 13 = .ok (.invokevirtual 42, 3) := by decide +kernel
theorem d_CK_flitsInBuffers_16 : decode b_CK_flitsInBuffers 16 = .ok (.isub, 1) := by decide +kernel
theorem d_CK_flitsInBuffers_17 : decode b_CK_flitsInBuffers 17 = .ok (.aload_n 0, 1) := by decide +kernel
theorem d_CK_flitsInBuffers_18 : decode b_CK_flitsInBuffers 18 = .ok (.aload_n 0, 1) := by decide +kernel
theorem d_CK_flitsInBuffers_19 : decode b_CK_flitsInBuffers 19 = .ok (.getfield 21, 3) := by decide +kernel
theorem d_CK_flitsInBuffers_22 : decode b_CK_flitsInBuffers 22 = .ok (.invokevirtual 42, 3) := by decide +kernel
theorem d_CK_flitsInBuffers_25 : decode b_CK_flitsInBuffers 25 = .ok (.isub, 1) := by decide +kernel
theorem d_CK_flitsInBuffers_26 : decode b_CK_flitsInBuffers 26 = .ok (.ireturn, 1) := by decide +kernel
theorem d_CK_flitsLeft_0 : decode b_CK_flitsLeft 0 = .ok (.aload_n 0, 1) := by decide +kernel
theorem d_CK_flitsLeft_1 : decode b_CK_flitsLeft 1 = .ok (.aload_n 0, 1) := by decide +kernel
theorem d_CK_flitsLeft_2 : decode b_CK_flitsLeft 2 = .ok (.getfield 21, 3) := by decide +kernel
theorem d_CK_flitsLeft_5 : decode b_CK_flitsLeft 5 = .ok (.invokevirtual 42, 3) := by decide +kernel
theorem d_CK_flitsLeft_8 : decode b_CK_flitsLeft 8 = .ok (.ireturn, 1) := by decide +kernel
theorem d_CP_comesTo_0 : decode b_CP_comesTo 0 = .ok (.iload_n 1, 1) := by decide +kernel
theorem d_CP_comesTo_1 : decode b_CP_comesTo 1 = .ok (.istore_n 3, 1) := by decide +kernel
theorem d_CP_comesTo_2 : decode b_CP_comesTo 2 = .ok (.iconst 0, 1) := by decide +kernel
theorem d_CP_comesTo_3 : decode b_CP_comesTo 3 = .ok (.istore 4, 2) := by decide +kernel
theorem d_CP_comesTo_5 : decode b_CP_comesTo 5 = .ok (.iload 4, 2) := by decide +kernel
theorem d_CP_comesTo_7 : decode b_CP_comesTo 7 = .ok (.aload_n 0, 1) := by decide +kernel
theorem d_CP_comesTo_8 : decode b_CP_comesTo 8 = .ok (.getfield 37, 3) := by decide +kernel
theorem d_CP_comesTo_11 : decode b_CP_comesTo 11 = .ok (.if_icmp .ge 37, 3) := by decide +kernel
theorem d_CP_comesTo_14 : decode b_CP_comesTo 14 = .ok (.iload_n 3, 1) := by decide +kernel
theorem d_CP_comesTo_15 : decode b_CP_comesTo 15 = .ok (.iload_n 2, 1) := by decide +kernel
theorem d_CP_comesTo_16 : decode b_CP_comesTo 16 = .ok (.if_icmp .eq 32, 3) := by decide +kernel
theorem d_CP_comesTo_19 : decode b_CP_comesTo 19 = .ok (.aload_n 0, 1) := by decide +kernel
theorem d_CP_comesTo_20 : decode b_CP_comesTo 20 = .ok (.iload_n 3, 1) := by decide +kernel
theorem d_CP_comesTo_21 : decode b_CP_comesTo 21 = .ok (.iload_n 2, 1) := by decide +kernel
theorem d_CP_comesTo_22 : decode b_CP_comesTo 22 = .ok (.invokevirtual 69, 3) := by decide +kernel
theorem d_CP_comesTo_25 : decode b_CP_comesTo 25 = .ok (.istore 5, 2) := by decide +kernel
theorem d_CP_comesTo_27 : decode b_CP_comesTo 27 = .ok (.iload 5, 2) := by decide +kernel
theorem d_CP_comesTo_29 : decode b_CP_comesTo 29 = .ok (.iconst (-1), 1) := by decide +kernel
theorem d_CP_comesTo_30 : decode b_CP_comesTo 30 = .ok (.if_icmp .ne 5, 3) := by decide +kernel
theorem d_CP_comesTo_33 : decode b_CP_comesTo 33 = .ok (.iconst 0, 1) := by decide +kernel
theorem d_CP_comesTo_34 : decode b_CP_comesTo 34 = .ok (.ireturn, 1) := by decide +kernel
theorem d_CP_comesTo_35 : decode b_CP_comesTo 35 = .ok (.aload_n 0, 1) := by decide +kernel
theorem d_CP_comesTo_36 : decode b_CP_comesTo 36 = .ok (.iload 5, 2) := by decide +kernel
theorem d_CP_comesTo_38 : decode b_CP_comesTo 38 = .ok (.invokevirtual 73, 3) := by decide +kernel
theorem d_CP_comesTo_41 : decode b_CP_comesTo 41 = .ok (.istore_n 3, 1) := by decide +kernel
theorem d_CP_comesTo_42 : decode b_CP_comesTo 42 = .ok (.iinc 4 1, 3) := by decide +kernel
theorem d_CP_comesTo_45 : decode b_CP_comesTo 45 = .ok (.goto (-40), 3) := by decide +kernel
theorem d_CP_comesTo_48 : decode b_CP_comesTo 48 = .ok (.iload_n 3, 1) := by decide +kernel
theorem d_CP_comesTo_49 : decode b_CP_comesTo 49 = .ok (.iload_n 2, 1) := by decide +kernel
theorem d_CP_comesTo_50 : decode b_CP_comesTo 50 = .ok (.if_icmp .ne 7, 3) := by decide +kernel
theorem d_CP_comesTo_53 : decode b_CP_comesTo 53 = .ok (.iconst 1, 1) := by decide +kernel
theorem d_CP_comesTo_54 : decode b_CP_comesTo 54 = .ok (.goto 4, 3) := by decide +kernel
theorem d_CP_comesTo_57 : decode b_CP_comesTo 57 = .ok (.iconst 0, 1) := by decide +kernel
theorem d_CP_comesTo_58 : decode b_CP_comesTo 58 = .ok (.ireturn, 1) := by decide +kernel
theorem d_CP_pairsWithoutWay_0 : decode b_CP_pairsWithoutWay 0 = .ok (.iconst 0, 1) := by decide +kernel
theorem d_CP_pairsWithoutWay_1 : decode b_CP_pairsWithoutWay 1 = .ok (.istore_n 1, 1) := by decide +kernel
theorem d_CP_pairsWithoutWay_2 : decode b_CP_pairsWithoutWay 2 = .ok (.iconst 0, 1) := by decide +kernel
theorem d_CP_pairsWithoutWay_3 : decode b_CP_pairsWithoutWay 3 = .ok (.istore_n 2, 1) := by decide +kernel
theorem d_CP_pairsWithoutWay_4 : decode b_CP_pairsWithoutWay 4 = .ok (.iload_n 2, 1) := by decide +kernel
theorem d_CP_pairsWithoutWay_5 : decode b_CP_pairsWithoutWay 5 = .ok (.aload_n 0, 1) := by decide +kernel
theorem d_CP_pairsWithoutWay_6 : decode b_CP_pairsWithoutWay 6 = .ok (.getfield 37, 3) := by decide +kernel
theorem d_CP_pairsWithoutWay_9 : decode b_CP_pairsWithoutWay 9 = .ok (.if_icmp .ge 42, 3) := by decide +kernel
theorem d_CP_pairsWithoutWay_12 : decode b_CP_pairsWithoutWay 12 = .ok (.iconst 0, 1) := by decide +kernel
theorem d_CP_pairsWithoutWay_13 : decode b_CP_pairsWithoutWay 13 = .ok (.istore_n 3, 1) := by decide +kernel
theorem d_CP_pairsWithoutWay_14 : decode b_CP_pairsWithoutWay 14 = .ok (.iload_n 3, 1) := by decide +kernel
theorem d_CP_pairsWithoutWay_15 : decode b_CP_pairsWithoutWay 15 = .ok (.aload_n 0, 1) := by decide +kernel
theorem d_CP_pairsWithoutWay_16 : decode b_CP_pairsWithoutWay 16 = .ok (.getfield 37, 3) := by decide +kernel
theorem d_CP_pairsWithoutWay_19 : decode b_CP_pairsWithoutWay 19 = .ok (.if_icmp .ge 26, 3) := by decide +kernel
theorem d_CP_pairsWithoutWay_22 : decode b_CP_pairsWithoutWay 22 = .ok (.iload_n 2, 1) := by decide +kernel
theorem d_CP_pairsWithoutWay_23 : decode b_CP_pairsWithoutWay 23 = .ok (.iload_n 3, 1) := by decide +kernel
theorem d_CP_pairsWithoutWay_24 : decode b_CP_pairsWithoutWay 24 = .ok (.if_icmp .eq 15, 3) := by decide +kernel
theorem d_CP_pairsWithoutWay_27 : decode b_CP_pairsWithoutWay 27 = .ok (.aload_n 0, 1) := by decide +kernel
theorem d_CP_pairsWithoutWay_28 : decode b_CP_pairsWithoutWay 28 = .ok (.iload_n 2, 1) := by decide +kernel
theorem d_CP_pairsWithoutWay_29 : decode b_CP_pairsWithoutWay 29 = .ok (.iload_n 3, 1) := by decide +kernel
theorem d_CP_pairsWithoutWay_30 : decode b_CP_pairsWithoutWay 30 = .ok (.invokevirtual 66, 3) := by decide +kernel
theorem d_CP_pairsWithoutWay_33 : decode b_CP_pairsWithoutWay 33 = .ok (.ifCond .ne 6, 3) := by decide +kernel
theorem d_CP_pairsWithoutWay_36 : decode b_CP_pairsWithoutWay 36 = .ok (.iinc 1 1, 3) := by decide +kernel
theorem d_CP_pairsWithoutWay_39 : decode b_CP_pairsWithoutWay 39 = .ok (.iinc 3 1, 3) := by decide +kernel
theorem d_CP_pairsWithoutWay_42 : decode b_CP_pairsWithoutWay 42 = .ok (.goto (-28), 3) := by decide +kernel
theorem d_CP_pairsWithoutWay_45 : decode b_CP_pairsWithoutWay 45 = .ok (.iinc 2 1, 3) := by decide +kernel
theorem d_CP_pairsWithoutWay_48 : decode b_CP_pairsWithoutWay 48 = .ok (.goto (-44), 3) := by decide +kernel
theorem d_CP_pairsWithoutWay_51 : decode b_CP_pairsWithoutWay 51 = .ok (.iload_n 1, 1) := by decide +kernel
theorem d_CP_pairsWithoutWay_52 : decode b_CP_pairsWithoutWay 52 = .ok (.ireturn, 1) := by decide +kernel
theorem d_CN_count_0 : decode b_CN_count 0 = .ok (.iload_n 1, 1) := by decide +kernel
theorem d_CN_count_1 : decode b_CN_count 1 = .ok (.tableswitch 135 0 9 #[55, 63, 71, 79, 87, 95, 103, 111, 119, 127], 55) := by decide +kernel
theorem d_CN_count_56 : decode b_CN_count 56 = .ok (.aload_n 0, 1) := by decide +kernel
theorem d_CN_count_57 : decode b_CN_count 57 = .ok (.getfield 16, 3) := by decide +kernel
theorem d_CN_count_60 : decode b_CN_count 60 = .ok (.getfield 54, 3) := by decide +kernel
theorem d_CN_count_63 : decode b_CN_count 63 = .ok (.ireturn, 1) := by decide +kernel
theorem d_CN_count_64 : decode b_CN_count 64 = .ok (.aload_n 0, 1) := by decide +kernel
theorem d_CN_count_65 : decode b_CN_count 65 = .ok (.getfield 16, 3) := by decide +kernel
theorem d_CN_count_68 : decode b_CN_count 68 = .ok (.getfield 75, 3) := by decide +kernel
theorem d_CN_count_71 : decode b_CN_count 71 = .ok (.ireturn, 1) := by decide +kernel
theorem d_CN_count_72 : decode b_CN_count 72 = .ok (.aload_n 0, 1) := by decide +kernel
theorem d_CN_count_73 : decode b_CN_count 73 = .ok (.getfield 23, 3) := by decide +kernel
theorem d_CN_count_76 : decode b_CN_count 76 = .ok (.getfield 125, 3) := by decide +kernel
theorem d_CN_count_79 : decode b_CN_count 79 = .ok (.ireturn, 1) := by decide +kernel
theorem d_CN_count_80 : decode b_CN_count 80 = .ok (.aload_n 0, 1) := by decide +kernel
theorem d_CN_count_81 : decode b_CN_count 81 = .ok (.getfield 23, 3) := by decide +kernel
theorem d_CN_count_84 : decode b_CN_count 84 = .ok (.getfield 148, 3) := by decide +kernel
theorem d_CN_count_87 : decode b_CN_count 87 = .ok (.ireturn, 1) := by decide +kernel
theorem d_CN_count_88 : decode b_CN_count 88 = .ok (.aload_n 0, 1) := by decide +kernel
theorem d_CN_count_89 : decode b_CN_count 89 = .ok (.getfield 41, 3) := by decide +kernel
theorem d_CN_count_92 : decode b_CN_count 92 = .ok (.getfield 155, 3) := by decide +kernel
theorem d_CN_count_95 : decode b_CN_count 95 = .ok (.ireturn, 1) := by decide +kernel
theorem d_CN_count_96 : decode b_CN_count 96 = .ok (.aload_n 0, 1) := by decide +kernel
theorem d_CN_count_97 : decode b_CN_count 97 = .ok (.getfield 23, 3) := by decide +kernel
theorem d_CN_count_100 : decode b_CN_count 100 = .ok (.invokevirtual 211, 3) := by decide +kernel
theorem d_CN_count_103 : decode b_CN_count 103 = .ok (.ireturn, 1) := by decide +kernel
theorem d_CN_count_104 : decode b_CN_count 104 = .ok (.aload_n 0, 1) := by decide +kernel
theorem d_CN_count_105 : decode b_CN_count 105 = .ok (.getfield 23, 3) := by decide +kernel
theorem d_CN_count_108 : decode b_CN_count 108 = .ok (.invokevirtual 214, 3) := by decide +kernel
theorem d_CN_count_111 : decode b_CN_count 111 = .ok (.ireturn, 1) := by decide +kernel
theorem d_CN_count_112 : decode b_CN_count 112 = .ok (.aload_n 0, 1) := by decide +kernel
theorem d_CN_count_113 : decode b_CN_count 113 = .ok (.getfield 41, 3) := by decide +kernel
theorem d_CN_count_116 : decode b_CN_count 116 = .ok (.getfield 217, 3) := by decide +kernel
theorem d_CN_count_119 : decode b_CN_count 119 = .ok (.ireturn, 1) := by decide +kernel
theorem d_CN_count_120 : decode b_CN_count 120 = .ok (.aload_n 0, 1) := by decide +kernel
theorem d_CN_count_121 : decode b_CN_count 121 = .ok (.getfield 23, 3) := by decide +kernel
theorem d_CN_count_124 : decode b_CN_count 124 = .ok (.invokevirtual 220, 3) := by decide +kernel
theorem d_CN_count_127 : decode b_CN_count 127 = .ok (.ireturn, 1) := by decide +kernel
theorem d_CN_count_128 : decode b_CN_count 128 = .ok (.aload_n 0, 1) := by decide +kernel
theorem d_CN_count_129 : decode b_CN_count 129 = .ok (.getfield 16, 3) := by decide +kernel
theorem d_CN_count_132 : decode b_CN_count 132 = .ok (.invokevirtual 223, 3) := by decide +kernel
theorem d_CN_count_135 : decode b_CN_count 135 = .ok (.ireturn, 1) := by decide +kernel
theorem d_CN_count_136 : decode b_CN_count 136 = .ok (.iconst (-1), 1) := by decide +kernel
theorem d_CN_count_137 : decode b_CN_count 137 = .ok (.ireturn, 1) := by decide +kernel
