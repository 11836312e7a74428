theorem d_M_measure_159 : decode b_M_measure 159 = .ok (.ifCond .eq 13, 3) := by decide +kernel
theorem d_M_measure_162 : decode b_M_measure 162 = .ok (.aload_n 0, 1) := by decide +kernel
theorem d_M_measure_163 : decode b_M_measure 163 = .ok (.getfield 68, 3) := by decide +kernel
theorem d_M_measure_166 : decode b_M_measure 166 = .ok (.iload 4, 2) := by decide +kernel
theorem d_M_measure_168 : decode b_M_measure 168 = .ok (.iload_n 3, 1) := by decide +kernel
theorem d_M_measure_169 : decode b_M_measure 169 = .ok (.iastore, 1) := by decide +kernel
theorem d_M_measure_170 : decode b_M_measure 170 = .ok (.iconst 1, 1) := by decide +kernel
theorem d_M_measure_171 : decode b_M_measure 171 = .ok (.istore_n 2, 1) := by decide +kernel
theorem d_M_measure_172 : decode b_M_measure 172 = .ok (.iinc 4 1, 3) := by decide +kernel
theorem d_M_measure_175 : decode b_M_measure 175 = .ok (.goto (-140), 3) := by decide +kernel
theorem d_M_measure_178 : decode b_M_measure 178 = .ok (.iinc 3 1, 3) := by decide +kernel
theorem d_M_measure_181 : decode b_M_measure 181 = .ok (.goto (-155), 3) := by decide +kernel
theorem d_M_measure_184 : decode b_M_measure 184 = .ok (.return_, 1) := by decide +kernel
theorem d_M_findRing_0 : decode b_M_findRing 0 = .ok (.aload_n 0, 1) := by decide +kernel
theorem d_M_findRing_1 : decode b_M_findRing 1 = .ok (.invokevirtual 172, 3) := by decide +kernel
theorem d_M_findRing_4 : decode b_M_findRing 4 = .ok (.iconst 0, 1) := by decide +kernel
theorem d_M_findRing_5 : decode b_M_findRing 5 = .ok (.istore_n 1, 1) := by decide +kernel
theorem d_M_findRing_6 : decode b_M_findRing 6 = .ok (.iconst (-1), 1) := by decide +kernel
theorem d_M_findRing_7 : decode b_M_findRing 7 = .ok (.istore_n 2, 1) := by decide +kernel
theorem d_M_findRing_8 : decode b_M_findRing 8 = .ok (.iconst 0, 1) := by decide +kernel
theorem d_M_findRing_9 : decode b_M_findRing 9 = .ok (.istore_n 3, 1) := by decide +kernel
theorem d_M_findRing_10 : decode b_M_findRing 10 = .ok (.iload_n 3, 1) := by decide +kernel
theorem d_M_findRing_11 : decode b_M_findRing 11 = .ok (.iconst 4, 1) := by decide +kernel
theorem d_M_findRing_12 : decode b_M_findRing 12 = .ok (.aload_n 0, 1) := by decide +kernel
theorem d_M_findRing_13 : decode b_M_findRing 13 = .ok (.getfield 88, 3) := by decide +kernel
theorem d_M_findRing_16 : decode b_M_findRing 16 = .ok (.imul, 1) := by decide +kernel
theorem d_M_findRing_17 : decode b_M_findRing 17 = .ok (.if_icmp .ge 46, 3) := by decide +kernel
theorem d_M_findRing_20 : decode b_M_findRing 20 = .ok (.aload_n 0, 1) := by decide +kernel
theorem d_M_findRing_21 : decode b_M_findRing 21 = .ok (.iload_n 3, 1) := by decide +kernel
theorem d_M_findRing_22 : decode b_M_findRing 22 = .ok (.invokevirtual 175, 3) := by decide +kernel
theorem d_M_findRing_25 : decode b_M_findRing 25 = .ok (.aload_n 0, 1) := by decide +kernel
theorem d_M_findRing_26 : decode b_M_findRing 26 = .ok (.getfield 68, 3) := by decide +kernel
theorem d_M_findRing_29 : decode b_M_findRing 29 = .ok (.iload_n 3, 1) := by decide +kernel
theorem d_M_findRing_30 : decode b_M_findRing 30 = .ok (.iaload, 1) := by decide +kernel
theorem d_M_findRing_31 : decode b_M_findRing 31 = .ok (.ifCond .le 26, 3) := by decide +kernel
theorem d_M_findRing_34 : decode b_M_findRing 34 = .ok (.iload_n 2, 1) := by decide +kernel
theorem d_M_findRing_35 : decode b_M_findRing 35 = .ok (.ifCond .lt 13, 3) := by decide +kernel
theorem d_M_findRing_38 : decode b_M_findRing 38 = .ok (.aload_n 0, 1) := by decide +kernel
theorem d_M_findRing_39 : decode b_M_findRing 39 = .ok (.getfield 68, 3) := by decide +kernel
theorem d_M_findRing_42 : decode b_M_findRing 42 = .ok (.iload_n 3, 1) := by decide +kernel
theorem d_M_findRing_43 : decode b_M_findRing 43 = .ok (.iaload, 1) := by decide +kernel
theorem d_M_findRing_44 : decode b_M_findRing 44 = .ok (.iload_n 1, 1) := by decide +kernel
theorem d_M_findRing_45 : decode b_M_findRing 45 = .ok (.if_icmp .ge 12, 3) := by decide +kernel
theorem d_M_findRing_48 : decode b_M_findRing 48 = .ok (.aload_n 0, 1) := by decide +kernel
theorem d_M_findRing_49 : decode b_M_findRing 49 = .ok (.getfield 68, 3) := by decide +kernel
theorem d_M_findRing_52 : decode b_M_findRing 52 = .ok (.iload_n 3, 1) := by decide +kernel
theorem d_M_findRing_53 : decode b_M_findRing 53 = .ok (.iaload, 1) := by decide +kernel
theorem d_M_findRing_54 : decode b_M_findRing 54 = .ok (.istore_n 1, 1) := by decide +kernel
theorem d_M_findRing_55 : decode b_M_findRing 55 = .ok (.iload_n 3, 1) := by decide +kernel
theorem d_M_findRing_56 : decode b_M_findRing 56 = .ok (.istore_n 2, 1) := by decide +kernel
theorem d_M_findRing_57 : decode b_M_findRing 57 = .ok (.iinc 3 1, 3) := by decide +kernel
theorem d_M_findRing_60 : decode b_M_findRing 60 = .ok (.goto (-50), 3) := by decide +kernel
theorem d_M_findRing_63 : decode b_M_findRing 63 = .ok (.iload_n 2, 1) := by decide +kernel
theorem d_M_findRing_64 : decode b_M_findRing 64 = .ok (.ifCond .ge 5, 3) := by decide +kernel
theorem d_M_findRing_67 : decode b_M_findRing 67 = .ok (.iconst 0, 1) := by decide +kernel
theorem d_M_findRing_68 : decode b_M_findRing 68 = .ok (.ireturn, 1) := by decide +kernel
theorem d_M_findRing_69 : decode b_M_findRing 69 = .ok (.aload_n 0, 1) := by decide +kernel
theorem d_M_findRing_70 : decode b_M_findRing 70 = .ok (.iload_n 2, 1) := by decide +kernel
theorem d_M_findRing_71 : decode b_M_findRing 71 = .ok (.invokevirtual 175, 3) := by decide +kernel
theorem d_M_findRing_74 : decode b_M_findRing 74 = .ok (.iload_n 2, 1) := by decide +kernel
theorem d_M_findRing_75 : decode b_M_findRing 75 = .ok (.istore_n 3, 1) := by decide +kernel
theorem d_M_findRing_76 : decode b_M_findRing 76 = .ok (.iconst 0, 1) := by decide +kernel
theorem d_M_findRing_77 : decode b_M_findRing 77 = .ok (.istore 4, 2) := by decide +kernel
theorem d_M_findRing_79 : decode b_M_findRing 79 = .ok (.iload 4, 2) := by decide +kernel
theorem d_M_findRing_81 : decode b_M_findRing 81 = .ok (.iload_n 1, 1) := by decide +kernel
theorem d_M_findRing_82 : decode b_M_findRing 82 = .ok (.if_icmp .ge 86, 3) := by decide +kernel
theorem d_M_findRing_85 : decode b_M_findRing 85 = .ok (.aload_n 0, 1) := by decide +kernel
theorem d_M_findRing_86 : decode b_M_findRing 86 = .ok (.getfield 71, 3) := by decide +kernel
theorem d_M_findRing_89 : decode b_M_findRing 89 = .ok (.iload 4, 2) := by decide +kernel
theorem d_M_findRing_91 : decode b_M_findRing 91 = .ok (.iload_n 3, 1) := by decide +kernel
theorem d_M_findRing_92 : decode b_M_findRing 92 = .ok (.iastore, 1) := by decide +kernel
theorem d_M_findRing_93 : decode b_M_findRing 93 = .ok (.iconst 0, 1) := by decide +kernel
theorem d_M_findRing_94 : decode b_M_findRing 94 = .ok (.istore 5, 2) := by decide +kernel
theorem d_M_findRing_96 : decode b_M_findRing 96 = .ok (.iload 5, 2) := by decide +kernel
theorem d_M_findRing_98 : decode b_M_findRing 98 = .ok (.sipush 160, 3) := by decide +kernel
theorem d_M_findRing_101 : decode b_M_findRing 101 = .ok (.if_icmp .ge 58, 3) := by decide +kernel
theorem d_M_findRing_104 : decode b_M_findRing 104 = .ok (.aload_n 0, 1) := by decide +kernel
theorem d_M_findRing_105 : decode b_M_findRing 105 = .ok (.getfield 65, 3) := by decide +kernel
theorem d_M_findRing_108 : decode b_M_findRing 108 = .ok (.sipush 160, 3) := by decide +kernel
theorem d_M_findRing_111 : decode b_M_findRing 111 = .ok (.iload_n 3, 1) := by decide +kernel
theorem d_M_findRing_112 : decode b_M_findRing 112 = .ok (.imul, 1) := by decide +kernel
theorem d_M_findRing_113 : decode b_M_findRing 113 = .ok (.iload 5, 2) := by decide +kernel
theorem d_M_findRing_115 : decode b_M_findRing 115 = .ok (.iadd, 1) := by decide +kernel
theorem d_M_findRing_116 : decode b_M_findRing 116 = .ok (.baload, 1) := by decide +kernel
theorem d_M_findRing_117 : decode b_M_findRing 117 = .ok (.ifCond .eq 36, 3) := by decide +kernel
theorem d_M_findRing_120 : decode b_M_findRing 120 = .ok (.iload 4, 2) := by decide +kernel
theorem d_M_findRing_122 : decode b_M_findRing 122 = .ok (.iload_n 1, 1) := by decide +kernel
theorem d_M_findRing_123 : decode b_M_findRing 123 = .ok (.iconst 1, 1) := by decide +kernel
theorem d_M_findRing_124 : decode b_M_findRing 124 = .ok (.isub, 1) := by decide +kernel
theorem d_M_findRing_125 : decode b_M_findRing 125 = .ok (.if_icmp .ne 12, 3) := by decide +kernel
theorem d_M_findRing_128 : decode b_M_findRing 128 = .ok (.iload 5, 2) := by decide +kernel
theorem d_M_findRing_130 : decode b_M_findRing 130 = .ok (.iload_n 2, 1) := by decide +kernel
theorem d_M_findRing_131 : decode b_M_findRing 131 = .ok (.if_icmp .ne 22, 3) := by decide +kernel
theorem d_M_findRing_134 : decode b_M_findRing 134 = .ok (.goto 25, 3) := by decide +kernel
theorem d_M_findRing_137 : decode b_M_findRing 137 = .ok (.aload_n 0, 1) := by decide +kernel
theorem d_M_findRing_138 : decode b_M_findRing 138 = .ok (.getfield 68, 3) := by decide +kernel
theorem d_M_findRing_141 : decode b_M_findRing 141 = .ok (.iload 5, 2) := by decide +kernel
theorem d_M_findRing_143 : decode b_M_findRing 143 = .ok (.iaload, 1) := by decide +kernel
theorem d_M_findRing_144 : decode b_M_findRing 144 = .ok (.iload_n 1, 1) := by decide +kernel
theorem d_M_findRing_145 : decode b_M_findRing 145 = .ok (.iconst 1, 1) := by decide +kernel
theorem d_M_findRing_146 : decode b_M_findRing 146 = .ok (.isub, 1) := by decide +kernel
theorem d_M_findRing_147 : decode b_M_findRing 147 = .ok (.iload 4, 2) := by decide +kernel
theorem d_M_findRing_149 : decode b_M_findRing 149 = .ok (.isub, 1) := by decide +kernel
theorem d_M_findRing_150 : decode b_M_findRing 150 = .ok (.if_icmp .eq 9, 3) := by decide +kernel
theorem d_M_findRing_153 : decode b_M_findRing 153 = .ok (.iinc 5 1, 3) := by decide +kernel
theorem d_M_findRing_156 : decode b_M_findRing 156 = .ok (.goto (-60), 3) := by decide +kernel
theorem d_M_findRing_159 : decode b_M_findRing 159 = .ok (.iload 5, 2) := by decide +kernel
theorem d_M_findRing_161 : decode b_M_findRing 161 = .ok (.istore_n 3, 1) := by decide +kernel
theorem d_M_findRing_162 : decode b_M_findRing 162 = .ok (.iinc 4 1, 3) := by decide +kernel
theorem d_M_findRing_165 : decode b_M_findRing 165 = .ok (.goto (-86), 3) := by decide +kernel
theorem d_M_findRing_168 : decode b_M_findRing 168 = .ok (.iload_n 1, 1) := by decide +kernel
theorem d_M_findRing_169 : decode b_M_findRing 169 = .ok (.ireturn, 1) := by decide +kernel
theorem d_M_ring_0 : decode b_M_ring 0 = .ok (.aload_n 0, 1) := by decide +kernel
theorem d_M_ring_1 : decode b_M_ring 1 = .ok (.iconst 0, 1) := by decide +kernel
theorem d_M_ring_2 : decode b_M_ring 2 = .ok (.putfield 78, 3) := by decide +kernel
theorem d_M_ring_5 : decode b_M_ring 5 = .ok (.aload_n 0, 1) := by decide +kernel
theorem d_M_ring_6 : decode b_M_ring 6 = .ok (.invokevirtual 178, 3) := by decide +kernel
theorem d_M_ring_9 : decode b_M_ring 9 = .ok (.ireturn, 1) := by decide +kernel
theorem d_M_ringAt_0 : decode b_M_ringAt 0 = .ok (.aload_n 0, 1) := by decide +kernel
theorem d_M_ringAt_1 : decode b_M_ringAt 1 = .ok (.iconst 0, 1) := by decide +kernel
theorem d_M_ringAt_2 : decode b_M_ringAt 2 = .ok (.putfield 78, 3) := by decide +kernel
theorem d_M_ringAt_5 : decode b_M_ringAt 5 = .ok (.aload_n 0, 1) := by decide +kernel
theorem d_M_ringAt_6 : decode b_M_ringAt 6 = .ok (.invokevirtual 178, 3) := by decide +kernel
theorem d_M_ringAt_9 : decode b_M_ringAt 9 = .ok (.istore_n 2, 1) := by decide +kernel
theorem d_M_ringAt_10 : decode b_M_ringAt 10 = .ok (.iload_n 1, 1) := by decide +kernel
theorem d_M_ringAt_11 : decode b_M_ringAt 11 = .ok (.iconst 0, 1) := by decide +kernel
theorem d_M_ringAt_12 : decode b_M_ringAt 12 = .ok (.iload_n 2, 1) := by decide +kernel
theorem d_M_ringAt_13 : decode b_M_ringAt 13 = .ok (.iconst 1, 1) := by decide +kernel
theorem d_M_ringAt_14 : decode b_M_ringAt 14 = .ok (.isub, 1) := by decide +kernel
theorem d_M_ringAt_15 : decode b_M_ringAt 15 = .ok (.invokestatic 84, 3) := by decide +kernel
theorem d_M_ringAt_18 : decode b_M_ringAt 18 = .ok (.ifCond .eq 12, 3) := by decide +kernel
theorem d_M_ringAt_21 : decode b_M_ringAt 21 = .ok (.aload_n 0, 1) := by decide +kernel
theorem d_M_ringAt_22 : decode b_M_ringAt 22 = .ok (.getfield 71, 3) := by decide +kernel
theorem d_M_ringAt_25 : decode b_M_ringAt 25 = .ok (.iload_n 1, 1) := by decide +kernel
theorem d_M_ringAt_26 : decode b_M_ringAt 26 = .ok (.iaload, 1) := by decide +kernel
theorem d_M_ringAt_27 : decode b_M_ringAt 27 = .ok (.goto 8, 3) := by decide +kernel
theorem d_M_ringAt_30 : decode b_M_ringAt 30 = .ok (.aload_n 0, 1) := by decide +kernel
theorem d_M_ringAt_31 : decode b_M_ringAt 31 = .ok (.iconst 1, 1) := by decide +kernel
theorem d_M_ringAt_32 : decode b_M_ringAt 32 = .ok (.invokevirtual 91, 3) := by decide +kernel
theorem d_M_ringAt_35 : decode b_M_ringAt 35 = .ok (.ireturn, 1) := by decide +kernel
theorem d_M_stuck_0 : decode b_M_stuck 0 = .ok (.aload_n 0, 1) := by decide +kernel
theorem d_M_stuck_1 : decode b_M_stuck 1 = .ok (.iconst 0, 1) := by decide +kernel
theorem d_M_stuck_2 : decode b_M_stuck 2 = .ok (.putfield 78, 3) := by decide +kernel
theorem d_M_stuck_5 : decode b_M_stuck 5 = .ok (.aload_n 0, 1) := by decide +kernel
theorem d_M_stuck_6 : decode b_M_stuck 6 = .ok (.invokevirtual 161, 3) := by decide +kernel
theorem d_M_stuck_9 : decode b_M_stuck 9 = .ok (.ifCond .eq 5, 3) := by decide +kernel
theorem d_M_stuck_12 : decode b_M_stuck 12 = .ok (.iconst 0, 1) := by decide +kernel
theorem d_M_stuck_13 : decode b_M_stuck 13 = .ok (.ireturn, 1) := by decide +kernel
theorem d_M_stuck_14 : decode b_M_stuck 14 = .ok (.aload_n 0, 1) := by decide +kernel
theorem d_M_stuck_15 : decode b_M_stuck 15 = .ok (.dup, 1) := by decide +kernel
theorem d_M_stuck_16 : decode b_M_stuck 16 = .ok (.getfield 116, 3) := by decide +kernel
theorem d_M_stuck_19 : decode b_M_stuck 19 = .ok (.iconst 1, 1) := by decide +kernel
theorem d_M_stuck_20 : decode b_M_stuck 20 = .ok (.iadd, 1) := by decide +kernel
theorem d_M_stuck_21 : decode b_M_stuck 21 = .ok (.putfield 116, 3) := by decide +kernel
theorem d_M_stuck_24 : decode b_M_stuck 24 = .ok (.iconst 0, 1) := by decide +kernel
theorem d_M_stuck_25 : decode b_M_stuck 25 = .ok (.istore_n 1, 1) := by decide +kernel
theorem d_M_stuck_26 : decode b_M_stuck 26 = .ok (.iconst 0, 1) := by decide +kernel
theorem d_M_stuck_27 : decode b_M_stuck 27 = .ok (.istore_n 2, 1) := by decide +kernel
theorem d_M_stuck_28 : decode b_M_stuck 28 = .ok (.iload_n 2, 1) := by decide +kernel
theorem d_M_stuck_29 : decode b_M_stuck 29 = .ok (.aload_n 0, 1) := by decide +kernel
theorem d_M_stuck_30 : decode b_M_stuck 30 = .ok (.getfield 88, 3) := by decide +kernel
theorem d_M_stuck_33 : decode b_M_stuck 33 = .ok (.if_icmp .ge 27, 3) := by decide +kernel
theorem d_M_stuck_36 : decode b_M_stuck 36 = .ok (.iload_n 1, 1) := by decide +kernel
theorem d_M_stuck_37 : decode b_M_stuck 37 = .ok (.ifCond .ne 11, 3) := by decide +kernel
theorem d_M_stuck_40 : decode b_M_stuck 40 = .ok (.aload_n 0, 1) := by decide +kernel
theorem d_M_stuck_41 : decode b_M_stuck 41 = .ok (.iload_n 2, 1) := by decide +kernel
theorem d_M_stuck_42 : decode b_M_stuck 42 = .ok (.invokevirtual 135, 3) := by decide +kernel
theorem d_M_stuck_45 : decode b_M_stuck 45 = .ok (.ifCond .lt 7, 3) := by decide +kernel
theorem d_M_stuck_48 : decode b_M_stuck 48 = .ok (.iconst 1, 1) := by decide +kernel
theorem d_M_stuck_49 : decode b_M_stuck 49 = .ok (.goto 4, 3) := by decide +kernel
theorem d_M_stuck_52 : decode b_M_stuck 52 = .ok (.iconst 0, 1) := by decide +kernel
theorem d_M_stuck_53 : decode b_M_stuck 53 = .ok (.istore_n 1, 1) := by decide +kernel
theorem d_M_stuck_54 : decode b_M_stuck 54 = .ok (.iinc 2 1, 3) := by decide +kernel
theorem d_M_stuck_57 : decode b_M_stuck 57 = .ok (.goto (-29), 3) := by decide +kernel
theorem d_M_stuck_60 : decode b_M_stuck 60 = .ok (.iconst 0, 1) := by decide +kernel
theorem d_M_stuck_61 : decode b_M_stuck 61 = .ok (.istore_n 2, 1) := by decide +kernel
theorem d_M_stuck_62 : decode b_M_stuck 62 = .ok (.iload_n 2, 1) := by decide +kernel
theorem d_M_stuck_63 : decode b_M_stuck 63 = .ok (.bipush 16, 2) := by decide +kernel
theorem d_M_stuck_65 : decode b_M_stuck 65 = .ok (.iconst 4, 1) := by decide +kernel
theorem d_M_stuck_66 : decode b_M_stuck 66 = .ok (.aload_n 0, 1) := by decide +kernel
theorem d_M_stuck_67 : decode b_M_stuck 67 = .ok (.getfield 88, 3) := by decide +kernel
theorem d_M_stuck_70 : decode b_M_stuck 70 = .ok (.imul, 1) := by decide +kernel
theorem d_M_stuck_71 : decode b_M_stuck 71 = .ok (.iadd, 1) := by decide +kernel
theorem d_M_stuck_72 : decode b_M_stuck 72 = .ok (.if_icmp .ge 96, 3) := by decide +kernel
theorem d_M_stuck_75 : decode b_M_stuck 75 = .ok (.iload_n 2, 1) := by decide +kernel
theorem d_M_stuck_76 : decode b_M_stuck 76 = .ok (.aload_n 0, 1) := by decide +kernel
theorem d_M_stuck_77 : decode b_M_stuck 77 = .ok (.getfield 81, 3) := by decide +kernel
theorem d_M_stuck_80 : decode b_M_stuck 80 = .ok (.if_icmp .lt 20, 3) := by decide +kernel
theorem d_M_stuck_83 : decode b_M_stuck 83 = .ok (.iload_n 2, 1) := by decide +kernel
theorem d_M_stuck_84 : decode b_M_stuck 84 = .ok (.bipush 16, 2) := by decide +kernel
theorem d_M_stuck_86 : decode b_M_stuck 86 = .ok (.if_icmp .lt 18, 3) := by decide +kernel
theorem d_M_stuck_89 : decode b_M_stuck 89 = .ok (.aload_n 0, 1) := by decide +kernel
theorem d_M_stuck_90 : decode b_M_stuck 90 = .ok (.iload_n 2, 1) := by decide +kernel
theorem d_M_stuck_91 : decode b_M_stuck 91 = .ok (.bipush 16, 2) := by decide +kernel
theorem d_M_stuck_93 : decode b_M_stuck 93 = .ok (.isub, 1) := by decide +kernel
theorem d_M_stuck_94 : decode b_M_stuck 94 = .ok (.invokevirtual 99, 3) := by decide +kernel
theorem d_M_stuck_97 : decode b_M_stuck 97 = .ok (.ifCond .eq 7, 3) := by decide +kernel
theorem d_M_stuck_100 : decode b_M_stuck 100 = .ok (.iconst 1, 1) := by decide +kernel
theorem d_M_stuck_101 : decode b_M_stuck 101 = .ok (.goto 4, 3) := by decide +kernel
theorem d_M_stuck_104 : decode b_M_stuck 104 = .ok (.iconst 0, 1) := by decide +kernel
theorem d_M_stuck_105 : decode b_M_stuck 105 = .ok (.istore_n 3, 1) := by decide +kernel
theorem d_M_stuck_106 : decode b_M_stuck 106 = .ok (.iload_n 3, 1) := by decide +kernel
theorem d_M_stuck_107 : decode b_M_stuck 107 = .ok (.ifCond .eq 11, 3) := by decide +kernel
theorem d_M_stuck_110 : decode b_M_stuck 110 = .ok (.aload_n 0, 1) := by decide +kernel
theorem d_M_stuck_111 : decode b_M_stuck 111 = .ok (.iload_n 2, 1) := by decide +kernel
theorem d_M_stuck_112 : decode b_M_stuck 112 = .ok (.invokevirtual 122, 3) := by decide +kernel
theorem d_M_stuck_115 : decode b_M_stuck 115 = .ok (.goto 4, 3) := by decide +kernel
theorem d_M_stuck_118 : decode b_M_stuck 118 = .ok (.iconst (-1), 1) := by decide +kernel
theorem d_M_stuck_119 : decode b_M_stuck 119 = .ok (.istore 4, 2) := by decide +kernel
theorem d_M_stuck_121 : decode b_M_stuck 121 = .ok (.iload_n 1, 1) := by decide +kernel
theorem d_M_stuck_122 : decode b_M_stuck 122 = .ok (.ifCond .ne 34, 3) := by decide +kernel
theorem d_M_stuck_125 : decode b_M_stuck 125 = .ok (.iload 4, 2) := by decide +kernel
theorem d_M_stuck_127 : decode b_M_stuck 127 = .ok (.ifCond .lt 33, 3) := by decide +kernel
theorem d_M_stuck_130 : decode b_M_stuck 130 = .ok (.aload_n 0, 1) := by decide +kernel
theorem d_M_stuck_131 : decode b_M_stuck 131 = .ok (.getfield 32, 3) := by decide +kernel
theorem d_M_stuck_134 : decode b_M_stuck 134 = .ok (.iload 4, 2) := by decide +kernel
theorem d_M_stuck_136 : decode b_M_stuck 136 = .ok (.bipush 16, 2) := by decide +kernel
theorem d_M_stuck_138 : decode b_M_stuck 138 = .ok (.idiv, 1) := by decide +kernel
theorem d_M_stuck_139 : decode b_M_stuck 139 = .ok (.iaload, 1) := by decide +kernel
theorem d_M_stuck_140 : decode b_M_stuck 140 = .ok (.aload_n 0, 1) := by decide +kernel
theorem d_M_stuck_141 : decode b_M_stuck 141 = .ok (.iload_n 2, 1) := by decide +kernel
theorem d_M_stuck_142 : decode b_M_stuck 142 = .ok (.invokevirtual 119, 3) := by decide +kernel
theorem d_M_stuck_145 : decode b_M_stuck 145 = .ok (.if_icmp .eq 11, 3) := by decide +kernel
theorem d_M_stuck_148 : decode b_M_stuck 148 = .ok (.aload_n 0, 1) := by decide +kernel
theorem d_M_stuck_149 : decode b_M_stuck 149 = .ok (.iload_n 2, 1) := by decide +kernel
theorem d_M_stuck_150 : decode b_M_stuck 150 = .ok (.invokevirtual 132, 3) := by decide +kernel
theorem d_M_stuck_153 : decode b_M_stuck 153 = .ok (.ifCond .lt 7, 3) := by decide +kernel
theorem d_M_stuck_156 : decode b_M_stuck 156 = .ok (.iconst 1, 1) := by decide +kernel
theorem d_M_stuck_157 : decode b_M_stuck 157 = .ok (.goto 4, 3) := by decide +kernel
theorem d_M_stuck_160 : decode b_M_stuck 160 = .ok (.iconst 0, 1) := by decide +kernel
theorem d_M_stuck_161 : decode b_M_stuck 161 = .ok (.istore_n 1, 1) := by decide +kernel
theorem d_M_stuck_162 : decode b_M_stuck 162 = .ok (.iinc 2 1, 3) := by decide +kernel
theorem d_M_stuck_165 : decode b_M_stuck 165 = .ok (.goto (-103), 3) := by decide +kernel
theorem d_M_stuck_168 : decode b_M_stuck 168 = .ok (.aload_n 0, 1) := by decide +kernel
theorem d_M_stuck_169 : decode b_M_stuck 169 = .ok (.dup, 1) := by decide +kernel
theorem d_M_stuck_170 : decode b_M_stuck 170 = .ok (.getfield 116, 3) := by decide +kernel
theorem d_M_stuck_173 : decode b_M_stuck 173 = .ok (.iconst 1, 1) := by decide +kernel
theorem d_M_stuck_174 : decode b_M_stuck 174 = .ok (.isub, 1) := by decide +kernel
theorem d_M_stuck_175 : decode b_M_stuck 175 = .ok (.putfield 116, 3) := by decide +kernel
theorem d_M_stuck_178 : decode b_M_stuck 178 = .ok (.iload_n 1, 1) := by decide +kernel
theorem d_M_stuck_179 : decode b_M_stuck 179 = .ok (.ifCond .ne 7, 3) := by decide +kernel
theorem d_M_stuck_182 : decode b_M_stuck 182 = .ok (.iconst 1, 1) := by decide +kernel
theorem d_M_stuck_183 : decode b_M_stuck 183 = .ok (.goto 4, 3) := by decide +kernel
theorem d_M_stuck_186 : decode b_M_stuck 186 = .ok (.iconst 0, 1) := by decide +kernel
theorem d_M_stuck_187 : decode b_M_stuck 187 = .ok (.ireturn, 1) := by decide +kernel
theorem d_M_hasWay_0 : decode b_M_hasWay 0 = .ok (.iload_n 1, 1) := by decide +kernel
theorem d_M_hasWay_1 : decode b_M_hasWay 1 = .ok (.istore_n 3, 1) := by decide +kernel
theorem d_M_hasWay_2 : decode b_M_hasWay 2 = .ok (.iconst 0, 1) := by decide +kernel
theorem d_M_hasWay_3 : decode b_M_hasWay 3 = .ok (.istore 4, 2) := by decide +kernel
theorem d_M_hasWay_5 : decode b_M_hasWay 5 = .ok (.iload 4, 2) := by decide +kernel
theorem d_M_hasWay_7 : decode b_M_hasWay 7 = .ok (.aload_n 0, 1) := by decide +kernel
theorem d_M_hasWay_8 : decode b_M_hasWay 8 = .ok (.getfield 81, 3) := by decide +kernel
theorem d_M_hasWay_11 : decode b_M_hasWay 11 = .ok (.if_icmp .ge 44, 3) := by decide +kernel
theorem d_M_hasWay_14 : decode b_M_hasWay 14 = .ok (.iload_n 3, 1) := by decide +kernel
theorem d_M_hasWay_15 : decode b_M_hasWay 15 = .ok (.iload_n 2, 1) := by decide +kernel
theorem d_M_hasWay_16 : decode b_M_hasWay 16 = .ok (.if_icmp .eq 39, 3) := by decide +kernel
theorem d_M_hasWay_19 : decode b_M_hasWay 19 = .ok (.aload_n 0, 1) := by decide +kernel
theorem d_M_hasWay_20 : decode b_M_hasWay 20 = .ok (.getfield 26, 3) := by decide +kernel
theorem d_M_hasWay_23 : decode b_M_hasWay 23 = .ok (.bipush 16, 2) := by decide +kernel
theorem d_M_hasWay_25 : decode b_M_hasWay 25 = .ok (.iload_n 3, 1) := by decide +kernel
theorem d_M_hasWay_26 : decode b_M_hasWay 26 = .ok (.imul, 1) := by decide +kernel
theorem d_M_hasWay_27 : decode b_M_hasWay 27 = .ok (.iload_n 2, 1) := by decide +kernel
theorem d_M_hasWay_28 : decode b_M_hasWay 28 = .ok (.iadd, 1) := by decide +kernel
theorem d_M_hasWay_29 : decode b_M_hasWay 29 = .ok (.iaload, 1) := by decide +kernel
theorem d_M_hasWay_30 : decode b_M_hasWay 30 = .ok (.istore 5, 2) := by decide +kernel
theorem d_M_hasWay_32 : decode b_M_hasWay 32 = .ok (.iload 5, 2) := by decide +kernel
theorem d_M_hasWay_34 : decode b_M_hasWay 34 = .ok (.ifCond .ge 5, 3) := by decide +kernel
theorem d_M_hasWay_37 : decode b_M_hasWay 37 = .ok (.iconst 0, 1) := by decide +kernel
theorem d_M_hasWay_38 : decode b_M_hasWay 38 = .ok (.ireturn, 1) := by decide +kernel
theorem d_M_hasWay_39 : decode b_M_hasWay 39 = .ok (.aload_n 0, 1) := by decide +kernel
theorem d_M_hasWay_40 : decode b_M_hasWay 40 = .ok (.getfield 13, 3) := by decide +kernel
theorem d_M_hasWay_43 : decode b_M_hasWay 43 = .ok (.iload 5, 2) := by decide +kernel
theorem d_M_hasWay_45 : decode b_M_hasWay 45 = .ok (.iconst 4, 1) := by decide +kernel
theorem d_M_hasWay_46 : decode b_M_hasWay 46 = .ok (.idiv, 1) := by decide +kernel
theorem d_M_hasWay_47 : decode b_M_hasWay 47 = .ok (.iaload, 1) := by decide +kernel
theorem d_M_hasWay_48 : decode b_M_hasWay 48 = .ok (.istore_n 3, 1) := by decide +kernel
theorem d_M_hasWay_49 : decode b_M_hasWay 49 = .ok (.iinc 4 1, 3) := by decide +kernel
theorem d_M_hasWay_52 : decode b_M_hasWay 52 = .ok (.goto (-47), 3) := by decide +kernel
theorem d_M_hasWay_55 : decode b_M_hasWay 55 = .ok (.iload_n 3, 1) := by decide +kernel
theorem d_M_hasWay_56 : decode b_M_hasWay 56 = .ok (.iload_n 2, 1) := by decide +kernel
theorem d_M_hasWay_57 : decode b_M_hasWay 57 = .ok (.if_icmp .ne 7, 3) := by decide +kernel
theorem d_M_hasWay_60 : decode b_M_hasWay 60 = .ok (.iconst 1, 1) := by decide +kernel
theorem d_M_hasWay_61 : decode b_M_hasWay 61 = .ok (.goto 4, 3) := by decide +kernel
theorem d_M_hasWay_64 : decode b_M_hasWay 64 = .ok (.iconst 0, 1) := by decide +kernel
theorem d_M_hasWay_65 : decode b_M_hasWay 65 = .ok (.ireturn, 1) := by decide +kernel
theorem d_M_count_0 : decode b_M_count 0 = .ok (.aload_n 0, 1) := by decide +kernel
theorem d_M_count_1 : decode b_M_count 1 = .ok (.iconst 0, 1) := by decide +kernel
theorem d_M_count_2 : decode b_M_count 2 = .ok (.putfield 78, 3) := by decide +kernel
theorem d_M_count_5 : decode b_M_count 5 = .ok (.iload_n 1, 1) := by decide +kernel
theorem d_M_count_6 : decode b_M_count 6 = .ok (.iconst 0, 1) := by decide +kernel
theorem d_M_count_7 : decode b_M_count 7 = .ok (.bipush 9, 2) := by decide +kernel
theorem d_M_count_9 : decode b_M_count 9 = .ok (.invokestatic 84, 3) := by decide +kernel
theorem d_M_count_12 : decode b_M_count 12 = .ok (.ifCond .ne 5, 3) := by decide +kernel
theorem d_M_count_15 : decode b_M_count 15 = .ok (.iconst (-1), 1) := by decide +kernel
theorem d_M_count_16 : decode b_M_count 16 = .ok (.ireturn, 1) := by decide +kernel
theorem d_M_count_17 : decode b_M_count 17 = .ok (.iload_n 1, 1) := by decide +kernel
theorem d_M_count_18 : decode b_M_count 18 = .ok (.iconst 5, 1) := by decide +kernel
theorem d_M_count_19 : decode b_M_count 19 = .ok (.if_icmp .ge 55, 3) := by decide +kernel
theorem d_M_count_22 : decode b_M_count 22 = .ok (.iload_n 1, 1) := by decide +kernel
theorem d_M_count_23 : decode b_M_count 23 = .ok (.ifCond .ne 10, 3) := by decide +kernel
theorem d_M_count_26 : decode b_M_count 26 = .ok (.aload_n 0, 1) := by decide +kernel
theorem d_M_count_27 : decode b_M_count 27 = .ok (.getfield 81, 3) := by decide +kernel
theorem d_M_count_30 : decode b_M_count 30 = .ok (.goto 43, 3) := by decide +kernel
theorem d_M_count_33 : decode b_M_count 33 = .ok (.iload_n 1, 1) := by decide +kernel
theorem d_M_count_34 : decode b_M_count 34 = .ok (.iconst 1, 1) := by decide +kernel
theorem d_M_count_35 : decode b_M_count 35 = .ok (.if_icmp .ne 10, 3) := by decide +kernel
theorem d_M_count_38 : decode b_M_count 38 = .ok (.aload_n 0, 1) := by decide +kernel
theorem d_M_count_39 : decode b_M_count 39 = .ok (.getfield 88, 3) := by decide +kernel
theorem d_M_count_42 : decode b_M_count 42 = .ok (.goto 31, 3) := by decide +kernel
theorem d_M_count_45 : decode b_M_count 45 = .ok (.iload_n 1, 1) := by decide +kernel
theorem d_M_count_46 : decode b_M_count 46 = .ok (.iconst 2, 1) := by decide +kernel
theorem d_M_count_47 : decode b_M_count 47 = .ok (.if_icmp .ne 10, 3) := by decide +kernel
theorem d_M_count_50 : decode b_M_count 50 = .ok (.aload_n 0, 1) := by decide +kernel
theorem d_M_count_51 : decode b_M_count 51 = .ok (.getfield 102, 3) := by decide +kernel
theorem d_M_count_54 : decode b_M_count 54 = .ok (.goto 19, 3) := by decide +kernel
theorem d_M_count_57 : decode b_M_count 57 = .ok (.iload_n 1, 1) := by decide +kernel
theorem d_M_count_58 : decode b_M_count 58 = .ok (.iconst 3, 1) := by decide +kernel
theorem d_M_count_59 : decode b_M_count 59 = .ok (.if_icmp .ne 10, 3) := by decide +kernel
theorem d_M_count_62 : decode b_M_count 62 = .ok (.aload_n 0, 1) := by decide +kernel
theorem d_M_count_63 : decode b_M_count 63 = .ok (.getfield 148, 3) := by decide +kernel
theorem d_M_count_66 : decode b_M_count 66 = .ok (.goto 7, 3) := by decide +kernel
theorem d_M_count_69 : decode b_M_count 69 = .ok (.aload_n 0, 1) := by decide +kernel
theorem d_M_count_70 : decode b_M_count 70 = .ok (.getfield 116, 3) := by decide +kernel
theorem d_M_count_73 : decode b_M_count 73 = .ok (.ireturn, 1) := by decide +kernel
theorem d_M_count_74 : decode b_M_count 74 = .ok (.iload_n 1, 1) := by decide +kernel
theorem d_M_count_75 : decode b_M_count 75 = .ok (.bipush 7, 2) := by decide +kernel
theorem d_M_count_77 : decode b_M_count 77 = .ok (.if_icmp .eq 9, 3) := by decide +kernel
theorem d_M_count_80 : decode b_M_count 80 = .ok (.iload_n 1, 1) := by decide +kernel
theorem d_M_count_81 : decode b_M_count 81 = .ok (.bipush 8, 2) := by decide +kernel
theorem d_M_count_83 : decode b_M_count 83 = .ok (.if_icmp .ne 21, 3) := by decide +kernel
theorem d_M_count_86 : decode b_M_count 86 = .ok (.iload_n 1, 1) := by decide +kernel
theorem d_M_count_87 : decode b_M_count 87 = .ok (.bipush 7, 2) := by decide +kernel
theorem d_M_count_89 : decode b_M_count 89 = .ok (.if_icmp .ne 10, 3) := by decide +kernel
theorem d_M_count_92 : decode b_M_count 92 = .ok (.aload_n 0, 1) := by decide +kernel
theorem d_M_count_93 : decode b_M_count 93 = .ok (.getfield 142, 3) := by decide +kernel
theorem d_M_count_96 : decode b_M_count 96 = .ok (.goto 7, 3) := by decide +kernel
theorem d_M_count_99 : decode b_M_count 99 = .ok (.aload_n 0, 1) := by decide +kernel
theorem d_M_count_100 : decode b_M_count 100 = .ok (.getfield 145, 3) := by decide +kernel
theorem d_M_count_103 : decode b_M_count 103 = .ok (.ireturn, 1) := by decide +kernel
theorem d_M_count_104 : decode b_M_count 104 = .ok (.iconst 0, 1) := by decide +kernel
theorem d_M_count_105 : decode b_M_count 105 = .ok (.istore_n 2, 1) := by decide +kernel
theorem d_M_count_106 : decode b_M_count 106 = .ok (.iload_n 1, 1) := by decide +kernel
theorem d_M_count_107 : decode b_M_count 107 = .ok (.bipush 7, 2) := by decide +kernel
theorem d_M_count_109 : decode b_M_count 109 = .ok (.if_icmp .ge 33, 3) := by decide +kernel
theorem d_M_count_112 : decode b_M_count 112 = .ok (.iconst 0, 1) := by decide +kernel
theorem d_M_count_113 : decode b_M_count 113 = .ok (.istore_n 3, 1) := by decide +kernel
theorem d_M_count_114 : decode b_M_count 114 = .ok (.iload_n 3, 1) := by decide +kernel
theorem d_M_count_115 : decode b_M_count 115 = .ok (.aload_n 0, 1) := by decide +kernel
theorem d_M_count_116 : decode b_M_count 116 = .ok (.getfield 102, 3) := by decide +kernel
theorem d_M_count_119 : decode b_M_count 119 = .ok (.if_icmp .ge 20, 3) := by decide +kernel
theorem d_M_count_122 : decode b_M_count 122 = .ok (.iload_n 2, 1) := by decide +kernel
theorem d_M_count_123 : decode b_M_count 123 = .ok (.aload_n 0, 1) := by decide +kernel
theorem d_M_count_124 : decode b_M_count 124 = .ok (.iload_n 3, 1) := by decide +kernel
theorem d_M_count_125 : decode b_M_count 125 = .ok (.iload_n 1, 1) := by decide +kernel
theorem d_M_count_126 : decode b_M_count 126 = .ok (.iconst 4, 1) := by decide +kernel
theorem d_M_count_127 : decode b_M_count 127 = .ok (.isub, 1) := by decide +kernel
theorem d_M_count_128 : decode b_M_count 128 = .ok (.invokevirtual 168, 3) := by decide +kernel
theorem d_M_count_131 : decode b_M_count 131 = .ok (.iadd, 1) := by decide +kernel
theorem d_M_count_132 : decode b_M_count 132 = .ok (.istore_n 2, 1) := by decide +kernel
theorem d_M_count_133 : decode b_M_count 133 = .ok (.iinc 3 1, 3) := by decide +kernel
theorem d_M_count_136 : decode b_M_count 136 = .ok (.goto (-22), 3) := by decide +kernel
theorem d_M_count_139 : decode b_M_count 139 = .ok (.goto 61, 3) := by decide +kernel
theorem d_M_count_142 : decode b_M_count 142 = .ok (.iconst 0, 1) := by decide +kernel
theorem d_M_count_143 : decode b_M_count 143 = .ok (.istore_n 3, 1) := by decide +kernel
theorem d_M_count_144 : decode b_M_count 144 = .ok (.iload_n 3, 1) := by decide +kernel
theorem d_M_count_145 : decode b_M_count 145 = .ok (.aload_n 0, 1) := by decide +kernel
theorem d_M_count_146 : decode b_M_count 146 = .ok (.getfield 81, 3) := by decide +kernel
theorem d_M_count_149 : decode b_M_count 149 = .ok (.if_icmp .ge 51, 3) := by decide +kernel
theorem d_M_count_152 : decode b_M_count 152 = .ok (.iconst 0, 1) := by decide +kernel
theorem d_M_count_153 : decode b_M_count 153 = .ok (.istore 4, 2) := by decide +kernel
theorem d_M_count_155 : decode b_M_count 155 = .ok (.iload 4, 2) := by decide +kernel
theorem d_M_count_157 : decode b_M_count 157 = .ok (.aload_n 0, 1) := by decide +kernel
theorem d_M_count_158 : decode b_M_count 158 = .ok (.getfield 81, 3) := by decide +kernel
theorem d_M_count_161 : decode b_M_count 161 = .ok (.if_icmp .ge 33, 3) := by decide +kernel
theorem d_M_count_164 : decode b_M_count 164 = .ok (.iload_n 2, 1) := by decide +kernel
theorem d_M_count_165 : decode b_M_count 165 = .ok (.iload_n 3, 1) := by decide +kernel
theorem d_M_count_166 : decode b_M_count 166 = .ok (.iload 4, 2) := by decide +kernel
theorem d_M_count_168 : decode b_M_count 168 = .ok (.if_icmp .eq 17, 3) := by decide +kernel
theorem d_M_count_171 : decode b_M_count 171 = .ok (.aload_n 0, 1) := by decide +kernel
theorem d_M_count_172 : decode b_M_count 172 = .ok (.iload_n 3, 1) := by decide +kernel
theorem d_M_count_173 : decode b_M_count 173 = .ok (.iload 4, 2) := by decide +kernel
theorem d_M_count_175 : decode b_M_count 175 = .ok (.invokevirtual 181, 3) := by decide +kernel
theorem d_M_count_178 : decode b_M_count 178 = .ok (.ifCond .ne 7, 3) := by decide +kernel
theorem d_M_count_181 : decode b_M_count 181 = .ok (.iconst 1, 1) := by decide +kernel
theorem d_M_count_182 : decode b_M_count 182 = .ok (.goto 4, 3) := by decide +kernel
theorem d_M_count_185 : decode b_M_count 185 = .ok (.iconst 0, 1) := by decide +kernel
theorem d_M_count_186 : decode b_M_count 186 = .ok (.iadd, 1) := by decide +kernel
theorem d_M_count_187 : decode b_M_count 187 = .ok (.istore_n 2, 1) := by decide +kernel
theorem d_M_count_188 : decode b_M_count 188 = .ok (.iinc 4 1, 3) := by decide +kernel
theorem d_M_count_191 : decode b_M_count 191 = .ok (.goto (-36), 3) := by decide +kernel
theorem d_M_count_194 : decode b_M_count 194 = .ok (.iinc 3 1, 3) := by decide +kernel
theorem d_M_count_197 : decode b_M_count 197 = .ok (.goto (-53), 3) := by decide +kernel
theorem d_M_count_200 : decode b_M_count 200 = .ok (.iload_n 2, 1) := by decide +kernel
theorem d_M_count_201 : decode b_M_count 201 = .ok (.ireturn, 1) := by decide +kernel
