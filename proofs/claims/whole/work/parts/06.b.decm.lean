theorem d_M_holds_40 : decode b_M_holds 40 = .ok (.iload_n 2, 1) := by decide +kernel
theorem d_M_holds_41 : decode b_M_holds 41 = .ok (.ireturn, 1) := by decide +kernel
theorem d_M_wanted_0 : decode b_M_wanted 0 = .ok (.aload_n 0, 1) := by decide +kernel
theorem d_M_wanted_1 : decode b_M_wanted 1 = .ok (.iload_n 1, 1) := by decide +kernel
theorem d_M_wanted_2 : decode b_M_wanted 2 = .ok (.invokevirtual 122, 3) := by decide +kernel
theorem d_M_wanted_5 : decode b_M_wanted 5 = .ok (.istore_n 2, 1) := by decide +kernel
theorem d_M_wanted_6 : decode b_M_wanted 6 = .ok (.aload_n 0, 1) := by decide +kernel
theorem d_M_wanted_7 : decode b_M_wanted 7 = .ok (.iload_n 1, 1) := by decide +kernel
theorem d_M_wanted_8 : decode b_M_wanted 8 = .ok (.invokevirtual 119, 3) := by decide +kernel
theorem d_M_wanted_11 : decode b_M_wanted 11 = .ok (.istore_n 3, 1) := by decide +kernel
theorem d_M_wanted_12 : decode b_M_wanted 12 = .ok (.iload_n 2, 1) := by decide +kernel
theorem d_M_wanted_13 : decode b_M_wanted 13 = .ok (.ifCond .lt 31, 3) := by decide +kernel
theorem d_M_wanted_16 : decode b_M_wanted 16 = .ok (.iload_n 2, 1) := by decide +kernel
theorem d_M_wanted_17 : decode b_M_wanted 17 = .ok (.bipush 16, 2) := by decide +kernel
theorem d_M_wanted_19 : decode b_M_wanted 19 = .ok (.irem, 1) := by decide +kernel
theorem d_M_wanted_20 : decode b_M_wanted 20 = .ok (.ifCond .gt 24, 3) := by decide +kernel
theorem d_M_wanted_23 : decode b_M_wanted 23 = .ok (.aload_n 0, 1) := by decide +kernel
theorem d_M_wanted_24 : decode b_M_wanted 24 = .ok (.getfield 32, 3) := by decide +kernel
theorem d_M_wanted_27 : decode b_M_wanted 27 = .ok (.iload_n 2, 1) := by decide +kernel
theorem d_M_wanted_28 : decode b_M_wanted 28 = .ok (.bipush 16, 2) := by decide +kernel
theorem d_M_wanted_30 : decode b_M_wanted 30 = .ok (.idiv, 1) := by decide +kernel
theorem d_M_wanted_31 : decode b_M_wanted 31 = .ok (.iaload, 1) := by decide +kernel
theorem d_M_wanted_32 : decode b_M_wanted 32 = .ok (.iload_n 3, 1) := by decide +kernel
theorem d_M_wanted_33 : decode b_M_wanted 33 = .ok (.if_icmp .eq 11, 3) := by decide +kernel
theorem d_M_wanted_36 : decode b_M_wanted 36 = .ok (.aload_n 0, 1) := by decide +kernel
theorem d_M_wanted_37 : decode b_M_wanted 37 = .ok (.iload_n 1, 1) := by decide +kernel
theorem d_M_wanted_38 : decode b_M_wanted 38 = .ok (.invokevirtual 125, 3) := by decide +kernel
theorem d_M_wanted_41 : decode b_M_wanted 41 = .ok (.ifCond .eq 5, 3) := by decide +kernel
theorem d_M_wanted_44 : decode b_M_wanted 44 = .ok (.iconst (-1), 1) := by decide +kernel
theorem d_M_wanted_45 : decode b_M_wanted 45 = .ok (.ireturn, 1) := by decide +kernel
theorem d_M_wanted_46 : decode b_M_wanted 46 = .ok (.aload_n 0, 1) := by decide +kernel
theorem d_M_wanted_47 : decode b_M_wanted 47 = .ok (.getfield 26, 3) := by decide +kernel
theorem d_M_wanted_50 : decode b_M_wanted 50 = .ok (.bipush 16, 2) := by decide +kernel
theorem d_M_wanted_52 : decode b_M_wanted 52 = .ok (.iload_n 3, 1) := by decide +kernel
theorem d_M_wanted_53 : decode b_M_wanted 53 = .ok (.imul, 1) := by decide +kernel
theorem d_M_wanted_54 : decode b_M_wanted 54 = .ok (.aload_n 0, 1) := by decide +kernel
theorem d_M_wanted_55 : decode b_M_wanted 55 = .ok (.getfield 32, 3) := by decide +kernel
theorem d_M_wanted_58 : decode b_M_wanted 58 = .ok (.iload_n 2, 1) := by decide +kernel
theorem d_M_wanted_59 : decode b_M_wanted 59 = .ok (.bipush 16, 2) := by decide +kernel
theorem d_M_wanted_61 : decode b_M_wanted 61 = .ok (.idiv, 1) := by decide +kernel
theorem d_M_wanted_62 : decode b_M_wanted 62 = .ok (.iaload, 1) := by decide +kernel
theorem d_M_wanted_63 : decode b_M_wanted 63 = .ok (.iadd, 1) := by decide +kernel
theorem d_M_wanted_64 : decode b_M_wanted 64 = .ok (.iaload, 1) := by decide +kernel
theorem d_M_wanted_65 : decode b_M_wanted 65 = .ok (.istore 4, 2) := by decide +kernel
theorem d_M_wanted_67 : decode b_M_wanted 67 = .ok (.iload 4, 2) := by decide +kernel
theorem d_M_wanted_69 : decode b_M_wanted 69 = .ok (.ifCond .lt 31, 3) := by decide +kernel
theorem d_M_wanted_72 : decode b_M_wanted 72 = .ok (.aload_n 0, 1) := by decide +kernel
theorem d_M_wanted_73 : decode b_M_wanted 73 = .ok (.getfield 19, 3) := by decide +kernel
theorem d_M_wanted_76 : decode b_M_wanted 76 = .ok (.iload 4, 2) := by decide +kernel
theorem d_M_wanted_78 : decode b_M_wanted 78 = .ok (.iconst 4, 1) := by decide +kernel
theorem d_M_wanted_79 : decode b_M_wanted 79 = .ok (.idiv, 1) := by decide +kernel
theorem d_M_wanted_80 : decode b_M_wanted 80 = .ok (.baload, 1) := by decide +kernel
theorem d_M_wanted_81 : decode b_M_wanted 81 = .ok (.ifCond .ne 19, 3) := by decide +kernel
theorem d_M_wanted_84 : decode b_M_wanted 84 = .ok (.aload_n 0, 1) := by decide +kernel
theorem d_M_wanted_85 : decode b_M_wanted 85 = .ok (.getfield 59, 3) := by decide +kernel
theorem d_M_wanted_88 : decode b_M_wanted 88 = .ok (.iload 4, 2) := by decide +kernel
theorem d_M_wanted_90 : decode b_M_wanted 90 = .ok (.iaload, 1) := by decide +kernel
theorem d_M_wanted_91 : decode b_M_wanted 91 = .ok (.iconst (-1), 1) := by decide +kernel
theorem d_M_wanted_92 : decode b_M_wanted 92 = .ok (.if_icmp .ne 8, 3) := by decide +kernel
theorem d_M_wanted_95 : decode b_M_wanted 95 = .ok (.iload 4, 2) := by decide +kernel
theorem d_M_wanted_97 : decode b_M_wanted 97 = .ok (.goto 4, 3) := by decide +kernel
theorem d_M_wanted_100 : decode b_M_wanted 100 = .ok (.iconst (-1), 1) := by decide +kernel
theorem d_M_wanted_101 : decode b_M_wanted 101 = .ok (.ireturn, 1) := by decide +kernel
theorem d_M_ask_0 : decode b_M_ask 0 = .ok (.iconst 0, 1) := by decide +kernel
theorem d_M_ask_1 : decode b_M_ask 1 = .ok (.istore_n 1, 1) := by decide +kernel
theorem d_M_ask_2 : decode b_M_ask 2 = .ok (.iload_n 1, 1) := by decide +kernel
theorem d_M_ask_3 : decode b_M_ask 3 = .ok (.aload_n 0, 1) := by decide +kernel
theorem d_M_ask_4 : decode b_M_ask 4 = .ok (.getfield 81, 3) := by decide +kernel
theorem d_M_ask_7 : decode b_M_ask 7 = .ok (.if_icmp .ge 74, 3) := by decide +kernel
theorem d_M_ask_10 : decode b_M_ask 10 = .ok (.iconst 0, 1) := by decide +kernel
theorem d_M_ask_11 : decode b_M_ask 11 = .ok (.istore_n 2, 1) := by decide +kernel
theorem d_M_ask_12 : decode b_M_ask 12 = .ok (.iload_n 2, 1) := by decide +kernel
theorem d_M_ask_13 : decode b_M_ask 13 = .ok (.bipush 16, 2) := by decide +kernel
theorem d_M_ask_15 : decode b_M_ask 15 = .ok (.iconst 4, 1) := by decide +kernel
theorem d_M_ask_16 : decode b_M_ask 16 = .ok (.aload_n 0, 1) := by decide +kernel
theorem d_M_ask_17 : decode b_M_ask 17 = .ok (.getfield 88, 3) := by decide +kernel
theorem d_M_ask_20 : decode b_M_ask 20 = .ok (.imul, 1) := by decide +kernel
theorem d_M_ask_21 : decode b_M_ask 21 = .ok (.iadd, 1) := by decide +kernel
theorem d_M_ask_22 : decode b_M_ask 22 = .ok (.if_icmp .ge 53, 3) := by decide +kernel
theorem d_M_ask_25 : decode b_M_ask 25 = .ok (.aload_n 0, 1) := by decide +kernel
theorem d_M_ask_26 : decode b_M_ask 26 = .ok (.iload_n 2, 1) := by decide +kernel
theorem d_M_ask_27 : decode b_M_ask 27 = .ok (.iload_n 1, 1) := by decide +kernel
theorem d_M_ask_28 : decode b_M_ask 28 = .ok (.invokevirtual 128, 3) := by decide +kernel
theorem d_M_ask_31 : decode b_M_ask 31 = .ok (.ifCond .eq 11, 3) := by decide +kernel
theorem d_M_ask_34 : decode b_M_ask 34 = .ok (.aload_n 0, 1) := by decide +kernel
theorem d_M_ask_35 : decode b_M_ask 35 = .ok (.iload_n 2, 1) := by decide +kernel
theorem d_M_ask_36 : decode b_M_ask 36 = .ok (.invokevirtual 132, 3) := by decide +kernel
theorem d_M_ask_39 : decode b_M_ask 39 = .ok (.goto 4, 3) := by decide +kernel
theorem d_M_ask_42 : decode b_M_ask 42 = .ok (.iconst (-1), 1) := by decide +kernel
theorem d_M_ask_43 : decode b_M_ask 43 = .ok (.istore_n 3, 1) := by decide +kernel
theorem d_M_ask_44 : decode b_M_ask 44 = .ok (.iload_n 3, 1) := by decide +kernel
theorem d_M_ask_45 : decode b_M_ask 45 = .ok (.ifCond .lt 24, 3) := by decide +kernel
theorem d_M_ask_48 : decode b_M_ask 48 = .ok (.aload_n 0, 1) := by decide +kernel
theorem d_M_ask_49 : decode b_M_ask 49 = .ok (.getfield 59, 3) := by decide +kernel
theorem d_M_ask_52 : decode b_M_ask 52 = .ok (.iload_n 3, 1) := by decide +kernel
theorem d_M_ask_53 : decode b_M_ask 53 = .ok (.iload_n 2, 1) := by decide +kernel
theorem d_M_ask_54 : decode b_M_ask 54 = .ok (.iastore, 1) := by decide +kernel
theorem d_M_ask_55 : decode b_M_ask 55 = .ok (.aload_n 0, 1) := by decide +kernel
theorem d_M_ask_56 : decode b_M_ask 56 = .ok (.getfield 62, 3) := by decide +kernel
theorem d_M_ask_59 : decode b_M_ask 59 = .ok (.iload_n 3, 1) := by decide +kernel
theorem d_M_ask_60 : decode b_M_ask 60 = .ok (.aload_n 0, 1) := by decide +kernel
theorem d_M_ask_61 : decode b_M_ask 61 = .ok (.iload_n 2, 1) := by decide +kernel
theorem d_M_ask_62 : decode b_M_ask 62 = .ok (.invokevirtual 122, 3) := by decide +kernel
theorem d_M_ask_65 : decode b_M_ask 65 = .ok (.bipush 16, 2) := by decide +kernel
theorem d_M_ask_67 : decode b_M_ask 67 = .ok (.idiv, 1) := by decide +kernel
theorem d_M_ask_68 : decode b_M_ask 68 = .ok (.iastore, 1) := by decide +kernel
theorem d_M_ask_69 : decode b_M_ask 69 = .ok (.iinc 2 1, 3) := by decide +kernel
theorem d_M_ask_72 : decode b_M_ask 72 = .ok (.goto (-60), 3) := by decide +kernel
theorem d_M_ask_75 : decode b_M_ask 75 = .ok (.iinc 1 1, 3) := by decide +kernel
theorem d_M_ask_78 : decode b_M_ask 78 = .ok (.goto (-76), 3) := by decide +kernel
theorem d_M_ask_81 : decode b_M_ask 81 = .ok (.return_, 1) := by decide +kernel
theorem d_M_mover_0 : decode b_M_mover 0 = .ok (.iconst 1, 1) := by decide +kernel
theorem d_M_mover_1 : decode b_M_mover 1 = .ok (.istore_n 2, 1) := by decide +kernel
theorem d_M_mover_2 : decode b_M_mover 2 = .ok (.iload_n 2, 1) := by decide +kernel
theorem d_M_mover_3 : decode b_M_mover 3 = .ok (.iconst 4, 1) := by decide +kernel
theorem d_M_mover_4 : decode b_M_mover 4 = .ok (.if_icmp .gt 68, 3) := by decide +kernel
theorem d_M_mover_7 : decode b_M_mover 7 = .ok (.iconst 4, 1) := by decide +kernel
theorem d_M_mover_8 : decode b_M_mover 8 = .ok (.iload_n 1, 1) := by decide +kernel
theorem d_M_mover_9 : decode b_M_mover 9 = .ok (.imul, 1) := by decide +kernel
theorem d_M_mover_10 : decode b_M_mover 10 = .ok (.aload_n 0, 1) := by decide +kernel
theorem d_M_mover_11 : decode b_M_mover 11 = .ok (.getfield 23, 3) := by decide +kernel
theorem d_M_mover_14 : decode b_M_mover 14 = .ok (.iload_n 1, 1) := by decide +kernel
theorem d_M_mover_15 : decode b_M_mover 15 = .ok (.iaload, 1) := by decide +kernel
theorem d_M_mover_16 : decode b_M_mover 16 = .ok (.iload_n 2, 1) := by decide +kernel
theorem d_M_mover_17 : decode b_M_mover 17 = .ok (.iadd, 1) := by decide +kernel
theorem d_M_mover_18 : decode b_M_mover 18 = .ok (.iconst 4, 1) := by decide +kernel
theorem d_M_mover_19 : decode b_M_mover 19 = .ok (.iadd, 1) := by decide +kernel
theorem d_M_mover_20 : decode b_M_mover 20 = .ok (.iconst 4, 1) := by decide +kernel
theorem d_M_mover_21 : decode b_M_mover 21 = .ok (.irem, 1) := by decide +kernel
theorem d_M_mover_22 : decode b_M_mover 22 = .ok (.iadd, 1) := by decide +kernel
theorem d_M_mover_23 : decode b_M_mover 23 = .ok (.istore_n 3, 1) := by decide +kernel
theorem d_M_mover_24 : decode b_M_mover 24 = .ok (.aload_n 0, 1) := by decide +kernel
theorem d_M_mover_25 : decode b_M_mover 25 = .ok (.iload_n 3, 1) := by decide +kernel
theorem d_M_mover_26 : decode b_M_mover 26 = .ok (.invokevirtual 99, 3) := by decide +kernel
theorem d_M_mover_29 : decode b_M_mover 29 = .ok (.ifCond .eq 37, 3) := by decide +kernel
theorem d_M_mover_32 : decode b_M_mover 32 = .ok (.aload_n 0, 1) := by decide +kernel
theorem d_M_mover_33 : decode b_M_mover 33 = .ok (.getfield 59, 3) := by decide +kernel
theorem d_M_mover_36 : decode b_M_mover 36 = .ok (.iload_n 3, 1) := by decide +kernel
theorem d_M_mover_37 : decode b_M_mover 37 = .ok (.iaload, 1) := by decide +kernel
theorem d_M_mover_38 : decode b_M_mover 38 = .ok (.ifCond .lt 28, 3) := by decide +kernel
theorem d_M_mover_41 : decode b_M_mover 41 = .ok (.aload_n 0, 1) := by decide +kernel
theorem d_M_mover_42 : decode b_M_mover 42 = .ok (.aload_n 0, 1) := by decide +kernel
theorem d_M_mover_43 : decode b_M_mover 43 = .ok (.getfield 59, 3) := by decide +kernel
theorem d_M_mover_46 : decode b_M_mover 46 = .ok (.iload_n 3, 1) := by decide +kernel
theorem d_M_mover_47 : decode b_M_mover 47 = .ok (.iaload, 1) := by decide +kernel
theorem d_M_mover_48 : decode b_M_mover 48 = .ok (.invokevirtual 122, 3) := by decide +kernel
theorem d_M_mover_51 : decode b_M_mover 51 = .ok (.ifCond .lt 15, 3) := by decide +kernel
theorem d_M_mover_54 : decode b_M_mover 54 = .ok (.aload_n 0, 1) := by decide +kernel
theorem d_M_mover_55 : decode b_M_mover 55 = .ok (.getfield 47, 3) := by decide +kernel
theorem d_M_mover_58 : decode b_M_mover 58 = .ok (.iload_n 3, 1) := by decide +kernel
theorem d_M_mover_59 : decode b_M_mover 59 = .ok (.iaload, 1) := by decide +kernel
theorem d_M_mover_60 : decode b_M_mover 60 = .ok (.iconst 4, 1) := by decide +kernel
theorem d_M_mover_61 : decode b_M_mover 61 = .ok (.if_icmp .ge 5, 3) := by decide +kernel
theorem d_M_mover_64 : decode b_M_mover 64 = .ok (.iload_n 3, 1) := by decide +kernel
theorem d_M_mover_65 : decode b_M_mover 65 = .ok (.ireturn, 1) := by decide +kernel
theorem d_M_mover_66 : decode b_M_mover 66 = .ok (.iinc 2 1, 3) := by decide +kernel
theorem d_M_mover_69 : decode b_M_mover 69 = .ok (.goto (-67), 3) := by decide +kernel
theorem d_M_mover_72 : decode b_M_mover 72 = .ok (.iconst (-1), 1) := by decide +kernel
theorem d_M_mover_73 : decode b_M_mover 73 = .ok (.ireturn, 1) := by decide +kernel
theorem d_M_move_0 : decode b_M_move 0 = .ok (.aload_n 0, 1) := by decide +kernel
theorem d_M_move_1 : decode b_M_move 1 = .ok (.iload_n 1, 1) := by decide +kernel
theorem d_M_move_2 : decode b_M_move 2 = .ok (.invokevirtual 135, 3) := by decide +kernel
theorem d_M_move_5 : decode b_M_move 5 = .ok (.istore_n 2, 1) := by decide +kernel
theorem d_M_move_6 : decode b_M_move 6 = .ok (.iload_n 2, 1) := by decide +kernel
theorem d_M_move_7 : decode b_M_move 7 = .ok (.ifCond .ge 4, 3) := by decide +kernel
theorem d_M_move_10 : decode b_M_move 10 = .ok (.return_, 1) := by decide +kernel
theorem d_M_move_11 : decode b_M_move 11 = .ok (.aload_n 0, 1) := by decide +kernel
theorem d_M_move_12 : decode b_M_move 12 = .ok (.aload_n 0, 1) := by decide +kernel
theorem d_M_move_13 : decode b_M_move 13 = .ok (.getfield 59, 3) := by decide +kernel
theorem d_M_move_16 : decode b_M_move 16 = .ok (.iload_n 2, 1) := by decide +kernel
theorem d_M_move_17 : decode b_M_move 17 = .ok (.iaload, 1) := by decide +kernel
theorem d_M_move_18 : decode b_M_move 18 = .ok (.invokevirtual 122, 3) := by decide +kernel
theorem d_M_move_21 : decode b_M_move 21 = .ok (.istore_n 3, 1) := by decide +kernel
theorem d_M_move_22 : decode b_M_move 22 = .ok (.aload_n 0, 1) := by decide +kernel
theorem d_M_move_23 : decode b_M_move 23 = .ok (.aload_n 0, 1) := by decide +kernel
theorem d_M_move_24 : decode b_M_move 24 = .ok (.getfield 59, 3) := by decide +kernel
theorem d_M_move_27 : decode b_M_move 27 = .ok (.iload_n 2, 1) := by decide +kernel
theorem d_M_move_28 : decode b_M_move 28 = .ok (.iaload, 1) := by decide +kernel
theorem d_M_move_29 : decode b_M_move 29 = .ok (.iload_n 3, 1) := by decide +kernel
theorem d_M_move_30 : decode b_M_move 30 = .ok (.invokevirtual 138, 3) := by decide +kernel
theorem d_M_move_33 : decode b_M_move 33 = .ok (.aload_n 0, 1) := by decide +kernel
theorem d_M_move_34 : decode b_M_move 34 = .ok (.getfield 50, 3) := by decide +kernel
theorem d_M_move_37 : decode b_M_move 37 = .ok (.iconst 4, 1) := by decide +kernel
theorem d_M_move_38 : decode b_M_move 38 = .ok (.iload_n 2, 1) := by decide +kernel
theorem d_M_move_39 : decode b_M_move 39 = .ok (.imul, 1) := by decide +kernel
theorem d_M_move_40 : decode b_M_move 40 = .ok (.aload_n 0, 1) := by decide +kernel
theorem d_M_move_41 : decode b_M_move 41 = .ok (.getfield 47, 3) := by decide +kernel
theorem d_M_move_44 : decode b_M_move 44 = .ok (.iload_n 2, 1) := by decide +kernel
theorem d_M_move_45 : decode b_M_move 45 = .ok (.iaload, 1) := by decide +kernel
theorem d_M_move_46 : decode b_M_move 46 = .ok (.iadd, 1) := by decide +kernel
theorem d_M_move_47 : decode b_M_move 47 = .ok (.iload_n 3, 1) := by decide +kernel
theorem d_M_move_48 : decode b_M_move 48 = .ok (.iastore, 1) := by decide +kernel
theorem d_M_move_49 : decode b_M_move 49 = .ok (.aload_n 0, 1) := by decide +kernel
theorem d_M_move_50 : decode b_M_move 50 = .ok (.getfield 53, 3) := by decide +kernel
theorem d_M_move_53 : decode b_M_move 53 = .ok (.iconst 4, 1) := by decide +kernel
theorem d_M_move_54 : decode b_M_move 54 = .ok (.iload_n 2, 1) := by decide +kernel
theorem d_M_move_55 : decode b_M_move 55 = .ok (.imul, 1) := by decide +kernel
theorem d_M_move_56 : decode b_M_move 56 = .ok (.aload_n 0, 1) := by decide +kernel
theorem d_M_move_57 : decode b_M_move 57 = .ok (.getfield 47, 3) := by decide +kernel
theorem d_M_move_60 : decode b_M_move 60 = .ok (.iload_n 2, 1) := by decide +kernel
theorem d_M_move_61 : decode b_M_move 61 = .ok (.iaload, 1) := by decide +kernel
theorem d_M_move_62 : decode b_M_move 62 = .ok (.iadd, 1) := by decide +kernel
theorem d_M_move_63 : decode b_M_move 63 = .ok (.aload_n 0, 1) := by decide +kernel
theorem d_M_move_64 : decode b_M_move 64 = .ok (.getfield 116, 3) := by decide +kernel
theorem d_M_move_67 : decode b_M_move 67 = .ok (.iastore, 1) := by decide +kernel
theorem d_M_move_68 : decode b_M_move 68 = .ok (.aload_n 0, 1) := by decide +kernel
theorem d_M_move_69 : decode b_M_move 69 = .ok (.getfield 47, 3) := by decide +kernel
theorem d_M_move_72 : decode b_M_move 72 = .ok (.iload_n 2, 1) := by decide +kernel
theorem d_M_move_73 : decode b_M_move 73 = .ok (.dup2, 1) := by decide +kernel
theorem d_M_move_74 : decode b_M_move 74 = .ok (.iaload, 1) := by decide +kernel
theorem d_M_move_75 : decode b_M_move 75 = .ok (.iconst 1, 1) := by decide +kernel
theorem d_M_move_76 : decode b_M_move 76 = .ok (.iadd, 1) := by decide +kernel
theorem d_M_move_77 : decode b_M_move 77 = .ok (.iastore, 1) := by decide +kernel
theorem d_M_move_78 : decode b_M_move 78 = .ok (.aload_n 0, 1) := by decide +kernel
theorem d_M_move_79 : decode b_M_move 79 = .ok (.dup, 1) := by decide +kernel
theorem d_M_move_80 : decode b_M_move 80 = .ok (.getfield 142, 3) := by decide +kernel
theorem d_M_move_83 : decode b_M_move 83 = .ok (.iconst 1, 1) := by decide +kernel
theorem d_M_move_84 : decode b_M_move 84 = .ok (.iadd, 1) := by decide +kernel
theorem d_M_move_85 : decode b_M_move 85 = .ok (.putfield 142, 3) := by decide +kernel
theorem d_M_move_88 : decode b_M_move 88 = .ok (.aload_n 0, 1) := by decide +kernel
theorem d_M_move_89 : decode b_M_move 89 = .ok (.getfield 56, 3) := by decide +kernel
theorem d_M_move_92 : decode b_M_move 92 = .ok (.iload_n 2, 1) := by decide +kernel
theorem d_M_move_93 : decode b_M_move 93 = .ok (.dup2, 1) := by decide +kernel
theorem d_M_move_94 : decode b_M_move 94 = .ok (.iaload, 1) := by decide +kernel
theorem d_M_move_95 : decode b_M_move 95 = .ok (.iconst 1, 1) := by decide +kernel
theorem d_M_move_96 : decode b_M_move 96 = .ok (.iadd, 1) := by decide +kernel
theorem d_M_move_97 : decode b_M_move 97 = .ok (.iastore, 1) := by decide +kernel
theorem d_M_move_98 : decode b_M_move 98 = .ok (.aload_n 0, 1) := by decide +kernel
theorem d_M_move_99 : decode b_M_move 99 = .ok (.getfield 23, 3) := by decide +kernel
theorem d_M_move_102 : decode b_M_move 102 = .ok (.iload_n 1, 1) := by decide +kernel
theorem d_M_move_103 : decode b_M_move 103 = .ok (.iload_n 2, 1) := by decide +kernel
theorem d_M_move_104 : decode b_M_move 104 = .ok (.iconst 4, 1) := by decide +kernel
theorem d_M_move_105 : decode b_M_move 105 = .ok (.irem, 1) := by decide +kernel
theorem d_M_move_106 : decode b_M_move 106 = .ok (.iastore, 1) := by decide +kernel
theorem d_M_move_107 : decode b_M_move 107 = .ok (.iload_n 3, 1) := by decide +kernel
theorem d_M_move_108 : decode b_M_move 108 = .ok (.bipush 16, 2) := by decide +kernel
theorem d_M_move_110 : decode b_M_move 110 = .ok (.irem, 1) := by decide +kernel
theorem d_M_move_111 : decode b_M_move 111 = .ok (.aload_n 0, 1) := by decide +kernel
theorem d_M_move_112 : decode b_M_move 112 = .ok (.getfield 35, 3) := by decide +kernel
theorem d_M_move_115 : decode b_M_move 115 = .ok (.iload_n 3, 1) := by decide +kernel
theorem d_M_move_116 : decode b_M_move 116 = .ok (.bipush 16, 2) := by decide +kernel
theorem d_M_move_118 : decode b_M_move 118 = .ok (.idiv, 1) := by decide +kernel
theorem d_M_move_119 : decode b_M_move 119 = .ok (.iaload, 1) := by decide +kernel
theorem d_M_move_120 : decode b_M_move 120 = .ok (.iconst 1, 1) := by decide +kernel
theorem d_M_move_121 : decode b_M_move 121 = .ok (.isub, 1) := by decide +kernel
theorem d_M_move_122 : decode b_M_move 122 = .ok (.if_icmp .ne 17, 3) := by decide +kernel
theorem d_M_move_125 : decode b_M_move 125 = .ok (.aload_n 0, 1) := by decide +kernel
theorem d_M_move_126 : decode b_M_move 126 = .ok (.getfield 59, 3) := by decide +kernel
theorem d_M_move_129 : decode b_M_move 129 = .ok (.iload_n 2, 1) := by decide +kernel
theorem d_M_move_130 : decode b_M_move 130 = .ok (.iconst (-1), 1) := by decide +kernel
theorem d_M_move_131 : decode b_M_move 131 = .ok (.iastore, 1) := by decide +kernel
theorem d_M_move_132 : decode b_M_move 132 = .ok (.aload_n 0, 1) := by decide +kernel
theorem d_M_move_133 : decode b_M_move 133 = .ok (.getfield 62, 3) := by decide +kernel
theorem d_M_move_136 : decode b_M_move 136 = .ok (.iload_n 2, 1) := by decide +kernel
theorem d_M_move_137 : decode b_M_move 137 = .ok (.iconst (-1), 1) := by decide +kernel
theorem d_M_move_138 : decode b_M_move 138 = .ok (.iastore, 1) := by decide +kernel
theorem d_M_move_139 : decode b_M_move 139 = .ok (.return_, 1) := by decide +kernel
theorem d_M_leave_0 : decode b_M_leave 0 = .ok (.aload_n 0, 1) := by decide +kernel
theorem d_M_leave_1 : decode b_M_leave 1 = .ok (.iload_n 1, 1) := by decide +kernel
theorem d_M_leave_2 : decode b_M_leave 2 = .ok (.invokevirtual 122, 3) := by decide +kernel
theorem d_M_leave_5 : decode b_M_leave 5 = .ok (.istore_n 3, 1) := by decide +kernel
theorem d_M_leave_6 : decode b_M_leave 6 = .ok (.iload_n 3, 1) := by decide +kernel
theorem d_M_leave_7 : decode b_M_leave 7 = .ok (.ifCond .lt 16, 3) := by decide +kernel
theorem d_M_leave_10 : decode b_M_leave 10 = .ok (.aload_n 0, 1) := by decide +kernel
theorem d_M_leave_11 : decode b_M_leave 11 = .ok (.getfield 32, 3) := by decide +kernel
theorem d_M_leave_14 : decode b_M_leave 14 = .ok (.iload_n 3, 1) := by decide +kernel
theorem d_M_leave_15 : decode b_M_leave 15 = .ok (.bipush 16, 2) := by decide +kernel
theorem d_M_leave_17 : decode b_M_leave 17 = .ok (.idiv, 1) := by decide +kernel
theorem d_M_leave_18 : decode b_M_leave 18 = .ok (.iaload, 1) := by decide +kernel
theorem d_M_leave_19 : decode b_M_leave 19 = .ok (.iload_n 2, 1) := by decide +kernel
theorem d_M_leave_20 : decode b_M_leave 20 = .ok (.if_icmp .eq 4, 3) := by decide +kernel
theorem d_M_leave_23 : decode b_M_leave 23 = .ok (.return_, 1) := by decide +kernel
theorem d_M_leave_24 : decode b_M_leave 24 = .ok (.aload_n 0, 1) := by decide +kernel
theorem d_M_leave_25 : decode b_M_leave 25 = .ok (.iload_n 1, 1) := by decide +kernel
theorem d_M_leave_26 : decode b_M_leave 26 = .ok (.iload_n 3, 1) := by decide +kernel
theorem d_M_leave_27 : decode b_M_leave 27 = .ok (.invokevirtual 138, 3) := by decide +kernel
theorem d_M_leave_30 : decode b_M_leave 30 = .ok (.aload_n 0, 1) := by decide +kernel
theorem d_M_leave_31 : decode b_M_leave 31 = .ok (.getfield 41, 3) := by decide +kernel
theorem d_M_leave_34 : decode b_M_leave 34 = .ok (.iload_n 3, 1) := by decide +kernel
theorem d_M_leave_35 : decode b_M_leave 35 = .ok (.bipush 16, 2) := by decide +kernel
theorem d_M_leave_37 : decode b_M_leave 37 = .ok (.idiv, 1) := by decide +kernel
theorem d_M_leave_38 : decode b_M_leave 38 = .ok (.dup2, 1) := by decide +kernel
theorem d_M_leave_39 : decode b_M_leave 39 = .ok (.iaload, 1) := by decide +kernel
theorem d_M_leave_40 : decode b_M_leave 40 = .ok (.iconst 1, 1) := by decide +kernel
theorem d_M_leave_41 : decode b_M_leave 41 = .ok (.iadd, 1) := by decide +kernel
theorem d_M_leave_42 : decode b_M_leave 42 = .ok (.iastore, 1) := by decide +kernel
theorem d_M_leave_43 : decode b_M_leave 43 = .ok (.aload_n 0, 1) := by decide +kernel
theorem d_M_leave_44 : decode b_M_leave 44 = .ok (.dup, 1) := by decide +kernel
theorem d_M_leave_45 : decode b_M_leave 45 = .ok (.getfield 145, 3) := by decide +kernel
theorem d_M_leave_48 : decode b_M_leave 48 = .ok (.iconst 1, 1) := by decide +kernel
theorem d_M_leave_49 : decode b_M_leave 49 = .ok (.iadd, 1) := by decide +kernel
theorem d_M_leave_50 : decode b_M_leave 50 = .ok (.putfield 145, 3) := by decide +kernel
theorem d_M_leave_53 : decode b_M_leave 53 = .ok (.iload_n 3, 1) := by decide +kernel
theorem d_M_leave_54 : decode b_M_leave 54 = .ok (.bipush 16, 2) := by decide +kernel
theorem d_M_leave_56 : decode b_M_leave 56 = .ok (.irem, 1) := by decide +kernel
theorem d_M_leave_57 : decode b_M_leave 57 = .ok (.aload_n 0, 1) := by decide +kernel
theorem d_M_leave_58 : decode b_M_leave 58 = .ok (.getfield 35, 3) := by decide +kernel
theorem d_M_leave_61 : decode b_M_leave 61 = .ok (.iload_n 3, 1) := by decide +kernel
theorem d_M_leave_62 : decode b_M_leave 62 = .ok (.bipush 16, 2) := by decide +kernel
theorem d_M_leave_64 : decode b_M_leave 64 = .ok (.idiv, 1) := by decide +kernel
theorem d_M_leave_65 : decode b_M_leave 65 = .ok (.iaload, 1) := by decide +kernel
theorem d_M_leave_66 : decode b_M_leave 66 = .ok (.iconst 1, 1) := by decide +kernel
theorem d_M_leave_67 : decode b_M_leave 67 = .ok (.isub, 1) := by decide +kernel
theorem d_M_leave_68 : decode b_M_leave 68 = .ok (.if_icmp .ne 26, 3) := by decide +kernel
theorem d_M_leave_71 : decode b_M_leave 71 = .ok (.aload_n 0, 1) := by decide +kernel
theorem d_M_leave_72 : decode b_M_leave 72 = .ok (.getfield 44, 3) := by decide +kernel
theorem d_M_leave_75 : decode b_M_leave 75 = .ok (.iload_n 3, 1) := by decide +kernel
theorem d_M_leave_76 : decode b_M_leave 76 = .ok (.bipush 16, 2) := by decide +kernel
theorem d_M_leave_78 : decode b_M_leave 78 = .ok (.idiv, 1) := by decide +kernel
theorem d_M_leave_79 : decode b_M_leave 79 = .ok (.aload_n 0, 1) := by decide +kernel
theorem d_M_leave_80 : decode b_M_leave 80 = .ok (.getfield 116, 3) := by decide +kernel
theorem d_M_leave_83 : decode b_M_leave 83 = .ok (.iastore, 1) := by decide +kernel
theorem d_M_leave_84 : decode b_M_leave 84 = .ok (.aload_n 0, 1) := by decide +kernel
theorem d_M_leave_85 : decode b_M_leave 85 = .ok (.dup, 1) := by decide +kernel
theorem d_M_leave_86 : decode b_M_leave 86 = .ok (.getfield 148, 3) := by decide +kernel
theorem d_M_leave_89 : decode b_M_leave 89 = .ok (.iconst 1, 1) := by decide +kernel
theorem d_M_leave_90 : decode b_M_leave 90 = .ok (.iadd, 1) := by decide +kernel
theorem d_M_leave_91 : decode b_M_leave 91 = .ok (.putfield 148, 3) := by decide +kernel
theorem d_M_leave_94 : decode b_M_leave 94 = .ok (.return_, 1) := by decide +kernel
theorem d_M_step_0 : decode b_M_step 0 = .ok (.aload_n 0, 1) := by decide +kernel
theorem d_M_step_1 : decode b_M_step 1 = .ok (.dup, 1) := by decide +kernel
theorem d_M_step_2 : decode b_M_step 2 = .ok (.getfield 116, 3) := by decide +kernel
theorem d_M_step_5 : decode b_M_step 5 = .ok (.iconst 1, 1) := by decide +kernel
theorem d_M_step_6 : decode b_M_step 6 = .ok (.iadd, 1) := by decide +kernel
theorem d_M_step_7 : decode b_M_step 7 = .ok (.putfield 116, 3) := by decide +kernel
theorem d_M_step_10 : decode b_M_step 10 = .ok (.aload_n 0, 1) := by decide +kernel
theorem d_M_step_11 : decode b_M_step 11 = .ok (.invokevirtual 151, 3) := by decide +kernel
theorem d_M_step_14 : decode b_M_step 14 = .ok (.iconst 0, 1) := by decide +kernel
theorem d_M_step_15 : decode b_M_step 15 = .ok (.istore_n 1, 1) := by decide +kernel
theorem d_M_step_16 : decode b_M_step 16 = .ok (.iload_n 1, 1) := by decide +kernel
theorem d_M_step_17 : decode b_M_step 17 = .ok (.aload_n 0, 1) := by decide +kernel
theorem d_M_step_18 : decode b_M_step 18 = .ok (.getfield 88, 3) := by decide +kernel
theorem d_M_step_21 : decode b_M_step 21 = .ok (.if_icmp .ge 14, 3) := by decide +kernel
theorem d_M_step_24 : decode b_M_step 24 = .ok (.aload_n 0, 1) := by decide +kernel
theorem d_M_step_25 : decode b_M_step 25 = .ok (.iload_n 1, 1) := by decide +kernel
theorem d_M_step_26 : decode b_M_step 26 = .ok (.invokevirtual 154, 3) := by decide +kernel
theorem d_M_step_29 : decode b_M_step 29 = .ok (.iinc 1 1, 3) := by decide +kernel
theorem d_M_step_32 : decode b_M_step 32 = .ok (.goto (-16), 3) := by decide +kernel
theorem d_M_step_35 : decode b_M_step 35 = .ok (.iconst 0, 1) := by decide +kernel
theorem d_M_step_36 : decode b_M_step 36 = .ok (.istore_n 1, 1) := by decide +kernel
theorem d_M_step_37 : decode b_M_step 37 = .ok (.iload_n 1, 1) := by decide +kernel
theorem d_M_step_38 : decode b_M_step 38 = .ok (.aload_n 0, 1) := by decide +kernel
theorem d_M_step_39 : decode b_M_step 39 = .ok (.getfield 81, 3) := by decide +kernel
theorem d_M_step_42 : decode b_M_step 42 = .ok (.if_icmp .ge 45, 3) := by decide +kernel
theorem d_M_step_45 : decode b_M_step 45 = .ok (.iconst 0, 1) := by decide +kernel
theorem d_M_step_46 : decode b_M_step 46 = .ok (.istore_n 2, 1) := by decide +kernel
theorem d_M_step_47 : decode b_M_step 47 = .ok (.iload_n 2, 1) := by decide +kernel
theorem d_M_step_48 : decode b_M_step 48 = .ok (.bipush 16, 2) := by decide +kernel
theorem d_M_step_50 : decode b_M_step 50 = .ok (.iconst 4, 1) := by decide +kernel
theorem d_M_step_51 : decode b_M_step 51 = .ok (.aload_n 0, 1) := by decide +kernel
theorem d_M_step_52 : decode b_M_step 52 = .ok (.getfield 88, 3) := by decide +kernel
theorem d_M_step_55 : decode b_M_step 55 = .ok (.imul, 1) := by decide +kernel
theorem d_M_step_56 : decode b_M_step 56 = .ok (.iadd, 1) := by decide +kernel
theorem d_M_step_57 : decode b_M_step 57 = .ok (.if_icmp .ge 24, 3) := by decide +kernel
theorem d_M_step_60 : decode b_M_step 60 = .ok (.aload_n 0, 1) := by decide +kernel
theorem d_M_step_61 : decode b_M_step 61 = .ok (.iload_n 2, 1) := by decide +kernel
theorem d_M_step_62 : decode b_M_step 62 = .ok (.iload_n 1, 1) := by decide +kernel
theorem d_M_step_63 : decode b_M_step 63 = .ok (.invokevirtual 128, 3) := by decide +kernel
theorem d_M_step_66 : decode b_M_step 66 = .ok (.ifCond .eq 9, 3) := by decide +kernel
theorem d_M_step_69 : decode b_M_step 69 = .ok (.aload_n 0, 1) := by decide +kernel
theorem d_M_step_70 : decode b_M_step 70 = .ok (.iload_n 2, 1) := by decide +kernel
theorem d_M_step_71 : decode b_M_step 71 = .ok (.iload_n 1, 1) := by decide +kernel
theorem d_M_step_72 : decode b_M_step 72 = .ok (.invokevirtual 158, 3) := by decide +kernel
theorem d_M_step_75 : decode b_M_step 75 = .ok (.iinc 2 1, 3) := by decide +kernel
theorem d_M_step_78 : decode b_M_step 78 = .ok (.goto (-31), 3) := by decide +kernel
theorem d_M_step_81 : decode b_M_step 81 = .ok (.iinc 1 1, 3) := by decide +kernel
theorem d_M_step_84 : decode b_M_step 84 = .ok (.goto (-47), 3) := by decide +kernel
theorem d_M_step_87 : decode b_M_step 87 = .ok (.return_, 1) := by decide +kernel
theorem d_M_isEmpty_0 : decode b_M_isEmpty 0 = .ok (.aload_n 0, 1) := by decide +kernel
theorem d_M_isEmpty_1 : decode b_M_isEmpty 1 = .ok (.getfield 148, 3) := by decide +kernel
theorem d_M_isEmpty_4 : decode b_M_isEmpty 4 = .ok (.aload_n 0, 1) := by decide +kernel
theorem d_M_isEmpty_5 : decode b_M_isEmpty 5 = .ok (.getfield 102, 3) := by decide +kernel
theorem d_M_isEmpty_8 : decode b_M_isEmpty 8 = .ok (.if_icmp .ne 7, 3) := by decide +kernel
theorem d_M_isEmpty_11 : decode b_M_isEmpty 11 = .ok (.iconst 1, 1) := by decide +kernel
theorem d_M_isEmpty_12 : decode b_M_isEmpty 12 = .ok (.goto 4, 3) := by decide +kernel
theorem d_M_isEmpty_15 : decode b_M_isEmpty 15 = .ok (.iconst 0, 1) := by decide +kernel
theorem d_M_isEmpty_16 : decode b_M_isEmpty 16 = .ok (.ireturn, 1) := by decide +kernel
theorem d_M_run_0 : decode b_M_run 0 = .ok (.aload_n 0, 1) := by decide +kernel
theorem d_M_run_1 : decode b_M_run 1 = .ok (.iconst 0, 1) := by decide +kernel
theorem d_M_run_2 : decode b_M_run 2 = .ok (.putfield 78, 3) := by decide +kernel
theorem d_M_run_5 : decode b_M_run 5 = .ok (.iload_n 1, 1) := by decide +kernel
theorem d_M_run_6 : decode b_M_run 6 = .ok (.iconst 1, 1) := by decide +kernel
theorem d_M_run_7 : decode b_M_run 7 = .ok (.sipush 2000, 3) := by decide +kernel
theorem d_M_run_10 : decode b_M_run 10 = .ok (.invokestatic 84, 3) := by decide +kernel
theorem d_M_run_13 : decode b_M_run 13 = .ok (.ifCond .ne 9, 3) := by decide +kernel
theorem d_M_run_16 : decode b_M_run 16 = .ok (.aload_n 0, 1) := by decide +kernel
theorem d_M_run_17 : decode b_M_run 17 = .ok (.iconst 1, 1) := by decide +kernel
theorem d_M_run_18 : decode b_M_run 18 = .ok (.invokevirtual 91, 3) := by decide +kernel
theorem d_M_run_21 : decode b_M_run 21 = .ok (.ireturn, 1) := by decide +kernel
theorem d_M_run_22 : decode b_M_run 22 = .ok (.aload_n 0, 1) := by decide +kernel
theorem d_M_run_23 : decode b_M_run 23 = .ok (.getfield 148, 3) := by decide +kernel
theorem d_M_run_26 : decode b_M_run 26 = .ok (.istore_n 2, 1) := by decide +kernel
theorem d_M_run_27 : decode b_M_run 27 = .ok (.iconst 0, 1) := by decide +kernel
theorem d_M_run_28 : decode b_M_run 28 = .ok (.istore_n 3, 1) := by decide +kernel
theorem d_M_run_29 : decode b_M_run 29 = .ok (.iload_n 3, 1) := by decide +kernel
theorem d_M_run_30 : decode b_M_run 30 = .ok (.iload_n 1, 1) := by decide +kernel
theorem d_M_run_31 : decode b_M_run 31 = .ok (.if_icmp .ge 33, 3) := by decide +kernel
theorem d_M_run_34 : decode b_M_run 34 = .ok (.aload_n 0, 1) := by decide +kernel
theorem d_M_run_35 : decode b_M_run 35 = .ok (.invokevirtual 161, 3) := by decide +kernel
theorem d_M_run_38 : decode b_M_run 38 = .ok (.ifCond .eq 16, 3) := by decide +kernel
theorem d_M_run_41 : decode b_M_run 41 = .ok (.aload_n 0, 1) := by decide +kernel
theorem d_M_run_42 : decode b_M_run 42 = .ok (.dup, 1) := by decide +kernel
theorem d_M_run_43 : decode b_M_run 43 = .ok (.getfield 116, 3) := by decide +kernel
theorem d_M_run_46 : decode b_M_run 46 = .ok (.iconst 1, 1) := by decide +kernel
theorem d_M_run_47 : decode b_M_run 47 = .ok (.iadd, 1) := by decide +kernel
theorem d_M_run_48 : decode b_M_run 48 = .ok (.putfield 116, 3) := by decide +kernel
theorem d_M_run_51 : decode b_M_run 51 = .ok (.goto 7, 3) := by decide +kernel
theorem d_M_run_54 : decode b_M_run 54 = .ok (.aload_n 0, 1) := by decide +kernel
theorem d_M_run_55 : decode b_M_run 55 = .ok (.invokevirtual 165, 3) := by decide +kernel
theorem d_M_run_58 : decode b_M_run 58 = .ok (.iinc 3 1, 3) := by decide +kernel
theorem d_M_run_61 : decode b_M_run 61 = .ok (.goto (-32), 3) := by decide +kernel
theorem d_M_run_64 : decode b_M_run 64 = .ok (.aload_n 0, 1) := by decide +kernel
theorem d_M_run_65 : decode b_M_run 65 = .ok (.getfield 148, 3) := by decide +kernel
theorem d_M_run_68 : decode b_M_run 68 = .ok (.iload_n 2, 1) := by decide +kernel
theorem d_M_run_69 : decode b_M_run 69 = .ok (.isub, 1) := by decide +kernel
theorem d_M_run_70 : decode b_M_run 70 = .ok (.ireturn, 1) := by decide +kernel
theorem d_M_flitsIn_0 : decode b_M_flitsIn 0 = .ok (.iload_n 2, 1) := by decide +kernel
theorem d_M_flitsIn_1 : decode b_M_flitsIn 1 = .ok (.iconst 1, 1) := by decide +kernel
theorem d_M_flitsIn_2 : decode b_M_flitsIn 2 = .ok (.if_icmp .ne 19, 3) := by decide +kernel
theorem d_M_flitsIn_5 : decode b_M_flitsIn 5 = .ok (.aload_n 0, 1) := by decide +kernel
theorem d_M_flitsIn_6 : decode b_M_flitsIn 6 = .ok (.getfield 35, 3) := by decide +kernel
theorem d_M_flitsIn_9 : decode b_M_flitsIn 9 = .ok (.iload_n 1, 1) := by decide +kernel
theorem d_M_flitsIn_10 : decode b_M_flitsIn 10 = .ok (.iaload, 1) := by decide +kernel
theorem d_M_flitsIn_11 : decode b_M_flitsIn 11 = .ok (.aload_n 0, 1) := by decide +kernel
theorem d_M_flitsIn_12 : decode b_M_flitsIn 12 = .ok (.getfield 38, 3) := by decide +kernel
theorem d_M_flitsIn_15 : decode b_M_flitsIn 15 = .ok (.iload_n 1, 1) := by decide +kernel
theorem d_M_flitsIn_16 : decode b_M_flitsIn 16 = .ok (.iaload, 1) := by decide +kernel
theorem d_M_flitsIn_17 : decode b_M_flitsIn 17 = .ok (.isub, 1) := by decide +kernel
theorem d_M_flitsIn_18 : decode b_M_flitsIn 18 = .ok (.goto 30, 3) := by decide +kernel
theorem d_M_flitsIn_21 : decode b_M_flitsIn 21 = .ok (.iload_n 2, 1) := by decide +kernel
theorem d_M_flitsIn_22 : decode b_M_flitsIn 22 = .ok (.iconst 2, 1) := by decide +kernel
theorem d_M_flitsIn_23 : decode b_M_flitsIn 23 = .ok (.if_icmp .ne 19, 3) := by decide +kernel
theorem d_M_flitsIn_26 : decode b_M_flitsIn 26 = .ok (.aload_n 0, 1) := by decide +kernel
theorem d_M_flitsIn_27 : decode b_M_flitsIn 27 = .ok (.getfield 38, 3) := by decide +kernel
theorem d_M_flitsIn_30 : decode b_M_flitsIn 30 = .ok (.iload_n 1, 1) := by decide +kernel
theorem d_M_flitsIn_31 : decode b_M_flitsIn 31 = .ok (.iaload, 1) := by decide +kernel
theorem d_M_flitsIn_32 : decode b_M_flitsIn 32 = .ok (.aload_n 0, 1) := by decide +kernel
theorem d_M_flitsIn_33 : decode b_M_flitsIn 33 = .ok (.getfield 41, 3) := by decide +kernel
theorem d_M_flitsIn_36 : decode b_M_flitsIn 36 = .ok (.iload_n 1, 1) := by decide +kernel
theorem d_M_flitsIn_37 : decode b_M_flitsIn 37 = .ok (.iaload, 1) := by decide +kernel
theorem d_M_flitsIn_38 : decode b_M_flitsIn 38 = .ok (.isub, 1) := by decide +kernel
theorem d_M_flitsIn_39 : decode b_M_flitsIn 39 = .ok (.goto 9, 3) := by decide +kernel
theorem d_M_flitsIn_42 : decode b_M_flitsIn 42 = .ok (.aload_n 0, 1) := by decide +kernel
theorem d_M_flitsIn_43 : decode b_M_flitsIn 43 = .ok (.getfield 41, 3) := by decide +kernel
theorem d_M_flitsIn_46 : decode b_M_flitsIn 46 = .ok (.iload_n 1, 1) := by decide +kernel
theorem d_M_flitsIn_47 : decode b_M_flitsIn 47 = .ok (.iaload, 1) := by decide +kernel
theorem d_M_flitsIn_48 : decode b_M_flitsIn 48 = .ok (.ireturn, 1) := by decide +kernel
theorem d_M_packet_0 : decode b_M_packet 0 = .ok (.aload_n 0, 1) := by decide +kernel
theorem d_M_packet_1 : decode b_M_packet 1 = .ok (.iconst 0, 1) := by decide +kernel
theorem d_M_packet_2 : decode b_M_packet 2 = .ok (.putfield 78, 3) := by decide +kernel
theorem d_M_packet_5 : decode b_M_packet 5 = .ok (.iload_n 1, 1) := by decide +kernel
theorem d_M_packet_6 : decode b_M_packet 6 = .ok (.iconst 0, 1) := by decide +kernel
theorem d_M_packet_7 : decode b_M_packet 7 = .ok (.aload_n 0, 1) := by decide +kernel
theorem d_M_packet_8 : decode b_M_packet 8 = .ok (.getfield 102, 3) := by decide +kernel
theorem d_M_packet_11 : decode b_M_packet 11 = .ok (.iconst 1, 1) := by decide +kernel
theorem d_M_packet_12 : decode b_M_packet 12 = .ok (.isub, 1) := by decide +kernel
theorem d_M_packet_13 : decode b_M_packet 13 = .ok (.invokestatic 84, 3) := by decide +kernel
theorem d_M_packet_16 : decode b_M_packet 16 = .ok (.ifCond .eq 12, 3) := by decide +kernel
theorem d_M_packet_19 : decode b_M_packet 19 = .ok (.iload_n 2, 1) := by decide +kernel
theorem d_M_packet_20 : decode b_M_packet 20 = .ok (.iconst 0, 1) := by decide +kernel
theorem d_M_packet_21 : decode b_M_packet 21 = .ok (.iconst 3, 1) := by decide +kernel
theorem d_M_packet_22 : decode b_M_packet 22 = .ok (.invokestatic 84, 3) := by decide +kernel
theorem d_M_packet_25 : decode b_M_packet 25 = .ok (.ifCond .ne 9, 3) := by decide +kernel
theorem d_M_packet_28 : decode b_M_packet 28 = .ok (.aload_n 0, 1) := by decide +kernel
theorem d_M_packet_29 : decode b_M_packet 29 = .ok (.iconst 1, 1) := by decide +kernel
theorem d_M_packet_30 : decode b_M_packet 30 = .ok (.invokevirtual 91, 3) := by decide +kernel
theorem d_M_packet_33 : decode b_M_packet 33 = .ok (.ireturn, 1) := by decide +kernel
theorem d_M_packet_34 : decode b_M_packet 34 = .ok (.iload_n 2, 1) := by decide +kernel
theorem d_M_packet_35 : decode b_M_packet 35 = .ok (.ifCond .ne 12, 3) := by decide +kernel
theorem d_M_packet_38 : decode b_M_packet 38 = .ok (.aload_n 0, 1) := by decide +kernel
theorem d_M_packet_39 : decode b_M_packet 39 = .ok (.getfield 44, 3) := by decide +kernel
theorem d_M_packet_42 : decode b_M_packet 42 = .ok (.iload_n 1, 1) := by decide +kernel
theorem d_M_packet_43 : decode b_M_packet 43 = .ok (.iaload, 1) := by decide +kernel
theorem d_M_packet_44 : decode b_M_packet 44 = .ok (.goto 9, 3) := by decide +kernel
theorem d_M_packet_47 : decode b_M_packet 47 = .ok (.aload_n 0, 1) := by decide +kernel
theorem d_M_packet_48 : decode b_M_packet 48 = .ok (.iload_n 1, 1) := by decide +kernel
theorem d_M_packet_49 : decode b_M_packet 49 = .ok (.iload_n 2, 1) := by decide +kernel
theorem d_M_packet_50 : decode b_M_packet 50 = .ok (.invokevirtual 168, 3) := by decide +kernel
theorem d_M_packet_53 : decode b_M_packet 53 = .ok (.ireturn, 1) := by decide +kernel
theorem d_M_channel_0 : decode b_M_channel 0 = .ok (.aload_n 0, 1) := by decide +kernel
theorem d_M_channel_1 : decode b_M_channel 1 = .ok (.iconst 0, 1) := by decide +kernel
theorem d_M_channel_2 : decode b_M_channel 2 = .ok (.putfield 78, 3) := by decide +kernel
theorem d_M_channel_5 : decode b_M_channel 5 = .ok (.aload_n 0, 1) := by decide +kernel
theorem d_M_channel_6 : decode b_M_channel 6 = .ok (.iload_n 1, 1) := by decide +kernel
theorem d_M_channel_7 : decode b_M_channel 7 = .ok (.invokevirtual 99, 3) := by decide +kernel
theorem d_M_channel_10 : decode b_M_channel 10 = .ok (.ifCond .eq 12, 3) := by decide +kernel
theorem d_M_channel_13 : decode b_M_channel 13 = .ok (.iload_n 2, 1) := by decide +kernel
theorem d_M_channel_14 : decode b_M_channel 14 = .ok (.iconst 0, 1) := by decide +kernel
theorem d_M_channel_15 : decode b_M_channel 15 = .ok (.iconst 3, 1) := by decide +kernel
theorem d_M_channel_16 : decode b_M_channel 16 = .ok (.invokestatic 84, 3) := by decide +kernel
theorem d_M_channel_19 : decode b_M_channel 19 = .ok (.ifCond .ne 9, 3) := by decide +kernel
theorem d_M_channel_22 : decode b_M_channel 22 = .ok (.aload_n 0, 1) := by decide +kernel
theorem d_M_channel_23 : decode b_M_channel 23 = .ok (.iconst 1, 1) := by decide +kernel
theorem d_M_channel_24 : decode b_M_channel 24 = .ok (.invokevirtual 91, 3) := by decide +kernel
theorem d_M_channel_27 : decode b_M_channel 27 = .ok (.ireturn, 1) := by decide +kernel
theorem d_M_channel_28 : decode b_M_channel 28 = .ok (.iload_n 2, 1) := by decide +kernel
theorem d_M_channel_29 : decode b_M_channel 29 = .ok (.iconst 2, 1) := by decide +kernel
theorem d_M_channel_30 : decode b_M_channel 30 = .ok (.if_icmp .ne 28, 3) := by decide +kernel
theorem d_M_channel_33 : decode b_M_channel 33 = .ok (.aload_n 0, 1) := by decide +kernel
theorem d_M_channel_34 : decode b_M_channel 34 = .ok (.getfield 47, 3) := by decide +kernel
theorem d_M_channel_37 : decode b_M_channel 37 = .ok (.iload_n 1, 1) := by decide +kernel
theorem d_M_channel_38 : decode b_M_channel 38 = .ok (.iaload, 1) := by decide +kernel
theorem d_M_channel_39 : decode b_M_channel 39 = .ok (.ifCond .ne 7, 3) := by decide +kernel
theorem d_M_channel_42 : decode b_M_channel 42 = .ok (.iconst (-1), 1) := by decide +kernel
theorem d_M_channel_43 : decode b_M_channel 43 = .ok (.goto 14, 3) := by decide +kernel
theorem d_M_channel_46 : decode b_M_channel 46 = .ok (.aload_n 0, 1) := by decide +kernel
theorem d_M_channel_47 : decode b_M_channel 47 = .ok (.getfield 50, 3) := by decide +kernel
theorem d_M_channel_50 : decode b_M_channel 50 = .ok (.iconst 4, 1) := by decide +kernel
theorem d_M_channel_51 : decode b_M_channel 51 = .ok (.iload_n 1, 1) := by decide +kernel
theorem d_M_channel_52 : decode b_M_channel 52 = .ok (.imul, 1) := by decide +kernel
theorem d_M_channel_53 : decode b_M_channel 53 = .ok (.iaload, 1) := by decide +kernel
theorem d_M_channel_54 : decode b_M_channel 54 = .ok (.bipush 16, 2) := by decide +kernel
theorem d_M_channel_56 : decode b_M_channel 56 = .ok (.idiv, 1) := by decide +kernel
theorem d_M_channel_57 : decode b_M_channel 57 = .ok (.ireturn, 1) := by decide +kernel
theorem d_M_channel_58 : decode b_M_channel 58 = .ok (.iload_n 2, 1) := by decide +kernel
theorem d_M_channel_59 : decode b_M_channel 59 = .ok (.ifCond .ne 12, 3) := by decide +kernel
theorem d_M_channel_62 : decode b_M_channel 62 = .ok (.aload_n 0, 1) := by decide +kernel
theorem d_M_channel_63 : decode b_M_channel 63 = .ok (.getfield 47, 3) := by decide +kernel
theorem d_M_channel_66 : decode b_M_channel 66 = .ok (.iload_n 1, 1) := by decide +kernel
theorem d_M_channel_67 : decode b_M_channel 67 = .ok (.iaload, 1) := by decide +kernel
theorem d_M_channel_68 : decode b_M_channel 68 = .ok (.goto 23, 3) := by decide +kernel
theorem d_M_channel_71 : decode b_M_channel 71 = .ok (.iload_n 2, 1) := by decide +kernel
theorem d_M_channel_72 : decode b_M_channel 72 = .ok (.iconst 1, 1) := by decide +kernel
theorem d_M_channel_73 : decode b_M_channel 73 = .ok (.if_icmp .ne 12, 3) := by decide +kernel
theorem d_M_channel_76 : decode b_M_channel 76 = .ok (.aload_n 0, 1) := by decide +kernel
theorem d_M_channel_77 : decode b_M_channel 77 = .ok (.getfield 62, 3) := by decide +kernel
theorem d_M_channel_80 : decode b_M_channel 80 = .ok (.iload_n 1, 1) := by decide +kernel
theorem d_M_channel_81 : decode b_M_channel 81 = .ok (.iaload, 1) := by decide +kernel
theorem d_M_channel_82 : decode b_M_channel 82 = .ok (.goto 9, 3) := by decide +kernel
theorem d_M_channel_85 : decode b_M_channel 85 = .ok (.aload_n 0, 1) := by decide +kernel
theorem d_M_channel_86 : decode b_M_channel 86 = .ok (.getfield 56, 3) := by decide +kernel
theorem d_M_channel_89 : decode b_M_channel 89 = .ok (.iload_n 1, 1) := by decide +kernel
theorem d_M_channel_90 : decode b_M_channel 90 = .ok (.iaload, 1) := by decide +kernel
theorem d_M_channel_91 : decode b_M_channel 91 = .ok (.ireturn, 1) := by decide +kernel
theorem d_M_findLeads_0 : decode b_M_findLeads 0 = .ok (.iconst 0, 1) := by decide +kernel
theorem d_M_findLeads_1 : decode b_M_findLeads 1 = .ok (.istore_n 1, 1) := by decide +kernel
theorem d_M_findLeads_2 : decode b_M_findLeads 2 = .ok (.iload_n 1, 1) := by decide +kernel
theorem d_M_findLeads_3 : decode b_M_findLeads 3 = .ok (.sipush 25600, 3) := by decide +kernel
theorem d_M_findLeads_6 : decode b_M_findLeads 6 = .ok (.if_icmp .ge 16, 3) := by decide +kernel
theorem d_M_findLeads_9 : decode b_M_findLeads 9 = .ok (.aload_n 0, 1) := by decide +kernel
theorem d_M_findLeads_10 : decode b_M_findLeads 10 = .ok (.getfield 65, 3) := by decide +kernel
theorem d_M_findLeads_13 : decode b_M_findLeads 13 = .ok (.iload_n 1, 1) := by decide +kernel
theorem d_M_findLeads_14 : decode b_M_findLeads 14 = .ok (.iconst 0, 1) := by decide +kernel
theorem d_M_findLeads_15 : decode b_M_findLeads 15 = .ok (.bastore, 1) := by decide +kernel
theorem d_M_findLeads_16 : decode b_M_findLeads 16 = .ok (.iinc 1 1, 3) := by decide +kernel
theorem d_M_findLeads_19 : decode b_M_findLeads 19 = .ok (.goto (-17), 3) := by decide +kernel
theorem d_M_findLeads_22 : decode b_M_findLeads 22 = .ok (.iconst 0, 1) := by decide +kernel
theorem d_M_findLeads_23 : decode b_M_findLeads 23 = .ok (.istore_n 1, 1) := by decide +kernel
theorem d_M_findLeads_24 : decode b_M_findLeads 24 = .ok (.iload_n 1, 1) := by decide +kernel
theorem d_M_findLeads_25 : decode b_M_findLeads 25 = .ok (.aload_n 0, 1) := by decide +kernel
theorem d_M_findLeads_26 : decode b_M_findLeads 26 = .ok (.getfield 81, 3) := by decide +kernel
theorem d_M_findLeads_29 : decode b_M_findLeads 29 = .ok (.if_icmp .ge 107, 3) := by decide +kernel
theorem d_M_findLeads_32 : decode b_M_findLeads 32 = .ok (.iconst 0, 1) := by decide +kernel
theorem d_M_findLeads_33 : decode b_M_findLeads 33 = .ok (.istore_n 2, 1) := by decide +kernel
theorem d_M_findLeads_34 : decode b_M_findLeads 34 = .ok (.iload_n 2, 1) := by decide +kernel
theorem d_M_findLeads_35 : decode b_M_findLeads 35 = .ok (.aload_n 0, 1) := by decide +kernel
theorem d_M_findLeads_36 : decode b_M_findLeads 36 = .ok (.getfield 81, 3) := by decide +kernel
theorem d_M_findLeads_39 : decode b_M_findLeads 39 = .ok (.if_icmp .ge 91, 3) := by decide +kernel
theorem d_M_findLeads_42 : decode b_M_findLeads 42 = .ok (.iload_n 2, 1) := by decide +kernel
theorem d_M_findLeads_43 : decode b_M_findLeads 43 = .ok (.iload_n 1, 1) := by decide +kernel
theorem d_M_findLeads_44 : decode b_M_findLeads 44 = .ok (.if_icmp .ne 7, 3) := by decide +kernel
theorem d_M_findLeads_47 : decode b_M_findLeads 47 = .ok (.iconst (-1), 1) := by decide +kernel
theorem d_M_findLeads_48 : decode b_M_findLeads 48 = .ok (.goto 14, 3) := by decide +kernel
theorem d_M_findLeads_51 : decode b_M_findLeads 51 = .ok (.aload_n 0, 1) := by decide +kernel
theorem d_M_findLeads_52 : decode b_M_findLeads 52 = .ok (.getfield 26, 3) := by decide +kernel
theorem d_M_findLeads_55 : decode b_M_findLeads 55 = .ok (.bipush 16, 2) := by decide +kernel
theorem d_M_findLeads_57 : decode b_M_findLeads 57 = .ok (.iload_n 2, 1) := by decide +kernel
theorem d_M_findLeads_58 : decode b_M_findLeads 58 = .ok (.imul, 1) := by decide +kernel
theorem d_M_findLeads_59 : decode b_M_findLeads 59 = .ok (.iload_n 1, 1) := by decide +kernel
theorem d_M_findLeads_60 : decode b_M_findLeads 60 = .ok (.iadd, 1) := by decide +kernel
theorem d_M_findLeads_61 : decode b_M_findLeads 61 = .ok (.iaload, 1) := by decide +kernel
theorem d_M_findLeads_62 : decode b_M_findLeads 62 = .ok (.istore_n 3, 1) := by decide +kernel
theorem d_M_findLeads_63 : decode b_M_findLeads 63 = .ok (.iload_n 3, 1) := by decide +kernel
theorem d_M_findLeads_64 : decode b_M_findLeads 64 = .ok (.ifCond .ge 7, 3) := by decide +kernel
theorem d_M_findLeads_67 : decode b_M_findLeads 67 = .ok (.iload_n 1, 1) := by decide +kernel
theorem d_M_findLeads_68 : decode b_M_findLeads 68 = .ok (.goto 11, 3) := by decide +kernel
theorem d_M_findLeads_71 : decode b_M_findLeads 71 = .ok (.aload_n 0, 1) := by decide +kernel
theorem d_M_findLeads_72 : decode b_M_findLeads 72 = .ok (.getfield 13, 3) := by decide +kernel
theorem d_M_findLeads_75 : decode b_M_findLeads 75 = .ok (.iload_n 3, 1) := by decide +kernel
theorem d_M_findLeads_76 : decode b_M_findLeads 76 = .ok (.iconst 4, 1) := by decide +kernel
theorem d_M_findLeads_77 : decode b_M_findLeads 77 = .ok (.idiv, 1) := by decide +kernel
theorem d_M_findLeads_78 : decode b_M_findLeads 78 = .ok (.iaload, 1) := by decide +kernel
theorem d_M_findLeads_79 : decode b_M_findLeads 79 = .ok (.istore 4, 2) := by decide +kernel
theorem d_M_findLeads_81 : decode b_M_findLeads 81 = .ok (.iload 4, 2) := by decide +kernel
theorem d_M_findLeads_83 : decode b_M_findLeads 83 = .ok (.iload_n 1, 1) := by decide +kernel
theorem d_M_findLeads_84 : decode b_M_findLeads 84 = .ok (.if_icmp .ne 7, 3) := by decide +kernel
theorem d_M_findLeads_87 : decode b_M_findLeads 87 = .ok (.iconst (-1), 1) := by decide +kernel
theorem d_M_findLeads_88 : decode b_M_findLeads 88 = .ok (.goto 15, 3) := by decide +kernel
theorem d_M_findLeads_91 : decode b_M_findLeads 91 = .ok (.aload_n 0, 1) := by decide +kernel
theorem d_M_findLeads_92 : decode b_M_findLeads 92 = .ok (.getfield 26, 3) := by decide +kernel
theorem d_M_findLeads_95 : decode b_M_findLeads 95 = .ok (.bipush 16, 2) := by decide +kernel
theorem d_M_findLeads_97 : decode b_M_findLeads 97 = .ok (.iload 4, 2) := by decide +kernel
theorem d_M_findLeads_99 : decode b_M_findLeads 99 = .ok (.imul, 1) := by decide +kernel
theorem d_M_findLeads_100 : decode b_M_findLeads 100 = .ok (.iload_n 1, 1) := by decide +kernel
theorem d_M_findLeads_101 : decode b_M_findLeads 101 = .ok (.iadd, 1) := by decide +kernel
theorem d_M_findLeads_102 : decode b_M_findLeads 102 = .ok (.iaload, 1) := by decide +kernel
theorem d_M_findLeads_103 : decode b_M_findLeads 103 = .ok (.istore 5, 2) := by decide +kernel
theorem d_M_findLeads_105 : decode b_M_findLeads 105 = .ok (.iload 5, 2) := by decide +kernel
theorem d_M_findLeads_107 : decode b_M_findLeads 107 = .ok (.ifCond .lt 17, 3) := by decide +kernel
theorem d_M_findLeads_110 : decode b_M_findLeads 110 = .ok (.aload_n 0, 1) := by decide +kernel
theorem d_M_findLeads_111 : decode b_M_findLeads 111 = .ok (.getfield 65, 3) := by decide +kernel
theorem d_M_findLeads_114 : decode b_M_findLeads 114 = .ok (.sipush 160, 3) := by decide +kernel
theorem d_M_findLeads_117 : decode b_M_findLeads 117 = .ok (.iload_n 3, 1) := by decide +kernel
theorem d_M_findLeads_118 : decode b_M_findLeads 118 = .ok (.imul, 1) := by decide +kernel
theorem d_M_findLeads_119 : decode b_M_findLeads 119 = .ok (.iload 5, 2) := by decide +kernel
theorem d_M_findLeads_121 : decode b_M_findLeads 121 = .ok (.iadd, 1) := by decide +kernel
theorem d_M_findLeads_122 : decode b_M_findLeads 122 = .ok (.iconst 1, 1) := by decide +kernel
theorem d_M_findLeads_123 : decode b_M_findLeads 123 = .ok (.bastore, 1) := by decide +kernel
theorem d_M_findLeads_124 : decode b_M_findLeads 124 = .ok (.iinc 2 1, 3) := by decide +kernel
theorem d_M_findLeads_127 : decode b_M_findLeads 127 = .ok (.goto (-93), 3) := by decide +kernel
theorem d_M_findLeads_130 : decode b_M_findLeads 130 = .ok (.iinc 1 1, 3) := by decide +kernel
theorem d_M_findLeads_133 : decode b_M_findLeads 133 = .ok (.goto (-109), 3) := by decide +kernel
theorem d_M_findLeads_136 : decode b_M_findLeads 136 = .ok (.return_, 1) := by decide +kernel
theorem d_M_measure_0 : decode b_M_measure 0 = .ok (.iconst 0, 1) := by decide +kernel
theorem d_M_measure_1 : decode b_M_measure 1 = .ok (.istore_n 2, 1) := by decide +kernel
theorem d_M_measure_2 : decode b_M_measure 2 = .ok (.iload_n 2, 1) := by decide +kernel
theorem d_M_measure_3 : decode b_M_measure 3 = .ok (.sipush 160, 3) := by decide +kernel
theorem d_M_measure_6 : decode b_M_measure 6 = .ok (.if_icmp .ge 16, 3) := by decide +kernel
theorem d_M_measure_9 : decode b_M_measure 9 = .ok (.aload_n 0, 1) := by decide +kernel
theorem d_M_measure_10 : decode b_M_measure 10 = .ok (.getfield 68, 3) := by decide +kernel
theorem d_M_measure_13 : decode b_M_measure 13 = .ok (.iload_n 2, 1) := by decide +kernel
theorem d_M_measure_14 : decode b_M_measure 14 = .ok (.iconst (-1), 1) := by decide +kernel
theorem d_M_measure_15 : decode b_M_measure 15 = .ok (.iastore, 1) := by decide +kernel
theorem d_M_measure_16 : decode b_M_measure 16 = .ok (.iinc 2 1, 3) := by decide +kernel
theorem d_M_measure_19 : decode b_M_measure 19 = .ok (.goto (-17), 3) := by decide +kernel
theorem d_M_measure_22 : decode b_M_measure 22 = .ok (.iconst 1, 1) := by decide +kernel
theorem d_M_measure_23 : decode b_M_measure 23 = .ok (.istore_n 2, 1) := by decide +kernel
theorem d_M_measure_24 : decode b_M_measure 24 = .ok (.iconst 1, 1) := by decide +kernel
theorem d_M_measure_25 : decode b_M_measure 25 = .ok (.istore_n 3, 1) := by decide +kernel
theorem d_M_measure_26 : decode b_M_measure 26 = .ok (.iload_n 2, 1) := by decide +kernel
theorem d_M_measure_27 : decode b_M_measure 27 = .ok (.ifCond .eq 157, 3) := by decide +kernel
theorem d_M_measure_30 : decode b_M_measure 30 = .ok (.iconst 0, 1) := by decide +kernel
theorem d_M_measure_31 : decode b_M_measure 31 = .ok (.istore_n 2, 1) := by decide +kernel
theorem d_M_measure_32 : decode b_M_measure 32 = .ok (.iconst 0, 1) := by decide +kernel
theorem d_M_measure_33 : decode b_M_measure 33 = .ok (.istore 4, 2) := by decide +kernel
theorem d_M_measure_35 : decode b_M_measure 35 = .ok (.iload 4, 2) := by decide +kernel
theorem d_M_measure_37 : decode b_M_measure 37 = .ok (.sipush 160, 3) := by decide +kernel
theorem d_M_measure_40 : decode b_M_measure 40 = .ok (.if_icmp .ge 138, 3) := by decide +kernel
theorem d_M_measure_43 : decode b_M_measure 43 = .ok (.aload_n 0, 1) := by decide +kernel
theorem d_M_measure_44 : decode b_M_measure 44 = .ok (.getfield 68, 3) := by decide +kernel
theorem d_M_measure_47 : decode b_M_measure 47 = .ok (.iload 4, 2) := by decide +kernel
theorem d_M_measure_49 : decode b_M_measure 49 = .ok (.iaload, 1) := by decide +kernel
theorem d_M_measure_50 : decode b_M_measure 50 = .ok (.iconst (-1), 1) := by decide +kernel
theorem d_M_measure_51 : decode b_M_measure 51 = .ok (.if_icmp .ne 28, 3) := by decide +kernel
theorem d_M_measure_54 : decode b_M_measure 54 = .ok (.iload_n 3, 1) := by decide +kernel
theorem d_M_measure_55 : decode b_M_measure 55 = .ok (.iconst 1, 1) := by decide +kernel
theorem d_M_measure_56 : decode b_M_measure 56 = .ok (.if_icmp .ne 23, 3) := by decide +kernel
theorem d_M_measure_59 : decode b_M_measure 59 = .ok (.aload_n 0, 1) := by decide +kernel
theorem d_M_measure_60 : decode b_M_measure 60 = .ok (.getfield 65, 3) := by decide +kernel
theorem d_M_measure_63 : decode b_M_measure 63 = .ok (.sipush 160, 3) := by decide +kernel
theorem d_M_measure_66 : decode b_M_measure 66 = .ok (.iload 4, 2) := by decide +kernel
theorem d_M_measure_68 : decode b_M_measure 68 = .ok (.imul, 1) := by decide +kernel
theorem d_M_measure_69 : decode b_M_measure 69 = .ok (.iload_n 1, 1) := by decide +kernel
theorem d_M_measure_70 : decode b_M_measure 70 = .ok (.iadd, 1) := by decide +kernel
theorem d_M_measure_71 : decode b_M_measure 71 = .ok (.baload, 1) := by decide +kernel
theorem d_M_measure_72 : decode b_M_measure 72 = .ok (.ifCond .eq 7, 3) := by decide +kernel
theorem d_M_measure_75 : decode b_M_measure 75 = .ok (.iconst 1, 1) := by decide +kernel
theorem d_M_measure_76 : decode b_M_measure 76 = .ok (.goto 4, 3) := by decide +kernel
theorem d_M_measure_79 : decode b_M_measure 79 = .ok (.iconst 0, 1) := by decide +kernel
theorem d_M_measure_80 : decode b_M_measure 80 = .ok (.istore 5, 2) := by decide +kernel
theorem d_M_measure_82 : decode b_M_measure 82 = .ok (.iconst 0, 1) := by decide +kernel
theorem d_M_measure_83 : decode b_M_measure 83 = .ok (.istore 6, 2) := by decide +kernel
theorem d_M_measure_85 : decode b_M_measure 85 = .ok (.iload 6, 2) := by decide +kernel
theorem d_M_measure_87 : decode b_M_measure 87 = .ok (.sipush 160, 3) := by decide +kernel
theorem d_M_measure_90 : decode b_M_measure 90 = .ok (.if_icmp .ge 67, 3) := by decide +kernel
theorem d_M_measure_93 : decode b_M_measure 93 = .ok (.iload 5, 2) := by decide +kernel
theorem d_M_measure_95 : decode b_M_measure 95 = .ok (.ifCond .ne 62, 3) := by decide +kernel
theorem d_M_measure_98 : decode b_M_measure 98 = .ok (.aload_n 0, 1) := by decide +kernel
theorem d_M_measure_99 : decode b_M_measure 99 = .ok (.getfield 68, 3) := by decide +kernel
theorem d_M_measure_102 : decode b_M_measure 102 = .ok (.iload 4, 2) := by decide +kernel
theorem d_M_measure_104 : decode b_M_measure 104 = .ok (.iaload, 1) := by decide +kernel
theorem d_M_measure_105 : decode b_M_measure 105 = .ok (.iconst (-1), 1) := by decide +kernel
theorem d_M_measure_106 : decode b_M_measure 106 = .ok (.if_icmp .ne 51, 3) := by decide +kernel
theorem d_M_measure_109 : decode b_M_measure 109 = .ok (.iload_n 3, 1) := by decide +kernel
theorem d_M_measure_110 : decode b_M_measure 110 = .ok (.iconst 1, 1) := by decide +kernel
theorem d_M_measure_111 : decode b_M_measure 111 = .ok (.if_icmp .le 46, 3) := by decide +kernel
theorem d_M_measure_114 : decode b_M_measure 114 = .ok (.aload_n 0, 1) := by decide +kernel
theorem d_M_measure_115 : decode b_M_measure 115 = .ok (.getfield 65, 3) := by decide +kernel
theorem d_M_measure_118 : decode b_M_measure 118 = .ok (.sipush 160, 3) := by decide +kernel
theorem d_M_measure_121 : decode b_M_measure 121 = .ok (.iload 4, 2) := by decide +kernel
theorem d_M_measure_123 : decode b_M_measure 123 = .ok (.imul, 1) := by decide +kernel
theorem d_M_measure_124 : decode b_M_measure 124 = .ok (.iload 6, 2) := by decide +kernel
theorem d_M_measure_126 : decode b_M_measure 126 = .ok (.iadd, 1) := by decide +kernel
theorem d_M_measure_127 : decode b_M_measure 127 = .ok (.baload, 1) := by decide +kernel
theorem d_M_measure_128 : decode b_M_measure 128 = .ok (.ifCond .eq 20, 3) := by decide +kernel
theorem d_M_measure_131 : decode b_M_measure 131 = .ok (.aload_n 0, 1) := by decide +kernel
theorem d_M_measure_132 : decode b_M_measure 132 = .ok (.getfield 68, 3) := by decide +kernel
theorem d_M_measure_135 : decode b_M_measure 135 = .ok (.iload 6, 2) := by decide +kernel
theorem d_M_measure_137 : decode b_M_measure 137 = .ok (.iaload, 1) := by decide +kernel
theorem d_M_measure_138 : decode b_M_measure 138 = .ok (.iload_n 3, 1) := by decide +kernel
theorem d_M_measure_139 : decode b_M_measure 139 = .ok (.iconst 1, 1) := by decide +kernel
theorem d_M_measure_140 : decode b_M_measure 140 = .ok (.isub, 1) := by decide +kernel
theorem d_M_measure_141 : decode b_M_measure 141 = .ok (.if_icmp .ne 7, 3) := by decide +kernel
theorem d_M_measure_144 : decode b_M_measure 144 = .ok (.iconst 1, 1) := by decide +kernel
theorem d_M_measure_145 : decode b_M_measure 145 = .ok (.goto 4, 3) := by decide +kernel
theorem d_M_measure_148 : decode b_M_measure 148 = .ok (.iconst 0, 1) := by decide +kernel
theorem d_M_measure_149 : decode b_M_measure 149 = .ok (.istore 5, 2) := by decide +kernel
theorem d_M_measure_151 : decode b_M_measure 151 = .ok (.iinc 6 1, 3) := by decide +kernel
theorem d_M_measure_154 : decode b_M_measure 154 = .ok (.goto (-69), 3) := by decide +kernel
theorem d_M_measure_157 : decode b_M_measure 157 = .ok (.iload 5, 2) := by decide +kernel
