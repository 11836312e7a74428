theorem d_M_thrown_0 : decode b_M_thrown 0 = .ok (.aload_n 0, 1) := by decide +kernel
theorem d_M_thrown_1 : decode b_M_thrown 1 = .ok (.getfield 78, 3) := by decide +kernel
theorem d_M_thrown_4 : decode b_M_thrown 4 = .ok (.ireturn, 1) := by decide +kernel
theorem d_M_wrong_0 : decode b_M_wrong 0 = .ok (.aload_n 0, 1) := by decide +kernel
theorem d_M_wrong_1 : decode b_M_wrong 1 = .ok (.iload_n 1, 1) := by decide +kernel
theorem d_M_wrong_2 : decode b_M_wrong 2 = .ok (.putfield 78, 3) := by decide +kernel
theorem d_M_wrong_5 : decode b_M_wrong 5 = .ok (.iconst 0, 1) := by decide +kernel
theorem d_M_wrong_6 : decode b_M_wrong 6 = .ok (.ireturn, 1) := by decide +kernel
theorem d_M_within_0 : decode b_M_within 0 = .ok (.iload_n 0, 1) := by decide +kernel
theorem d_M_within_1 : decode b_M_within 1 = .ok (.iload_n 1, 1) := by decide +kernel
theorem d_M_within_2 : decode b_M_within 2 = .ok (.if_icmp .lt 12, 3) := by decide +kernel
theorem d_M_within_5 : decode b_M_within 5 = .ok (.iload_n 0, 1) := by decide +kernel
theorem d_M_within_6 : decode b_M_within 6 = .ok (.iload_n 2, 1) := by decide +kernel
theorem d_M_within_7 : decode b_M_within 7 = .ok (.if_icmp .gt 7, 3) := by decide +kernel
theorem d_M_within_10 : decode b_M_within 10 = .ok (.iconst 1, 1) := by decide +kernel
theorem d_M_within_11 : decode b_M_within 11 = .ok (.goto 4, 3) := by decide +kernel
theorem d_M_within_14 : decode b_M_within 14 = .ok (.iconst 0, 1) := by decide +kernel
theorem d_M_within_15 : decode b_M_within 15 = .ok (.ireturn, 1) := by decide +kernel
theorem d_M_isNode_0 : decode b_M_isNode 0 = .ok (.iload_n 1, 1) := by decide +kernel
theorem d_M_isNode_1 : decode b_M_isNode 1 = .ok (.iconst 0, 1) := by decide +kernel
theorem d_M_isNode_2 : decode b_M_isNode 2 = .ok (.aload_n 0, 1) := by decide +kernel
theorem d_M_isNode_3 : decode b_M_isNode 3 = .ok (.getfield 81, 3) := by decide +kernel
theorem d_M_isNode_6 : decode b_M_isNode 6 = .ok (.iconst 1, 1) := by decide +kernel
theorem d_M_isNode_7 : decode b_M_isNode 7 = .ok (.isub, 1) := by decide +kernel
theorem d_M_isNode_8 : decode b_M_isNode 8 = .ok (.invokestatic 84, 3) := by decide +kernel
theorem d_M_isNode_11 : decode b_M_isNode 11 = .ok (.ireturn, 1) := by decide +kernel
theorem d_M_isChannel_0 : decode b_M_isChannel 0 = .ok (.iload_n 1, 1) := by decide +kernel
theorem d_M_isChannel_1 : decode b_M_isChannel 1 = .ok (.iconst 0, 1) := by decide +kernel
theorem d_M_isChannel_2 : decode b_M_isChannel 2 = .ok (.iconst 4, 1) := by decide +kernel
theorem d_M_isChannel_3 : decode b_M_isChannel 3 = .ok (.aload_n 0, 1) := by decide +kernel
theorem d_M_isChannel_4 : decode b_M_isChannel 4 = .ok (.getfield 88, 3) := by decide +kernel
theorem d_M_isChannel_7 : decode b_M_isChannel 7 = .ok (.imul, 1) := by decide +kernel
theorem d_M_isChannel_8 : decode b_M_isChannel 8 = .ok (.iconst 1, 1) := by decide +kernel
theorem d_M_isChannel_9 : decode b_M_isChannel 9 = .ok (.isub, 1) := by decide +kernel
theorem d_M_isChannel_10 : decode b_M_isChannel 10 = .ok (.invokestatic 84, 3) := by decide +kernel
theorem d_M_isChannel_13 : decode b_M_isChannel 13 = .ok (.ifCond .eq 21, 3) := by decide +kernel
theorem d_M_isChannel_16 : decode b_M_isChannel 16 = .ok (.iload_n 1, 1) := by decide +kernel
theorem d_M_isChannel_17 : decode b_M_isChannel 17 = .ok (.iconst 4, 1) := by decide +kernel
theorem d_M_isChannel_18 : decode b_M_isChannel 18 = .ok (.irem, 1) := by decide +kernel
theorem d_M_isChannel_19 : decode b_M_isChannel 19 = .ok (.aload_n 0, 1) := by decide +kernel
theorem d_M_isChannel_20 : decode b_M_isChannel 20 = .ok (.getfield 16, 3) := by decide +kernel
theorem d_M_isChannel_23 : decode b_M_isChannel 23 = .ok (.iload_n 1, 1) := by decide +kernel
theorem d_M_isChannel_24 : decode b_M_isChannel 24 = .ok (.iconst 4, 1) := by decide +kernel
theorem d_M_isChannel_25 : decode b_M_isChannel 25 = .ok (.idiv, 1) := by decide +kernel
theorem d_M_isChannel_26 : decode b_M_isChannel 26 = .ok (.iaload, 1) := by decide +kernel
theorem d_M_isChannel_27 : decode b_M_isChannel 27 = .ok (.if_icmp .ge 7, 3) := by decide +kernel
theorem d_M_isChannel_30 : decode b_M_isChannel 30 = .ok (.iconst 1, 1) := by decide +kernel
theorem d_M_isChannel_31 : decode b_M_isChannel 31 = .ok (.goto 4, 3) := by decide +kernel
theorem d_M_isChannel_34 : decode b_M_isChannel 34 = .ok (.iconst 0, 1) := by decide +kernel
theorem d_M_isChannel_35 : decode b_M_isChannel 35 = .ok (.ireturn, 1) := by decide +kernel
theorem d_M_node_0 : decode b_M_node 0 = .ok (.aload_n 0, 1) := by decide +kernel
theorem d_M_node_1 : decode b_M_node 1 = .ok (.iconst 0, 1) := by decide +kernel
theorem d_M_node_2 : decode b_M_node 2 = .ok (.putfield 78, 3) := by decide +kernel
theorem d_M_node_5 : decode b_M_node 5 = .ok (.aload_n 0, 1) := by decide +kernel
theorem d_M_node_6 : decode b_M_node 6 = .ok (.getfield 81, 3) := by decide +kernel
theorem d_M_node_9 : decode b_M_node 9 = .ok (.bipush 16, 2) := by decide +kernel
theorem d_M_node_11 : decode b_M_node 11 = .ok (.if_icmp .ne 9, 3) := by decide +kernel
theorem d_M_node_14 : decode b_M_node 14 = .ok (.aload_n 0, 1) := by decide +kernel
theorem d_M_node_15 : decode b_M_node 15 = .ok (.iconst 1, 1) := by decide +kernel
theorem d_M_node_16 : decode b_M_node 16 = .ok (.invokevirtual 91, 3) := by decide +kernel
theorem d_M_node_19 : decode b_M_node 19 = .ok (.ireturn, 1) := by decide +kernel
theorem d_M_node_20 : decode b_M_node 20 = .ok (.aload_n 0, 1) := by decide +kernel
theorem d_M_node_21 : decode b_M_node 21 = .ok (.dup, 1) := by decide +kernel
theorem d_M_node_22 : decode b_M_node 22 = .ok (.getfield 81, 3) := by decide +kernel
theorem d_M_node_25 : decode b_M_node 25 = .ok (.iconst 1, 1) := by decide +kernel
theorem d_M_node_26 : decode b_M_node 26 = .ok (.iadd, 1) := by decide +kernel
theorem d_M_node_27 : decode b_M_node 27 = .ok (.putfield 81, 3) := by decide +kernel
theorem d_M_node_30 : decode b_M_node 30 = .ok (.aload_n 0, 1) := by decide +kernel
theorem d_M_node_31 : decode b_M_node 31 = .ok (.getfield 81, 3) := by decide +kernel
theorem d_M_node_34 : decode b_M_node 34 = .ok (.iconst 1, 1) := by decide +kernel
theorem d_M_node_35 : decode b_M_node 35 = .ok (.isub, 1) := by decide +kernel
theorem d_M_node_36 : decode b_M_node 36 = .ok (.ireturn, 1) := by decide +kernel
theorem d_M_link_0 : decode b_M_link 0 = .ok (.aload_n 0, 1) := by decide +kernel
theorem d_M_link_1 : decode b_M_link 1 = .ok (.iconst 0, 1) := by decide +kernel
theorem d_M_link_2 : decode b_M_link 2 = .ok (.putfield 78, 3) := by decide +kernel
theorem d_M_link_5 : decode b_M_link 5 = .ok (.aload_n 0, 1) := by decide +kernel
theorem d_M_link_6 : decode b_M_link 6 = .ok (.iload_n 1, 1) := by decide +kernel
theorem d_M_link_7 : decode b_M_link 7 = .ok (.invokevirtual 95, 3) := by decide +kernel
theorem d_M_link_10 : decode b_M_link 10 = .ok (.ifCond .eq 25, 3) := by decide +kernel
theorem d_M_link_13 : decode b_M_link 13 = .ok (.aload_n 0, 1) := by decide +kernel
theorem d_M_link_14 : decode b_M_link 14 = .ok (.iload_n 2, 1) := by decide +kernel
theorem d_M_link_15 : decode b_M_link 15 = .ok (.invokevirtual 95, 3) := by decide +kernel
theorem d_M_link_18 : decode b_M_link 18 = .ok (.ifCond .eq 17, 3) := by decide +kernel
theorem d_M_link_21 : decode b_M_link 21 = .ok (.iload_n 1, 1) := by decide +kernel
theorem d_M_link_22 : decode b_M_link 22 = .ok (.iload_n 2, 1) := by decide +kernel
theorem d_M_link_23 : decode b_M_link 23 = .ok (.if_icmp .eq 12, 3) := by decide +kernel
theorem d_M_link_26 : decode b_M_link 26 = .ok (.iload_n 3, 1) := by decide +kernel
theorem d_M_link_27 : decode b_M_link 27 = .ok (.iconst 1, 1) := by decide +kernel
theorem d_M_link_28 : decode b_M_link 28 = .ok (.iconst 4, 1) := by decide +kernel
theorem d_M_link_29 : decode b_M_link 29 = .ok (.invokestatic 84, 3) := by decide +kernel
theorem d_M_link_32 : decode b_M_link 32 = .ok (.ifCond .ne 9, 3) := by decide +kernel
theorem d_M_link_35 : decode b_M_link 35 = .ok (.aload_n 0, 1) := by decide +kernel
theorem d_M_link_36 : decode b_M_link 36 = .ok (.iconst 1, 1) := by decide +kernel
theorem d_M_link_37 : decode b_M_link 37 = .ok (.invokevirtual 91, 3) := by decide +kernel
theorem d_M_link_40 : decode b_M_link 40 = .ok (.ireturn, 1) := by decide +kernel
theorem d_M_link_41 : decode b_M_link 41 = .ok (.aload_n 0, 1) := by decide +kernel
theorem d_M_link_42 : decode b_M_link 42 = .ok (.getfield 88, 3) := by decide +kernel
theorem d_M_link_45 : decode b_M_link 45 = .ok (.bipush 40, 2) := by decide +kernel
theorem d_M_link_47 : decode b_M_link 47 = .ok (.if_icmp .ne 9, 3) := by decide +kernel
theorem d_M_link_50 : decode b_M_link 50 = .ok (.aload_n 0, 1) := by decide +kernel
theorem d_M_link_51 : decode b_M_link 51 = .ok (.iconst 2, 1) := by decide +kernel
theorem d_M_link_52 : decode b_M_link 52 = .ok (.invokevirtual 91, 3) := by decide +kernel
theorem d_M_link_55 : decode b_M_link 55 = .ok (.ireturn, 1) := by decide +kernel
theorem d_M_link_56 : decode b_M_link 56 = .ok (.aload_n 0, 1) := by decide +kernel
theorem d_M_link_57 : decode b_M_link 57 = .ok (.getfield 7, 3) := by decide +kernel
theorem d_M_link_60 : decode b_M_link 60 = .ok (.aload_n 0, 1) := by decide +kernel
theorem d_M_link_61 : decode b_M_link 61 = .ok (.getfield 88, 3) := by decide +kernel
theorem d_M_link_64 : decode b_M_link 64 = .ok (.iload_n 1, 1) := by decide +kernel
theorem d_M_link_65 : decode b_M_link 65 = .ok (.iastore, 1) := by decide +kernel
theorem d_M_link_66 : decode b_M_link 66 = .ok (.aload_n 0, 1) := by decide +kernel
theorem d_M_link_67 : decode b_M_link 67 = .ok (.getfield 13, 3) := by decide +kernel
theorem d_M_link_70 : decode b_M_link 70 = .ok (.aload_n 0, 1) := by decide +kernel
theorem d_M_link_71 : decode b_M_link 71 = .ok (.getfield 88, 3) := by decide +kernel
theorem d_M_link_74 : decode b_M_link 74 = .ok (.iload_n 2, 1) := by decide +kernel
theorem d_M_link_75 : decode b_M_link 75 = .ok (.iastore, 1) := by decide +kernel
theorem d_M_link_76 : decode b_M_link 76 = .ok (.aload_n 0, 1) := by decide +kernel
theorem d_M_link_77 : decode b_M_link 77 = .ok (.getfield 16, 3) := by decide +kernel
theorem d_M_link_80 : decode b_M_link 80 = .ok (.aload_n 0, 1) := by decide +kernel
theorem d_M_link_81 : decode b_M_link 81 = .ok (.getfield 88, 3) := by decide +kernel
theorem d_M_link_84 : decode b_M_link 84 = .ok (.iload_n 3, 1) := by decide +kernel
theorem d_M_link_85 : decode b_M_link 85 = .ok (.iastore, 1) := by decide +kernel
theorem d_M_link_86 : decode b_M_link 86 = .ok (.aload_n 0, 1) := by decide +kernel
theorem d_M_link_87 : decode b_M_link 87 = .ok (.dup, 1) := by decide +kernel
theorem d_M_link_88 : decode b_M_link 88 = .ok (.getfield 88, 3) := by decide +kernel
theorem d_M_link_91 : decode b_M_link 91 = .ok (.iconst 1, 1) := by decide +kernel
theorem d_M_link_92 : decode b_M_link 92 = .ok (.iadd, 1) := by decide +kernel
theorem d_M_link_93 : decode b_M_link 93 = .ok (.putfield 88, 3) := by decide +kernel
theorem d_M_link_96 : decode b_M_link 96 = .ok (.aload_n 0, 1) := by decide +kernel
theorem d_M_link_97 : decode b_M_link 97 = .ok (.getfield 88, 3) := by decide +kernel
theorem d_M_link_100 : decode b_M_link 100 = .ok (.iconst 1, 1) := by decide +kernel
theorem d_M_link_101 : decode b_M_link 101 = .ok (.isub, 1) := by decide +kernel
theorem d_M_link_102 : decode b_M_link 102 = .ok (.ireturn, 1) := by decide +kernel
theorem d_M_route_0 : decode b_M_route 0 = .ok (.aload_n 0, 1) := by decide +kernel
theorem d_M_route_1 : decode b_M_route 1 = .ok (.iconst 0, 1) := by decide +kernel
theorem d_M_route_2 : decode b_M_route 2 = .ok (.putfield 78, 3) := by decide +kernel
theorem d_M_route_5 : decode b_M_route 5 = .ok (.aload_n 0, 1) := by decide +kernel
theorem d_M_route_6 : decode b_M_route 6 = .ok (.iload_n 1, 1) := by decide +kernel
theorem d_M_route_7 : decode b_M_route 7 = .ok (.invokevirtual 95, 3) := by decide +kernel
theorem d_M_route_10 : decode b_M_route 10 = .ok (.ifCond .eq 16, 3) := by decide +kernel
theorem d_M_route_13 : decode b_M_route 13 = .ok (.aload_n 0, 1) := by decide +kernel
theorem d_M_route_14 : decode b_M_route 14 = .ok (.iload_n 2, 1) := by decide +kernel
theorem d_M_route_15 : decode b_M_route 15 = .ok (.invokevirtual 95, 3) := by decide +kernel
theorem d_M_route_18 : decode b_M_route 18 = .ok (.ifCond .eq 8, 3) := by decide +kernel
theorem d_M_route_21 : decode b_M_route 21 = .ok (.iload_n 1, 1) := by decide +kernel
theorem d_M_route_22 : decode b_M_route 22 = .ok (.iload_n 2, 1) := by decide +kernel
theorem d_M_route_23 : decode b_M_route 23 = .ok (.if_icmp .ne 9, 3) := by decide +kernel
theorem d_M_route_26 : decode b_M_route 26 = .ok (.aload_n 0, 1) := by decide +kernel
theorem d_M_route_27 : decode b_M_route 27 = .ok (.iconst 1, 1) := by decide +kernel
theorem d_M_route_28 : decode b_M_route 28 = .ok (.invokevirtual 91, 3) := by decide +kernel
theorem d_M_route_31 : decode b_M_route 31 = .ok (.ireturn, 1) := by decide +kernel
theorem d_M_route_32 : decode b_M_route 32 = .ok (.iload_n 3, 1) := by decide +kernel
theorem d_M_route_33 : decode b_M_route 33 = .ok (.iconst (-1), 1) := by decide +kernel
theorem d_M_route_34 : decode b_M_route 34 = .ok (.if_icmp .eq 40, 3) := by decide +kernel
theorem d_M_route_37 : decode b_M_route 37 = .ok (.aload_n 0, 1) := by decide +kernel
theorem d_M_route_38 : decode b_M_route 38 = .ok (.iload_n 3, 1) := by decide +kernel
theorem d_M_route_39 : decode b_M_route 39 = .ok (.invokevirtual 99, 3) := by decide +kernel
theorem d_M_route_42 : decode b_M_route 42 = .ok (.ifCond .eq 26, 3) := by decide +kernel
theorem d_M_route_45 : decode b_M_route 45 = .ok (.aload_n 0, 1) := by decide +kernel
theorem d_M_route_46 : decode b_M_route 46 = .ok (.getfield 7, 3) := by decide +kernel
theorem d_M_route_49 : decode b_M_route 49 = .ok (.iload_n 3, 1) := by decide +kernel
theorem d_M_route_50 : decode b_M_route 50 = .ok (.iconst 4, 1) := by decide +kernel
theorem d_M_route_51 : decode b_M_route 51 = .ok (.idiv, 1) := by decide +kernel
theorem d_M_route_52 : decode b_M_route 52 = .ok (.iaload, 1) := by decide +kernel
theorem d_M_route_53 : decode b_M_route 53 = .ok (.iload_n 1, 1) := by decide +kernel
theorem d_M_route_54 : decode b_M_route 54 = .ok (.if_icmp .ne 14, 3) := by decide +kernel
theorem d_M_route_57 : decode b_M_route 57 = .ok (.aload_n 0, 1) := by decide +kernel
theorem d_M_route_58 : decode b_M_route 58 = .ok (.getfield 19, 3) := by decide +kernel
theorem d_M_route_61 : decode b_M_route 61 = .ok (.iload_n 3, 1) := by decide +kernel
theorem d_M_route_62 : decode b_M_route 62 = .ok (.iconst 4, 1) := by decide +kernel
theorem d_M_route_63 : decode b_M_route 63 = .ok (.idiv, 1) := by decide +kernel
theorem d_M_route_64 : decode b_M_route 64 = .ok (.baload, 1) := by decide +kernel
theorem d_M_route_65 : decode b_M_route 65 = .ok (.ifCond .eq 9, 3) := by decide +kernel
theorem d_M_route_68 : decode b_M_route 68 = .ok (.aload_n 0, 1) := by decide +kernel
theorem d_M_route_69 : decode b_M_route 69 = .ok (.iconst 1, 1) := by decide +kernel
theorem d_M_route_70 : decode b_M_route 70 = .ok (.invokevirtual 91, 3) := by decide +kernel
theorem d_M_route_73 : decode b_M_route 73 = .ok (.ireturn, 1) := by decide +kernel
theorem d_M_route_74 : decode b_M_route 74 = .ok (.aload_n 0, 1) := by decide +kernel
theorem d_M_route_75 : decode b_M_route 75 = .ok (.getfield 26, 3) := by decide +kernel
theorem d_M_route_78 : decode b_M_route 78 = .ok (.bipush 16, 2) := by decide +kernel
theorem d_M_route_80 : decode b_M_route 80 = .ok (.iload_n 1, 1) := by decide +kernel
theorem d_M_route_81 : decode b_M_route 81 = .ok (.imul, 1) := by decide +kernel
theorem d_M_route_82 : decode b_M_route 82 = .ok (.iload_n 2, 1) := by decide +kernel
theorem d_M_route_83 : decode b_M_route 83 = .ok (.iadd, 1) := by decide +kernel
theorem d_M_route_84 : decode b_M_route 84 = .ok (.iaload, 1) := by decide +kernel
theorem d_M_route_85 : decode b_M_route 85 = .ok (.istore 4, 2) := by decide +kernel
theorem d_M_route_87 : decode b_M_route 87 = .ok (.aload_n 0, 1) := by decide +kernel
theorem d_M_route_88 : decode b_M_route 88 = .ok (.getfield 26, 3) := by decide +kernel
theorem d_M_route_91 : decode b_M_route 91 = .ok (.bipush 16, 2) := by decide +kernel
theorem d_M_route_93 : decode b_M_route 93 = .ok (.iload_n 1, 1) := by decide +kernel
theorem d_M_route_94 : decode b_M_route 94 = .ok (.imul, 1) := by decide +kernel
theorem d_M_route_95 : decode b_M_route 95 = .ok (.iload_n 2, 1) := by decide +kernel
theorem d_M_route_96 : decode b_M_route 96 = .ok (.iadd, 1) := by decide +kernel
theorem d_M_route_97 : decode b_M_route 97 = .ok (.iload_n 3, 1) := by decide +kernel
theorem d_M_route_98 : decode b_M_route 98 = .ok (.iastore, 1) := by decide +kernel
theorem d_M_route_99 : decode b_M_route 99 = .ok (.iload 4, 2) := by decide +kernel
theorem d_M_route_101 : decode b_M_route 101 = .ok (.ireturn, 1) := by decide +kernel
theorem d_M_routes_0 : decode b_M_routes 0 = .ok (.aload_n 0, 1) := by decide +kernel
theorem d_M_routes_1 : decode b_M_routes 1 = .ok (.iconst 0, 1) := by decide +kernel
theorem d_M_routes_2 : decode b_M_routes 2 = .ok (.putfield 78, 3) := by decide +kernel
theorem d_M_routes_5 : decode b_M_routes 5 = .ok (.aload_n 0, 1) := by decide +kernel
theorem d_M_routes_6 : decode b_M_routes 6 = .ok (.iload_n 1, 1) := by decide +kernel
theorem d_M_routes_7 : decode b_M_routes 7 = .ok (.invokevirtual 95, 3) := by decide +kernel
theorem d_M_routes_10 : decode b_M_routes 10 = .ok (.ifCond .ne 9, 3) := by decide +kernel
theorem d_M_routes_13 : decode b_M_routes 13 = .ok (.aload_n 0, 1) := by decide +kernel
theorem d_M_routes_14 : decode b_M_routes 14 = .ok (.iconst 1, 1) := by decide +kernel
theorem d_M_routes_15 : decode b_M_routes 15 = .ok (.invokevirtual 91, 3) := by decide +kernel
theorem d_M_routes_18 : decode b_M_routes 18 = .ok (.ireturn, 1) := by decide +kernel
theorem d_M_routes_19 : decode b_M_routes 19 = .ok (.iconst 0, 1) := by decide +kernel
theorem d_M_routes_20 : decode b_M_routes 20 = .ok (.istore_n 2, 1) := by decide +kernel
theorem d_M_routes_21 : decode b_M_routes 21 = .ok (.iload_n 2, 1) := by decide +kernel
theorem d_M_routes_22 : decode b_M_routes 22 = .ok (.bipush 16, 2) := by decide +kernel
theorem d_M_routes_24 : decode b_M_routes 24 = .ok (.if_icmp .ge 37, 3) := by decide +kernel
theorem d_M_routes_27 : decode b_M_routes 27 = .ok (.aload_n 0, 1) := by decide +kernel
theorem d_M_routes_28 : decode b_M_routes 28 = .ok (.getfield 68, 3) := by decide +kernel
theorem d_M_routes_31 : decode b_M_routes 31 = .ok (.iload_n 2, 1) := by decide +kernel
theorem d_M_routes_32 : decode b_M_routes 32 = .ok (.iload_n 2, 1) := by decide +kernel
theorem d_M_routes_33 : decode b_M_routes 33 = .ok (.iload_n 1, 1) := by decide +kernel
theorem d_M_routes_34 : decode b_M_routes 34 = .ok (.if_icmp .ne 7, 3) := by decide +kernel
theorem d_M_routes_37 : decode b_M_routes 37 = .ok (.iconst 0, 1) := by decide +kernel
theorem d_M_routes_38 : decode b_M_routes 38 = .ok (.goto 4, 3) := by decide +kernel
theorem d_M_routes_41 : decode b_M_routes 41 = .ok (.iconst (-1), 1) := by decide +kernel
theorem d_M_routes_42 : decode b_M_routes 42 = .ok (.iastore, 1) := by decide +kernel
theorem d_M_routes_43 : decode b_M_routes 43 = .ok (.aload_n 0, 1) := by decide +kernel
theorem d_M_routes_44 : decode b_M_routes 44 = .ok (.getfield 26, 3) := by decide +kernel
theorem d_M_routes_47 : decode b_M_routes 47 = .ok (.bipush 16, 2) := by decide +kernel
theorem d_M_routes_49 : decode b_M_routes 49 = .ok (.iload_n 2, 1) := by decide +kernel
theorem d_M_routes_50 : decode b_M_routes 50 = .ok (.imul, 1) := by decide +kernel
theorem d_M_routes_51 : decode b_M_routes 51 = .ok (.iload_n 1, 1) := by decide +kernel
theorem d_M_routes_52 : decode b_M_routes 52 = .ok (.iadd, 1) := by decide +kernel
theorem d_M_routes_53 : decode b_M_routes 53 = .ok (.iconst (-1), 1) := by decide +kernel
theorem d_M_routes_54 : decode b_M_routes 54 = .ok (.iastore, 1) := by decide +kernel
theorem d_M_routes_55 : decode b_M_routes 55 = .ok (.iinc 2 1, 3) := by decide +kernel
theorem d_M_routes_58 : decode b_M_routes 58 = .ok (.goto (-37), 3) := by decide +kernel
theorem d_M_routes_61 : decode b_M_routes 61 = .ok (.iconst 0, 1) := by decide +kernel
theorem d_M_routes_62 : decode b_M_routes 62 = .ok (.istore_n 2, 1) := by decide +kernel
theorem d_M_routes_63 : decode b_M_routes 63 = .ok (.iconst 1, 1) := by decide +kernel
theorem d_M_routes_64 : decode b_M_routes 64 = .ok (.istore_n 3, 1) := by decide +kernel
theorem d_M_routes_65 : decode b_M_routes 65 = .ok (.iload_n 3, 1) := by decide +kernel
theorem d_M_routes_66 : decode b_M_routes 66 = .ok (.bipush 16, 2) := by decide +kernel
theorem d_M_routes_68 : decode b_M_routes 68 = .ok (.if_icmp .gt 114, 3) := by decide +kernel
theorem d_M_routes_71 : decode b_M_routes 71 = .ok (.iconst 0, 1) := by decide +kernel
theorem d_M_routes_72 : decode b_M_routes 72 = .ok (.istore 4, 2) := by decide +kernel
theorem d_M_routes_74 : decode b_M_routes 74 = .ok (.iload 4, 2) := by decide +kernel
theorem d_M_routes_76 : decode b_M_routes 76 = .ok (.aload_n 0, 1) := by decide +kernel
theorem d_M_routes_77 : decode b_M_routes 77 = .ok (.getfield 88, 3) := by decide +kernel
theorem d_M_routes_80 : decode b_M_routes 80 = .ok (.if_icmp .ge 96, 3) := by decide +kernel
theorem d_M_routes_83 : decode b_M_routes 83 = .ok (.aload_n 0, 1) := by decide +kernel
theorem d_M_routes_84 : decode b_M_routes 84 = .ok (.getfield 7, 3) := by decide +kernel
theorem d_M_routes_87 : decode b_M_routes 87 = .ok (.iload 4, 2) := by decide +kernel
theorem d_M_routes_89 : decode b_M_routes 89 = .ok (.iaload, 1) := by decide +kernel
theorem d_M_routes_90 : decode b_M_routes 90 = .ok (.istore 5, 2) := by decide +kernel
theorem d_M_routes_92 : decode b_M_routes 92 = .ok (.aload_n 0, 1) := by decide +kernel
theorem d_M_routes_93 : decode b_M_routes 93 = .ok (.getfield 19, 3) := by decide +kernel
theorem d_M_routes_96 : decode b_M_routes 96 = .ok (.iload 4, 2) := by decide +kernel
theorem d_M_routes_98 : decode b_M_routes 98 = .ok (.baload, 1) := by decide +kernel
theorem d_M_routes_99 : decode b_M_routes 99 = .ok (.ifCond .ne 25, 3) := by decide +kernel
theorem d_M_routes_102 : decode b_M_routes 102 = .ok (.aload_n 0, 1) := by decide +kernel
theorem d_M_routes_103 : decode b_M_routes 103 = .ok (.getfield 68, 3) := by decide +kernel
theorem d_M_routes_106 : decode b_M_routes 106 = .ok (.aload_n 0, 1) := by decide +kernel
theorem d_M_routes_107 : decode b_M_routes 107 = .ok (.getfield 13, 3) := by decide +kernel
theorem d_M_routes_110 : decode b_M_routes 110 = .ok (.iload 4, 2) := by decide +kernel
theorem d_M_routes_112 : decode b_M_routes 112 = .ok (.iaload, 1) := by decide +kernel
theorem d_M_routes_113 : decode b_M_routes 113 = .ok (.iaload, 1) := by decide +kernel
theorem d_M_routes_114 : decode b_M_routes 114 = .ok (.iload_n 3, 1) := by decide +kernel
theorem d_M_routes_115 : decode b_M_routes 115 = .ok (.iconst 1, 1) := by decide +kernel
theorem d_M_routes_116 : decode b_M_routes 116 = .ok (.isub, 1) := by decide +kernel
theorem d_M_routes_117 : decode b_M_routes 117 = .ok (.if_icmp .ne 7, 3) := by decide +kernel
theorem d_M_routes_120 : decode b_M_routes 120 = .ok (.iconst 1, 1) := by decide +kernel
theorem d_M_routes_121 : decode b_M_routes 121 = .ok (.goto 4, 3) := by decide +kernel
theorem d_M_routes_124 : decode b_M_routes 124 = .ok (.iconst 0, 1) := by decide +kernel
theorem d_M_routes_125 : decode b_M_routes 125 = .ok (.istore 6, 2) := by decide +kernel
theorem d_M_routes_127 : decode b_M_routes 127 = .ok (.iload 6, 2) := by decide +kernel
theorem d_M_routes_129 : decode b_M_routes 129 = .ok (.ifCond .eq 41, 3) := by decide +kernel
theorem d_M_routes_132 : decode b_M_routes 132 = .ok (.aload_n 0, 1) := by decide +kernel
theorem d_M_routes_133 : decode b_M_routes 133 = .ok (.getfield 68, 3) := by decide +kernel
theorem d_M_routes_136 : decode b_M_routes 136 = .ok (.iload 5, 2) := by decide +kernel
theorem d_M_routes_138 : decode b_M_routes 138 = .ok (.iaload, 1) := by decide +kernel
theorem d_M_routes_139 : decode b_M_routes 139 = .ok (.iconst (-1), 1) := by decide +kernel
theorem d_M_routes_140 : decode b_M_routes 140 = .ok (.if_icmp .ne 30, 3) := by decide +kernel
theorem d_M_routes_143 : decode b_M_routes 143 = .ok (.aload_n 0, 1) := by decide +kernel
theorem d_M_routes_144 : decode b_M_routes 144 = .ok (.getfield 68, 3) := by decide +kernel
theorem d_M_routes_147 : decode b_M_routes 147 = .ok (.iload 5, 2) := by decide +kernel
theorem d_M_routes_149 : decode b_M_routes 149 = .ok (.iload_n 3, 1) := by decide +kernel
theorem d_M_routes_150 : decode b_M_routes 150 = .ok (.iastore, 1) := by decide +kernel
theorem d_M_routes_151 : decode b_M_routes 151 = .ok (.aload_n 0, 1) := by decide +kernel
theorem d_M_routes_152 : decode b_M_routes 152 = .ok (.getfield 26, 3) := by decide +kernel
theorem d_M_routes_155 : decode b_M_routes 155 = .ok (.bipush 16, 2) := by decide +kernel
theorem d_M_routes_157 : decode b_M_routes 157 = .ok (.iload 5, 2) := by decide +kernel
theorem d_M_routes_159 : decode b_M_routes 159 = .ok (.imul, 1) := by decide +kernel
theorem d_M_routes_160 : decode b_M_routes 160 = .ok (.iload_n 1, 1) := by decide +kernel
theorem d_M_routes_161 : decode b_M_routes 161 = .ok (.iadd, 1) := by decide +kernel
theorem d_M_routes_162 : decode b_M_routes 162 = .ok (.iconst 4, 1) := by decide +kernel
theorem d_M_routes_163 : decode b_M_routes 163 = .ok (.iload 4, 2) := by decide +kernel
theorem d_M_routes_165 : decode b_M_routes 165 = .ok (.imul, 1) := by decide +kernel
theorem d_M_routes_166 : decode b_M_routes 166 = .ok (.iastore, 1) := by decide +kernel
theorem d_M_routes_167 : decode b_M_routes 167 = .ok (.iinc 2 1, 3) := by decide +kernel
theorem d_M_routes_170 : decode b_M_routes 170 = .ok (.iinc 4 1, 3) := by decide +kernel
theorem d_M_routes_173 : decode b_M_routes 173 = .ok (.goto (-99), 3) := by decide +kernel
theorem d_M_routes_176 : decode b_M_routes 176 = .ok (.iinc 3 1, 3) := by decide +kernel
theorem d_M_routes_179 : decode b_M_routes 179 = .ok (.goto (-114), 3) := by decide +kernel
theorem d_M_routes_182 : decode b_M_routes 182 = .ok (.iload_n 2, 1) := by decide +kernel
theorem d_M_routes_183 : decode b_M_routes 183 = .ok (.ireturn, 1) := by decide +kernel
theorem d_M_fail_0 : decode b_M_fail 0 = .ok (.aload_n 0, 1) := by decide +kernel
theorem d_M_fail_1 : decode b_M_fail 1 = .ok (.iconst 0, 1) := by decide +kernel
theorem d_M_fail_2 : decode b_M_fail 2 = .ok (.putfield 78, 3) := by decide +kernel
theorem d_M_fail_5 : decode b_M_fail 5 = .ok (.iload_n 1, 1) := by decide +kernel
theorem d_M_fail_6 : decode b_M_fail 6 = .ok (.iconst 0, 1) := by decide +kernel
theorem d_M_fail_7 : decode b_M_fail 7 = .ok (.aload_n 0, 1) := by decide +kernel
theorem d_M_fail_8 : decode b_M_fail 8 = .ok (.getfield 88, 3) := by decide +kernel
theorem d_M_fail_11 : decode b_M_fail 11 = .ok (.iconst 1, 1) := by decide +kernel
theorem d_M_fail_12 : decode b_M_fail 12 = .ok (.isub, 1) := by decide +kernel
theorem d_M_fail_13 : decode b_M_fail 13 = .ok (.invokestatic 84, 3) := by decide +kernel
theorem d_M_fail_16 : decode b_M_fail 16 = .ok (.ifCond .eq 12, 3) := by decide +kernel
theorem d_M_fail_19 : decode b_M_fail 19 = .ok (.aload_n 0, 1) := by decide +kernel
theorem d_M_fail_20 : decode b_M_fail 20 = .ok (.getfield 19, 3) := by decide +kernel
theorem d_M_fail_23 : decode b_M_fail 23 = .ok (.iload_n 1, 1) := by decide +kernel
theorem d_M_fail_24 : decode b_M_fail 24 = .ok (.baload, 1) := by decide +kernel
theorem d_M_fail_25 : decode b_M_fail 25 = .ok (.ifCond .eq 9, 3) := by decide +kernel
theorem d_M_fail_28 : decode b_M_fail 28 = .ok (.aload_n 0, 1) := by decide +kernel
theorem d_M_fail_29 : decode b_M_fail 29 = .ok (.iconst 1, 1) := by decide +kernel
theorem d_M_fail_30 : decode b_M_fail 30 = .ok (.invokevirtual 91, 3) := by decide +kernel
theorem d_M_fail_33 : decode b_M_fail 33 = .ok (.ireturn, 1) := by decide +kernel
theorem d_M_fail_34 : decode b_M_fail 34 = .ok (.aload_n 0, 1) := by decide +kernel
theorem d_M_fail_35 : decode b_M_fail 35 = .ok (.getfield 19, 3) := by decide +kernel
theorem d_M_fail_38 : decode b_M_fail 38 = .ok (.iload_n 1, 1) := by decide +kernel
theorem d_M_fail_39 : decode b_M_fail 39 = .ok (.iconst 1, 1) := by decide +kernel
theorem d_M_fail_40 : decode b_M_fail 40 = .ok (.bastore, 1) := by decide +kernel
theorem d_M_fail_41 : decode b_M_fail 41 = .ok (.iconst 0, 1) := by decide +kernel
theorem d_M_fail_42 : decode b_M_fail 42 = .ok (.istore_n 2, 1) := by decide +kernel
theorem d_M_fail_43 : decode b_M_fail 43 = .ok (.iconst 0, 1) := by decide +kernel
theorem d_M_fail_44 : decode b_M_fail 44 = .ok (.istore_n 3, 1) := by decide +kernel
theorem d_M_fail_45 : decode b_M_fail 45 = .ok (.iload_n 3, 1) := by decide +kernel
theorem d_M_fail_46 : decode b_M_fail 46 = .ok (.sipush 256, 3) := by decide +kernel
theorem d_M_fail_49 : decode b_M_fail 49 = .ok (.if_icmp .ge 40, 3) := by decide +kernel
theorem d_M_fail_52 : decode b_M_fail 52 = .ok (.aload_n 0, 1) := by decide +kernel
theorem d_M_fail_53 : decode b_M_fail 53 = .ok (.getfield 26, 3) := by decide +kernel
theorem d_M_fail_56 : decode b_M_fail 56 = .ok (.iload_n 3, 1) := by decide +kernel
theorem d_M_fail_57 : decode b_M_fail 57 = .ok (.iaload, 1) := by decide +kernel
theorem d_M_fail_58 : decode b_M_fail 58 = .ok (.ifCond .lt 25, 3) := by decide +kernel
theorem d_M_fail_61 : decode b_M_fail 61 = .ok (.aload_n 0, 1) := by decide +kernel
theorem d_M_fail_62 : decode b_M_fail 62 = .ok (.getfield 26, 3) := by decide +kernel
theorem d_M_fail_65 : decode b_M_fail 65 = .ok (.iload_n 3, 1) := by decide +kernel
theorem d_M_fail_66 : decode b_M_fail 66 = .ok (.iaload, 1) := by decide +kernel
theorem d_M_fail_67 : decode b_M_fail 67 = .ok (.iconst 4, 1) := by decide +kernel
theorem d_M_fail_68 : decode b_M_fail 68 = .ok (.idiv, 1) := by decide +kernel
theorem d_M_fail_69 : decode b_M_fail 69 = .ok (.iload_n 1, 1) := by decide +kernel
theorem d_M_fail_70 : decode b_M_fail 70 = .ok (.if_icmp .ne 13, 3) := by decide +kernel
theorem d_M_fail_73 : decode b_M_fail 73 = .ok (.aload_n 0, 1) := by decide +kernel
theorem d_M_fail_74 : decode b_M_fail 74 = .ok (.getfield 26, 3) := by decide +kernel
theorem d_M_fail_77 : decode b_M_fail 77 = .ok (.iload_n 3, 1) := by decide +kernel
theorem d_M_fail_78 : decode b_M_fail 78 = .ok (.iconst (-1), 1) := by decide +kernel
theorem d_M_fail_79 : decode b_M_fail 79 = .ok (.iastore, 1) := by decide +kernel
theorem d_M_fail_80 : decode b_M_fail 80 = .ok (.iinc 2 1, 3) := by decide +kernel
theorem d_M_fail_83 : decode b_M_fail 83 = .ok (.iinc 3 1, 3) := by decide +kernel
theorem d_M_fail_86 : decode b_M_fail 86 = .ok (.goto (-41), 3) := by decide +kernel
theorem d_M_fail_89 : decode b_M_fail 89 = .ok (.iload_n 2, 1) := by decide +kernel
theorem d_M_fail_90 : decode b_M_fail 90 = .ok (.ireturn, 1) := by decide +kernel
theorem d_M_add_0 : decode b_M_add 0 = .ok (.aload_n 0, 1) := by decide +kernel
theorem d_M_add_1 : decode b_M_add 1 = .ok (.getfield 102, 3) := by decide +kernel
theorem d_M_add_4 : decode b_M_add 4 = .ok (.istore 4, 2) := by decide +kernel
theorem d_M_add_6 : decode b_M_add 6 = .ok (.aload_n 0, 1) := by decide +kernel
theorem d_M_add_7 : decode b_M_add 7 = .ok (.getfield 29, 3) := by decide +kernel
theorem d_M_add_10 : decode b_M_add 10 = .ok (.iload 4, 2) := by decide +kernel
theorem d_M_add_12 : decode b_M_add 12 = .ok (.iload_n 1, 1) := by decide +kernel
theorem d_M_add_13 : decode b_M_add 13 = .ok (.iastore, 1) := by decide +kernel
theorem d_M_add_14 : decode b_M_add 14 = .ok (.aload_n 0, 1) := by decide +kernel
theorem d_M_add_15 : decode b_M_add 15 = .ok (.getfield 32, 3) := by decide +kernel
theorem d_M_add_18 : decode b_M_add 18 = .ok (.iload 4, 2) := by decide +kernel
theorem d_M_add_20 : decode b_M_add 20 = .ok (.iload_n 2, 1) := by decide +kernel
theorem d_M_add_21 : decode b_M_add 21 = .ok (.iastore, 1) := by decide +kernel
theorem d_M_add_22 : decode b_M_add 22 = .ok (.aload_n 0, 1) := by decide +kernel
theorem d_M_add_23 : decode b_M_add 23 = .ok (.getfield 35, 3) := by decide +kernel
theorem d_M_add_26 : decode b_M_add 26 = .ok (.iload 4, 2) := by decide +kernel
theorem d_M_add_28 : decode b_M_add 28 = .ok (.iload_n 3, 1) := by decide +kernel
theorem d_M_add_29 : decode b_M_add 29 = .ok (.iastore, 1) := by decide +kernel
theorem d_M_add_30 : decode b_M_add 30 = .ok (.aload_n 0, 1) := by decide +kernel
theorem d_M_add_31 : decode b_M_add 31 = .ok (.dup, 1) := by decide +kernel
theorem d_M_add_32 : decode b_M_add 32 = .ok (.getfield 102, 3) := by decide +kernel
theorem d_M_add_35 : decode b_M_add 35 = .ok (.iconst 1, 1) := by decide +kernel
theorem d_M_add_36 : decode b_M_add 36 = .ok (.iadd, 1) := by decide +kernel
theorem d_M_add_37 : decode b_M_add 37 = .ok (.putfield 102, 3) := by decide +kernel
theorem d_M_add_40 : decode b_M_add 40 = .ok (.iload 4, 2) := by decide +kernel
theorem d_M_add_42 : decode b_M_add 42 = .ok (.ireturn, 1) := by decide +kernel
theorem d_M_send_0 : decode b_M_send 0 = .ok (.aload_n 0, 1) := by decide +kernel
theorem d_M_send_1 : decode b_M_send 1 = .ok (.iconst 0, 1) := by decide +kernel
theorem d_M_send_2 : decode b_M_send 2 = .ok (.putfield 78, 3) := by decide +kernel
theorem d_M_send_5 : decode b_M_send 5 = .ok (.aload_n 0, 1) := by decide +kernel
theorem d_M_send_6 : decode b_M_send 6 = .ok (.iload_n 1, 1) := by decide +kernel
theorem d_M_send_7 : decode b_M_send 7 = .ok (.invokevirtual 95, 3) := by decide +kernel
theorem d_M_send_10 : decode b_M_send 10 = .ok (.ifCond .eq 21, 3) := by decide +kernel
theorem d_M_send_13 : decode b_M_send 13 = .ok (.aload_n 0, 1) := by decide +kernel
theorem d_M_send_14 : decode b_M_send 14 = .ok (.iload_n 2, 1) := by decide +kernel
theorem d_M_send_15 : decode b_M_send 15 = .ok (.invokevirtual 95, 3) := by decide +kernel
theorem d_M_send_18 : decode b_M_send 18 = .ok (.ifCond .eq 13, 3) := by decide +kernel
theorem d_M_send_21 : decode b_M_send 21 = .ok (.iload_n 3, 1) := by decide +kernel
theorem d_M_send_22 : decode b_M_send 22 = .ok (.iconst 1, 1) := by decide +kernel
theorem d_M_send_23 : decode b_M_send 23 = .ok (.bipush 16, 2) := by decide +kernel
theorem d_M_send_25 : decode b_M_send 25 = .ok (.invokestatic 84, 3) := by decide +kernel
theorem d_M_send_28 : decode b_M_send 28 = .ok (.ifCond .ne 9, 3) := by decide +kernel
theorem d_M_send_31 : decode b_M_send 31 = .ok (.aload_n 0, 1) := by decide +kernel
theorem d_M_send_32 : decode b_M_send 32 = .ok (.iconst 1, 1) := by decide +kernel
theorem d_M_send_33 : decode b_M_send 33 = .ok (.invokevirtual 91, 3) := by decide +kernel
theorem d_M_send_36 : decode b_M_send 36 = .ok (.ireturn, 1) := by decide +kernel
theorem d_M_send_37 : decode b_M_send 37 = .ok (.aload_n 0, 1) := by decide +kernel
theorem d_M_send_38 : decode b_M_send 38 = .ok (.getfield 102, 3) := by decide +kernel
theorem d_M_send_41 : decode b_M_send 41 = .ok (.sipush 400, 3) := by decide +kernel
theorem d_M_send_44 : decode b_M_send 44 = .ok (.if_icmp .ne 9, 3) := by decide +kernel
theorem d_M_send_47 : decode b_M_send 47 = .ok (.aload_n 0, 1) := by decide +kernel
theorem d_M_send_48 : decode b_M_send 48 = .ok (.iconst 2, 1) := by decide +kernel
theorem d_M_send_49 : decode b_M_send 49 = .ok (.invokevirtual 91, 3) := by decide +kernel
theorem d_M_send_52 : decode b_M_send 52 = .ok (.ireturn, 1) := by decide +kernel
theorem d_M_send_53 : decode b_M_send 53 = .ok (.aload_n 0, 1) := by decide +kernel
theorem d_M_send_54 : decode b_M_send 54 = .ok (.iload_n 1, 1) := by decide +kernel
theorem d_M_send_55 : decode b_M_send 55 = .ok (.iload_n 2, 1) := by decide +kernel
theorem d_M_send_56 : decode b_M_send 56 = .ok (.iload_n 3, 1) := by decide +kernel
theorem d_M_send_57 : decode b_M_send 57 = .ok (.invokevirtual 105, 3) := by decide +kernel
theorem d_M_send_60 : decode b_M_send 60 = .ok (.ireturn, 1) := by decide +kernel
theorem d_M_draw_0 : decode b_M_draw 0 = .ok (.aload_n 0, 1) := by decide +kernel
theorem d_M_draw_1 : decode b_M_draw 1 = .ok (.ldc 109, 2) := by decide +kernel
theorem d_M_draw_3 : decode b_M_draw 3 = .ok (.aload_n 0, 1) := by decide +kernel
theorem d_M_draw_4 : decode b_M_draw 4 = .ok (.getfield 74, 3) := by decide +kernel
theorem d_M_draw_7 : decode b_M_draw 7 = .ok (.imul, 1) := by decide +kernel
theorem d_M_draw_8 : decode b_M_draw 8 = .ok (.sipush 12345, 3) := by decide +kernel
theorem d_M_draw_11 : decode b_M_draw 11 = .ok (.iadd, 1) := by decide +kernel
theorem d_M_draw_12 : decode b_M_draw 12 = .ok (.ldc 110, 2) := by decide +kernel
theorem d_M_draw_14 : decode b_M_draw 14 = .ok (.iand, 1) := by decide +kernel
theorem d_M_draw_15 : decode b_M_draw 15 = .ok (.putfield 74, 3) := by decide +kernel
theorem d_M_draw_18 : decode b_M_draw 18 = .ok (.aload_n 0, 1) := by decide +kernel
theorem d_M_draw_19 : decode b_M_draw 19 = .ok (.getfield 74, 3) := by decide +kernel
theorem d_M_draw_22 : decode b_M_draw 22 = .ok (.ldc 111, 2) := by decide +kernel
theorem d_M_draw_24 : decode b_M_draw 24 = .ok (.idiv, 1) := by decide +kernel
theorem d_M_draw_25 : decode b_M_draw 25 = .ok (.ireturn, 1) := by decide +kernel
theorem d_M_load_0 : decode b_M_load 0 = .ok (.aload_n 0, 1) := by decide +kernel
theorem d_M_load_1 : decode b_M_load 1 = .ok (.iconst 0, 1) := by decide +kernel
theorem d_M_load_2 : decode b_M_load 2 = .ok (.putfield 78, 3) := by decide +kernel
theorem d_M_load_5 : decode b_M_load 5 = .ok (.iload_n 1, 1) := by decide +kernel
theorem d_M_load_6 : decode b_M_load 6 = .ok (.iconst 1, 1) := by decide +kernel
theorem d_M_load_7 : decode b_M_load 7 = .ok (.bipush 50, 2) := by decide +kernel
theorem d_M_load_9 : decode b_M_load 9 = .ok (.invokestatic 84, 3) := by decide +kernel
theorem d_M_load_12 : decode b_M_load 12 = .ok (.ifCond .ne 9, 3) := by decide +kernel
theorem d_M_load_15 : decode b_M_load 15 = .ok (.aload_n 0, 1) := by decide +kernel
theorem d_M_load_16 : decode b_M_load 16 = .ok (.iconst 1, 1) := by decide +kernel
theorem d_M_load_17 : decode b_M_load 17 = .ok (.invokevirtual 91, 3) := by decide +kernel
theorem d_M_load_20 : decode b_M_load 20 = .ok (.ireturn, 1) := by decide +kernel
theorem d_M_load_21 : decode b_M_load 21 = .ok (.aload_n 0, 1) := by decide +kernel
theorem d_M_load_22 : decode b_M_load 22 = .ok (.getfield 81, 3) := by decide +kernel
theorem d_M_load_25 : decode b_M_load 25 = .ok (.ifCond .ne 9, 3) := by decide +kernel
theorem d_M_load_28 : decode b_M_load 28 = .ok (.aload_n 0, 1) := by decide +kernel
theorem d_M_load_29 : decode b_M_load 29 = .ok (.iconst 2, 1) := by decide +kernel
theorem d_M_load_30 : decode b_M_load 30 = .ok (.invokevirtual 91, 3) := by decide +kernel
theorem d_M_load_33 : decode b_M_load 33 = .ok (.ireturn, 1) := by decide +kernel
theorem d_M_load_34 : decode b_M_load 34 = .ok (.aload_n 0, 1) := by decide +kernel
theorem d_M_load_35 : decode b_M_load 35 = .ok (.getfield 102, 3) := by decide +kernel
theorem d_M_load_38 : decode b_M_load 38 = .ok (.iload_n 1, 1) := by decide +kernel
theorem d_M_load_39 : decode b_M_load 39 = .ok (.iadd, 1) := by decide +kernel
theorem d_M_load_40 : decode b_M_load 40 = .ok (.sipush 400, 3) := by decide +kernel
theorem d_M_load_43 : decode b_M_load 43 = .ok (.if_icmp .le 9, 3) := by decide +kernel
theorem d_M_load_46 : decode b_M_load 46 = .ok (.aload_n 0, 1) := by decide +kernel
theorem d_M_load_47 : decode b_M_load 47 = .ok (.iconst 3, 1) := by decide +kernel
theorem d_M_load_48 : decode b_M_load 48 = .ok (.invokevirtual 91, 3) := by decide +kernel
theorem d_M_load_51 : decode b_M_load 51 = .ok (.ireturn, 1) := by decide +kernel
theorem d_M_load_52 : decode b_M_load 52 = .ok (.iconst 0, 1) := by decide +kernel
theorem d_M_load_53 : decode b_M_load 53 = .ok (.istore_n 2, 1) := by decide +kernel
theorem d_M_load_54 : decode b_M_load 54 = .ok (.iload_n 2, 1) := by decide +kernel
theorem d_M_load_55 : decode b_M_load 55 = .ok (.iload_n 1, 1) := by decide +kernel
theorem d_M_load_56 : decode b_M_load 56 = .ok (.if_icmp .ge 47, 3) := by decide +kernel
theorem d_M_load_59 : decode b_M_load 59 = .ok (.aload_n 0, 1) := by decide +kernel
theorem d_M_load_60 : decode b_M_load 60 = .ok (.invokevirtual 112, 3) := by decide +kernel
theorem d_M_load_63 : decode b_M_load 63 = .ok (.aload_n 0, 1) := by decide +kernel
theorem d_M_load_64 : decode b_M_load 64 = .ok (.getfield 81, 3) := by decide +kernel
theorem d_M_load_67 : decode b_M_load 67 = .ok (.irem, 1) := by decide +kernel
theorem d_M_load_68 : decode b_M_load 68 = .ok (.istore_n 3, 1) := by decide +kernel
theorem d_M_load_69 : decode b_M_load 69 = .ok (.aload_n 0, 1) := by decide +kernel
theorem d_M_load_70 : decode b_M_load 70 = .ok (.invokevirtual 112, 3) := by decide +kernel
theorem d_M_load_73 : decode b_M_load 73 = .ok (.aload_n 0, 1) := by decide +kernel
theorem d_M_load_74 : decode b_M_load 74 = .ok (.getfield 81, 3) := by decide +kernel
theorem d_M_load_77 : decode b_M_load 77 = .ok (.irem, 1) := by decide +kernel
theorem d_M_load_78 : decode b_M_load 78 = .ok (.istore 4, 2) := by decide +kernel
theorem d_M_load_80 : decode b_M_load 80 = .ok (.aload_n 0, 1) := by decide +kernel
theorem d_M_load_81 : decode b_M_load 81 = .ok (.iload_n 3, 1) := by decide +kernel
theorem d_M_load_82 : decode b_M_load 82 = .ok (.iload 4, 2) := by decide +kernel
theorem d_M_load_84 : decode b_M_load 84 = .ok (.iconst 1, 1) := by decide +kernel
theorem d_M_load_85 : decode b_M_load 85 = .ok (.aload_n 0, 1) := by decide +kernel
theorem d_M_load_86 : decode b_M_load 86 = .ok (.invokevirtual 112, 3) := by decide +kernel
theorem d_M_load_89 : decode b_M_load 89 = .ok (.bipush 8, 2) := by decide +kernel
theorem d_M_load_91 : decode b_M_load 91 = .ok (.irem, 1) := by decide +kernel
theorem d_M_load_92 : decode b_M_load 92 = .ok (.iadd, 1) := by decide +kernel
theorem d_M_load_93 : decode b_M_load 93 = .ok (.invokevirtual 105, 3) := by decide +kernel
theorem d_M_load_96 : decode b_M_load 96 = .ok (.pop, 1) := by decide +kernel
theorem d_M_load_97 : decode b_M_load 97 = .ok (.iinc 2 1, 3) := by decide +kernel
theorem d_M_load_100 : decode b_M_load 100 = .ok (.goto (-46), 3) := by decide +kernel
theorem d_M_load_103 : decode b_M_load 103 = .ok (.aload_n 0, 1) := by decide +kernel
theorem d_M_load_104 : decode b_M_load 104 = .ok (.getfield 102, 3) := by decide +kernel
theorem d_M_load_107 : decode b_M_load 107 = .ok (.iconst 1, 1) := by decide +kernel
theorem d_M_load_108 : decode b_M_load 108 = .ok (.isub, 1) := by decide +kernel
theorem d_M_load_109 : decode b_M_load 109 = .ok (.ireturn, 1) := by decide +kernel
theorem d_M_front_0 : decode b_M_front 0 = .ok (.iload_n 1, 1) := by decide +kernel
theorem d_M_front_1 : decode b_M_front 1 = .ok (.bipush 16, 2) := by decide +kernel
theorem d_M_front_3 : decode b_M_front 3 = .ok (.if_icmp .lt 45, 3) := by decide +kernel
theorem d_M_front_6 : decode b_M_front 6 = .ok (.iload_n 1, 1) := by decide +kernel
theorem d_M_front_7 : decode b_M_front 7 = .ok (.bipush 16, 2) := by decide +kernel
theorem d_M_front_9 : decode b_M_front 9 = .ok (.isub, 1) := by decide +kernel
theorem d_M_front_10 : decode b_M_front 10 = .ok (.istore_n 2, 1) := by decide +kernel
theorem d_M_front_11 : decode b_M_front 11 = .ok (.aload_n 0, 1) := by decide +kernel
theorem d_M_front_12 : decode b_M_front 12 = .ok (.getfield 47, 3) := by decide +kernel
theorem d_M_front_15 : decode b_M_front 15 = .ok (.iload_n 2, 1) := by decide +kernel
theorem d_M_front_16 : decode b_M_front 16 = .ok (.iaload, 1) := by decide +kernel
theorem d_M_front_17 : decode b_M_front 17 = .ok (.ifCond .eq 18, 3) := by decide +kernel
theorem d_M_front_20 : decode b_M_front 20 = .ok (.aload_n 0, 1) := by decide +kernel
theorem d_M_front_21 : decode b_M_front 21 = .ok (.getfield 53, 3) := by decide +kernel
theorem d_M_front_24 : decode b_M_front 24 = .ok (.iconst 4, 1) := by decide +kernel
theorem d_M_front_25 : decode b_M_front 25 = .ok (.iload_n 2, 1) := by decide +kernel
theorem d_M_front_26 : decode b_M_front 26 = .ok (.imul, 1) := by decide +kernel
theorem d_M_front_27 : decode b_M_front 27 = .ok (.iaload, 1) := by decide +kernel
theorem d_M_front_28 : decode b_M_front 28 = .ok (.aload_n 0, 1) := by decide +kernel
theorem d_M_front_29 : decode b_M_front 29 = .ok (.getfield 116, 3) := by decide +kernel
theorem d_M_front_32 : decode b_M_front 32 = .ok (.if_icmp .ne 7, 3) := by decide +kernel
theorem d_M_front_35 : decode b_M_front 35 = .ok (.iconst (-1), 1) := by decide +kernel
theorem d_M_front_36 : decode b_M_front 36 = .ok (.goto 11, 3) := by decide +kernel
theorem d_M_front_39 : decode b_M_front 39 = .ok (.aload_n 0, 1) := by decide +kernel
theorem d_M_front_40 : decode b_M_front 40 = .ok (.getfield 50, 3) := by decide +kernel
theorem d_M_front_43 : decode b_M_front 43 = .ok (.iconst 4, 1) := by decide +kernel
theorem d_M_front_44 : decode b_M_front 44 = .ok (.iload_n 2, 1) := by decide +kernel
theorem d_M_front_45 : decode b_M_front 45 = .ok (.imul, 1) := by decide +kernel
theorem d_M_front_46 : decode b_M_front 46 = .ok (.iaload, 1) := by decide +kernel
theorem d_M_front_47 : decode b_M_front 47 = .ok (.ireturn, 1) := by decide +kernel
theorem d_M_front_48 : decode b_M_front 48 = .ok (.iconst 0, 1) := by decide +kernel
theorem d_M_front_49 : decode b_M_front 49 = .ok (.istore_n 2, 1) := by decide +kernel
theorem d_M_front_50 : decode b_M_front 50 = .ok (.iload_n 2, 1) := by decide +kernel
theorem d_M_front_51 : decode b_M_front 51 = .ok (.aload_n 0, 1) := by decide +kernel
theorem d_M_front_52 : decode b_M_front 52 = .ok (.getfield 102, 3) := by decide +kernel
theorem d_M_front_55 : decode b_M_front 55 = .ok (.if_icmp .ge 34, 3) := by decide +kernel
theorem d_M_front_58 : decode b_M_front 58 = .ok (.aload_n 0, 1) := by decide +kernel
theorem d_M_front_59 : decode b_M_front 59 = .ok (.getfield 29, 3) := by decide +kernel
theorem d_M_front_62 : decode b_M_front 62 = .ok (.iload_n 2, 1) := by decide +kernel
theorem d_M_front_63 : decode b_M_front 63 = .ok (.iaload, 1) := by decide +kernel
theorem d_M_front_64 : decode b_M_front 64 = .ok (.iload_n 1, 1) := by decide +kernel
theorem d_M_front_65 : decode b_M_front 65 = .ok (.if_icmp .ne 18, 3) := by decide +kernel
theorem d_M_front_68 : decode b_M_front 68 = .ok (.aload_n 0, 1) := by decide +kernel
theorem d_M_front_69 : decode b_M_front 69 = .ok (.getfield 38, 3) := by decide +kernel
theorem d_M_front_72 : decode b_M_front 72 = .ok (.iload_n 2, 1) := by decide +kernel
theorem d_M_front_73 : decode b_M_front 73 = .ok (.iaload, 1) := by decide +kernel
theorem d_M_front_74 : decode b_M_front 74 = .ok (.aload_n 0, 1) := by decide +kernel
theorem d_M_front_75 : decode b_M_front 75 = .ok (.getfield 35, 3) := by decide +kernel
theorem d_M_front_78 : decode b_M_front 78 = .ok (.iload_n 2, 1) := by decide +kernel
theorem d_M_front_79 : decode b_M_front 79 = .ok (.iaload, 1) := by decide +kernel
theorem d_M_front_80 : decode b_M_front 80 = .ok (.if_icmp .ne 9, 3) := by decide +kernel
theorem d_M_front_83 : decode b_M_front 83 = .ok (.iinc 2 1, 3) := by decide +kernel
theorem d_M_front_86 : decode b_M_front 86 = .ok (.goto (-36), 3) := by decide +kernel
theorem d_M_front_89 : decode b_M_front 89 = .ok (.iload_n 2, 1) := by decide +kernel
theorem d_M_front_90 : decode b_M_front 90 = .ok (.aload_n 0, 1) := by decide +kernel
theorem d_M_front_91 : decode b_M_front 91 = .ok (.getfield 102, 3) := by decide +kernel
theorem d_M_front_94 : decode b_M_front 94 = .ok (.if_icmp .ge 17, 3) := by decide +kernel
theorem d_M_front_97 : decode b_M_front 97 = .ok (.bipush 16, 2) := by decide +kernel
theorem d_M_front_99 : decode b_M_front 99 = .ok (.iload_n 2, 1) := by decide +kernel
theorem d_M_front_100 : decode b_M_front 100 = .ok (.imul, 1) := by decide +kernel
theorem d_M_front_101 : decode b_M_front 101 = .ok (.aload_n 0, 1) := by decide +kernel
theorem d_M_front_102 : decode b_M_front 102 = .ok (.getfield 38, 3) := by decide +kernel
theorem d_M_front_105 : decode b_M_front 105 = .ok (.iload_n 2, 1) := by decide +kernel
theorem d_M_front_106 : decode b_M_front 106 = .ok (.iaload, 1) := by decide +kernel
theorem d_M_front_107 : decode b_M_front 107 = .ok (.iadd, 1) := by decide +kernel
theorem d_M_front_108 : decode b_M_front 108 = .ok (.goto 4, 3) := by decide +kernel
theorem d_M_front_111 : decode b_M_front 111 = .ok (.iconst (-1), 1) := by decide +kernel
theorem d_M_front_112 : decode b_M_front 112 = .ok (.ireturn, 1) := by decide +kernel
theorem d_M_take_0 : decode b_M_take 0 = .ok (.iload_n 1, 1) := by decide +kernel
theorem d_M_take_1 : decode b_M_take 1 = .ok (.bipush 16, 2) := by decide +kernel
theorem d_M_take_3 : decode b_M_take 3 = .ok (.if_icmp .ge 17, 3) := by decide +kernel
theorem d_M_take_6 : decode b_M_take 6 = .ok (.aload_n 0, 1) := by decide +kernel
theorem d_M_take_7 : decode b_M_take 7 = .ok (.getfield 38, 3) := by decide +kernel
theorem d_M_take_10 : decode b_M_take 10 = .ok (.iload_n 2, 1) := by decide +kernel
theorem d_M_take_11 : decode b_M_take 11 = .ok (.bipush 16, 2) := by decide +kernel
theorem d_M_take_13 : decode b_M_take 13 = .ok (.idiv, 1) := by decide +kernel
theorem d_M_take_14 : decode b_M_take 14 = .ok (.dup2, 1) := by decide +kernel
theorem d_M_take_15 : decode b_M_take 15 = .ok (.iaload, 1) := by decide +kernel
theorem d_M_take_16 : decode b_M_take 16 = .ok (.iconst 1, 1) := by decide +kernel
theorem d_M_take_17 : decode b_M_take 17 = .ok (.iadd, 1) := by decide +kernel
theorem d_M_take_18 : decode b_M_take 18 = .ok (.iastore, 1) := by decide +kernel
theorem d_M_take_19 : decode b_M_take 19 = .ok (.return_, 1) := by decide +kernel
theorem d_M_take_20 : decode b_M_take 20 = .ok (.iload_n 1, 1) := by decide +kernel
theorem d_M_take_21 : decode b_M_take 21 = .ok (.bipush 16, 2) := by decide +kernel
theorem d_M_take_23 : decode b_M_take 23 = .ok (.isub, 1) := by decide +kernel
theorem d_M_take_24 : decode b_M_take 24 = .ok (.istore_n 3, 1) := by decide +kernel
theorem d_M_take_25 : decode b_M_take 25 = .ok (.aload_n 0, 1) := by decide +kernel
theorem d_M_take_26 : decode b_M_take 26 = .ok (.getfield 47, 3) := by decide +kernel
theorem d_M_take_29 : decode b_M_take 29 = .ok (.iload_n 3, 1) := by decide +kernel
theorem d_M_take_30 : decode b_M_take 30 = .ok (.dup2, 1) := by decide +kernel
theorem d_M_take_31 : decode b_M_take 31 = .ok (.iaload, 1) := by decide +kernel
theorem d_M_take_32 : decode b_M_take 32 = .ok (.iconst 1, 1) := by decide +kernel
theorem d_M_take_33 : decode b_M_take 33 = .ok (.isub, 1) := by decide +kernel
theorem d_M_take_34 : decode b_M_take 34 = .ok (.iastore, 1) := by decide +kernel
theorem d_M_take_35 : decode b_M_take 35 = .ok (.iconst 0, 1) := by decide +kernel
theorem d_M_take_36 : decode b_M_take 36 = .ok (.istore 4, 2) := by decide +kernel
theorem d_M_take_38 : decode b_M_take 38 = .ok (.iload 4, 2) := by decide +kernel
theorem d_M_take_40 : decode b_M_take 40 = .ok (.aload_n 0, 1) := by decide +kernel
theorem d_M_take_41 : decode b_M_take 41 = .ok (.getfield 47, 3) := by decide +kernel
theorem d_M_take_44 : decode b_M_take 44 = .ok (.iload_n 3, 1) := by decide +kernel
theorem d_M_take_45 : decode b_M_take 45 = .ok (.iaload, 1) := by decide +kernel
theorem d_M_take_46 : decode b_M_take 46 = .ok (.if_icmp .ge 57, 3) := by decide +kernel
theorem d_M_take_49 : decode b_M_take 49 = .ok (.aload_n 0, 1) := by decide +kernel
theorem d_M_take_50 : decode b_M_take 50 = .ok (.getfield 50, 3) := by decide +kernel
theorem d_M_take_53 : decode b_M_take 53 = .ok (.iconst 4, 1) := by decide +kernel
theorem d_M_take_54 : decode b_M_take 54 = .ok (.iload_n 3, 1) := by decide +kernel
theorem d_M_take_55 : decode b_M_take 55 = .ok (.imul, 1) := by decide +kernel
theorem d_M_take_56 : decode b_M_take 56 = .ok (.iload 4, 2) := by decide +kernel
theorem d_M_take_58 : decode b_M_take 58 = .ok (.iadd, 1) := by decide +kernel
theorem d_M_take_59 : decode b_M_take 59 = .ok (.aload_n 0, 1) := by decide +kernel
theorem d_M_take_60 : decode b_M_take 60 = .ok (.getfield 50, 3) := by decide +kernel
theorem d_M_take_63 : decode b_M_take 63 = .ok (.iconst 4, 1) := by decide +kernel
theorem d_M_take_64 : decode b_M_take 64 = .ok (.iload_n 3, 1) := by decide +kernel
theorem d_M_take_65 : decode b_M_take 65 = .ok (.imul, 1) := by decide +kernel
theorem d_M_take_66 : decode b_M_take 66 = .ok (.iload 4, 2) := by decide +kernel
theorem d_M_take_68 : decode b_M_take 68 = .ok (.iadd, 1) := by decide +kernel
theorem d_M_take_69 : decode b_M_take 69 = .ok (.iconst 1, 1) := by decide +kernel
theorem d_M_take_70 : decode b_M_take 70 = .ok (.iadd, 1) := by decide +kernel
theorem d_M_take_71 : decode b_M_take 71 = .ok (.iaload, 1) := by decide +kernel
theorem d_M_take_72 : decode b_M_take 72 = .ok (.iastore, 1) := by decide +kernel
theorem d_M_take_73 : decode b_M_take 73 = .ok (.aload_n 0, 1) := by decide +kernel
theorem d_M_take_74 : decode b_M_take 74 = .ok (.getfield 53, 3) := by decide +kernel
theorem d_M_take_77 : decode b_M_take 77 = .ok (.iconst 4, 1) := by decide +kernel
theorem d_M_take_78 : decode b_M_take 78 = .ok (.iload_n 3, 1) := by decide +kernel
theorem d_M_take_79 : decode b_M_take 79 = .ok (.imul, 1) := by decide +kernel
theorem d_M_take_80 : decode b_M_take 80 = .ok (.iload 4, 2) := by decide +kernel
theorem d_M_take_82 : decode b_M_take 82 = .ok (.iadd, 1) := by decide +kernel
theorem d_M_take_83 : decode b_M_take 83 = .ok (.aload_n 0, 1) := by decide +kernel
theorem d_M_take_84 : decode b_M_take 84 = .ok (.getfield 53, 3) := by decide +kernel
theorem d_M_take_87 : decode b_M_take 87 = .ok (.iconst 4, 1) := by decide +kernel
theorem d_M_take_88 : decode b_M_take 88 = .ok (.iload_n 3, 1) := by decide +kernel
theorem d_M_take_89 : decode b_M_take 89 = .ok (.imul, 1) := by decide +kernel
theorem d_M_take_90 : decode b_M_take 90 = .ok (.iload 4, 2) := by decide +kernel
theorem d_M_take_92 : decode b_M_take 92 = .ok (.iadd, 1) := by decide +kernel
theorem d_M_take_93 : decode b_M_take 93 = .ok (.iconst 1, 1) := by decide +kernel
theorem d_M_take_94 : decode b_M_take 94 = .ok (.iadd, 1) := by decide +kernel
theorem d_M_take_95 : decode b_M_take 95 = .ok (.iaload, 1) := by decide +kernel
theorem d_M_take_96 : decode b_M_take 96 = .ok (.iastore, 1) := by decide +kernel
theorem d_M_take_97 : decode b_M_take 97 = .ok (.iinc 4 1, 3) := by decide +kernel
theorem d_M_take_100 : decode b_M_take 100 = .ok (.goto (-62), 3) := by decide +kernel
theorem d_M_take_103 : decode b_M_take 103 = .ok (.return_, 1) := by decide +kernel
theorem d_M_nodeOf_0 : decode b_M_nodeOf 0 = .ok (.iload_n 1, 1) := by decide +kernel
theorem d_M_nodeOf_1 : decode b_M_nodeOf 1 = .ok (.bipush 16, 2) := by decide +kernel
theorem d_M_nodeOf_3 : decode b_M_nodeOf 3 = .ok (.if_icmp .ge 7, 3) := by decide +kernel
theorem d_M_nodeOf_6 : decode b_M_nodeOf 6 = .ok (.iload_n 1, 1) := by decide +kernel
theorem d_M_nodeOf_7 : decode b_M_nodeOf 7 = .ok (.goto 14, 3) := by decide +kernel
theorem d_M_nodeOf_10 : decode b_M_nodeOf 10 = .ok (.aload_n 0, 1) := by decide +kernel
theorem d_M_nodeOf_11 : decode b_M_nodeOf 11 = .ok (.getfield 13, 3) := by decide +kernel
theorem d_M_nodeOf_14 : decode b_M_nodeOf 14 = .ok (.iload_n 1, 1) := by decide +kernel
theorem d_M_nodeOf_15 : decode b_M_nodeOf 15 = .ok (.bipush 16, 2) := by decide +kernel
theorem d_M_nodeOf_17 : decode b_M_nodeOf 17 = .ok (.isub, 1) := by decide +kernel
theorem d_M_nodeOf_18 : decode b_M_nodeOf 18 = .ok (.iconst 4, 1) := by decide +kernel
theorem d_M_nodeOf_19 : decode b_M_nodeOf 19 = .ok (.idiv, 1) := by decide +kernel
theorem d_M_nodeOf_20 : decode b_M_nodeOf 20 = .ok (.iaload, 1) := by decide +kernel
theorem d_M_nodeOf_21 : decode b_M_nodeOf 21 = .ok (.ireturn, 1) := by decide +kernel
theorem d_M_isInput_0 : decode b_M_isInput 0 = .ok (.iload_n 1, 1) := by decide +kernel
theorem d_M_isInput_1 : decode b_M_isInput 1 = .ok (.bipush 16, 2) := by decide +kernel
theorem d_M_isInput_3 : decode b_M_isInput 3 = .ok (.if_icmp .ge 16, 3) := by decide +kernel
theorem d_M_isInput_6 : decode b_M_isInput 6 = .ok (.iload_n 1, 1) := by decide +kernel
theorem d_M_isInput_7 : decode b_M_isInput 7 = .ok (.iload_n 2, 1) := by decide +kernel
theorem d_M_isInput_8 : decode b_M_isInput 8 = .ok (.if_icmp .ne 7, 3) := by decide +kernel
theorem d_M_isInput_11 : decode b_M_isInput 11 = .ok (.iconst 1, 1) := by decide +kernel
theorem d_M_isInput_12 : decode b_M_isInput 12 = .ok (.goto 32, 3) := by decide +kernel
theorem d_M_isInput_15 : decode b_M_isInput 15 = .ok (.iconst 0, 1) := by decide +kernel
theorem d_M_isInput_16 : decode b_M_isInput 16 = .ok (.goto 28, 3) := by decide +kernel
theorem d_M_isInput_19 : decode b_M_isInput 19 = .ok (.aload_n 0, 1) := by decide +kernel
theorem d_M_isInput_20 : decode b_M_isInput 20 = .ok (.iload_n 1, 1) := by decide +kernel
theorem d_M_isInput_21 : decode b_M_isInput 21 = .ok (.bipush 16, 2) := by decide +kernel
theorem d_M_isInput_23 : decode b_M_isInput 23 = .ok (.isub, 1) := by decide +kernel
theorem d_M_isInput_24 : decode b_M_isInput 24 = .ok (.invokevirtual 99, 3) := by decide +kernel
theorem d_M_isInput_27 : decode b_M_isInput 27 = .ok (.ifCond .eq 16, 3) := by decide +kernel
theorem d_M_isInput_30 : decode b_M_isInput 30 = .ok (.aload_n 0, 1) := by decide +kernel
theorem d_M_isInput_31 : decode b_M_isInput 31 = .ok (.iload_n 1, 1) := by decide +kernel
theorem d_M_isInput_32 : decode b_M_isInput 32 = .ok (.invokevirtual 119, 3) := by decide +kernel
theorem d_M_isInput_35 : decode b_M_isInput 35 = .ok (.iload_n 2, 1) := by decide +kernel
theorem d_M_isInput_36 : decode b_M_isInput 36 = .ok (.if_icmp .ne 7, 3) := by decide +kernel
theorem d_M_isInput_39 : decode b_M_isInput 39 = .ok (.iconst 1, 1) := by decide +kernel
theorem d_M_isInput_40 : decode b_M_isInput 40 = .ok (.goto 4, 3) := by decide +kernel
theorem d_M_isInput_43 : decode b_M_isInput 43 = .ok (.iconst 0, 1) := by decide +kernel
theorem d_M_isInput_44 : decode b_M_isInput 44 = .ok (.ireturn, 1) := by decide +kernel
theorem d_M_holds_0 : decode b_M_holds 0 = .ok (.iconst 0, 1) := by decide +kernel
theorem d_M_holds_1 : decode b_M_holds 1 = .ok (.istore_n 2, 1) := by decide +kernel
theorem d_M_holds_2 : decode b_M_holds 2 = .ok (.iconst 0, 1) := by decide +kernel
theorem d_M_holds_3 : decode b_M_holds 3 = .ok (.istore_n 3, 1) := by decide +kernel
theorem d_M_holds_4 : decode b_M_holds 4 = .ok (.iload_n 3, 1) := by decide +kernel
theorem d_M_holds_5 : decode b_M_holds 5 = .ok (.iconst 4, 1) := by decide +kernel
theorem d_M_holds_6 : decode b_M_holds 6 = .ok (.aload_n 0, 1) := by decide +kernel
theorem d_M_holds_7 : decode b_M_holds 7 = .ok (.getfield 88, 3) := by decide +kernel
theorem d_M_holds_10 : decode b_M_holds 10 = .ok (.imul, 1) := by decide +kernel
theorem d_M_holds_11 : decode b_M_holds 11 = .ok (.if_icmp .ge 29, 3) := by decide +kernel
theorem d_M_holds_14 : decode b_M_holds 14 = .ok (.iload_n 2, 1) := by decide +kernel
theorem d_M_holds_15 : decode b_M_holds 15 = .ok (.ifCond .ne 13, 3) := by decide +kernel
theorem d_M_holds_18 : decode b_M_holds 18 = .ok (.aload_n 0, 1) := by decide +kernel
theorem d_M_holds_19 : decode b_M_holds 19 = .ok (.getfield 59, 3) := by decide +kernel
theorem d_M_holds_22 : decode b_M_holds 22 = .ok (.iload_n 3, 1) := by decide +kernel
theorem d_M_holds_23 : decode b_M_holds 23 = .ok (.iaload, 1) := by decide +kernel
theorem d_M_holds_24 : decode b_M_holds 24 = .ok (.iload_n 1, 1) := by decide +kernel
theorem d_M_holds_25 : decode b_M_holds 25 = .ok (.if_icmp .ne 7, 3) := by decide +kernel
theorem d_M_holds_28 : decode b_M_holds 28 = .ok (.iconst 1, 1) := by decide +kernel
theorem d_M_holds_29 : decode b_M_holds 29 = .ok (.goto 4, 3) := by decide +kernel
theorem d_M_holds_32 : decode b_M_holds 32 = .ok (.iconst 0, 1) := by decide +kernel
theorem d_M_holds_33 : decode b_M_holds 33 = .ok (.istore_n 2, 1) := by decide +kernel
theorem d_M_holds_34 : decode b_M_holds 34 = .ok (.iinc 3 1, 3) := by decide +kernel
theorem d_M_holds_37 : decode b_M_holds 37 = .ok (.goto (-33), 3) := by decide +kernel
