theorem d_CN_node_0 : decode b_CN_node 0 = .ok (.aload_n 0, 1) := by decide +kernel
theorem d_CN_node_1 : decode b_CN_node 1 = .ok (.getfield 16, 3) := by decide +kernel
theorem d_CN_node_4 : decode b_CN_node 4 = .ok (.getfield 54, 3) := by decide +kernel
theorem d_CN_node_7 : decode b_CN_node 7 = .ok (.bipush 16, 2) := by decide +kernel
theorem d_CN_node_9 : decode b_CN_node 9 = .ok (.if_icmp .lt 13, 3) := by decide +kernel
theorem d_CN_node_12 : decode b_CN_node 12 = .ok (.new 57, 3) := by decide +kernel
theorem d_CN_node_15 : decode b_CN_node 15 = .ok (.dup, 1) := by decide +kernel
theorem d_CN_node_16 : decode b_CN_node 16 = .ok (.ldc 59, 2) := by decide +kernel
theorem d_CN_node_18 : decode b_CN_node 18 = .ok (.invokespecial 61, 3) := by decide +kernel
theorem d_CN_node_21 : decode b_CN_node 21 = .ok (.athrow, 1) := by decide +kernel
theorem d_CN_node_22 : decode b_CN_node 22 = .ok (.aload_n 0, 1) := by decide +kernel
theorem d_CN_node_23 : decode b_CN_node 23 = .ok (.getfield 16, 3) := by decide +kernel
theorem d_CN_node_26 : decode b_CN_node 26 = .ok (.dup, 1) := by decide +kernel
theorem d_CN_node_27 : decode b_CN_node 27 = .ok (.getfield 54, 3) := by decide +kernel
theorem d_CN_node_30 : decode b_CN_node 30 = .ok (.iconst 1, 1) := by decide +kernel
theorem d_CN_node_31 : decode b_CN_node 31 = .ok (.iadd, 1) := by decide +kernel
theorem d_CN_node_32 : decode b_CN_node 32 = .ok (.putfield 54, 3) := by decide +kernel
theorem d_CN_node_35 : decode b_CN_node 35 = .ok (.aload_n 0, 1) := by decide +kernel
theorem d_CN_node_36 : decode b_CN_node 36 = .ok (.getfield 16, 3) := by decide +kernel
theorem d_CN_node_39 : decode b_CN_node 39 = .ok (.getfield 54, 3) := by decide +kernel
theorem d_CN_node_42 : decode b_CN_node 42 = .ok (.iconst 1, 1) := by decide +kernel
theorem d_CN_node_43 : decode b_CN_node 43 = .ok (.isub, 1) := by decide +kernel
theorem d_CN_node_44 : decode b_CN_node 44 = .ok (.ireturn, 1) := by decide +kernel
theorem d_CP_hasNode_0 : decode b_CP_hasNode 0 = .ok (.iload_n 1, 1) := by decide +kernel
theorem d_CP_hasNode_1 : decode b_CP_hasNode 1 = .ok (.ifCond .lt 15, 3) := by decide +kernel
theorem d_CP_hasNode_4 : decode b_CP_hasNode 4 = .ok (.iload_n 1, 1) := by decide +kernel
theorem d_CP_hasNode_5 : decode b_CP_hasNode 5 = .ok (.aload_n 0, 1) := by decide +kernel
theorem d_CP_hasNode_6 : decode b_CP_hasNode 6 = .ok (.getfield 37, 3) := by decide +kernel
theorem d_CP_hasNode_9 : decode b_CP_hasNode 9 = .ok (.if_icmp .ge 7, 3) := by decide +kernel
theorem d_CP_hasNode_12 : decode b_CP_hasNode 12 = .ok (.iconst 1, 1) := by decide +kernel
theorem d_CP_hasNode_13 : decode b_CP_hasNode 13 = .ok (.goto 4, 3) := by decide +kernel
theorem d_CP_hasNode_16 : decode b_CP_hasNode 16 = .ok (.iconst 0, 1) := by decide +kernel
theorem d_CP_hasNode_17 : decode b_CP_hasNode 17 = .ok (.ireturn, 1) := by decide +kernel
theorem d_CP_hasTwoNodes_0 : decode b_CP_hasTwoNodes 0 = .ok (.aload_n 0, 1) := by decide +kernel
theorem d_CP_hasTwoNodes_1 : decode b_CP_hasTwoNodes 1 = .ok (.iload_n 1, 1) := by decide +kernel
theorem d_CP_hasTwoNodes_2 : decode b_CP_hasTwoNodes 2 = .ok (.invokevirtual 41, 3) := by decide +kernel
theorem d_CP_hasTwoNodes_5 : decode b_CP_hasTwoNodes 5 = .ok (.ifCond .eq 20, 3) := by decide +kernel
theorem d_CP_hasTwoNodes_8 : decode b_CP_hasTwoNodes 8 = .ok (.aload_n 0, 1) := by decide +kernel
theorem d_CP_hasTwoNodes_9 : decode b_CP_hasTwoNodes 9 = .ok (.iload_n 2, 1) := by decide +kernel
theorem d_CP_hasTwoNodes_10 : decode b_CP_hasTwoNodes 10 = .ok (.invokevirtual 41, 3) := by decide +kernel
theorem d_CP_hasTwoNodes_13 : decode b_CP_hasTwoNodes 13 = .ok (.ifCond .eq 12, 3) := by decide +kernel
theorem d_CP_hasTwoNodes_16 : decode b_CP_hasTwoNodes 16 = .ok (.iload_n 1, 1) := by decide +kernel
theorem d_CP_hasTwoNodes_17 : decode b_CP_hasTwoNodes 17 = .ok (.iload_n 2, 1) := by decide +kernel
theorem d_CP_hasTwoNodes_18 : decode b_CP_hasTwoNodes 18 = .ok (.if_icmp .eq 7, 3) := by decide +kernel
theorem d_CP_hasTwoNodes_21 : decode b_CP_hasTwoNodes 21 = .ok (.iconst 1, 1) := by decide +kernel
theorem d_CP_hasTwoNodes_22 : decode b_CP_hasTwoNodes 22 = .ok (.goto 4, 3) := by decide +kernel
theorem d_CP_hasTwoNodes_25 : decode b_CP_hasTwoNodes 25 = .ok (.iconst 0, 1) := by decide +kernel
theorem d_CP_hasTwoNodes_26 : decode b_CP_hasTwoNodes 26 = .ok (.ireturn, 1) := by decide +kernel
theorem d_CP_addLink_0 : decode b_CP_addLink 0 = .ok (.aload_n 0, 1) := by decide +kernel
theorem d_CP_addLink_1 : decode b_CP_addLink 1 = .ok (.getfield 45, 3) := by decide +kernel
theorem d_CP_addLink_4 : decode b_CP_addLink 4 = .ok (.istore 4, 2) := by decide +kernel
theorem d_CP_addLink_6 : decode b_CP_addLink 6 = .ok (.aload_n 0, 1) := by decide +kernel
theorem d_CP_addLink_7 : decode b_CP_addLink 7 = .ok (.getfield 9, 3) := by decide +kernel
theorem d_CP_addLink_10 : decode b_CP_addLink 10 = .ok (.iload 4, 2) := by decide +kernel
theorem d_CP_addLink_12 : decode b_CP_addLink 12 = .ok (.iload_n 1, 1) := by decide +kernel
theorem d_CP_addLink_13 : decode b_CP_addLink 13 = .ok (.iastore, 1) := by decide +kernel
theorem d_CP_addLink_14 : decode b_CP_addLink 14 = .ok (.aload_n 0, 1) := by decide +kernel
theorem d_CP_addLink_15 : decode b_CP_addLink 15 = .ok (.getfield 15, 3) := by decide +kernel
theorem d_CP_addLink_18 : decode b_CP_addLink 18 = .ok (.iload 4, 2) := by decide +kernel
theorem d_CP_addLink_20 : decode b_CP_addLink 20 = .ok (.iload_n 2, 1) := by decide +kernel
theorem d_CP_addLink_21 : decode b_CP_addLink 21 = .ok (.iastore, 1) := by decide +kernel
theorem d_CP_addLink_22 : decode b_CP_addLink 22 = .ok (.aload_n 0, 1) := by decide +kernel
theorem d_CP_addLink_23 : decode b_CP_addLink 23 = .ok (.getfield 18, 3) := by decide +kernel
theorem d_CP_addLink_26 : decode b_CP_addLink 26 = .ok (.iload 4, 2) := by decide +kernel
theorem d_CP_addLink_28 : decode b_CP_addLink 28 = .ok (.iload_n 3, 1) := by decide +kernel
theorem d_CP_addLink_29 : decode b_CP_addLink 29 = .ok (.iastore, 1) := by decide +kernel
theorem d_CP_addLink_30 : decode b_CP_addLink 30 = .ok (.aload_n 0, 1) := by decide +kernel
theorem d_CP_addLink_31 : decode b_CP_addLink 31 = .ok (.dup, 1) := by decide +kernel
theorem d_CP_addLink_32 : decode b_CP_addLink 32 = .ok (.getfield 45, 3) := by decide +kernel
theorem d_CP_addLink_35 : decode b_CP_addLink 35 = .ok (.iconst 1, 1) := by decide +kernel
theorem d_CP_addLink_36 : decode b_CP_addLink 36 = .ok (.iadd, 1) := by decide +kernel
theorem d_CP_addLink_37 : decode b_CP_addLink 37 = .ok (.putfield 45, 3) := by decide +kernel
theorem d_CP_addLink_40 : decode b_CP_addLink 40 = .ok (.iload 4, 2) := by decide +kernel
theorem d_CP_addLink_42 : decode b_CP_addLink 42 = .ok (.ireturn, 1) := by decide +kernel
theorem d_CN_link_0 : decode b_CN_link 0 = .ok (.aload_n 0, 1) := by decide +kernel
theorem d_CN_link_1 : decode b_CN_link 1 = .ok (.getfield 16, 3) := by decide +kernel
theorem d_CN_link_4 : decode b_CN_link 4 = .ok (.iload_n 1, 1) := by decide +kernel
theorem d_CN_link_5 : decode b_CN_link 5 = .ok (.iload_n 2, 1) := by decide +kernel
theorem d_CN_link_6 : decode b_CN_link 6 = .ok (.invokevirtual 64, 3) := by decide +kernel
theorem d_CN_link_9 : decode b_CN_link 9 = .ok (.ifCond .ne 13, 3) := by decide +kernel
theorem d_CN_link_12 : decode b_CN_link 12 = .ok (.new 68, 3) := by decide +kernel
theorem d_CN_link_15 : decode b_CN_link 15 = .ok (.dup, 1) := by decide +kernel
theorem d_CN_link_16 : decode b_CN_link 16 = .ok (.ldc 70, 2) := by decide +kernel
theorem d_CN_link_18 : decode b_CN_link 18 = .ok (.invokespecial 72, 3) := by decide +kernel
theorem d_CN_link_21 : decode b_CN_link 21 = .ok (.athrow, 1) := by decide +kernel
theorem d_CN_link_22 : decode b_CN_link 22 = .ok (.iload_n 3, 1) := by decide +kernel
theorem d_CN_link_23 : decode b_CN_link 23 = .ok (.iconst 1, 1) := by decide +kernel
theorem d_CN_link_24 : decode b_CN_link 24 = .ok (.if_icmp .lt 8, 3) := by decide +kernel
theorem d_CN_link_27 : decode b_CN_link 27 = .ok (.iload_n 3, 1) := by decide +kernel
theorem d_CN_link_28 : decode b_CN_link 28 = .ok (.iconst 4, 1) := by decide +kernel
theorem d_CN_link_29 : decode b_CN_link 29 = .ok (.if_icmp .le 13, 3) := by decide +kernel
theorem d_CN_link_32 : decode b_CN_link 32 = .ok (.new 68, 3) := by decide +kernel
theorem d_CN_link_35 : decode b_CN_link 35 = .ok (.dup, 1) := by decide +kernel
theorem d_CN_link_36 : decode b_CN_link 36 = .ok (.ldc 73, 2) := by decide +kernel
theorem d_CN_link_38 : decode b_CN_link 38 = .ok (.invokespecial 72, 3) := by decide +kernel
theorem d_CN_link_41 : decode b_CN_link 41 = .ok (.athrow, 1) := by decide +kernel
theorem d_CN_link_42 : decode b_CN_link 42 = .ok (.aload_n 0, 1) := by decide +kernel
theorem d_CN_link_43 : decode b_CN_link 43 = .ok (.getfield 16, 3) := by decide +kernel
theorem d_CN_link_46 : decode b_CN_link 46 = .ok (.getfield 75, 3) := by decide +kernel
theorem d_CN_link_49 : decode b_CN_link 49 = .ok (.bipush 40, 2) := by decide +kernel
theorem d_CN_link_51 : decode b_CN_link 51 = .ok (.if_icmp .lt 13, 3) := by decide +kernel
theorem d_CN_link_54 : decode b_CN_link 54 = .ok (.new 57, 3) := by decide +kernel
theorem d_CN_link_57 : decode b_CN_link 57 = .ok (.dup, 1) := by decide +kernel
theorem d_CN_link_58 : decode b_CN_link 58 = .ok (.ldc 78, 2) := by decide +kernel
theorem d_CN_link_60 : decode b_CN_link 60 = .ok (.invokespecial 61, 3) := by decide +kernel
theorem d_CN_link_63 : decode b_CN_link 63 = .ok (.athrow, 1) := by decide +kernel
theorem d_CN_link_64 : decode b_CN_link 64 = .ok (.aload_n 0, 1) := by decide +kernel
theorem d_CN_link_65 : decode b_CN_link 65 = .ok (.getfield 16, 3) := by decide +kernel
theorem d_CN_link_68 : decode b_CN_link 68 = .ok (.iload_n 1, 1) := by decide +kernel
theorem d_CN_link_69 : decode b_CN_link 69 = .ok (.iload_n 2, 1) := by decide +kernel
theorem d_CN_link_70 : decode b_CN_link 70 = .ok (.iload_n 3, 1) := by decide +kernel
theorem d_CN_link_71 : decode b_CN_link 71 = .ok (.invokevirtual 80, 3) := by decide +kernel
theorem d_CN_link_74 : decode b_CN_link 74 = .ok (.ireturn, 1) := by decide +kernel
theorem d_CP_wayAt_0 : decode b_CP_wayAt 0 = .ok (.aload_n 0, 1) := by decide +kernel
theorem d_CP_wayAt_1 : decode b_CP_wayAt 1 = .ok (.getfield 25, 3) := by decide +kernel
theorem d_CP_wayAt_4 : decode b_CP_wayAt 4 = .ok (.iload_n 1, 1) := by decide +kernel
theorem d_CP_wayAt_5 : decode b_CP_wayAt 5 = .ok (.bipush 16, 2) := by decide +kernel
theorem d_CP_wayAt_7 : decode b_CP_wayAt 7 = .ok (.imul, 1) := by decide +kernel
theorem d_CP_wayAt_8 : decode b_CP_wayAt 8 = .ok (.iload_n 2, 1) := by decide +kernel
theorem d_CP_wayAt_9 : decode b_CP_wayAt 9 = .ok (.iadd, 1) := by decide +kernel
theorem d_CP_wayAt_10 : decode b_CP_wayAt 10 = .ok (.iaload, 1) := by decide +kernel
theorem d_CP_wayAt_11 : decode b_CP_wayAt 11 = .ok (.ireturn, 1) := by decide +kernel
theorem d_CP_changeWay_0 : decode b_CP_changeWay 0 = .ok (.aload_n 0, 1) := by decide +kernel
theorem d_CP_changeWay_1 : decode b_CP_changeWay 1 = .ok (.getfield 25, 3) := by decide +kernel
theorem d_CP_changeWay_4 : decode b_CP_changeWay 4 = .ok (.iload_n 1, 1) := by decide +kernel
theorem d_CP_changeWay_5 : decode b_CP_changeWay 5 = .ok (.bipush 16, 2) := by decide +kernel
theorem d_CP_changeWay_7 : decode b_CP_changeWay 7 = .ok (.imul, 1) := by decide +kernel
theorem d_CP_changeWay_8 : decode b_CP_changeWay 8 = .ok (.iload_n 2, 1) := by decide +kernel
theorem d_CP_changeWay_9 : decode b_CP_changeWay 9 = .ok (.iadd, 1) := by decide +kernel
theorem d_CP_changeWay_10 : decode b_CP_changeWay 10 = .ok (.iload_n 3, 1) := by decide +kernel
theorem d_CP_changeWay_11 : decode b_CP_changeWay 11 = .ok (.iastore, 1) := by decide +kernel
theorem d_CP_changeWay_12 : decode b_CP_changeWay 12 = .ok (.return_, 1) := by decide +kernel
theorem d_CP_hasLink_0 : decode b_CP_hasLink 0 = .ok (.iload_n 1, 1) := by decide +kernel
theorem d_CP_hasLink_1 : decode b_CP_hasLink 1 = .ok (.ifCond .lt 15, 3) := by decide +kernel
theorem d_CP_hasLink_4 : decode b_CP_hasLink 4 = .ok (.iload_n 1, 1) := by decide +kernel
theorem d_CP_hasLink_5 : decode b_CP_hasLink 5 = .ok (.aload_n 0, 1) := by decide +kernel
theorem d_CP_hasLink_6 : decode b_CP_hasLink 6 = .ok (.getfield 45, 3) := by decide +kernel
theorem d_CP_hasLink_9 : decode b_CP_hasLink 9 = .ok (.if_icmp .ge 7, 3) := by decide +kernel
theorem d_CP_hasLink_12 : decode b_CP_hasLink 12 = .ok (.iconst 1, 1) := by decide +kernel
theorem d_CP_hasLink_13 : decode b_CP_hasLink 13 = .ok (.goto 4, 3) := by decide +kernel
theorem d_CP_hasLink_16 : decode b_CP_hasLink 16 = .ok (.iconst 0, 1) := by decide +kernel
theorem d_CP_hasLink_17 : decode b_CP_hasLink 17 = .ok (.ireturn, 1) := by decide +kernel
theorem d_CP_hasChannel_0 : decode b_CP_hasChannel 0 = .ok (.iload_n 1, 1) := by decide +kernel
theorem d_CP_hasChannel_1 : decode b_CP_hasChannel 1 = .ok (.ifCond .lt 31, 3) := by decide +kernel
theorem d_CP_hasChannel_4 : decode b_CP_hasChannel 4 = .ok (.aload_n 0, 1) := by decide +kernel
theorem d_CP_hasChannel_5 : decode b_CP_hasChannel 5 = .ok (.iload_n 1, 1) := by decide +kernel
theorem d_CP_hasChannel_6 : decode b_CP_hasChannel 6 = .ok (.iconst 4, 1) := by decide +kernel
theorem d_CP_hasChannel_7 : decode b_CP_hasChannel 7 = .ok (.idiv, 1) := by decide +kernel
theorem d_CP_hasChannel_8 : decode b_CP_hasChannel 8 = .ok (.invokevirtual 48, 3) := by decide +kernel
theorem d_CP_hasChannel_11 : decode b_CP_hasChannel 11 = .ok (.ifCond .eq 21, 3) := by decide +kernel
theorem d_CP_hasChannel_14 : decode b_CP_hasChannel 14 = .ok (.iload_n 1, 1) := by decide +kernel
theorem d_CP_hasChannel_15 : decode b_CP_hasChannel 15 = .ok (.iconst 4, 1) := by decide +kernel
theorem d_CP_hasChannel_16 : decode b_CP_hasChannel 16 = .ok (.irem, 1) := by decide +kernel
theorem d_CP_hasChannel_17 : decode b_CP_hasChannel 17 = .ok (.aload_n 0, 1) := by decide +kernel
theorem d_CP_hasChannel_18 : decode b_CP_hasChannel 18 = .ok (.getfield 18, 3) := by decide +kernel
theorem d_CP_hasChannel_21 : decode b_CP_hasChannel 21 = .ok (.iload_n 1, 1) := by decide +kernel
theorem d_CP_hasChannel_22 : decode b_CP_hasChannel 22 = .ok (.iconst 4, 1) := by decide +kernel
theorem d_CP_hasChannel_23 : decode b_CP_hasChannel 23 = .ok (.idiv, 1) := by decide +kernel
theorem d_CP_hasChannel_24 : decode b_CP_hasChannel 24 = .ok (.iaload, 1) := by decide +kernel
theorem d_CP_hasChannel_25 : decode b_CP_hasChannel 25 = .ok (.if_icmp .ge 7, 3) := by decide +kernel
theorem d_CP_hasChannel_28 : decode b_CP_hasChannel 28 = .ok (.iconst 1, 1) := by decide +kernel
theorem d_CP_hasChannel_29 : decode b_CP_hasChannel 29 = .ok (.goto 4, 3) := by decide +kernel
theorem d_CP_hasChannel_32 : decode b_CP_hasChannel 32 = .ok (.iconst 0, 1) := by decide +kernel
theorem d_CP_hasChannel_33 : decode b_CP_hasChannel 33 = .ok (.ireturn, 1) := by decide +kernel
theorem d_CP_beginOf_0 : decode b_CP_beginOf 0 = .ok (.aload_n 0, 1) := by decide +kernel
theorem d_CP_beginOf_1 : decode b_CP_beginOf 1 = .ok (.getfield 9, 3) := by decide +kernel
theorem d_CP_beginOf_4 : decode b_CP_beginOf 4 = .ok (.iload_n 1, 1) := by decide +kernel
theorem d_CP_beginOf_5 : decode b_CP_beginOf 5 = .ok (.iconst 4, 1) := by decide +kernel
theorem d_CP_beginOf_6 : decode b_CP_beginOf 6 = .ok (.idiv, 1) := by decide +kernel
theorem d_CP_beginOf_7 : decode b_CP_beginOf 7 = .ok (.iaload, 1) := by decide +kernel
theorem d_CP_beginOf_8 : decode b_CP_beginOf 8 = .ok (.ireturn, 1) := by decide +kernel
theorem d_CP_canBeTaken_0 : decode b_CP_canBeTaken 0 = .ok (.aload_n 0, 1) := by decide +kernel
theorem d_CP_canBeTaken_1 : decode b_CP_canBeTaken 1 = .ok (.iload_n 2, 1) := by decide +kernel
theorem d_CP_canBeTaken_2 : decode b_CP_canBeTaken 2 = .ok (.invokevirtual 51, 3) := by decide +kernel
theorem d_CP_canBeTaken_5 : decode b_CP_canBeTaken 5 = .ok (.ifCond .eq 27, 3) := by decide +kernel
theorem d_CP_canBeTaken_8 : decode b_CP_canBeTaken 8 = .ok (.aload_n 0, 1) := by decide +kernel
theorem d_CP_canBeTaken_9 : decode b_CP_canBeTaken 9 = .ok (.iload_n 2, 1) := by decide +kernel
theorem d_CP_canBeTaken_10 : decode b_CP_canBeTaken 10 = .ok (.invokevirtual 54, 3) := by decide +kernel
theorem d_CP_canBeTaken_13 : decode b_CP_canBeTaken 13 = .ok (.iload_n 1, 1) := by decide +kernel
theorem d_CP_canBeTaken_14 : decode b_CP_canBeTaken 14 = .ok (.if_icmp .ne 18, 3) := by decide +kernel
theorem d_CP_canBeTaken_17 : decode b_CP_canBeTaken 17 = .ok (.aload_n 0, 1) := by decide +kernel
theorem d_CP_canBeTaken_18 : decode b_CP_canBeTaken 18 = .ok (.getfield 21, 3) := by decide +kernel
theorem d_CP_canBeTaken_21 : decode b_CP_canBeTaken 21 = .ok (.iload_n 2, 1) := by decide +kernel
theorem d_CP_canBeTaken_22 : decode b_CP_canBeTaken 22 = .ok (.iconst 4, 1) := by decide +kernel
theorem d_CP_canBeTaken_23 : decode b_CP_canBeTaken 23 = .ok (.idiv, 1) := by decide +kernel
theorem d_CP_canBeTaken_24 : decode b_CP_canBeTaken 24 = .ok (.baload, 1) := by decide +kernel
theorem d_CP_canBeTaken_25 : decode b_CP_canBeTaken 25 = .ok (.ifCond .ne 7, 3) := by decide +kernel
theorem d_CP_canBeTaken_28 : decode b_CP_canBeTaken 28 = .ok (.iconst 1, 1) := by decide +kernel
theorem d_CP_canBeTaken_29 : decode b_CP_canBeTaken 29 = .ok (.goto 4, 3) := by decide +kernel
theorem d_CP_canBeTaken_32 : decode b_CP_canBeTaken 32 = .ok (.iconst 0, 1) := by decide +kernel
theorem d_CP_canBeTaken_33 : decode b_CP_canBeTaken 33 = .ok (.ireturn, 1) := by decide +kernel
theorem d_CN_route_0 : decode b_CN_route 0 = .ok (.aload_n 0, 1) := by decide +kernel
theorem d_CN_route_1 : decode b_CN_route 1 = .ok (.getfield 16, 3) := by decide +kernel
theorem d_CN_route_4 : decode b_CN_route 4 = .ok (.iload_n 1, 1) := by decide +kernel
theorem d_CN_route_5 : decode b_CN_route 5 = .ok (.iload_n 2, 1) := by decide +kernel
theorem d_CN_route_6 : decode b_CN_route 6 = .ok (.invokevirtual 64, 3) := by decide +kernel
theorem d_CN_route_9 : decode b_CN_route 9 = .ok (.ifCond .ne 13, 3) := by decide +kernel
theorem d_CN_route_12 : decode b_CN_route 12 = .ok (.new 68, 3) := by decide +kernel
theorem d_CN_route_15 : decode b_CN_route 15 = .ok (.dup, 1) := by decide +kernel
theorem d_CN_route_16 : decode b_CN_route 16 = .ok (.ldc 84, 2) := by decide +kernel
theorem d_CN_route_18 : decode b_CN_route 18 = .ok (.invokespecial 72, 3) := by decide +kernel
theorem d_CN_route_21 : decode b_CN_route 21 = .ok (.athrow, 1) := by decide +kernel
theorem d_CN_route_22 : decode b_CN_route 22 = .ok (.iload_n 3, 1) := by decide +kernel
theorem d_CN_route_23 : decode b_CN_route 23 = .ok (.iconst (-1), 1) := by decide +kernel
theorem d_CN_route_24 : decode b_CN_route 24 = .ok (.if_icmp .eq 25, 3) := by decide +kernel
theorem d_CN_route_27 : decode b_CN_route 27 = .ok (.aload_n 0, 1) := by decide +kernel
theorem d_CN_route_28 : decode b_CN_route 28 = .ok (.getfield 16, 3) := by decide +kernel
theorem d_CN_route_31 : decode b_CN_route 31 = .ok (.iload_n 1, 1) := by decide +kernel
theorem d_CN_route_32 : decode b_CN_route 32 = .ok (.iload_n 3, 1) := by decide +kernel
theorem d_CN_route_33 : decode b_CN_route 33 = .ok (.invokevirtual 86, 3) := by decide +kernel
theorem d_CN_route_36 : decode b_CN_route 36 = .ok (.ifCond .ne 13, 3) := by decide +kernel
theorem d_CN_route_39 : decode b_CN_route 39 = .ok (.new 68, 3) := by decide +kernel
theorem d_CN_route_42 : decode b_CN_route 42 = .ok (.dup, 1) := by decide +kernel
theorem d_CN_route_43 : decode b_CN_route 43 = .ok (.ldc 89, 2) := by decide +kernel
theorem d_CN_route_45 : decode b_CN_route 45 = .ok (.invokespecial 72, 3) := by decide +kernel
theorem d_CN_route_48 : decode b_CN_route 48 = .ok (.athrow, 1) := by decide +kernel
theorem d_CN_route_49 : decode b_CN_route 49 = .ok (.aload_n 0, 1) := by decide +kernel
theorem d_CN_route_50 : decode b_CN_route 50 = .ok (.getfield 16, 3) := by decide +kernel
theorem d_CN_route_53 : decode b_CN_route 53 = .ok (.iload_n 1, 1) := by decide +kernel
theorem d_CN_route_54 : decode b_CN_route 54 = .ok (.iload_n 2, 1) := by decide +kernel
theorem d_CN_route_55 : decode b_CN_route 55 = .ok (.invokevirtual 91, 3) := by decide +kernel
theorem d_CN_route_58 : decode b_CN_route 58 = .ok (.istore 4, 2) := by decide +kernel
theorem d_CN_route_60 : decode b_CN_route 60 = .ok (.aload_n 0, 1) := by decide +kernel
theorem d_CN_route_61 : decode b_CN_route 61 = .ok (.getfield 16, 3) := by decide +kernel
theorem d_CN_route_64 : decode b_CN_route 64 = .ok (.iload_n 1, 1) := by decide +kernel
theorem d_CN_route_65 : decode b_CN_route 65 = .ok (.iload_n 2, 1) := by decide +kernel
theorem d_CN_route_66 : decode b_CN_route 66 = .ok (.iload_n 3, 1) := by decide +kernel
theorem d_CN_route_67 : decode b_CN_route 67 = .ok (.invokevirtual 95, 3) := by decide +kernel
theorem d_CN_route_70 : decode b_CN_route 70 = .ok (.iload 4, 2) := by decide +kernel
theorem d_CN_route_72 : decode b_CN_route 72 = .ok (.ireturn, 1) := by decide +kernel
theorem d_CP_bringsNearer_0 : decode b_CP_bringsNearer 0 = .ok (.aload_n 0, 1) := by decide +kernel
theorem d_CP_bringsNearer_1 : decode b_CP_bringsNearer 1 = .ok (.getfield 21, 3) := by decide +kernel
theorem d_CP_bringsNearer_4 : decode b_CP_bringsNearer 4 = .ok (.iload_n 1, 1) := by decide +kernel
theorem d_CP_bringsNearer_5 : decode b_CP_bringsNearer 5 = .ok (.baload, 1) := by decide +kernel
theorem d_CP_bringsNearer_6 : decode b_CP_bringsNearer 6 = .ok (.ifCond .ne 39, 3) := by decide +kernel
theorem d_CP_bringsNearer_9 : decode b_CP_bringsNearer 9 = .ok (.aload_n 0, 1) := by decide +kernel
theorem d_CP_bringsNearer_10 : decode b_CP_bringsNearer 10 = .ok (.getfield 28, 3) := by decide +kernel
theorem d_CP_bringsNearer_13 : decode b_CP_bringsNearer 13 = .ok (.aload_n 0, 1) := by decide +kernel
theorem d_CP_bringsNearer_14 : decode b_CP_bringsNearer 14 = .ok (.getfield 9, 3) := by decide +kernel
theorem d_CP_bringsNearer_17 : decode b_CP_bringsNearer 17 = .ok (.iload_n 1, 1) := by decide +kernel
theorem d_CP_bringsNearer_18 : decode b_CP_bringsNearer 18 = .ok (.iaload, 1) := by decide +kernel
theorem d_CP_bringsNearer_19 : decode b_CP_bringsNearer 19 = .ok (.iaload, 1) := by decide +kernel
theorem d_CP_bringsNearer_20 : decode b_CP_bringsNearer 20 = .ok (.iconst (-1), 1) := by decide +kernel
theorem d_CP_bringsNearer_21 : decode b_CP_bringsNearer 21 = .ok (.if_icmp .ne 24, 3) := by decide +kernel
theorem d_CP_bringsNearer_24 : decode b_CP_bringsNearer 24 = .ok (.aload_n 0, 1) := by decide +kernel
theorem d_CP_bringsNearer_25 : decode b_CP_bringsNearer 25 = .ok (.getfield 28, 3) := by decide +kernel
theorem d_CP_bringsNearer_28 : decode b_CP_bringsNearer 28 = .ok (.aload_n 0, 1) := by decide +kernel
theorem d_CP_bringsNearer_29 : decode b_CP_bringsNearer 29 = .ok (.getfield 15, 3) := by decide +kernel
theorem d_CP_bringsNearer_32 : decode b_CP_bringsNearer 32 = .ok (.iload_n 1, 1) := by decide +kernel
theorem d_CP_bringsNearer_33 : decode b_CP_bringsNearer 33 = .ok (.iaload, 1) := by decide +kernel
theorem d_CP_bringsNearer_34 : decode b_CP_bringsNearer 34 = .ok (.iaload, 1) := by decide +kernel
theorem d_CP_bringsNearer_35 : decode b_CP_bringsNearer 35 = .ok (.iload_n 2, 1) := by decide +kernel
theorem d_CP_bringsNearer_36 : decode b_CP_bringsNearer 36 = .ok (.iconst 1, 1) := by decide +kernel
theorem d_CP_bringsNearer_37 : decode b_CP_bringsNearer 37 = .ok (.isub, 1) := by decide +kernel
theorem d_CP_bringsNearer_38 : decode b_CP_bringsNearer 38 = .ok (.if_icmp .ne 7, 3) := by decide +kernel
theorem d_CP_bringsNearer_41 : decode b_CP_bringsNearer 41 = .ok (.iconst 1, 1) := by decide +kernel
theorem d_CP_bringsNearer_42 : decode b_CP_bringsNearer 42 = .ok (.goto 4, 3) := by decide +kernel
theorem d_CP_bringsNearer_45 : decode b_CP_bringsNearer 45 = .ok (.iconst 0, 1) := by decide +kernel
theorem d_CP_bringsNearer_46 : decode b_CP_bringsNearer 46 = .ok (.ireturn, 1) := by decide +kernel
theorem d_CP_makeWaysTo_0 : decode b_CP_makeWaysTo 0 = .ok (.aload_n 0, 1) := by decide +kernel
theorem d_CP_makeWaysTo_1 : decode b_CP_makeWaysTo 1 = .ok (.getfield 28, 3) := by decide +kernel
theorem d_CP_makeWaysTo_4 : decode b_CP_makeWaysTo 4 = .ok (.iconst (-1), 1) := by decide +kernel
theorem d_CP_makeWaysTo_5 : decode b_CP_makeWaysTo 5 = .ok (.invokestatic 31, 3) := by decide +kernel
theorem d_CP_makeWaysTo_8 : decode b_CP_makeWaysTo 8 = .ok (.aload_n 0, 1) := by decide +kernel
theorem d_CP_makeWaysTo_9 : decode b_CP_makeWaysTo 9 = .ok (.getfield 28, 3) := by decide +kernel
theorem d_CP_makeWaysTo_12 : decode b_CP_makeWaysTo 12 = .ok (.iload_n 1, 1) := by decide +kernel
theorem d_CP_makeWaysTo_13 : decode b_CP_makeWaysTo 13 = .ok (.iconst 0, 1) := by decide +kernel
theorem d_CP_makeWaysTo_14 : decode b_CP_makeWaysTo 14 = .ok (.iastore, 1) := by decide +kernel
theorem d_CP_makeWaysTo_15 : decode b_CP_makeWaysTo 15 = .ok (.iconst 0, 1) := by decide +kernel
theorem d_CP_makeWaysTo_16 : decode b_CP_makeWaysTo 16 = .ok (.istore_n 2, 1) := by decide +kernel
theorem d_CP_makeWaysTo_17 : decode b_CP_makeWaysTo 17 = .ok (.iload_n 2, 1) := by decide +kernel
theorem d_CP_makeWaysTo_18 : decode b_CP_makeWaysTo 18 = .ok (.aload_n 0, 1) := by decide +kernel
theorem d_CP_makeWaysTo_19 : decode b_CP_makeWaysTo 19 = .ok (.getfield 37, 3) := by decide +kernel
theorem d_CP_makeWaysTo_22 : decode b_CP_makeWaysTo 22 = .ok (.if_icmp .ge 16, 3) := by decide +kernel
theorem d_CP_makeWaysTo_25 : decode b_CP_makeWaysTo 25 = .ok (.aload_n 0, 1) := by decide +kernel
theorem d_CP_makeWaysTo_26 : decode b_CP_makeWaysTo 26 = .ok (.iload_n 2, 1) := by decide +kernel
theorem d_CP_makeWaysTo_27 : decode b_CP_makeWaysTo 27 = .ok (.iload_n 1, 1) := by decide +kernel
theorem d_CP_makeWaysTo_28 : decode b_CP_makeWaysTo 28 = .ok (.iconst (-1), 1) := by decide +kernel
theorem d_CP_makeWaysTo_29 : decode b_CP_makeWaysTo 29 = .ok (.invokevirtual 58, 3) := by decide +kernel
theorem d_CP_makeWaysTo_32 : decode b_CP_makeWaysTo 32 = .ok (.iinc 2 1, 3) := by decide +kernel
theorem d_CP_makeWaysTo_35 : decode b_CP_makeWaysTo 35 = .ok (.goto (-18), 3) := by decide +kernel
theorem d_CP_makeWaysTo_38 : decode b_CP_makeWaysTo 38 = .ok (.iconst 0, 1) := by decide +kernel
theorem d_CP_makeWaysTo_39 : decode b_CP_makeWaysTo 39 = .ok (.istore_n 2, 1) := by decide +kernel
theorem d_CP_makeWaysTo_40 : decode b_CP_makeWaysTo 40 = .ok (.iconst 1, 1) := by decide +kernel
theorem d_CP_makeWaysTo_41 : decode b_CP_makeWaysTo 41 = .ok (.istore_n 3, 1) := by decide +kernel
theorem d_CP_makeWaysTo_42 : decode b_CP_makeWaysTo 42 = .ok (.iload_n 3, 1) := by decide +kernel
theorem d_CP_makeWaysTo_43 : decode b_CP_makeWaysTo 43 = .ok (.aload_n 0, 1) := by decide +kernel
theorem d_CP_makeWaysTo_44 : decode b_CP_makeWaysTo 44 = .ok (.getfield 37, 3) := by decide +kernel
theorem d_CP_makeWaysTo_47 : decode b_CP_makeWaysTo 47 = .ok (.if_icmp .ge 69, 3) := by decide +kernel
theorem d_CP_makeWaysTo_50 : decode b_CP_makeWaysTo 50 = .ok (.iconst 0, 1) := by decide +kernel
theorem d_CP_makeWaysTo_51 : decode b_CP_makeWaysTo 51 = .ok (.istore 4, 2) := by decide +kernel
theorem d_CP_makeWaysTo_53 : decode b_CP_makeWaysTo 53 = .ok (.iload 4, 2) := by decide +kernel
theorem d_CP_makeWaysTo_55 : decode b_CP_makeWaysTo 55 = .ok (.aload_n 0, 1) := by decide +kernel
theorem d_CP_makeWaysTo_56 : decode b_CP_makeWaysTo 56 = .ok (.getfield 45, 3) := by decide +kernel
theorem d_CP_makeWaysTo_59 : decode b_CP_makeWaysTo 59 = .ok (.if_icmp .ge 51, 3) := by decide +kernel
theorem d_CP_makeWaysTo_62 : decode b_CP_makeWaysTo 62 = .ok (.aload_n 0, 1) := by decide +kernel
theorem d_CP_makeWaysTo_63 : decode b_CP_makeWaysTo 63 = .ok (.iload 4, 2) := by decide +kernel
theorem d_CP_makeWaysTo_65 : decode b_CP_makeWaysTo 65 = .ok (.iload_n 3, 1) := by decide +kernel
theorem d_CP_makeWaysTo_66 : decode b_CP_makeWaysTo 66 = .ok (.invokevirtual 62, 3) := by decide +kernel
theorem d_CP_makeWaysTo_69 : decode b_CP_makeWaysTo 69 = .ok (.ifCond .eq 35, 3) := by decide +kernel
theorem d_CP_makeWaysTo_72 : decode b_CP_makeWaysTo 72 = .ok (.aload_n 0, 1) := by decide +kernel
theorem d_CP_makeWaysTo_73 : decode b_CP_makeWaysTo 73 = .ok (.getfield 28, 3) := by decide +kernel
theorem d_CP_makeWaysTo_76 : decode b_CP_makeWaysTo 76 = .ok (.aload_n 0, 1) := by decide +kernel
theorem d_CP_makeWaysTo_77 : decode b_CP_makeWaysTo 77 = .ok (.getfield 9, 3) := by decide +kernel
theorem d_CP_makeWaysTo_80 : decode b_CP_makeWaysTo 80 = .ok (.iload 4, 2) := by decide +kernel
theorem d_CP_makeWaysTo_82 : decode b_CP_makeWaysTo 82 = .ok (.iaload, 1) := by decide +kernel
theorem d_CP_makeWaysTo_83 : decode b_CP_makeWaysTo 83 = .ok (.iload_n 3, 1) := by decide +kernel
theorem d_CP_makeWaysTo_84 : decode b_CP_makeWaysTo 84 = .ok (.iastore, 1) := by decide +kernel
theorem d_CP_makeWaysTo_85 : decode b_CP_makeWaysTo 85 = .ok (.aload_n 0, 1) := by decide +kernel
theorem d_CP_makeWaysTo_86 : decode b_CP_makeWaysTo 86 = .ok (.aload_n 0, 1) := by decide +kernel
theorem d_CP_makeWaysTo_87 : decode b_CP_makeWaysTo 87 = .ok (.getfield 9, 3) := by decide +kernel
theorem d_CP_makeWaysTo_90 : decode b_CP_makeWaysTo 90 = .ok (.iload 4, 2) := by decide +kernel
theorem d_CP_makeWaysTo_92 : decode b_CP_makeWaysTo 92 = .ok (.iaload, 1) := by decide +kernel
theorem d_CP_makeWaysTo_93 : decode b_CP_makeWaysTo 93 = .ok (.iload_n 1, 1) := by decide +kernel
theorem d_CP_makeWaysTo_94 : decode b_CP_makeWaysTo 94 = .ok (.iload 4, 2) := by decide +kernel
theorem d_CP_makeWaysTo_96 : decode b_CP_makeWaysTo 96 = .ok (.iconst 4, 1) := by decide +kernel
theorem d_CP_makeWaysTo_97 : decode b_CP_makeWaysTo 97 = .ok (.imul, 1) := by decide +kernel
theorem d_CP_makeWaysTo_98 : decode b_CP_makeWaysTo 98 = .ok (.invokevirtual 58, 3) := by decide +kernel
theorem d_CP_makeWaysTo_101 : decode b_CP_makeWaysTo 101 = .ok (.iinc 2 1, 3) := by decide +kernel
theorem d_CP_makeWaysTo_104 : decode b_CP_makeWaysTo 104 = .ok (.iinc 4 1, 3) := by decide +kernel
theorem d_CP_makeWaysTo_107 : decode b_CP_makeWaysTo 107 = .ok (.goto (-54), 3) := by decide +kernel
theorem d_CP_makeWaysTo_110 : decode b_CP_makeWaysTo 110 = .ok (.iinc 3 1, 3) := by decide +kernel
theorem d_CP_makeWaysTo_113 : decode b_CP_makeWaysTo 113 = .ok (.goto (-71), 3) := by decide +kernel
theorem d_CP_makeWaysTo_116 : decode b_CP_makeWaysTo 116 = .ok (.iload_n 2, 1) := by decide +kernel
theorem d_CP_makeWaysTo_117 : decode b_CP_makeWaysTo 117 = .ok (.ireturn, 1) := by decide +kernel
theorem d_CN_routes_0 : decode b_CN_routes 0 = .ok (.aload_n 0, 1) := by decide +kernel
theorem d_CN_routes_1 : decode b_CN_routes 1 = .ok (.getfield 16, 3) := by decide +kernel
theorem d_CN_routes_4 : decode b_CN_routes 4 = .ok (.iload_n 1, 1) := by decide +kernel
theorem d_CN_routes_5 : decode b_CN_routes 5 = .ok (.invokevirtual 99, 3) := by decide +kernel
theorem d_CN_routes_8 : decode b_CN_routes 8 = .ok (.ifCond .ne 13, 3) := by decide +kernel
theorem d_CN_routes_11 : decode b_CN_routes 11 = .ok (.new 68, 3) := by decide +kernel
theorem d_CN_routes_14 : decode b_CN_routes 14 = .ok (.dup, 1) := by decide +kernel
theorem d_CN_routes_15 : decode b_CN_routes 15 = .ok (.ldc 103, 2) := by decide +kernel
theorem d_CN_routes_17 : decode b_CN_routes 17 = .ok (.invokespecial 72, 3) := by decide +kernel
theorem d_CN_routes_20 : decode b_CN_routes 20 = .ok (.athrow, 1) := by decide +kernel
theorem d_CN_routes_21 : decode b_CN_routes 21 = .ok (.aload_n 0, 1) := by decide +kernel
theorem d_CN_routes_22 : decode b_CN_routes 22 = .ok (.getfield 16, 3) := by decide +kernel
theorem d_CN_routes_25 : decode b_CN_routes 25 = .ok (.iload_n 1, 1) := by decide +kernel
theorem d_CN_routes_26 : decode b_CN_routes 26 = .ok (.invokevirtual 105, 3) := by decide +kernel
theorem d_CN_routes_29 : decode b_CN_routes 29 = .ok (.ireturn, 1) := by decide +kernel
theorem d_CP_breakLink_0 : decode b_CP_breakLink 0 = .ok (.aload_n 0, 1) := by decide +kernel
theorem d_CP_breakLink_1 : decode b_CP_breakLink 1 = .ok (.getfield 21, 3) := by decide +kernel
theorem d_CP_breakLink_4 : decode b_CP_breakLink 4 = .ok (.iload_n 1, 1) := by decide +kernel
theorem d_CP_breakLink_5 : decode b_CP_breakLink 5 = .ok (.iconst 1, 1) := by decide +kernel
theorem d_CP_breakLink_6 : decode b_CP_breakLink 6 = .ok (.bastore, 1) := by decide +kernel
theorem d_CP_breakLink_7 : decode b_CP_breakLink 7 = .ok (.iconst 0, 1) := by decide +kernel
theorem d_CP_breakLink_8 : decode b_CP_breakLink 8 = .ok (.istore_n 2, 1) := by decide +kernel
theorem d_CP_breakLink_9 : decode b_CP_breakLink 9 = .ok (.iconst 0, 1) := by decide +kernel
theorem d_CP_breakLink_10 : decode b_CP_breakLink 10 = .ok (.istore_n 3, 1) := by decide +kernel
theorem d_CP_breakLink_11 : decode b_CP_breakLink 11 = .ok (.iload_n 3, 1) := by decide +kernel
theorem d_CP_breakLink_12 : decode b_CP_breakLink 12 = .ok (.sipush 256, 3) := by decide +kernel
theorem d_CP_breakLink_15 : decode b_CP_breakLink 15 = .ok (.if_icmp .ge 41, 3) := by decide +kernel
theorem d_CP_breakLink_18 : decode b_CP_breakLink 18 = .ok (.aload_n 0, 1) := by decide +kernel
theorem d_CP_breakLink_19 : decode b_CP_breakLink 19 = .ok (.getfield 25, 3) := by decide +kernel
theorem d_CP_breakLink_22 : decode b_CP_breakLink 22 = .ok (.iload_n 3, 1) := by decide +kernel
theorem d_CP_breakLink_23 : decode b_CP_breakLink 23 = .ok (.iaload, 1) := by decide +kernel
theorem d_CP_breakLink_24 : decode b_CP_breakLink 24 = .ok (.iconst (-1), 1) := by decide +kernel
theorem d_CP_breakLink_25 : decode b_CP_breakLink 25 = .ok (.if_icmp .eq 25, 3) := by decide +kernel
theorem d_CP_breakLink_28 : decode b_CP_breakLink 28 = .ok (.aload_n 0, 1) := by decide +kernel
theorem d_CP_breakLink_29 : decode b_CP_breakLink 29 = .ok (.getfield 25, 3) := by decide +kernel
theorem d_CP_breakLink_32 : decode b_CP_breakLink 32 = .ok (.iload_n 3, 1) := by decide +kernel
theorem d_CP_breakLink_33 : decode b_CP_breakLink 33 = .ok (.iaload, 1) := by decide +kernel
theorem d_CP_breakLink_34 : decode b_CP_breakLink 34 = .ok (.iconst 4, 1) := by decide +kernel
theorem d_CP_breakLink_35 : decode b_CP_breakLink 35 = .ok (.idiv, 1) := by decide +kernel
theorem d_CP_breakLink_36 : decode b_CP_breakLink 36 = .ok (.iload_n 1, 1) := by decide +kernel
theorem d_CP_breakLink_37 : decode b_CP_breakLink 37 = .ok (.if_icmp .ne 13, 3) := by decide +kernel
theorem d_CP_breakLink_40 : decode b_CP_breakLink 40 = .ok (.aload_n 0, 1) := by decide +kernel
theorem d_CP_breakLink_41 : decode b_CP_breakLink 41 = .ok (.getfield 25, 3) := by decide +kernel
theorem d_CP_breakLink_44 : decode b_CP_breakLink 44 = .ok (.iload_n 3, 1) := by decide +kernel
theorem d_CP_breakLink_45 : decode b_CP_breakLink 45 = .ok (.iconst (-1), 1) := by decide +kernel
theorem d_CP_breakLink_46 : decode b_CP_breakLink 46 = .ok (.iastore, 1) := by decide +kernel
theorem d_CP_breakLink_47 : decode b_CP_breakLink 47 = .ok (.iinc 2 1, 3) := by decide +kernel
theorem d_CP_breakLink_50 : decode b_CP_breakLink 50 = .ok (.iinc 3 1, 3) := by decide +kernel
theorem d_CP_breakLink_53 : decode b_CP_breakLink 53 = .ok (.goto (-42), 3) := by decide +kernel
theorem d_CP_breakLink_56 : decode b_CP_breakLink 56 = .ok (.iload_n 2, 1) := by decide +kernel
theorem d_CP_breakLink_57 : decode b_CP_breakLink 57 = .ok (.ireturn, 1) := by decide +kernel
theorem d_CN_fail_0 : decode b_CN_fail 0 = .ok (.aload_n 0, 1) := by decide +kernel
theorem d_CN_fail_1 : decode b_CN_fail 1 = .ok (.getfield 16, 3) := by decide +kernel
theorem d_CN_fail_4 : decode b_CN_fail 4 = .ok (.iload_n 1, 1) := by decide +kernel
theorem d_CN_fail_5 : decode b_CN_fail 5 = .ok (.invokevirtual 109, 3) := by decide +kernel
theorem d_CN_fail_8 : decode b_CN_fail 8 = .ok (.ifCond .eq 15, 3) := by decide +kernel
theorem d_CN_fail_11 : decode b_CN_fail 11 = .ok (.aload_n 0, 1) := by decide +kernel
theorem d_CN_fail_12 : decode b_CN_fail 12 = .ok (.getfield 16, 3) := by decide +kernel
theorem d_CN_fail_15 : decode b_CN_fail 15 = .ok (.getfield 112, 3) := by decide +kernel
theorem d_CN_fail_18 : decode b_CN_fail 18 = .ok (.iload_n 1, 1) := by decide +kernel
theorem d_CN_fail_19 : decode b_CN_fail 19 = .ok (.baload, 1) := by decide +kernel
theorem d_CN_fail_20 : decode b_CN_fail 20 = .ok (.ifCond .eq 13, 3) := by decide +kernel
theorem d_CN_fail_23 : decode b_CN_fail 23 = .ok (.new 68, 3) := by decide +kernel
theorem d_CN_fail_26 : decode b_CN_fail 26 = .ok (.dup, 1) := by decide +kernel
theorem d_CN_fail_27 : decode b_CN_fail 27 = .ok (.ldc 116, 2) := by decide +kernel
theorem d_CN_fail_29 : decode b_CN_fail 29 = .ok (.invokespecial 72, 3) := by decide +kernel
theorem d_CN_fail_32 : decode b_CN_fail 32 = .ok (.athrow, 1) := by decide +kernel
theorem d_CN_fail_33 : decode b_CN_fail 33 = .ok (.aload_n 0, 1) := by decide +kernel
theorem d_CN_fail_34 : decode b_CN_fail 34 = .ok (.getfield 16, 3) := by decide +kernel
theorem d_CN_fail_37 : decode b_CN_fail 37 = .ok (.iload_n 1, 1) := by decide +kernel
theorem d_CN_fail_38 : decode b_CN_fail 38 = .ok (.invokevirtual 118, 3) := by decide +kernel
theorem d_CN_fail_41 : decode b_CN_fail 41 = .ok (.ireturn, 1) := by decide +kernel
theorem d_CK_add_0 : decode b_CK_add 0 = .ok (.aload_n 0, 1) := by decide +kernel
theorem d_CK_add_1 : decode b_CK_add 1 = .ok (.getfield 27, 3) := by decide +kernel
theorem d_CK_add_4 : decode b_CK_add 4 = .ok (.istore_n 3, 1) := by decide +kernel
theorem d_CK_add_5 : decode b_CK_add 5 = .ok (.aload_n 0, 1) := by decide +kernel
theorem d_CK_add_6 : decode b_CK_add 6 = .ok (.getfield 9, 3) := by decide +kernel
theorem d_CK_add_9 : decode b_CK_add 9 = .ok (.iload_n 3, 1) := by decide +kernel
theorem d_CK_add_10 : decode b_CK_add 10 = .ok (.iload_n 1, 1) := by decide +kernel
theorem d_CK_add_11 : decode b_CK_add 11 = .ok (.iastore, 1) := by decide +kernel
theorem d_CK_add_12 : decode b_CK_add 12 = .ok (.aload_n 0, 1) := by decide +kernel
theorem d_CK_add_13 : decode b_CK_add 13 = .ok (.getfield 15, 3) := by decide +kernel
theorem d_CK_add_16 : decode b_CK_add 16 = .ok (.iload_n 3, 1) := by decide +kernel
theorem d_CK_add_17 : decode b_CK_add 17 = .ok (.iload_n 2, 1) := by decide +kernel
theorem d_CK_add_18 : decode b_CK_add 18 = .ok (.iastore, 1) := by decide +kernel
theorem d_CK_add_19 : decode b_CK_add 19 = .ok (.aload_n 0, 1) := by decide +kernel
theorem d_CK_add_20 : decode b_CK_add 20 = .ok (.getfield 18, 3) := by decide +kernel
theorem d_CK_add_23 : decode b_CK_add 23 = .ok (.iload_n 3, 1) := by decide +kernel
theorem d_CK_add_24 : decode b_CK_add 24 = .ok (.iload_n 2, 1) := by decide +kernel
theorem d_CK_add_25 : decode b_CK_add 25 = .ok (.iastore, 1) := by decide +kernel
theorem d_CK_add_26 : decode b_CK_add 26 = .ok (.aload_n 0, 1) := by decide +kernel
theorem d_CK_add_27 : decode b_CK_add 27 = .ok (.dup, 1) := by decide +kernel
theorem d_CK_add_28 : decode b_CK_add 28 = .ok (.getfield 27, 3) := by decide +kernel
theorem d_CK_add_31 : decode b_CK_add 31 = .ok (.iconst 1, 1) := by decide +kernel
theorem d_CK_add_32 : decode b_CK_add 32 = .ok (.iadd, 1) := by decide +kernel
theorem d_CK_add_33 : decode b_CK_add 33 = .ok (.putfield 27, 3) := by decide +kernel
theorem d_CK_add_36 : decode b_CK_add 36 = .ok (.iload_n 3, 1) := by decide +kernel
theorem d_CK_add_37 : decode b_CK_add 37 = .ok (.ireturn, 1) := by decide +kernel
theorem d_CI_lineUp_0 : decode b_CI_lineUp 0 = .ok (.aload_n 0, 1) := by decide +kernel
theorem d_CI_lineUp_1 : decode b_CI_lineUp 1 = .ok (.getfield 15, 3) := by decide +kernel
theorem d_CI_lineUp_4 : decode b_CI_lineUp 4 = .ok (.iload_n 1, 1) := by decide +kernel
theorem d_CI_lineUp_5 : decode b_CI_lineUp 5 = .ok (.iaload, 1) := by decide +kernel
theorem d_CI_lineUp_6 : decode b_CI_lineUp 6 = .ok (.istore_n 3, 1) := by decide +kernel
theorem d_CI_lineUp_7 : decode b_CI_lineUp 7 = .ok (.aload_n 0, 1) := by decide +kernel
theorem d_CI_lineUp_8 : decode b_CI_lineUp 8 = .ok (.getfield 9, 3) := by decide +kernel
theorem d_CI_lineUp_11 : decode b_CI_lineUp 11 = .ok (.iload_n 1, 1) := by decide +kernel
theorem d_CI_lineUp_12 : decode b_CI_lineUp 12 = .ok (.iaload, 1) := by decide +kernel
theorem d_CI_lineUp_13 : decode b_CI_lineUp 13 = .ok (.iconst (-1), 1) := by decide +kernel
theorem d_CI_lineUp_14 : decode b_CI_lineUp 14 = .ok (.if_icmp .eq 8, 3) := by decide +kernel
theorem d_CI_lineUp_17 : decode b_CI_lineUp 17 = .ok (.iload_n 3, 1) := by decide +kernel
theorem d_CI_lineUp_18 : decode b_CI_lineUp 18 = .ok (.iconst (-1), 1) := by decide +kernel
theorem d_CI_lineUp_19 : decode b_CI_lineUp 19 = .ok (.if_icmp .ne 13, 3) := by decide +kernel
theorem d_CI_lineUp_22 : decode b_CI_lineUp 22 = .ok (.aload_n 0, 1) := by decide +kernel
theorem d_CI_lineUp_23 : decode b_CI_lineUp 23 = .ok (.getfield 9, 3) := by decide +kernel
theorem d_CI_lineUp_26 : decode b_CI_lineUp 26 = .ok (.iload_n 1, 1) := by decide +kernel
theorem d_CI_lineUp_27 : decode b_CI_lineUp 27 = .ok (.iload_n 2, 1) := by decide +kernel
theorem d_CI_lineUp_28 : decode b_CI_lineUp 28 = .ok (.iastore, 1) := by decide +kernel
theorem d_CI_lineUp_29 : decode b_CI_lineUp 29 = .ok (.goto 10, 3) := by decide +kernel
theorem d_CI_lineUp_32 : decode b_CI_lineUp 32 = .ok (.aload_n 0, 1) := by decide +kernel
theorem d_CI_lineUp_33 : decode b_CI_lineUp 33 = .ok (.getfield 18, 3) := by decide +kernel
theorem d_CI_lineUp_36 : decode b_CI_lineUp 36 = .ok (.iload_n 3, 1) := by decide +kernel
theorem d_CI_lineUp_37 : decode b_CI_lineUp 37 = .ok (.iload_n 2, 1) := by decide +kernel
theorem d_CI_lineUp_38 : decode b_CI_lineUp 38 = .ok (.iastore, 1) := by decide +kernel
theorem d_CI_lineUp_39 : decode b_CI_lineUp 39 = .ok (.aload_n 0, 1) := by decide +kernel
theorem d_CI_lineUp_40 : decode b_CI_lineUp 40 = .ok (.getfield 15, 3) := by decide +kernel
theorem d_CI_lineUp_43 : decode b_CI_lineUp 43 = .ok (.iload_n 1, 1) := by decide +kernel
theorem d_CI_lineUp_44 : decode b_CI_lineUp 44 = .ok (.iload_n 2, 1) := by decide +kernel
theorem d_CI_lineUp_45 : decode b_CI_lineUp 45 = .ok (.iastore, 1) := by decide +kernel
theorem d_CI_lineUp_46 : decode b_CI_lineUp 46 = .ok (.return_, 1) := by decide +kernel
theorem d_CN_addPacket_0 : decode b_CN_addPacket 0 = .ok (.aload_n 0, 1) := by decide +kernel
theorem d_CN_addPacket_1 : decode b_CN_addPacket 1 = .ok (.getfield 23, 3) := by decide +kernel
theorem d_CN_addPacket_4 : decode b_CN_addPacket 4 = .ok (.iload_n 2, 1) := by decide +kernel
theorem d_CN_addPacket_5 : decode b_CN_addPacket 5 = .ok (.iload_n 3, 1) := by decide +kernel
theorem d_CN_addPacket_6 : decode b_CN_addPacket 6 = .ok (.invokevirtual 226, 3) := by decide +kernel
theorem d_CN_addPacket_9 : decode b_CN_addPacket 9 = .ok (.istore 4, 2) := by decide +kernel
theorem d_CN_addPacket_11 : decode b_CN_addPacket 11 = .ok (.aload_n 0, 1) := by decide +kernel
theorem d_CN_addPacket_12 : decode b_CN_addPacket 12 = .ok (.getfield 32, 3) := by decide +kernel
theorem d_CN_addPacket_15 : decode b_CN_addPacket 15 = .ok (.iload_n 1, 1) := by decide +kernel
theorem d_CN_addPacket_16 : decode b_CN_addPacket 16 = .ok (.iload 4, 2) := by decide +kernel
theorem d_CN_addPacket_18 : decode b_CN_addPacket 18 = .ok (.invokevirtual 229, 3) := by decide +kernel
theorem d_CN_addPacket_21 : decode b_CN_addPacket 21 = .ok (.iload 4, 2) := by decide +kernel
theorem d_CN_addPacket_23 : decode b_CN_addPacket 23 = .ok (.ireturn, 1) := by decide +kernel
theorem d_CN_send_0 : decode b_CN_send 0 = .ok (.aload_n 0, 1) := by decide +kernel
theorem d_CN_send_1 : decode b_CN_send 1 = .ok (.getfield 16, 3) := by decide +kernel
theorem d_CN_send_4 : decode b_CN_send 4 = .ok (.iload_n 1, 1) := by decide +kernel
theorem d_CN_send_5 : decode b_CN_send 5 = .ok (.invokevirtual 99, 3) := by decide +kernel
theorem d_CN_send_8 : decode b_CN_send 8 = .ok (.ifCond .eq 14, 3) := by decide +kernel
theorem d_CN_send_11 : decode b_CN_send 11 = .ok (.aload_n 0, 1) := by decide +kernel
theorem d_CN_send_12 : decode b_CN_send 12 = .ok (.getfield 16, 3) := by decide +kernel
theorem d_CN_send_15 : decode b_CN_send 15 = .ok (.iload_n 2, 1) := by decide +kernel
theorem d_CN_send_16 : decode b_CN_send 16 = .ok (.invokevirtual 99, 3) := by decide +kernel
theorem d_CN_send_19 : decode b_CN_send 19 = .ok (.ifCond .ne 13, 3) := by decide +kernel
theorem d_CN_send_22 : decode b_CN_send 22 = .ok (.new 68, 3) := by decide +kernel
theorem d_CN_send_25 : decode b_CN_send 25 = .ok (.dup, 1) := by decide +kernel
theorem d_CN_send_26 : decode b_CN_send 26 = .ok (.ldc 121, 2) := by decide +kernel
theorem d_CN_send_28 : decode b_CN_send 28 = .ok (.invokespecial 72, 3) := by decide +kernel
theorem d_CN_send_31 : decode b_CN_send 31 = .ok (.athrow, 1) := by decide +kernel
theorem d_CN_send_32 : decode b_CN_send 32 = .ok (.iload_n 3, 1) := by decide +kernel
theorem d_CN_send_33 : decode b_CN_send 33 = .ok (.iconst 1, 1) := by decide +kernel
theorem d_CN_send_34 : decode b_CN_send 34 = .ok (.if_icmp .lt 9, 3) := by decide +kernel
theorem d_CN_send_37 : decode b_CN_send 37 = .ok (.iload_n 3, 1) := by decide +kernel
theorem d_CN_send_38 : decode b_CN_send 38 = .ok (.bipush 16, 2) := by decide +kernel
theorem d_CN_send_40 : decode b_CN_send 40 = .ok (.if_icmp .le 13, 3) := by decide +kernel
theorem d_CN_send_43 : decode b_CN_send 43 = .ok (.new 68, 3) := by decide +kernel
theorem d_CN_send_46 : decode b_CN_send 46 = .ok (.dup, 1) := by decide +kernel
theorem d_CN_send_47 : decode b_CN_send 47 = .ok (.ldc 123, 2) := by decide +kernel
theorem d_CN_send_49 : decode b_CN_send 49 = .ok (.invokespecial 72, 3) := by decide +kernel
theorem d_CN_send_52 : decode b_CN_send 52 = .ok (.athrow, 1) := by decide +kernel
theorem d_CN_send_53 : decode b_CN_send 53 = .ok (.aload_n 0, 1) := by decide +kernel
theorem d_CN_send_54 : decode b_CN_send 54 = .ok (.getfield 23, 3) := by decide +kernel
theorem d_CN_send_57 : decode b_CN_send 57 = .ok (.getfield 125, 3) := by decide +kernel
theorem d_CN_send_60 : decode b_CN_send 60 = .ok (.sipush 400, 3) := by decide +kernel
theorem d_CN_send_63 : decode b_CN_send 63 = .ok (.if_icmp .lt 13, 3) := by decide +kernel
theorem d_CN_send_66 : decode b_CN_send 66 = .ok (.new 57, 3) := by decide +kernel
theorem d_CN_send_69 : decode b_CN_send 69 = .ok (.dup, 1) := by decide +kernel
theorem d_CN_send_70 : decode b_CN_send 70 = .ok (.ldc 128, 2) := by decide +kernel
theorem d_CN_send_72 : decode b_CN_send 72 = .ok (.invokespecial 61, 3) := by decide +kernel
theorem d_CN_send_75 : decode b_CN_send 75 = .ok (.athrow, 1) := by decide +kernel
theorem d_CN_send_76 : decode b_CN_send 76 = .ok (.aload_n 0, 1) := by decide +kernel
theorem d_CN_send_77 : decode b_CN_send 77 = .ok (.iload_n 1, 1) := by decide +kernel
theorem d_CN_send_78 : decode b_CN_send 78 = .ok (.iload_n 2, 1) := by decide +kernel
theorem d_CN_send_79 : decode b_CN_send 79 = .ok (.iload_n 3, 1) := by decide +kernel
theorem d_CN_send_80 : decode b_CN_send 80 = .ok (.invokevirtual 130, 3) := by decide +kernel
theorem d_CN_send_83 : decode b_CN_send 83 = .ok (.ireturn, 1) := by decide +kernel
theorem d_CN_drawn_0 : decode b_CN_drawn 0 = .ok (.aload_n 0, 1) := by decide +kernel
theorem d_CN_drawn_1 : decode b_CN_drawn 1 = .ok (.ldc 233, 2) := by decide +kernel
theorem d_CN_drawn_3 : decode b_CN_drawn 3 = .ok (.aload_n 0, 1) := by decide +kernel
theorem d_CN_drawn_4 : decode b_CN_drawn 4 = .ok (.getfield 9, 3) := by decide +kernel
theorem d_CN_drawn_7 : decode b_CN_drawn 7 = .ok (.imul, 1) := by decide +kernel
theorem d_CN_drawn_8 : decode b_CN_drawn 8 = .ok (.sipush 12345, 3) := by decide +kernel
theorem d_CN_drawn_11 : decode b_CN_drawn 11 = .ok (.iadd, 1) := by decide +kernel
theorem d_CN_drawn_12 : decode b_CN_drawn 12 = .ok (.ldc 234, 2) := by decide +kernel
theorem d_CN_drawn_14 : decode b_CN_drawn 14 = .ok (.iand, 1) := by decide +kernel
theorem d_CN_drawn_15 : decode b_CN_drawn 15 = .ok (.putfield 9, 3) := by decide +kernel
theorem d_CN_drawn_18 : decode b_CN_drawn 18 = .ok (.aload_n 0, 1) := by decide +kernel
theorem d_CN_drawn_19 : decode b_CN_drawn 19 = .ok (.getfield 9, 3) := by decide +kernel
theorem d_CN_drawn_22 : decode b_CN_drawn 22 = .ok (.ldc 235, 2) := by decide +kernel
theorem d_CN_drawn_24 : decode b_CN_drawn 24 = .ok (.idiv, 1) := by decide +kernel
theorem d_CN_drawn_25 : decode b_CN_drawn 25 = .ok (.ireturn, 1) := by decide +kernel
theorem d_CN_load_0 : decode b_CN_load 0 = .ok (.iload_n 1, 1) := by decide +kernel
theorem d_CN_load_1 : decode b_CN_load 1 = .ok (.iconst 1, 1) := by decide +kernel
theorem d_CN_load_2 : decode b_CN_load 2 = .ok (.if_icmp .lt 9, 3) := by decide +kernel
theorem d_CN_load_5 : decode b_CN_load 5 = .ok (.iload_n 1, 1) := by decide +kernel
theorem d_CN_load_6 : decode b_CN_load 6 = .ok (.bipush 50, 2) := by decide +kernel
theorem d_CN_load_8 : decode b_CN_load 8 = .ok (.if_icmp .le 13, 3) := by decide +kernel
theorem d_CN_load_11 : decode b_CN_load 11 = .ok (.new 68, 3) := by decide +kernel
theorem d_CN_load_14 : decode b_CN_load 14 = .ok (.dup, 1) := by decide +kernel
theorem d_CN_load_15 : decode b_CN_load 15 = .ok (.ldc 133, 2) := by decide +kernel
theorem d_CN_load_17 : decode b_CN_load 17 = .ok (.invokespecial 72, 3) := by decide +kernel
theorem d_CN_load_20 : decode b_CN_load 20 = .ok (.athrow, 1) := by decide +kernel
theorem d_CN_load_21 : decode b_CN_load 21 = .ok (.aload_n 0, 1) := by decide +kernel
theorem d_CN_load_22 : decode b_CN_load 22 = .ok (.getfield 16, 3) := by decide +kernel
theorem d_CN_load_25 : decode b_CN_load 25 = .ok (.getfield 54, 3) := by decide +kernel
theorem d_CN_load_28 : decode b_CN_load 28 = .ok (.ifCond .ne 13, 3) := by decide +kernel
theorem d_CN_load_31 : decode b_CN_load 31 = .ok (.new 135, 3) := by decide +kernel
theorem d_CN_load_34 : decode b_CN_load 34 = .ok (.dup, 1) := by decide +kernel
theorem d_CN_load_35 : decode b_CN_load 35 = .ok (.ldc 137, 2) := by decide +kernel
theorem d_CN_load_37 : decode b_CN_load 37 = .ok (.invokespecial 139, 3) := by decide +kernel
theorem d_CN_load_40 : decode b_CN_load 40 = .ok (.athrow, 1) := by decide +kernel
theorem d_CN_load_41 : decode b_CN_load 41 = .ok (.aload_n 0, 1) := by decide +kernel
theorem d_CN_load_42 : decode b_CN_load 42 = .ok (.getfield 23, 3) := by decide +kernel
theorem d_CN_load_45 : decode b_CN_load 45 = .ok (.getfield 125, 3) := by decide +kernel
theorem d_CN_load_48 : decode b_CN_load 48 = .ok (.iload_n 1, 1) := by decide +kernel
theorem d_CN_load_49 : decode b_CN_load 49 = .ok (.iadd, 1) := by decide +kernel
theorem d_CN_load_50 : decode b_CN_load 50 = .ok (.sipush 400, 3) := by decide +kernel
theorem d_CN_load_53 : decode b_CN_load 53 = .ok (.if_icmp .le 13, 3) := by decide +kernel
theorem d_CN_load_56 : decode b_CN_load 56 = .ok (.new 57, 3) := by decide +kernel
theorem d_CN_load_59 : decode b_CN_load 59 = .ok (.dup, 1) := by decide +kernel
theorem d_CN_load_60 : decode b_CN_load 60 = .ok (.ldc 140, 2) := by decide +kernel
theorem d_CN_load_62 : decode b_CN_load 62 = .ok (.invokespecial 61, 3) := by decide +kernel
theorem d_CN_load_65 : decode b_CN_load 65 = .ok (.athrow, 1) := by decide +kernel
theorem d_CN_load_66 : decode b_CN_load 66 = .ok (.iconst 0, 1) := by decide +kernel
theorem d_CN_load_67 : decode b_CN_load 67 = .ok (.istore_n 2, 1) := by decide +kernel
theorem d_CN_load_68 : decode b_CN_load 68 = .ok (.iload_n 2, 1) := by decide +kernel
theorem d_CN_load_69 : decode b_CN_load 69 = .ok (.iload_n 1, 1) := by decide +kernel
theorem d_CN_load_70 : decode b_CN_load 70 = .ok (.if_icmp .ge 57, 3) := by decide +kernel
theorem d_CN_load_73 : decode b_CN_load 73 = .ok (.aload_n 0, 1) := by decide +kernel
theorem d_CN_load_74 : decode b_CN_load 74 = .ok (.invokevirtual 142, 3) := by decide +kernel
theorem d_CN_load_77 : decode b_CN_load 77 = .ok (.aload_n 0, 1) := by decide +kernel
theorem d_CN_load_78 : decode b_CN_load 78 = .ok (.getfield 16, 3) := by decide +kernel
theorem d_CN_load_81 : decode b_CN_load 81 = .ok (.getfield 54, 3) := by decide +kernel
theorem d_CN_load_84 : decode b_CN_load 84 = .ok (.irem, 1) := by decide +kernel
theorem d_CN_load_85 : decode b_CN_load 85 = .ok (.istore_n 3, 1) := by decide +kernel
theorem d_CN_load_86 : decode b_CN_load 86 = .ok (.aload_n 0, 1) := by decide +kernel
theorem d_CN_load_87 : decode b_CN_load 87 = .ok (.invokevirtual 142, 3) := by decide +kernel
theorem d_CN_load_90 : decode b_CN_load 90 = .ok (.aload_n 0, 1) := by decide +kernel
theorem d_CN_load_91 : decode b_CN_load 91 = .ok (.getfield 16, 3) := by decide +kernel
theorem d_CN_load_94 : decode b_CN_load 94 = .ok (.getfield 54, 3) := by decide +kernel
theorem d_CN_load_97 : decode b_CN_load 97 = .ok (.irem, 1) := by decide +kernel
theorem d_CN_load_98 : decode b_CN_load 98 = .ok (.istore 4, 2) := by decide +kernel
theorem d_CN_load_100 : decode b_CN_load 100 = .ok (.iconst 1, 1) := by decide +kernel
theorem d_CN_load_101 : decode b_CN_load 101 = .ok (.aload_n 0, 1) := by decide +kernel
theorem d_CN_load_102 : decode b_CN_load 102 = .ok (.invokevirtual 142, 3) := by decide +kernel
theorem d_CN_load_105 : decode b_CN_load 105 = .ok (.bipush 8, 2) := by decide +kernel
theorem d_CN_load_107 : decode b_CN_load 107 = .ok (.irem, 1) := by decide +kernel
theorem d_CN_load_108 : decode b_CN_load 108 = .ok (.iadd, 1) := by decide +kernel
theorem d_CN_load_109 : decode b_CN_load 109 = .ok (.istore 5, 2) := by decide +kernel
theorem d_CN_load_111 : decode b_CN_load 111 = .ok (.aload_n 0, 1) := by decide +kernel
theorem d_CN_load_112 : decode b_CN_load 112 = .ok (.iload_n 3, 1) := by decide +kernel
theorem d_CN_load_113 : decode b_CN_load 113 = .ok (.iload 4, 2) := by decide +kernel
theorem d_CN_load_115 : decode b_CN_load 115 = .ok (.iload 5, 2) := by decide +kernel
theorem d_CN_load_117 : decode b_CN_load 117 = .ok (.invokevirtual 130, 3) := by decide +kernel
theorem d_CN_load_120 : decode b_CN_load 120 = .ok (.pop, 1) := by decide +kernel
theorem d_CN_load_121 : decode b_CN_load 121 = .ok (.iinc 2 1, 3) := by decide +kernel
theorem d_CN_load_124 : decode b_CN_load 124 = .ok (.goto (-56), 3) := by decide +kernel
theorem d_CN_load_127 : decode b_CN_load 127 = .ok (.aload_n 0, 1) := by decide +kernel
theorem d_CN_load_128 : decode b_CN_load 128 = .ok (.getfield 23, 3) := by decide +kernel
theorem d_CN_load_131 : decode b_CN_load 131 = .ok (.getfield 125, 3) := by decide +kernel
theorem d_CN_load_134 : decode b_CN_load 134 = .ok (.iconst 1, 1) := by decide +kernel
theorem d_CN_load_135 : decode b_CN_load 135 = .ok (.isub, 1) := by decide +kernel
theorem d_CN_load_136 : decode b_CN_load 136 = .ok (.ireturn, 1) := by decide +kernel
theorem d_CI_inUse_0 : decode b_CI_inUse 0 = .ok (.bipush 16, 2) := by decide +kernel
theorem d_CI_inUse_2 : decode b_CI_inUse 2 = .ok (.aload_n 0, 1) := by decide +kernel
theorem d_CI_inUse_3 : decode b_CI_inUse 3 = .ok (.getfield 30, 3) := by decide +kernel
theorem d_CI_inUse_6 : decode b_CI_inUse 6 = .ok (.getfield 44, 3) := by decide +kernel
theorem d_CI_inUse_9 : decode b_CI_inUse 9 = .ok (.iconst 4, 1) := by decide +kernel
theorem d_CI_inUse_10 : decode b_CI_inUse 10 = .ok (.imul, 1) := by decide +kernel
theorem d_CI_inUse_11 : decode b_CI_inUse 11 = .ok (.iadd, 1) := by decide +kernel
theorem d_CI_inUse_12 : decode b_CI_inUse 12 = .ok (.ireturn, 1) := by decide +kernel
theorem d_CK_firstWaiting_0 : decode b_CK_firstWaiting 0 = .ok (.iload_n 1, 1) := by decide +kernel
theorem d_CK_firstWaiting_1 : decode b_CK_firstWaiting 1 = .ok (.bipush 16, 2) := by decide +kernel
theorem d_CK_firstWaiting_3 : decode b_CK_firstWaiting 3 = .ok (.imul, 1) := by decide +kernel
theorem d_CK_firstWaiting_4 : decode b_CK_firstWaiting 4 = .ok (.aload_n 0, 1) := by decide +kernel
theorem d_CK_firstWaiting_5 : decode b_CK_firstWaiting 5 = .ok (.getfield 15, 3) := by decide +kernel
theorem d_CK_firstWaiting_8 : decode b_CK_firstWaiting 8 = .ok (.iload_n 1, 1) := by decide +kernel
theorem d_CK_firstWaiting_9 : decode b_CK_firstWaiting 9 = .ok (.iaload, 1) := by decide +kernel
theorem d_CK_firstWaiting_10 : decode b_CK_firstWaiting 10 = .ok (.iadd, 1) := by decide +kernel
theorem d_CK_firstWaiting_11 : decode b_CK_firstWaiting 11 = .ok (.aload_n 0, 1) := by decide +kernel
theorem d_CK_firstWaiting_12 : decode b_CK_firstWaiting 12 = .ok (.getfield 18, 3) := by decide +kernel
theorem d_CK_firstWaiting_15 : decode b_CK_firstWaiting 15 = .ok (.iload_n 1, 1) := by decide +kernel
theorem d_CK_firstWaiting_16 : decode b_CK_firstWaiting 16 = .ok (.iaload, 1) := by decide +kernel
theorem d_CK_firstWaiting_17 : decode b_CK_firstWaiting 17 = .ok (.isub, 1) := by decide +kernel
theorem d_CK_firstWaiting_18 : decode b_CK_firstWaiting 18 = .ok (.ireturn, 1) := by decide +kernel
theorem d_CI_frontOf_0 : decode b_CI_frontOf 0 = .ok (.iload_n 1, 1) := by decide +kernel
theorem d_CI_frontOf_1 : decode b_CI_frontOf 1 = .ok (.bipush 16, 2) := by decide +kernel
theorem d_CI_frontOf_3 : decode b_CI_frontOf 3 = .ok (.if_icmp .lt 36, 3) := by decide +kernel
theorem d_CI_frontOf_6 : decode b_CI_frontOf 6 = .ok (.iload_n 1, 1) := by decide +kernel
theorem d_CI_frontOf_7 : decode b_CI_frontOf 7 = .ok (.bipush 16, 2) := by decide +kernel
theorem d_CI_frontOf_9 : decode b_CI_frontOf 9 = .ok (.isub, 1) := by decide +kernel
theorem d_CI_frontOf_10 : decode b_CI_frontOf 10 = .ok (.istore_n 2, 1) := by decide +kernel
theorem d_CI_frontOf_11 : decode b_CI_frontOf 11 = .ok (.aload_n 0, 1) := by decide +kernel
theorem d_CI_frontOf_12 : decode b_CI_frontOf 12 = .ok (.getfield 24, 3) := by decide +kernel
theorem d_CI_frontOf_15 : decode b_CI_frontOf 15 = .ok (.iload_n 2, 1) := by decide +kernel
theorem d_CI_frontOf_16 : decode b_CI_frontOf 16 = .ok (.iaload, 1) := by decide +kernel
theorem d_CI_frontOf_17 : decode b_CI_frontOf 17 = .ok (.aload_n 0, 1) := by decide +kernel
theorem d_CI_frontOf_18 : decode b_CI_frontOf 18 = .ok (.getfield 27, 3) := by decide +kernel
theorem d_CI_frontOf_21 : decode b_CI_frontOf 21 = .ok (.iload_n 2, 1) := by decide +kernel
theorem d_CI_frontOf_22 : decode b_CI_frontOf 22 = .ok (.iaload, 1) := by decide +kernel
theorem d_CI_frontOf_23 : decode b_CI_frontOf 23 = .ok (.if_icmp .le 14, 3) := by decide +kernel
theorem d_CI_frontOf_26 : decode b_CI_frontOf 26 = .ok (.aload_n 0, 1) := by decide +kernel
theorem d_CI_frontOf_27 : decode b_CI_frontOf 27 = .ok (.getfield 21, 3) := by decide +kernel
theorem d_CI_frontOf_30 : decode b_CI_frontOf 30 = .ok (.iload_n 2, 1) := by decide +kernel
theorem d_CI_frontOf_31 : decode b_CI_frontOf 31 = .ok (.iconst 4, 1) := by decide +kernel
theorem d_CI_frontOf_32 : decode b_CI_frontOf 32 = .ok (.imul, 1) := by decide +kernel
theorem d_CI_frontOf_33 : decode b_CI_frontOf 33 = .ok (.iaload, 1) := by decide +kernel
theorem d_CI_frontOf_34 : decode b_CI_frontOf 34 = .ok (.goto 4, 3) := by decide +kernel
theorem d_CI_frontOf_37 : decode b_CI_frontOf 37 = .ok (.iconst (-1), 1) := by decide +kernel
theorem d_CI_frontOf_38 : decode b_CI_frontOf 38 = .ok (.ireturn, 1) := by decide +kernel
theorem d_CI_frontOf_39 : decode b_CI_frontOf 39 = .ok (.aload_n 0, 1) := by decide +kernel
theorem d_CI_frontOf_40 : decode b_CI_frontOf 40 = .ok (.getfield 9, 3) := by decide +kernel
theorem d_CI_frontOf_43 : decode b_CI_frontOf 43 = .ok (.iload_n 1, 1) := by decide +kernel
theorem d_CI_frontOf_44 : decode b_CI_frontOf 44 = .ok (.iaload, 1) := by decide +kernel
theorem d_CI_frontOf_45 : decode b_CI_frontOf 45 = .ok (.istore_n 2, 1) := by decide +kernel
theorem d_CI_frontOf_46 : decode b_CI_frontOf 46 = .ok (.iload_n 2, 1) := by decide +kernel
theorem d_CI_frontOf_47 : decode b_CI_frontOf 47 = .ok (.iconst (-1), 1) := by decide +kernel
theorem d_CI_frontOf_48 : decode b_CI_frontOf 48 = .ok (.if_icmp .ne 7, 3) := by decide +kernel
theorem d_CI_frontOf_51 : decode b_CI_frontOf 51 = .ok (.iconst (-1), 1) := by decide +kernel
theorem d_CI_frontOf_52 : decode b_CI_frontOf 52 = .ok (.goto 11, 3) := by decide +kernel
theorem d_CI_frontOf_55 : decode b_CI_frontOf 55 = .ok (.aload_n 0, 1) := by decide +kernel
theorem d_CI_frontOf_56 : decode b_CI_frontOf 56 = .ok (.getfield 34, 3) := by decide +kernel
theorem d_CI_frontOf_59 : decode b_CI_frontOf 59 = .ok (.iload_n 2, 1) := by decide +kernel
theorem d_CI_frontOf_60 : decode b_CI_frontOf 60 = .ok (.invokevirtual 54, 3) := by decide +kernel
theorem d_CI_frontOf_63 : decode b_CI_frontOf 63 = .ok (.ireturn, 1) := by decide +kernel
theorem d_CK_isHead_0 : decode b_CK_isHead 0 = .ok (.iload_n 1, 1) := by decide +kernel
theorem d_CK_isHead_1 : decode b_CK_isHead 1 = .ok (.bipush 16, 2) := by decide +kernel
theorem d_CK_isHead_3 : decode b_CK_isHead 3 = .ok (.irem, 1) := by decide +kernel
theorem d_CK_isHead_4 : decode b_CK_isHead 4 = .ok (.ifCond .ne 7, 3) := by decide +kernel
theorem d_CK_isHead_7 : decode b_CK_isHead 7 = .ok (.iconst 1, 1) := by decide +kernel
theorem d_CK_isHead_8 : decode b_CK_isHead 8 = .ok (.goto 4, 3) := by decide +kernel
theorem d_CK_isHead_11 : decode b_CK_isHead 11 = .ok (.iconst 0, 1) := by decide +kernel
theorem d_CK_isHead_12 : decode b_CK_isHead 12 = .ok (.ireturn, 1) := by decide +kernel
theorem d_CP_endOf_0 : decode b_CP_endOf 0 = .ok (.aload_n 0, 1) := by decide +kernel
theorem d_CP_endOf_1 : decode b_CP_endOf 1 = .ok (.getfield 15, 3) := by decide +kernel
theorem d_CP_endOf_4 : decode b_CP_endOf 4 = .ok (.iload_n 1, 1) := by decide +kernel
theorem d_CP_endOf_5 : decode b_CP_endOf 5 = .ok (.iconst 4, 1) := by decide +kernel
theorem d_CP_endOf_6 : decode b_CP_endOf 6 = .ok (.idiv, 1) := by decide +kernel
theorem d_CP_endOf_7 : decode b_CP_endOf 7 = .ok (.iaload, 1) := by decide +kernel
theorem d_CP_endOf_8 : decode b_CP_endOf 8 = .ok (.ireturn, 1) := by decide +kernel
theorem d_CI_nodeOf_0 : decode b_CI_nodeOf 0 = .ok (.iload_n 1, 1) := by decide +kernel
theorem d_CI_nodeOf_1 : decode b_CI_nodeOf 1 = .ok (.bipush 16, 2) := by decide +kernel
theorem d_CI_nodeOf_3 : decode b_CI_nodeOf 3 = .ok (.if_icmp .ge 7, 3) := by decide +kernel
theorem d_CI_nodeOf_6 : decode b_CI_nodeOf 6 = .ok (.iload_n 1, 1) := by decide +kernel
theorem d_CI_nodeOf_7 : decode b_CI_nodeOf 7 = .ok (.goto 14, 3) := by decide +kernel
theorem d_CI_nodeOf_10 : decode b_CI_nodeOf 10 = .ok (.aload_n 0, 1) := by decide +kernel
theorem d_CI_nodeOf_11 : decode b_CI_nodeOf 11 = .ok (.getfield 30, 3) := by decide +kernel
theorem d_CI_nodeOf_14 : decode b_CI_nodeOf 14 = .ok (.iload_n 1, 1) := by decide +kernel
theorem d_CI_nodeOf_15 : decode b_CI_nodeOf 15 = .ok (.bipush 16, 2) := by decide +kernel
theorem d_CI_nodeOf_17 : decode b_CI_nodeOf 17 = .ok (.isub, 1) := by decide +kernel
theorem d_CI_nodeOf_18 : decode b_CI_nodeOf 18 = .ok (.invokevirtual 50, 3) := by decide +kernel
theorem d_CI_nodeOf_21 : decode b_CI_nodeOf 21 = .ok (.ireturn, 1) := by decide +kernel
theorem d_CK_endOf_0 : decode b_CK_endOf 0 = .ok (.aload_n 0, 1) := by decide +kernel
theorem d_CK_endOf_1 : decode b_CK_endOf 1 = .ok (.getfield 9, 3) := by decide +kernel
theorem d_CK_endOf_4 : decode b_CK_endOf 4 = .ok (.iload_n 1, 1) := by decide +kernel
theorem d_CK_endOf_5 : decode b_CK_endOf 5 = .ok (.bipush 16, 2) := by decide +kernel
theorem d_CK_endOf_7 : decode b_CK_endOf 7 = .ok (.idiv, 1) := by decide +kernel
theorem d_CK_endOf_8 : decode b_CK_endOf 8 = .ok (.iaload, 1) := by decide +kernel
theorem d_CK_endOf_9 : decode b_CK_endOf 9 = .ok (.ireturn, 1) := by decide +kernel
theorem d_CT_channelToGet_0 : decode b_CT_channelToGet 0 = .ok (.aload_n 0, 1) := by decide +kernel
theorem d_CT_channelToGet_1 : decode b_CT_channelToGet 1 = .ok (.getfield 35, 3) := by decide +kernel
theorem d_CT_channelToGet_4 : decode b_CT_channelToGet 4 = .ok (.iload_n 1, 1) := by decide +kernel
theorem d_CT_channelToGet_5 : decode b_CT_channelToGet 5 = .ok (.invokevirtual 72, 3) := by decide +kernel
theorem d_CT_channelToGet_8 : decode b_CT_channelToGet 8 = .ok (.istore_n 2, 1) := by decide +kernel
theorem d_CT_channelToGet_9 : decode b_CT_channelToGet 9 = .ok (.iload_n 2, 1) := by decide +kernel
theorem d_CT_channelToGet_10 : decode b_CT_channelToGet 10 = .ok (.iconst (-1), 1) := by decide +kernel
theorem d_CT_channelToGet_11 : decode b_CT_channelToGet 11 = .ok (.if_icmp .eq 24, 3) := by decide +kernel
