theorem d_CT_channelToGet_14 : decode b_CT_channelToGet 14 = .ok (.aload_n 0, 1) := by decide +kernel
theorem d_CT_channelToGet_15 : decode b_CT_channelToGet 15 = .ok (.getfield 31, 3) := by decide +kernel
theorem d_CT_channelToGet_18 : decode b_CT_channelToGet 18 = .ok (.iload_n 2, 1) := by decide +kernel
theorem d_CT_channelToGet_19 : decode b_CT_channelToGet 19 = .ok (.invokevirtual 102, 3) := by decide +kernel
theorem d_CT_channelToGet_22 : decode b_CT_channelToGet 22 = .ok (.ifCond .eq 13, 3) := by decide +kernel
theorem d_CT_channelToGet_25 : decode b_CT_channelToGet 25 = .ok (.aload_n 0, 1) := by decide +kernel
theorem d_CT_channelToGet_26 : decode b_CT_channelToGet 26 = .ok (.getfield 9, 3) := by decide +kernel
theorem d_CT_channelToGet_29 : decode b_CT_channelToGet 29 = .ok (.iload_n 1, 1) := by decide +kernel
theorem d_CT_channelToGet_30 : decode b_CT_channelToGet 30 = .ok (.iaload, 1) := by decide +kernel
theorem d_CT_channelToGet_31 : decode b_CT_channelToGet 31 = .ok (.iconst (-1), 1) := by decide +kernel
theorem d_CT_channelToGet_32 : decode b_CT_channelToGet 32 = .ok (.if_icmp .eq 5, 3) := by decide +kernel
theorem d_CT_channelToGet_35 : decode b_CT_channelToGet 35 = .ok (.iconst (-1), 1) := by decide +kernel
theorem d_CT_channelToGet_36 : decode b_CT_channelToGet 36 = .ok (.ireturn, 1) := by decide +kernel
theorem d_CT_channelToGet_37 : decode b_CT_channelToGet 37 = .ok (.aload_n 0, 1) := by decide +kernel
theorem d_CT_channelToGet_38 : decode b_CT_channelToGet 38 = .ok (.getfield 27, 3) := by decide +kernel
theorem d_CT_channelToGet_41 : decode b_CT_channelToGet 41 = .ok (.aload_n 0, 1) := by decide +kernel
theorem d_CT_channelToGet_42 : decode b_CT_channelToGet 42 = .ok (.getfield 35, 3) := by decide +kernel
theorem d_CT_channelToGet_45 : decode b_CT_channelToGet 45 = .ok (.iload_n 1, 1) := by decide +kernel
theorem d_CT_channelToGet_46 : decode b_CT_channelToGet 46 = .ok (.invokevirtual 106, 3) := by decide +kernel
theorem d_CT_channelToGet_49 : decode b_CT_channelToGet 49 = .ok (.aload_n 0, 1) := by decide +kernel
theorem d_CT_channelToGet_50 : decode b_CT_channelToGet 50 = .ok (.getfield 31, 3) := by decide +kernel
theorem d_CT_channelToGet_53 : decode b_CT_channelToGet 53 = .ok (.iload_n 2, 1) := by decide +kernel
theorem d_CT_channelToGet_54 : decode b_CT_channelToGet 54 = .ok (.invokevirtual 109, 3) := by decide +kernel
theorem d_CT_channelToGet_57 : decode b_CT_channelToGet 57 = .ok (.invokevirtual 112, 3) := by decide +kernel
theorem d_CT_channelToGet_60 : decode b_CT_channelToGet 60 = .ok (.istore_n 3, 1) := by decide +kernel
theorem d_CT_channelToGet_61 : decode b_CT_channelToGet 61 = .ok (.iload_n 3, 1) := by decide +kernel
theorem d_CT_channelToGet_62 : decode b_CT_channelToGet 62 = .ok (.iconst (-1), 1) := by decide +kernel
theorem d_CT_channelToGet_63 : decode b_CT_channelToGet 63 = .ok (.if_icmp .eq 13, 3) := by decide +kernel
theorem d_CT_channelToGet_66 : decode b_CT_channelToGet 66 = .ok (.aload_n 0, 1) := by decide +kernel
theorem d_CT_channelToGet_67 : decode b_CT_channelToGet 67 = .ok (.getfield 15, 3) := by decide +kernel
theorem d_CT_channelToGet_70 : decode b_CT_channelToGet 70 = .ok (.iload_n 3, 1) := by decide +kernel
theorem d_CT_channelToGet_71 : decode b_CT_channelToGet 71 = .ok (.iaload, 1) := by decide +kernel
theorem d_CT_channelToGet_72 : decode b_CT_channelToGet 72 = .ok (.iconst (-1), 1) := by decide +kernel
theorem d_CT_channelToGet_73 : decode b_CT_channelToGet 73 = .ok (.if_icmp .eq 7, 3) := by decide +kernel
theorem d_CT_channelToGet_76 : decode b_CT_channelToGet 76 = .ok (.iconst (-1), 1) := by decide +kernel
theorem d_CT_channelToGet_77 : decode b_CT_channelToGet 77 = .ok (.goto 4, 3) := by decide +kernel
theorem d_CT_channelToGet_80 : decode b_CT_channelToGet 80 = .ok (.iload_n 3, 1) := by decide +kernel
theorem d_CT_channelToGet_81 : decode b_CT_channelToGet 81 = .ok (.ireturn, 1) := by decide +kernel
theorem d_CK_packetOf_0 : decode b_CK_packetOf 0 = .ok (.iload_n 1, 1) := by decide +kernel
theorem d_CK_packetOf_1 : decode b_CK_packetOf 1 = .ok (.bipush 16, 2) := by decide +kernel
theorem d_CK_packetOf_3 : decode b_CK_packetOf 3 = .ok (.idiv, 1) := by decide +kernel
theorem d_CK_packetOf_4 : decode b_CK_packetOf 4 = .ok (.ireturn, 1) := by decide +kernel
theorem d_CT_askAll_0 : decode b_CT_askAll 0 = .ok (.iconst 0, 1) := by decide +kernel
theorem d_CT_askAll_1 : decode b_CT_askAll 1 = .ok (.istore_n 1, 1) := by decide +kernel
theorem d_CT_askAll_2 : decode b_CT_askAll 2 = .ok (.iconst 0, 1) := by decide +kernel
theorem d_CT_askAll_3 : decode b_CT_askAll 3 = .ok (.istore_n 2, 1) := by decide +kernel
theorem d_CT_askAll_4 : decode b_CT_askAll 4 = .ok (.iload_n 2, 1) := by decide +kernel
theorem d_CT_askAll_5 : decode b_CT_askAll 5 = .ok (.aload_n 0, 1) := by decide +kernel
theorem d_CT_askAll_6 : decode b_CT_askAll 6 = .ok (.getfield 35, 3) := by decide +kernel
theorem d_CT_askAll_9 : decode b_CT_askAll 9 = .ok (.invokevirtual 64, 3) := by decide +kernel
theorem d_CT_askAll_12 : decode b_CT_askAll 12 = .ok (.if_icmp .ge 57, 3) := by decide +kernel
theorem d_CT_askAll_15 : decode b_CT_askAll 15 = .ok (.aload_n 0, 1) := by decide +kernel
theorem d_CT_askAll_16 : decode b_CT_askAll 16 = .ok (.iload_n 2, 1) := by decide +kernel
theorem d_CT_askAll_17 : decode b_CT_askAll 17 = .ok (.invokevirtual 68, 3) := by decide +kernel
theorem d_CT_askAll_20 : decode b_CT_askAll 20 = .ok (.istore_n 3, 1) := by decide +kernel
theorem d_CT_askAll_21 : decode b_CT_askAll 21 = .ok (.iload_n 3, 1) := by decide +kernel
theorem d_CT_askAll_22 : decode b_CT_askAll 22 = .ok (.iconst (-1), 1) := by decide +kernel
theorem d_CT_askAll_23 : decode b_CT_askAll 23 = .ok (.if_icmp .eq 40, 3) := by decide +kernel
theorem d_CT_askAll_26 : decode b_CT_askAll 26 = .ok (.aload_n 0, 1) := by decide +kernel
theorem d_CT_askAll_27 : decode b_CT_askAll 27 = .ok (.getfield 9, 3) := by decide +kernel
theorem d_CT_askAll_30 : decode b_CT_askAll 30 = .ok (.iload_n 2, 1) := by decide +kernel
theorem d_CT_askAll_31 : decode b_CT_askAll 31 = .ok (.iload_n 3, 1) := by decide +kernel
theorem d_CT_askAll_32 : decode b_CT_askAll 32 = .ok (.iastore, 1) := by decide +kernel
theorem d_CT_askAll_33 : decode b_CT_askAll 33 = .ok (.aload_n 0, 1) := by decide +kernel
theorem d_CT_askAll_34 : decode b_CT_askAll 34 = .ok (.getfield 15, 3) := by decide +kernel
theorem d_CT_askAll_37 : decode b_CT_askAll 37 = .ok (.iload_n 3, 1) := by decide +kernel
theorem d_CT_askAll_38 : decode b_CT_askAll 38 = .ok (.iload_n 2, 1) := by decide +kernel
theorem d_CT_askAll_39 : decode b_CT_askAll 39 = .ok (.iastore, 1) := by decide +kernel
theorem d_CT_askAll_40 : decode b_CT_askAll 40 = .ok (.aload_n 0, 1) := by decide +kernel
theorem d_CT_askAll_41 : decode b_CT_askAll 41 = .ok (.getfield 18, 3) := by decide +kernel
theorem d_CT_askAll_44 : decode b_CT_askAll 44 = .ok (.iload_n 3, 1) := by decide +kernel
theorem d_CT_askAll_45 : decode b_CT_askAll 45 = .ok (.aload_n 0, 1) := by decide +kernel
theorem d_CT_askAll_46 : decode b_CT_askAll 46 = .ok (.getfield 31, 3) := by decide +kernel
theorem d_CT_askAll_49 : decode b_CT_askAll 49 = .ok (.aload_n 0, 1) := by decide +kernel
theorem d_CT_askAll_50 : decode b_CT_askAll 50 = .ok (.getfield 35, 3) := by decide +kernel
theorem d_CT_askAll_53 : decode b_CT_askAll 53 = .ok (.iload_n 2, 1) := by decide +kernel
theorem d_CT_askAll_54 : decode b_CT_askAll 54 = .ok (.invokevirtual 72, 3) := by decide +kernel
theorem d_CT_askAll_57 : decode b_CT_askAll 57 = .ok (.invokevirtual 75, 3) := by decide +kernel
theorem d_CT_askAll_60 : decode b_CT_askAll 60 = .ok (.iastore, 1) := by decide +kernel
theorem d_CT_askAll_61 : decode b_CT_askAll 61 = .ok (.iconst 1, 1) := by decide +kernel
theorem d_CT_askAll_62 : decode b_CT_askAll 62 = .ok (.istore_n 1, 1) := by decide +kernel
theorem d_CT_askAll_63 : decode b_CT_askAll 63 = .ok (.iinc 2 1, 3) := by decide +kernel
theorem d_CT_askAll_66 : decode b_CT_askAll 66 = .ok (.goto (-62), 3) := by decide +kernel
theorem d_CT_askAll_69 : decode b_CT_askAll 69 = .ok (.iload_n 1, 1) := by decide +kernel
theorem d_CT_askAll_70 : decode b_CT_askAll 70 = .ok (.ireturn, 1) := by decide +kernel
theorem d_CI_hasRoom_0 : decode b_CI_hasRoom 0 = .ok (.aload_n 0, 1) := by decide +kernel
theorem d_CI_hasRoom_1 : decode b_CI_hasRoom 1 = .ok (.getfield 24, 3) := by decide +kernel
theorem d_CI_hasRoom_4 : decode b_CI_hasRoom 4 = .ok (.iload_n 1, 1) := by decide +kernel
theorem d_CI_hasRoom_5 : decode b_CI_hasRoom 5 = .ok (.iaload, 1) := by decide +kernel
theorem d_CI_hasRoom_6 : decode b_CI_hasRoom 6 = .ok (.iconst 4, 1) := by decide +kernel
theorem d_CI_hasRoom_7 : decode b_CI_hasRoom 7 = .ok (.if_icmp .ge 7, 3) := by decide +kernel
theorem d_CI_hasRoom_10 : decode b_CI_hasRoom 10 = .ok (.iconst 1, 1) := by decide +kernel
theorem d_CI_hasRoom_11 : decode b_CI_hasRoom 11 = .ok (.goto 4, 3) := by decide +kernel
theorem d_CI_hasRoom_14 : decode b_CI_hasRoom 14 = .ok (.iconst 0, 1) := by decide +kernel
theorem d_CI_hasRoom_15 : decode b_CI_hasRoom 15 = .ok (.ireturn, 1) := by decide +kernel
theorem d_CT_canMoveInto_0 : decode b_CT_canMoveInto 0 = .ok (.aload_n 0, 1) := by decide +kernel
theorem d_CT_canMoveInto_1 : decode b_CT_canMoveInto 1 = .ok (.getfield 15, 3) := by decide +kernel
theorem d_CT_canMoveInto_4 : decode b_CT_canMoveInto 4 = .ok (.iload_n 1, 1) := by decide +kernel
theorem d_CT_canMoveInto_5 : decode b_CT_canMoveInto 5 = .ok (.iaload, 1) := by decide +kernel
theorem d_CT_canMoveInto_6 : decode b_CT_canMoveInto 6 = .ok (.istore_n 2, 1) := by decide +kernel
theorem d_CT_canMoveInto_7 : decode b_CT_canMoveInto 7 = .ok (.iload_n 2, 1) := by decide +kernel
theorem d_CT_canMoveInto_8 : decode b_CT_canMoveInto 8 = .ok (.iconst (-1), 1) := by decide +kernel
theorem d_CT_canMoveInto_9 : decode b_CT_canMoveInto 9 = .ok (.if_icmp .eq 30, 3) := by decide +kernel
theorem d_CT_canMoveInto_12 : decode b_CT_canMoveInto 12 = .ok (.aload_n 0, 1) := by decide +kernel
theorem d_CT_canMoveInto_13 : decode b_CT_canMoveInto 13 = .ok (.getfield 35, 3) := by decide +kernel
theorem d_CT_canMoveInto_16 : decode b_CT_canMoveInto 16 = .ok (.iload_n 2, 1) := by decide +kernel
theorem d_CT_canMoveInto_17 : decode b_CT_canMoveInto 17 = .ok (.invokevirtual 72, 3) := by decide +kernel
theorem d_CT_canMoveInto_20 : decode b_CT_canMoveInto 20 = .ok (.iconst (-1), 1) := by decide +kernel
theorem d_CT_canMoveInto_21 : decode b_CT_canMoveInto 21 = .ok (.if_icmp .eq 18, 3) := by decide +kernel
theorem d_CT_canMoveInto_24 : decode b_CT_canMoveInto 24 = .ok (.aload_n 0, 1) := by decide +kernel
theorem d_CT_canMoveInto_25 : decode b_CT_canMoveInto 25 = .ok (.getfield 35, 3) := by decide +kernel
theorem d_CT_canMoveInto_28 : decode b_CT_canMoveInto 28 = .ok (.iload_n 1, 1) := by decide +kernel
theorem d_CT_canMoveInto_29 : decode b_CT_canMoveInto 29 = .ok (.invokevirtual 122, 3) := by decide +kernel
theorem d_CT_canMoveInto_32 : decode b_CT_canMoveInto 32 = .ok (.ifCond .eq 7, 3) := by decide +kernel
theorem d_CT_canMoveInto_35 : decode b_CT_canMoveInto 35 = .ok (.iconst 1, 1) := by decide +kernel
theorem d_CT_canMoveInto_36 : decode b_CT_canMoveInto 36 = .ok (.goto 4, 3) := by decide +kernel
theorem d_CT_canMoveInto_39 : decode b_CT_canMoveInto 39 = .ok (.iconst 0, 1) := by decide +kernel
theorem d_CT_canMoveInto_40 : decode b_CT_canMoveInto 40 = .ok (.ireturn, 1) := by decide +kernel
theorem d_CT_laneToMove_0 : decode b_CT_laneToMove 0 = .ok (.aload_n 0, 1) := by decide +kernel
theorem d_CT_laneToMove_1 : decode b_CT_laneToMove 1 = .ok (.getfield 24, 3) := by decide +kernel
theorem d_CT_laneToMove_4 : decode b_CT_laneToMove 4 = .ok (.iload_n 1, 1) := by decide +kernel
theorem d_CT_laneToMove_5 : decode b_CT_laneToMove 5 = .ok (.iaload, 1) := by decide +kernel
theorem d_CT_laneToMove_6 : decode b_CT_laneToMove 6 = .ok (.istore_n 2, 1) := by decide +kernel
theorem d_CT_laneToMove_7 : decode b_CT_laneToMove 7 = .ok (.iconst 0, 1) := by decide +kernel
theorem d_CT_laneToMove_8 : decode b_CT_laneToMove 8 = .ok (.istore_n 3, 1) := by decide +kernel
theorem d_CT_laneToMove_9 : decode b_CT_laneToMove 9 = .ok (.iload_n 3, 1) := by decide +kernel
theorem d_CT_laneToMove_10 : decode b_CT_laneToMove 10 = .ok (.aload_n 0, 1) := by decide +kernel
theorem d_CT_laneToMove_11 : decode b_CT_laneToMove 11 = .ok (.getfield 27, 3) := by decide +kernel
theorem d_CT_laneToMove_14 : decode b_CT_laneToMove 14 = .ok (.getfield 116, 3) := by decide +kernel
theorem d_CT_laneToMove_17 : decode b_CT_laneToMove 17 = .ok (.iload_n 1, 1) := by decide +kernel
theorem d_CT_laneToMove_18 : decode b_CT_laneToMove 18 = .ok (.iaload, 1) := by decide +kernel
theorem d_CT_laneToMove_19 : decode b_CT_laneToMove 19 = .ok (.if_icmp .ge 46, 3) := by decide +kernel
theorem d_CT_laneToMove_22 : decode b_CT_laneToMove 22 = .ok (.iload_n 2, 1) := by decide +kernel
theorem d_CT_laneToMove_23 : decode b_CT_laneToMove 23 = .ok (.iconst 1, 1) := by decide +kernel
theorem d_CT_laneToMove_24 : decode b_CT_laneToMove 24 = .ok (.iadd, 1) := by decide +kernel
theorem d_CT_laneToMove_25 : decode b_CT_laneToMove 25 = .ok (.aload_n 0, 1) := by decide +kernel
theorem d_CT_laneToMove_26 : decode b_CT_laneToMove 26 = .ok (.getfield 27, 3) := by decide +kernel
theorem d_CT_laneToMove_29 : decode b_CT_laneToMove 29 = .ok (.getfield 116, 3) := by decide +kernel
theorem d_CT_laneToMove_32 : decode b_CT_laneToMove 32 = .ok (.iload_n 1, 1) := by decide +kernel
theorem d_CT_laneToMove_33 : decode b_CT_laneToMove 33 = .ok (.iaload, 1) := by decide +kernel
theorem d_CT_laneToMove_34 : decode b_CT_laneToMove 34 = .ok (.if_icmp .ge 9, 3) := by decide +kernel
theorem d_CT_laneToMove_37 : decode b_CT_laneToMove 37 = .ok (.iload_n 2, 1) := by decide +kernel
theorem d_CT_laneToMove_38 : decode b_CT_laneToMove 38 = .ok (.iconst 1, 1) := by decide +kernel
theorem d_CT_laneToMove_39 : decode b_CT_laneToMove 39 = .ok (.iadd, 1) := by decide +kernel
theorem d_CT_laneToMove_40 : decode b_CT_laneToMove 40 = .ok (.goto 4, 3) := by decide +kernel
theorem d_CT_laneToMove_43 : decode b_CT_laneToMove 43 = .ok (.iconst 0, 1) := by decide +kernel
theorem d_CT_laneToMove_44 : decode b_CT_laneToMove 44 = .ok (.istore_n 2, 1) := by decide +kernel
theorem d_CT_laneToMove_45 : decode b_CT_laneToMove 45 = .ok (.aload_n 0, 1) := by decide +kernel
theorem d_CT_laneToMove_46 : decode b_CT_laneToMove 46 = .ok (.iload_n 1, 1) := by decide +kernel
theorem d_CT_laneToMove_47 : decode b_CT_laneToMove 47 = .ok (.iconst 4, 1) := by decide +kernel
theorem d_CT_laneToMove_48 : decode b_CT_laneToMove 48 = .ok (.imul, 1) := by decide +kernel
theorem d_CT_laneToMove_49 : decode b_CT_laneToMove 49 = .ok (.iload_n 2, 1) := by decide +kernel
theorem d_CT_laneToMove_50 : decode b_CT_laneToMove 50 = .ok (.iadd, 1) := by decide +kernel
theorem d_CT_laneToMove_51 : decode b_CT_laneToMove 51 = .ok (.invokevirtual 119, 3) := by decide +kernel
theorem d_CT_laneToMove_54 : decode b_CT_laneToMove 54 = .ok (.ifCond .eq 5, 3) := by decide +kernel
theorem d_CT_laneToMove_57 : decode b_CT_laneToMove 57 = .ok (.iload_n 2, 1) := by decide +kernel
theorem d_CT_laneToMove_58 : decode b_CT_laneToMove 58 = .ok (.ireturn, 1) := by decide +kernel
theorem d_CT_laneToMove_59 : decode b_CT_laneToMove 59 = .ok (.iinc 3 1, 3) := by decide +kernel
theorem d_CT_laneToMove_62 : decode b_CT_laneToMove 62 = .ok (.goto (-53), 3) := by decide +kernel
theorem d_CT_laneToMove_65 : decode b_CT_laneToMove 65 = .ok (.iconst (-1), 1) := by decide +kernel
theorem d_CT_laneToMove_66 : decode b_CT_laneToMove 66 = .ok (.ireturn, 1) := by decide +kernel
theorem d_CI_dropFromBuffer_0 : decode b_CI_dropFromBuffer 0 = .ok (.iload_n 1, 1) := by decide +kernel
theorem d_CI_dropFromBuffer_1 : decode b_CI_dropFromBuffer 1 = .ok (.iconst 4, 1) := by decide +kernel
theorem d_CI_dropFromBuffer_2 : decode b_CI_dropFromBuffer 2 = .ok (.imul, 1) := by decide +kernel
theorem d_CI_dropFromBuffer_3 : decode b_CI_dropFromBuffer 3 = .ok (.istore_n 2, 1) := by decide +kernel
theorem d_CI_dropFromBuffer_4 : decode b_CI_dropFromBuffer 4 = .ok (.iconst 1, 1) := by decide +kernel
theorem d_CI_dropFromBuffer_5 : decode b_CI_dropFromBuffer 5 = .ok (.istore_n 3, 1) := by decide +kernel
theorem d_CI_dropFromBuffer_6 : decode b_CI_dropFromBuffer 6 = .ok (.iload_n 3, 1) := by decide +kernel
theorem d_CI_dropFromBuffer_7 : decode b_CI_dropFromBuffer 7 = .ok (.aload_n 0, 1) := by decide +kernel
theorem d_CI_dropFromBuffer_8 : decode b_CI_dropFromBuffer 8 = .ok (.getfield 24, 3) := by decide +kernel
theorem d_CI_dropFromBuffer_11 : decode b_CI_dropFromBuffer 11 = .ok (.iload_n 1, 1) := by decide +kernel
theorem d_CI_dropFromBuffer_12 : decode b_CI_dropFromBuffer 12 = .ok (.iaload, 1) := by decide +kernel
theorem d_CI_dropFromBuffer_13 : decode b_CI_dropFromBuffer 13 = .ok (.if_icmp .ge 27, 3) := by decide +kernel
theorem d_CI_dropFromBuffer_16 : decode b_CI_dropFromBuffer 16 = .ok (.aload_n 0, 1) := by decide +kernel
theorem d_CI_dropFromBuffer_17 : decode b_CI_dropFromBuffer 17 = .ok (.getfield 21, 3) := by decide +kernel
theorem d_CI_dropFromBuffer_20 : decode b_CI_dropFromBuffer 20 = .ok (.iload_n 2, 1) := by decide +kernel
theorem d_CI_dropFromBuffer_21 : decode b_CI_dropFromBuffer 21 = .ok (.iload_n 3, 1) := by decide +kernel
theorem d_CI_dropFromBuffer_22 : decode b_CI_dropFromBuffer 22 = .ok (.iadd, 1) := by decide +kernel
theorem d_CI_dropFromBuffer_23 : decode b_CI_dropFromBuffer 23 = .ok (.iconst 1, 1) := by decide +kernel
theorem d_CI_dropFromBuffer_24 : decode b_CI_dropFromBuffer 24 = .ok (.isub, 1) := by decide +kernel
theorem d_CI_dropFromBuffer_25 : decode b_CI_dropFromBuffer 25 = .ok (.aload_n 0, 1) := by decide +kernel
theorem d_CI_dropFromBuffer_26 : decode b_CI_dropFromBuffer 26 = .ok (.getfield 21, 3) := by decide +kernel
theorem d_CI_dropFromBuffer_29 : decode b_CI_dropFromBuffer 29 = .ok (.iload_n 2, 1) := by decide +kernel
theorem d_CI_dropFromBuffer_30 : decode b_CI_dropFromBuffer 30 = .ok (.iload_n 3, 1) := by decide +kernel
theorem d_CI_dropFromBuffer_31 : decode b_CI_dropFromBuffer 31 = .ok (.iadd, 1) := by decide +kernel
theorem d_CI_dropFromBuffer_32 : decode b_CI_dropFromBuffer 32 = .ok (.iaload, 1) := by decide +kernel
theorem d_CI_dropFromBuffer_33 : decode b_CI_dropFromBuffer 33 = .ok (.iastore, 1) := by decide +kernel
theorem d_CI_dropFromBuffer_34 : decode b_CI_dropFromBuffer 34 = .ok (.iinc 3 1, 3) := by decide +kernel
theorem d_CI_dropFromBuffer_37 : decode b_CI_dropFromBuffer 37 = .ok (.goto (-31), 3) := by decide +kernel
theorem d_CI_dropFromBuffer_40 : decode b_CI_dropFromBuffer 40 = .ok (.aload_n 0, 1) := by decide +kernel
theorem d_CI_dropFromBuffer_41 : decode b_CI_dropFromBuffer 41 = .ok (.getfield 24, 3) := by decide +kernel
theorem d_CI_dropFromBuffer_44 : decode b_CI_dropFromBuffer 44 = .ok (.iload_n 1, 1) := by decide +kernel
theorem d_CI_dropFromBuffer_45 : decode b_CI_dropFromBuffer 45 = .ok (.dup2, 1) := by decide +kernel
theorem d_CI_dropFromBuffer_46 : decode b_CI_dropFromBuffer 46 = .ok (.iaload, 1) := by decide +kernel
theorem d_CI_dropFromBuffer_47 : decode b_CI_dropFromBuffer 47 = .ok (.iconst 1, 1) := by decide +kernel
theorem d_CI_dropFromBuffer_48 : decode b_CI_dropFromBuffer 48 = .ok (.isub, 1) := by decide +kernel
theorem d_CI_dropFromBuffer_49 : decode b_CI_dropFromBuffer 49 = .ok (.iastore, 1) := by decide +kernel
theorem d_CI_dropFromBuffer_50 : decode b_CI_dropFromBuffer 50 = .ok (.return_, 1) := by decide +kernel
theorem d_CI_dropFromQueue_0 : decode b_CI_dropFromQueue 0 = .ok (.aload_n 0, 1) := by decide +kernel
theorem d_CI_dropFromQueue_1 : decode b_CI_dropFromQueue 1 = .ok (.getfield 9, 3) := by decide +kernel
theorem d_CI_dropFromQueue_4 : decode b_CI_dropFromQueue 4 = .ok (.iload_n 1, 1) := by decide +kernel
theorem d_CI_dropFromQueue_5 : decode b_CI_dropFromQueue 5 = .ok (.iaload, 1) := by decide +kernel
theorem d_CI_dropFromQueue_6 : decode b_CI_dropFromQueue 6 = .ok (.istore_n 2, 1) := by decide +kernel
theorem d_CI_dropFromQueue_7 : decode b_CI_dropFromQueue 7 = .ok (.iload_n 2, 1) := by decide +kernel
theorem d_CI_dropFromQueue_8 : decode b_CI_dropFromQueue 8 = .ok (.iconst (-1), 1) := by decide +kernel
theorem d_CI_dropFromQueue_9 : decode b_CI_dropFromQueue 9 = .ok (.if_icmp .ne 4, 3) := by decide +kernel
theorem d_CI_dropFromQueue_12 : decode b_CI_dropFromQueue 12 = .ok (.return_, 1) := by decide +kernel
theorem d_CI_dropFromQueue_13 : decode b_CI_dropFromQueue 13 = .ok (.aload_n 0, 1) := by decide +kernel
theorem d_CI_dropFromQueue_14 : decode b_CI_dropFromQueue 14 = .ok (.getfield 34, 3) := by decide +kernel
theorem d_CI_dropFromQueue_17 : decode b_CI_dropFromQueue 17 = .ok (.getfield 69, 3) := by decide +kernel
theorem d_CI_dropFromQueue_20 : decode b_CI_dropFromQueue 20 = .ok (.iload_n 2, 1) := by decide +kernel
theorem d_CI_dropFromQueue_21 : decode b_CI_dropFromQueue 21 = .ok (.dup2, 1) := by decide +kernel
theorem d_CI_dropFromQueue_22 : decode b_CI_dropFromQueue 22 = .ok (.iaload, 1) := by decide +kernel
theorem d_CI_dropFromQueue_23 : decode b_CI_dropFromQueue 23 = .ok (.iconst 1, 1) := by decide +kernel
theorem d_CI_dropFromQueue_24 : decode b_CI_dropFromQueue 24 = .ok (.isub, 1) := by decide +kernel
theorem d_CI_dropFromQueue_25 : decode b_CI_dropFromQueue 25 = .ok (.iastore, 1) := by decide +kernel
theorem d_CI_dropFromQueue_26 : decode b_CI_dropFromQueue 26 = .ok (.aload_n 0, 1) := by decide +kernel
theorem d_CI_dropFromQueue_27 : decode b_CI_dropFromQueue 27 = .ok (.getfield 34, 3) := by decide +kernel
theorem d_CI_dropFromQueue_30 : decode b_CI_dropFromQueue 30 = .ok (.getfield 69, 3) := by decide +kernel
theorem d_CI_dropFromQueue_33 : decode b_CI_dropFromQueue 33 = .ok (.iload_n 2, 1) := by decide +kernel
theorem d_CI_dropFromQueue_34 : decode b_CI_dropFromQueue 34 = .ok (.iaload, 1) := by decide +kernel
theorem d_CI_dropFromQueue_35 : decode b_CI_dropFromQueue 35 = .ok (.ifCond .ne 15, 3) := by decide +kernel
theorem d_CI_dropFromQueue_38 : decode b_CI_dropFromQueue 38 = .ok (.aload_n 0, 1) := by decide +kernel
theorem d_CI_dropFromQueue_39 : decode b_CI_dropFromQueue 39 = .ok (.getfield 9, 3) := by decide +kernel
theorem d_CI_dropFromQueue_42 : decode b_CI_dropFromQueue 42 = .ok (.iload_n 1, 1) := by decide +kernel
theorem d_CI_dropFromQueue_43 : decode b_CI_dropFromQueue 43 = .ok (.aload_n 0, 1) := by decide +kernel
theorem d_CI_dropFromQueue_44 : decode b_CI_dropFromQueue 44 = .ok (.getfield 18, 3) := by decide +kernel
theorem d_CI_dropFromQueue_47 : decode b_CI_dropFromQueue 47 = .ok (.iload_n 2, 1) := by decide +kernel
theorem d_CI_dropFromQueue_48 : decode b_CI_dropFromQueue 48 = .ok (.iaload, 1) := by decide +kernel
theorem d_CI_dropFromQueue_49 : decode b_CI_dropFromQueue 49 = .ok (.iastore, 1) := by decide +kernel
theorem d_CI_dropFromQueue_50 : decode b_CI_dropFromQueue 50 = .ok (.return_, 1) := by decide +kernel
theorem d_CI_dropFront_0 : decode b_CI_dropFront 0 = .ok (.iload_n 1, 1) := by decide +kernel
theorem d_CI_dropFront_1 : decode b_CI_dropFront 1 = .ok (.bipush 16, 2) := by decide +kernel
theorem d_CI_dropFront_3 : decode b_CI_dropFront 3 = .ok (.if_icmp .ge 11, 3) := by decide +kernel
theorem d_CI_dropFront_6 : decode b_CI_dropFront 6 = .ok (.aload_n 0, 1) := by decide +kernel
theorem d_CI_dropFront_7 : decode b_CI_dropFront 7 = .ok (.iload_n 1, 1) := by decide +kernel
theorem d_CI_dropFront_8 : decode b_CI_dropFront 8 = .ok (.invokevirtual 62, 3) := by decide +kernel
theorem d_CI_dropFront_11 : decode b_CI_dropFront 11 = .ok (.goto 11, 3) := by decide +kernel
theorem d_CI_dropFront_14 : decode b_CI_dropFront 14 = .ok (.aload_n 0, 1) := by decide +kernel
theorem d_CI_dropFront_15 : decode b_CI_dropFront 15 = .ok (.iload_n 1, 1) := by decide +kernel
theorem d_CI_dropFront_16 : decode b_CI_dropFront 16 = .ok (.bipush 16, 2) := by decide +kernel
theorem d_CI_dropFront_18 : decode b_CI_dropFront 18 = .ok (.isub, 1) := by decide +kernel
theorem d_CI_dropFront_19 : decode b_CI_dropFront 19 = .ok (.invokevirtual 66, 3) := by decide +kernel
theorem d_CI_dropFront_22 : decode b_CI_dropFront 22 = .ok (.return_, 1) := by decide +kernel
theorem d_CI_put_0 : decode b_CI_put 0 = .ok (.aload_n 0, 1) := by decide +kernel
theorem d_CI_put_1 : decode b_CI_put 1 = .ok (.getfield 21, 3) := by decide +kernel
theorem d_CI_put_4 : decode b_CI_put 4 = .ok (.iload_n 1, 1) := by decide +kernel
theorem d_CI_put_5 : decode b_CI_put 5 = .ok (.iconst 4, 1) := by decide +kernel
theorem d_CI_put_6 : decode b_CI_put 6 = .ok (.imul, 1) := by decide +kernel
theorem d_CI_put_7 : decode b_CI_put 7 = .ok (.aload_n 0, 1) := by decide +kernel
theorem d_CI_put_8 : decode b_CI_put 8 = .ok (.getfield 24, 3) := by decide +kernel
theorem d_CI_put_11 : decode b_CI_put 11 = .ok (.iload_n 1, 1) := by decide +kernel
theorem d_CI_put_12 : decode b_CI_put 12 = .ok (.iaload, 1) := by decide +kernel
theorem d_CI_put_13 : decode b_CI_put 13 = .ok (.iadd, 1) := by decide +kernel
theorem d_CI_put_14 : decode b_CI_put 14 = .ok (.iload_n 2, 1) := by decide +kernel
theorem d_CI_put_15 : decode b_CI_put 15 = .ok (.iastore, 1) := by decide +kernel
theorem d_CI_put_16 : decode b_CI_put 16 = .ok (.aload_n 0, 1) := by decide +kernel
theorem d_CI_put_17 : decode b_CI_put 17 = .ok (.getfield 24, 3) := by decide +kernel
theorem d_CI_put_20 : decode b_CI_put 20 = .ok (.iload_n 1, 1) := by decide +kernel
theorem d_CI_put_21 : decode b_CI_put 21 = .ok (.dup2, 1) := by decide +kernel
theorem d_CI_put_22 : decode b_CI_put 22 = .ok (.iaload, 1) := by decide +kernel
theorem d_CI_put_23 : decode b_CI_put 23 = .ok (.iconst 1, 1) := by decide +kernel
theorem d_CI_put_24 : decode b_CI_put 24 = .ok (.iadd, 1) := by decide +kernel
theorem d_CI_put_25 : decode b_CI_put 25 = .ok (.iastore, 1) := by decide +kernel
theorem d_CI_put_26 : decode b_CI_put 26 = .ok (.aload_n 0, 1) := by decide +kernel
theorem d_CI_put_27 : decode b_CI_put 27 = .ok (.getfield 27, 3) := by decide +kernel
theorem d_CI_put_30 : decode b_CI_put 30 = .ok (.iload_n 1, 1) := by decide +kernel
theorem d_CI_put_31 : decode b_CI_put 31 = .ok (.dup2, 1) := by decide +kernel
theorem d_CI_put_32 : decode b_CI_put 32 = .ok (.iaload, 1) := by decide +kernel
theorem d_CI_put_33 : decode b_CI_put 33 = .ok (.iconst 1, 1) := by decide +kernel
theorem d_CI_put_34 : decode b_CI_put 34 = .ok (.iadd, 1) := by decide +kernel
theorem d_CI_put_35 : decode b_CI_put 35 = .ok (.iastore, 1) := by decide +kernel
theorem d_CI_put_36 : decode b_CI_put 36 = .ok (.return_, 1) := by decide +kernel
theorem d_CK_isTail_0 : decode b_CK_isTail 0 = .ok (.iload_n 1, 1) := by decide +kernel
theorem d_CK_isTail_1 : decode b_CK_isTail 1 = .ok (.bipush 16, 2) := by decide +kernel
theorem d_CK_isTail_3 : decode b_CK_isTail 3 = .ok (.irem, 1) := by decide +kernel
theorem d_CK_isTail_4 : decode b_CK_isTail 4 = .ok (.aload_n 0, 1) := by decide +kernel
theorem d_CK_isTail_5 : decode b_CK_isTail 5 = .ok (.getfield 15, 3) := by decide +kernel
theorem d_CK_isTail_8 : decode b_CK_isTail 8 = .ok (.iload_n 1, 1) := by decide +kernel
theorem d_CK_isTail_9 : decode b_CK_isTail 9 = .ok (.bipush 16, 2) := by decide +kernel
theorem d_CK_isTail_11 : decode b_CK_isTail 11 = .ok (.idiv, 1) := by decide +kernel
theorem d_CK_isTail_12 : decode b_CK_isTail 12 = .ok (.iaload, 1) := by decide +kernel
theorem d_CK_isTail_13 : decode b_CK_isTail 13 = .ok (.iconst 1, 1) := by decide +kernel
theorem d_CK_isTail_14 : decode b_CK_isTail 14 = .ok (.isub, 1) := by decide +kernel
theorem d_CK_isTail_15 : decode b_CK_isTail 15 = .ok (.if_icmp .ne 7, 3) := by decide +kernel
theorem d_CK_isTail_18 : decode b_CK_isTail 18 = .ok (.iconst 1, 1) := by decide +kernel
theorem d_CK_isTail_19 : decode b_CK_isTail 19 = .ok (.goto 4, 3) := by decide +kernel
theorem d_CK_isTail_22 : decode b_CK_isTail 22 = .ok (.iconst 0, 1) := by decide +kernel
theorem d_CK_isTail_23 : decode b_CK_isTail 23 = .ok (.ireturn, 1) := by decide +kernel
theorem d_CT_moveInto_0 : decode b_CT_moveInto 0 = .ok (.aload_n 0, 1) := by decide +kernel
theorem d_CT_moveInto_1 : decode b_CT_moveInto 1 = .ok (.getfield 15, 3) := by decide +kernel
theorem d_CT_moveInto_4 : decode b_CT_moveInto 4 = .ok (.iload_n 1, 1) := by decide +kernel
theorem d_CT_moveInto_5 : decode b_CT_moveInto 5 = .ok (.iaload, 1) := by decide +kernel
theorem d_CT_moveInto_6 : decode b_CT_moveInto 6 = .ok (.istore_n 2, 1) := by decide +kernel
theorem d_CT_moveInto_7 : decode b_CT_moveInto 7 = .ok (.iload_n 2, 1) := by decide +kernel
theorem d_CT_moveInto_8 : decode b_CT_moveInto 8 = .ok (.iconst (-1), 1) := by decide +kernel
theorem d_CT_moveInto_9 : decode b_CT_moveInto 9 = .ok (.if_icmp .ne 7, 3) := by decide +kernel
theorem d_CT_moveInto_12 : decode b_CT_moveInto 12 = .ok (.iconst (-1), 1) := by decide +kernel
theorem d_CT_moveInto_13 : decode b_CT_moveInto 13 = .ok (.goto 11, 3) := by decide +kernel
theorem d_CT_moveInto_16 : decode b_CT_moveInto 16 = .ok (.aload_n 0, 1) := by decide +kernel
theorem d_CT_moveInto_17 : decode b_CT_moveInto 17 = .ok (.getfield 35, 3) := by decide +kernel
theorem d_CT_moveInto_20 : decode b_CT_moveInto 20 = .ok (.iload_n 2, 1) := by decide +kernel
theorem d_CT_moveInto_21 : decode b_CT_moveInto 21 = .ok (.invokevirtual 72, 3) := by decide +kernel
theorem d_CT_moveInto_24 : decode b_CT_moveInto 24 = .ok (.istore_n 3, 1) := by decide +kernel
theorem d_CT_moveInto_25 : decode b_CT_moveInto 25 = .ok (.iload_n 3, 1) := by decide +kernel
theorem d_CT_moveInto_26 : decode b_CT_moveInto 26 = .ok (.iconst (-1), 1) := by decide +kernel
theorem d_CT_moveInto_27 : decode b_CT_moveInto 27 = .ok (.if_icmp .ne 4, 3) := by decide +kernel
theorem d_CT_moveInto_30 : decode b_CT_moveInto 30 = .ok (.return_, 1) := by decide +kernel
theorem d_CT_moveInto_31 : decode b_CT_moveInto 31 = .ok (.aload_n 0, 1) := by decide +kernel
theorem d_CT_moveInto_32 : decode b_CT_moveInto 32 = .ok (.getfield 35, 3) := by decide +kernel
theorem d_CT_moveInto_35 : decode b_CT_moveInto 35 = .ok (.iload_n 2, 1) := by decide +kernel
theorem d_CT_moveInto_36 : decode b_CT_moveInto 36 = .ok (.invokevirtual 99, 3) := by decide +kernel
theorem d_CT_moveInto_39 : decode b_CT_moveInto 39 = .ok (.aload_n 0, 1) := by decide +kernel
theorem d_CT_moveInto_40 : decode b_CT_moveInto 40 = .ok (.getfield 35, 3) := by decide +kernel
theorem d_CT_moveInto_43 : decode b_CT_moveInto 43 = .ok (.iload_n 1, 1) := by decide +kernel
theorem d_CT_moveInto_44 : decode b_CT_moveInto 44 = .ok (.iload_n 3, 1) := by decide +kernel
theorem d_CT_moveInto_45 : decode b_CT_moveInto 45 = .ok (.invokevirtual 125, 3) := by decide +kernel
theorem d_CT_moveInto_48 : decode b_CT_moveInto 48 = .ok (.aload_n 0, 1) := by decide +kernel
theorem d_CT_moveInto_49 : decode b_CT_moveInto 49 = .ok (.getfield 21, 3) := by decide +kernel
theorem d_CT_moveInto_52 : decode b_CT_moveInto 52 = .ok (.iload_n 1, 1) := by decide +kernel
theorem d_CT_moveInto_53 : decode b_CT_moveInto 53 = .ok (.dup2, 1) := by decide +kernel
theorem d_CT_moveInto_54 : decode b_CT_moveInto 54 = .ok (.iaload, 1) := by decide +kernel
theorem d_CT_moveInto_55 : decode b_CT_moveInto 55 = .ok (.iconst 1, 1) := by decide +kernel
theorem d_CT_moveInto_56 : decode b_CT_moveInto 56 = .ok (.iadd, 1) := by decide +kernel
theorem d_CT_moveInto_57 : decode b_CT_moveInto 57 = .ok (.iastore, 1) := by decide +kernel
theorem d_CT_moveInto_58 : decode b_CT_moveInto 58 = .ok (.aload_n 0, 1) := by decide +kernel
theorem d_CT_moveInto_59 : decode b_CT_moveInto 59 = .ok (.dup, 1) := by decide +kernel
theorem d_CT_moveInto_60 : decode b_CT_moveInto 60 = .ok (.getfield 128, 3) := by decide +kernel
theorem d_CT_moveInto_63 : decode b_CT_moveInto 63 = .ok (.iconst 1, 1) := by decide +kernel
theorem d_CT_moveInto_64 : decode b_CT_moveInto 64 = .ok (.iadd, 1) := by decide +kernel
theorem d_CT_moveInto_65 : decode b_CT_moveInto 65 = .ok (.putfield 128, 3) := by decide +kernel
theorem d_CT_moveInto_68 : decode b_CT_moveInto 68 = .ok (.aload_n 0, 1) := by decide +kernel
theorem d_CT_moveInto_69 : decode b_CT_moveInto 69 = .ok (.getfield 31, 3) := by decide +kernel
theorem d_CT_moveInto_72 : decode b_CT_moveInto 72 = .ok (.iload_n 3, 1) := by decide +kernel
theorem d_CT_moveInto_73 : decode b_CT_moveInto 73 = .ok (.invokevirtual 131, 3) := by decide +kernel
theorem d_CT_moveInto_76 : decode b_CT_moveInto 76 = .ok (.ifCond .eq 24, 3) := by decide +kernel
theorem d_CT_moveInto_79 : decode b_CT_moveInto 79 = .ok (.aload_n 0, 1) := by decide +kernel
theorem d_CT_moveInto_80 : decode b_CT_moveInto 80 = .ok (.getfield 9, 3) := by decide +kernel
theorem d_CT_moveInto_83 : decode b_CT_moveInto 83 = .ok (.iload_n 2, 1) := by decide +kernel
theorem d_CT_moveInto_84 : decode b_CT_moveInto 84 = .ok (.iconst (-1), 1) := by decide +kernel
theorem d_CT_moveInto_85 : decode b_CT_moveInto 85 = .ok (.iastore, 1) := by decide +kernel
theorem d_CT_moveInto_86 : decode b_CT_moveInto 86 = .ok (.aload_n 0, 1) := by decide +kernel
theorem d_CT_moveInto_87 : decode b_CT_moveInto 87 = .ok (.getfield 15, 3) := by decide +kernel
theorem d_CT_moveInto_90 : decode b_CT_moveInto 90 = .ok (.iload_n 1, 1) := by decide +kernel
theorem d_CT_moveInto_91 : decode b_CT_moveInto 91 = .ok (.iconst (-1), 1) := by decide +kernel
theorem d_CT_moveInto_92 : decode b_CT_moveInto 92 = .ok (.iastore, 1) := by decide +kernel
theorem d_CT_moveInto_93 : decode b_CT_moveInto 93 = .ok (.aload_n 0, 1) := by decide +kernel
theorem d_CT_moveInto_94 : decode b_CT_moveInto 94 = .ok (.getfield 18, 3) := by decide +kernel
theorem d_CT_moveInto_97 : decode b_CT_moveInto 97 = .ok (.iload_n 1, 1) := by decide +kernel
theorem d_CT_moveInto_98 : decode b_CT_moveInto 98 = .ok (.iconst (-1), 1) := by decide +kernel
theorem d_CT_moveInto_99 : decode b_CT_moveInto 99 = .ok (.iastore, 1) := by decide +kernel
theorem d_CT_moveInto_100 : decode b_CT_moveInto 100 = .ok (.return_, 1) := by decide +kernel
theorem d_CT_moveAll_0 : decode b_CT_moveAll 0 = .ok (.iconst 0, 1) := by decide +kernel
theorem d_CT_moveAll_1 : decode b_CT_moveAll 1 = .ok (.istore_n 1, 1) := by decide +kernel
theorem d_CT_moveAll_2 : decode b_CT_moveAll 2 = .ok (.iconst 0, 1) := by decide +kernel
theorem d_CT_moveAll_3 : decode b_CT_moveAll 3 = .ok (.istore_n 2, 1) := by decide +kernel
theorem d_CT_moveAll_4 : decode b_CT_moveAll 4 = .ok (.iload_n 2, 1) := by decide +kernel
theorem d_CT_moveAll_5 : decode b_CT_moveAll 5 = .ok (.aload_n 0, 1) := by decide +kernel
theorem d_CT_moveAll_6 : decode b_CT_moveAll 6 = .ok (.getfield 27, 3) := by decide +kernel
theorem d_CT_moveAll_9 : decode b_CT_moveAll 9 = .ok (.getfield 80, 3) := by decide +kernel
theorem d_CT_moveAll_12 : decode b_CT_moveAll 12 = .ok (.if_icmp .ge 38, 3) := by decide +kernel
theorem d_CT_moveAll_15 : decode b_CT_moveAll 15 = .ok (.aload_n 0, 1) := by decide +kernel
theorem d_CT_moveAll_16 : decode b_CT_moveAll 16 = .ok (.iload_n 2, 1) := by decide +kernel
theorem d_CT_moveAll_17 : decode b_CT_moveAll 17 = .ok (.invokevirtual 85, 3) := by decide +kernel
theorem d_CT_moveAll_20 : decode b_CT_moveAll 20 = .ok (.istore_n 3, 1) := by decide +kernel
theorem d_CT_moveAll_21 : decode b_CT_moveAll 21 = .ok (.iload_n 3, 1) := by decide +kernel
theorem d_CT_moveAll_22 : decode b_CT_moveAll 22 = .ok (.iconst (-1), 1) := by decide +kernel
theorem d_CT_moveAll_23 : decode b_CT_moveAll 23 = .ok (.if_icmp .eq 21, 3) := by decide +kernel
theorem d_CT_moveAll_26 : decode b_CT_moveAll 26 = .ok (.aload_n 0, 1) := by decide +kernel
theorem d_CT_moveAll_27 : decode b_CT_moveAll 27 = .ok (.getfield 24, 3) := by decide +kernel
theorem d_CT_moveAll_30 : decode b_CT_moveAll 30 = .ok (.iload_n 2, 1) := by decide +kernel
theorem d_CT_moveAll_31 : decode b_CT_moveAll 31 = .ok (.iload_n 3, 1) := by decide +kernel
theorem d_CT_moveAll_32 : decode b_CT_moveAll 32 = .ok (.iastore, 1) := by decide +kernel
theorem d_CT_moveAll_33 : decode b_CT_moveAll 33 = .ok (.aload_n 0, 1) := by decide +kernel
theorem d_CT_moveAll_34 : decode b_CT_moveAll 34 = .ok (.iload_n 2, 1) := by decide +kernel
theorem d_CT_moveAll_35 : decode b_CT_moveAll 35 = .ok (.iconst 4, 1) := by decide +kernel
theorem d_CT_moveAll_36 : decode b_CT_moveAll 36 = .ok (.imul, 1) := by decide +kernel
theorem d_CT_moveAll_37 : decode b_CT_moveAll 37 = .ok (.iload_n 3, 1) := by decide +kernel
theorem d_CT_moveAll_38 : decode b_CT_moveAll 38 = .ok (.iadd, 1) := by decide +kernel
theorem d_CT_moveAll_39 : decode b_CT_moveAll 39 = .ok (.invokevirtual 88, 3) := by decide +kernel
theorem d_CT_moveAll_42 : decode b_CT_moveAll 42 = .ok (.iconst 1, 1) := by decide +kernel
theorem d_CT_moveAll_43 : decode b_CT_moveAll 43 = .ok (.istore_n 1, 1) := by decide +kernel
theorem d_CT_moveAll_44 : decode b_CT_moveAll 44 = .ok (.iinc 2 1, 3) := by decide +kernel
theorem d_CT_moveAll_47 : decode b_CT_moveAll 47 = .ok (.goto (-43), 3) := by decide +kernel
theorem d_CT_moveAll_50 : decode b_CT_moveAll 50 = .ok (.iload_n 1, 1) := by decide +kernel
theorem d_CT_moveAll_51 : decode b_CT_moveAll 51 = .ok (.ireturn, 1) := by decide +kernel
theorem d_CT_flitToLeave_0 : decode b_CT_flitToLeave 0 = .ok (.aload_n 0, 1) := by decide +kernel
theorem d_CT_flitToLeave_1 : decode b_CT_flitToLeave 1 = .ok (.getfield 35, 3) := by decide +kernel
theorem d_CT_flitToLeave_4 : decode b_CT_flitToLeave 4 = .ok (.iload_n 1, 1) := by decide +kernel
theorem d_CT_flitToLeave_5 : decode b_CT_flitToLeave 5 = .ok (.invokevirtual 72, 3) := by decide +kernel
theorem d_CT_flitToLeave_8 : decode b_CT_flitToLeave 8 = .ok (.istore_n 2, 1) := by decide +kernel
theorem d_CT_flitToLeave_9 : decode b_CT_flitToLeave 9 = .ok (.iload_n 2, 1) := by decide +kernel
theorem d_CT_flitToLeave_10 : decode b_CT_flitToLeave 10 = .ok (.iconst (-1), 1) := by decide +kernel
theorem d_CT_flitToLeave_11 : decode b_CT_flitToLeave 11 = .ok (.if_icmp .eq 26, 3) := by decide +kernel
theorem d_CT_flitToLeave_14 : decode b_CT_flitToLeave 14 = .ok (.aload_n 0, 1) := by decide +kernel
theorem d_CT_flitToLeave_15 : decode b_CT_flitToLeave 15 = .ok (.getfield 31, 3) := by decide +kernel
theorem d_CT_flitToLeave_18 : decode b_CT_flitToLeave 18 = .ok (.iload_n 2, 1) := by decide +kernel
theorem d_CT_flitToLeave_19 : decode b_CT_flitToLeave 19 = .ok (.invokevirtual 109, 3) := by decide +kernel
theorem d_CT_flitToLeave_22 : decode b_CT_flitToLeave 22 = .ok (.aload_n 0, 1) := by decide +kernel
theorem d_CT_flitToLeave_23 : decode b_CT_flitToLeave 23 = .ok (.getfield 35, 3) := by decide +kernel
theorem d_CT_flitToLeave_26 : decode b_CT_flitToLeave 26 = .ok (.iload_n 1, 1) := by decide +kernel
theorem d_CT_flitToLeave_27 : decode b_CT_flitToLeave 27 = .ok (.invokevirtual 106, 3) := by decide +kernel
theorem d_CT_flitToLeave_30 : decode b_CT_flitToLeave 30 = .ok (.if_icmp .ne 7, 3) := by decide +kernel
theorem d_CT_flitToLeave_33 : decode b_CT_flitToLeave 33 = .ok (.iload_n 2, 1) := by decide +kernel
theorem d_CT_flitToLeave_34 : decode b_CT_flitToLeave 34 = .ok (.goto 4, 3) := by decide +kernel
theorem d_CT_flitToLeave_37 : decode b_CT_flitToLeave 37 = .ok (.iconst (-1), 1) := by decide +kernel
theorem d_CT_flitToLeave_38 : decode b_CT_flitToLeave 38 = .ok (.ireturn, 1) := by decide +kernel
theorem d_CK_leave_0 : decode b_CK_leave 0 = .ok (.aload_n 0, 1) := by decide +kernel
theorem d_CK_leave_1 : decode b_CK_leave 1 = .ok (.iload_n 1, 1) := by decide +kernel
theorem d_CK_leave_2 : decode b_CK_leave 2 = .ok (.invokevirtual 31, 3) := by decide +kernel
theorem d_CK_leave_5 : decode b_CK_leave 5 = .ok (.istore_n 3, 1) := by decide +kernel
theorem d_CK_leave_6 : decode b_CK_leave 6 = .ok (.aload_n 0, 1) := by decide +kernel
theorem d_CK_leave_7 : decode b_CK_leave 7 = .ok (.getfield 21, 3) := by decide +kernel
theorem d_CK_leave_10 : decode b_CK_leave 10 = .ok (.iload_n 3, 1) := by decide +kernel
theorem d_CK_leave_11 : decode b_CK_leave 11 = .ok (.dup2, 1) := by decide +kernel
theorem d_CK_leave_12 : decode b_CK_leave 12 = .ok (.iaload, 1) := by decide +kernel
theorem d_CK_leave_13 : decode b_CK_leave 13 = .ok (.iconst 1, 1) := by decide +kernel
theorem d_CK_leave_14 : decode b_CK_leave 14 = .ok (.iadd, 1) := by decide +kernel
theorem d_CK_leave_15 : decode b_CK_leave 15 = .ok (.iastore, 1) := by decide +kernel
theorem d_CK_leave_16 : decode b_CK_leave 16 = .ok (.aload_n 0, 1) := by decide +kernel
theorem d_CK_leave_17 : decode b_CK_leave 17 = .ok (.iload_n 1, 1) := by decide +kernel
theorem d_CK_leave_18 : decode b_CK_leave 18 = .ok (.invokevirtual 35, 3) := by decide +kernel
theorem d_CK_leave_21 : decode b_CK_leave 21 = .ok (.ifCond .eq 20, 3) := by decide +kernel
theorem d_CK_leave_24 : decode b_CK_leave 24 = .ok (.aload_n 0, 1) := by decide +kernel
theorem d_CK_leave_25 : decode b_CK_leave 25 = .ok (.getfield 24, 3) := by decide +kernel
theorem d_CK_leave_28 : decode b_CK_leave 28 = .ok (.iload_n 3, 1) := by decide +kernel
theorem d_CK_leave_29 : decode b_CK_leave 29 = .ok (.iload_n 2, 1) := by decide +kernel
theorem d_CK_leave_30 : decode b_CK_leave 30 = .ok (.iastore, 1) := by decide +kernel
theorem d_CK_leave_31 : decode b_CK_leave 31 = .ok (.aload_n 0, 1) := by decide +kernel
theorem d_CK_leave_32 : decode b_CK_leave 32 = .ok (.dup, 1) := by decide +kernel
theorem d_CK_leave_33 : decode b_CK_leave 33 = .ok (.getfield 39, 3) := by decide +kernel
theorem d_CK_leave_36 : decode b_CK_leave 36 = .ok (.iconst 1, 1) := by decide +kernel
theorem d_CK_leave_37 : decode b_CK_leave 37 = .ok (.iadd, 1) := by decide +kernel
theorem d_CK_leave_38 : decode b_CK_leave 38 = .ok (.putfield 39, 3) := by decide +kernel
theorem d_CK_leave_41 : decode b_CK_leave 41 = .ok (.return_, 1) := by decide +kernel
theorem d_CT_leaveAll_0 : decode b_CT_leaveAll 0 = .ok (.iconst 0, 1) := by decide +kernel
theorem d_CT_leaveAll_1 : decode b_CT_leaveAll 1 = .ok (.istore_n 1, 1) := by decide +kernel
theorem d_CT_leaveAll_2 : decode b_CT_leaveAll 2 = .ok (.iconst 0, 1) := by decide +kernel
theorem d_CT_leaveAll_3 : decode b_CT_leaveAll 3 = .ok (.istore_n 2, 1) := by decide +kernel
theorem d_CT_leaveAll_4 : decode b_CT_leaveAll 4 = .ok (.iload_n 2, 1) := by decide +kernel
theorem d_CT_leaveAll_5 : decode b_CT_leaveAll 5 = .ok (.aload_n 0, 1) := by decide +kernel
theorem d_CT_leaveAll_6 : decode b_CT_leaveAll 6 = .ok (.getfield 35, 3) := by decide +kernel
theorem d_CT_leaveAll_9 : decode b_CT_leaveAll 9 = .ok (.invokevirtual 64, 3) := by decide +kernel
theorem d_CT_leaveAll_12 : decode b_CT_leaveAll 12 = .ok (.if_icmp .ge 42, 3) := by decide +kernel
theorem d_CT_leaveAll_15 : decode b_CT_leaveAll 15 = .ok (.aload_n 0, 1) := by decide +kernel
theorem d_CT_leaveAll_16 : decode b_CT_leaveAll 16 = .ok (.iload_n 2, 1) := by decide +kernel
theorem d_CT_leaveAll_17 : decode b_CT_leaveAll 17 = .ok (.invokevirtual 92, 3) := by decide +kernel
theorem d_CT_leaveAll_20 : decode b_CT_leaveAll 20 = .ok (.istore_n 3, 1) := by decide +kernel
theorem d_CT_leaveAll_21 : decode b_CT_leaveAll 21 = .ok (.iload_n 3, 1) := by decide +kernel
theorem d_CT_leaveAll_22 : decode b_CT_leaveAll 22 = .ok (.iconst (-1), 1) := by decide +kernel
theorem d_CT_leaveAll_23 : decode b_CT_leaveAll 23 = .ok (.if_icmp .eq 25, 3) := by decide +kernel
theorem d_CT_leaveAll_26 : decode b_CT_leaveAll 26 = .ok (.aload_n 0, 1) := by decide +kernel
theorem d_CT_leaveAll_27 : decode b_CT_leaveAll 27 = .ok (.getfield 31, 3) := by decide +kernel
theorem d_CT_leaveAll_30 : decode b_CT_leaveAll 30 = .ok (.iload_n 3, 1) := by decide +kernel
theorem d_CT_leaveAll_31 : decode b_CT_leaveAll 31 = .ok (.aload_n 0, 1) := by decide +kernel
theorem d_CT_leaveAll_32 : decode b_CT_leaveAll 32 = .ok (.getfield 45, 3) := by decide +kernel
theorem d_CT_leaveAll_35 : decode b_CT_leaveAll 35 = .ok (.invokevirtual 95, 3) := by decide +kernel
theorem d_CT_leaveAll_38 : decode b_CT_leaveAll 38 = .ok (.aload_n 0, 1) := by decide +kernel
theorem d_CT_leaveAll_39 : decode b_CT_leaveAll 39 = .ok (.getfield 35, 3) := by decide +kernel
theorem d_CT_leaveAll_42 : decode b_CT_leaveAll 42 = .ok (.iload_n 2, 1) := by decide +kernel
theorem d_CT_leaveAll_43 : decode b_CT_leaveAll 43 = .ok (.invokevirtual 99, 3) := by decide +kernel
theorem d_CT_leaveAll_46 : decode b_CT_leaveAll 46 = .ok (.iconst 1, 1) := by decide +kernel
theorem d_CT_leaveAll_47 : decode b_CT_leaveAll 47 = .ok (.istore_n 1, 1) := by decide +kernel
theorem d_CT_leaveAll_48 : decode b_CT_leaveAll 48 = .ok (.iinc 2 1, 3) := by decide +kernel
theorem d_CT_leaveAll_51 : decode b_CT_leaveAll 51 = .ok (.goto (-47), 3) := by decide +kernel
theorem d_CT_leaveAll_54 : decode b_CT_leaveAll 54 = .ok (.iload_n 1, 1) := by decide +kernel
theorem d_CT_leaveAll_55 : decode b_CT_leaveAll 55 = .ok (.ireturn, 1) := by decide +kernel
theorem d_CI_endCycle_0 : decode b_CI_endCycle 0 = .ok (.aload_n 0, 1) := by decide +kernel
theorem d_CI_endCycle_1 : decode b_CI_endCycle 1 = .ok (.getfield 27, 3) := by decide +kernel
theorem d_CI_endCycle_4 : decode b_CI_endCycle 4 = .ok (.iconst 0, 1) := by decide +kernel
theorem d_CI_endCycle_5 : decode b_CI_endCycle 5 = .ok (.invokestatic 38, 3) := by decide +kernel
theorem d_CI_endCycle_8 : decode b_CI_endCycle 8 = .ok (.return_, 1) := by decide +kernel
theorem d_CT_goOneCycle_0 : decode b_CT_goOneCycle 0 = .ok (.aload_n 0, 1) := by decide +kernel
theorem d_CT_goOneCycle_1 : decode b_CT_goOneCycle 1 = .ok (.dup, 1) := by decide +kernel
theorem d_CT_goOneCycle_2 : decode b_CT_goOneCycle 2 = .ok (.getfield 45, 3) := by decide +kernel
theorem d_CT_goOneCycle_5 : decode b_CT_goOneCycle 5 = .ok (.iconst 1, 1) := by decide +kernel
theorem d_CT_goOneCycle_6 : decode b_CT_goOneCycle 6 = .ok (.iadd, 1) := by decide +kernel
theorem d_CT_goOneCycle_7 : decode b_CT_goOneCycle 7 = .ok (.putfield 45, 3) := by decide +kernel
theorem d_CT_goOneCycle_10 : decode b_CT_goOneCycle 10 = .ok (.aload_n 0, 1) := by decide +kernel
theorem d_CT_goOneCycle_11 : decode b_CT_goOneCycle 11 = .ok (.invokevirtual 49, 3) := by decide +kernel
theorem d_CT_goOneCycle_14 : decode b_CT_goOneCycle 14 = .ok (.istore_n 1, 1) := by decide +kernel
theorem d_CT_goOneCycle_15 : decode b_CT_goOneCycle 15 = .ok (.aload_n 0, 1) := by decide +kernel
theorem d_CT_goOneCycle_16 : decode b_CT_goOneCycle 16 = .ok (.invokevirtual 53, 3) := by decide +kernel
theorem d_CT_goOneCycle_19 : decode b_CT_goOneCycle 19 = .ok (.istore_n 2, 1) := by decide +kernel
theorem d_CT_goOneCycle_20 : decode b_CT_goOneCycle 20 = .ok (.aload_n 0, 1) := by decide +kernel
theorem d_CT_goOneCycle_21 : decode b_CT_goOneCycle 21 = .ok (.invokevirtual 56, 3) := by decide +kernel
theorem d_CT_goOneCycle_24 : decode b_CT_goOneCycle 24 = .ok (.istore_n 3, 1) := by decide +kernel
theorem d_CT_goOneCycle_25 : decode b_CT_goOneCycle 25 = .ok (.aload_n 0, 1) := by decide +kernel
theorem d_CT_goOneCycle_26 : decode b_CT_goOneCycle 26 = .ok (.getfield 35, 3) := by decide +kernel
theorem d_CT_goOneCycle_29 : decode b_CT_goOneCycle 29 = .ok (.invokevirtual 59, 3) := by decide +kernel
theorem d_CT_goOneCycle_32 : decode b_CT_goOneCycle 32 = .ok (.iload_n 1, 1) := by decide +kernel
theorem d_CT_goOneCycle_33 : decode b_CT_goOneCycle 33 = .ok (.ifCond .ne 11, 3) := by decide +kernel
theorem d_CT_goOneCycle_36 : decode b_CT_goOneCycle 36 = .ok (.iload_n 2, 1) := by decide +kernel
theorem d_CT_goOneCycle_37 : decode b_CT_goOneCycle 37 = .ok (.ifCond .ne 7, 3) := by decide +kernel
theorem d_CT_goOneCycle_40 : decode b_CT_goOneCycle 40 = .ok (.iload_n 3, 1) := by decide +kernel
theorem d_CT_goOneCycle_41 : decode b_CT_goOneCycle 41 = .ok (.ifCond .eq 7, 3) := by decide +kernel
theorem d_CT_goOneCycle_44 : decode b_CT_goOneCycle 44 = .ok (.iconst 1, 1) := by decide +kernel
theorem d_CT_goOneCycle_45 : decode b_CT_goOneCycle 45 = .ok (.goto 4, 3) := by decide +kernel
theorem d_CT_goOneCycle_48 : decode b_CT_goOneCycle 48 = .ok (.iconst 0, 1) := by decide +kernel
theorem d_CT_goOneCycle_49 : decode b_CT_goOneCycle 49 = .ok (.ireturn, 1) := by decide +kernel
theorem d_CN_run_0 : decode b_CN_run 0 = .ok (.iload_n 1, 1) := by decide +kernel
theorem d_CN_run_1 : decode b_CN_run 1 = .ok (.iconst 1, 1) := by decide +kernel
theorem d_CN_run_2 : decode b_CN_run 2 = .ok (.if_icmp .lt 10, 3) := by decide +kernel
theorem d_CN_run_5 : decode b_CN_run 5 = .ok (.iload_n 1, 1) := by decide +kernel
theorem d_CN_run_6 : decode b_CN_run 6 = .ok (.sipush 2000, 3) := by decide +kernel
theorem d_CN_run_9 : decode b_CN_run 9 = .ok (.if_icmp .le 13, 3) := by decide +kernel
theorem d_CN_run_12 : decode b_CN_run 12 = .ok (.new 68, 3) := by decide +kernel
theorem d_CN_run_15 : decode b_CN_run 15 = .ok (.dup, 1) := by decide +kernel
theorem d_CN_run_16 : decode b_CN_run 16 = .ok (.ldc 146, 2) := by decide +kernel
theorem d_CN_run_18 : decode b_CN_run 18 = .ok (.invokespecial 72, 3) := by decide +kernel
theorem d_CN_run_21 : decode b_CN_run 21 = .ok (.athrow, 1) := by decide +kernel
theorem d_CN_run_22 : decode b_CN_run 22 = .ok (.aload_n 0, 1) := by decide +kernel
theorem d_CN_run_23 : decode b_CN_run 23 = .ok (.getfield 23, 3) := by decide +kernel
theorem d_CN_run_26 : decode b_CN_run 26 = .ok (.getfield 148, 3) := by decide +kernel
theorem d_CN_run_29 : decode b_CN_run 29 = .ok (.istore_n 2, 1) := by decide +kernel
theorem d_CN_run_30 : decode b_CN_run 30 = .ok (.iconst 1, 1) := by decide +kernel
theorem d_CN_run_31 : decode b_CN_run 31 = .ok (.istore_n 3, 1) := by decide +kernel
theorem d_CN_run_32 : decode b_CN_run 32 = .ok (.iconst 0, 1) := by decide +kernel
theorem d_CN_run_33 : decode b_CN_run 33 = .ok (.istore 4, 2) := by decide +kernel
theorem d_CN_run_35 : decode b_CN_run 35 = .ok (.iload 4, 2) := by decide +kernel
theorem d_CN_run_37 : decode b_CN_run 37 = .ok (.iload_n 1, 1) := by decide +kernel
theorem d_CN_run_38 : decode b_CN_run 38 = .ok (.if_icmp .ge 43, 3) := by decide +kernel
theorem d_CN_run_41 : decode b_CN_run 41 = .ok (.iload_n 3, 1) := by decide +kernel
theorem d_CN_run_42 : decode b_CN_run 42 = .ok (.ifCond .eq 39, 3) := by decide +kernel
theorem d_CN_run_45 : decode b_CN_run 45 = .ok (.aload_n 0, 1) := by decide +kernel
theorem d_CN_run_46 : decode b_CN_run 46 = .ok (.getfield 41, 3) := by decide +kernel
theorem d_CN_run_49 : decode b_CN_run 49 = .ok (.invokevirtual 151, 3) := by decide +kernel
theorem d_CN_run_52 : decode b_CN_run 52 = .ok (.istore_n 3, 1) := by decide +kernel
theorem d_CN_run_53 : decode b_CN_run 53 = .ok (.iload_n 3, 1) := by decide +kernel
theorem d_CN_run_54 : decode b_CN_run 54 = .ok (.ifCond .ne 21, 3) := by decide +kernel
theorem d_CN_run_57 : decode b_CN_run 57 = .ok (.aload_n 0, 1) := by decide +kernel
theorem d_CN_run_58 : decode b_CN_run 58 = .ok (.getfield 41, 3) := by decide +kernel
theorem d_CN_run_61 : decode b_CN_run 61 = .ok (.dup, 1) := by decide +kernel
theorem d_CN_run_62 : decode b_CN_run 62 = .ok (.getfield 155, 3) := by decide +kernel
theorem d_CN_run_65 : decode b_CN_run 65 = .ok (.iload_n 1, 1) := by decide +kernel
theorem d_CN_run_66 : decode b_CN_run 66 = .ok (.iload 4, 2) := by decide +kernel
theorem d_CN_run_68 : decode b_CN_run 68 = .ok (.isub, 1) := by decide +kernel
theorem d_CN_run_69 : decode b_CN_run 69 = .ok (.iconst 1, 1) := by decide +kernel
theorem d_CN_run_70 : decode b_CN_run 70 = .ok (.isub, 1) := by decide +kernel
theorem d_CN_run_71 : decode b_CN_run 71 = .ok (.iadd, 1) := by decide +kernel
theorem d_CN_run_72 : decode b_CN_run 72 = .ok (.putfield 155, 3) := by decide +kernel
theorem d_CN_run_75 : decode b_CN_run 75 = .ok (.iinc 4 1, 3) := by decide +kernel
theorem d_CN_run_78 : decode b_CN_run 78 = .ok (.goto (-43), 3) := by decide +kernel
theorem d_CN_run_81 : decode b_CN_run 81 = .ok (.aload_n 0, 1) := by decide +kernel
theorem d_CN_run_82 : decode b_CN_run 82 = .ok (.getfield 23, 3) := by decide +kernel
theorem d_CN_run_85 : decode b_CN_run 85 = .ok (.getfield 148, 3) := by decide +kernel
theorem d_CN_run_88 : decode b_CN_run 88 = .ok (.iload_n 2, 1) := by decide +kernel
theorem d_CN_run_89 : decode b_CN_run 89 = .ok (.isub, 1) := by decide +kernel
theorem d_CN_run_90 : decode b_CN_run 90 = .ok (.ireturn, 1) := by decide +kernel
theorem d_CN_packet_0 : decode b_CN_packet 0 = .ok (.iload_n 1, 1) := by decide +kernel
theorem d_CN_packet_1 : decode b_CN_packet 1 = .ok (.ifCond .lt 14, 3) := by decide +kernel
theorem d_CN_packet_4 : decode b_CN_packet 4 = .ok (.iload_n 1, 1) := by decide +kernel
theorem d_CN_packet_5 : decode b_CN_packet 5 = .ok (.aload_n 0, 1) := by decide +kernel
theorem d_CN_packet_6 : decode b_CN_packet 6 = .ok (.getfield 23, 3) := by decide +kernel
theorem d_CN_packet_9 : decode b_CN_packet 9 = .ok (.getfield 125, 3) := by decide +kernel
theorem d_CN_packet_12 : decode b_CN_packet 12 = .ok (.if_icmp .lt 13, 3) := by decide +kernel
theorem d_CN_packet_15 : decode b_CN_packet 15 = .ok (.new 158, 3) := by decide +kernel
theorem d_CN_packet_18 : decode b_CN_packet 18 = .ok (.dup, 1) := by decide +kernel
theorem d_CN_packet_19 : decode b_CN_packet 19 = .ok (.ldc 160, 2) := by decide +kernel
theorem d_CN_packet_21 : decode b_CN_packet 21 = .ok (.invokespecial 162, 3) := by decide +kernel
theorem d_CN_packet_24 : decode b_CN_packet 24 = .ok (.athrow, 1) := by decide +kernel
theorem d_CN_packet_25 : decode b_CN_packet 25 = .ok (.iload_n 2, 1) := by decide +kernel
theorem d_CN_packet_26 : decode b_CN_packet 26 = .ok (.tableswitch 90 0 3 #[30, 40, 50, 80], 30) := by decide +kernel
theorem d_CN_packet_56 : decode b_CN_packet 56 = .ok (.aload_n 0, 1) := by decide +kernel
theorem d_CN_packet_57 : decode b_CN_packet 57 = .ok (.getfield 23, 3) := by decide +kernel
theorem d_CN_packet_60 : decode b_CN_packet 60 = .ok (.getfield 163, 3) := by decide +kernel
theorem d_CN_packet_63 : decode b_CN_packet 63 = .ok (.iload_n 1, 1) := by decide +kernel
theorem d_CN_packet_64 : decode b_CN_packet 64 = .ok (.iaload, 1) := by decide +kernel
theorem d_CN_packet_65 : decode b_CN_packet 65 = .ok (.ireturn, 1) := by decide +kernel
theorem d_CN_packet_66 : decode b_CN_packet 66 = .ok (.aload_n 0, 1) := by decide +kernel
theorem d_CN_packet_67 : decode b_CN_packet 67 = .ok (.getfield 23, 3) := by decide +kernel
theorem d_CN_packet_70 : decode b_CN_packet 70 = .ok (.getfield 167, 3) := by decide +kernel
theorem d_CN_packet_73 : decode b_CN_packet 73 = .ok (.iload_n 1, 1) := by decide +kernel
theorem d_CN_packet_74 : decode b_CN_packet 74 = .ok (.iaload, 1) := by decide +kernel
theorem d_CN_packet_75 : decode b_CN_packet 75 = .ok (.ireturn, 1) := by decide +kernel
theorem d_CN_packet_76 : decode b_CN_packet 76 = .ok (.aload_n 0, 1) := by decide +kernel
theorem d_CN_packet_77 : decode b_CN_packet 77 = .ok (.getfield 23, 3) := by decide +kernel
theorem d_CN_packet_80 : decode b_CN_packet 80 = .ok (.getfield 170, 3) := by decide +kernel
theorem d_CN_packet_83 : decode b_CN_packet 83 = .ok (.iload_n 1, 1) := by decide +kernel
theorem d_CN_packet_84 : decode b_CN_packet 84 = .ok (.iaload, 1) := by decide +kernel
theorem d_CN_packet_85 : decode b_CN_packet 85 = .ok (.aload_n 0, 1) := by decide +kernel
theorem d_CN_packet_86 : decode b_CN_packet 86 = .ok (.getfield 23, 3) := by decide +kernel
theorem d_CN_packet_89 : decode b_CN_packet 89 = .ok (.getfield 167, 3) := by decide +kernel
theorem d_CN_packet_92 : decode b_CN_packet 92 = .ok (.iload_n 1, 1) := by decide +kernel
theorem d_CN_packet_93 : decode b_CN_packet 93 = .ok (.iaload, 1) := by decide +kernel
theorem d_CN_packet_94 : decode b_CN_packet 94 = .ok (.isub, 1) := by decide +kernel
theorem d_CN_packet_95 : decode b_CN_packet 95 = .ok (.aload_n 0, 1) := by decide +kernel
theorem d_CN_packet_96 : decode b_CN_packet 96 = .ok (.getfield 23, 3) := by decide +kernel
theorem d_CN_packet_99 : decode b_CN_packet 99 = .ok (.getfield 173, 3) := by decide +kernel
theorem d_CN_packet_102 : decode b_CN_packet 102 = .ok (.iload_n 1, 1) := by decide +kernel
theorem d_CN_packet_103 : decode b_CN_packet 103 = .ok (.iaload, 1) := by decide +kernel
theorem d_CN_packet_104 : decode b_CN_packet 104 = .ok (.isub, 1) := by decide +kernel
theorem d_CN_packet_105 : decode b_CN_packet 105 = .ok (.ireturn, 1) := by decide +kernel
theorem d_CN_packet_106 : decode b_CN_packet 106 = .ok (.aload_n 0, 1) := by decide +kernel
theorem d_CN_packet_107 : decode b_CN_packet 107 = .ok (.getfield 23, 3) := by decide +kernel
theorem d_CN_packet_110 : decode b_CN_packet 110 = .ok (.getfield 173, 3) := by decide +kernel
theorem d_CN_packet_113 : decode b_CN_packet 113 = .ok (.iload_n 1, 1) := by decide +kernel
theorem d_CN_packet_114 : decode b_CN_packet 114 = .ok (.iaload, 1) := by decide +kernel
theorem d_CN_packet_115 : decode b_CN_packet 115 = .ok (.ireturn, 1) := by decide +kernel
theorem d_CN_packet_116 : decode b_CN_packet 116 = .ok (.new 158, 3) := by decide +kernel
theorem d_CN_packet_119 : decode b_CN_packet 119 = .ok (.dup, 1) := by decide +kernel
theorem d_CN_packet_120 : decode b_CN_packet 120 = .ok (.ldc 176, 2) := by decide +kernel
theorem d_CN_packet_122 : decode b_CN_packet 122 = .ok (.invokespecial 162, 3) := by decide +kernel
theorem d_CN_packet_125 : decode b_CN_packet 125 = .ok (.athrow, 1) := by decide +kernel
theorem d_CI_frontPacketIn_0 : decode b_CI_frontPacketIn 0 = .ok (.aload_n 0, 1) := by decide +kernel
theorem d_CI_frontPacketIn_1 : decode b_CI_frontPacketIn 1 = .ok (.getfield 24, 3) := by decide +kernel
theorem d_CI_frontPacketIn_4 : decode b_CI_frontPacketIn 4 = .ok (.iload_n 1, 1) := by decide +kernel
theorem d_CI_frontPacketIn_5 : decode b_CI_frontPacketIn 5 = .ok (.iaload, 1) := by decide +kernel
theorem d_CI_frontPacketIn_6 : decode b_CI_frontPacketIn 6 = .ok (.ifCond .le 21, 3) := by decide +kernel
theorem d_CI_frontPacketIn_9 : decode b_CI_frontPacketIn 9 = .ok (.aload_n 0, 1) := by decide +kernel
theorem d_CI_frontPacketIn_10 : decode b_CI_frontPacketIn 10 = .ok (.getfield 34, 3) := by decide +kernel
theorem d_CI_frontPacketIn_13 : decode b_CI_frontPacketIn 13 = .ok (.aload_n 0, 1) := by decide +kernel
theorem d_CI_frontPacketIn_14 : decode b_CI_frontPacketIn 14 = .ok (.getfield 21, 3) := by decide +kernel
theorem d_CI_frontPacketIn_17 : decode b_CI_frontPacketIn 17 = .ok (.iload_n 1, 1) := by decide +kernel
theorem d_CI_frontPacketIn_18 : decode b_CI_frontPacketIn 18 = .ok (.iconst 4, 1) := by decide +kernel
theorem d_CI_frontPacketIn_19 : decode b_CI_frontPacketIn 19 = .ok (.imul, 1) := by decide +kernel
theorem d_CI_frontPacketIn_20 : decode b_CI_frontPacketIn 20 = .ok (.iaload, 1) := by decide +kernel
theorem d_CI_frontPacketIn_21 : decode b_CI_frontPacketIn 21 = .ok (.invokevirtual 59, 3) := by decide +kernel
theorem d_CI_frontPacketIn_24 : decode b_CI_frontPacketIn 24 = .ok (.goto 4, 3) := by decide +kernel
theorem d_CI_frontPacketIn_27 : decode b_CI_frontPacketIn 27 = .ok (.iconst (-1), 1) := by decide +kernel
theorem d_CI_frontPacketIn_28 : decode b_CI_frontPacketIn 28 = .ok (.ireturn, 1) := by decide +kernel
theorem d_CN_channel_0 : decode b_CN_channel 0 = .ok (.aload_n 0, 1) := by decide +kernel
theorem d_CN_channel_1 : decode b_CN_channel 1 = .ok (.getfield 16, 3) := by decide +kernel
theorem d_CN_channel_4 : decode b_CN_channel 4 = .ok (.iload_n 1, 1) := by decide +kernel
theorem d_CN_channel_5 : decode b_CN_channel 5 = .ok (.invokevirtual 178, 3) := by decide +kernel
theorem d_CN_channel_8 : decode b_CN_channel 8 = .ok (.ifCond .ne 13, 3) := by decide +kernel
theorem d_CN_channel_11 : decode b_CN_channel 11 = .ok (.new 158, 3) := by decide +kernel
theorem d_CN_channel_14 : decode b_CN_channel 14 = .ok (.dup, 1) := by decide +kernel
theorem d_CN_channel_15 : decode b_CN_channel 15 = .ok (.ldc 181, 2) := by decide +kernel
theorem d_CN_channel_17 : decode b_CN_channel 17 = .ok (.invokespecial 162, 3) := by decide +kernel
theorem d_CN_channel_20 : decode b_CN_channel 20 = .ok (.athrow, 1) := by decide +kernel
theorem d_CN_channel_21 : decode b_CN_channel 21 = .ok (.iload_n 2, 1) := by decide +kernel
theorem d_CN_channel_22 : decode b_CN_channel 22 = .ok (.tableswitch 69 0 3 #[30, 40, 50, 59], 30) := by decide +kernel
theorem d_CN_channel_52 : decode b_CN_channel 52 = .ok (.aload_n 0, 1) := by decide +kernel
theorem d_CN_channel_53 : decode b_CN_channel 53 = .ok (.getfield 32, 3) := by decide +kernel
theorem d_CN_channel_56 : decode b_CN_channel 56 = .ok (.getfield 183, 3) := by decide +kernel
theorem d_CN_channel_59 : decode b_CN_channel 59 = .ok (.iload_n 1, 1) := by decide +kernel
theorem d_CN_channel_60 : decode b_CN_channel 60 = .ok (.iaload, 1) := by decide +kernel
theorem d_CN_channel_61 : decode b_CN_channel 61 = .ok (.ireturn, 1) := by decide +kernel
theorem d_CN_channel_62 : decode b_CN_channel 62 = .ok (.aload_n 0, 1) := by decide +kernel
theorem d_CN_channel_63 : decode b_CN_channel 63 = .ok (.getfield 41, 3) := by decide +kernel
theorem d_CN_channel_66 : decode b_CN_channel 66 = .ok (.getfield 186, 3) := by decide +kernel
theorem d_CN_channel_69 : decode b_CN_channel 69 = .ok (.iload_n 1, 1) := by decide +kernel
theorem d_CN_channel_70 : decode b_CN_channel 70 = .ok (.iaload, 1) := by decide +kernel
theorem d_CN_channel_71 : decode b_CN_channel 71 = .ok (.ireturn, 1) := by decide +kernel
theorem d_CN_channel_72 : decode b_CN_channel 72 = .ok (.aload_n 0, 1) := by decide +kernel
theorem d_CN_channel_73 : decode b_CN_channel 73 = .ok (.getfield 32, 3) := by decide +kernel
theorem d_CN_channel_76 : decode b_CN_channel 76 = .ok (.iload_n 1, 1) := by decide +kernel
theorem d_CN_channel_77 : decode b_CN_channel 77 = .ok (.invokevirtual 189, 3) := by decide +kernel
theorem d_CN_channel_80 : decode b_CN_channel 80 = .ok (.ireturn, 1) := by decide +kernel
theorem d_CN_channel_81 : decode b_CN_channel 81 = .ok (.aload_n 0, 1) := by decide +kernel
theorem d_CN_channel_82 : decode b_CN_channel 82 = .ok (.getfield 41, 3) := by decide +kernel
theorem d_CN_channel_85 : decode b_CN_channel 85 = .ok (.getfield 192, 3) := by decide +kernel
theorem d_CN_channel_88 : decode b_CN_channel 88 = .ok (.iload_n 1, 1) := by decide +kernel
theorem d_CN_channel_89 : decode b_CN_channel 89 = .ok (.iaload, 1) := by decide +kernel
theorem d_CN_channel_90 : decode b_CN_channel 90 = .ok (.ireturn, 1) := by decide +kernel
theorem d_CN_channel_91 : decode b_CN_channel 91 = .ok (.new 158, 3) := by decide +kernel
theorem d_CN_channel_94 : decode b_CN_channel 94 = .ok (.dup, 1) := by decide +kernel
theorem d_CN_channel_95 : decode b_CN_channel 95 = .ok (.ldc 195, 2) := by decide +kernel
theorem d_CN_channel_97 : decode b_CN_channel 97 = .ok (.invokespecial 162, 3) := by decide +kernel
theorem d_CN_channel_100 : decode b_CN_channel 100 = .ok (.athrow, 1) := by decide +kernel
theorem d_CR_channelAfter_0 : decode b_CR_channelAfter 0 = .ok (.iload_n 1, 1) := by decide +kernel
theorem d_CR_channelAfter_1 : decode b_CR_channelAfter 1 = .ok (.iconst (-1), 1) := by decide +kernel
theorem d_CR_channelAfter_2 : decode b_CR_channelAfter 2 = .ok (.if_icmp .ne 7, 3) := by decide +kernel
theorem d_CR_channelAfter_5 : decode b_CR_channelAfter 5 = .ok (.iconst (-1), 1) := by decide +kernel
theorem d_CR_channelAfter_6 : decode b_CR_channelAfter 6 = .ok (.goto 19, 3) := by decide +kernel
theorem d_CR_channelAfter_9 : decode b_CR_channelAfter 9 = .ok (.aload_n 0, 1) := by decide +kernel
theorem d_CR_channelAfter_10 : decode b_CR_channelAfter 10 = .ok (.getfield 24, 3) := by decide +kernel
theorem d_CR_channelAfter_13 : decode b_CR_channelAfter 13 = .ok (.aload_n 0, 1) := by decide +kernel
theorem d_CR_channelAfter_14 : decode b_CR_channelAfter 14 = .ok (.getfield 24, 3) := by decide +kernel
theorem d_CR_channelAfter_17 : decode b_CR_channelAfter 17 = .ok (.iload_n 1, 1) := by decide +kernel
theorem d_CR_channelAfter_18 : decode b_CR_channelAfter 18 = .ok (.invokevirtual 63, 3) := by decide +kernel
theorem d_CR_channelAfter_21 : decode b_CR_channelAfter 21 = .ok (.iload_n 2, 1) := by decide +kernel
theorem d_CR_channelAfter_22 : decode b_CR_channelAfter 22 = .ok (.invokevirtual 56, 3) := by decide +kernel
theorem d_CR_channelAfter_25 : decode b_CR_channelAfter 25 = .ok (.ireturn, 1) := by decide +kernel
theorem d_CR_gatherSteps_0 : decode b_CR_gatherSteps 0 = .ok (.aload_n 0, 1) := by decide +kernel
theorem d_CR_gatherSteps_1 : decode b_CR_gatherSteps 1 = .ok (.getfield 9, 3) := by decide +kernel
theorem d_CR_gatherSteps_4 : decode b_CR_gatherSteps 4 = .ok (.iconst (-1), 1) := by decide +kernel
theorem d_CR_gatherSteps_5 : decode b_CR_gatherSteps 5 = .ok (.invokestatic 47, 3) := by decide +kernel
theorem d_CR_gatherSteps_8 : decode b_CR_gatherSteps 8 = .ok (.iconst 0, 1) := by decide +kernel
theorem d_CR_gatherSteps_9 : decode b_CR_gatherSteps 9 = .ok (.istore_n 1, 1) := by decide +kernel
theorem d_CR_gatherSteps_10 : decode b_CR_gatherSteps 10 = .ok (.iload_n 1, 1) := by decide +kernel
theorem d_CR_gatherSteps_11 : decode b_CR_gatherSteps 11 = .ok (.aload_n 0, 1) := by decide +kernel
theorem d_CR_gatherSteps_12 : decode b_CR_gatherSteps 12 = .ok (.getfield 24, 3) := by decide +kernel
theorem d_CR_gatherSteps_15 : decode b_CR_gatherSteps 15 = .ok (.getfield 53, 3) := by decide +kernel
theorem d_CR_gatherSteps_18 : decode b_CR_gatherSteps 18 = .ok (.if_icmp .ge 77, 3) := by decide +kernel
theorem d_CR_gatherSteps_21 : decode b_CR_gatherSteps 21 = .ok (.iconst 0, 1) := by decide +kernel
theorem d_CR_gatherSteps_22 : decode b_CR_gatherSteps 22 = .ok (.istore_n 2, 1) := by decide +kernel
theorem d_CR_gatherSteps_23 : decode b_CR_gatherSteps 23 = .ok (.iload_n 2, 1) := by decide +kernel
theorem d_CR_gatherSteps_24 : decode b_CR_gatherSteps 24 = .ok (.aload_n 0, 1) := by decide +kernel
theorem d_CR_gatherSteps_25 : decode b_CR_gatherSteps 25 = .ok (.getfield 24, 3) := by decide +kernel
theorem d_CR_gatherSteps_28 : decode b_CR_gatherSteps 28 = .ok (.getfield 53, 3) := by decide +kernel
theorem d_CR_gatherSteps_31 : decode b_CR_gatherSteps 31 = .ok (.if_icmp .ge 58, 3) := by decide +kernel
theorem d_CR_gatherSteps_34 : decode b_CR_gatherSteps 34 = .ok (.aload_n 0, 1) := by decide +kernel
theorem d_CR_gatherSteps_35 : decode b_CR_gatherSteps 35 = .ok (.aload_n 0, 1) := by decide +kernel
theorem d_CR_gatherSteps_36 : decode b_CR_gatherSteps 36 = .ok (.getfield 24, 3) := by decide +kernel
theorem d_CR_gatherSteps_39 : decode b_CR_gatherSteps 39 = .ok (.iload_n 1, 1) := by decide +kernel
theorem d_CR_gatherSteps_40 : decode b_CR_gatherSteps 40 = .ok (.iload_n 2, 1) := by decide +kernel
theorem d_CR_gatherSteps_41 : decode b_CR_gatherSteps 41 = .ok (.invokevirtual 56, 3) := by decide +kernel
theorem d_CR_gatherSteps_44 : decode b_CR_gatherSteps 44 = .ok (.iload_n 2, 1) := by decide +kernel
