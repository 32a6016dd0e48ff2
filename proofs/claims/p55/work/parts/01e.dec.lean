theorem dX8_add_48 : decode cX8_add 48 = .ok (.getfield 27, 3) := by decide +kernel
theorem dX8_add_51 : decode cX8_add 51 = .ok (.iconst 1, 1) := by decide +kernel
theorem dX8_add_52 : decode cX8_add 52 = .ok (.iadd, 1) := by decide +kernel
theorem dX8_add_53 : decode cX8_add 53 = .ok (.putfield 27, 3) := by decide +kernel
theorem dX8_add_56 : decode cX8_add 56 = .ok (.iload 4, 2) := by decide +kernel
theorem dX8_add_58 : decode cX8_add 58 = .ok (.ireturn, 1) := by decide +kernel
theorem dX8_weightOf_0 : decode cX8_weightOf 0 = .ok (.aload_n 0, 1) := by decide +kernel
theorem dX8_weightOf_1 : decode cX8_weightOf 1 = .ok (.getfield 9, 3) := by decide +kernel
theorem dX8_weightOf_4 : decode cX8_weightOf 4 = .ok (.iload_n 1, 1) := by decide +kernel
theorem dX8_weightOf_5 : decode cX8_weightOf 5 = .ok (.iaload, 1) := by decide +kernel
theorem dX8_weightOf_6 : decode cX8_weightOf 6 = .ok (.ireturn, 1) := by decide +kernel
theorem dX8_hazardOf_0 : decode cX8_hazardOf 0 = .ok (.aload_n 0, 1) := by decide +kernel
theorem dX8_hazardOf_1 : decode cX8_hazardOf 1 = .ok (.getfield 15, 3) := by decide +kernel
theorem dX8_hazardOf_4 : decode cX8_hazardOf 4 = .ok (.iload_n 1, 1) := by decide +kernel
theorem dX8_hazardOf_5 : decode cX8_hazardOf 5 = .ok (.iaload, 1) := by decide +kernel
theorem dX8_hazardOf_6 : decode cX8_hazardOf 6 = .ok (.ireturn, 1) := by decide +kernel
theorem dX8_destinationOf_0 : decode cX8_destinationOf 0 = .ok (.aload_n 0, 1) := by decide +kernel
theorem dX8_destinationOf_1 : decode cX8_destinationOf 1 = .ok (.getfield 18, 3) := by decide +kernel
theorem dX8_destinationOf_4 : decode cX8_destinationOf 4 = .ok (.iload_n 1, 1) := by decide +kernel
theorem dX8_destinationOf_5 : decode cX8_destinationOf 5 = .ok (.iaload, 1) := by decide +kernel
theorem dX8_destinationOf_6 : decode cX8_destinationOf 6 = .ok (.ireturn, 1) := by decide +kernel
theorem dX8_whereIs_0 : decode cX8_whereIs 0 = .ok (.aload_n 0, 1) := by decide +kernel
theorem dX8_whereIs_1 : decode cX8_whereIs 1 = .ok (.getfield 21, 3) := by decide +kernel
theorem dX8_whereIs_4 : decode cX8_whereIs 4 = .ok (.iload_n 1, 1) := by decide +kernel
theorem dX8_whereIs_5 : decode cX8_whereIs 5 = .ok (.iaload, 1) := by decide +kernel
theorem dX8_whereIs_6 : decode cX8_whereIs 6 = .ok (.ireturn, 1) := by decide +kernel
theorem dX8_returnsOf_0 : decode cX8_returnsOf 0 = .ok (.aload_n 0, 1) := by decide +kernel
theorem dX8_returnsOf_1 : decode cX8_returnsOf 1 = .ok (.getfield 24, 3) := by decide +kernel
theorem dX8_returnsOf_4 : decode cX8_returnsOf 4 = .ok (.iload_n 1, 1) := by decide +kernel
theorem dX8_returnsOf_5 : decode cX8_returnsOf 5 = .ok (.iaload, 1) := by decide +kernel
theorem dX8_returnsOf_6 : decode cX8_returnsOf 6 = .ok (.ireturn, 1) := by decide +kernel
theorem dX8_stateOf_0 : decode cX8_stateOf 0 = .ok (.aload_n 0, 1) := by decide +kernel
theorem dX8_stateOf_1 : decode cX8_stateOf 1 = .ok (.getfield 21, 3) := by decide +kernel
theorem dX8_stateOf_4 : decode cX8_stateOf 4 = .ok (.iload_n 1, 1) := by decide +kernel
theorem dX8_stateOf_5 : decode cX8_stateOf 5 = .ok (.iaload, 1) := by decide +kernel
theorem dX8_stateOf_6 : decode cX8_stateOf 6 = .ok (.iconst (-1), 1) := by decide +kernel
theorem dX8_stateOf_7 : decode cX8_stateOf 7 = .ok (.if_icmp .ne 6, 3) := by decide +kernel
theorem dX8_stateOf_10 : decode cX8_stateOf 10 = .ok (.bipush 119, 2) := by decide +kernel
theorem dX8_stateOf_12 : decode cX8_stateOf 12 = .ok (.ireturn, 1) := by decide +kernel
theorem dX8_stateOf_13 : decode cX8_stateOf 13 = .ok (.aload_n 0, 1) := by decide +kernel
theorem dX8_stateOf_14 : decode cX8_stateOf 14 = .ok (.getfield 21, 3) := by decide +kernel
theorem dX8_stateOf_17 : decode cX8_stateOf 17 = .ok (.iload_n 1, 1) := by decide +kernel
theorem dX8_stateOf_18 : decode cX8_stateOf 18 = .ok (.iaload, 1) := by decide +kernel
theorem dX8_stateOf_19 : decode cX8_stateOf 19 = .ok (.bipush (-2), 2) := by decide +kernel
theorem dX8_stateOf_21 : decode cX8_stateOf 21 = .ok (.if_icmp .ne 8, 3) := by decide +kernel
theorem dX8_stateOf_24 : decode cX8_stateOf 24 = .ok (.bipush 100, 2) := by decide +kernel
theorem dX8_stateOf_26 : decode cX8_stateOf 26 = .ok (.goto 5, 3) := by decide +kernel
theorem dX8_stateOf_29 : decode cX8_stateOf 29 = .ok (.bipush 115, 2) := by decide +kernel
theorem dX8_stateOf_31 : decode cX8_stateOf 31 = .ok (.ireturn, 1) := by decide +kernel
theorem dX8_move_0 : decode cX8_move 0 = .ok (.aload_n 0, 1) := by decide +kernel
theorem dX8_move_1 : decode cX8_move 1 = .ok (.getfield 21, 3) := by decide +kernel
theorem dX8_move_4 : decode cX8_move 4 = .ok (.iload_n 1, 1) := by decide +kernel
theorem dX8_move_5 : decode cX8_move 5 = .ok (.iload_n 2, 1) := by decide +kernel
theorem dX8_move_6 : decode cX8_move 6 = .ok (.iastore, 1) := by decide +kernel
theorem dX8_move_7 : decode cX8_move 7 = .ok (.return_, 1) := by decide +kernel
theorem dX8_returnToDepot_0 : decode cX8_returnToDepot 0 = .ok (.aload_n 0, 1) := by decide +kernel
theorem dX8_returnToDepot_1 : decode cX8_returnToDepot 1 = .ok (.getfield 21, 3) := by decide +kernel
theorem dX8_returnToDepot_4 : decode cX8_returnToDepot 4 = .ok (.iload_n 1, 1) := by decide +kernel
theorem dX8_returnToDepot_5 : decode cX8_returnToDepot 5 = .ok (.iconst (-1), 1) := by decide +kernel
theorem dX8_returnToDepot_6 : decode cX8_returnToDepot 6 = .ok (.iastore, 1) := by decide +kernel
theorem dX8_returnToDepot_7 : decode cX8_returnToDepot 7 = .ok (.aload_n 0, 1) := by decide +kernel
theorem dX8_returnToDepot_8 : decode cX8_returnToDepot 8 = .ok (.getfield 24, 3) := by decide +kernel
theorem dX8_returnToDepot_11 : decode cX8_returnToDepot 11 = .ok (.iload_n 1, 1) := by decide +kernel
theorem dX8_returnToDepot_12 : decode cX8_returnToDepot 12 = .ok (.dup2, 1) := by decide +kernel
theorem dX8_returnToDepot_13 : decode cX8_returnToDepot 13 = .ok (.iaload, 1) := by decide +kernel
theorem dX8_returnToDepot_14 : decode cX8_returnToDepot 14 = .ok (.iconst 1, 1) := by decide +kernel
theorem dX8_returnToDepot_15 : decode cX8_returnToDepot 15 = .ok (.iadd, 1) := by decide +kernel
theorem dX8_returnToDepot_16 : decode cX8_returnToDepot 16 = .ok (.iastore, 1) := by decide +kernel
theorem dX8_returnToDepot_17 : decode cX8_returnToDepot 17 = .ok (.aload_n 0, 1) := by decide +kernel
theorem dX8_returnToDepot_18 : decode cX8_returnToDepot 18 = .ok (.getfield 15, 3) := by decide +kernel
theorem dX8_returnToDepot_21 : decode cX8_returnToDepot 21 = .ok (.iload_n 1, 1) := by decide +kernel
theorem dX8_returnToDepot_22 : decode cX8_returnToDepot 22 = .ok (.iaload, 1) := by decide +kernel
theorem dX8_returnToDepot_23 : decode cX8_returnToDepot 23 = .ok (.iconst 3, 1) := by decide +kernel
theorem dX8_returnToDepot_24 : decode cX8_returnToDepot 24 = .ok (.if_icmp .ge 13, 3) := by decide +kernel
theorem dX8_returnToDepot_27 : decode cX8_returnToDepot 27 = .ok (.aload_n 0, 1) := by decide +kernel
theorem dX8_returnToDepot_28 : decode cX8_returnToDepot 28 = .ok (.getfield 15, 3) := by decide +kernel
theorem dX8_returnToDepot_31 : decode cX8_returnToDepot 31 = .ok (.iload_n 1, 1) := by decide +kernel
theorem dX8_returnToDepot_32 : decode cX8_returnToDepot 32 = .ok (.dup2, 1) := by decide +kernel
theorem dX8_returnToDepot_33 : decode cX8_returnToDepot 33 = .ok (.iaload, 1) := by decide +kernel
theorem dX8_returnToDepot_34 : decode cX8_returnToDepot 34 = .ok (.iconst 1, 1) := by decide +kernel
theorem dX8_returnToDepot_35 : decode cX8_returnToDepot 35 = .ok (.iadd, 1) := by decide +kernel
theorem dX8_returnToDepot_36 : decode cX8_returnToDepot 36 = .ok (.iastore, 1) := by decide +kernel
theorem dX8_returnToDepot_37 : decode cX8_returnToDepot 37 = .ok (.aload_n 0, 1) := by decide +kernel
theorem dX8_returnToDepot_38 : decode cX8_returnToDepot 38 = .ok (.getfield 15, 3) := by decide +kernel
theorem dX8_returnToDepot_41 : decode cX8_returnToDepot 41 = .ok (.iload_n 1, 1) := by decide +kernel
theorem dX8_returnToDepot_42 : decode cX8_returnToDepot 42 = .ok (.iaload, 1) := by decide +kernel
theorem dX8_returnToDepot_43 : decode cX8_returnToDepot 43 = .ok (.ireturn, 1) := by decide +kernel
theorem dX8_deliverFrom_0 : decode cX8_deliverFrom 0 = .ok (.iconst 0, 1) := by decide +kernel
theorem dX8_deliverFrom_1 : decode cX8_deliverFrom 1 = .ok (.istore_n 3, 1) := by decide +kernel
theorem dX8_deliverFrom_2 : decode cX8_deliverFrom 2 = .ok (.iconst 0, 1) := by decide +kernel
theorem dX8_deliverFrom_3 : decode cX8_deliverFrom 3 = .ok (.istore 4, 2) := by decide +kernel
theorem dX8_deliverFrom_5 : decode cX8_deliverFrom 5 = .ok (.iload 4, 2) := by decide +kernel
theorem dX8_deliverFrom_7 : decode cX8_deliverFrom 7 = .ok (.aload_n 0, 1) := by decide +kernel
theorem dX8_deliverFrom_8 : decode cX8_deliverFrom 8 = .ok (.getfield 27, 3) := by decide +kernel
theorem dX8_deliverFrom_11 : decode cX8_deliverFrom 11 = .ok (.if_icmp .ge 43, 3) := by decide +kernel
theorem dX8_deliverFrom_14 : decode cX8_deliverFrom 14 = .ok (.aload_n 0, 1) := by decide +kernel
theorem dX8_deliverFrom_15 : decode cX8_deliverFrom 15 = .ok (.getfield 21, 3) := by decide +kernel
theorem dX8_deliverFrom_18 : decode cX8_deliverFrom 18 = .ok (.iload 4, 2) := by decide +kernel
theorem dX8_deliverFrom_20 : decode cX8_deliverFrom 20 = .ok (.iaload, 1) := by decide +kernel
theorem dX8_deliverFrom_21 : decode cX8_deliverFrom 21 = .ok (.iload_n 1, 1) := by decide +kernel
theorem dX8_deliverFrom_22 : decode cX8_deliverFrom 22 = .ok (.if_icmp .ne 26, 3) := by decide +kernel
theorem dX8_deliverFrom_25 : decode cX8_deliverFrom 25 = .ok (.aload_n 0, 1) := by decide +kernel
theorem dX8_deliverFrom_26 : decode cX8_deliverFrom 26 = .ok (.getfield 18, 3) := by decide +kernel
theorem dX8_deliverFrom_29 : decode cX8_deliverFrom 29 = .ok (.iload 4, 2) := by decide +kernel
theorem dX8_deliverFrom_31 : decode cX8_deliverFrom 31 = .ok (.iaload, 1) := by decide +kernel
theorem dX8_deliverFrom_32 : decode cX8_deliverFrom 32 = .ok (.iload_n 2, 1) := by decide +kernel
theorem dX8_deliverFrom_33 : decode cX8_deliverFrom 33 = .ok (.if_icmp .ne 15, 3) := by decide +kernel
theorem dX8_deliverFrom_36 : decode cX8_deliverFrom 36 = .ok (.aload_n 0, 1) := by decide +kernel
theorem dX8_deliverFrom_37 : decode cX8_deliverFrom 37 = .ok (.getfield 21, 3) := by decide +kernel
theorem dX8_deliverFrom_40 : decode cX8_deliverFrom 40 = .ok (.iload 4, 2) := by decide +kernel
theorem dX8_deliverFrom_42 : decode cX8_deliverFrom 42 = .ok (.bipush (-2), 2) := by decide +kernel
theorem dX8_deliverFrom_44 : decode cX8_deliverFrom 44 = .ok (.iastore, 1) := by decide +kernel
theorem dX8_deliverFrom_45 : decode cX8_deliverFrom 45 = .ok (.iinc 3 1, 3) := by decide +kernel
theorem dX8_deliverFrom_48 : decode cX8_deliverFrom 48 = .ok (.iinc 4 1, 3) := by decide +kernel
theorem dX8_deliverFrom_51 : decode cX8_deliverFrom 51 = .ok (.goto (-46), 3) := by decide +kernel
theorem dX8_deliverFrom_54 : decode cX8_deliverFrom 54 = .ok (.iload_n 3, 1) := by decide +kernel
theorem dX8_deliverFrom_55 : decode cX8_deliverFrom 55 = .ok (.ireturn, 1) := by decide +kernel
theorem dX8_countAt_0 : decode cX8_countAt 0 = .ok (.iconst 0, 1) := by decide +kernel
theorem dX8_countAt_1 : decode cX8_countAt 1 = .ok (.istore_n 2, 1) := by decide +kernel
theorem dX8_countAt_2 : decode cX8_countAt 2 = .ok (.iconst 0, 1) := by decide +kernel
theorem dX8_countAt_3 : decode cX8_countAt 3 = .ok (.istore_n 3, 1) := by decide +kernel
theorem dX8_countAt_4 : decode cX8_countAt 4 = .ok (.iload_n 3, 1) := by decide +kernel
theorem dX8_countAt_5 : decode cX8_countAt 5 = .ok (.aload_n 0, 1) := by decide +kernel
theorem dX8_countAt_6 : decode cX8_countAt 6 = .ok (.getfield 27, 3) := by decide +kernel
theorem dX8_countAt_9 : decode cX8_countAt 9 = .ok (.if_icmp .ge 22, 3) := by decide +kernel
theorem dX8_countAt_12 : decode cX8_countAt 12 = .ok (.aload_n 0, 1) := by decide +kernel
theorem dX8_countAt_13 : decode cX8_countAt 13 = .ok (.getfield 21, 3) := by decide +kernel
theorem dX8_countAt_16 : decode cX8_countAt 16 = .ok (.iload_n 3, 1) := by decide +kernel
theorem dX8_countAt_17 : decode cX8_countAt 17 = .ok (.iaload, 1) := by decide +kernel
theorem dX8_countAt_18 : decode cX8_countAt 18 = .ok (.iload_n 1, 1) := by decide +kernel
theorem dX8_countAt_19 : decode cX8_countAt 19 = .ok (.if_icmp .ne 6, 3) := by decide +kernel
theorem dX8_countAt_22 : decode cX8_countAt 22 = .ok (.iinc 2 1, 3) := by decide +kernel
theorem dX8_countAt_25 : decode cX8_countAt 25 = .ok (.iinc 3 1, 3) := by decide +kernel
theorem dX8_countAt_28 : decode cX8_countAt 28 = .ok (.goto (-24), 3) := by decide +kernel
theorem dX8_countAt_31 : decode cX8_countAt 31 = .ok (.iload_n 2, 1) := by decide +kernel
theorem dX8_countAt_32 : decode cX8_countAt 32 = .ok (.ireturn, 1) := by decide +kernel
theorem dX8_weightAt_0 : decode cX8_weightAt 0 = .ok (.iconst 0, 1) := by decide +kernel
theorem dX8_weightAt_1 : decode cX8_weightAt 1 = .ok (.istore_n 2, 1) := by decide +kernel
theorem dX8_weightAt_2 : decode cX8_weightAt 2 = .ok (.iconst 0, 1) := by decide +kernel
theorem dX8_weightAt_3 : decode cX8_weightAt 3 = .ok (.istore_n 3, 1) := by decide +kernel
theorem dX8_weightAt_4 : decode cX8_weightAt 4 = .ok (.iload_n 3, 1) := by decide +kernel
theorem dX8_weightAt_5 : decode cX8_weightAt 5 = .ok (.aload_n 0, 1) := by decide +kernel
theorem dX8_weightAt_6 : decode cX8_weightAt 6 = .ok (.getfield 27, 3) := by decide +kernel
theorem dX8_weightAt_9 : decode cX8_weightAt 9 = .ok (.if_icmp .ge 28, 3) := by decide +kernel
theorem dX8_weightAt_12 : decode cX8_weightAt 12 = .ok (.aload_n 0, 1) := by decide +kernel
theorem dX8_weightAt_13 : decode cX8_weightAt 13 = .ok (.getfield 21, 3) := by decide +kernel
theorem dX8_weightAt_16 : decode cX8_weightAt 16 = .ok (.iload_n 3, 1) := by decide +kernel
theorem dX8_weightAt_17 : decode cX8_weightAt 17 = .ok (.iaload, 1) := by decide +kernel
theorem dX8_weightAt_18 : decode cX8_weightAt 18 = .ok (.iload_n 1, 1) := by decide +kernel
theorem dX8_weightAt_19 : decode cX8_weightAt 19 = .ok (.if_icmp .ne 12, 3) := by decide +kernel
theorem dX8_weightAt_22 : decode cX8_weightAt 22 = .ok (.iload_n 2, 1) := by decide +kernel
theorem dX8_weightAt_23 : decode cX8_weightAt 23 = .ok (.aload_n 0, 1) := by decide +kernel
theorem dX8_weightAt_24 : decode cX8_weightAt 24 = .ok (.getfield 9, 3) := by decide +kernel
theorem dX8_weightAt_27 : decode cX8_weightAt 27 = .ok (.iload_n 3, 1) := by decide +kernel
theorem dX8_weightAt_28 : decode cX8_weightAt 28 = .ok (.iaload, 1) := by decide +kernel
theorem dX8_weightAt_29 : decode cX8_weightAt 29 = .ok (.iadd, 1) := by decide +kernel
theorem dX8_weightAt_30 : decode cX8_weightAt 30 = .ok (.istore_n 2, 1) := by decide +kernel
theorem dX8_weightAt_31 : decode cX8_weightAt 31 = .ok (.iinc 3 1, 3) := by decide +kernel
theorem dX8_weightAt_34 : decode cX8_weightAt 34 = .ok (.goto (-30), 3) := by decide +kernel
theorem dX8_weightAt_37 : decode cX8_weightAt 37 = .ok (.iload_n 2, 1) := by decide +kernel
theorem dX8_weightAt_38 : decode cX8_weightAt 38 = .ok (.ireturn, 1) := by decide +kernel
theorem dX8_waitingOfHazard_0 : decode cX8_waitingOfHazard 0 = .ok (.iconst 0, 1) := by decide +kernel
theorem dX8_waitingOfHazard_1 : decode cX8_waitingOfHazard 1 = .ok (.istore_n 2, 1) := by decide +kernel
theorem dX8_waitingOfHazard_2 : decode cX8_waitingOfHazard 2 = .ok (.iconst 0, 1) := by decide +kernel
theorem dX8_waitingOfHazard_3 : decode cX8_waitingOfHazard 3 = .ok (.istore_n 3, 1) := by decide +kernel
theorem dX8_waitingOfHazard_4 : decode cX8_waitingOfHazard 4 = .ok (.iload_n 3, 1) := by decide +kernel
theorem dX8_waitingOfHazard_5 : decode cX8_waitingOfHazard 5 = .ok (.aload_n 0, 1) := by decide +kernel
theorem dX8_waitingOfHazard_6 : decode cX8_waitingOfHazard 6 = .ok (.getfield 27, 3) := by decide +kernel
theorem dX8_waitingOfHazard_9 : decode cX8_waitingOfHazard 9 = .ok (.if_icmp .ge 32, 3) := by decide +kernel
theorem dX8_waitingOfHazard_12 : decode cX8_waitingOfHazard 12 = .ok (.aload_n 0, 1) := by decide +kernel
theorem dX8_waitingOfHazard_13 : decode cX8_waitingOfHazard 13 = .ok (.getfield 21, 3) := by decide +kernel
theorem dX8_waitingOfHazard_16 : decode cX8_waitingOfHazard 16 = .ok (.iload_n 3, 1) := by decide +kernel
theorem dX8_waitingOfHazard_17 : decode cX8_waitingOfHazard 17 = .ok (.iaload, 1) := by decide +kernel
theorem dX8_waitingOfHazard_18 : decode cX8_waitingOfHazard 18 = .ok (.iconst (-1), 1) := by decide +kernel
theorem dX8_waitingOfHazard_19 : decode cX8_waitingOfHazard 19 = .ok (.if_icmp .ne 16, 3) := by decide +kernel
theorem dX8_waitingOfHazard_22 : decode cX8_waitingOfHazard 22 = .ok (.aload_n 0, 1) := by decide +kernel
theorem dX8_waitingOfHazard_23 : decode cX8_waitingOfHazard 23 = .ok (.getfield 15, 3) := by decide +kernel
theorem dX8_waitingOfHazard_26 : decode cX8_waitingOfHazard 26 = .ok (.iload_n 3, 1) := by decide +kernel
theorem dX8_waitingOfHazard_27 : decode cX8_waitingOfHazard 27 = .ok (.iaload, 1) := by decide +kernel
theorem dX8_waitingOfHazard_28 : decode cX8_waitingOfHazard 28 = .ok (.iload_n 1, 1) := by decide +kernel
theorem dX8_waitingOfHazard_29 : decode cX8_waitingOfHazard 29 = .ok (.if_icmp .ne 6, 3) := by decide +kernel
theorem dX8_waitingOfHazard_32 : decode cX8_waitingOfHazard 32 = .ok (.iinc 2 1, 3) := by decide +kernel
theorem dX8_waitingOfHazard_35 : decode cX8_waitingOfHazard 35 = .ok (.iinc 3 1, 3) := by decide +kernel
theorem dX8_waitingOfHazard_38 : decode cX8_waitingOfHazard 38 = .ok (.goto (-34), 3) := by decide +kernel
theorem dX8_waitingOfHazard_41 : decode cX8_waitingOfHazard 41 = .ok (.iload_n 2, 1) := by decide +kernel
theorem dX8_waitingOfHazard_42 : decode cX8_waitingOfHazard 42 = .ok (.ireturn, 1) := by decide +kernel
theorem dX8_waitingOfWeight_0 : decode cX8_waitingOfWeight 0 = .ok (.iconst 0, 1) := by decide +kernel
theorem dX8_waitingOfWeight_1 : decode cX8_waitingOfWeight 1 = .ok (.istore_n 2, 1) := by decide +kernel
theorem dX8_waitingOfWeight_2 : decode cX8_waitingOfWeight 2 = .ok (.iconst 0, 1) := by decide +kernel
theorem dX8_waitingOfWeight_3 : decode cX8_waitingOfWeight 3 = .ok (.istore_n 3, 1) := by decide +kernel
theorem dX8_waitingOfWeight_4 : decode cX8_waitingOfWeight 4 = .ok (.iload_n 3, 1) := by decide +kernel
theorem dX8_waitingOfWeight_5 : decode cX8_waitingOfWeight 5 = .ok (.aload_n 0, 1) := by decide +kernel
theorem dX8_waitingOfWeight_6 : decode cX8_waitingOfWeight 6 = .ok (.getfield 27, 3) := by decide +kernel
theorem dX8_waitingOfWeight_9 : decode cX8_waitingOfWeight 9 = .ok (.if_icmp .ge 32, 3) := by decide +kernel
theorem dX8_waitingOfWeight_12 : decode cX8_waitingOfWeight 12 = .ok (.aload_n 0, 1) := by decide +kernel
theorem dX8_waitingOfWeight_13 : decode cX8_waitingOfWeight 13 = .ok (.getfield 21, 3) := by decide +kernel
theorem dX8_waitingOfWeight_16 : decode cX8_waitingOfWeight 16 = .ok (.iload_n 3, 1) := by decide +kernel
theorem dX8_waitingOfWeight_17 : decode cX8_waitingOfWeight 17 = .ok (.iaload, 1) := by decide +kernel
theorem dX8_waitingOfWeight_18 : decode cX8_waitingOfWeight 18 = .ok (.iconst (-1), 1) := by decide +kernel
theorem dX8_waitingOfWeight_19 : decode cX8_waitingOfWeight 19 = .ok (.if_icmp .ne 16, 3) := by decide +kernel
theorem dX8_waitingOfWeight_22 : decode cX8_waitingOfWeight 22 = .ok (.aload_n 0, 1) := by decide +kernel
theorem dX8_waitingOfWeight_23 : decode cX8_waitingOfWeight 23 = .ok (.getfield 9, 3) := by decide +kernel
theorem dX8_waitingOfWeight_26 : decode cX8_waitingOfWeight 26 = .ok (.iload_n 3, 1) := by decide +kernel
theorem dX8_waitingOfWeight_27 : decode cX8_waitingOfWeight 27 = .ok (.iaload, 1) := by decide +kernel
theorem dX8_waitingOfWeight_28 : decode cX8_waitingOfWeight 28 = .ok (.iload_n 1, 1) := by decide +kernel
theorem dX8_waitingOfWeight_29 : decode cX8_waitingOfWeight 29 = .ok (.if_icmp .ne 6, 3) := by decide +kernel
theorem dX8_waitingOfWeight_32 : decode cX8_waitingOfWeight 32 = .ok (.iinc 2 1, 3) := by decide +kernel
theorem dX8_waitingOfWeight_35 : decode cX8_waitingOfWeight 35 = .ok (.iinc 3 1, 3) := by decide +kernel
theorem dX8_waitingOfWeight_38 : decode cX8_waitingOfWeight 38 = .ok (.goto (-34), 3) := by decide +kernel
theorem dX8_waitingOfWeight_41 : decode cX8_waitingOfWeight 41 = .ok (.iload_n 2, 1) := by decide +kernel
theorem dX8_waitingOfWeight_42 : decode cX8_waitingOfWeight 42 = .ok (.ireturn, 1) := by decide +kernel
theorem dX8_sumOfHazards_0 : decode cX8_sumOfHazards 0 = .ok (.iconst 0, 1) := by decide +kernel
theorem dX8_sumOfHazards_1 : decode cX8_sumOfHazards 1 = .ok (.istore_n 1, 1) := by decide +kernel
theorem dX8_sumOfHazards_2 : decode cX8_sumOfHazards 2 = .ok (.iconst 0, 1) := by decide +kernel
theorem dX8_sumOfHazards_3 : decode cX8_sumOfHazards 3 = .ok (.istore_n 2, 1) := by decide +kernel
theorem dX8_sumOfHazards_4 : decode cX8_sumOfHazards 4 = .ok (.iload_n 2, 1) := by decide +kernel
theorem dX8_sumOfHazards_5 : decode cX8_sumOfHazards 5 = .ok (.aload_n 0, 1) := by decide +kernel
theorem dX8_sumOfHazards_6 : decode cX8_sumOfHazards 6 = .ok (.getfield 27, 3) := by decide +kernel
theorem dX8_sumOfHazards_9 : decode cX8_sumOfHazards 9 = .ok (.if_icmp .ge 18, 3) := by decide +kernel
theorem dX8_sumOfHazards_12 : decode cX8_sumOfHazards 12 = .ok (.iload_n 1, 1) := by decide +kernel
theorem dX8_sumOfHazards_13 : decode cX8_sumOfHazards 13 = .ok (.aload_n 0, 1) := by decide +kernel
theorem dX8_sumOfHazards_14 : decode cX8_sumOfHazards 14 = .ok (.getfield 15, 3) := by decide +kernel
theorem dX8_sumOfHazards_17 : decode cX8_sumOfHazards 17 = .ok (.iload_n 2, 1) := by decide +kernel
theorem dX8_sumOfHazards_18 : decode cX8_sumOfHazards 18 = .ok (.iaload, 1) := by decide +kernel
theorem dX8_sumOfHazards_19 : decode cX8_sumOfHazards 19 = .ok (.iadd, 1) := by decide +kernel
theorem dX8_sumOfHazards_20 : decode cX8_sumOfHazards 20 = .ok (.istore_n 1, 1) := by decide +kernel
theorem dX8_sumOfHazards_21 : decode cX8_sumOfHazards 21 = .ok (.iinc 2 1, 3) := by decide +kernel
theorem dX8_sumOfHazards_24 : decode cX8_sumOfHazards 24 = .ok (.goto (-20), 3) := by decide +kernel
theorem dX8_sumOfHazards_27 : decode cX8_sumOfHazards 27 = .ok (.iload_n 1, 1) := by decide +kernel
theorem dX8_sumOfHazards_28 : decode cX8_sumOfHazards 28 = .ok (.ireturn, 1) := by decide +kernel
theorem dX8_atRank_0 : decode cX8_atRank 0 = .ok (.iconst 0, 1) := by decide +kernel
theorem dX8_atRank_1 : decode cX8_atRank 1 = .ok (.istore_n 2, 1) := by decide +kernel
theorem dX8_atRank_2 : decode cX8_atRank 2 = .ok (.iload_n 2, 1) := by decide +kernel
theorem dX8_atRank_3 : decode cX8_atRank 3 = .ok (.aload_n 0, 1) := by decide +kernel
theorem dX8_atRank_4 : decode cX8_atRank 4 = .ok (.getfield 27, 3) := by decide +kernel
theorem dX8_atRank_7 : decode cX8_atRank 7 = .ok (.if_icmp .ge 31, 3) := by decide +kernel
theorem dX8_atRank_10 : decode cX8_atRank 10 = .ok (.aload_n 0, 1) := by decide +kernel
theorem dX8_atRank_11 : decode cX8_atRank 11 = .ok (.getfield 21, 3) := by decide +kernel
theorem dX8_atRank_14 : decode cX8_atRank 14 = .ok (.iload_n 2, 1) := by decide +kernel
theorem dX8_atRank_15 : decode cX8_atRank 15 = .ok (.iaload, 1) := by decide +kernel
theorem dX8_atRank_16 : decode cX8_atRank 16 = .ok (.bipush (-2), 2) := by decide +kernel
theorem dX8_atRank_18 : decode cX8_atRank 18 = .ok (.if_icmp .eq 14, 3) := by decide +kernel
theorem dX8_atRank_21 : decode cX8_atRank 21 = .ok (.aload_n 0, 1) := by decide +kernel
theorem dX8_atRank_22 : decode cX8_atRank 22 = .ok (.iload_n 2, 1) := by decide +kernel
theorem dX8_atRank_23 : decode cX8_atRank 23 = .ok (.invokevirtual 37, 3) := by decide +kernel
theorem dX8_atRank_26 : decode cX8_atRank 26 = .ok (.iload_n 1, 1) := by decide +kernel
theorem dX8_atRank_27 : decode cX8_atRank 27 = .ok (.if_icmp .ne 5, 3) := by decide +kernel
theorem dX8_atRank_30 : decode cX8_atRank 30 = .ok (.iload_n 2, 1) := by decide +kernel
theorem dX8_atRank_31 : decode cX8_atRank 31 = .ok (.ireturn, 1) := by decide +kernel
theorem dX8_atRank_32 : decode cX8_atRank 32 = .ok (.iinc 2 1, 3) := by decide +kernel
theorem dX8_atRank_35 : decode cX8_atRank 35 = .ok (.goto (-33), 3) := by decide +kernel
theorem dX8_atRank_38 : decode cX8_atRank 38 = .ok (.iconst (-1), 1) := by decide +kernel
theorem dX8_atRank_39 : decode cX8_atRank 39 = .ok (.ireturn, 1) := by decide +kernel
theorem dX8_rankOf_0 : decode cX8_rankOf 0 = .ok (.iconst 0, 1) := by decide +kernel
theorem dX8_rankOf_1 : decode cX8_rankOf 1 = .ok (.istore_n 2, 1) := by decide +kernel
theorem dX8_rankOf_2 : decode cX8_rankOf 2 = .ok (.iconst 0, 1) := by decide +kernel
theorem dX8_rankOf_3 : decode cX8_rankOf 3 = .ok (.istore_n 3, 1) := by decide +kernel
theorem dX8_rankOf_4 : decode cX8_rankOf 4 = .ok (.iload_n 3, 1) := by decide +kernel
theorem dX8_rankOf_5 : decode cX8_rankOf 5 = .ok (.aload_n 0, 1) := by decide +kernel
theorem dX8_rankOf_6 : decode cX8_rankOf 6 = .ok (.getfield 27, 3) := by decide +kernel
theorem dX8_rankOf_9 : decode cX8_rankOf 9 = .ok (.if_icmp .ge 32, 3) := by decide +kernel
theorem dX8_rankOf_12 : decode cX8_rankOf 12 = .ok (.aload_n 0, 1) := by decide +kernel
theorem dX8_rankOf_13 : decode cX8_rankOf 13 = .ok (.getfield 21, 3) := by decide +kernel
theorem dX8_rankOf_16 : decode cX8_rankOf 16 = .ok (.iload_n 3, 1) := by decide +kernel
theorem dX8_rankOf_17 : decode cX8_rankOf 17 = .ok (.iaload, 1) := by decide +kernel
theorem dX8_rankOf_18 : decode cX8_rankOf 18 = .ok (.bipush (-2), 2) := by decide +kernel
theorem dX8_rankOf_20 : decode cX8_rankOf 20 = .ok (.if_icmp .eq 15, 3) := by decide +kernel
theorem dX8_rankOf_23 : decode cX8_rankOf 23 = .ok (.aload_n 0, 1) := by decide +kernel
theorem dX8_rankOf_24 : decode cX8_rankOf 24 = .ok (.iload_n 3, 1) := by decide +kernel
theorem dX8_rankOf_25 : decode cX8_rankOf 25 = .ok (.iload_n 1, 1) := by decide +kernel
theorem dX8_rankOf_26 : decode cX8_rankOf 26 = .ok (.invokevirtual 41, 3) := by decide +kernel
theorem dX8_rankOf_29 : decode cX8_rankOf 29 = .ok (.ifCond .eq 6, 3) := by decide +kernel
theorem dX8_rankOf_32 : decode cX8_rankOf 32 = .ok (.iinc 2 1, 3) := by decide +kernel
theorem dX8_rankOf_35 : decode cX8_rankOf 35 = .ok (.iinc 3 1, 3) := by decide +kernel
theorem dX8_rankOf_38 : decode cX8_rankOf 38 = .ok (.goto (-34), 3) := by decide +kernel
theorem dX8_rankOf_41 : decode cX8_rankOf 41 = .ok (.iload_n 2, 1) := by decide +kernel
theorem dX8_rankOf_42 : decode cX8_rankOf 42 = .ok (.ireturn, 1) := by decide +kernel
theorem dX8_comesBefore_0 : decode cX8_comesBefore 0 = .ok (.aload_n 0, 1) := by decide +kernel
theorem dX8_comesBefore_1 : decode cX8_comesBefore 1 = .ok (.getfield 9, 3) := by decide +kernel
theorem dX8_comesBefore_4 : decode cX8_comesBefore 4 = .ok (.iload_n 1, 1) := by decide +kernel
theorem dX8_comesBefore_5 : decode cX8_comesBefore 5 = .ok (.iaload, 1) := by decide +kernel
theorem dX8_comesBefore_6 : decode cX8_comesBefore 6 = .ok (.aload_n 0, 1) := by decide +kernel
theorem dX8_comesBefore_7 : decode cX8_comesBefore 7 = .ok (.getfield 9, 3) := by decide +kernel
theorem dX8_comesBefore_10 : decode cX8_comesBefore 10 = .ok (.iload_n 2, 1) := by decide +kernel
theorem dX8_comesBefore_11 : decode cX8_comesBefore 11 = .ok (.iaload, 1) := by decide +kernel
theorem dX8_comesBefore_12 : decode cX8_comesBefore 12 = .ok (.if_icmp .eq 24, 3) := by decide +kernel
theorem dX8_comesBefore_15 : decode cX8_comesBefore 15 = .ok (.aload_n 0, 1) := by decide +kernel
theorem dX8_comesBefore_16 : decode cX8_comesBefore 16 = .ok (.getfield 9, 3) := by decide +kernel
theorem dX8_comesBefore_19 : decode cX8_comesBefore 19 = .ok (.iload_n 1, 1) := by decide +kernel
theorem dX8_comesBefore_20 : decode cX8_comesBefore 20 = .ok (.iaload, 1) := by decide +kernel
theorem dX8_comesBefore_21 : decode cX8_comesBefore 21 = .ok (.aload_n 0, 1) := by decide +kernel
theorem dX8_comesBefore_22 : decode cX8_comesBefore 22 = .ok (.getfield 9, 3) := by decide +kernel
theorem dX8_comesBefore_25 : decode cX8_comesBefore 25 = .ok (.iload_n 2, 1) := by decide +kernel
theorem dX8_comesBefore_26 : decode cX8_comesBefore 26 = .ok (.iaload, 1) := by decide +kernel
theorem dX8_comesBefore_27 : decode cX8_comesBefore 27 = .ok (.if_icmp .le 7, 3) := by decide +kernel
theorem dX8_comesBefore_30 : decode cX8_comesBefore 30 = .ok (.iconst 1, 1) := by decide +kernel
theorem dX8_comesBefore_31 : decode cX8_comesBefore 31 = .ok (.goto 4, 3) := by decide +kernel
theorem dX8_comesBefore_34 : decode cX8_comesBefore 34 = .ok (.iconst 0, 1) := by decide +kernel
theorem dX8_comesBefore_35 : decode cX8_comesBefore 35 = .ok (.ireturn, 1) := by decide +kernel
theorem dX8_comesBefore_36 : decode cX8_comesBefore 36 = .ok (.aload_n 0, 1) := by decide +kernel
theorem dX8_comesBefore_37 : decode cX8_comesBefore 37 = .ok (.getfield 15, 3) := by decide +kernel
theorem dX8_comesBefore_40 : decode cX8_comesBefore 40 = .ok (.iload_n 1, 1) := by decide +kernel
theorem dX8_comesBefore_41 : decode cX8_comesBefore 41 = .ok (.iaload, 1) := by decide +kernel
theorem dX8_comesBefore_42 : decode cX8_comesBefore 42 = .ok (.aload_n 0, 1) := by decide +kernel
theorem dX8_comesBefore_43 : decode cX8_comesBefore 43 = .ok (.getfield 15, 3) := by decide +kernel
theorem dX8_comesBefore_46 : decode cX8_comesBefore 46 = .ok (.iload_n 2, 1) := by decide +kernel
theorem dX8_comesBefore_47 : decode cX8_comesBefore 47 = .ok (.iaload, 1) := by decide +kernel
theorem dX8_comesBefore_48 : decode cX8_comesBefore 48 = .ok (.if_icmp .eq 24, 3) := by decide +kernel
theorem dX8_comesBefore_51 : decode cX8_comesBefore 51 = .ok (.aload_n 0, 1) := by decide +kernel
theorem dX8_comesBefore_52 : decode cX8_comesBefore 52 = .ok (.getfield 15, 3) := by decide +kernel
theorem dX8_comesBefore_55 : decode cX8_comesBefore 55 = .ok (.iload_n 1, 1) := by decide +kernel
theorem dX8_comesBefore_56 : decode cX8_comesBefore 56 = .ok (.iaload, 1) := by decide +kernel
theorem dX8_comesBefore_57 : decode cX8_comesBefore 57 = .ok (.aload_n 0, 1) := by decide +kernel
theorem dX8_comesBefore_58 : decode cX8_comesBefore 58 = .ok (.getfield 15, 3) := by decide +kernel
theorem dX8_comesBefore_61 : decode cX8_comesBefore 61 = .ok (.iload_n 2, 1) := by decide +kernel
theorem dX8_comesBefore_62 : decode cX8_comesBefore 62 = .ok (.iaload, 1) := by decide +kernel
theorem dX8_comesBefore_63 : decode cX8_comesBefore 63 = .ok (.if_icmp .le 7, 3) := by decide +kernel
theorem dX8_comesBefore_66 : decode cX8_comesBefore 66 = .ok (.iconst 1, 1) := by decide +kernel
theorem dX8_comesBefore_67 : decode cX8_comesBefore 67 = .ok (.goto 4, 3) := by decide +kernel
theorem dX8_comesBefore_70 : decode cX8_comesBefore 70 = .ok (.iconst 0, 1) := by decide +kernel
theorem dX8_comesBefore_71 : decode cX8_comesBefore 71 = .ok (.ireturn, 1) := by decide +kernel
theorem dX8_comesBefore_72 : decode cX8_comesBefore 72 = .ok (.iload_n 1, 1) := by decide +kernel
theorem dX8_comesBefore_73 : decode cX8_comesBefore 73 = .ok (.iload_n 2, 1) := by decide +kernel
theorem dX8_comesBefore_74 : decode cX8_comesBefore 74 = .ok (.if_icmp .ge 7, 3) := by decide +kernel
theorem dX8_comesBefore_77 : decode cX8_comesBefore 77 = .ok (.iconst 1, 1) := by decide +kernel
theorem dX8_comesBefore_78 : decode cX8_comesBefore 78 = .ok (.goto 4, 3) := by decide +kernel
theorem dX8_comesBefore_81 : decode cX8_comesBefore 81 = .ok (.iconst 0, 1) := by decide +kernel
theorem dX8_comesBefore_82 : decode cX8_comesBefore 82 = .ok (.ireturn, 1) := by decide +kernel
theorem dX9_init_0 : decode cX9_init 0 = .ok (.aload_n 0, 1) := by decide +kernel
theorem dX9_init_1 : decode cX9_init 1 = .ok (.invokespecial 3, 3) := by decide +kernel
theorem dX9_init_4 : decode cX9_init 4 = .ok (.aload_n 0, 1) := by decide +kernel
theorem dX9_init_5 : decode cX9_init 5 = .ok (.bipush 36, 2) := by decide +kernel
theorem dX9_init_7 : decode cX9_init 7 = .ok (.newarray .int, 2) := by decide +kernel
theorem dX9_init_9 : decode cX9_init 9 = .ok (.putfield 9, 3) := by decide +kernel
theorem dX9_init_12 : decode cX9_init 12 = .ok (.aload_n 0, 1) := by decide +kernel
theorem dX9_init_13 : decode cX9_init 13 = .ok (.bipush 6, 2) := by decide +kernel
theorem dX9_init_15 : decode cX9_init 15 = .ok (.newarray .int, 2) := by decide +kernel
theorem dX9_init_17 : decode cX9_init 17 = .ok (.putfield 15, 3) := by decide +kernel
theorem dX9_init_20 : decode cX9_init 20 = .ok (.aload_n 0, 1) := by decide +kernel
theorem dX9_init_21 : decode cX9_init 21 = .ok (.bipush 6, 2) := by decide +kernel
theorem dX9_init_23 : decode cX9_init 23 = .ok (.newarray .boolean, 2) := by decide +kernel
theorem dX9_init_25 : decode cX9_init 25 = .ok (.putfield 18, 3) := by decide +kernel
theorem dX9_init_28 : decode cX9_init 28 = .ok (.aload_n 0, 1) := by decide +kernel
theorem dX9_init_29 : decode cX9_init 29 = .ok (.bipush 36, 2) := by decide +kernel
theorem dX9_init_31 : decode cX9_init 31 = .ok (.newarray .int, 2) := by decide +kernel
theorem dX9_init_33 : decode cX9_init 33 = .ok (.putfield 22, 3) := by decide +kernel
theorem dX9_init_36 : decode cX9_init 36 = .ok (.aload_n 0, 1) := by decide +kernel
theorem dX9_init_37 : decode cX9_init 37 = .ok (.iconst 0, 1) := by decide +kernel
theorem dX9_init_38 : decode cX9_init 38 = .ok (.putfield 25, 3) := by decide +kernel
theorem dX9_init_41 : decode cX9_init 41 = .ok (.return_, 1) := by decide +kernel
theorem dX9_copyFrom_0 : decode cX9_copyFrom 0 = .ok (.aload_n 1, 1) := by decide +kernel
theorem dX9_copyFrom_1 : decode cX9_copyFrom 1 = .ok (.getfield 9, 3) := by decide +kernel
theorem dX9_copyFrom_4 : decode cX9_copyFrom 4 = .ok (.iconst 0, 1) := by decide +kernel
theorem dX9_copyFrom_5 : decode cX9_copyFrom 5 = .ok (.aload_n 0, 1) := by decide +kernel
theorem dX9_copyFrom_6 : decode cX9_copyFrom 6 = .ok (.getfield 9, 3) := by decide +kernel
theorem dX9_copyFrom_9 : decode cX9_copyFrom 9 = .ok (.iconst 0, 1) := by decide +kernel
theorem dX9_copyFrom_10 : decode cX9_copyFrom 10 = .ok (.aload_n 0, 1) := by decide +kernel
theorem dX9_copyFrom_11 : decode cX9_copyFrom 11 = .ok (.getfield 9, 3) := by decide +kernel
theorem dX9_copyFrom_14 : decode cX9_copyFrom 14 = .ok (.arraylength, 1) := by decide +kernel
theorem dX9_copyFrom_15 : decode cX9_copyFrom 15 = .ok (.invokestatic 29, 3) := by decide +kernel
theorem dX9_copyFrom_18 : decode cX9_copyFrom 18 = .ok (.aload_n 0, 1) := by decide +kernel
theorem dX9_copyFrom_19 : decode cX9_copyFrom 19 = .ok (.aload_n 1, 1) := by decide +kernel
theorem dX9_copyFrom_20 : decode cX9_copyFrom 20 = .ok (.getfield 25, 3) := by decide +kernel
theorem dX9_copyFrom_23 : decode cX9_copyFrom 23 = .ok (.putfield 25, 3) := by decide +kernel
theorem dX9_copyFrom_26 : decode cX9_copyFrom 26 = .ok (.return_, 1) := by decide +kernel
theorem dX9_size_0 : decode cX9_size 0 = .ok (.aload_n 0, 1) := by decide +kernel
theorem dX9_size_1 : decode cX9_size 1 = .ok (.getfield 25, 3) := by decide +kernel
theorem dX9_size_4 : decode cX9_size 4 = .ok (.ireturn, 1) := by decide +kernel
theorem dX9_joins_0 : decode cX9_joins 0 = .ok (.aload_n 0, 1) := by decide +kernel
theorem dX9_joins_1 : decode cX9_joins 1 = .ok (.getfield 9, 3) := by decide +kernel
theorem dX9_joins_4 : decode cX9_joins 4 = .ok (.iload_n 1, 1) := by decide +kernel
theorem dX9_joins_5 : decode cX9_joins 5 = .ok (.bipush 6, 2) := by decide +kernel
theorem dX9_joins_7 : decode cX9_joins 7 = .ok (.imul, 1) := by decide +kernel
theorem dX9_joins_8 : decode cX9_joins 8 = .ok (.iload_n 2, 1) := by decide +kernel
theorem dX9_joins_9 : decode cX9_joins 9 = .ok (.iadd, 1) := by decide +kernel
theorem dX9_joins_10 : decode cX9_joins 10 = .ok (.iaload, 1) := by decide +kernel
theorem dX9_joins_11 : decode cX9_joins 11 = .ok (.ifCond .le 7, 3) := by decide +kernel
theorem dX9_joins_14 : decode cX9_joins 14 = .ok (.iconst 1, 1) := by decide +kernel
theorem dX9_joins_15 : decode cX9_joins 15 = .ok (.goto 4, 3) := by decide +kernel
theorem dX9_joins_18 : decode cX9_joins 18 = .ok (.iconst 0, 1) := by decide +kernel
theorem dX9_joins_19 : decode cX9_joins 19 = .ok (.ireturn, 1) := by decide +kernel
theorem dX9_lengthBetween_0 : decode cX9_lengthBetween 0 = .ok (.aload_n 0, 1) := by decide +kernel
theorem dX9_lengthBetween_1 : decode cX9_lengthBetween 1 = .ok (.iload_n 1, 1) := by decide +kernel
theorem dX9_lengthBetween_2 : decode cX9_lengthBetween 2 = .ok (.iload_n 2, 1) := by decide +kernel
theorem dX9_lengthBetween_3 : decode cX9_lengthBetween 3 = .ok (.invokevirtual 35, 3) := by decide +kernel
theorem dX9_lengthBetween_6 : decode cX9_lengthBetween 6 = .ok (.ifCond .eq 17, 3) := by decide +kernel
theorem dX9_lengthBetween_9 : decode cX9_lengthBetween 9 = .ok (.aload_n 0, 1) := by decide +kernel
theorem dX9_lengthBetween_10 : decode cX9_lengthBetween 10 = .ok (.getfield 9, 3) := by decide +kernel
theorem dX9_lengthBetween_13 : decode cX9_lengthBetween 13 = .ok (.iload_n 1, 1) := by decide +kernel
theorem dX9_lengthBetween_14 : decode cX9_lengthBetween 14 = .ok (.bipush 6, 2) := by decide +kernel
theorem dX9_lengthBetween_16 : decode cX9_lengthBetween 16 = .ok (.imul, 1) := by decide +kernel
theorem dX9_lengthBetween_17 : decode cX9_lengthBetween 17 = .ok (.iload_n 2, 1) := by decide +kernel
theorem dX9_lengthBetween_18 : decode cX9_lengthBetween 18 = .ok (.iadd, 1) := by decide +kernel
theorem dX9_lengthBetween_19 : decode cX9_lengthBetween 19 = .ok (.iaload, 1) := by decide +kernel
theorem dX9_lengthBetween_20 : decode cX9_lengthBetween 20 = .ok (.goto 4, 3) := by decide +kernel
theorem dX9_lengthBetween_23 : decode cX9_lengthBetween 23 = .ok (.iconst (-1), 1) := by decide +kernel
theorem dX9_lengthBetween_24 : decode cX9_lengthBetween 24 = .ok (.ireturn, 1) := by decide +kernel
theorem dX9_join_0 : decode cX9_join 0 = .ok (.aload_n 0, 1) := by decide +kernel
theorem dX9_join_1 : decode cX9_join 1 = .ok (.getfield 9, 3) := by decide +kernel
theorem dX9_join_4 : decode cX9_join 4 = .ok (.iload_n 1, 1) := by decide +kernel
theorem dX9_join_5 : decode cX9_join 5 = .ok (.bipush 6, 2) := by decide +kernel
theorem dX9_join_7 : decode cX9_join 7 = .ok (.imul, 1) := by decide +kernel
theorem dX9_join_8 : decode cX9_join 8 = .ok (.iload_n 2, 1) := by decide +kernel
theorem dX9_join_9 : decode cX9_join 9 = .ok (.iadd, 1) := by decide +kernel
theorem dX9_join_10 : decode cX9_join 10 = .ok (.iload_n 3, 1) := by decide +kernel
theorem dX9_join_11 : decode cX9_join 11 = .ok (.iastore, 1) := by decide +kernel
theorem dX9_join_12 : decode cX9_join 12 = .ok (.aload_n 0, 1) := by decide +kernel
theorem dX9_join_13 : decode cX9_join 13 = .ok (.getfield 9, 3) := by decide +kernel
theorem dX9_join_16 : decode cX9_join 16 = .ok (.iload_n 2, 1) := by decide +kernel
theorem dX9_join_17 : decode cX9_join 17 = .ok (.bipush 6, 2) := by decide +kernel
theorem dX9_join_19 : decode cX9_join 19 = .ok (.imul, 1) := by decide +kernel
theorem dX9_join_20 : decode cX9_join 20 = .ok (.iload_n 1, 1) := by decide +kernel
theorem dX9_join_21 : decode cX9_join 21 = .ok (.iadd, 1) := by decide +kernel
theorem dX9_join_22 : decode cX9_join 22 = .ok (.iload_n 3, 1) := by decide +kernel
theorem dX9_join_23 : decode cX9_join 23 = .ok (.iastore, 1) := by decide +kernel
theorem dX9_join_24 : decode cX9_join 24 = .ok (.aload_n 0, 1) := by decide +kernel
theorem dX9_join_25 : decode cX9_join 25 = .ok (.dup, 1) := by decide +kernel
theorem dX9_join_26 : decode cX9_join 26 = .ok (.getfield 25, 3) := by decide +kernel
theorem dX9_join_29 : decode cX9_join 29 = .ok (.iconst 1, 1) := by decide +kernel
theorem dX9_join_30 : decode cX9_join 30 = .ok (.iadd, 1) := by decide +kernel
theorem dX9_join_31 : decode cX9_join 31 = .ok (.putfield 25, 3) := by decide +kernel
theorem dX9_join_34 : decode cX9_join 34 = .ok (.aload_n 0, 1) := by decide +kernel
theorem dX9_join_35 : decode cX9_join 35 = .ok (.getfield 25, 3) := by decide +kernel
theorem dX9_join_38 : decode cX9_join 38 = .ok (.ireturn, 1) := by decide +kernel
theorem dX9_shortest_0 : decode cX9_shortest 0 = .ok (.aload_n 0, 1) := by decide +kernel
theorem dX9_shortest_1 : decode cX9_shortest 1 = .ok (.iload_n 1, 1) := by decide +kernel
theorem dX9_shortest_2 : decode cX9_shortest 2 = .ok (.invokevirtual 39, 3) := by decide +kernel
theorem dX9_shortest_5 : decode cX9_shortest 5 = .ok (.aload_n 0, 1) := by decide +kernel
theorem dX9_shortest_6 : decode cX9_shortest 6 = .ok (.getfield 15, 3) := by decide +kernel
theorem dX9_shortest_9 : decode cX9_shortest 9 = .ok (.iload_n 2, 1) := by decide +kernel
theorem dX9_shortest_10 : decode cX9_shortest 10 = .ok (.iaload, 1) := by decide +kernel
theorem dX9_shortest_11 : decode cX9_shortest 11 = .ok (.ireturn, 1) := by decide +kernel
theorem dX9_farthestFrom_0 : decode cX9_farthestFrom 0 = .ok (.aload_n 0, 1) := by decide +kernel
theorem dX9_farthestFrom_1 : decode cX9_farthestFrom 1 = .ok (.iload_n 1, 1) := by decide +kernel
theorem dX9_farthestFrom_2 : decode cX9_farthestFrom 2 = .ok (.invokevirtual 39, 3) := by decide +kernel
theorem dX9_farthestFrom_5 : decode cX9_farthestFrom 5 = .ok (.iload_n 1, 1) := by decide +kernel
theorem dX9_farthestFrom_6 : decode cX9_farthestFrom 6 = .ok (.istore_n 2, 1) := by decide +kernel
theorem dX9_farthestFrom_7 : decode cX9_farthestFrom 7 = .ok (.iconst 0, 1) := by decide +kernel
theorem dX9_farthestFrom_8 : decode cX9_farthestFrom 8 = .ok (.istore_n 3, 1) := by decide +kernel
theorem dX9_farthestFrom_9 : decode cX9_farthestFrom 9 = .ok (.iload_n 3, 1) := by decide +kernel
theorem dX9_farthestFrom_10 : decode cX9_farthestFrom 10 = .ok (.bipush 6, 2) := by decide +kernel
theorem dX9_farthestFrom_12 : decode cX9_farthestFrom 12 = .ok (.if_icmp .ge 26, 3) := by decide +kernel
theorem dX9_farthestFrom_15 : decode cX9_farthestFrom 15 = .ok (.aload_n 0, 1) := by decide +kernel
theorem dX9_farthestFrom_16 : decode cX9_farthestFrom 16 = .ok (.getfield 15, 3) := by decide +kernel
theorem dX9_farthestFrom_19 : decode cX9_farthestFrom 19 = .ok (.iload_n 3, 1) := by decide +kernel
theorem dX9_farthestFrom_20 : decode cX9_farthestFrom 20 = .ok (.iaload, 1) := by decide +kernel
theorem dX9_farthestFrom_21 : decode cX9_farthestFrom 21 = .ok (.aload_n 0, 1) := by decide +kernel
theorem dX9_farthestFrom_22 : decode cX9_farthestFrom 22 = .ok (.getfield 15, 3) := by decide +kernel
theorem dX9_farthestFrom_25 : decode cX9_farthestFrom 25 = .ok (.iload_n 2, 1) := by decide +kernel
theorem dX9_farthestFrom_26 : decode cX9_farthestFrom 26 = .ok (.iaload, 1) := by decide +kernel
theorem dX9_farthestFrom_27 : decode cX9_farthestFrom 27 = .ok (.if_icmp .le 5, 3) := by decide +kernel
theorem dX9_farthestFrom_30 : decode cX9_farthestFrom 30 = .ok (.iload_n 3, 1) := by decide +kernel
theorem dX9_farthestFrom_31 : decode cX9_farthestFrom 31 = .ok (.istore_n 2, 1) := by decide +kernel
theorem dX9_farthestFrom_32 : decode cX9_farthestFrom 32 = .ok (.iinc 3 1, 3) := by decide +kernel
theorem dX9_farthestFrom_35 : decode cX9_farthestFrom 35 = .ok (.goto (-26), 3) := by decide +kernel
theorem dX9_farthestFrom_38 : decode cX9_farthestFrom 38 = .ok (.iload_n 2, 1) := by decide +kernel
theorem dX9_farthestFrom_39 : decode cX9_farthestFrom 39 = .ok (.ireturn, 1) := by decide +kernel
theorem dX9_measureFrom_0 : decode cX9_measureFrom 0 = .ok (.iconst 0, 1) := by decide +kernel
theorem dX9_measureFrom_1 : decode cX9_measureFrom 1 = .ok (.istore_n 2, 1) := by decide +kernel
theorem dX9_measureFrom_2 : decode cX9_measureFrom 2 = .ok (.iload_n 2, 1) := by decide +kernel
theorem dX9_measureFrom_3 : decode cX9_measureFrom 3 = .ok (.bipush 6, 2) := by decide +kernel
theorem dX9_measureFrom_5 : decode cX9_measureFrom 5 = .ok (.if_icmp .ge 23, 3) := by decide +kernel
theorem dX9_measureFrom_8 : decode cX9_measureFrom 8 = .ok (.aload_n 0, 1) := by decide +kernel
theorem dX9_measureFrom_9 : decode cX9_measureFrom 9 = .ok (.getfield 15, 3) := by decide +kernel
theorem dX9_measureFrom_12 : decode cX9_measureFrom 12 = .ok (.iload_n 2, 1) := by decide +kernel
theorem dX9_measureFrom_13 : decode cX9_measureFrom 13 = .ok (.iconst (-1), 1) := by decide +kernel
theorem dX9_measureFrom_14 : decode cX9_measureFrom 14 = .ok (.iastore, 1) := by decide +kernel
theorem dX9_measureFrom_15 : decode cX9_measureFrom 15 = .ok (.aload_n 0, 1) := by decide +kernel
theorem dX9_measureFrom_16 : decode cX9_measureFrom 16 = .ok (.getfield 18, 3) := by decide +kernel
theorem dX9_measureFrom_19 : decode cX9_measureFrom 19 = .ok (.iload_n 2, 1) := by decide +kernel
theorem dX9_measureFrom_20 : decode cX9_measureFrom 20 = .ok (.iconst 0, 1) := by decide +kernel
theorem dX9_measureFrom_21 : decode cX9_measureFrom 21 = .ok (.bastore, 1) := by decide +kernel
theorem dX9_measureFrom_22 : decode cX9_measureFrom 22 = .ok (.iinc 2 1, 3) := by decide +kernel
theorem dX9_measureFrom_25 : decode cX9_measureFrom 25 = .ok (.goto (-23), 3) := by decide +kernel
theorem dX9_measureFrom_28 : decode cX9_measureFrom 28 = .ok (.aload_n 0, 1) := by decide +kernel
theorem dX9_measureFrom_29 : decode cX9_measureFrom 29 = .ok (.getfield 15, 3) := by decide +kernel
theorem dX9_measureFrom_32 : decode cX9_measureFrom 32 = .ok (.iload_n 1, 1) := by decide +kernel
theorem dX9_measureFrom_33 : decode cX9_measureFrom 33 = .ok (.iconst 0, 1) := by decide +kernel
theorem dX9_measureFrom_34 : decode cX9_measureFrom 34 = .ok (.iastore, 1) := by decide +kernel
theorem dX9_measureFrom_35 : decode cX9_measureFrom 35 = .ok (.iconst 0, 1) := by decide +kernel
theorem dX9_measureFrom_36 : decode cX9_measureFrom 36 = .ok (.istore_n 2, 1) := by decide +kernel
theorem dX9_measureFrom_37 : decode cX9_measureFrom 37 = .ok (.iload_n 2, 1) := by decide +kernel
theorem dX9_measureFrom_38 : decode cX9_measureFrom 38 = .ok (.bipush 6, 2) := by decide +kernel
theorem dX9_measureFrom_40 : decode cX9_measureFrom 40 = .ok (.if_icmp .ge 32, 3) := by decide +kernel
theorem dX9_measureFrom_43 : decode cX9_measureFrom 43 = .ok (.aload_n 0, 1) := by decide +kernel
theorem dX9_measureFrom_44 : decode cX9_measureFrom 44 = .ok (.invokevirtual 43, 3) := by decide +kernel
theorem dX9_measureFrom_47 : decode cX9_measureFrom 47 = .ok (.istore_n 3, 1) := by decide +kernel
theorem dX9_measureFrom_48 : decode cX9_measureFrom 48 = .ok (.iload_n 3, 1) := by decide +kernel
theorem dX9_measureFrom_49 : decode cX9_measureFrom 49 = .ok (.iconst (-1), 1) := by decide +kernel
theorem dX9_measureFrom_50 : decode cX9_measureFrom 50 = .ok (.if_icmp .ne 4, 3) := by decide +kernel
theorem dX9_measureFrom_53 : decode cX9_measureFrom 53 = .ok (.return_, 1) := by decide +kernel
theorem dX9_measureFrom_54 : decode cX9_measureFrom 54 = .ok (.aload_n 0, 1) := by decide +kernel
theorem dX9_measureFrom_55 : decode cX9_measureFrom 55 = .ok (.getfield 18, 3) := by decide +kernel
theorem dX9_measureFrom_58 : decode cX9_measureFrom 58 = .ok (.iload_n 3, 1) := by decide +kernel
theorem dX9_measureFrom_59 : decode cX9_measureFrom 59 = .ok (.iconst 1, 1) := by decide +kernel
theorem dX9_measureFrom_60 : decode cX9_measureFrom 60 = .ok (.bastore, 1) := by decide +kernel
theorem dX9_measureFrom_61 : decode cX9_measureFrom 61 = .ok (.aload_n 0, 1) := by decide +kernel
theorem dX9_measureFrom_62 : decode cX9_measureFrom 62 = .ok (.iload_n 3, 1) := by decide +kernel
theorem dX9_measureFrom_63 : decode cX9_measureFrom 63 = .ok (.invokevirtual 47, 3) := by decide +kernel
theorem dX9_measureFrom_66 : decode cX9_measureFrom 66 = .ok (.iinc 2 1, 3) := by decide +kernel
theorem dX9_measureFrom_69 : decode cX9_measureFrom 69 = .ok (.goto (-32), 3) := by decide +kernel
theorem dX9_measureFrom_72 : decode cX9_measureFrom 72 = .ok (.return_, 1) := by decide +kernel
theorem dX9_nearestOpen_0 : decode cX9_nearestOpen 0 = .ok (.iconst (-1), 1) := by decide +kernel
theorem dX9_nearestOpen_1 : decode cX9_nearestOpen 1 = .ok (.istore_n 1, 1) := by decide +kernel
theorem dX9_nearestOpen_2 : decode cX9_nearestOpen 2 = .ok (.iconst 0, 1) := by decide +kernel
theorem dX9_nearestOpen_3 : decode cX9_nearestOpen 3 = .ok (.istore_n 2, 1) := by decide +kernel
theorem dX9_nearestOpen_4 : decode cX9_nearestOpen 4 = .ok (.iload_n 2, 1) := by decide +kernel
theorem dX9_nearestOpen_5 : decode cX9_nearestOpen 5 = .ok (.bipush 6, 2) := by decide +kernel
theorem dX9_nearestOpen_7 : decode cX9_nearestOpen 7 = .ok (.if_icmp .ge 50, 3) := by decide +kernel
theorem dX9_nearestOpen_10 : decode cX9_nearestOpen 10 = .ok (.aload_n 0, 1) := by decide +kernel
theorem dX9_nearestOpen_11 : decode cX9_nearestOpen 11 = .ok (.getfield 15, 3) := by decide +kernel
theorem dX9_nearestOpen_14 : decode cX9_nearestOpen 14 = .ok (.iload_n 2, 1) := by decide +kernel
theorem dX9_nearestOpen_15 : decode cX9_nearestOpen 15 = .ok (.iaload, 1) := by decide +kernel
theorem dX9_nearestOpen_16 : decode cX9_nearestOpen 16 = .ok (.iconst (-1), 1) := by decide +kernel
theorem dX9_nearestOpen_17 : decode cX9_nearestOpen 17 = .ok (.if_icmp .eq 34, 3) := by decide +kernel
theorem dX9_nearestOpen_20 : decode cX9_nearestOpen 20 = .ok (.aload_n 0, 1) := by decide +kernel
theorem dX9_nearestOpen_21 : decode cX9_nearestOpen 21 = .ok (.getfield 18, 3) := by decide +kernel
theorem dX9_nearestOpen_24 : decode cX9_nearestOpen 24 = .ok (.iload_n 2, 1) := by decide +kernel
theorem dX9_nearestOpen_25 : decode cX9_nearestOpen 25 = .ok (.baload, 1) := by decide +kernel
theorem dX9_nearestOpen_26 : decode cX9_nearestOpen 26 = .ok (.ifCond .ne 25, 3) := by decide +kernel
theorem dX9_nearestOpen_29 : decode cX9_nearestOpen 29 = .ok (.iload_n 1, 1) := by decide +kernel
theorem dX9_nearestOpen_30 : decode cX9_nearestOpen 30 = .ok (.iconst (-1), 1) := by decide +kernel
theorem dX9_nearestOpen_31 : decode cX9_nearestOpen 31 = .ok (.if_icmp .eq 18, 3) := by decide +kernel
theorem dX9_nearestOpen_34 : decode cX9_nearestOpen 34 = .ok (.aload_n 0, 1) := by decide +kernel
theorem dX9_nearestOpen_35 : decode cX9_nearestOpen 35 = .ok (.getfield 15, 3) := by decide +kernel
theorem dX9_nearestOpen_38 : decode cX9_nearestOpen 38 = .ok (.iload_n 2, 1) := by decide +kernel
theorem dX9_nearestOpen_39 : decode cX9_nearestOpen 39 = .ok (.iaload, 1) := by decide +kernel
theorem dX9_nearestOpen_40 : decode cX9_nearestOpen 40 = .ok (.aload_n 0, 1) := by decide +kernel
theorem dX9_nearestOpen_41 : decode cX9_nearestOpen 41 = .ok (.getfield 15, 3) := by decide +kernel
theorem dX9_nearestOpen_44 : decode cX9_nearestOpen 44 = .ok (.iload_n 1, 1) := by decide +kernel
theorem dX9_nearestOpen_45 : decode cX9_nearestOpen 45 = .ok (.iaload, 1) := by decide +kernel
theorem dX9_nearestOpen_46 : decode cX9_nearestOpen 46 = .ok (.if_icmp .ge 5, 3) := by decide +kernel
theorem dX9_nearestOpen_49 : decode cX9_nearestOpen 49 = .ok (.iload_n 2, 1) := by decide +kernel
theorem dX9_nearestOpen_50 : decode cX9_nearestOpen 50 = .ok (.istore_n 1, 1) := by decide +kernel
theorem dX9_nearestOpen_51 : decode cX9_nearestOpen 51 = .ok (.iinc 2 1, 3) := by decide +kernel
theorem dX9_nearestOpen_54 : decode cX9_nearestOpen 54 = .ok (.goto (-50), 3) := by decide +kernel
theorem dX9_nearestOpen_57 : decode cX9_nearestOpen 57 = .ok (.iload_n 1, 1) := by decide +kernel
theorem dX9_nearestOpen_58 : decode cX9_nearestOpen 58 = .ok (.ireturn, 1) := by decide +kernel
theorem dX9_goOnFrom_0 : decode cX9_goOnFrom 0 = .ok (.iconst 0, 1) := by decide +kernel
theorem dX9_goOnFrom_1 : decode cX9_goOnFrom 1 = .ok (.istore_n 2, 1) := by decide +kernel
theorem dX9_goOnFrom_2 : decode cX9_goOnFrom 2 = .ok (.iload_n 2, 1) := by decide +kernel
theorem dX9_goOnFrom_3 : decode cX9_goOnFrom 3 = .ok (.bipush 6, 2) := by decide +kernel
theorem dX9_goOnFrom_5 : decode cX9_goOnFrom 5 = .ok (.if_icmp .ge 64, 3) := by decide +kernel
theorem dX9_goOnFrom_8 : decode cX9_goOnFrom 8 = .ok (.aload_n 0, 1) := by decide +kernel
theorem dX9_goOnFrom_9 : decode cX9_goOnFrom 9 = .ok (.getfield 9, 3) := by decide +kernel
theorem dX9_goOnFrom_12 : decode cX9_goOnFrom 12 = .ok (.iload_n 1, 1) := by decide +kernel
theorem dX9_goOnFrom_13 : decode cX9_goOnFrom 13 = .ok (.bipush 6, 2) := by decide +kernel
theorem dX9_goOnFrom_15 : decode cX9_goOnFrom 15 = .ok (.imul, 1) := by decide +kernel
theorem dX9_goOnFrom_16 : decode cX9_goOnFrom 16 = .ok (.iload_n 2, 1) := by decide +kernel
theorem dX9_goOnFrom_17 : decode cX9_goOnFrom 17 = .ok (.iadd, 1) := by decide +kernel
theorem dX9_goOnFrom_18 : decode cX9_goOnFrom 18 = .ok (.iaload, 1) := by decide +kernel
theorem dX9_goOnFrom_19 : decode cX9_goOnFrom 19 = .ok (.istore_n 3, 1) := by decide +kernel
theorem dX9_goOnFrom_20 : decode cX9_goOnFrom 20 = .ok (.aload_n 0, 1) := by decide +kernel
theorem dX9_goOnFrom_21 : decode cX9_goOnFrom 21 = .ok (.getfield 15, 3) := by decide +kernel
theorem dX9_goOnFrom_24 : decode cX9_goOnFrom 24 = .ok (.iload_n 1, 1) := by decide +kernel
theorem dX9_goOnFrom_25 : decode cX9_goOnFrom 25 = .ok (.iaload, 1) := by decide +kernel
theorem dX9_goOnFrom_26 : decode cX9_goOnFrom 26 = .ok (.iload_n 3, 1) := by decide +kernel
theorem dX9_goOnFrom_27 : decode cX9_goOnFrom 27 = .ok (.iadd, 1) := by decide +kernel
theorem dX9_goOnFrom_28 : decode cX9_goOnFrom 28 = .ok (.istore 4, 2) := by decide +kernel
theorem dX9_goOnFrom_30 : decode cX9_goOnFrom 30 = .ok (.iload_n 3, 1) := by decide +kernel
theorem dX9_goOnFrom_31 : decode cX9_goOnFrom 31 = .ok (.ifCond .le 32, 3) := by decide +kernel
theorem dX9_goOnFrom_34 : decode cX9_goOnFrom 34 = .ok (.aload_n 0, 1) := by decide +kernel
theorem dX9_goOnFrom_35 : decode cX9_goOnFrom 35 = .ok (.getfield 15, 3) := by decide +kernel
theorem dX9_goOnFrom_38 : decode cX9_goOnFrom 38 = .ok (.iload_n 2, 1) := by decide +kernel
theorem dX9_goOnFrom_39 : decode cX9_goOnFrom 39 = .ok (.iaload, 1) := by decide +kernel
theorem dX9_goOnFrom_40 : decode cX9_goOnFrom 40 = .ok (.iconst (-1), 1) := by decide +kernel
theorem dX9_goOnFrom_41 : decode cX9_goOnFrom 41 = .ok (.if_icmp .eq 14, 3) := by decide +kernel
theorem dX9_goOnFrom_44 : decode cX9_goOnFrom 44 = .ok (.iload 4, 2) := by decide +kernel
theorem dX9_goOnFrom_46 : decode cX9_goOnFrom 46 = .ok (.aload_n 0, 1) := by decide +kernel
theorem dX9_goOnFrom_47 : decode cX9_goOnFrom 47 = .ok (.getfield 15, 3) := by decide +kernel
theorem dX9_goOnFrom_50 : decode cX9_goOnFrom 50 = .ok (.iload_n 2, 1) := by decide +kernel
theorem dX9_goOnFrom_51 : decode cX9_goOnFrom 51 = .ok (.iaload, 1) := by decide +kernel
theorem dX9_goOnFrom_52 : decode cX9_goOnFrom 52 = .ok (.if_icmp .ge 11, 3) := by decide +kernel
theorem dX9_goOnFrom_55 : decode cX9_goOnFrom 55 = .ok (.aload_n 0, 1) := by decide +kernel
theorem dX9_goOnFrom_56 : decode cX9_goOnFrom 56 = .ok (.getfield 15, 3) := by decide +kernel
theorem dX9_goOnFrom_59 : decode cX9_goOnFrom 59 = .ok (.iload_n 2, 1) := by decide +kernel
theorem dX9_goOnFrom_60 : decode cX9_goOnFrom 60 = .ok (.iload 4, 2) := by decide +kernel
theorem dX9_goOnFrom_62 : decode cX9_goOnFrom 62 = .ok (.iastore, 1) := by decide +kernel
theorem dX9_goOnFrom_63 : decode cX9_goOnFrom 63 = .ok (.iinc 2 1, 3) := by decide +kernel
theorem dX9_goOnFrom_66 : decode cX9_goOnFrom 66 = .ok (.goto (-64), 3) := by decide +kernel
theorem dX9_goOnFrom_69 : decode cX9_goOnFrom 69 = .ok (.return_, 1) := by decide +kernel
theorem dX9_measureByRounds_0 : decode cX9_measureByRounds 0 = .ok (.iconst 0, 1) := by decide +kernel
theorem dX9_measureByRounds_1 : decode cX9_measureByRounds 1 = .ok (.istore_n 1, 1) := by decide +kernel
theorem dX9_measureByRounds_2 : decode cX9_measureByRounds 2 = .ok (.iload_n 1, 1) := by decide +kernel
theorem dX9_measureByRounds_3 : decode cX9_measureByRounds 3 = .ok (.bipush 6, 2) := by decide +kernel
theorem dX9_measureByRounds_5 : decode cX9_measureByRounds 5 = .ok (.if_icmp .ge 49, 3) := by decide +kernel
theorem dX9_measureByRounds_8 : decode cX9_measureByRounds 8 = .ok (.iconst 0, 1) := by decide +kernel
theorem dX9_measureByRounds_9 : decode cX9_measureByRounds 9 = .ok (.istore_n 2, 1) := by decide +kernel
theorem dX9_measureByRounds_10 : decode cX9_measureByRounds 10 = .ok (.iload_n 2, 1) := by decide +kernel
theorem dX9_measureByRounds_11 : decode cX9_measureByRounds 11 = .ok (.bipush 6, 2) := by decide +kernel
theorem dX9_measureByRounds_13 : decode cX9_measureByRounds 13 = .ok (.if_icmp .ge 35, 3) := by decide +kernel
theorem dX9_measureByRounds_16 : decode cX9_measureByRounds 16 = .ok (.aload_n 0, 1) := by decide +kernel
theorem dX9_measureByRounds_17 : decode cX9_measureByRounds 17 = .ok (.getfield 22, 3) := by decide +kernel
theorem dX9_measureByRounds_20 : decode cX9_measureByRounds 20 = .ok (.iload_n 1, 1) := by decide +kernel
theorem dX9_measureByRounds_21 : decode cX9_measureByRounds 21 = .ok (.bipush 6, 2) := by decide +kernel
theorem dX9_measureByRounds_23 : decode cX9_measureByRounds 23 = .ok (.imul, 1) := by decide +kernel
theorem dX9_measureByRounds_24 : decode cX9_measureByRounds 24 = .ok (.iload_n 2, 1) := by decide +kernel
theorem dX9_measureByRounds_25 : decode cX9_measureByRounds 25 = .ok (.iadd, 1) := by decide +kernel
theorem dX9_measureByRounds_26 : decode cX9_measureByRounds 26 = .ok (.iload_n 1, 1) := by decide +kernel
theorem dX9_measureByRounds_27 : decode cX9_measureByRounds 27 = .ok (.iload_n 2, 1) := by decide +kernel
theorem dX9_measureByRounds_28 : decode cX9_measureByRounds 28 = .ok (.if_icmp .ne 7, 3) := by decide +kernel
theorem dX9_measureByRounds_31 : decode cX9_measureByRounds 31 = .ok (.iconst 0, 1) := by decide +kernel
theorem dX9_measureByRounds_32 : decode cX9_measureByRounds 32 = .ok (.goto 9, 3) := by decide +kernel
theorem dX9_measureByRounds_35 : decode cX9_measureByRounds 35 = .ok (.aload_n 0, 1) := by decide +kernel
theorem dX9_measureByRounds_36 : decode cX9_measureByRounds 36 = .ok (.iload_n 1, 1) := by decide +kernel
theorem dX9_measureByRounds_37 : decode cX9_measureByRounds 37 = .ok (.iload_n 2, 1) := by decide +kernel
theorem dX9_measureByRounds_38 : decode cX9_measureByRounds 38 = .ok (.invokevirtual 50, 3) := by decide +kernel
theorem dX9_measureByRounds_41 : decode cX9_measureByRounds 41 = .ok (.iastore, 1) := by decide +kernel
theorem dX9_measureByRounds_42 : decode cX9_measureByRounds 42 = .ok (.iinc 2 1, 3) := by decide +kernel
theorem dX9_measureByRounds_45 : decode cX9_measureByRounds 45 = .ok (.goto (-35), 3) := by decide +kernel
theorem dX9_measureByRounds_48 : decode cX9_measureByRounds 48 = .ok (.iinc 1 1, 3) := by decide +kernel
theorem dX9_measureByRounds_51 : decode cX9_measureByRounds 51 = .ok (.goto (-49), 3) := by decide +kernel
theorem dX9_measureByRounds_54 : decode cX9_measureByRounds 54 = .ok (.iconst 0, 1) := by decide +kernel
theorem dX9_measureByRounds_55 : decode cX9_measureByRounds 55 = .ok (.istore_n 1, 1) := by decide +kernel
theorem dX9_measureByRounds_56 : decode cX9_measureByRounds 56 = .ok (.iload_n 1, 1) := by decide +kernel
theorem dX9_measureByRounds_57 : decode cX9_measureByRounds 57 = .ok (.bipush 6, 2) := by decide +kernel
theorem dX9_measureByRounds_59 : decode cX9_measureByRounds 59 = .ok (.if_icmp .ge 44, 3) := by decide +kernel
theorem dX9_measureByRounds_62 : decode cX9_measureByRounds 62 = .ok (.iconst 0, 1) := by decide +kernel
theorem dX9_measureByRounds_63 : decode cX9_measureByRounds 63 = .ok (.istore_n 2, 1) := by decide +kernel
theorem dX9_measureByRounds_64 : decode cX9_measureByRounds 64 = .ok (.iload_n 2, 1) := by decide +kernel
theorem dX9_measureByRounds_65 : decode cX9_measureByRounds 65 = .ok (.bipush 6, 2) := by decide +kernel
theorem dX9_measureByRounds_67 : decode cX9_measureByRounds 67 = .ok (.if_icmp .ge 30, 3) := by decide +kernel
theorem dX9_measureByRounds_70 : decode cX9_measureByRounds 70 = .ok (.iconst 0, 1) := by decide +kernel
theorem dX9_measureByRounds_71 : decode cX9_measureByRounds 71 = .ok (.istore_n 3, 1) := by decide +kernel
theorem dX9_measureByRounds_72 : decode cX9_measureByRounds 72 = .ok (.iload_n 3, 1) := by decide +kernel
theorem dX9_measureByRounds_73 : decode cX9_measureByRounds 73 = .ok (.bipush 6, 2) := by decide +kernel
theorem dX9_measureByRounds_75 : decode cX9_measureByRounds 75 = .ok (.if_icmp .ge 16, 3) := by decide +kernel
theorem dX9_measureByRounds_78 : decode cX9_measureByRounds 78 = .ok (.aload_n 0, 1) := by decide +kernel
theorem dX9_measureByRounds_79 : decode cX9_measureByRounds 79 = .ok (.iload_n 2, 1) := by decide +kernel
theorem dX9_measureByRounds_80 : decode cX9_measureByRounds 80 = .ok (.iload_n 1, 1) := by decide +kernel
theorem dX9_measureByRounds_81 : decode cX9_measureByRounds 81 = .ok (.iload_n 3, 1) := by decide +kernel
theorem dX9_measureByRounds_82 : decode cX9_measureByRounds 82 = .ok (.invokevirtual 54, 3) := by decide +kernel
theorem dX9_measureByRounds_85 : decode cX9_measureByRounds 85 = .ok (.iinc 3 1, 3) := by decide +kernel
theorem dX9_measureByRounds_88 : decode cX9_measureByRounds 88 = .ok (.goto (-16), 3) := by decide +kernel
theorem dX9_measureByRounds_91 : decode cX9_measureByRounds 91 = .ok (.iinc 2 1, 3) := by decide +kernel
theorem dX9_measureByRounds_94 : decode cX9_measureByRounds 94 = .ok (.goto (-30), 3) := by decide +kernel
theorem dX9_measureByRounds_97 : decode cX9_measureByRounds 97 = .ok (.iinc 1 1, 3) := by decide +kernel
theorem dX9_measureByRounds_100 : decode cX9_measureByRounds 100 = .ok (.goto (-44), 3) := by decide +kernel
theorem dX9_measureByRounds_103 : decode cX9_measureByRounds 103 = .ok (.return_, 1) := by decide +kernel
theorem dX9_shortenBy_0 : decode cX9_shortenBy 0 = .ok (.aload_n 0, 1) := by decide +kernel
theorem dX9_shortenBy_1 : decode cX9_shortenBy 1 = .ok (.getfield 22, 3) := by decide +kernel
theorem dX9_shortenBy_4 : decode cX9_shortenBy 4 = .ok (.iload_n 1, 1) := by decide +kernel
theorem dX9_shortenBy_5 : decode cX9_shortenBy 5 = .ok (.bipush 6, 2) := by decide +kernel
theorem dX9_shortenBy_7 : decode cX9_shortenBy 7 = .ok (.imul, 1) := by decide +kernel
theorem dX9_shortenBy_8 : decode cX9_shortenBy 8 = .ok (.iload_n 2, 1) := by decide +kernel
theorem dX9_shortenBy_9 : decode cX9_shortenBy 9 = .ok (.iadd, 1) := by decide +kernel
theorem dX9_shortenBy_10 : decode cX9_shortenBy 10 = .ok (.iaload, 1) := by decide +kernel
theorem dX9_shortenBy_11 : decode cX9_shortenBy 11 = .ok (.istore 4, 2) := by decide +kernel
theorem dX9_shortenBy_13 : decode cX9_shortenBy 13 = .ok (.aload_n 0, 1) := by decide +kernel
theorem dX9_shortenBy_14 : decode cX9_shortenBy 14 = .ok (.getfield 22, 3) := by decide +kernel
theorem dX9_shortenBy_17 : decode cX9_shortenBy 17 = .ok (.iload_n 2, 1) := by decide +kernel
theorem dX9_shortenBy_18 : decode cX9_shortenBy 18 = .ok (.bipush 6, 2) := by decide +kernel
theorem dX9_shortenBy_20 : decode cX9_shortenBy 20 = .ok (.imul, 1) := by decide +kernel
theorem dX9_shortenBy_21 : decode cX9_shortenBy 21 = .ok (.iload_n 3, 1) := by decide +kernel
theorem dX9_shortenBy_22 : decode cX9_shortenBy 22 = .ok (.iadd, 1) := by decide +kernel
theorem dX9_shortenBy_23 : decode cX9_shortenBy 23 = .ok (.iaload, 1) := by decide +kernel
theorem dX9_shortenBy_24 : decode cX9_shortenBy 24 = .ok (.istore 5, 2) := by decide +kernel
theorem dX9_shortenBy_26 : decode cX9_shortenBy 26 = .ok (.iload 4, 2) := by decide +kernel
theorem dX9_shortenBy_28 : decode cX9_shortenBy 28 = .ok (.iconst (-1), 1) := by decide +kernel
theorem dX9_shortenBy_29 : decode cX9_shortenBy 29 = .ok (.if_icmp .eq 9, 3) := by decide +kernel
theorem dX9_shortenBy_32 : decode cX9_shortenBy 32 = .ok (.iload 5, 2) := by decide +kernel
theorem dX9_shortenBy_34 : decode cX9_shortenBy 34 = .ok (.iconst (-1), 1) := by decide +kernel
theorem dX9_shortenBy_35 : decode cX9_shortenBy 35 = .ok (.if_icmp .ne 4, 3) := by decide +kernel
theorem dX9_shortenBy_38 : decode cX9_shortenBy 38 = .ok (.return_, 1) := by decide +kernel
theorem dX9_shortenBy_39 : decode cX9_shortenBy 39 = .ok (.aload_n 0, 1) := by decide +kernel
theorem dX9_shortenBy_40 : decode cX9_shortenBy 40 = .ok (.getfield 22, 3) := by decide +kernel
theorem dX9_shortenBy_43 : decode cX9_shortenBy 43 = .ok (.iload_n 1, 1) := by decide +kernel
theorem dX9_shortenBy_44 : decode cX9_shortenBy 44 = .ok (.bipush 6, 2) := by decide +kernel
theorem dX9_shortenBy_46 : decode cX9_shortenBy 46 = .ok (.imul, 1) := by decide +kernel
theorem dX9_shortenBy_47 : decode cX9_shortenBy 47 = .ok (.iload_n 3, 1) := by decide +kernel
theorem dX9_shortenBy_48 : decode cX9_shortenBy 48 = .ok (.iadd, 1) := by decide +kernel
theorem dX9_shortenBy_49 : decode cX9_shortenBy 49 = .ok (.iaload, 1) := by decide +kernel
theorem dX9_shortenBy_50 : decode cX9_shortenBy 50 = .ok (.istore 6, 2) := by decide +kernel
theorem dX9_shortenBy_52 : decode cX9_shortenBy 52 = .ok (.iload 6, 2) := by decide +kernel
theorem dX9_shortenBy_54 : decode cX9_shortenBy 54 = .ok (.iconst (-1), 1) := by decide +kernel
theorem dX9_shortenBy_55 : decode cX9_shortenBy 55 = .ok (.if_icmp .eq 13, 3) := by decide +kernel
theorem dX9_shortenBy_58 : decode cX9_shortenBy 58 = .ok (.iload 4, 2) := by decide +kernel
theorem dX9_shortenBy_60 : decode cX9_shortenBy 60 = .ok (.iload 5, 2) := by decide +kernel
theorem dX9_shortenBy_62 : decode cX9_shortenBy 62 = .ok (.iadd, 1) := by decide +kernel
theorem dX9_shortenBy_63 : decode cX9_shortenBy 63 = .ok (.iload 6, 2) := by decide +kernel
theorem dX9_shortenBy_65 : decode cX9_shortenBy 65 = .ok (.if_icmp .ge 19, 3) := by decide +kernel
theorem dX9_shortenBy_68 : decode cX9_shortenBy 68 = .ok (.aload_n 0, 1) := by decide +kernel
theorem dX9_shortenBy_69 : decode cX9_shortenBy 69 = .ok (.getfield 22, 3) := by decide +kernel
theorem dX9_shortenBy_72 : decode cX9_shortenBy 72 = .ok (.iload_n 1, 1) := by decide +kernel
theorem dX9_shortenBy_73 : decode cX9_shortenBy 73 = .ok (.bipush 6, 2) := by decide +kernel
theorem dX9_shortenBy_75 : decode cX9_shortenBy 75 = .ok (.imul, 1) := by decide +kernel
theorem dX9_shortenBy_76 : decode cX9_shortenBy 76 = .ok (.iload_n 3, 1) := by decide +kernel
theorem dX9_shortenBy_77 : decode cX9_shortenBy 77 = .ok (.iadd, 1) := by decide +kernel
theorem dX9_shortenBy_78 : decode cX9_shortenBy 78 = .ok (.iload 4, 2) := by decide +kernel
theorem dX9_shortenBy_80 : decode cX9_shortenBy 80 = .ok (.iload 5, 2) := by decide +kernel
theorem dX9_shortenBy_82 : decode cX9_shortenBy 82 = .ok (.iadd, 1) := by decide +kernel
theorem dX9_shortenBy_83 : decode cX9_shortenBy 83 = .ok (.iastore, 1) := by decide +kernel
theorem dX9_shortenBy_84 : decode cX9_shortenBy 84 = .ok (.return_, 1) := by decide +kernel
theorem dX9_measuredByRounds_0 : decode cX9_measuredByRounds 0 = .ok (.aload_n 0, 1) := by decide +kernel
theorem dX9_measuredByRounds_1 : decode cX9_measuredByRounds 1 = .ok (.getfield 22, 3) := by decide +kernel
theorem dX9_measuredByRounds_4 : decode cX9_measuredByRounds 4 = .ok (.iload_n 1, 1) := by decide +kernel
theorem dX9_measuredByRounds_5 : decode cX9_measuredByRounds 5 = .ok (.bipush 6, 2) := by decide +kernel
theorem dX9_measuredByRounds_7 : decode cX9_measuredByRounds 7 = .ok (.imul, 1) := by decide +kernel
theorem dX9_measuredByRounds_8 : decode cX9_measuredByRounds 8 = .ok (.iload_n 2, 1) := by decide +kernel
theorem dX9_measuredByRounds_9 : decode cX9_measuredByRounds 9 = .ok (.iadd, 1) := by decide +kernel
theorem dX9_measuredByRounds_10 : decode cX9_measuredByRounds 10 = .ok (.iaload, 1) := by decide +kernel
theorem dX9_measuredByRounds_11 : decode cX9_measuredByRounds 11 = .ok (.ireturn, 1) := by decide +kernel
theorem dX9_bothDistancesAgree_0 : decode cX9_bothDistancesAgree 0 = .ok (.aload_n 0, 1) := by decide +kernel
theorem dX9_bothDistancesAgree_1 : decode cX9_bothDistancesAgree 1 = .ok (.invokevirtual 58, 3) := by decide +kernel
theorem dX9_bothDistancesAgree_4 : decode cX9_bothDistancesAgree 4 = .ok (.iconst 0, 1) := by decide +kernel
theorem dX9_bothDistancesAgree_5 : decode cX9_bothDistancesAgree 5 = .ok (.istore_n 1, 1) := by decide +kernel
theorem dX9_bothDistancesAgree_6 : decode cX9_bothDistancesAgree 6 = .ok (.iload_n 1, 1) := by decide +kernel
theorem dX9_bothDistancesAgree_7 : decode cX9_bothDistancesAgree 7 = .ok (.bipush 6, 2) := by decide +kernel
theorem dX9_bothDistancesAgree_9 : decode cX9_bothDistancesAgree 9 = .ok (.if_icmp .ge 45, 3) := by decide +kernel
theorem dX9_bothDistancesAgree_12 : decode cX9_bothDistancesAgree 12 = .ok (.aload_n 0, 1) := by decide +kernel
theorem dX9_bothDistancesAgree_13 : decode cX9_bothDistancesAgree 13 = .ok (.iload_n 1, 1) := by decide +kernel
theorem dX9_bothDistancesAgree_14 : decode cX9_bothDistancesAgree 14 = .ok (.invokevirtual 39, 3) := by decide +kernel
theorem dX9_bothDistancesAgree_17 : decode cX9_bothDistancesAgree 17 = .ok (.iconst 0, 1) := by decide +kernel
theorem dX9_bothDistancesAgree_18 : decode cX9_bothDistancesAgree 18 = .ok (.istore_n 2, 1) := by decide +kernel
theorem dX9_bothDistancesAgree_19 : decode cX9_bothDistancesAgree 19 = .ok (.iload_n 2, 1) := by decide +kernel
theorem dX9_bothDistancesAgree_20 : decode cX9_bothDistancesAgree 20 = .ok (.bipush 6, 2) := by decide +kernel
theorem dX9_bothDistancesAgree_22 : decode cX9_bothDistancesAgree 22 = .ok (.if_icmp .ge 26, 3) := by decide +kernel
theorem dX9_bothDistancesAgree_25 : decode cX9_bothDistancesAgree 25 = .ok (.aload_n 0, 1) := by decide +kernel
theorem dX9_bothDistancesAgree_26 : decode cX9_bothDistancesAgree 26 = .ok (.getfield 15, 3) := by decide +kernel
theorem dX9_bothDistancesAgree_29 : decode cX9_bothDistancesAgree 29 = .ok (.iload_n 2, 1) := by decide +kernel
theorem dX9_bothDistancesAgree_30 : decode cX9_bothDistancesAgree 30 = .ok (.iaload, 1) := by decide +kernel
theorem dX9_bothDistancesAgree_31 : decode cX9_bothDistancesAgree 31 = .ok (.aload_n 0, 1) := by decide +kernel
theorem dX9_bothDistancesAgree_32 : decode cX9_bothDistancesAgree 32 = .ok (.iload_n 1, 1) := by decide +kernel
theorem dX9_bothDistancesAgree_33 : decode cX9_bothDistancesAgree 33 = .ok (.iload_n 2, 1) := by decide +kernel
theorem dX9_bothDistancesAgree_34 : decode cX9_bothDistancesAgree 34 = .ok (.invokevirtual 61, 3) := by decide +kernel
theorem dX9_bothDistancesAgree_37 : decode cX9_bothDistancesAgree 37 = .ok (.if_icmp .eq 5, 3) := by decide +kernel
theorem dX9_bothDistancesAgree_40 : decode cX9_bothDistancesAgree 40 = .ok (.iconst 0, 1) := by decide +kernel
theorem dX9_bothDistancesAgree_41 : decode cX9_bothDistancesAgree 41 = .ok (.ireturn, 1) := by decide +kernel
theorem dX9_bothDistancesAgree_42 : decode cX9_bothDistancesAgree 42 = .ok (.iinc 2 1, 3) := by decide +kernel
theorem dX9_bothDistancesAgree_45 : decode cX9_bothDistancesAgree 45 = .ok (.goto (-26), 3) := by decide +kernel
theorem dX9_bothDistancesAgree_48 : decode cX9_bothDistancesAgree 48 = .ok (.iinc 1 1, 3) := by decide +kernel
theorem dX9_bothDistancesAgree_51 : decode cX9_bothDistancesAgree 51 = .ok (.goto (-45), 3) := by decide +kernel
theorem dX9_bothDistancesAgree_54 : decode cX9_bothDistancesAgree 54 = .ok (.iconst 1, 1) := by decide +kernel
theorem dX9_bothDistancesAgree_55 : decode cX9_bothDistancesAgree 55 = .ok (.ireturn, 1) := by decide +kernel
theorem dX10_init_0 : decode cX10_init 0 = .ok (.aload_n 0, 1) := by decide +kernel
theorem dX10_init_1 : decode cX10_init 1 = .ok (.invokespecial 3, 3) := by decide +kernel
theorem dX10_init_4 : decode cX10_init 4 = .ok (.aload_n 0, 1) := by decide +kernel
theorem dX10_init_5 : decode cX10_init 5 = .ok (.bipush 100, 2) := by decide +kernel
theorem dX10_init_7 : decode cX10_init 7 = .ok (.newarray .char, 2) := by decide +kernel
theorem dX10_init_9 : decode cX10_init 9 = .ok (.putfield 9, 3) := by decide +kernel
theorem dX10_init_12 : decode cX10_init 12 = .ok (.aload_n 0, 1) := by decide +kernel
theorem dX10_init_13 : decode cX10_init 13 = .ok (.iconst 0, 1) := by decide +kernel
theorem dX10_init_14 : decode cX10_init 14 = .ok (.putfield 15, 3) := by decide +kernel
theorem dX10_init_17 : decode cX10_init 17 = .ok (.return_, 1) := by decide +kernel
theorem dX10_size_0 : decode cX10_size 0 = .ok (.aload_n 0, 1) := by decide +kernel
theorem dX10_size_1 : decode cX10_size 1 = .ok (.getfield 15, 3) := by decide +kernel
theorem dX10_size_4 : decode cX10_size 4 = .ok (.ireturn, 1) := by decide +kernel
theorem dX10_at_0 : decode cX10_at 0 = .ok (.aload_n 0, 1) := by decide +kernel
theorem dX10_at_1 : decode cX10_at 1 = .ok (.getfield 9, 3) := by decide +kernel
theorem dX10_at_4 : decode cX10_at 4 = .ok (.iload_n 1, 1) := by decide +kernel
theorem dX10_at_5 : decode cX10_at 5 = .ok (.caload, 1) := by decide +kernel
theorem dX10_at_6 : decode cX10_at 6 = .ok (.ireturn, 1) := by decide +kernel
theorem dX10_describe_0 : decode cX10_describe 0 = .ok (.aload_n 0, 1) := by decide +kernel
theorem dX10_describe_1 : decode cX10_describe 1 = .ok (.iconst 0, 1) := by decide +kernel
theorem dX10_describe_2 : decode cX10_describe 2 = .ok (.putfield 15, 3) := by decide +kernel
theorem dX10_describe_5 : decode cX10_describe 5 = .ok (.aload_n 0, 1) := by decide +kernel
theorem dX10_describe_6 : decode cX10_describe 6 = .ok (.bipush 115, 2) := by decide +kernel
theorem dX10_describe_8 : decode cX10_describe 8 = .ok (.invokevirtual 19, 3) := by decide +kernel
theorem dX10_describe_11 : decode cX10_describe 11 = .ok (.aload_n 0, 1) := by decide +kernel
theorem dX10_describe_12 : decode cX10_describe 12 = .ok (.iload_n 2, 1) := by decide +kernel
theorem dX10_describe_13 : decode cX10_describe 13 = .ok (.invokevirtual 23, 3) := by decide +kernel
theorem dX10_describe_16 : decode cX10_describe 16 = .ok (.aload_n 0, 1) := by decide +kernel
theorem dX10_describe_17 : decode cX10_describe 17 = .ok (.bipush 64, 2) := by decide +kernel
theorem dX10_describe_19 : decode cX10_describe 19 = .ok (.invokevirtual 19, 3) := by decide +kernel
theorem dX10_describe_22 : decode cX10_describe 22 = .ok (.aload_n 0, 1) := by decide +kernel
theorem dX10_describe_23 : decode cX10_describe 23 = .ok (.aload_n 1, 1) := by decide +kernel
theorem dX10_describe_24 : decode cX10_describe 24 = .ok (.getfield 27, 3) := by decide +kernel
theorem dX10_describe_27 : decode cX10_describe 27 = .ok (.iload_n 2, 1) := by decide +kernel
theorem dX10_describe_28 : decode cX10_describe 28 = .ok (.invokevirtual 33, 3) := by decide +kernel
theorem dX10_describe_31 : decode cX10_describe 31 = .ok (.invokevirtual 23, 3) := by decide +kernel
theorem dX10_describe_34 : decode cX10_describe 34 = .ok (.iconst 0, 1) := by decide +kernel
theorem dX10_describe_35 : decode cX10_describe 35 = .ok (.istore_n 3, 1) := by decide +kernel
theorem dX10_describe_36 : decode cX10_describe 36 = .ok (.iload_n 3, 1) := by decide +kernel
theorem dX10_describe_37 : decode cX10_describe 37 = .ok (.aload_n 1, 1) := by decide +kernel
theorem dX10_describe_38 : decode cX10_describe 38 = .ok (.getfield 39, 3) := by decide +kernel
theorem dX10_describe_41 : decode cX10_describe 41 = .ok (.invokevirtual 43, 3) := by decide +kernel
theorem dX10_describe_44 : decode cX10_describe 44 = .ok (.if_icmp .ge 30, 3) := by decide +kernel
theorem dX10_describe_47 : decode cX10_describe 47 = .ok (.aload_n 1, 1) := by decide +kernel
theorem dX10_describe_48 : decode cX10_describe 48 = .ok (.getfield 39, 3) := by decide +kernel
theorem dX10_describe_51 : decode cX10_describe 51 = .ok (.iload_n 3, 1) := by decide +kernel
theorem dX10_describe_52 : decode cX10_describe 52 = .ok (.invokevirtual 49, 3) := by decide +kernel
theorem dX10_describe_55 : decode cX10_describe 55 = .ok (.iload_n 2, 1) := by decide +kernel
theorem dX10_describe_56 : decode cX10_describe 56 = .ok (.if_icmp .ne 12, 3) := by decide +kernel
theorem dX10_describe_59 : decode cX10_describe 59 = .ok (.aload_n 0, 1) := by decide +kernel
theorem dX10_describe_60 : decode cX10_describe 60 = .ok (.aload_n 1, 1) := by decide +kernel
theorem dX10_describe_61 : decode cX10_describe 61 = .ok (.getfield 39, 3) := by decide +kernel
theorem dX10_describe_64 : decode cX10_describe 64 = .ok (.iload_n 3, 1) := by decide +kernel
theorem dX10_describe_65 : decode cX10_describe 65 = .ok (.invokevirtual 52, 3) := by decide +kernel
theorem dX10_describe_68 : decode cX10_describe 68 = .ok (.iinc 3 1, 3) := by decide +kernel
theorem dX10_describe_71 : decode cX10_describe 71 = .ok (.goto (-35), 3) := by decide +kernel
theorem dX10_describe_74 : decode cX10_describe 74 = .ok (.aload_n 0, 1) := by decide +kernel
theorem dX10_describe_75 : decode cX10_describe 75 = .ok (.getfield 15, 3) := by decide +kernel
theorem dX10_describe_78 : decode cX10_describe 78 = .ok (.ireturn, 1) := by decide +kernel
theorem dX10_addParcel_0 : decode cX10_addParcel 0 = .ok (.aload_n 0, 1) := by decide +kernel
theorem dX10_addParcel_1 : decode cX10_addParcel 1 = .ok (.bipush 32, 2) := by decide +kernel
theorem dX10_addParcel_3 : decode cX10_addParcel 3 = .ok (.invokevirtual 19, 3) := by decide +kernel
theorem dX10_addParcel_6 : decode cX10_addParcel 6 = .ok (.aload_n 0, 1) := by decide +kernel
theorem dX10_addParcel_7 : decode cX10_addParcel 7 = .ok (.aload_n 1, 1) := by decide +kernel
theorem dX10_addParcel_8 : decode cX10_addParcel 8 = .ok (.iload_n 2, 1) := by decide +kernel
theorem dX10_addParcel_9 : decode cX10_addParcel 9 = .ok (.invokevirtual 56, 3) := by decide +kernel
theorem dX10_addParcel_12 : decode cX10_addParcel 12 = .ok (.invokevirtual 23, 3) := by decide +kernel
theorem dX10_addParcel_15 : decode cX10_addParcel 15 = .ok (.iconst 0, 1) := by decide +kernel
theorem dX10_addParcel_16 : decode cX10_addParcel 16 = .ok (.istore_n 3, 1) := by decide +kernel
theorem dX10_addParcel_17 : decode cX10_addParcel 17 = .ok (.iload_n 3, 1) := by decide +kernel
theorem dX10_addParcel_18 : decode cX10_addParcel 18 = .ok (.aload_n 1, 1) := by decide +kernel
theorem dX10_addParcel_19 : decode cX10_addParcel 19 = .ok (.iload_n 2, 1) := by decide +kernel
theorem dX10_addParcel_20 : decode cX10_addParcel 20 = .ok (.invokevirtual 59, 3) := by decide +kernel
theorem dX10_addParcel_23 : decode cX10_addParcel 23 = .ok (.if_icmp .ge 15, 3) := by decide +kernel
theorem dX10_addParcel_26 : decode cX10_addParcel 26 = .ok (.aload_n 0, 1) := by decide +kernel
theorem dX10_addParcel_27 : decode cX10_addParcel 27 = .ok (.bipush 104, 2) := by decide +kernel
theorem dX10_addParcel_29 : decode cX10_addParcel 29 = .ok (.invokevirtual 19, 3) := by decide +kernel
theorem dX10_addParcel_32 : decode cX10_addParcel 32 = .ok (.iinc 3 1, 3) := by decide +kernel
theorem dX10_addParcel_35 : decode cX10_addParcel 35 = .ok (.goto (-18), 3) := by decide +kernel
theorem dX10_addParcel_38 : decode cX10_addParcel 38 = .ok (.aload_n 0, 1) := by decide +kernel
theorem dX10_addParcel_39 : decode cX10_addParcel 39 = .ok (.bipush 62, 2) := by decide +kernel
theorem dX10_addParcel_41 : decode cX10_addParcel 41 = .ok (.invokevirtual 19, 3) := by decide +kernel
theorem dX10_addParcel_44 : decode cX10_addParcel 44 = .ok (.aload_n 0, 1) := by decide +kernel
theorem dX10_addParcel_45 : decode cX10_addParcel 45 = .ok (.aload_n 1, 1) := by decide +kernel
theorem dX10_addParcel_46 : decode cX10_addParcel 46 = .ok (.iload_n 2, 1) := by decide +kernel
theorem dX10_addParcel_47 : decode cX10_addParcel 47 = .ok (.invokevirtual 62, 3) := by decide +kernel
theorem dX10_addParcel_50 : decode cX10_addParcel 50 = .ok (.invokevirtual 23, 3) := by decide +kernel
theorem dX10_addParcel_53 : decode cX10_addParcel 53 = .ok (.return_, 1) := by decide +kernel
theorem dX10_addNumber_0 : decode cX10_addNumber 0 = .ok (.iload_n 1, 1) := by decide +kernel
theorem dX10_addNumber_1 : decode cX10_addNumber 1 = .ok (.bipush 10, 2) := by decide +kernel
theorem dX10_addNumber_3 : decode cX10_addNumber 3 = .ok (.if_icmp .lt 15, 3) := by decide +kernel
theorem dX10_addNumber_6 : decode cX10_addNumber 6 = .ok (.aload_n 0, 1) := by decide +kernel
theorem dX10_addNumber_7 : decode cX10_addNumber 7 = .ok (.bipush 48, 2) := by decide +kernel
theorem dX10_addNumber_9 : decode cX10_addNumber 9 = .ok (.iload_n 1, 1) := by decide +kernel
theorem dX10_addNumber_10 : decode cX10_addNumber 10 = .ok (.bipush 10, 2) := by decide +kernel
theorem dX10_addNumber_12 : decode cX10_addNumber 12 = .ok (.idiv, 1) := by decide +kernel
theorem dX10_addNumber_13 : decode cX10_addNumber 13 = .ok (.iadd, 1) := by decide +kernel
theorem dX10_addNumber_14 : decode cX10_addNumber 14 = .ok (.i2c, 1) := by decide +kernel
theorem dX10_addNumber_15 : decode cX10_addNumber 15 = .ok (.invokevirtual 19, 3) := by decide +kernel
theorem dX10_addNumber_18 : decode cX10_addNumber 18 = .ok (.aload_n 0, 1) := by decide +kernel
theorem dX10_addNumber_19 : decode cX10_addNumber 19 = .ok (.bipush 48, 2) := by decide +kernel
theorem dX10_addNumber_21 : decode cX10_addNumber 21 = .ok (.iload_n 1, 1) := by decide +kernel
theorem dX10_addNumber_22 : decode cX10_addNumber 22 = .ok (.bipush 10, 2) := by decide +kernel
theorem dX10_addNumber_24 : decode cX10_addNumber 24 = .ok (.irem, 1) := by decide +kernel
theorem dX10_addNumber_25 : decode cX10_addNumber 25 = .ok (.iadd, 1) := by decide +kernel
theorem dX10_addNumber_26 : decode cX10_addNumber 26 = .ok (.i2c, 1) := by decide +kernel
theorem dX10_addNumber_27 : decode cX10_addNumber 27 = .ok (.invokevirtual 19, 3) := by decide +kernel
theorem dX10_addNumber_30 : decode cX10_addNumber 30 = .ok (.return_, 1) := by decide +kernel
theorem dX10_add_0 : decode cX10_add 0 = .ok (.aload_n 0, 1) := by decide +kernel
theorem dX10_add_1 : decode cX10_add 1 = .ok (.getfield 15, 3) := by decide +kernel
theorem dX10_add_4 : decode cX10_add 4 = .ok (.bipush 100, 2) := by decide +kernel
theorem dX10_add_6 : decode cX10_add 6 = .ok (.if_icmp .ge 23, 3) := by decide +kernel
theorem dX10_add_9 : decode cX10_add 9 = .ok (.aload_n 0, 1) := by decide +kernel
theorem dX10_add_10 : decode cX10_add 10 = .ok (.getfield 9, 3) := by decide +kernel
theorem dX10_add_13 : decode cX10_add 13 = .ok (.aload_n 0, 1) := by decide +kernel
theorem dX10_add_14 : decode cX10_add 14 = .ok (.getfield 15, 3) := by decide +kernel
theorem dX10_add_17 : decode cX10_add 17 = .ok (.iload_n 1, 1) := by decide +kernel
theorem dX10_add_18 : decode cX10_add 18 = .ok (.castore, 1) := by decide +kernel
theorem dX10_add_19 : decode cX10_add 19 = .ok (.aload_n 0, 1) := by decide +kernel
theorem dX10_add_20 : decode cX10_add 20 = .ok (.dup, 1) := by decide +kernel
theorem dX10_add_21 : decode cX10_add 21 = .ok (.getfield 15, 3) := by decide +kernel
theorem dX10_add_24 : decode cX10_add 24 = .ok (.iconst 1, 1) := by decide +kernel
theorem dX10_add_25 : decode cX10_add 25 = .ok (.iadd, 1) := by decide +kernel
theorem dX10_add_26 : decode cX10_add 26 = .ok (.putfield 15, 3) := by decide +kernel
theorem dX10_add_29 : decode cX10_add 29 = .ok (.return_, 1) := by decide +kernel
theorem dX11_init_0 : decode cX11_init 0 = .ok (.aload_n 0, 1) := by decide +kernel
theorem dX11_init_1 : decode cX11_init 1 = .ok (.invokespecial 3, 3) := by decide +kernel
theorem dX11_init_4 : decode cX11_init 4 = .ok (.aload_n 0, 1) := by decide +kernel
theorem dX11_init_5 : decode cX11_init 5 = .ok (.iconst 3, 1) := by decide +kernel
theorem dX11_init_6 : decode cX11_init 6 = .ok (.newarray .int, 2) := by decide +kernel
theorem dX11_init_8 : decode cX11_init 8 = .ok (.putfield 9, 3) := by decide +kernel
theorem dX11_init_11 : decode cX11_init 11 = .ok (.aload_n 0, 1) := by decide +kernel
theorem dX11_init_12 : decode cX11_init 12 = .ok (.iconst 3, 1) := by decide +kernel
theorem dX11_init_13 : decode cX11_init 13 = .ok (.newarray .int, 2) := by decide +kernel
theorem dX11_init_15 : decode cX11_init 15 = .ok (.putfield 15, 3) := by decide +kernel
theorem dX11_init_18 : decode cX11_init 18 = .ok (.aload_n 0, 1) := by decide +kernel
theorem dX11_init_19 : decode cX11_init 19 = .ok (.iconst 0, 1) := by decide +kernel
theorem dX11_init_20 : decode cX11_init 20 = .ok (.putfield 18, 3) := by decide +kernel
theorem dX11_init_23 : decode cX11_init 23 = .ok (.iconst 0, 1) := by decide +kernel
theorem dX11_init_24 : decode cX11_init 24 = .ok (.istore_n 1, 1) := by decide +kernel
theorem dX11_init_25 : decode cX11_init 25 = .ok (.iload_n 1, 1) := by decide +kernel
theorem dX11_init_26 : decode cX11_init 26 = .ok (.iconst 3, 1) := by decide +kernel
theorem dX11_init_27 : decode cX11_init 27 = .ok (.if_icmp .ge 17, 3) := by decide +kernel
theorem dX11_init_30 : decode cX11_init 30 = .ok (.aload_n 0, 1) := by decide +kernel
theorem dX11_init_31 : decode cX11_init 31 = .ok (.getfield 15, 3) := by decide +kernel
theorem dX11_init_34 : decode cX11_init 34 = .ok (.iload_n 1, 1) := by decide +kernel
theorem dX11_init_35 : decode cX11_init 35 = .ok (.bipush 30, 2) := by decide +kernel
theorem dX11_init_37 : decode cX11_init 37 = .ok (.iastore, 1) := by decide +kernel
theorem dX11_init_38 : decode cX11_init 38 = .ok (.iinc 1 1, 3) := by decide +kernel
theorem dX11_init_41 : decode cX11_init 41 = .ok (.goto (-16), 3) := by decide +kernel
theorem dX11_init_44 : decode cX11_init 44 = .ok (.return_, 1) := by decide +kernel
theorem dX11_copyFrom_0 : decode cX11_copyFrom 0 = .ok (.aload_n 1, 1) := by decide +kernel
theorem dX11_copyFrom_1 : decode cX11_copyFrom 1 = .ok (.getfield 9, 3) := by decide +kernel
theorem dX11_copyFrom_4 : decode cX11_copyFrom 4 = .ok (.iconst 0, 1) := by decide +kernel
theorem dX11_copyFrom_5 : decode cX11_copyFrom 5 = .ok (.aload_n 0, 1) := by decide +kernel
theorem dX11_copyFrom_6 : decode cX11_copyFrom 6 = .ok (.getfield 9, 3) := by decide +kernel
theorem dX11_copyFrom_9 : decode cX11_copyFrom 9 = .ok (.iconst 0, 1) := by decide +kernel
theorem dX11_copyFrom_10 : decode cX11_copyFrom 10 = .ok (.iconst 3, 1) := by decide +kernel
theorem dX11_copyFrom_11 : decode cX11_copyFrom 11 = .ok (.invokestatic 22, 3) := by decide +kernel
theorem dX11_copyFrom_14 : decode cX11_copyFrom 14 = .ok (.aload_n 1, 1) := by decide +kernel
theorem dX11_copyFrom_15 : decode cX11_copyFrom 15 = .ok (.getfield 15, 3) := by decide +kernel
theorem dX11_copyFrom_18 : decode cX11_copyFrom 18 = .ok (.iconst 0, 1) := by decide +kernel
theorem dX11_copyFrom_19 : decode cX11_copyFrom 19 = .ok (.aload_n 0, 1) := by decide +kernel
theorem dX11_copyFrom_20 : decode cX11_copyFrom 20 = .ok (.getfield 15, 3) := by decide +kernel
theorem dX11_copyFrom_23 : decode cX11_copyFrom 23 = .ok (.iconst 0, 1) := by decide +kernel
theorem dX11_copyFrom_24 : decode cX11_copyFrom 24 = .ok (.iconst 3, 1) := by decide +kernel
theorem dX11_copyFrom_25 : decode cX11_copyFrom 25 = .ok (.invokestatic 22, 3) := by decide +kernel
theorem dX11_copyFrom_28 : decode cX11_copyFrom 28 = .ok (.aload_n 0, 1) := by decide +kernel
theorem dX11_copyFrom_29 : decode cX11_copyFrom 29 = .ok (.aload_n 1, 1) := by decide +kernel
theorem dX11_copyFrom_30 : decode cX11_copyFrom 30 = .ok (.getfield 18, 3) := by decide +kernel
theorem dX11_copyFrom_33 : decode cX11_copyFrom 33 = .ok (.putfield 18, 3) := by decide +kernel
theorem dX11_copyFrom_36 : decode cX11_copyFrom 36 = .ok (.return_, 1) := by decide +kernel
theorem dX11_placeOf_0 : decode cX11_placeOf 0 = .ok (.aload_n 0, 1) := by decide +kernel
theorem dX11_placeOf_1 : decode cX11_placeOf 1 = .ok (.getfield 9, 3) := by decide +kernel
theorem dX11_placeOf_4 : decode cX11_placeOf 4 = .ok (.iload_n 1, 1) := by decide +kernel
theorem dX11_placeOf_5 : decode cX11_placeOf 5 = .ok (.iaload, 1) := by decide +kernel
theorem dX11_placeOf_6 : decode cX11_placeOf 6 = .ok (.ireturn, 1) := by decide +kernel
theorem dX11_capacityOf_0 : decode cX11_capacityOf 0 = .ok (.aload_n 0, 1) := by decide +kernel
theorem dX11_capacityOf_1 : decode cX11_capacityOf 1 = .ok (.getfield 15, 3) := by decide +kernel
theorem dX11_capacityOf_4 : decode cX11_capacityOf 4 = .ok (.iload_n 1, 1) := by decide +kernel
theorem dX11_capacityOf_5 : decode cX11_capacityOf 5 = .ok (.iaload, 1) := by decide +kernel
theorem dX11_capacityOf_6 : decode cX11_capacityOf 6 = .ok (.ireturn, 1) := by decide +kernel
theorem dX11_effortOfAll_0 : decode cX11_effortOfAll 0 = .ok (.aload_n 0, 1) := by decide +kernel
theorem dX11_effortOfAll_1 : decode cX11_effortOfAll 1 = .ok (.getfield 18, 3) := by decide +kernel
theorem dX11_effortOfAll_4 : decode cX11_effortOfAll 4 = .ok (.ireturn, 1) := by decide +kernel
theorem dX11_resize_0 : decode cX11_resize 0 = .ok (.aload_n 0, 1) := by decide +kernel
theorem dX11_resize_1 : decode cX11_resize 1 = .ok (.getfield 15, 3) := by decide +kernel
theorem dX11_resize_4 : decode cX11_resize 4 = .ok (.iload_n 1, 1) := by decide +kernel
theorem dX11_resize_5 : decode cX11_resize 5 = .ok (.iaload, 1) := by decide +kernel
theorem dX11_resize_6 : decode cX11_resize 6 = .ok (.istore_n 3, 1) := by decide +kernel
theorem dX11_resize_7 : decode cX11_resize 7 = .ok (.aload_n 0, 1) := by decide +kernel
theorem dX11_resize_8 : decode cX11_resize 8 = .ok (.getfield 15, 3) := by decide +kernel
theorem dX11_resize_11 : decode cX11_resize 11 = .ok (.iload_n 1, 1) := by decide +kernel
theorem dX11_resize_12 : decode cX11_resize 12 = .ok (.iload_n 2, 1) := by decide +kernel
theorem dX11_resize_13 : decode cX11_resize 13 = .ok (.iastore, 1) := by decide +kernel
theorem dX11_resize_14 : decode cX11_resize 14 = .ok (.iload_n 3, 1) := by decide +kernel
theorem dX11_resize_15 : decode cX11_resize 15 = .ok (.ireturn, 1) := by decide +kernel
theorem dX11_move_0 : decode cX11_move 0 = .ok (.aload_n 0, 1) := by decide +kernel
theorem dX11_move_1 : decode cX11_move 1 = .ok (.getfield 9, 3) := by decide +kernel
theorem dX11_move_4 : decode cX11_move 4 = .ok (.iload_n 1, 1) := by decide +kernel
theorem dX11_move_5 : decode cX11_move 5 = .ok (.iload_n 2, 1) := by decide +kernel
theorem dX11_move_6 : decode cX11_move 6 = .ok (.iastore, 1) := by decide +kernel
theorem dX11_move_7 : decode cX11_move 7 = .ok (.aload_n 0, 1) := by decide +kernel
theorem dX11_move_8 : decode cX11_move 8 = .ok (.dup, 1) := by decide +kernel
theorem dX11_move_9 : decode cX11_move 9 = .ok (.getfield 18, 3) := by decide +kernel
theorem dX11_move_12 : decode cX11_move 12 = .ok (.iload_n 3, 1) := by decide +kernel
theorem dX11_move_13 : decode cX11_move 13 = .ok (.iadd, 1) := by decide +kernel
theorem dX11_move_14 : decode cX11_move 14 = .ok (.putfield 18, 3) := by decide +kernel
theorem dX11_move_17 : decode cX11_move 17 = .ok (.return_, 1) := by decide +kernel
theorem dX12_init_0 : decode cX12_init 0 = .ok (.aload_n 0, 1) := by decide +kernel
theorem dX12_init_1 : decode cX12_init 1 = .ok (.invokespecial 1, 3) := by decide +kernel
theorem dX12_init_4 : decode cX12_init 4 = .ok (.aload_n 0, 1) := by decide +kernel
theorem dX12_init_5 : decode cX12_init 5 = .ok (.new 7, 3) := by decide +kernel
theorem dX12_init_8 : decode cX12_init 8 = .ok (.dup, 1) := by decide +kernel
theorem dX12_init_9 : decode cX12_init 9 = .ok (.invokespecial 9, 3) := by decide +kernel
theorem dX12_init_12 : decode cX12_init 12 = .ok (.putfield 10, 3) := by decide +kernel
theorem dX12_init_15 : decode cX12_init 15 = .ok (.aload_n 0, 1) := by decide +kernel
theorem dX12_init_16 : decode cX12_init 16 = .ok (.new 7, 3) := by decide +kernel
theorem dX12_init_19 : decode cX12_init 19 = .ok (.dup, 1) := by decide +kernel
theorem dX12_init_20 : decode cX12_init 20 = .ok (.invokespecial 9, 3) := by decide +kernel
theorem dX12_init_23 : decode cX12_init 23 = .ok (.putfield 16, 3) := by decide +kernel
theorem dX12_init_26 : decode cX12_init 26 = .ok (.aload_n 0, 1) := by decide +kernel
theorem dX12_init_27 : decode cX12_init 27 = .ok (.new 19, 3) := by decide +kernel
theorem dX12_init_30 : decode cX12_init 30 = .ok (.dup, 1) := by decide +kernel
theorem dX12_init_31 : decode cX12_init 31 = .ok (.invokespecial 21, 3) := by decide +kernel
theorem dX12_init_34 : decode cX12_init 34 = .ok (.putfield 22, 3) := by decide +kernel
theorem dX12_init_37 : decode cX12_init 37 = .ok (.aload_n 0, 1) := by decide +kernel
theorem dX12_init_38 : decode cX12_init 38 = .ok (.new 26, 3) := by decide +kernel
theorem dX12_init_41 : decode cX12_init 41 = .ok (.dup, 1) := by decide +kernel
theorem dX12_init_42 : decode cX12_init 42 = .ok (.invokespecial 28, 3) := by decide +kernel
theorem dX12_init_45 : decode cX12_init 45 = .ok (.putfield 29, 3) := by decide +kernel
theorem dX12_init_48 : decode cX12_init 48 = .ok (.aload_n 0, 1) := by decide +kernel
theorem dX12_init_49 : decode cX12_init 49 = .ok (.new 33, 3) := by decide +kernel
theorem dX12_init_52 : decode cX12_init 52 = .ok (.dup, 1) := by decide +kernel
theorem dX12_init_53 : decode cX12_init 53 = .ok (.invokespecial 35, 3) := by decide +kernel
theorem dX12_init_56 : decode cX12_init 56 = .ok (.putfield 36, 3) := by decide +kernel
theorem dX12_init_59 : decode cX12_init 59 = .ok (.aload_n 0, 1) := by decide +kernel
theorem dX12_init_60 : decode cX12_init 60 = .ok (.new 40, 3) := by decide +kernel
theorem dX12_init_63 : decode cX12_init 63 = .ok (.dup, 1) := by decide +kernel
theorem dX12_init_64 : decode cX12_init 64 = .ok (.invokespecial 42, 3) := by decide +kernel
theorem dX12_init_67 : decode cX12_init 67 = .ok (.putfield 43, 3) := by decide +kernel
theorem dX12_init_70 : decode cX12_init 70 = .ok (.aload_n 0, 1) := by decide +kernel
theorem dX12_init_71 : decode cX12_init 71 = .ok (.iconst 0, 1) := by decide +kernel
theorem dX12_init_72 : decode cX12_init 72 = .ok (.putfield 47, 3) := by decide +kernel
theorem dX12_init_75 : decode cX12_init 75 = .ok (.aload_n 0, 1) := by decide +kernel
theorem dX12_init_76 : decode cX12_init 76 = .ok (.iconst (-1), 1) := by decide +kernel
theorem dX12_init_77 : decode cX12_init 77 = .ok (.putfield 51, 3) := by decide +kernel
theorem dX12_init_80 : decode cX12_init 80 = .ok (.aload_n 0, 1) := by decide +kernel
theorem dX12_init_81 : decode cX12_init 81 = .ok (.iconst (-1), 1) := by decide +kernel
theorem dX12_init_82 : decode cX12_init 82 = .ok (.putfield 55, 3) := by decide +kernel
theorem dX12_init_85 : decode cX12_init 85 = .ok (.return_, 1) := by decide +kernel
theorem dX12_buildRoad_0 : decode cX12_buildRoad 0 = .ok (.aload_n 0, 1) := by decide +kernel
theorem dX12_buildRoad_1 : decode cX12_buildRoad 1 = .ok (.getfield 22, 3) := by decide +kernel
theorem dX12_buildRoad_4 : decode cX12_buildRoad 4 = .ok (.aload_n 0, 1) := by decide +kernel
theorem dX12_buildRoad_5 : decode cX12_buildRoad 5 = .ok (.getfield 10, 3) := by decide +kernel
theorem dX12_buildRoad_8 : decode cX12_buildRoad 8 = .ok (.invokevirtual 58, 3) := by decide +kernel
theorem dX12_buildRoad_11 : decode cX12_buildRoad 11 = .ok (.aload_n 0, 1) := by decide +kernel
theorem dX12_buildRoad_12 : decode cX12_buildRoad 12 = .ok (.aload_n 0, 1) := by decide +kernel
theorem dX12_buildRoad_13 : decode cX12_buildRoad 13 = .ok (.getfield 10, 3) := by decide +kernel
theorem dX12_buildRoad_16 : decode cX12_buildRoad 16 = .ok (.iload_n 1, 1) := by decide +kernel
theorem dX12_buildRoad_17 : decode cX12_buildRoad 17 = .ok (.iload_n 2, 1) := by decide +kernel
theorem dX12_buildRoad_18 : decode cX12_buildRoad 18 = .ok (.iload_n 3, 1) := by decide +kernel
theorem dX12_buildRoad_19 : decode cX12_buildRoad 19 = .ok (.invokevirtual 62, 3) := by decide +kernel
theorem dX12_buildRoad_22 : decode cX12_buildRoad 22 = .ok (.invokevirtual 66, 3) := by decide +kernel
theorem dX12_buildRoad_25 : decode cX12_buildRoad 25 = .ok (.ireturn, 1) := by decide +kernel
theorem dX12_acceptParcel_0 : decode cX12_acceptParcel 0 = .ok (.aload_n 0, 1) := by decide +kernel
theorem dX12_acceptParcel_1 : decode cX12_acceptParcel 1 = .ok (.getfield 22, 3) := by decide +kernel
theorem dX12_acceptParcel_4 : decode cX12_acceptParcel 4 = .ok (.aload_n 0, 1) := by decide +kernel
theorem dX12_acceptParcel_5 : decode cX12_acceptParcel 5 = .ok (.getfield 10, 3) := by decide +kernel
theorem dX12_acceptParcel_8 : decode cX12_acceptParcel 8 = .ok (.invokevirtual 58, 3) := by decide +kernel
theorem dX12_acceptParcel_11 : decode cX12_acceptParcel 11 = .ok (.aload_n 0, 1) := by decide +kernel
theorem dX12_acceptParcel_12 : decode cX12_acceptParcel 12 = .ok (.aload_n 0, 1) := by decide +kernel
theorem dX12_acceptParcel_13 : decode cX12_acceptParcel 13 = .ok (.getfield 10, 3) := by decide +kernel
theorem dX12_acceptParcel_16 : decode cX12_acceptParcel 16 = .ok (.iload_n 1, 1) := by decide +kernel
theorem dX12_acceptParcel_17 : decode cX12_acceptParcel 17 = .ok (.iload_n 2, 1) := by decide +kernel
theorem dX12_acceptParcel_18 : decode cX12_acceptParcel 18 = .ok (.iload_n 3, 1) := by decide +kernel
theorem dX12_acceptParcel_19 : decode cX12_acceptParcel 19 = .ok (.invokevirtual 70, 3) := by decide +kernel
theorem dX12_acceptParcel_22 : decode cX12_acceptParcel 22 = .ok (.invokevirtual 66, 3) := by decide +kernel
theorem dX12_acceptParcel_25 : decode cX12_acceptParcel 25 = .ok (.ireturn, 1) := by decide +kernel
theorem dX12_buyGlove_0 : decode cX12_buyGlove 0 = .ok (.aload_n 0, 1) := by decide +kernel
theorem dX12_buyGlove_1 : decode cX12_buyGlove 1 = .ok (.getfield 22, 3) := by decide +kernel
theorem dX12_buyGlove_4 : decode cX12_buyGlove 4 = .ok (.aload_n 0, 1) := by decide +kernel
theorem dX12_buyGlove_5 : decode cX12_buyGlove 5 = .ok (.getfield 10, 3) := by decide +kernel
theorem dX12_buyGlove_8 : decode cX12_buyGlove 8 = .ok (.invokevirtual 58, 3) := by decide +kernel
theorem dX12_buyGlove_11 : decode cX12_buyGlove 11 = .ok (.aload_n 0, 1) := by decide +kernel
theorem dX12_buyGlove_12 : decode cX12_buyGlove 12 = .ok (.aload_n 0, 1) := by decide +kernel
theorem dX12_buyGlove_13 : decode cX12_buyGlove 13 = .ok (.getfield 10, 3) := by decide +kernel
theorem dX12_buyGlove_16 : decode cX12_buyGlove 16 = .ok (.iload_n 1, 1) := by decide +kernel
theorem dX12_buyGlove_17 : decode cX12_buyGlove 17 = .ok (.invokevirtual 73, 3) := by decide +kernel
theorem dX12_buyGlove_20 : decode cX12_buyGlove 20 = .ok (.invokevirtual 66, 3) := by decide +kernel
theorem dX12_buyGlove_23 : decode cX12_buyGlove 23 = .ok (.ireturn, 1) := by decide +kernel
theorem dX12_setCapacity_0 : decode cX12_setCapacity 0 = .ok (.aload_n 0, 1) := by decide +kernel
theorem dX12_setCapacity_1 : decode cX12_setCapacity 1 = .ok (.getfield 22, 3) := by decide +kernel
theorem dX12_setCapacity_4 : decode cX12_setCapacity 4 = .ok (.aload_n 0, 1) := by decide +kernel
theorem dX12_setCapacity_5 : decode cX12_setCapacity 5 = .ok (.getfield 10, 3) := by decide +kernel
theorem dX12_setCapacity_8 : decode cX12_setCapacity 8 = .ok (.invokevirtual 58, 3) := by decide +kernel
theorem dX12_setCapacity_11 : decode cX12_setCapacity 11 = .ok (.aload_n 0, 1) := by decide +kernel
theorem dX12_setCapacity_12 : decode cX12_setCapacity 12 = .ok (.aload_n 0, 1) := by decide +kernel
theorem dX12_setCapacity_13 : decode cX12_setCapacity 13 = .ok (.getfield 10, 3) := by decide +kernel
theorem dX12_setCapacity_16 : decode cX12_setCapacity 16 = .ok (.iload_n 1, 1) := by decide +kernel
theorem dX12_setCapacity_17 : decode cX12_setCapacity 17 = .ok (.iload_n 2, 1) := by decide +kernel
theorem dX12_setCapacity_18 : decode cX12_setCapacity 18 = .ok (.invokevirtual 76, 3) := by decide +kernel
theorem dX12_setCapacity_21 : decode cX12_setCapacity 21 = .ok (.invokevirtual 66, 3) := by decide +kernel
theorem dX12_setCapacity_24 : decode cX12_setCapacity 24 = .ok (.ireturn, 1) := by decide +kernel
theorem dX12_put_0 : decode cX12_put 0 = .ok (.aload_n 0, 1) := by decide +kernel
theorem dX12_put_1 : decode cX12_put 1 = .ok (.getfield 22, 3) := by decide +kernel
theorem dX12_put_4 : decode cX12_put 4 = .ok (.aload_n 0, 1) := by decide +kernel
theorem dX12_put_5 : decode cX12_put 5 = .ok (.getfield 10, 3) := by decide +kernel
theorem dX12_put_8 : decode cX12_put 8 = .ok (.invokevirtual 58, 3) := by decide +kernel
theorem dX12_put_11 : decode cX12_put 11 = .ok (.aload_n 0, 1) := by decide +kernel
theorem dX12_put_12 : decode cX12_put 12 = .ok (.aload_n 0, 1) := by decide +kernel
theorem dX12_put_13 : decode cX12_put 13 = .ok (.getfield 10, 3) := by decide +kernel
theorem dX12_put_16 : decode cX12_put 16 = .ok (.iload_n 1, 1) := by decide +kernel
theorem dX12_put_17 : decode cX12_put 17 = .ok (.iload_n 2, 1) := by decide +kernel
theorem dX12_put_18 : decode cX12_put 18 = .ok (.invokevirtual 80, 3) := by decide +kernel
theorem dX12_put_21 : decode cX12_put 21 = .ok (.invokevirtual 66, 3) := by decide +kernel
theorem dX12_put_24 : decode cX12_put 24 = .ok (.ireturn, 1) := by decide +kernel
theorem dX12_takeOut_0 : decode cX12_takeOut 0 = .ok (.aload_n 0, 1) := by decide +kernel
theorem dX12_takeOut_1 : decode cX12_takeOut 1 = .ok (.getfield 22, 3) := by decide +kernel
theorem dX12_takeOut_4 : decode cX12_takeOut 4 = .ok (.aload_n 0, 1) := by decide +kernel
theorem dX12_takeOut_5 : decode cX12_takeOut 5 = .ok (.getfield 10, 3) := by decide +kernel
theorem dX12_takeOut_8 : decode cX12_takeOut 8 = .ok (.invokevirtual 58, 3) := by decide +kernel
theorem dX12_takeOut_11 : decode cX12_takeOut 11 = .ok (.aload_n 0, 1) := by decide +kernel
theorem dX12_takeOut_12 : decode cX12_takeOut 12 = .ok (.aload_n 0, 1) := by decide +kernel
theorem dX12_takeOut_13 : decode cX12_takeOut 13 = .ok (.getfield 10, 3) := by decide +kernel
theorem dX12_takeOut_16 : decode cX12_takeOut 16 = .ok (.iload_n 1, 1) := by decide +kernel
theorem dX12_takeOut_17 : decode cX12_takeOut 17 = .ok (.invokevirtual 83, 3) := by decide +kernel
theorem dX12_takeOut_20 : decode cX12_takeOut 20 = .ok (.invokevirtual 66, 3) := by decide +kernel
theorem dX12_takeOut_23 : decode cX12_takeOut 23 = .ok (.ireturn, 1) := by decide +kernel
theorem dX12_carry_0 : decode cX12_carry 0 = .ok (.aload_n 0, 1) := by decide +kernel
theorem dX12_carry_1 : decode cX12_carry 1 = .ok (.getfield 22, 3) := by decide +kernel
theorem dX12_carry_4 : decode cX12_carry 4 = .ok (.aload_n 0, 1) := by decide +kernel
theorem dX12_carry_5 : decode cX12_carry 5 = .ok (.getfield 10, 3) := by decide +kernel
theorem dX12_carry_8 : decode cX12_carry 8 = .ok (.invokevirtual 58, 3) := by decide +kernel
theorem dX12_carry_11 : decode cX12_carry 11 = .ok (.aload_n 0, 1) := by decide +kernel
theorem dX12_carry_12 : decode cX12_carry 12 = .ok (.aload_n 0, 1) := by decide +kernel
theorem dX12_carry_13 : decode cX12_carry 13 = .ok (.getfield 10, 3) := by decide +kernel
theorem dX12_carry_16 : decode cX12_carry 16 = .ok (.iload_n 1, 1) := by decide +kernel
theorem dX12_carry_17 : decode cX12_carry 17 = .ok (.iload_n 2, 1) := by decide +kernel
theorem dX12_carry_18 : decode cX12_carry 18 = .ok (.invokevirtual 86, 3) := by decide +kernel
theorem dX12_carry_21 : decode cX12_carry 21 = .ok (.invokevirtual 66, 3) := by decide +kernel
theorem dX12_carry_24 : decode cX12_carry 24 = .ok (.ireturn, 1) := by decide +kernel
theorem dX12_comeBack_0 : decode cX12_comeBack 0 = .ok (.aload_n 0, 1) := by decide +kernel
theorem dX12_comeBack_1 : decode cX12_comeBack 1 = .ok (.getfield 22, 3) := by decide +kernel
theorem dX12_comeBack_4 : decode cX12_comeBack 4 = .ok (.aload_n 0, 1) := by decide +kernel
theorem dX12_comeBack_5 : decode cX12_comeBack 5 = .ok (.getfield 10, 3) := by decide +kernel
theorem dX12_comeBack_8 : decode cX12_comeBack 8 = .ok (.invokevirtual 58, 3) := by decide +kernel
theorem dX12_comeBack_11 : decode cX12_comeBack 11 = .ok (.aload_n 0, 1) := by decide +kernel
theorem dX12_comeBack_12 : decode cX12_comeBack 12 = .ok (.aload_n 0, 1) := by decide +kernel
theorem dX12_comeBack_13 : decode cX12_comeBack 13 = .ok (.getfield 10, 3) := by decide +kernel
theorem dX12_comeBack_16 : decode cX12_comeBack 16 = .ok (.iload_n 1, 1) := by decide +kernel
theorem dX12_comeBack_17 : decode cX12_comeBack 17 = .ok (.invokevirtual 89, 3) := by decide +kernel
theorem dX12_comeBack_20 : decode cX12_comeBack 20 = .ok (.invokevirtual 66, 3) := by decide +kernel
theorem dX12_comeBack_23 : decode cX12_comeBack 23 = .ok (.ireturn, 1) := by decide +kernel
theorem dX12_roadCount_0 : decode cX12_roadCount 0 = .ok (.aload_n 0, 1) := by decide +kernel
theorem dX12_roadCount_1 : decode cX12_roadCount 1 = .ok (.getfield 10, 3) := by decide +kernel
theorem dX12_roadCount_4 : decode cX12_roadCount 4 = .ok (.getfield 92, 3) := by decide +kernel
theorem dX12_roadCount_7 : decode cX12_roadCount 7 = .ok (.invokevirtual 96, 3) := by decide +kernel
theorem dX12_roadCount_10 : decode cX12_roadCount 10 = .ok (.ireturn, 1) := by decide +kernel
theorem dX12_roadLength_0 : decode cX12_roadLength 0 = .ok (.iload_n 1, 1) := by decide +kernel
theorem dX12_roadLength_1 : decode cX12_roadLength 1 = .ok (.iload_n 2, 1) := by decide +kernel
theorem dX12_roadLength_2 : decode cX12_roadLength 2 = .ok (.invokestatic 102, 3) := by decide +kernel
theorem dX12_roadLength_5 : decode cX12_roadLength 5 = .ok (.aload_n 0, 1) := by decide +kernel
theorem dX12_roadLength_6 : decode cX12_roadLength 6 = .ok (.getfield 10, 3) := by decide +kernel
theorem dX12_roadLength_9 : decode cX12_roadLength 9 = .ok (.getfield 92, 3) := by decide +kernel
theorem dX12_roadLength_12 : decode cX12_roadLength 12 = .ok (.iload_n 1, 1) := by decide +kernel
theorem dX12_roadLength_13 : decode cX12_roadLength 13 = .ok (.iload_n 2, 1) := by decide +kernel
theorem dX12_roadLength_14 : decode cX12_roadLength 14 = .ok (.invokevirtual 106, 3) := by decide +kernel
theorem dX12_roadLength_17 : decode cX12_roadLength 17 = .ok (.invokestatic 109, 3) := by decide +kernel
theorem dX12_roadLength_20 : decode cX12_roadLength 20 = .ok (.ireturn, 1) := by decide +kernel
theorem dX12_distance_0 : decode cX12_distance 0 = .ok (.iload_n 1, 1) := by decide +kernel
theorem dX12_distance_1 : decode cX12_distance 1 = .ok (.iload_n 2, 1) := by decide +kernel
theorem dX12_distance_2 : decode cX12_distance 2 = .ok (.invokestatic 102, 3) := by decide +kernel
theorem dX12_distance_5 : decode cX12_distance 5 = .ok (.aload_n 0, 1) := by decide +kernel
theorem dX12_distance_6 : decode cX12_distance 6 = .ok (.getfield 10, 3) := by decide +kernel
theorem dX12_distance_9 : decode cX12_distance 9 = .ok (.getfield 92, 3) := by decide +kernel
theorem dX12_distance_12 : decode cX12_distance 12 = .ok (.iload_n 1, 1) := by decide +kernel
theorem dX12_distance_13 : decode cX12_distance 13 = .ok (.iload_n 2, 1) := by decide +kernel
theorem dX12_distance_14 : decode cX12_distance 14 = .ok (.invokevirtual 112, 3) := by decide +kernel
theorem dX12_distance_17 : decode cX12_distance 17 = .ok (.invokestatic 109, 3) := by decide +kernel
theorem dX12_distance_20 : decode cX12_distance 20 = .ok (.ireturn, 1) := by decide +kernel
theorem dX12_distanceByRounds_0 : decode cX12_distanceByRounds 0 = .ok (.iload_n 1, 1) := by decide +kernel
theorem dX12_distanceByRounds_1 : decode cX12_distanceByRounds 1 = .ok (.iload_n 2, 1) := by decide +kernel
theorem dX12_distanceByRounds_2 : decode cX12_distanceByRounds 2 = .ok (.invokestatic 102, 3) := by decide +kernel
theorem dX12_distanceByRounds_5 : decode cX12_distanceByRounds 5 = .ok (.aload_n 0, 1) := by decide +kernel
theorem dX12_distanceByRounds_6 : decode cX12_distanceByRounds 6 = .ok (.getfield 10, 3) := by decide +kernel
theorem dX12_distanceByRounds_9 : decode cX12_distanceByRounds 9 = .ok (.getfield 92, 3) := by decide +kernel
theorem dX12_distanceByRounds_12 : decode cX12_distanceByRounds 12 = .ok (.invokevirtual 115, 3) := by decide +kernel
theorem dX12_distanceByRounds_15 : decode cX12_distanceByRounds 15 = .ok (.aload_n 0, 1) := by decide +kernel
theorem dX12_distanceByRounds_16 : decode cX12_distanceByRounds 16 = .ok (.getfield 10, 3) := by decide +kernel
theorem dX12_distanceByRounds_19 : decode cX12_distanceByRounds 19 = .ok (.getfield 92, 3) := by decide +kernel
theorem dX12_distanceByRounds_22 : decode cX12_distanceByRounds 22 = .ok (.iload_n 1, 1) := by decide +kernel
theorem dX12_distanceByRounds_23 : decode cX12_distanceByRounds 23 = .ok (.iload_n 2, 1) := by decide +kernel
theorem dX12_distanceByRounds_24 : decode cX12_distanceByRounds 24 = .ok (.invokevirtual 118, 3) := by decide +kernel
theorem dX12_distanceByRounds_27 : decode cX12_distanceByRounds 27 = .ok (.invokestatic 109, 3) := by decide +kernel
theorem dX12_distanceByRounds_30 : decode cX12_distanceByRounds 30 = .ok (.ireturn, 1) := by decide +kernel
theorem dX12_farthestPlace_0 : decode cX12_farthestPlace 0 = .ok (.iload_n 1, 1) := by decide +kernel
theorem dX12_farthestPlace_1 : decode cX12_farthestPlace 1 = .ok (.bipush 6, 2) := by decide +kernel
theorem dX12_farthestPlace_3 : decode cX12_farthestPlace 3 = .ok (.invokestatic 121, 3) := by decide +kernel
theorem dX12_farthestPlace_6 : decode cX12_farthestPlace 6 = .ok (.aload_n 0, 1) := by decide +kernel
theorem dX12_farthestPlace_7 : decode cX12_farthestPlace 7 = .ok (.getfield 10, 3) := by decide +kernel
theorem dX12_farthestPlace_10 : decode cX12_farthestPlace 10 = .ok (.getfield 92, 3) := by decide +kernel
theorem dX12_farthestPlace_13 : decode cX12_farthestPlace 13 = .ok (.iload_n 1, 1) := by decide +kernel
theorem dX12_farthestPlace_14 : decode cX12_farthestPlace 14 = .ok (.invokevirtual 124, 3) := by decide +kernel
theorem dX12_farthestPlace_17 : decode cX12_farthestPlace 17 = .ok (.ireturn, 1) := by decide +kernel
theorem dX12_parcelCount_0 : decode cX12_parcelCount 0 = .ok (.aload_n 0, 1) := by decide +kernel
theorem dX12_parcelCount_1 : decode cX12_parcelCount 1 = .ok (.getfield 10, 3) := by decide +kernel
theorem dX12_parcelCount_4 : decode cX12_parcelCount 4 = .ok (.getfield 127, 3) := by decide +kernel
theorem dX12_parcelCount_7 : decode cX12_parcelCount 7 = .ok (.invokevirtual 131, 3) := by decide +kernel
theorem dX12_parcelCount_10 : decode cX12_parcelCount 10 = .ok (.ireturn, 1) := by decide +kernel
theorem dX12_weight_0 : decode cX12_weight 0 = .ok (.aload_n 0, 1) := by decide +kernel
theorem dX12_weight_1 : decode cX12_weight 1 = .ok (.iload_n 1, 1) := by decide +kernel
theorem dX12_weight_2 : decode cX12_weight 2 = .ok (.invokevirtual 134, 3) := by decide +kernel
theorem dX12_weight_5 : decode cX12_weight 5 = .ok (.aload_n 0, 1) := by decide +kernel
theorem dX12_weight_6 : decode cX12_weight 6 = .ok (.getfield 10, 3) := by decide +kernel
theorem dX12_weight_9 : decode cX12_weight 9 = .ok (.getfield 127, 3) := by decide +kernel
theorem dX12_weight_12 : decode cX12_weight 12 = .ok (.iload_n 1, 1) := by decide +kernel
theorem dX12_weight_13 : decode cX12_weight 13 = .ok (.invokevirtual 138, 3) := by decide +kernel
theorem dX12_weight_16 : decode cX12_weight 16 = .ok (.ireturn, 1) := by decide +kernel
theorem dX12_hazard_0 : decode cX12_hazard 0 = .ok (.aload_n 0, 1) := by decide +kernel
theorem dX12_hazard_1 : decode cX12_hazard 1 = .ok (.iload_n 1, 1) := by decide +kernel
theorem dX12_hazard_2 : decode cX12_hazard 2 = .ok (.invokevirtual 134, 3) := by decide +kernel
theorem dX12_hazard_5 : decode cX12_hazard 5 = .ok (.aload_n 0, 1) := by decide +kernel
theorem dX12_hazard_6 : decode cX12_hazard 6 = .ok (.getfield 10, 3) := by decide +kernel
theorem dX12_hazard_9 : decode cX12_hazard 9 = .ok (.getfield 127, 3) := by decide +kernel
theorem dX12_hazard_12 : decode cX12_hazard 12 = .ok (.iload_n 1, 1) := by decide +kernel
theorem dX12_hazard_13 : decode cX12_hazard 13 = .ok (.invokevirtual 141, 3) := by decide +kernel
theorem dX12_hazard_16 : decode cX12_hazard 16 = .ok (.ireturn, 1) := by decide +kernel
theorem dX12_destination_0 : decode cX12_destination 0 = .ok (.aload_n 0, 1) := by decide +kernel
theorem dX12_destination_1 : decode cX12_destination 1 = .ok (.iload_n 1, 1) := by decide +kernel
theorem dX12_destination_2 : decode cX12_destination 2 = .ok (.invokevirtual 134, 3) := by decide +kernel
theorem dX12_destination_5 : decode cX12_destination 5 = .ok (.aload_n 0, 1) := by decide +kernel
theorem dX12_destination_6 : decode cX12_destination 6 = .ok (.getfield 10, 3) := by decide +kernel
theorem dX12_destination_9 : decode cX12_destination 9 = .ok (.getfield 127, 3) := by decide +kernel
theorem dX12_destination_12 : decode cX12_destination 12 = .ok (.iload_n 1, 1) := by decide +kernel
theorem dX12_destination_13 : decode cX12_destination 13 = .ok (.invokevirtual 144, 3) := by decide +kernel
theorem dX12_destination_16 : decode cX12_destination 16 = .ok (.ireturn, 1) := by decide +kernel
theorem dX12_state_0 : decode cX12_state 0 = .ok (.aload_n 0, 1) := by decide +kernel
theorem dX12_state_1 : decode cX12_state 1 = .ok (.iload_n 1, 1) := by decide +kernel
theorem dX12_state_2 : decode cX12_state 2 = .ok (.invokevirtual 134, 3) := by decide +kernel
theorem dX12_state_5 : decode cX12_state 5 = .ok (.aload_n 0, 1) := by decide +kernel
theorem dX12_state_6 : decode cX12_state 6 = .ok (.getfield 10, 3) := by decide +kernel
theorem dX12_state_9 : decode cX12_state 9 = .ok (.getfield 127, 3) := by decide +kernel
theorem dX12_state_12 : decode cX12_state 12 = .ok (.iload_n 1, 1) := by decide +kernel
theorem dX12_state_13 : decode cX12_state 13 = .ok (.invokevirtual 147, 3) := by decide +kernel
theorem dX12_state_16 : decode cX12_state 16 = .ok (.ireturn, 1) := by decide +kernel
theorem dX12_sackOf_0 : decode cX12_sackOf 0 = .ok (.aload_n 0, 1) := by decide +kernel
theorem dX12_sackOf_1 : decode cX12_sackOf 1 = .ok (.iload_n 1, 1) := by decide +kernel
theorem dX12_sackOf_2 : decode cX12_sackOf 2 = .ok (.invokevirtual 134, 3) := by decide +kernel
theorem dX12_sackOf_5 : decode cX12_sackOf 5 = .ok (.aload_n 0, 1) := by decide +kernel
theorem dX12_sackOf_6 : decode cX12_sackOf 6 = .ok (.getfield 10, 3) := by decide +kernel
theorem dX12_sackOf_9 : decode cX12_sackOf 9 = .ok (.getfield 127, 3) := by decide +kernel
theorem dX12_sackOf_12 : decode cX12_sackOf 12 = .ok (.iload_n 1, 1) := by decide +kernel
theorem dX12_sackOf_13 : decode cX12_sackOf 13 = .ok (.invokevirtual 151, 3) := by decide +kernel
theorem dX12_sackOf_16 : decode cX12_sackOf 16 = .ok (.istore_n 2, 1) := by decide +kernel
theorem dX12_sackOf_17 : decode cX12_sackOf 17 = .ok (.iload_n 2, 1) := by decide +kernel
theorem dX12_sackOf_18 : decode cX12_sackOf 18 = .ok (.iconst 3, 1) := by decide +kernel
theorem dX12_sackOf_19 : decode cX12_sackOf 19 = .ok (.invokestatic 154, 3) := by decide +kernel
theorem dX12_sackOf_22 : decode cX12_sackOf 22 = .ok (.ifCond .eq 7, 3) := by decide +kernel
theorem dX12_sackOf_25 : decode cX12_sackOf 25 = .ok (.iload_n 2, 1) := by decide +kernel
theorem dX12_sackOf_26 : decode cX12_sackOf 26 = .ok (.goto 4, 3) := by decide +kernel
theorem dX12_sackOf_29 : decode cX12_sackOf 29 = .ok (.iconst (-1), 1) := by decide +kernel
theorem dX12_sackOf_30 : decode cX12_sackOf 30 = .ok (.invokestatic 109, 3) := by decide +kernel
theorem dX12_sackOf_33 : decode cX12_sackOf 33 = .ok (.ireturn, 1) := by decide +kernel
theorem dX12_returns_0 : decode cX12_returns 0 = .ok (.aload_n 0, 1) := by decide +kernel
theorem dX12_returns_1 : decode cX12_returns 1 = .ok (.iload_n 1, 1) := by decide +kernel
theorem dX12_returns_2 : decode cX12_returns 2 = .ok (.invokevirtual 134, 3) := by decide +kernel
theorem dX12_returns_5 : decode cX12_returns 5 = .ok (.aload_n 0, 1) := by decide +kernel
theorem dX12_returns_6 : decode cX12_returns 6 = .ok (.getfield 10, 3) := by decide +kernel
theorem dX12_returns_9 : decode cX12_returns 9 = .ok (.getfield 127, 3) := by decide +kernel
theorem dX12_returns_12 : decode cX12_returns 12 = .ok (.iload_n 1, 1) := by decide +kernel
theorem dX12_returns_13 : decode cX12_returns 13 = .ok (.invokevirtual 158, 3) := by decide +kernel
theorem dX12_returns_16 : decode cX12_returns 16 = .ok (.ireturn, 1) := by decide +kernel
theorem dX12_waitingCount_0 : decode cX12_waitingCount 0 = .ok (.aload_n 0, 1) := by decide +kernel
theorem dX12_waitingCount_1 : decode cX12_waitingCount 1 = .ok (.getfield 10, 3) := by decide +kernel
theorem dX12_waitingCount_4 : decode cX12_waitingCount 4 = .ok (.getfield 127, 3) := by decide +kernel
theorem dX12_waitingCount_7 : decode cX12_waitingCount 7 = .ok (.iconst (-1), 1) := by decide +kernel
theorem dX12_waitingCount_8 : decode cX12_waitingCount 8 = .ok (.invokevirtual 161, 3) := by decide +kernel
theorem dX12_waitingCount_11 : decode cX12_waitingCount 11 = .ok (.ireturn, 1) := by decide +kernel
theorem dX12_deliveredCount_0 : decode cX12_deliveredCount 0 = .ok (.aload_n 0, 1) := by decide +kernel
theorem dX12_deliveredCount_1 : decode cX12_deliveredCount 1 = .ok (.getfield 10, 3) := by decide +kernel
theorem dX12_deliveredCount_4 : decode cX12_deliveredCount 4 = .ok (.getfield 127, 3) := by decide +kernel
theorem dX12_deliveredCount_7 : decode cX12_deliveredCount 7 = .ok (.bipush (-2), 2) := by decide +kernel
theorem dX12_deliveredCount_9 : decode cX12_deliveredCount 9 = .ok (.invokevirtual 161, 3) := by decide +kernel
theorem dX12_deliveredCount_12 : decode cX12_deliveredCount 12 = .ok (.ireturn, 1) := by decide +kernel
theorem dX12_gloveCount_0 : decode cX12_gloveCount 0 = .ok (.aload_n 0, 1) := by decide +kernel
theorem dX12_gloveCount_1 : decode cX12_gloveCount 1 = .ok (.getfield 10, 3) := by decide +kernel
theorem dX12_gloveCount_4 : decode cX12_gloveCount 4 = .ok (.getfield 164, 3) := by decide +kernel
theorem dX12_gloveCount_7 : decode cX12_gloveCount 7 = .ok (.invokevirtual 168, 3) := by decide +kernel
theorem dX12_gloveCount_10 : decode cX12_gloveCount 10 = .ok (.ireturn, 1) := by decide +kernel
theorem dX12_grade_0 : decode cX12_grade 0 = .ok (.iload_n 1, 1) := by decide +kernel
theorem dX12_grade_1 : decode cX12_grade 1 = .ok (.aload_n 0, 1) := by decide +kernel
theorem dX12_grade_2 : decode cX12_grade 2 = .ok (.getfield 10, 3) := by decide +kernel
theorem dX12_grade_5 : decode cX12_grade 5 = .ok (.getfield 164, 3) := by decide +kernel
theorem dX12_grade_8 : decode cX12_grade 8 = .ok (.invokevirtual 168, 3) := by decide +kernel
theorem dX12_grade_11 : decode cX12_grade 11 = .ok (.invokestatic 121, 3) := by decide +kernel
theorem dX12_grade_14 : decode cX12_grade 14 = .ok (.aload_n 0, 1) := by decide +kernel
theorem dX12_grade_15 : decode cX12_grade 15 = .ok (.getfield 10, 3) := by decide +kernel
theorem dX12_grade_18 : decode cX12_grade 18 = .ok (.getfield 164, 3) := by decide +kernel
theorem dX12_grade_21 : decode cX12_grade 21 = .ok (.iload_n 1, 1) := by decide +kernel
theorem dX12_grade_22 : decode cX12_grade 22 = .ok (.invokevirtual 171, 3) := by decide +kernel
theorem dX12_grade_25 : decode cX12_grade 25 = .ok (.ireturn, 1) := by decide +kernel
theorem dX12_usesLeft_0 : decode cX12_usesLeft 0 = .ok (.iload_n 1, 1) := by decide +kernel
theorem dX12_usesLeft_1 : decode cX12_usesLeft 1 = .ok (.aload_n 0, 1) := by decide +kernel
theorem dX12_usesLeft_2 : decode cX12_usesLeft 2 = .ok (.getfield 10, 3) := by decide +kernel
theorem dX12_usesLeft_5 : decode cX12_usesLeft 5 = .ok (.getfield 164, 3) := by decide +kernel
theorem dX12_usesLeft_8 : decode cX12_usesLeft 8 = .ok (.invokevirtual 168, 3) := by decide +kernel
theorem dX12_usesLeft_11 : decode cX12_usesLeft 11 = .ok (.invokestatic 121, 3) := by decide +kernel
theorem dX12_usesLeft_14 : decode cX12_usesLeft 14 = .ok (.aload_n 0, 1) := by decide +kernel
theorem dX12_usesLeft_15 : decode cX12_usesLeft 15 = .ok (.getfield 10, 3) := by decide +kernel
theorem dX12_usesLeft_18 : decode cX12_usesLeft 18 = .ok (.getfield 164, 3) := by decide +kernel
theorem dX12_usesLeft_21 : decode cX12_usesLeft 21 = .ok (.iload_n 1, 1) := by decide +kernel
theorem dX12_usesLeft_22 : decode cX12_usesLeft 22 = .ok (.invokevirtual 174, 3) := by decide +kernel
theorem dX12_usesLeft_25 : decode cX12_usesLeft 25 = .ok (.ireturn, 1) := by decide +kernel
theorem dX12_gloveFor_0 : decode cX12_gloveFor 0 = .ok (.aload_n 0, 1) := by decide +kernel
theorem dX12_gloveFor_1 : decode cX12_gloveFor 1 = .ok (.iload_n 1, 1) := by decide +kernel
theorem dX12_gloveFor_2 : decode cX12_gloveFor 2 = .ok (.invokevirtual 134, 3) := by decide +kernel
theorem dX12_gloveFor_5 : decode cX12_gloveFor 5 = .ok (.aload_n 0, 1) := by decide +kernel
theorem dX12_gloveFor_6 : decode cX12_gloveFor 6 = .ok (.getfield 10, 3) := by decide +kernel
theorem dX12_gloveFor_9 : decode cX12_gloveFor 9 = .ok (.getfield 127, 3) := by decide +kernel
theorem dX12_gloveFor_12 : decode cX12_gloveFor 12 = .ok (.iload_n 1, 1) := by decide +kernel
theorem dX12_gloveFor_13 : decode cX12_gloveFor 13 = .ok (.invokevirtual 141, 3) := by decide +kernel
theorem dX12_gloveFor_16 : decode cX12_gloveFor 16 = .ok (.istore_n 2, 1) := by decide +kernel
theorem dX12_gloveFor_17 : decode cX12_gloveFor 17 = .ok (.iload_n 2, 1) := by decide +kernel
theorem dX12_gloveFor_18 : decode cX12_gloveFor 18 = .ok (.ifCond .ne 11, 3) := by decide +kernel
theorem dX12_gloveFor_21 : decode cX12_gloveFor 21 = .ok (.bipush (-5), 2) := by decide +kernel
theorem dX12_gloveFor_23 : decode cX12_gloveFor 23 = .ok (.invokestatic 177, 3) := by decide +kernel
theorem dX12_gloveFor_26 : decode cX12_gloveFor 26 = .ok (.goto 17, 3) := by decide +kernel
theorem dX12_gloveFor_29 : decode cX12_gloveFor 29 = .ok (.aload_n 0, 1) := by decide +kernel
theorem dX12_gloveFor_30 : decode cX12_gloveFor 30 = .ok (.getfield 10, 3) := by decide +kernel
theorem dX12_gloveFor_33 : decode cX12_gloveFor 33 = .ok (.getfield 164, 3) := by decide +kernel
theorem dX12_gloveFor_36 : decode cX12_gloveFor 36 = .ok (.iload_n 2, 1) := by decide +kernel
theorem dX12_gloveFor_37 : decode cX12_gloveFor 37 = .ok (.invokevirtual 180, 3) := by decide +kernel
theorem dX12_gloveFor_40 : decode cX12_gloveFor 40 = .ok (.invokestatic 109, 3) := by decide +kernel
theorem dX12_gloveFor_43 : decode cX12_gloveFor 43 = .ok (.ireturn, 1) := by decide +kernel
theorem dX12_canHandle_0 : decode cX12_canHandle 0 = .ok (.aload_n 0, 1) := by decide +kernel
theorem dX12_canHandle_1 : decode cX12_canHandle 1 = .ok (.iload_n 1, 1) := by decide +kernel
theorem dX12_canHandle_2 : decode cX12_canHandle 2 = .ok (.invokevirtual 134, 3) := by decide +kernel
theorem dX12_canHandle_5 : decode cX12_canHandle 5 = .ok (.aload_n 0, 1) := by decide +kernel
theorem dX12_canHandle_6 : decode cX12_canHandle 6 = .ok (.getfield 10, 3) := by decide +kernel
theorem dX12_canHandle_9 : decode cX12_canHandle 9 = .ok (.iload_n 1, 1) := by decide +kernel
theorem dX12_canHandle_10 : decode cX12_canHandle 10 = .ok (.invokevirtual 183, 3) := by decide +kernel
theorem dX12_canHandle_13 : decode cX12_canHandle 13 = .ok (.ireturn, 1) := by decide +kernel
theorem dX12_handleable_0 : decode cX12_handleable 0 = .ok (.aload_n 0, 1) := by decide +kernel
theorem dX12_handleable_1 : decode cX12_handleable 1 = .ok (.getfield 29, 3) := by decide +kernel
theorem dX12_handleable_4 : decode cX12_handleable 4 = .ok (.aload_n 0, 1) := by decide +kernel
theorem dX12_handleable_5 : decode cX12_handleable 5 = .ok (.getfield 10, 3) := by decide +kernel
theorem dX12_handleable_8 : decode cX12_handleable 8 = .ok (.invokevirtual 187, 3) := by decide +kernel
theorem dX12_handleable_11 : decode cX12_handleable 11 = .ok (.ireturn, 1) := by decide +kernel
theorem dX12_handleableByShortage_0 : decode cX12_handleableByShortage 0 = .ok (.aload_n 0, 1) := by decide +kernel
theorem dX12_handleableByShortage_1 : decode cX12_handleableByShortage 1 = .ok (.getfield 29, 3) := by decide +kernel
theorem dX12_handleableByShortage_4 : decode cX12_handleableByShortage 4 = .ok (.aload_n 0, 1) := by decide +kernel
theorem dX12_handleableByShortage_5 : decode cX12_handleableByShortage 5 = .ok (.getfield 10, 3) := by decide +kernel
theorem dX12_handleableByShortage_8 : decode cX12_handleableByShortage 8 = .ok (.invokevirtual 191, 3) := by decide +kernel
theorem dX12_handleableByShortage_11 : decode cX12_handleableByShortage 11 = .ok (.ireturn, 1) := by decide +kernel
theorem dX12_place_0 : decode cX12_place 0 = .ok (.iload_n 1, 1) := by decide +kernel
theorem dX12_place_1 : decode cX12_place 1 = .ok (.iconst 3, 1) := by decide +kernel
theorem dX12_place_2 : decode cX12_place 2 = .ok (.invokestatic 121, 3) := by decide +kernel
theorem dX12_place_5 : decode cX12_place 5 = .ok (.aload_n 0, 1) := by decide +kernel
theorem dX12_place_6 : decode cX12_place 6 = .ok (.getfield 10, 3) := by decide +kernel
theorem dX12_place_9 : decode cX12_place 9 = .ok (.getfield 194, 3) := by decide +kernel
theorem dX12_place_12 : decode cX12_place 12 = .ok (.iload_n 1, 1) := by decide +kernel
theorem dX12_place_13 : decode cX12_place 13 = .ok (.invokevirtual 198, 3) := by decide +kernel
theorem dX12_place_16 : decode cX12_place 16 = .ok (.ireturn, 1) := by decide +kernel
theorem dX12_capacity_0 : decode cX12_capacity 0 = .ok (.iload_n 1, 1) := by decide +kernel
theorem dX12_capacity_1 : decode cX12_capacity 1 = .ok (.iconst 3, 1) := by decide +kernel
theorem dX12_capacity_2 : decode cX12_capacity 2 = .ok (.invokestatic 121, 3) := by decide +kernel
theorem dX12_capacity_5 : decode cX12_capacity 5 = .ok (.aload_n 0, 1) := by decide +kernel
theorem dX12_capacity_6 : decode cX12_capacity 6 = .ok (.getfield 10, 3) := by decide +kernel
theorem dX12_capacity_9 : decode cX12_capacity 9 = .ok (.getfield 194, 3) := by decide +kernel
theorem dX12_capacity_12 : decode cX12_capacity 12 = .ok (.iload_n 1, 1) := by decide +kernel
theorem dX12_capacity_13 : decode cX12_capacity 13 = .ok (.invokevirtual 203, 3) := by decide +kernel
theorem dX12_capacity_16 : decode cX12_capacity 16 = .ok (.ireturn, 1) := by decide +kernel
theorem dX12_load_0 : decode cX12_load 0 = .ok (.iload_n 1, 1) := by decide +kernel
theorem dX12_load_1 : decode cX12_load 1 = .ok (.iconst 3, 1) := by decide +kernel
theorem dX12_load_2 : decode cX12_load 2 = .ok (.invokestatic 121, 3) := by decide +kernel
theorem dX12_load_5 : decode cX12_load 5 = .ok (.aload_n 0, 1) := by decide +kernel
theorem dX12_load_6 : decode cX12_load 6 = .ok (.getfield 10, 3) := by decide +kernel
theorem dX12_load_9 : decode cX12_load 9 = .ok (.getfield 127, 3) := by decide +kernel
theorem dX12_load_12 : decode cX12_load 12 = .ok (.iload_n 1, 1) := by decide +kernel
theorem dX12_load_13 : decode cX12_load 13 = .ok (.invokevirtual 206, 3) := by decide +kernel
theorem dX12_load_16 : decode cX12_load 16 = .ok (.ireturn, 1) := by decide +kernel
theorem dX12_mostFitting_0 : decode cX12_mostFitting 0 = .ok (.iload_n 1, 1) := by decide +kernel
theorem dX12_mostFitting_1 : decode cX12_mostFitting 1 = .ok (.iconst 3, 1) := by decide +kernel
theorem dX12_mostFitting_2 : decode cX12_mostFitting 2 = .ok (.invokestatic 121, 3) := by decide +kernel
theorem dX12_mostFitting_5 : decode cX12_mostFitting 5 = .ok (.aload_n 0, 1) := by decide +kernel
theorem dX12_mostFitting_6 : decode cX12_mostFitting 6 = .ok (.getfield 29, 3) := by decide +kernel
theorem dX12_mostFitting_9 : decode cX12_mostFitting 9 = .ok (.aload_n 0, 1) := by decide +kernel
theorem dX12_mostFitting_10 : decode cX12_mostFitting 10 = .ok (.getfield 10, 3) := by decide +kernel
theorem dX12_mostFitting_13 : decode cX12_mostFitting 13 = .ok (.iload_n 1, 1) := by decide +kernel
theorem dX12_mostFitting_14 : decode cX12_mostFitting 14 = .ok (.invokevirtual 209, 3) := by decide +kernel
theorem dX12_mostFitting_17 : decode cX12_mostFitting 17 = .ok (.ireturn, 1) := by decide +kernel
theorem dX12_mostFittingByTable_0 : decode cX12_mostFittingByTable 0 = .ok (.iload_n 1, 1) := by decide +kernel
theorem dX12_mostFittingByTable_1 : decode cX12_mostFittingByTable 1 = .ok (.iconst 3, 1) := by decide +kernel
theorem dX12_mostFittingByTable_2 : decode cX12_mostFittingByTable 2 = .ok (.invokestatic 121, 3) := by decide +kernel
theorem dX12_mostFittingByTable_5 : decode cX12_mostFittingByTable 5 = .ok (.aload_n 0, 1) := by decide +kernel
theorem dX12_mostFittingByTable_6 : decode cX12_mostFittingByTable 6 = .ok (.getfield 29, 3) := by decide +kernel
theorem dX12_mostFittingByTable_9 : decode cX12_mostFittingByTable 9 = .ok (.aload_n 0, 1) := by decide +kernel
theorem dX12_mostFittingByTable_10 : decode cX12_mostFittingByTable 10 = .ok (.getfield 10, 3) := by decide +kernel
theorem dX12_mostFittingByTable_13 : decode cX12_mostFittingByTable 13 = .ok (.iload_n 1, 1) := by decide +kernel
theorem dX12_mostFittingByTable_14 : decode cX12_mostFittingByTable 14 = .ok (.invokevirtual 213, 3) := by decide +kernel
theorem dX12_mostFittingByTable_17 : decode cX12_mostFittingByTable 17 = .ok (.ireturn, 1) := by decide +kernel
theorem dX12_effortTo_0 : decode cX12_effortTo 0 = .ok (.iload_n 1, 1) := by decide +kernel
theorem dX12_effortTo_1 : decode cX12_effortTo 1 = .ok (.iconst 3, 1) := by decide +kernel
theorem dX12_effortTo_2 : decode cX12_effortTo 2 = .ok (.invokestatic 121, 3) := by decide +kernel
theorem dX12_effortTo_5 : decode cX12_effortTo 5 = .ok (.iload_n 2, 1) := by decide +kernel
theorem dX12_effortTo_6 : decode cX12_effortTo 6 = .ok (.bipush 6, 2) := by decide +kernel
theorem dX12_effortTo_8 : decode cX12_effortTo 8 = .ok (.invokestatic 121, 3) := by decide +kernel
theorem dX12_effortTo_11 : decode cX12_effortTo 11 = .ok (.aload_n 0, 1) := by decide +kernel
theorem dX12_effortTo_12 : decode cX12_effortTo 12 = .ok (.getfield 10, 3) := by decide +kernel
theorem dX12_effortTo_15 : decode cX12_effortTo 15 = .ok (.iload_n 1, 1) := by decide +kernel
theorem dX12_effortTo_16 : decode cX12_effortTo 16 = .ok (.iload_n 2, 1) := by decide +kernel
theorem dX12_effortTo_17 : decode cX12_effortTo 17 = .ok (.invokevirtual 216, 3) := by decide +kernel
theorem dX12_effortTo_20 : decode cX12_effortTo 20 = .ok (.invokestatic 109, 3) := by decide +kernel
theorem dX12_effortTo_23 : decode cX12_effortTo 23 = .ok (.ireturn, 1) := by decide +kernel
theorem dX12_effortSoFar_0 : decode cX12_effortSoFar 0 = .ok (.aload_n 0, 1) := by decide +kernel
theorem dX12_effortSoFar_1 : decode cX12_effortSoFar 1 = .ok (.getfield 10, 3) := by decide +kernel
theorem dX12_effortSoFar_4 : decode cX12_effortSoFar 4 = .ok (.getfield 194, 3) := by decide +kernel
theorem dX12_effortSoFar_7 : decode cX12_effortSoFar 7 = .ok (.invokevirtual 219, 3) := by decide +kernel
theorem dX12_effortSoFar_10 : decode cX12_effortSoFar 10 = .ok (.ireturn, 1) := by decide +kernel
theorem dX12_glovesUsedUp_0 : decode cX12_glovesUsedUp 0 = .ok (.aload_n 0, 1) := by decide +kernel
theorem dX12_glovesUsedUp_1 : decode cX12_glovesUsedUp 1 = .ok (.getfield 10, 3) := by decide +kernel
theorem dX12_glovesUsedUp_4 : decode cX12_glovesUsedUp 4 = .ok (.getfield 164, 3) := by decide +kernel
theorem dX12_glovesUsedUp_7 : decode cX12_glovesUsedUp 7 = .ok (.invokevirtual 222, 3) := by decide +kernel
theorem dX12_glovesUsedUp_10 : decode cX12_glovesUsedUp 10 = .ok (.ireturn, 1) := by decide +kernel
theorem dX12_heaviest_0 : decode cX12_heaviest 0 = .ok (.aload_n 0, 1) := by decide +kernel
theorem dX12_heaviest_1 : decode cX12_heaviest 1 = .ok (.getfield 10, 3) := by decide +kernel
theorem dX12_heaviest_4 : decode cX12_heaviest 4 = .ok (.getfield 127, 3) := by decide +kernel
theorem dX12_heaviest_7 : decode cX12_heaviest 7 = .ok (.iload_n 1, 1) := by decide +kernel
theorem dX12_heaviest_8 : decode cX12_heaviest 8 = .ok (.invokevirtual 225, 3) := by decide +kernel
theorem dX12_heaviest_11 : decode cX12_heaviest 11 = .ok (.invokestatic 109, 3) := by decide +kernel
theorem dX12_heaviest_14 : decode cX12_heaviest 14 = .ok (.ireturn, 1) := by decide +kernel
theorem dX12_meanHazard_0 : decode cX12_meanHazard 0 = .ok (.aload_n 0, 1) := by decide +kernel
theorem dX12_meanHazard_1 : decode cX12_meanHazard 1 = .ok (.getfield 10, 3) := by decide +kernel
theorem dX12_meanHazard_4 : decode cX12_meanHazard 4 = .ok (.getfield 127, 3) := by decide +kernel
theorem dX12_meanHazard_7 : decode cX12_meanHazard 7 = .ok (.invokevirtual 131, 3) := by decide +kernel
theorem dX12_meanHazard_10 : decode cX12_meanHazard 10 = .ok (.istore_n 1, 1) := by decide +kernel
