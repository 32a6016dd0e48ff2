theorem dX1_init_0 : decode cX1_init 0 = .ok (.aload_n 0, 1) := by decide +kernel
theorem dX1_init_1 : decode cX1_init 1 = .ok (.invokespecial 1, 3) := by decide +kernel
theorem dX1_init_4 : decode cX1_init 4 = .ok (.aload_n 0, 1) := by decide +kernel
theorem dX1_init_5 : decode cX1_init 5 = .ok (.aconst_null, 1) := by decide +kernel
theorem dX1_init_6 : decode cX1_init 6 = .ok (.putfield 7, 3) := by decide +kernel
theorem dX1_init_9 : decode cX1_init 9 = .ok (.aload_n 0, 1) := by decide +kernel
theorem dX1_init_10 : decode cX1_init 10 = .ok (.iconst 0, 1) := by decide +kernel
theorem dX1_init_11 : decode cX1_init 11 = .ok (.putfield 13, 3) := by decide +kernel
theorem dX1_init_14 : decode cX1_init 14 = .ok (.aload_n 0, 1) := by decide +kernel
theorem dX1_init_15 : decode cX1_init 15 = .ok (.iconst 0, 1) := by decide +kernel
theorem dX1_init_16 : decode cX1_init 16 = .ok (.putfield 17, 3) := by decide +kernel
theorem dX1_init_19 : decode cX1_init 19 = .ok (.aload_n 0, 1) := by decide +kernel
theorem dX1_init_20 : decode cX1_init 20 = .ok (.iconst 0, 1) := by decide +kernel
theorem dX1_init_21 : decode cX1_init 21 = .ok (.putfield 20, 3) := by decide +kernel
theorem dX1_init_24 : decode cX1_init 24 = .ok (.return_, 1) := by decide +kernel
theorem dX1_setNumber_0 : decode cX1_setNumber 0 = .ok (.iload_n 1, 1) := by decide +kernel
theorem dX1_setNumber_1 : decode cX1_setNumber 1 = .ok (.ifCond .ne 11, 3) := by decide +kernel
theorem dX1_setNumber_4 : decode cX1_setNumber 4 = .ok (.aload_n 0, 1) := by decide +kernel
theorem dX1_setNumber_5 : decode cX1_setNumber 5 = .ok (.iload_n 2, 1) := by decide +kernel
theorem dX1_setNumber_6 : decode cX1_setNumber 6 = .ok (.putfield 13, 3) := by decide +kernel
theorem dX1_setNumber_9 : decode cX1_setNumber 9 = .ok (.goto 21, 3) := by decide +kernel
theorem dX1_setNumber_12 : decode cX1_setNumber 12 = .ok (.iload_n 1, 1) := by decide +kernel
theorem dX1_setNumber_13 : decode cX1_setNumber 13 = .ok (.iconst 1, 1) := by decide +kernel
theorem dX1_setNumber_14 : decode cX1_setNumber 14 = .ok (.if_icmp .ne 11, 3) := by decide +kernel
theorem dX1_setNumber_17 : decode cX1_setNumber 17 = .ok (.aload_n 0, 1) := by decide +kernel
theorem dX1_setNumber_18 : decode cX1_setNumber 18 = .ok (.iload_n 2, 1) := by decide +kernel
theorem dX1_setNumber_19 : decode cX1_setNumber 19 = .ok (.putfield 17, 3) := by decide +kernel
theorem dX1_setNumber_22 : decode cX1_setNumber 22 = .ok (.goto 8, 3) := by decide +kernel
theorem dX1_setNumber_25 : decode cX1_setNumber 25 = .ok (.aload_n 0, 1) := by decide +kernel
theorem dX1_setNumber_26 : decode cX1_setNumber 26 = .ok (.iload_n 2, 1) := by decide +kernel
theorem dX1_setNumber_27 : decode cX1_setNumber 27 = .ok (.putfield 20, 3) := by decide +kernel
theorem dX1_setNumber_30 : decode cX1_setNumber 30 = .ok (.return_, 1) := by decide +kernel
theorem dX2_init_0 : decode cX2_init 0 = .ok (.aload_n 0, 1) := by decide +kernel
theorem dX2_init_1 : decode cX2_init 1 = .ok (.invokespecial 3, 3) := by decide +kernel
theorem dX2_init_4 : decode cX2_init 4 = .ok (.aload_n 0, 1) := by decide +kernel
theorem dX2_init_5 : decode cX2_init 5 = .ok (.bipush 60, 2) := by decide +kernel
theorem dX2_init_7 : decode cX2_init 7 = .ok (.newarray .char, 2) := by decide +kernel
theorem dX2_init_9 : decode cX2_init 9 = .ok (.putfield 9, 3) := by decide +kernel
theorem dX2_init_12 : decode cX2_init 12 = .ok (.aload_n 0, 1) := by decide +kernel
theorem dX2_init_13 : decode cX2_init 13 = .ok (.bipush 10, 2) := by decide +kernel
theorem dX2_init_15 : decode cX2_init 15 = .ok (.anewarray 15, 3) := by decide +kernel
theorem dX2_init_18 : decode cX2_init 18 = .ok (.putfield 17, 3) := by decide +kernel
theorem dX2_init_21 : decode cX2_init 21 = .ok (.aload_n 0, 1) := by decide +kernel
theorem dX2_init_22 : decode cX2_init 22 = .ok (.iconst 0, 1) := by decide +kernel
theorem dX2_init_23 : decode cX2_init 23 = .ok (.putfield 21, 3) := by decide +kernel
theorem dX2_init_26 : decode cX2_init 26 = .ok (.aload_n 0, 1) := by decide +kernel
theorem dX2_init_27 : decode cX2_init 27 = .ok (.iconst 0, 1) := by decide +kernel
theorem dX2_init_28 : decode cX2_init 28 = .ok (.putfield 25, 3) := by decide +kernel
theorem dX2_init_31 : decode cX2_init 31 = .ok (.aload_n 0, 1) := by decide +kernel
theorem dX2_init_32 : decode cX2_init 32 = .ok (.iconst 0, 1) := by decide +kernel
theorem dX2_init_33 : decode cX2_init 33 = .ok (.putfield 28, 3) := by decide +kernel
theorem dX2_init_36 : decode cX2_init 36 = .ok (.iconst 0, 1) := by decide +kernel
theorem dX2_init_37 : decode cX2_init 37 = .ok (.istore_n 1, 1) := by decide +kernel
theorem dX2_init_38 : decode cX2_init 38 = .ok (.iload_n 1, 1) := by decide +kernel
theorem dX2_init_39 : decode cX2_init 39 = .ok (.bipush 10, 2) := by decide +kernel
theorem dX2_init_41 : decode cX2_init 41 = .ok (.if_icmp .ge 22, 3) := by decide +kernel
theorem dX2_init_44 : decode cX2_init 44 = .ok (.aload_n 0, 1) := by decide +kernel
theorem dX2_init_45 : decode cX2_init 45 = .ok (.getfield 17, 3) := by decide +kernel
theorem dX2_init_48 : decode cX2_init 48 = .ok (.iload_n 1, 1) := by decide +kernel
theorem dX2_init_49 : decode cX2_init 49 = .ok (.new 15, 3) := by decide +kernel
theorem dX2_init_52 : decode cX2_init 52 = .ok (.dup, 1) := by decide +kernel
theorem dX2_init_53 : decode cX2_init 53 = .ok (.invokespecial 31, 3) := by decide +kernel
theorem dX2_init_56 : decode cX2_init 56 = .ok (.aastore, 1) := by decide +kernel
theorem dX2_init_57 : decode cX2_init 57 = .ok (.iinc 1 1, 3) := by decide +kernel
theorem dX2_init_60 : decode cX2_init 60 = .ok (.goto (-22), 3) := by decide +kernel
theorem dX2_init_63 : decode cX2_init 63 = .ok (.return_, 1) := by decide +kernel
theorem dX2_isFull_0 : decode cX2_isFull 0 = .ok (.aload_n 0, 1) := by decide +kernel
theorem dX2_isFull_1 : decode cX2_isFull 1 = .ok (.getfield 21, 3) := by decide +kernel
theorem dX2_isFull_4 : decode cX2_isFull 4 = .ok (.bipush 60, 2) := by decide +kernel
theorem dX2_isFull_6 : decode cX2_isFull 6 = .ok (.if_icmp .lt 7, 3) := by decide +kernel
theorem dX2_isFull_9 : decode cX2_isFull 9 = .ok (.iconst 1, 1) := by decide +kernel
theorem dX2_isFull_10 : decode cX2_isFull 10 = .ok (.goto 4, 3) := by decide +kernel
theorem dX2_isFull_13 : decode cX2_isFull 13 = .ok (.iconst 0, 1) := by decide +kernel
theorem dX2_isFull_14 : decode cX2_isFull 14 = .ok (.ireturn, 1) := by decide +kernel
theorem dX2_add_0 : decode cX2_add 0 = .ok (.aload_n 0, 1) := by decide +kernel
theorem dX2_add_1 : decode cX2_add 1 = .ok (.getfield 9, 3) := by decide +kernel
theorem dX2_add_4 : decode cX2_add 4 = .ok (.aload_n 0, 1) := by decide +kernel
theorem dX2_add_5 : decode cX2_add 5 = .ok (.getfield 21, 3) := by decide +kernel
theorem dX2_add_8 : decode cX2_add 8 = .ok (.iload_n 1, 1) := by decide +kernel
theorem dX2_add_9 : decode cX2_add 9 = .ok (.castore, 1) := by decide +kernel
theorem dX2_add_10 : decode cX2_add 10 = .ok (.aload_n 0, 1) := by decide +kernel
theorem dX2_add_11 : decode cX2_add 11 = .ok (.dup, 1) := by decide +kernel
theorem dX2_add_12 : decode cX2_add 12 = .ok (.getfield 21, 3) := by decide +kernel
theorem dX2_add_15 : decode cX2_add 15 = .ok (.iconst 1, 1) := by decide +kernel
theorem dX2_add_16 : decode cX2_add 16 = .ok (.iadd, 1) := by decide +kernel
theorem dX2_add_17 : decode cX2_add 17 = .ok (.putfield 21, 3) := by decide +kernel
theorem dX2_add_20 : decode cX2_add 20 = .ok (.aload_n 0, 1) := by decide +kernel
theorem dX2_add_21 : decode cX2_add 21 = .ok (.getfield 21, 3) := by decide +kernel
theorem dX2_add_24 : decode cX2_add 24 = .ok (.ireturn, 1) := by decide +kernel
theorem dX2_clear_0 : decode cX2_clear 0 = .ok (.aload_n 0, 1) := by decide +kernel
theorem dX2_clear_1 : decode cX2_clear 1 = .ok (.iconst 0, 1) := by decide +kernel
theorem dX2_clear_2 : decode cX2_clear 2 = .ok (.putfield 21, 3) := by decide +kernel
theorem dX2_clear_5 : decode cX2_clear 5 = .ok (.return_, 1) := by decide +kernel
theorem dX2_commandCount_0 : decode cX2_commandCount 0 = .ok (.aload_n 0, 1) := by decide +kernel
theorem dX2_commandCount_1 : decode cX2_commandCount 1 = .ok (.getfield 25, 3) := by decide +kernel
theorem dX2_commandCount_4 : decode cX2_commandCount 4 = .ok (.ireturn, 1) := by decide +kernel
theorem dX2_command_0 : decode cX2_command 0 = .ok (.iload_n 1, 1) := by decide +kernel
theorem dX2_command_1 : decode cX2_command 1 = .ok (.bipush 10, 2) := by decide +kernel
theorem dX2_command_3 : decode cX2_command 3 = .ok (.invokestatic 32, 3) := by decide +kernel
theorem dX2_command_6 : decode cX2_command 6 = .ok (.ifCond .eq 12, 3) := by decide +kernel
theorem dX2_command_9 : decode cX2_command 9 = .ok (.aload_n 0, 1) := by decide +kernel
theorem dX2_command_10 : decode cX2_command 10 = .ok (.getfield 17, 3) := by decide +kernel
theorem dX2_command_13 : decode cX2_command 13 = .ok (.iload_n 1, 1) := by decide +kernel
theorem dX2_command_14 : decode cX2_command 14 = .ok (.aaload, 1) := by decide +kernel
theorem dX2_command_15 : decode cX2_command 15 = .ok (.goto 4, 3) := by decide +kernel
theorem dX2_command_18 : decode cX2_command 18 = .ok (.aconst_null, 1) := by decide +kernel
theorem dX2_command_19 : decode cX2_command 19 = .ok (.areturn, 1) := by decide +kernel
theorem dX2_read_0 : decode cX2_read 0 = .ok (.aload_n 0, 1) := by decide +kernel
theorem dX2_read_1 : decode cX2_read 1 = .ok (.iconst 0, 1) := by decide +kernel
theorem dX2_read_2 : decode cX2_read 2 = .ok (.putfield 25, 3) := by decide +kernel
theorem dX2_read_5 : decode cX2_read 5 = .ok (.iconst 0, 1) := by decide +kernel
theorem dX2_read_6 : decode cX2_read 6 = .ok (.istore_n 1, 1) := by decide +kernel
theorem dX2_read_7 : decode cX2_read 7 = .ok (.iconst 0, 1) := by decide +kernel
theorem dX2_read_8 : decode cX2_read 8 = .ok (.istore_n 2, 1) := by decide +kernel
theorem dX2_read_9 : decode cX2_read 9 = .ok (.iload_n 2, 1) := by decide +kernel
theorem dX2_read_10 : decode cX2_read 10 = .ok (.bipush 10, 2) := by decide +kernel
theorem dX2_read_12 : decode cX2_read 12 = .ok (.if_icmp .ge 77, 3) := by decide +kernel
theorem dX2_read_15 : decode cX2_read 15 = .ok (.aload_n 0, 1) := by decide +kernel
theorem dX2_read_16 : decode cX2_read 16 = .ok (.aload_n 0, 1) := by decide +kernel
theorem dX2_read_17 : decode cX2_read 17 = .ok (.getfield 17, 3) := by decide +kernel
theorem dX2_read_20 : decode cX2_read 20 = .ok (.iload_n 2, 1) := by decide +kernel
theorem dX2_read_21 : decode cX2_read 21 = .ok (.aaload, 1) := by decide +kernel
theorem dX2_read_22 : decode cX2_read 22 = .ok (.iload_n 1, 1) := by decide +kernel
theorem dX2_read_23 : decode cX2_read 23 = .ok (.invokevirtual 36, 3) := by decide +kernel
theorem dX2_read_26 : decode cX2_read 26 = .ok (.ifCond .ne 8, 3) := by decide +kernel
theorem dX2_read_29 : decode cX2_read 29 = .ok (.aload_n 0, 1) := by decide +kernel
theorem dX2_read_30 : decode cX2_read 30 = .ok (.getfield 28, 3) := by decide +kernel
theorem dX2_read_33 : decode cX2_read 33 = .ok (.ireturn, 1) := by decide +kernel
theorem dX2_read_34 : decode cX2_read 34 = .ok (.aload_n 0, 1) := by decide +kernel
theorem dX2_read_35 : decode cX2_read 35 = .ok (.dup, 1) := by decide +kernel
theorem dX2_read_36 : decode cX2_read 36 = .ok (.getfield 25, 3) := by decide +kernel
theorem dX2_read_39 : decode cX2_read 39 = .ok (.iconst 1, 1) := by decide +kernel
theorem dX2_read_40 : decode cX2_read 40 = .ok (.iadd, 1) := by decide +kernel
theorem dX2_read_41 : decode cX2_read 41 = .ok (.putfield 25, 3) := by decide +kernel
theorem dX2_read_44 : decode cX2_read 44 = .ok (.aload_n 0, 1) := by decide +kernel
theorem dX2_read_45 : decode cX2_read 45 = .ok (.getfield 28, 3) := by decide +kernel
theorem dX2_read_48 : decode cX2_read 48 = .ok (.aload_n 0, 1) := by decide +kernel
theorem dX2_read_49 : decode cX2_read 49 = .ok (.getfield 21, 3) := by decide +kernel
theorem dX2_read_52 : decode cX2_read 52 = .ok (.if_icmp .lt 5, 3) := by decide +kernel
theorem dX2_read_55 : decode cX2_read 55 = .ok (.iconst (-1), 1) := by decide +kernel
theorem dX2_read_56 : decode cX2_read 56 = .ok (.ireturn, 1) := by decide +kernel
theorem dX2_read_57 : decode cX2_read 57 = .ok (.aload_n 0, 1) := by decide +kernel
theorem dX2_read_58 : decode cX2_read 58 = .ok (.getfield 9, 3) := by decide +kernel
theorem dX2_read_61 : decode cX2_read 61 = .ok (.aload_n 0, 1) := by decide +kernel
theorem dX2_read_62 : decode cX2_read 62 = .ok (.getfield 28, 3) := by decide +kernel
theorem dX2_read_65 : decode cX2_read 65 = .ok (.caload, 1) := by decide +kernel
theorem dX2_read_66 : decode cX2_read 66 = .ok (.bipush 59, 2) := by decide +kernel
theorem dX2_read_68 : decode cX2_read 68 = .ok (.if_icmp .eq 8, 3) := by decide +kernel
theorem dX2_read_71 : decode cX2_read 71 = .ok (.aload_n 0, 1) := by decide +kernel
theorem dX2_read_72 : decode cX2_read 72 = .ok (.getfield 28, 3) := by decide +kernel
theorem dX2_read_75 : decode cX2_read 75 = .ok (.ireturn, 1) := by decide +kernel
theorem dX2_read_76 : decode cX2_read 76 = .ok (.aload_n 0, 1) := by decide +kernel
theorem dX2_read_77 : decode cX2_read 77 = .ok (.getfield 28, 3) := by decide +kernel
theorem dX2_read_80 : decode cX2_read 80 = .ok (.iconst 1, 1) := by decide +kernel
theorem dX2_read_81 : decode cX2_read 81 = .ok (.iadd, 1) := by decide +kernel
theorem dX2_read_82 : decode cX2_read 82 = .ok (.istore_n 1, 1) := by decide +kernel
theorem dX2_read_83 : decode cX2_read 83 = .ok (.iinc 2 1, 3) := by decide +kernel
theorem dX2_read_86 : decode cX2_read 86 = .ok (.goto (-77), 3) := by decide +kernel
theorem dX2_read_89 : decode cX2_read 89 = .ok (.iload_n 1, 1) := by decide +kernel
theorem dX2_read_90 : decode cX2_read 90 = .ok (.ireturn, 1) := by decide +kernel
theorem dX2_readCommand_0 : decode cX2_readCommand 0 = .ok (.iload_n 2, 1) := by decide +kernel
theorem dX2_readCommand_1 : decode cX2_readCommand 1 = .ok (.istore_n 3, 1) := by decide +kernel
theorem dX2_readCommand_2 : decode cX2_readCommand 2 = .ok (.iconst 0, 1) := by decide +kernel
theorem dX2_readCommand_3 : decode cX2_readCommand 3 = .ok (.istore 4, 2) := by decide +kernel
theorem dX2_readCommand_5 : decode cX2_readCommand 5 = .ok (.iload 4, 2) := by decide +kernel
theorem dX2_readCommand_7 : decode cX2_readCommand 7 = .ok (.getstatic 40, 3) := by decide +kernel
theorem dX2_readCommand_10 : decode cX2_readCommand 10 = .ok (.arraylength, 1) := by decide +kernel
theorem dX2_readCommand_11 : decode cX2_readCommand 11 = .ok (.if_icmp .ge 35, 3) := by decide +kernel
theorem dX2_readCommand_14 : decode cX2_readCommand 14 = .ok (.aload_n 0, 1) := by decide +kernel
theorem dX2_readCommand_15 : decode cX2_readCommand 15 = .ok (.getstatic 40, 3) := by decide +kernel
theorem dX2_readCommand_18 : decode cX2_readCommand 18 = .ok (.iload 4, 2) := by decide +kernel
theorem dX2_readCommand_20 : decode cX2_readCommand 20 = .ok (.aaload, 1) := by decide +kernel
theorem dX2_readCommand_21 : decode cX2_readCommand 21 = .ok (.aload_n 1, 1) := by decide +kernel
theorem dX2_readCommand_22 : decode cX2_readCommand 22 = .ok (.iload_n 2, 1) := by decide +kernel
theorem dX2_readCommand_23 : decode cX2_readCommand 23 = .ok (.invokevirtual 44, 3) := by decide +kernel
theorem dX2_readCommand_26 : decode cX2_readCommand 26 = .ok (.ifCond .eq 5, 3) := by decide +kernel
theorem dX2_readCommand_29 : decode cX2_readCommand 29 = .ok (.iconst 1, 1) := by decide +kernel
theorem dX2_readCommand_30 : decode cX2_readCommand 30 = .ok (.ireturn, 1) := by decide +kernel
theorem dX2_readCommand_31 : decode cX2_readCommand 31 = .ok (.iload_n 3, 1) := by decide +kernel
theorem dX2_readCommand_32 : decode cX2_readCommand 32 = .ok (.aload_n 0, 1) := by decide +kernel
theorem dX2_readCommand_33 : decode cX2_readCommand 33 = .ok (.getfield 28, 3) := by decide +kernel
theorem dX2_readCommand_36 : decode cX2_readCommand 36 = .ok (.invokestatic 48, 3) := by decide +kernel
theorem dX2_readCommand_39 : decode cX2_readCommand 39 = .ok (.istore_n 3, 1) := by decide +kernel
theorem dX2_readCommand_40 : decode cX2_readCommand 40 = .ok (.iinc 4 1, 3) := by decide +kernel
theorem dX2_readCommand_43 : decode cX2_readCommand 43 = .ok (.goto (-38), 3) := by decide +kernel
theorem dX2_readCommand_46 : decode cX2_readCommand 46 = .ok (.aload_n 0, 1) := by decide +kernel
theorem dX2_readCommand_47 : decode cX2_readCommand 47 = .ok (.iload_n 3, 1) := by decide +kernel
theorem dX2_readCommand_48 : decode cX2_readCommand 48 = .ok (.putfield 28, 3) := by decide +kernel
theorem dX2_readCommand_51 : decode cX2_readCommand 51 = .ok (.iconst 0, 1) := by decide +kernel
theorem dX2_readCommand_52 : decode cX2_readCommand 52 = .ok (.ireturn, 1) := by decide +kernel
theorem dX2_fits_0 : decode cX2_fits 0 = .ok (.aload_n 0, 1) := by decide +kernel
theorem dX2_fits_1 : decode cX2_fits 1 = .ok (.iload_n 3, 1) := by decide +kernel
theorem dX2_fits_2 : decode cX2_fits 2 = .ok (.putfield 28, 3) := by decide +kernel
theorem dX2_fits_5 : decode cX2_fits 5 = .ok (.aload_n 1, 1) := by decide +kernel
theorem dX2_fits_6 : decode cX2_fits 6 = .ok (.ifnull 7, 3) := by decide +kernel
theorem dX2_fits_9 : decode cX2_fits 9 = .ok (.aload_n 2, 1) := by decide +kernel
theorem dX2_fits_10 : decode cX2_fits 10 = .ok (.ifnonnull 5, 3) := by decide +kernel
theorem dX2_fits_13 : decode cX2_fits 13 = .ok (.iconst 0, 1) := by decide +kernel
theorem dX2_fits_14 : decode cX2_fits 14 = .ok (.ireturn, 1) := by decide +kernel
theorem dX2_fits_15 : decode cX2_fits 15 = .ok (.aload_n 2, 1) := by decide +kernel
theorem dX2_fits_16 : decode cX2_fits 16 = .ok (.aload_n 1, 1) := by decide +kernel
theorem dX2_fits_17 : decode cX2_fits 17 = .ok (.putfield 54, 3) := by decide +kernel
theorem dX2_fits_20 : decode cX2_fits 20 = .ok (.iconst 0, 1) := by decide +kernel
theorem dX2_fits_21 : decode cX2_fits 21 = .ok (.istore 4, 2) := by decide +kernel
theorem dX2_fits_23 : decode cX2_fits 23 = .ok (.iconst 0, 1) := by decide +kernel
theorem dX2_fits_24 : decode cX2_fits 24 = .ok (.istore 5, 2) := by decide +kernel
theorem dX2_fits_26 : decode cX2_fits 26 = .ok (.iload 5, 2) := by decide +kernel
theorem dX2_fits_28 : decode cX2_fits 28 = .ok (.aload_n 1, 1) := by decide +kernel
theorem dX2_fits_29 : decode cX2_fits 29 = .ok (.getfield 58, 3) := by decide +kernel
theorem dX2_fits_32 : decode cX2_fits 32 = .ok (.invokevirtual 64, 3) := by decide +kernel
theorem dX2_fits_35 : decode cX2_fits 35 = .ok (.if_icmp .ge 112, 3) := by decide +kernel
theorem dX2_fits_38 : decode cX2_fits 38 = .ok (.aload_n 1, 1) := by decide +kernel
theorem dX2_fits_39 : decode cX2_fits 39 = .ok (.getfield 58, 3) := by decide +kernel
theorem dX2_fits_42 : decode cX2_fits 42 = .ok (.iload 5, 2) := by decide +kernel
theorem dX2_fits_44 : decode cX2_fits 44 = .ok (.invokevirtual 69, 3) := by decide +kernel
theorem dX2_fits_47 : decode cX2_fits 47 = .ok (.istore 6, 2) := by decide +kernel
theorem dX2_fits_49 : decode cX2_fits 49 = .ok (.iload 6, 2) := by decide +kernel
theorem dX2_fits_51 : decode cX2_fits 51 = .ok (.bipush 35, 2) := by decide +kernel
theorem dX2_fits_53 : decode cX2_fits 53 = .ok (.if_icmp .eq 10, 3) := by decide +kernel
theorem dX2_fits_56 : decode cX2_fits 56 = .ok (.iload 6, 2) := by decide +kernel
theorem dX2_fits_58 : decode cX2_fits 58 = .ok (.bipush 37, 2) := by decide +kernel
theorem dX2_fits_60 : decode cX2_fits 60 = .ok (.if_icmp .ne 44, 3) := by decide +kernel
theorem dX2_fits_63 : decode cX2_fits 63 = .ok (.aload_n 0, 1) := by decide +kernel
theorem dX2_fits_64 : decode cX2_fits 64 = .ok (.aload_n 0, 1) := by decide +kernel
theorem dX2_fits_65 : decode cX2_fits 65 = .ok (.getfield 28, 3) := by decide +kernel
theorem dX2_fits_68 : decode cX2_fits 68 = .ok (.invokevirtual 73, 3) := by decide +kernel
theorem dX2_fits_71 : decode cX2_fits 71 = .ok (.ifCond .ne 5, 3) := by decide +kernel
theorem dX2_fits_74 : decode cX2_fits 74 = .ok (.iconst 0, 1) := by decide +kernel
theorem dX2_fits_75 : decode cX2_fits 75 = .ok (.ireturn, 1) := by decide +kernel
theorem dX2_fits_76 : decode cX2_fits 76 = .ok (.aload_n 2, 1) := by decide +kernel
theorem dX2_fits_77 : decode cX2_fits 77 = .ok (.iload 4, 2) := by decide +kernel
theorem dX2_fits_79 : decode cX2_fits 79 = .ok (.aload_n 0, 1) := by decide +kernel
theorem dX2_fits_80 : decode cX2_fits 80 = .ok (.iload 6, 2) := by decide +kernel
theorem dX2_fits_82 : decode cX2_fits 82 = .ok (.bipush 37, 2) := by decide +kernel
theorem dX2_fits_84 : decode cX2_fits 84 = .ok (.if_icmp .ne 7, 3) := by decide +kernel
theorem dX2_fits_87 : decode cX2_fits 87 = .ok (.iconst 1, 1) := by decide +kernel
theorem dX2_fits_88 : decode cX2_fits 88 = .ok (.goto 4, 3) := by decide +kernel
theorem dX2_fits_91 : decode cX2_fits 91 = .ok (.iconst 0, 1) := by decide +kernel
theorem dX2_fits_92 : decode cX2_fits 92 = .ok (.invokevirtual 77, 3) := by decide +kernel
theorem dX2_fits_95 : decode cX2_fits 95 = .ok (.invokevirtual 81, 3) := by decide +kernel
theorem dX2_fits_98 : decode cX2_fits 98 = .ok (.iinc 4 1, 3) := by decide +kernel
theorem dX2_fits_101 : decode cX2_fits 101 = .ok (.goto 40, 3) := by decide +kernel
theorem dX2_fits_104 : decode cX2_fits 104 = .ok (.aload_n 0, 1) := by decide +kernel
theorem dX2_fits_105 : decode cX2_fits 105 = .ok (.getfield 28, 3) := by decide +kernel
theorem dX2_fits_108 : decode cX2_fits 108 = .ok (.aload_n 0, 1) := by decide +kernel
theorem dX2_fits_109 : decode cX2_fits 109 = .ok (.getfield 21, 3) := by decide +kernel
theorem dX2_fits_112 : decode cX2_fits 112 = .ok (.if_icmp .ge 17, 3) := by decide +kernel
theorem dX2_fits_115 : decode cX2_fits 115 = .ok (.aload_n 0, 1) := by decide +kernel
theorem dX2_fits_116 : decode cX2_fits 116 = .ok (.getfield 9, 3) := by decide +kernel
theorem dX2_fits_119 : decode cX2_fits 119 = .ok (.aload_n 0, 1) := by decide +kernel
theorem dX2_fits_120 : decode cX2_fits 120 = .ok (.getfield 28, 3) := by decide +kernel
theorem dX2_fits_123 : decode cX2_fits 123 = .ok (.caload, 1) := by decide +kernel
theorem dX2_fits_124 : decode cX2_fits 124 = .ok (.iload 6, 2) := by decide +kernel
theorem dX2_fits_126 : decode cX2_fits 126 = .ok (.if_icmp .eq 5, 3) := by decide +kernel
theorem dX2_fits_129 : decode cX2_fits 129 = .ok (.iconst 0, 1) := by decide +kernel
theorem dX2_fits_130 : decode cX2_fits 130 = .ok (.ireturn, 1) := by decide +kernel
theorem dX2_fits_131 : decode cX2_fits 131 = .ok (.aload_n 0, 1) := by decide +kernel
theorem dX2_fits_132 : decode cX2_fits 132 = .ok (.dup, 1) := by decide +kernel
theorem dX2_fits_133 : decode cX2_fits 133 = .ok (.getfield 28, 3) := by decide +kernel
theorem dX2_fits_136 : decode cX2_fits 136 = .ok (.iconst 1, 1) := by decide +kernel
theorem dX2_fits_137 : decode cX2_fits 137 = .ok (.iadd, 1) := by decide +kernel
theorem dX2_fits_138 : decode cX2_fits 138 = .ok (.putfield 28, 3) := by decide +kernel
theorem dX2_fits_141 : decode cX2_fits 141 = .ok (.iinc 5 1, 3) := by decide +kernel
theorem dX2_fits_144 : decode cX2_fits 144 = .ok (.goto (-118), 3) := by decide +kernel
theorem dX2_fits_147 : decode cX2_fits 147 = .ok (.iconst 1, 1) := by decide +kernel
theorem dX2_fits_148 : decode cX2_fits 148 = .ok (.ireturn, 1) := by decide +kernel
theorem dX2_readNumber_0 : decode cX2_readNumber 0 = .ok (.aload_n 0, 1) := by decide +kernel
theorem dX2_readNumber_1 : decode cX2_readNumber 1 = .ok (.getfield 9, 3) := by decide +kernel
theorem dX2_readNumber_4 : decode cX2_readNumber 4 = .ok (.aload_n 0, 1) := by decide +kernel
theorem dX2_readNumber_5 : decode cX2_readNumber 5 = .ok (.getfield 28, 3) := by decide +kernel
theorem dX2_readNumber_8 : decode cX2_readNumber 8 = .ok (.caload, 1) := by decide +kernel
theorem dX2_readNumber_9 : decode cX2_readNumber 9 = .ok (.bipush 48, 2) := by decide +kernel
theorem dX2_readNumber_11 : decode cX2_readNumber 11 = .ok (.isub, 1) := by decide +kernel
theorem dX2_readNumber_12 : decode cX2_readNumber 12 = .ok (.istore_n 2, 1) := by decide +kernel
theorem dX2_readNumber_13 : decode cX2_readNumber 13 = .ok (.aload_n 0, 1) := by decide +kernel
theorem dX2_readNumber_14 : decode cX2_readNumber 14 = .ok (.dup, 1) := by decide +kernel
theorem dX2_readNumber_15 : decode cX2_readNumber 15 = .ok (.getfield 28, 3) := by decide +kernel
theorem dX2_readNumber_18 : decode cX2_readNumber 18 = .ok (.iconst 1, 1) := by decide +kernel
theorem dX2_readNumber_19 : decode cX2_readNumber 19 = .ok (.iadd, 1) := by decide +kernel
theorem dX2_readNumber_20 : decode cX2_readNumber 20 = .ok (.putfield 28, 3) := by decide +kernel
theorem dX2_readNumber_23 : decode cX2_readNumber 23 = .ok (.iload_n 1, 1) := by decide +kernel
theorem dX2_readNumber_24 : decode cX2_readNumber 24 = .ok (.ifCond .eq 42, 3) := by decide +kernel
theorem dX2_readNumber_27 : decode cX2_readNumber 27 = .ok (.aload_n 0, 1) := by decide +kernel
theorem dX2_readNumber_28 : decode cX2_readNumber 28 = .ok (.aload_n 0, 1) := by decide +kernel
theorem dX2_readNumber_29 : decode cX2_readNumber 29 = .ok (.getfield 28, 3) := by decide +kernel
theorem dX2_readNumber_32 : decode cX2_readNumber 32 = .ok (.invokevirtual 73, 3) := by decide +kernel
theorem dX2_readNumber_35 : decode cX2_readNumber 35 = .ok (.ifCond .eq 31, 3) := by decide +kernel
theorem dX2_readNumber_38 : decode cX2_readNumber 38 = .ok (.iload_n 2, 1) := by decide +kernel
theorem dX2_readNumber_39 : decode cX2_readNumber 39 = .ok (.bipush 10, 2) := by decide +kernel
theorem dX2_readNumber_41 : decode cX2_readNumber 41 = .ok (.imul, 1) := by decide +kernel
theorem dX2_readNumber_42 : decode cX2_readNumber 42 = .ok (.aload_n 0, 1) := by decide +kernel
theorem dX2_readNumber_43 : decode cX2_readNumber 43 = .ok (.getfield 9, 3) := by decide +kernel
theorem dX2_readNumber_46 : decode cX2_readNumber 46 = .ok (.aload_n 0, 1) := by decide +kernel
theorem dX2_readNumber_47 : decode cX2_readNumber 47 = .ok (.getfield 28, 3) := by decide +kernel
theorem dX2_readNumber_50 : decode cX2_readNumber 50 = .ok (.caload, 1) := by decide +kernel
theorem dX2_readNumber_51 : decode cX2_readNumber 51 = .ok (.iadd, 1) := by decide +kernel
theorem dX2_readNumber_52 : decode cX2_readNumber 52 = .ok (.bipush 48, 2) := by decide +kernel
theorem dX2_readNumber_54 : decode cX2_readNumber 54 = .ok (.isub, 1) := by decide +kernel
theorem dX2_readNumber_55 : decode cX2_readNumber 55 = .ok (.istore_n 2, 1) := by decide +kernel
theorem dX2_readNumber_56 : decode cX2_readNumber 56 = .ok (.aload_n 0, 1) := by decide +kernel
theorem dX2_readNumber_57 : decode cX2_readNumber 57 = .ok (.dup, 1) := by decide +kernel
theorem dX2_readNumber_58 : decode cX2_readNumber 58 = .ok (.getfield 28, 3) := by decide +kernel
theorem dX2_readNumber_61 : decode cX2_readNumber 61 = .ok (.iconst 1, 1) := by decide +kernel
theorem dX2_readNumber_62 : decode cX2_readNumber 62 = .ok (.iadd, 1) := by decide +kernel
theorem dX2_readNumber_63 : decode cX2_readNumber 63 = .ok (.putfield 28, 3) := by decide +kernel
theorem dX2_readNumber_66 : decode cX2_readNumber 66 = .ok (.iload_n 2, 1) := by decide +kernel
theorem dX2_readNumber_67 : decode cX2_readNumber 67 = .ok (.ireturn, 1) := by decide +kernel
theorem dX2_isDigit_0 : decode cX2_isDigit 0 = .ok (.iload_n 1, 1) := by decide +kernel
theorem dX2_isDigit_1 : decode cX2_isDigit 1 = .ok (.aload_n 0, 1) := by decide +kernel
theorem dX2_isDigit_2 : decode cX2_isDigit 2 = .ok (.getfield 21, 3) := by decide +kernel
theorem dX2_isDigit_5 : decode cX2_isDigit 5 = .ok (.if_icmp .ge 29, 3) := by decide +kernel
theorem dX2_isDigit_8 : decode cX2_isDigit 8 = .ok (.aload_n 0, 1) := by decide +kernel
theorem dX2_isDigit_9 : decode cX2_isDigit 9 = .ok (.getfield 9, 3) := by decide +kernel
theorem dX2_isDigit_12 : decode cX2_isDigit 12 = .ok (.iload_n 1, 1) := by decide +kernel
theorem dX2_isDigit_13 : decode cX2_isDigit 13 = .ok (.caload, 1) := by decide +kernel
theorem dX2_isDigit_14 : decode cX2_isDigit 14 = .ok (.bipush 48, 2) := by decide +kernel
theorem dX2_isDigit_16 : decode cX2_isDigit 16 = .ok (.if_icmp .lt 18, 3) := by decide +kernel
theorem dX2_isDigit_19 : decode cX2_isDigit 19 = .ok (.aload_n 0, 1) := by decide +kernel
theorem dX2_isDigit_20 : decode cX2_isDigit 20 = .ok (.getfield 9, 3) := by decide +kernel
theorem dX2_isDigit_23 : decode cX2_isDigit 23 = .ok (.iload_n 1, 1) := by decide +kernel
theorem dX2_isDigit_24 : decode cX2_isDigit 24 = .ok (.caload, 1) := by decide +kernel
theorem dX2_isDigit_25 : decode cX2_isDigit 25 = .ok (.bipush 57, 2) := by decide +kernel
theorem dX2_isDigit_27 : decode cX2_isDigit 27 = .ok (.if_icmp .gt 7, 3) := by decide +kernel
theorem dX2_isDigit_30 : decode cX2_isDigit 30 = .ok (.iconst 1, 1) := by decide +kernel
theorem dX2_isDigit_31 : decode cX2_isDigit 31 = .ok (.goto 4, 3) := by decide +kernel
theorem dX2_isDigit_34 : decode cX2_isDigit 34 = .ok (.iconst 0, 1) := by decide +kernel
theorem dX2_isDigit_35 : decode cX2_isDigit 35 = .ok (.ireturn, 1) := by decide +kernel
theorem dX3_init_0 : decode cX3_init 0 = .ok (.aload_n 0, 1) := by decide +kernel
theorem dX3_init_1 : decode cX3_init 1 = .ok (.invokespecial 3, 3) := by decide +kernel
theorem dX3_init_4 : decode cX3_init 4 = .ok (.aload_n 0, 1) := by decide +kernel
theorem dX3_init_5 : decode cX3_init 5 = .ok (.new 9, 3) := by decide +kernel
theorem dX3_init_8 : decode cX3_init 8 = .ok (.dup, 1) := by decide +kernel
theorem dX3_init_9 : decode cX3_init 9 = .ok (.invokespecial 11, 3) := by decide +kernel
theorem dX3_init_12 : decode cX3_init 12 = .ok (.putfield 12, 3) := by decide +kernel
theorem dX3_init_15 : decode cX3_init 15 = .ok (.aload_n 0, 1) := by decide +kernel
theorem dX3_init_16 : decode cX3_init 16 = .ok (.new 18, 3) := by decide +kernel
theorem dX3_init_19 : decode cX3_init 19 = .ok (.dup, 1) := by decide +kernel
theorem dX3_init_20 : decode cX3_init 20 = .ok (.invokespecial 20, 3) := by decide +kernel
theorem dX3_init_23 : decode cX3_init 23 = .ok (.putfield 21, 3) := by decide +kernel
theorem dX3_init_26 : decode cX3_init 26 = .ok (.aload_n 0, 1) := by decide +kernel
theorem dX3_init_27 : decode cX3_init 27 = .ok (.new 25, 3) := by decide +kernel
theorem dX3_init_30 : decode cX3_init 30 = .ok (.dup, 1) := by decide +kernel
theorem dX3_init_31 : decode cX3_init 31 = .ok (.invokespecial 27, 3) := by decide +kernel
theorem dX3_init_34 : decode cX3_init 34 = .ok (.putfield 28, 3) := by decide +kernel
theorem dX3_init_37 : decode cX3_init 37 = .ok (.aload_n 0, 1) := by decide +kernel
theorem dX3_init_38 : decode cX3_init 38 = .ok (.new 32, 3) := by decide +kernel
theorem dX3_init_41 : decode cX3_init 41 = .ok (.dup, 1) := by decide +kernel
theorem dX3_init_42 : decode cX3_init 42 = .ok (.invokespecial 34, 3) := by decide +kernel
theorem dX3_init_45 : decode cX3_init 45 = .ok (.putfield 35, 3) := by decide +kernel
theorem dX3_init_48 : decode cX3_init 48 = .ok (.return_, 1) := by decide +kernel
theorem dX3_copyFrom_0 : decode cX3_copyFrom 0 = .ok (.aload_n 0, 1) := by decide +kernel
theorem dX3_copyFrom_1 : decode cX3_copyFrom 1 = .ok (.getfield 12, 3) := by decide +kernel
theorem dX3_copyFrom_4 : decode cX3_copyFrom 4 = .ok (.aload_n 1, 1) := by decide +kernel
theorem dX3_copyFrom_5 : decode cX3_copyFrom 5 = .ok (.getfield 12, 3) := by decide +kernel
theorem dX3_copyFrom_8 : decode cX3_copyFrom 8 = .ok (.invokevirtual 39, 3) := by decide +kernel
theorem dX3_copyFrom_11 : decode cX3_copyFrom 11 = .ok (.aload_n 0, 1) := by decide +kernel
theorem dX3_copyFrom_12 : decode cX3_copyFrom 12 = .ok (.getfield 21, 3) := by decide +kernel
theorem dX3_copyFrom_15 : decode cX3_copyFrom 15 = .ok (.aload_n 1, 1) := by decide +kernel
theorem dX3_copyFrom_16 : decode cX3_copyFrom 16 = .ok (.getfield 21, 3) := by decide +kernel
theorem dX3_copyFrom_19 : decode cX3_copyFrom 19 = .ok (.invokevirtual 43, 3) := by decide +kernel
theorem dX3_copyFrom_22 : decode cX3_copyFrom 22 = .ok (.aload_n 0, 1) := by decide +kernel
theorem dX3_copyFrom_23 : decode cX3_copyFrom 23 = .ok (.getfield 28, 3) := by decide +kernel
theorem dX3_copyFrom_26 : decode cX3_copyFrom 26 = .ok (.aload_n 1, 1) := by decide +kernel
theorem dX3_copyFrom_27 : decode cX3_copyFrom 27 = .ok (.getfield 28, 3) := by decide +kernel
theorem dX3_copyFrom_30 : decode cX3_copyFrom 30 = .ok (.invokevirtual 46, 3) := by decide +kernel
theorem dX3_copyFrom_33 : decode cX3_copyFrom 33 = .ok (.aload_n 0, 1) := by decide +kernel
theorem dX3_copyFrom_34 : decode cX3_copyFrom 34 = .ok (.getfield 35, 3) := by decide +kernel
theorem dX3_copyFrom_37 : decode cX3_copyFrom 37 = .ok (.aload_n 1, 1) := by decide +kernel
theorem dX3_copyFrom_38 : decode cX3_copyFrom 38 = .ok (.getfield 35, 3) := by decide +kernel
theorem dX3_copyFrom_41 : decode cX3_copyFrom 41 = .ok (.invokevirtual 49, 3) := by decide +kernel
theorem dX3_copyFrom_44 : decode cX3_copyFrom 44 = .ok (.return_, 1) := by decide +kernel
theorem dX3_isSafe_0 : decode cX3_isSafe 0 = .ok (.aload_n 0, 1) := by decide +kernel
theorem dX3_isSafe_1 : decode cX3_isSafe 1 = .ok (.getfield 21, 3) := by decide +kernel
theorem dX3_isSafe_4 : decode cX3_isSafe 4 = .ok (.iload_n 1, 1) := by decide +kernel
theorem dX3_isSafe_5 : decode cX3_isSafe 5 = .ok (.invokevirtual 52, 3) := by decide +kernel
theorem dX3_isSafe_8 : decode cX3_isSafe 8 = .ok (.istore_n 2, 1) := by decide +kernel
theorem dX3_isSafe_9 : decode cX3_isSafe 9 = .ok (.iload_n 2, 1) := by decide +kernel
theorem dX3_isSafe_10 : decode cX3_isSafe 10 = .ok (.ifCond .eq 15, 3) := by decide +kernel
theorem dX3_isSafe_13 : decode cX3_isSafe 13 = .ok (.aload_n 0, 1) := by decide +kernel
theorem dX3_isSafe_14 : decode cX3_isSafe 14 = .ok (.getfield 28, 3) := by decide +kernel
theorem dX3_isSafe_17 : decode cX3_isSafe 17 = .ok (.iload_n 2, 1) := by decide +kernel
theorem dX3_isSafe_18 : decode cX3_isSafe 18 = .ok (.invokevirtual 56, 3) := by decide +kernel
theorem dX3_isSafe_21 : decode cX3_isSafe 21 = .ok (.iconst (-1), 1) := by decide +kernel
theorem dX3_isSafe_22 : decode cX3_isSafe 22 = .ok (.if_icmp .eq 7, 3) := by decide +kernel
theorem dX3_isSafe_25 : decode cX3_isSafe 25 = .ok (.iconst 1, 1) := by decide +kernel
theorem dX3_isSafe_26 : decode cX3_isSafe 26 = .ok (.goto 4, 3) := by decide +kernel
theorem dX3_isSafe_29 : decode cX3_isSafe 29 = .ok (.iconst 0, 1) := by decide +kernel
theorem dX3_isSafe_30 : decode cX3_isSafe 30 = .ok (.ireturn, 1) := by decide +kernel
theorem dX3_roomIn_0 : decode cX3_roomIn 0 = .ok (.aload_n 0, 1) := by decide +kernel
theorem dX3_roomIn_1 : decode cX3_roomIn 1 = .ok (.getfield 35, 3) := by decide +kernel
theorem dX3_roomIn_4 : decode cX3_roomIn 4 = .ok (.iload_n 1, 1) := by decide +kernel
theorem dX3_roomIn_5 : decode cX3_roomIn 5 = .ok (.invokevirtual 59, 3) := by decide +kernel
theorem dX3_roomIn_8 : decode cX3_roomIn 8 = .ok (.aload_n 0, 1) := by decide +kernel
theorem dX3_roomIn_9 : decode cX3_roomIn 9 = .ok (.getfield 21, 3) := by decide +kernel
theorem dX3_roomIn_12 : decode cX3_roomIn 12 = .ok (.iload_n 1, 1) := by decide +kernel
theorem dX3_roomIn_13 : decode cX3_roomIn 13 = .ok (.invokevirtual 62, 3) := by decide +kernel
theorem dX3_roomIn_16 : decode cX3_roomIn 16 = .ok (.isub, 1) := by decide +kernel
theorem dX3_roomIn_17 : decode cX3_roomIn 17 = .ok (.ireturn, 1) := by decide +kernel
theorem dX3_effortOf_0 : decode cX3_effortOf 0 = .ok (.aload_n 0, 1) := by decide +kernel
theorem dX3_effortOf_1 : decode cX3_effortOf 1 = .ok (.getfield 12, 3) := by decide +kernel
theorem dX3_effortOf_4 : decode cX3_effortOf 4 = .ok (.aload_n 0, 1) := by decide +kernel
theorem dX3_effortOf_5 : decode cX3_effortOf 5 = .ok (.getfield 35, 3) := by decide +kernel
theorem dX3_effortOf_8 : decode cX3_effortOf 8 = .ok (.iload_n 1, 1) := by decide +kernel
theorem dX3_effortOf_9 : decode cX3_effortOf 9 = .ok (.invokevirtual 65, 3) := by decide +kernel
theorem dX3_effortOf_12 : decode cX3_effortOf 12 = .ok (.iload_n 2, 1) := by decide +kernel
theorem dX3_effortOf_13 : decode cX3_effortOf 13 = .ok (.invokevirtual 68, 3) := by decide +kernel
theorem dX3_effortOf_16 : decode cX3_effortOf 16 = .ok (.istore_n 3, 1) := by decide +kernel
theorem dX3_effortOf_17 : decode cX3_effortOf 17 = .ok (.iload_n 3, 1) := by decide +kernel
theorem dX3_effortOf_18 : decode cX3_effortOf 18 = .ok (.iconst (-1), 1) := by decide +kernel
theorem dX3_effortOf_19 : decode cX3_effortOf 19 = .ok (.if_icmp .ne 7, 3) := by decide +kernel
theorem dX3_effortOf_22 : decode cX3_effortOf 22 = .ok (.iconst (-1), 1) := by decide +kernel
theorem dX3_effortOf_23 : decode cX3_effortOf 23 = .ok (.goto 13, 3) := by decide +kernel
theorem dX3_effortOf_26 : decode cX3_effortOf 26 = .ok (.iload_n 3, 1) := by decide +kernel
theorem dX3_effortOf_27 : decode cX3_effortOf 27 = .ok (.aload_n 0, 1) := by decide +kernel
theorem dX3_effortOf_28 : decode cX3_effortOf 28 = .ok (.getfield 21, 3) := by decide +kernel
theorem dX3_effortOf_31 : decode cX3_effortOf 31 = .ok (.iload_n 1, 1) := by decide +kernel
theorem dX3_effortOf_32 : decode cX3_effortOf 32 = .ok (.invokevirtual 62, 3) := by decide +kernel
theorem dX3_effortOf_35 : decode cX3_effortOf 35 = .ok (.imul, 1) := by decide +kernel
theorem dX3_effortOf_36 : decode cX3_effortOf 36 = .ok (.ireturn, 1) := by decide +kernel
theorem dX3_joinPlaces_0 : decode cX3_joinPlaces 0 = .ok (.iload_n 1, 1) := by decide +kernel
theorem dX3_joinPlaces_1 : decode cX3_joinPlaces 1 = .ok (.bipush 6, 2) := by decide +kernel
theorem dX3_joinPlaces_3 : decode cX3_joinPlaces 3 = .ok (.invokestatic 72, 3) := by decide +kernel
theorem dX3_joinPlaces_6 : decode cX3_joinPlaces 6 = .ok (.ifCond .eq 12, 3) := by decide +kernel
theorem dX3_joinPlaces_9 : decode cX3_joinPlaces 9 = .ok (.iload_n 2, 1) := by decide +kernel
theorem dX3_joinPlaces_10 : decode cX3_joinPlaces 10 = .ok (.bipush 6, 2) := by decide +kernel
theorem dX3_joinPlaces_12 : decode cX3_joinPlaces 12 = .ok (.invokestatic 72, 3) := by decide +kernel
theorem dX3_joinPlaces_15 : decode cX3_joinPlaces 15 = .ok (.ifCond .ne 6, 3) := by decide +kernel
theorem dX3_joinPlaces_18 : decode cX3_joinPlaces 18 = .ok (.bipush (-2), 2) := by decide +kernel
theorem dX3_joinPlaces_20 : decode cX3_joinPlaces 20 = .ok (.ireturn, 1) := by decide +kernel
theorem dX3_joinPlaces_21 : decode cX3_joinPlaces 21 = .ok (.iload_n 1, 1) := by decide +kernel
theorem dX3_joinPlaces_22 : decode cX3_joinPlaces 22 = .ok (.iload_n 2, 1) := by decide +kernel
theorem dX3_joinPlaces_23 : decode cX3_joinPlaces 23 = .ok (.if_icmp .eq 13, 3) := by decide +kernel
theorem dX3_joinPlaces_26 : decode cX3_joinPlaces 26 = .ok (.iload_n 3, 1) := by decide +kernel
theorem dX3_joinPlaces_27 : decode cX3_joinPlaces 27 = .ok (.iconst 1, 1) := by decide +kernel
theorem dX3_joinPlaces_28 : decode cX3_joinPlaces 28 = .ok (.bipush 20, 2) := by decide +kernel
theorem dX3_joinPlaces_30 : decode cX3_joinPlaces 30 = .ok (.invokestatic 76, 3) := by decide +kernel
theorem dX3_joinPlaces_33 : decode cX3_joinPlaces 33 = .ok (.ifCond .ne 6, 3) := by decide +kernel
theorem dX3_joinPlaces_36 : decode cX3_joinPlaces 36 = .ok (.bipush (-3), 2) := by decide +kernel
theorem dX3_joinPlaces_38 : decode cX3_joinPlaces 38 = .ok (.ireturn, 1) := by decide +kernel
theorem dX3_joinPlaces_39 : decode cX3_joinPlaces 39 = .ok (.aload_n 0, 1) := by decide +kernel
theorem dX3_joinPlaces_40 : decode cX3_joinPlaces 40 = .ok (.getfield 12, 3) := by decide +kernel
theorem dX3_joinPlaces_43 : decode cX3_joinPlaces 43 = .ok (.iload_n 1, 1) := by decide +kernel
theorem dX3_joinPlaces_44 : decode cX3_joinPlaces 44 = .ok (.iload_n 2, 1) := by decide +kernel
theorem dX3_joinPlaces_45 : decode cX3_joinPlaces 45 = .ok (.invokevirtual 80, 3) := by decide +kernel
theorem dX3_joinPlaces_48 : decode cX3_joinPlaces 48 = .ok (.ifCond .eq 8, 3) := by decide +kernel
theorem dX3_joinPlaces_51 : decode cX3_joinPlaces 51 = .ok (.bipush (-4), 2) := by decide +kernel
theorem dX3_joinPlaces_53 : decode cX3_joinPlaces 53 = .ok (.goto 13, 3) := by decide +kernel
theorem dX3_joinPlaces_56 : decode cX3_joinPlaces 56 = .ok (.aload_n 0, 1) := by decide +kernel
theorem dX3_joinPlaces_57 : decode cX3_joinPlaces 57 = .ok (.getfield 12, 3) := by decide +kernel
theorem dX3_joinPlaces_60 : decode cX3_joinPlaces 60 = .ok (.iload_n 1, 1) := by decide +kernel
theorem dX3_joinPlaces_61 : decode cX3_joinPlaces 61 = .ok (.iload_n 2, 1) := by decide +kernel
theorem dX3_joinPlaces_62 : decode cX3_joinPlaces 62 = .ok (.iload_n 3, 1) := by decide +kernel
theorem dX3_joinPlaces_63 : decode cX3_joinPlaces 63 = .ok (.invokevirtual 83, 3) := by decide +kernel
theorem dX3_joinPlaces_66 : decode cX3_joinPlaces 66 = .ok (.ireturn, 1) := by decide +kernel
theorem dX3_addParcel_0 : decode cX3_addParcel 0 = .ok (.iload_n 3, 1) := by decide +kernel
theorem dX3_addParcel_1 : decode cX3_addParcel 1 = .ok (.bipush 6, 2) := by decide +kernel
theorem dX3_addParcel_3 : decode cX3_addParcel 3 = .ok (.invokestatic 72, 3) := by decide +kernel
theorem dX3_addParcel_6 : decode cX3_addParcel 6 = .ok (.ifCond .ne 6, 3) := by decide +kernel
theorem dX3_addParcel_9 : decode cX3_addParcel 9 = .ok (.bipush (-2), 2) := by decide +kernel
theorem dX3_addParcel_11 : decode cX3_addParcel 11 = .ok (.ireturn, 1) := by decide +kernel
theorem dX3_addParcel_12 : decode cX3_addParcel 12 = .ok (.iload_n 1, 1) := by decide +kernel
theorem dX3_addParcel_13 : decode cX3_addParcel 13 = .ok (.iconst 1, 1) := by decide +kernel
theorem dX3_addParcel_14 : decode cX3_addParcel 14 = .ok (.bipush 20, 2) := by decide +kernel
theorem dX3_addParcel_16 : decode cX3_addParcel 16 = .ok (.invokestatic 76, 3) := by decide +kernel
theorem dX3_addParcel_19 : decode cX3_addParcel 19 = .ok (.ifCond .eq 12, 3) := by decide +kernel
theorem dX3_addParcel_22 : decode cX3_addParcel 22 = .ok (.iload_n 2, 1) := by decide +kernel
theorem dX3_addParcel_23 : decode cX3_addParcel 23 = .ok (.iconst 0, 1) := by decide +kernel
theorem dX3_addParcel_24 : decode cX3_addParcel 24 = .ok (.iconst 3, 1) := by decide +kernel
theorem dX3_addParcel_25 : decode cX3_addParcel 25 = .ok (.invokestatic 76, 3) := by decide +kernel
theorem dX3_addParcel_28 : decode cX3_addParcel 28 = .ok (.ifCond .ne 6, 3) := by decide +kernel
theorem dX3_addParcel_31 : decode cX3_addParcel 31 = .ok (.bipush (-3), 2) := by decide +kernel
theorem dX3_addParcel_33 : decode cX3_addParcel 33 = .ok (.ireturn, 1) := by decide +kernel
theorem dX3_addParcel_34 : decode cX3_addParcel 34 = .ok (.aload_n 0, 1) := by decide +kernel
theorem dX3_addParcel_35 : decode cX3_addParcel 35 = .ok (.getfield 21, 3) := by decide +kernel
theorem dX3_addParcel_38 : decode cX3_addParcel 38 = .ok (.invokevirtual 87, 3) := by decide +kernel
theorem dX3_addParcel_41 : decode cX3_addParcel 41 = .ok (.ifCond .eq 8, 3) := by decide +kernel
theorem dX3_addParcel_44 : decode cX3_addParcel 44 = .ok (.bipush (-4), 2) := by decide +kernel
theorem dX3_addParcel_46 : decode cX3_addParcel 46 = .ok (.goto 13, 3) := by decide +kernel
theorem dX3_addParcel_49 : decode cX3_addParcel 49 = .ok (.aload_n 0, 1) := by decide +kernel
theorem dX3_addParcel_50 : decode cX3_addParcel 50 = .ok (.getfield 21, 3) := by decide +kernel
theorem dX3_addParcel_53 : decode cX3_addParcel 53 = .ok (.iload_n 1, 1) := by decide +kernel
theorem dX3_addParcel_54 : decode cX3_addParcel 54 = .ok (.iload_n 2, 1) := by decide +kernel
theorem dX3_addParcel_55 : decode cX3_addParcel 55 = .ok (.iload_n 3, 1) := by decide +kernel
theorem dX3_addParcel_56 : decode cX3_addParcel 56 = .ok (.invokevirtual 91, 3) := by decide +kernel
theorem dX3_addParcel_59 : decode cX3_addParcel 59 = .ok (.ireturn, 1) := by decide +kernel
theorem dX3_addGlove_0 : decode cX3_addGlove 0 = .ok (.iload_n 1, 1) := by decide +kernel
theorem dX3_addGlove_1 : decode cX3_addGlove 1 = .ok (.iconst 1, 1) := by decide +kernel
theorem dX3_addGlove_2 : decode cX3_addGlove 2 = .ok (.iconst 3, 1) := by decide +kernel
theorem dX3_addGlove_3 : decode cX3_addGlove 3 = .ok (.invokestatic 76, 3) := by decide +kernel
theorem dX3_addGlove_6 : decode cX3_addGlove 6 = .ok (.ifCond .ne 6, 3) := by decide +kernel
theorem dX3_addGlove_9 : decode cX3_addGlove 9 = .ok (.bipush (-3), 2) := by decide +kernel
theorem dX3_addGlove_11 : decode cX3_addGlove 11 = .ok (.ireturn, 1) := by decide +kernel
theorem dX3_addGlove_12 : decode cX3_addGlove 12 = .ok (.aload_n 0, 1) := by decide +kernel
theorem dX3_addGlove_13 : decode cX3_addGlove 13 = .ok (.getfield 28, 3) := by decide +kernel
theorem dX3_addGlove_16 : decode cX3_addGlove 16 = .ok (.invokevirtual 94, 3) := by decide +kernel
theorem dX3_addGlove_19 : decode cX3_addGlove 19 = .ok (.ifCond .eq 8, 3) := by decide +kernel
theorem dX3_addGlove_22 : decode cX3_addGlove 22 = .ok (.bipush (-4), 2) := by decide +kernel
theorem dX3_addGlove_24 : decode cX3_addGlove 24 = .ok (.goto 11, 3) := by decide +kernel
theorem dX3_addGlove_27 : decode cX3_addGlove 27 = .ok (.aload_n 0, 1) := by decide +kernel
theorem dX3_addGlove_28 : decode cX3_addGlove 28 = .ok (.getfield 28, 3) := by decide +kernel
theorem dX3_addGlove_31 : decode cX3_addGlove 31 = .ok (.iload_n 1, 1) := by decide +kernel
theorem dX3_addGlove_32 : decode cX3_addGlove 32 = .ok (.invokevirtual 95, 3) := by decide +kernel
theorem dX3_addGlove_35 : decode cX3_addGlove 35 = .ok (.ireturn, 1) := by decide +kernel
theorem dX3_changeCapacity_0 : decode cX3_changeCapacity 0 = .ok (.iload_n 1, 1) := by decide +kernel
theorem dX3_changeCapacity_1 : decode cX3_changeCapacity 1 = .ok (.iconst 3, 1) := by decide +kernel
theorem dX3_changeCapacity_2 : decode cX3_changeCapacity 2 = .ok (.invokestatic 72, 3) := by decide +kernel
theorem dX3_changeCapacity_5 : decode cX3_changeCapacity 5 = .ok (.ifCond .ne 6, 3) := by decide +kernel
theorem dX3_changeCapacity_8 : decode cX3_changeCapacity 8 = .ok (.bipush (-2), 2) := by decide +kernel
theorem dX3_changeCapacity_10 : decode cX3_changeCapacity 10 = .ok (.ireturn, 1) := by decide +kernel
theorem dX3_changeCapacity_11 : decode cX3_changeCapacity 11 = .ok (.iload_n 2, 1) := by decide +kernel
theorem dX3_changeCapacity_12 : decode cX3_changeCapacity 12 = .ok (.iconst 1, 1) := by decide +kernel
theorem dX3_changeCapacity_13 : decode cX3_changeCapacity 13 = .ok (.bipush 60, 2) := by decide +kernel
theorem dX3_changeCapacity_15 : decode cX3_changeCapacity 15 = .ok (.invokestatic 76, 3) := by decide +kernel
theorem dX3_changeCapacity_18 : decode cX3_changeCapacity 18 = .ok (.ifCond .ne 6, 3) := by decide +kernel
theorem dX3_changeCapacity_21 : decode cX3_changeCapacity 21 = .ok (.bipush (-3), 2) := by decide +kernel
theorem dX3_changeCapacity_23 : decode cX3_changeCapacity 23 = .ok (.ireturn, 1) := by decide +kernel
theorem dX3_changeCapacity_24 : decode cX3_changeCapacity 24 = .ok (.aload_n 0, 1) := by decide +kernel
theorem dX3_changeCapacity_25 : decode cX3_changeCapacity 25 = .ok (.getfield 21, 3) := by decide +kernel
theorem dX3_changeCapacity_28 : decode cX3_changeCapacity 28 = .ok (.iload_n 1, 1) := by decide +kernel
theorem dX3_changeCapacity_29 : decode cX3_changeCapacity 29 = .ok (.invokevirtual 62, 3) := by decide +kernel
theorem dX3_changeCapacity_32 : decode cX3_changeCapacity 32 = .ok (.iload_n 2, 1) := by decide +kernel
theorem dX3_changeCapacity_33 : decode cX3_changeCapacity 33 = .ok (.if_icmp .le 8, 3) := by decide +kernel
theorem dX3_changeCapacity_36 : decode cX3_changeCapacity 36 = .ok (.bipush (-4), 2) := by decide +kernel
theorem dX3_changeCapacity_38 : decode cX3_changeCapacity 38 = .ok (.goto 12, 3) := by decide +kernel
theorem dX3_changeCapacity_41 : decode cX3_changeCapacity 41 = .ok (.aload_n 0, 1) := by decide +kernel
theorem dX3_changeCapacity_42 : decode cX3_changeCapacity 42 = .ok (.getfield 35, 3) := by decide +kernel
theorem dX3_changeCapacity_45 : decode cX3_changeCapacity 45 = .ok (.iload_n 1, 1) := by decide +kernel
theorem dX3_changeCapacity_46 : decode cX3_changeCapacity 46 = .ok (.iload_n 2, 1) := by decide +kernel
theorem dX3_changeCapacity_47 : decode cX3_changeCapacity 47 = .ok (.invokevirtual 97, 3) := by decide +kernel
theorem dX3_changeCapacity_50 : decode cX3_changeCapacity 50 = .ok (.ireturn, 1) := by decide +kernel
theorem dX3_putIn_0 : decode cX3_putIn 0 = .ok (.iload_n 1, 1) := by decide +kernel
theorem dX3_putIn_1 : decode cX3_putIn 1 = .ok (.aload_n 0, 1) := by decide +kernel
theorem dX3_putIn_2 : decode cX3_putIn 2 = .ok (.getfield 21, 3) := by decide +kernel
theorem dX3_putIn_5 : decode cX3_putIn 5 = .ok (.invokevirtual 100, 3) := by decide +kernel
theorem dX3_putIn_8 : decode cX3_putIn 8 = .ok (.invokestatic 72, 3) := by decide +kernel
theorem dX3_putIn_11 : decode cX3_putIn 11 = .ok (.ifCond .eq 11, 3) := by decide +kernel
theorem dX3_putIn_14 : decode cX3_putIn 14 = .ok (.iload_n 2, 1) := by decide +kernel
theorem dX3_putIn_15 : decode cX3_putIn 15 = .ok (.iconst 3, 1) := by decide +kernel
theorem dX3_putIn_16 : decode cX3_putIn 16 = .ok (.invokestatic 72, 3) := by decide +kernel
theorem dX3_putIn_19 : decode cX3_putIn 19 = .ok (.ifCond .ne 6, 3) := by decide +kernel
theorem dX3_putIn_22 : decode cX3_putIn 22 = .ok (.bipush (-2), 2) := by decide +kernel
theorem dX3_putIn_24 : decode cX3_putIn 24 = .ok (.ireturn, 1) := by decide +kernel
theorem dX3_putIn_25 : decode cX3_putIn 25 = .ok (.aload_n 0, 1) := by decide +kernel
theorem dX3_putIn_26 : decode cX3_putIn 26 = .ok (.getfield 21, 3) := by decide +kernel
theorem dX3_putIn_29 : decode cX3_putIn 29 = .ok (.iload_n 1, 1) := by decide +kernel
theorem dX3_putIn_30 : decode cX3_putIn 30 = .ok (.invokevirtual 104, 3) := by decide +kernel
theorem dX3_putIn_33 : decode cX3_putIn 33 = .ok (.iconst (-1), 1) := by decide +kernel
theorem dX3_putIn_34 : decode cX3_putIn 34 = .ok (.if_icmp .eq 6, 3) := by decide +kernel
theorem dX3_putIn_37 : decode cX3_putIn 37 = .ok (.bipush (-4), 2) := by decide +kernel
theorem dX3_putIn_39 : decode cX3_putIn 39 = .ok (.ireturn, 1) := by decide +kernel
theorem dX3_putIn_40 : decode cX3_putIn 40 = .ok (.aload_n 0, 1) := by decide +kernel
theorem dX3_putIn_41 : decode cX3_putIn 41 = .ok (.getfield 21, 3) := by decide +kernel
theorem dX3_putIn_44 : decode cX3_putIn 44 = .ok (.iload_n 1, 1) := by decide +kernel
theorem dX3_putIn_45 : decode cX3_putIn 45 = .ok (.invokevirtual 107, 3) := by decide +kernel
theorem dX3_putIn_48 : decode cX3_putIn 48 = .ok (.aload_n 0, 1) := by decide +kernel
theorem dX3_putIn_49 : decode cX3_putIn 49 = .ok (.iload_n 2, 1) := by decide +kernel
theorem dX3_putIn_50 : decode cX3_putIn 50 = .ok (.invokevirtual 110, 3) := by decide +kernel
theorem dX3_putIn_53 : decode cX3_putIn 53 = .ok (.if_icmp .le 6, 3) := by decide +kernel
theorem dX3_putIn_56 : decode cX3_putIn 56 = .ok (.bipush (-5), 2) := by decide +kernel
theorem dX3_putIn_58 : decode cX3_putIn 58 = .ok (.ireturn, 1) := by decide +kernel
theorem dX3_putIn_59 : decode cX3_putIn 59 = .ok (.aload_n 0, 1) := by decide +kernel
theorem dX3_putIn_60 : decode cX3_putIn 60 = .ok (.iload_n 1, 1) := by decide +kernel
theorem dX3_putIn_61 : decode cX3_putIn 61 = .ok (.invokevirtual 113, 3) := by decide +kernel
theorem dX3_putIn_64 : decode cX3_putIn 64 = .ok (.ifCond .ne 6, 3) := by decide +kernel
theorem dX3_putIn_67 : decode cX3_putIn 67 = .ok (.bipush (-6), 2) := by decide +kernel
theorem dX3_putIn_69 : decode cX3_putIn 69 = .ok (.ireturn, 1) := by decide +kernel
theorem dX3_putIn_70 : decode cX3_putIn 70 = .ok (.aload_n 0, 1) := by decide +kernel
theorem dX3_putIn_71 : decode cX3_putIn 71 = .ok (.getfield 28, 3) := by decide +kernel
theorem dX3_putIn_74 : decode cX3_putIn 74 = .ok (.aload_n 0, 1) := by decide +kernel
theorem dX3_putIn_75 : decode cX3_putIn 75 = .ok (.getfield 21, 3) := by decide +kernel
theorem dX3_putIn_78 : decode cX3_putIn 78 = .ok (.iload_n 1, 1) := by decide +kernel
theorem dX3_putIn_79 : decode cX3_putIn 79 = .ok (.invokevirtual 52, 3) := by decide +kernel
theorem dX3_putIn_82 : decode cX3_putIn 82 = .ok (.invokevirtual 117, 3) := by decide +kernel
theorem dX3_putIn_85 : decode cX3_putIn 85 = .ok (.aload_n 0, 1) := by decide +kernel
theorem dX3_putIn_86 : decode cX3_putIn 86 = .ok (.getfield 21, 3) := by decide +kernel
theorem dX3_putIn_89 : decode cX3_putIn 89 = .ok (.iload_n 1, 1) := by decide +kernel
theorem dX3_putIn_90 : decode cX3_putIn 90 = .ok (.iload_n 2, 1) := by decide +kernel
theorem dX3_putIn_91 : decode cX3_putIn 91 = .ok (.invokevirtual 121, 3) := by decide +kernel
theorem dX3_putIn_94 : decode cX3_putIn 94 = .ok (.aload_n 0, 1) := by decide +kernel
theorem dX3_putIn_95 : decode cX3_putIn 95 = .ok (.getfield 21, 3) := by decide +kernel
theorem dX3_putIn_98 : decode cX3_putIn 98 = .ok (.iload_n 2, 1) := by decide +kernel
theorem dX3_putIn_99 : decode cX3_putIn 99 = .ok (.invokevirtual 62, 3) := by decide +kernel
theorem dX3_putIn_102 : decode cX3_putIn 102 = .ok (.ireturn, 1) := by decide +kernel
theorem dX3_pullOut_0 : decode cX3_pullOut 0 = .ok (.iload_n 1, 1) := by decide +kernel
theorem dX3_pullOut_1 : decode cX3_pullOut 1 = .ok (.aload_n 0, 1) := by decide +kernel
theorem dX3_pullOut_2 : decode cX3_pullOut 2 = .ok (.getfield 21, 3) := by decide +kernel
theorem dX3_pullOut_5 : decode cX3_pullOut 5 = .ok (.invokevirtual 100, 3) := by decide +kernel
theorem dX3_pullOut_8 : decode cX3_pullOut 8 = .ok (.invokestatic 72, 3) := by decide +kernel
theorem dX3_pullOut_11 : decode cX3_pullOut 11 = .ok (.ifCond .ne 6, 3) := by decide +kernel
theorem dX3_pullOut_14 : decode cX3_pullOut 14 = .ok (.bipush (-2), 2) := by decide +kernel
theorem dX3_pullOut_16 : decode cX3_pullOut 16 = .ok (.ireturn, 1) := by decide +kernel
theorem dX3_pullOut_17 : decode cX3_pullOut 17 = .ok (.aload_n 0, 1) := by decide +kernel
theorem dX3_pullOut_18 : decode cX3_pullOut 18 = .ok (.getfield 21, 3) := by decide +kernel
theorem dX3_pullOut_21 : decode cX3_pullOut 21 = .ok (.iload_n 1, 1) := by decide +kernel
theorem dX3_pullOut_22 : decode cX3_pullOut 22 = .ok (.invokevirtual 104, 3) := by decide +kernel
theorem dX3_pullOut_25 : decode cX3_pullOut 25 = .ok (.istore_n 2, 1) := by decide +kernel
theorem dX3_pullOut_26 : decode cX3_pullOut 26 = .ok (.iload_n 2, 1) := by decide +kernel
theorem dX3_pullOut_27 : decode cX3_pullOut 27 = .ok (.iconst 3, 1) := by decide +kernel
theorem dX3_pullOut_28 : decode cX3_pullOut 28 = .ok (.invokestatic 72, 3) := by decide +kernel
theorem dX3_pullOut_31 : decode cX3_pullOut 31 = .ok (.ifCond .ne 6, 3) := by decide +kernel
theorem dX3_pullOut_34 : decode cX3_pullOut 34 = .ok (.bipush (-4), 2) := by decide +kernel
theorem dX3_pullOut_36 : decode cX3_pullOut 36 = .ok (.ireturn, 1) := by decide +kernel
theorem dX3_pullOut_37 : decode cX3_pullOut 37 = .ok (.aload_n 0, 1) := by decide +kernel
theorem dX3_pullOut_38 : decode cX3_pullOut 38 = .ok (.iload_n 1, 1) := by decide +kernel
theorem dX3_pullOut_39 : decode cX3_pullOut 39 = .ok (.invokevirtual 113, 3) := by decide +kernel
theorem dX3_pullOut_42 : decode cX3_pullOut 42 = .ok (.ifCond .ne 6, 3) := by decide +kernel
theorem dX3_pullOut_45 : decode cX3_pullOut 45 = .ok (.bipush (-6), 2) := by decide +kernel
theorem dX3_pullOut_47 : decode cX3_pullOut 47 = .ok (.ireturn, 1) := by decide +kernel
theorem dX3_pullOut_48 : decode cX3_pullOut 48 = .ok (.aload_n 0, 1) := by decide +kernel
theorem dX3_pullOut_49 : decode cX3_pullOut 49 = .ok (.getfield 28, 3) := by decide +kernel
theorem dX3_pullOut_52 : decode cX3_pullOut 52 = .ok (.aload_n 0, 1) := by decide +kernel
theorem dX3_pullOut_53 : decode cX3_pullOut 53 = .ok (.getfield 21, 3) := by decide +kernel
theorem dX3_pullOut_56 : decode cX3_pullOut 56 = .ok (.iload_n 1, 1) := by decide +kernel
theorem dX3_pullOut_57 : decode cX3_pullOut 57 = .ok (.invokevirtual 52, 3) := by decide +kernel
theorem dX3_pullOut_60 : decode cX3_pullOut 60 = .ok (.invokevirtual 117, 3) := by decide +kernel
theorem dX3_pullOut_63 : decode cX3_pullOut 63 = .ok (.aload_n 0, 1) := by decide +kernel
theorem dX3_pullOut_64 : decode cX3_pullOut 64 = .ok (.getfield 21, 3) := by decide +kernel
theorem dX3_pullOut_67 : decode cX3_pullOut 67 = .ok (.iload_n 1, 1) := by decide +kernel
theorem dX3_pullOut_68 : decode cX3_pullOut 68 = .ok (.iconst (-1), 1) := by decide +kernel
theorem dX3_pullOut_69 : decode cX3_pullOut 69 = .ok (.invokevirtual 121, 3) := by decide +kernel
theorem dX3_pullOut_72 : decode cX3_pullOut 72 = .ok (.iload_n 2, 1) := by decide +kernel
theorem dX3_pullOut_73 : decode cX3_pullOut 73 = .ok (.ireturn, 1) := by decide +kernel
theorem dX3_bring_0 : decode cX3_bring 0 = .ok (.iload_n 1, 1) := by decide +kernel
theorem dX3_bring_1 : decode cX3_bring 1 = .ok (.iconst 3, 1) := by decide +kernel
theorem dX3_bring_2 : decode cX3_bring 2 = .ok (.invokestatic 72, 3) := by decide +kernel
theorem dX3_bring_5 : decode cX3_bring 5 = .ok (.ifCond .eq 12, 3) := by decide +kernel
theorem dX3_bring_8 : decode cX3_bring 8 = .ok (.iload_n 2, 1) := by decide +kernel
theorem dX3_bring_9 : decode cX3_bring 9 = .ok (.bipush 6, 2) := by decide +kernel
theorem dX3_bring_11 : decode cX3_bring 11 = .ok (.invokestatic 72, 3) := by decide +kernel
theorem dX3_bring_14 : decode cX3_bring 14 = .ok (.ifCond .ne 6, 3) := by decide +kernel
theorem dX3_bring_17 : decode cX3_bring 17 = .ok (.bipush (-2), 2) := by decide +kernel
theorem dX3_bring_19 : decode cX3_bring 19 = .ok (.ireturn, 1) := by decide +kernel
theorem dX3_bring_20 : decode cX3_bring 20 = .ok (.aload_n 0, 1) := by decide +kernel
theorem dX3_bring_21 : decode cX3_bring 21 = .ok (.getfield 35, 3) := by decide +kernel
theorem dX3_bring_24 : decode cX3_bring 24 = .ok (.iload_n 1, 1) := by decide +kernel
theorem dX3_bring_25 : decode cX3_bring 25 = .ok (.invokevirtual 65, 3) := by decide +kernel
theorem dX3_bring_28 : decode cX3_bring 28 = .ok (.iload_n 2, 1) := by decide +kernel
theorem dX3_bring_29 : decode cX3_bring 29 = .ok (.if_icmp .ne 6, 3) := by decide +kernel
theorem dX3_bring_32 : decode cX3_bring 32 = .ok (.bipush (-3), 2) := by decide +kernel
theorem dX3_bring_34 : decode cX3_bring 34 = .ok (.ireturn, 1) := by decide +kernel
theorem dX3_bring_35 : decode cX3_bring 35 = .ok (.aload_n 0, 1) := by decide +kernel
theorem dX3_bring_36 : decode cX3_bring 36 = .ok (.getfield 12, 3) := by decide +kernel
theorem dX3_bring_39 : decode cX3_bring 39 = .ok (.aload_n 0, 1) := by decide +kernel
theorem dX3_bring_40 : decode cX3_bring 40 = .ok (.getfield 35, 3) := by decide +kernel
theorem dX3_bring_43 : decode cX3_bring 43 = .ok (.iload_n 1, 1) := by decide +kernel
theorem dX3_bring_44 : decode cX3_bring 44 = .ok (.invokevirtual 65, 3) := by decide +kernel
theorem dX3_bring_47 : decode cX3_bring 47 = .ok (.iload_n 2, 1) := by decide +kernel
theorem dX3_bring_48 : decode cX3_bring 48 = .ok (.invokevirtual 68, 3) := by decide +kernel
theorem dX3_bring_51 : decode cX3_bring 51 = .ok (.istore_n 3, 1) := by decide +kernel
theorem dX3_bring_52 : decode cX3_bring 52 = .ok (.iload_n 3, 1) := by decide +kernel
theorem dX3_bring_53 : decode cX3_bring 53 = .ok (.iconst (-1), 1) := by decide +kernel
theorem dX3_bring_54 : decode cX3_bring 54 = .ok (.if_icmp .ne 6, 3) := by decide +kernel
theorem dX3_bring_57 : decode cX3_bring 57 = .ok (.bipush (-6), 2) := by decide +kernel
theorem dX3_bring_59 : decode cX3_bring 59 = .ok (.ireturn, 1) := by decide +kernel
theorem dX3_bring_60 : decode cX3_bring 60 = .ok (.aload_n 0, 1) := by decide +kernel
theorem dX3_bring_61 : decode cX3_bring 61 = .ok (.getfield 35, 3) := by decide +kernel
theorem dX3_bring_64 : decode cX3_bring 64 = .ok (.iload_n 1, 1) := by decide +kernel
theorem dX3_bring_65 : decode cX3_bring 65 = .ok (.iload_n 2, 1) := by decide +kernel
theorem dX3_bring_66 : decode cX3_bring 66 = .ok (.iload_n 3, 1) := by decide +kernel
theorem dX3_bring_67 : decode cX3_bring 67 = .ok (.aload_n 0, 1) := by decide +kernel
theorem dX3_bring_68 : decode cX3_bring 68 = .ok (.getfield 21, 3) := by decide +kernel
theorem dX3_bring_71 : decode cX3_bring 71 = .ok (.iload_n 1, 1) := by decide +kernel
theorem dX3_bring_72 : decode cX3_bring 72 = .ok (.invokevirtual 62, 3) := by decide +kernel
theorem dX3_bring_75 : decode cX3_bring 75 = .ok (.imul, 1) := by decide +kernel
theorem dX3_bring_76 : decode cX3_bring 76 = .ok (.invokevirtual 125, 3) := by decide +kernel
theorem dX3_bring_79 : decode cX3_bring 79 = .ok (.aload_n 0, 1) := by decide +kernel
theorem dX3_bring_80 : decode cX3_bring 80 = .ok (.getfield 21, 3) := by decide +kernel
theorem dX3_bring_83 : decode cX3_bring 83 = .ok (.iload_n 1, 1) := by decide +kernel
theorem dX3_bring_84 : decode cX3_bring 84 = .ok (.iload_n 2, 1) := by decide +kernel
theorem dX3_bring_85 : decode cX3_bring 85 = .ok (.invokevirtual 128, 3) := by decide +kernel
theorem dX3_bring_88 : decode cX3_bring 88 = .ok (.ireturn, 1) := by decide +kernel
theorem dX3_takeBack_0 : decode cX3_takeBack 0 = .ok (.iload_n 1, 1) := by decide +kernel
theorem dX3_takeBack_1 : decode cX3_takeBack 1 = .ok (.aload_n 0, 1) := by decide +kernel
theorem dX3_takeBack_2 : decode cX3_takeBack 2 = .ok (.getfield 21, 3) := by decide +kernel
theorem dX3_takeBack_5 : decode cX3_takeBack 5 = .ok (.invokevirtual 100, 3) := by decide +kernel
theorem dX3_takeBack_8 : decode cX3_takeBack 8 = .ok (.invokestatic 72, 3) := by decide +kernel
theorem dX3_takeBack_11 : decode cX3_takeBack 11 = .ok (.ifCond .ne 6, 3) := by decide +kernel
theorem dX3_takeBack_14 : decode cX3_takeBack 14 = .ok (.bipush (-2), 2) := by decide +kernel
theorem dX3_takeBack_16 : decode cX3_takeBack 16 = .ok (.ireturn, 1) := by decide +kernel
theorem dX3_takeBack_17 : decode cX3_takeBack 17 = .ok (.aload_n 0, 1) := by decide +kernel
theorem dX3_takeBack_18 : decode cX3_takeBack 18 = .ok (.getfield 21, 3) := by decide +kernel
theorem dX3_takeBack_21 : decode cX3_takeBack 21 = .ok (.iload_n 1, 1) := by decide +kernel
theorem dX3_takeBack_22 : decode cX3_takeBack 22 = .ok (.invokevirtual 104, 3) := by decide +kernel
theorem dX3_takeBack_25 : decode cX3_takeBack 25 = .ok (.bipush (-2), 2) := by decide +kernel
theorem dX3_takeBack_27 : decode cX3_takeBack 27 = .ok (.if_icmp .ne 14, 3) := by decide +kernel
theorem dX3_takeBack_30 : decode cX3_takeBack 30 = .ok (.aload_n 0, 1) := by decide +kernel
theorem dX3_takeBack_31 : decode cX3_takeBack 31 = .ok (.getfield 21, 3) := by decide +kernel
theorem dX3_takeBack_34 : decode cX3_takeBack 34 = .ok (.iload_n 1, 1) := by decide +kernel
theorem dX3_takeBack_35 : decode cX3_takeBack 35 = .ok (.invokevirtual 131, 3) := by decide +kernel
theorem dX3_takeBack_38 : decode cX3_takeBack 38 = .ok (.goto 5, 3) := by decide +kernel
theorem dX3_takeBack_41 : decode cX3_takeBack 41 = .ok (.bipush (-4), 2) := by decide +kernel
theorem dX3_takeBack_43 : decode cX3_takeBack 43 = .ok (.ireturn, 1) := by decide +kernel
theorem dX4_init_0 : decode cX4_init 0 = .ok (.aload_n 0, 1) := by decide +kernel
theorem dX4_init_1 : decode cX4_init 1 = .ok (.invokespecial 3, 3) := by decide +kernel
theorem dX4_init_4 : decode cX4_init 4 = .ok (.aload_n 0, 1) := by decide +kernel
theorem dX4_init_5 : decode cX4_init 5 = .ok (.iconst 4, 1) := by decide +kernel
theorem dX4_init_6 : decode cX4_init 6 = .ok (.newarray .int, 2) := by decide +kernel
theorem dX4_init_8 : decode cX4_init 8 = .ok (.putfield 9, 3) := by decide +kernel
theorem dX4_init_11 : decode cX4_init 11 = .ok (.aload_n 0, 1) := by decide +kernel
theorem dX4_init_12 : decode cX4_init 12 = .ok (.bipush 61, 2) := by decide +kernel
theorem dX4_init_14 : decode cX4_init 14 = .ok (.newarray .int, 2) := by decide +kernel
theorem dX4_init_16 : decode cX4_init 16 = .ok (.putfield 15, 3) := by decide +kernel
theorem dX4_init_19 : decode cX4_init 19 = .ok (.return_, 1) := by decide +kernel
theorem dX4_handledGreedily_0 : decode cX4_handledGreedily 0 = .ok (.iconst 1, 1) := by decide +kernel
theorem dX4_handledGreedily_1 : decode cX4_handledGreedily 1 = .ok (.istore_n 2, 1) := by decide +kernel
theorem dX4_handledGreedily_2 : decode cX4_handledGreedily 2 = .ok (.iload_n 2, 1) := by decide +kernel
theorem dX4_handledGreedily_3 : decode cX4_handledGreedily 3 = .ok (.iconst 3, 1) := by decide +kernel
theorem dX4_handledGreedily_4 : decode cX4_handledGreedily 4 = .ok (.if_icmp .gt 23, 3) := by decide +kernel
theorem dX4_handledGreedily_7 : decode cX4_handledGreedily 7 = .ok (.aload_n 0, 1) := by decide +kernel
theorem dX4_handledGreedily_8 : decode cX4_handledGreedily 8 = .ok (.getfield 9, 3) := by decide +kernel
theorem dX4_handledGreedily_11 : decode cX4_handledGreedily 11 = .ok (.iload_n 2, 1) := by decide +kernel
theorem dX4_handledGreedily_12 : decode cX4_handledGreedily 12 = .ok (.aload_n 1, 1) := by decide +kernel
theorem dX4_handledGreedily_13 : decode cX4_handledGreedily 13 = .ok (.getfield 18, 3) := by decide +kernel
theorem dX4_handledGreedily_16 : decode cX4_handledGreedily 16 = .ok (.iload_n 2, 1) := by decide +kernel
theorem dX4_handledGreedily_17 : decode cX4_handledGreedily 17 = .ok (.invokevirtual 24, 3) := by decide +kernel
theorem dX4_handledGreedily_20 : decode cX4_handledGreedily 20 = .ok (.iastore, 1) := by decide +kernel
theorem dX4_handledGreedily_21 : decode cX4_handledGreedily 21 = .ok (.iinc 2 1, 3) := by decide +kernel
theorem dX4_handledGreedily_24 : decode cX4_handledGreedily 24 = .ok (.goto (-22), 3) := by decide +kernel
theorem dX4_handledGreedily_27 : decode cX4_handledGreedily 27 = .ok (.aload_n 1, 1) := by decide +kernel
theorem dX4_handledGreedily_28 : decode cX4_handledGreedily 28 = .ok (.getfield 30, 3) := by decide +kernel
theorem dX4_handledGreedily_31 : decode cX4_handledGreedily 31 = .ok (.iconst 0, 1) := by decide +kernel
theorem dX4_handledGreedily_32 : decode cX4_handledGreedily 32 = .ok (.invokevirtual 34, 3) := by decide +kernel
theorem dX4_handledGreedily_35 : decode cX4_handledGreedily 35 = .ok (.istore_n 2, 1) := by decide +kernel
theorem dX4_handledGreedily_36 : decode cX4_handledGreedily 36 = .ok (.iconst 1, 1) := by decide +kernel
theorem dX4_handledGreedily_37 : decode cX4_handledGreedily 37 = .ok (.istore_n 3, 1) := by decide +kernel
theorem dX4_handledGreedily_38 : decode cX4_handledGreedily 38 = .ok (.iload_n 3, 1) := by decide +kernel
theorem dX4_handledGreedily_39 : decode cX4_handledGreedily 39 = .ok (.iconst 3, 1) := by decide +kernel
theorem dX4_handledGreedily_40 : decode cX4_handledGreedily 40 = .ok (.if_icmp .gt 25, 3) := by decide +kernel
theorem dX4_handledGreedily_43 : decode cX4_handledGreedily 43 = .ok (.iload_n 2, 1) := by decide +kernel
theorem dX4_handledGreedily_44 : decode cX4_handledGreedily 44 = .ok (.aload_n 0, 1) := by decide +kernel
theorem dX4_handledGreedily_45 : decode cX4_handledGreedily 45 = .ok (.iload_n 3, 1) := by decide +kernel
theorem dX4_handledGreedily_46 : decode cX4_handledGreedily 46 = .ok (.aload_n 1, 1) := by decide +kernel
theorem dX4_handledGreedily_47 : decode cX4_handledGreedily 47 = .ok (.getfield 30, 3) := by decide +kernel
theorem dX4_handledGreedily_50 : decode cX4_handledGreedily 50 = .ok (.iload_n 3, 1) := by decide +kernel
theorem dX4_handledGreedily_51 : decode cX4_handledGreedily 51 = .ok (.invokevirtual 34, 3) := by decide +kernel
theorem dX4_handledGreedily_54 : decode cX4_handledGreedily 54 = .ok (.invokevirtual 39, 3) := by decide +kernel
theorem dX4_handledGreedily_57 : decode cX4_handledGreedily 57 = .ok (.iadd, 1) := by decide +kernel
theorem dX4_handledGreedily_58 : decode cX4_handledGreedily 58 = .ok (.istore_n 2, 1) := by decide +kernel
theorem dX4_handledGreedily_59 : decode cX4_handledGreedily 59 = .ok (.iinc 3 1, 3) := by decide +kernel
theorem dX4_handledGreedily_62 : decode cX4_handledGreedily 62 = .ok (.goto (-24), 3) := by decide +kernel
theorem dX4_handledGreedily_65 : decode cX4_handledGreedily 65 = .ok (.iload_n 2, 1) := by decide +kernel
theorem dX4_handledGreedily_66 : decode cX4_handledGreedily 66 = .ok (.ireturn, 1) := by decide +kernel
theorem dX4_handledOf_0 : decode cX4_handledOf 0 = .ok (.iload_n 2, 1) := by decide +kernel
theorem dX4_handledOf_1 : decode cX4_handledOf 1 = .ok (.istore_n 3, 1) := by decide +kernel
theorem dX4_handledOf_2 : decode cX4_handledOf 2 = .ok (.iload_n 1, 1) := by decide +kernel
theorem dX4_handledOf_3 : decode cX4_handledOf 3 = .ok (.istore 4, 2) := by decide +kernel
theorem dX4_handledOf_5 : decode cX4_handledOf 5 = .ok (.iload 4, 2) := by decide +kernel
theorem dX4_handledOf_7 : decode cX4_handledOf 7 = .ok (.iconst 3, 1) := by decide +kernel
theorem dX4_handledOf_8 : decode cX4_handledOf 8 = .ok (.if_icmp .gt 39, 3) := by decide +kernel
theorem dX4_handledOf_11 : decode cX4_handledOf 11 = .ok (.iload_n 3, 1) := by decide +kernel
theorem dX4_handledOf_12 : decode cX4_handledOf 12 = .ok (.aload_n 0, 1) := by decide +kernel
theorem dX4_handledOf_13 : decode cX4_handledOf 13 = .ok (.getfield 9, 3) := by decide +kernel
theorem dX4_handledOf_16 : decode cX4_handledOf 16 = .ok (.iload 4, 2) := by decide +kernel
theorem dX4_handledOf_18 : decode cX4_handledOf 18 = .ok (.iaload, 1) := by decide +kernel
theorem dX4_handledOf_19 : decode cX4_handledOf 19 = .ok (.invokestatic 43, 3) := by decide +kernel
theorem dX4_handledOf_22 : decode cX4_handledOf 22 = .ok (.istore 5, 2) := by decide +kernel
theorem dX4_handledOf_24 : decode cX4_handledOf 24 = .ok (.aload_n 0, 1) := by decide +kernel
theorem dX4_handledOf_25 : decode cX4_handledOf 25 = .ok (.getfield 9, 3) := by decide +kernel
theorem dX4_handledOf_28 : decode cX4_handledOf 28 = .ok (.iload 4, 2) := by decide +kernel
theorem dX4_handledOf_30 : decode cX4_handledOf 30 = .ok (.dup2, 1) := by decide +kernel
theorem dX4_handledOf_31 : decode cX4_handledOf 31 = .ok (.iaload, 1) := by decide +kernel
theorem dX4_handledOf_32 : decode cX4_handledOf 32 = .ok (.iload 5, 2) := by decide +kernel
theorem dX4_handledOf_34 : decode cX4_handledOf 34 = .ok (.isub, 1) := by decide +kernel
theorem dX4_handledOf_35 : decode cX4_handledOf 35 = .ok (.iastore, 1) := by decide +kernel
theorem dX4_handledOf_36 : decode cX4_handledOf 36 = .ok (.iload_n 3, 1) := by decide +kernel
theorem dX4_handledOf_37 : decode cX4_handledOf 37 = .ok (.iload 5, 2) := by decide +kernel
theorem dX4_handledOf_39 : decode cX4_handledOf 39 = .ok (.isub, 1) := by decide +kernel
theorem dX4_handledOf_40 : decode cX4_handledOf 40 = .ok (.istore_n 3, 1) := by decide +kernel
theorem dX4_handledOf_41 : decode cX4_handledOf 41 = .ok (.iinc 4 1, 3) := by decide +kernel
theorem dX4_handledOf_44 : decode cX4_handledOf 44 = .ok (.goto (-39), 3) := by decide +kernel
theorem dX4_handledOf_47 : decode cX4_handledOf 47 = .ok (.iload_n 2, 1) := by decide +kernel
theorem dX4_handledOf_48 : decode cX4_handledOf 48 = .ok (.iload_n 3, 1) := by decide +kernel
theorem dX4_handledOf_49 : decode cX4_handledOf 49 = .ok (.isub, 1) := by decide +kernel
theorem dX4_handledOf_50 : decode cX4_handledOf 50 = .ok (.ireturn, 1) := by decide +kernel
theorem dX4_handledByShortage_0 : decode cX4_handledByShortage 0 = .ok (.iconst 0, 1) := by decide +kernel
theorem dX4_handledByShortage_1 : decode cX4_handledByShortage 1 = .ok (.istore_n 2, 1) := by decide +kernel
theorem dX4_handledByShortage_2 : decode cX4_handledByShortage 2 = .ok (.iconst 0, 1) := by decide +kernel
theorem dX4_handledByShortage_3 : decode cX4_handledByShortage 3 = .ok (.istore_n 3, 1) := by decide +kernel
theorem dX4_handledByShortage_4 : decode cX4_handledByShortage 4 = .ok (.iconst 3, 1) := by decide +kernel
theorem dX4_handledByShortage_5 : decode cX4_handledByShortage 5 = .ok (.istore 4, 2) := by decide +kernel
theorem dX4_handledByShortage_7 : decode cX4_handledByShortage 7 = .ok (.iload 4, 2) := by decide +kernel
theorem dX4_handledByShortage_9 : decode cX4_handledByShortage 9 = .ok (.iconst 1, 1) := by decide +kernel
theorem dX4_handledByShortage_10 : decode cX4_handledByShortage 10 = .ok (.if_icmp .lt 37, 3) := by decide +kernel
theorem dX4_handledByShortage_13 : decode cX4_handledByShortage 13 = .ok (.iload_n 2, 1) := by decide +kernel
theorem dX4_handledByShortage_14 : decode cX4_handledByShortage 14 = .ok (.aload_n 1, 1) := by decide +kernel
theorem dX4_handledByShortage_15 : decode cX4_handledByShortage 15 = .ok (.getfield 30, 3) := by decide +kernel
theorem dX4_handledByShortage_18 : decode cX4_handledByShortage 18 = .ok (.iload 4, 2) := by decide +kernel
theorem dX4_handledByShortage_20 : decode cX4_handledByShortage 20 = .ok (.invokevirtual 34, 3) := by decide +kernel
theorem dX4_handledByShortage_23 : decode cX4_handledByShortage 23 = .ok (.aload_n 1, 1) := by decide +kernel
theorem dX4_handledByShortage_24 : decode cX4_handledByShortage 24 = .ok (.getfield 18, 3) := by decide +kernel
theorem dX4_handledByShortage_27 : decode cX4_handledByShortage 27 = .ok (.iload 4, 2) := by decide +kernel
theorem dX4_handledByShortage_29 : decode cX4_handledByShortage 29 = .ok (.invokevirtual 24, 3) := by decide +kernel
theorem dX4_handledByShortage_32 : decode cX4_handledByShortage 32 = .ok (.isub, 1) := by decide +kernel
theorem dX4_handledByShortage_33 : decode cX4_handledByShortage 33 = .ok (.iadd, 1) := by decide +kernel
theorem dX4_handledByShortage_34 : decode cX4_handledByShortage 34 = .ok (.istore_n 2, 1) := by decide +kernel
theorem dX4_handledByShortage_35 : decode cX4_handledByShortage 35 = .ok (.iload_n 3, 1) := by decide +kernel
theorem dX4_handledByShortage_36 : decode cX4_handledByShortage 36 = .ok (.iload_n 2, 1) := by decide +kernel
theorem dX4_handledByShortage_37 : decode cX4_handledByShortage 37 = .ok (.invokestatic 48, 3) := by decide +kernel
theorem dX4_handledByShortage_40 : decode cX4_handledByShortage 40 = .ok (.istore_n 3, 1) := by decide +kernel
theorem dX4_handledByShortage_41 : decode cX4_handledByShortage 41 = .ok (.iinc 4 (-1), 3) := by decide +kernel
theorem dX4_handledByShortage_44 : decode cX4_handledByShortage 44 = .ok (.goto (-37), 3) := by decide +kernel
theorem dX4_handledByShortage_47 : decode cX4_handledByShortage 47 = .ok (.aload_n 1, 1) := by decide +kernel
theorem dX4_handledByShortage_48 : decode cX4_handledByShortage 48 = .ok (.getfield 30, 3) := by decide +kernel
theorem dX4_handledByShortage_51 : decode cX4_handledByShortage 51 = .ok (.iconst (-1), 1) := by decide +kernel
theorem dX4_handledByShortage_52 : decode cX4_handledByShortage 52 = .ok (.invokevirtual 51, 3) := by decide +kernel
theorem dX4_handledByShortage_55 : decode cX4_handledByShortage 55 = .ok (.iload_n 3, 1) := by decide +kernel
theorem dX4_handledByShortage_56 : decode cX4_handledByShortage 56 = .ok (.isub, 1) := by decide +kernel
theorem dX4_handledByShortage_57 : decode cX4_handledByShortage 57 = .ok (.ireturn, 1) := by decide +kernel
theorem dX4_fittingGreedily_0 : decode cX4_fittingGreedily 0 = .ok (.aload_n 1, 1) := by decide +kernel
theorem dX4_fittingGreedily_1 : decode cX4_fittingGreedily 1 = .ok (.iload_n 2, 1) := by decide +kernel
theorem dX4_fittingGreedily_2 : decode cX4_fittingGreedily 2 = .ok (.invokevirtual 54, 3) := by decide +kernel
theorem dX4_fittingGreedily_5 : decode cX4_fittingGreedily 5 = .ok (.istore_n 3, 1) := by decide +kernel
theorem dX4_fittingGreedily_6 : decode cX4_fittingGreedily 6 = .ok (.iconst 0, 1) := by decide +kernel
theorem dX4_fittingGreedily_7 : decode cX4_fittingGreedily 7 = .ok (.istore 4, 2) := by decide +kernel
theorem dX4_fittingGreedily_9 : decode cX4_fittingGreedily 9 = .ok (.iconst 1, 1) := by decide +kernel
theorem dX4_fittingGreedily_10 : decode cX4_fittingGreedily 10 = .ok (.istore 5, 2) := by decide +kernel
theorem dX4_fittingGreedily_12 : decode cX4_fittingGreedily 12 = .ok (.iload 5, 2) := by decide +kernel
theorem dX4_fittingGreedily_14 : decode cX4_fittingGreedily 14 = .ok (.bipush 20, 2) := by decide +kernel
theorem dX4_fittingGreedily_16 : decode cX4_fittingGreedily 16 = .ok (.if_icmp .gt 42, 3) := by decide +kernel
theorem dX4_fittingGreedily_19 : decode cX4_fittingGreedily 19 = .ok (.aload_n 1, 1) := by decide +kernel
theorem dX4_fittingGreedily_20 : decode cX4_fittingGreedily 20 = .ok (.getfield 30, 3) := by decide +kernel
theorem dX4_fittingGreedily_23 : decode cX4_fittingGreedily 23 = .ok (.iload 5, 2) := by decide +kernel
theorem dX4_fittingGreedily_25 : decode cX4_fittingGreedily 25 = .ok (.invokevirtual 57, 3) := by decide +kernel
theorem dX4_fittingGreedily_28 : decode cX4_fittingGreedily 28 = .ok (.iload_n 3, 1) := by decide +kernel
theorem dX4_fittingGreedily_29 : decode cX4_fittingGreedily 29 = .ok (.iload 5, 2) := by decide +kernel
theorem dX4_fittingGreedily_31 : decode cX4_fittingGreedily 31 = .ok (.idiv, 1) := by decide +kernel
theorem dX4_fittingGreedily_32 : decode cX4_fittingGreedily 32 = .ok (.invokestatic 43, 3) := by decide +kernel
theorem dX4_fittingGreedily_35 : decode cX4_fittingGreedily 35 = .ok (.istore 6, 2) := by decide +kernel
theorem dX4_fittingGreedily_37 : decode cX4_fittingGreedily 37 = .ok (.iload 4, 2) := by decide +kernel
theorem dX4_fittingGreedily_39 : decode cX4_fittingGreedily 39 = .ok (.iload 6, 2) := by decide +kernel
theorem dX4_fittingGreedily_41 : decode cX4_fittingGreedily 41 = .ok (.iadd, 1) := by decide +kernel
theorem dX4_fittingGreedily_42 : decode cX4_fittingGreedily 42 = .ok (.istore 4, 2) := by decide +kernel
theorem dX4_fittingGreedily_44 : decode cX4_fittingGreedily 44 = .ok (.iload_n 3, 1) := by decide +kernel
theorem dX4_fittingGreedily_45 : decode cX4_fittingGreedily 45 = .ok (.iload 6, 2) := by decide +kernel
theorem dX4_fittingGreedily_47 : decode cX4_fittingGreedily 47 = .ok (.iload 5, 2) := by decide +kernel
theorem dX4_fittingGreedily_49 : decode cX4_fittingGreedily 49 = .ok (.imul, 1) := by decide +kernel
theorem dX4_fittingGreedily_50 : decode cX4_fittingGreedily 50 = .ok (.isub, 1) := by decide +kernel
theorem dX4_fittingGreedily_51 : decode cX4_fittingGreedily 51 = .ok (.istore_n 3, 1) := by decide +kernel
theorem dX4_fittingGreedily_52 : decode cX4_fittingGreedily 52 = .ok (.iinc 5 1, 3) := by decide +kernel
theorem dX4_fittingGreedily_55 : decode cX4_fittingGreedily 55 = .ok (.goto (-43), 3) := by decide +kernel
theorem dX4_fittingGreedily_58 : decode cX4_fittingGreedily 58 = .ok (.iload 4, 2) := by decide +kernel
theorem dX4_fittingGreedily_60 : decode cX4_fittingGreedily 60 = .ok (.ireturn, 1) := by decide +kernel
theorem dX4_fittingByTable_0 : decode cX4_fittingByTable 0 = .ok (.aload_n 1, 1) := by decide +kernel
theorem dX4_fittingByTable_1 : decode cX4_fittingByTable 1 = .ok (.iload_n 2, 1) := by decide +kernel
theorem dX4_fittingByTable_2 : decode cX4_fittingByTable 2 = .ok (.invokevirtual 54, 3) := by decide +kernel
theorem dX4_fittingByTable_5 : decode cX4_fittingByTable 5 = .ok (.istore_n 3, 1) := by decide +kernel
theorem dX4_fittingByTable_6 : decode cX4_fittingByTable 6 = .ok (.iload_n 3, 1) := by decide +kernel
theorem dX4_fittingByTable_7 : decode cX4_fittingByTable 7 = .ok (.aload_n 0, 1) := by decide +kernel
theorem dX4_fittingByTable_8 : decode cX4_fittingByTable 8 = .ok (.getfield 15, 3) := by decide +kernel
theorem dX4_fittingByTable_11 : decode cX4_fittingByTable 11 = .ok (.arraylength, 1) := by decide +kernel
theorem dX4_fittingByTable_12 : decode cX4_fittingByTable 12 = .ok (.invokestatic 60, 3) := by decide +kernel
theorem dX4_fittingByTable_15 : decode cX4_fittingByTable 15 = .ok (.ifCond .ne 5, 3) := by decide +kernel
theorem dX4_fittingByTable_18 : decode cX4_fittingByTable 18 = .ok (.iconst 0, 1) := by decide +kernel
theorem dX4_fittingByTable_19 : decode cX4_fittingByTable 19 = .ok (.ireturn, 1) := by decide +kernel
theorem dX4_fittingByTable_20 : decode cX4_fittingByTable 20 = .ok (.iconst 0, 1) := by decide +kernel
theorem dX4_fittingByTable_21 : decode cX4_fittingByTable 21 = .ok (.istore 4, 2) := by decide +kernel
theorem dX4_fittingByTable_23 : decode cX4_fittingByTable 23 = .ok (.iload 4, 2) := by decide +kernel
theorem dX4_fittingByTable_25 : decode cX4_fittingByTable 25 = .ok (.iload_n 3, 1) := by decide +kernel
theorem dX4_fittingByTable_26 : decode cX4_fittingByTable 26 = .ok (.if_icmp .gt 17, 3) := by decide +kernel
theorem dX4_fittingByTable_29 : decode cX4_fittingByTable 29 = .ok (.aload_n 0, 1) := by decide +kernel
theorem dX4_fittingByTable_30 : decode cX4_fittingByTable 30 = .ok (.getfield 15, 3) := by decide +kernel
theorem dX4_fittingByTable_33 : decode cX4_fittingByTable 33 = .ok (.iload 4, 2) := by decide +kernel
theorem dX4_fittingByTable_35 : decode cX4_fittingByTable 35 = .ok (.iconst 0, 1) := by decide +kernel
theorem dX4_fittingByTable_36 : decode cX4_fittingByTable 36 = .ok (.iastore, 1) := by decide +kernel
theorem dX4_fittingByTable_37 : decode cX4_fittingByTable 37 = .ok (.iinc 4 1, 3) := by decide +kernel
theorem dX4_fittingByTable_40 : decode cX4_fittingByTable 40 = .ok (.goto (-17), 3) := by decide +kernel
theorem dX4_fittingByTable_43 : decode cX4_fittingByTable 43 = .ok (.iconst 0, 1) := by decide +kernel
theorem dX4_fittingByTable_44 : decode cX4_fittingByTable 44 = .ok (.istore 4, 2) := by decide +kernel
theorem dX4_fittingByTable_46 : decode cX4_fittingByTable 46 = .ok (.iload 4, 2) := by decide +kernel
theorem dX4_fittingByTable_48 : decode cX4_fittingByTable 48 = .ok (.aload_n 1, 1) := by decide +kernel
theorem dX4_fittingByTable_49 : decode cX4_fittingByTable 49 = .ok (.getfield 30, 3) := by decide +kernel
theorem dX4_fittingByTable_52 : decode cX4_fittingByTable 52 = .ok (.invokevirtual 64, 3) := by decide +kernel
theorem dX4_fittingByTable_55 : decode cX4_fittingByTable 55 = .ok (.if_icmp .ge 36, 3) := by decide +kernel
theorem dX4_fittingByTable_58 : decode cX4_fittingByTable 58 = .ok (.aload_n 1, 1) := by decide +kernel
theorem dX4_fittingByTable_59 : decode cX4_fittingByTable 59 = .ok (.getfield 30, 3) := by decide +kernel
theorem dX4_fittingByTable_62 : decode cX4_fittingByTable 62 = .ok (.iload 4, 2) := by decide +kernel
theorem dX4_fittingByTable_64 : decode cX4_fittingByTable 64 = .ok (.invokevirtual 68, 3) := by decide +kernel
theorem dX4_fittingByTable_67 : decode cX4_fittingByTable 67 = .ok (.iconst (-1), 1) := by decide +kernel
theorem dX4_fittingByTable_68 : decode cX4_fittingByTable 68 = .ok (.if_icmp .ne 17, 3) := by decide +kernel
theorem dX4_fittingByTable_71 : decode cX4_fittingByTable 71 = .ok (.aload_n 0, 1) := by decide +kernel
theorem dX4_fittingByTable_72 : decode cX4_fittingByTable 72 = .ok (.aload_n 1, 1) := by decide +kernel
theorem dX4_fittingByTable_73 : decode cX4_fittingByTable 73 = .ok (.getfield 30, 3) := by decide +kernel
theorem dX4_fittingByTable_76 : decode cX4_fittingByTable 76 = .ok (.iload 4, 2) := by decide +kernel
theorem dX4_fittingByTable_78 : decode cX4_fittingByTable 78 = .ok (.invokevirtual 71, 3) := by decide +kernel
theorem dX4_fittingByTable_81 : decode cX4_fittingByTable 81 = .ok (.iload_n 3, 1) := by decide +kernel
theorem dX4_fittingByTable_82 : decode cX4_fittingByTable 82 = .ok (.invokevirtual 74, 3) := by decide +kernel
theorem dX4_fittingByTable_85 : decode cX4_fittingByTable 85 = .ok (.iinc 4 1, 3) := by decide +kernel
theorem dX4_fittingByTable_88 : decode cX4_fittingByTable 88 = .ok (.goto (-42), 3) := by decide +kernel
theorem dX4_fittingByTable_91 : decode cX4_fittingByTable 91 = .ok (.aload_n 0, 1) := by decide +kernel
theorem dX4_fittingByTable_92 : decode cX4_fittingByTable 92 = .ok (.getfield 15, 3) := by decide +kernel
theorem dX4_fittingByTable_95 : decode cX4_fittingByTable 95 = .ok (.iload_n 3, 1) := by decide +kernel
theorem dX4_fittingByTable_96 : decode cX4_fittingByTable 96 = .ok (.iaload, 1) := by decide +kernel
theorem dX4_fittingByTable_97 : decode cX4_fittingByTable 97 = .ok (.ireturn, 1) := by decide +kernel
theorem dX4_enter_0 : decode cX4_enter 0 = .ok (.iload_n 2, 1) := by decide +kernel
theorem dX4_enter_1 : decode cX4_enter 1 = .ok (.istore_n 3, 1) := by decide +kernel
theorem dX4_enter_2 : decode cX4_enter 2 = .ok (.iload_n 3, 1) := by decide +kernel
theorem dX4_enter_3 : decode cX4_enter 3 = .ok (.iload_n 1, 1) := by decide +kernel
theorem dX4_enter_4 : decode cX4_enter 4 = .ok (.if_icmp .lt 34, 3) := by decide +kernel
theorem dX4_enter_7 : decode cX4_enter 7 = .ok (.aload_n 0, 1) := by decide +kernel
theorem dX4_enter_8 : decode cX4_enter 8 = .ok (.getfield 15, 3) := by decide +kernel
theorem dX4_enter_11 : decode cX4_enter 11 = .ok (.iload_n 3, 1) := by decide +kernel
theorem dX4_enter_12 : decode cX4_enter 12 = .ok (.aload_n 0, 1) := by decide +kernel
theorem dX4_enter_13 : decode cX4_enter 13 = .ok (.getfield 15, 3) := by decide +kernel
theorem dX4_enter_16 : decode cX4_enter 16 = .ok (.iload_n 3, 1) := by decide +kernel
theorem dX4_enter_17 : decode cX4_enter 17 = .ok (.iaload, 1) := by decide +kernel
theorem dX4_enter_18 : decode cX4_enter 18 = .ok (.aload_n 0, 1) := by decide +kernel
theorem dX4_enter_19 : decode cX4_enter 19 = .ok (.getfield 15, 3) := by decide +kernel
theorem dX4_enter_22 : decode cX4_enter 22 = .ok (.iload_n 3, 1) := by decide +kernel
theorem dX4_enter_23 : decode cX4_enter 23 = .ok (.iload_n 1, 1) := by decide +kernel
theorem dX4_enter_24 : decode cX4_enter 24 = .ok (.isub, 1) := by decide +kernel
theorem dX4_enter_25 : decode cX4_enter 25 = .ok (.iaload, 1) := by decide +kernel
theorem dX4_enter_26 : decode cX4_enter 26 = .ok (.iconst 1, 1) := by decide +kernel
theorem dX4_enter_27 : decode cX4_enter 27 = .ok (.iadd, 1) := by decide +kernel
theorem dX4_enter_28 : decode cX4_enter 28 = .ok (.invokestatic 48, 3) := by decide +kernel
theorem dX4_enter_31 : decode cX4_enter 31 = .ok (.iastore, 1) := by decide +kernel
theorem dX4_enter_32 : decode cX4_enter 32 = .ok (.iinc 3 (-1), 3) := by decide +kernel
theorem dX4_enter_35 : decode cX4_enter 35 = .ok (.goto (-33), 3) := by decide +kernel
theorem dX4_enter_38 : decode cX4_enter 38 = .ok (.return_, 1) := by decide +kernel
theorem dX6_init_0 : decode cX6_init 0 = .ok (.aload_n 0, 1) := by decide +kernel
theorem dX6_init_1 : decode cX6_init 1 = .ok (.invokespecial 3, 3) := by decide +kernel
theorem dX6_init_4 : decode cX6_init 4 = .ok (.aload_n 0, 1) := by decide +kernel
theorem dX6_init_5 : decode cX6_init 5 = .ok (.bipush 8, 2) := by decide +kernel
theorem dX6_init_7 : decode cX6_init 7 = .ok (.newarray .int, 2) := by decide +kernel
theorem dX6_init_9 : decode cX6_init 9 = .ok (.putfield 9, 3) := by decide +kernel
theorem dX6_init_12 : decode cX6_init 12 = .ok (.aload_n 0, 1) := by decide +kernel
theorem dX6_init_13 : decode cX6_init 13 = .ok (.bipush 8, 2) := by decide +kernel
theorem dX6_init_15 : decode cX6_init 15 = .ok (.newarray .int, 2) := by decide +kernel
theorem dX6_init_17 : decode cX6_init 17 = .ok (.putfield 15, 3) := by decide +kernel
theorem dX6_init_20 : decode cX6_init 20 = .ok (.aload_n 0, 1) := by decide +kernel
theorem dX6_init_21 : decode cX6_init 21 = .ok (.iconst 0, 1) := by decide +kernel
theorem dX6_init_22 : decode cX6_init 22 = .ok (.putfield 18, 3) := by decide +kernel
theorem dX6_init_25 : decode cX6_init 25 = .ok (.aload_n 0, 1) := by decide +kernel
theorem dX6_init_26 : decode cX6_init 26 = .ok (.iconst 0, 1) := by decide +kernel
theorem dX6_init_27 : decode cX6_init 27 = .ok (.putfield 22, 3) := by decide +kernel
theorem dX6_init_30 : decode cX6_init 30 = .ok (.return_, 1) := by decide +kernel
theorem dX6_copyFrom_0 : decode cX6_copyFrom 0 = .ok (.aload_n 1, 1) := by decide +kernel
theorem dX6_copyFrom_1 : decode cX6_copyFrom 1 = .ok (.getfield 9, 3) := by decide +kernel
theorem dX6_copyFrom_4 : decode cX6_copyFrom 4 = .ok (.iconst 0, 1) := by decide +kernel
theorem dX6_copyFrom_5 : decode cX6_copyFrom 5 = .ok (.aload_n 0, 1) := by decide +kernel
theorem dX6_copyFrom_6 : decode cX6_copyFrom 6 = .ok (.getfield 9, 3) := by decide +kernel
theorem dX6_copyFrom_9 : decode cX6_copyFrom 9 = .ok (.iconst 0, 1) := by decide +kernel
theorem dX6_copyFrom_10 : decode cX6_copyFrom 10 = .ok (.bipush 8, 2) := by decide +kernel
theorem dX6_copyFrom_12 : decode cX6_copyFrom 12 = .ok (.invokestatic 25, 3) := by decide +kernel
theorem dX6_copyFrom_15 : decode cX6_copyFrom 15 = .ok (.aload_n 1, 1) := by decide +kernel
theorem dX6_copyFrom_16 : decode cX6_copyFrom 16 = .ok (.getfield 15, 3) := by decide +kernel
theorem dX6_copyFrom_19 : decode cX6_copyFrom 19 = .ok (.iconst 0, 1) := by decide +kernel
theorem dX6_copyFrom_20 : decode cX6_copyFrom 20 = .ok (.aload_n 0, 1) := by decide +kernel
theorem dX6_copyFrom_21 : decode cX6_copyFrom 21 = .ok (.getfield 15, 3) := by decide +kernel
theorem dX6_copyFrom_24 : decode cX6_copyFrom 24 = .ok (.iconst 0, 1) := by decide +kernel
theorem dX6_copyFrom_25 : decode cX6_copyFrom 25 = .ok (.bipush 8, 2) := by decide +kernel
theorem dX6_copyFrom_27 : decode cX6_copyFrom 27 = .ok (.invokestatic 25, 3) := by decide +kernel
theorem dX6_copyFrom_30 : decode cX6_copyFrom 30 = .ok (.aload_n 0, 1) := by decide +kernel
theorem dX6_copyFrom_31 : decode cX6_copyFrom 31 = .ok (.aload_n 1, 1) := by decide +kernel
theorem dX6_copyFrom_32 : decode cX6_copyFrom 32 = .ok (.getfield 18, 3) := by decide +kernel
theorem dX6_copyFrom_35 : decode cX6_copyFrom 35 = .ok (.putfield 18, 3) := by decide +kernel
theorem dX6_copyFrom_38 : decode cX6_copyFrom 38 = .ok (.aload_n 0, 1) := by decide +kernel
theorem dX6_copyFrom_39 : decode cX6_copyFrom 39 = .ok (.aload_n 1, 1) := by decide +kernel
theorem dX6_copyFrom_40 : decode cX6_copyFrom 40 = .ok (.getfield 22, 3) := by decide +kernel
theorem dX6_copyFrom_43 : decode cX6_copyFrom 43 = .ok (.putfield 22, 3) := by decide +kernel
theorem dX6_copyFrom_46 : decode cX6_copyFrom 46 = .ok (.return_, 1) := by decide +kernel
theorem dX6_size_0 : decode cX6_size 0 = .ok (.aload_n 0, 1) := by decide +kernel
theorem dX6_size_1 : decode cX6_size 1 = .ok (.getfield 18, 3) := by decide +kernel
theorem dX6_size_4 : decode cX6_size 4 = .ok (.ireturn, 1) := by decide +kernel
theorem dX6_isFull_0 : decode cX6_isFull 0 = .ok (.aload_n 0, 1) := by decide +kernel
theorem dX6_isFull_1 : decode cX6_isFull 1 = .ok (.getfield 18, 3) := by decide +kernel
theorem dX6_isFull_4 : decode cX6_isFull 4 = .ok (.bipush 8, 2) := by decide +kernel
theorem dX6_isFull_6 : decode cX6_isFull 6 = .ok (.if_icmp .lt 7, 3) := by decide +kernel
theorem dX6_isFull_9 : decode cX6_isFull 9 = .ok (.iconst 1, 1) := by decide +kernel
theorem dX6_isFull_10 : decode cX6_isFull 10 = .ok (.goto 4, 3) := by decide +kernel
theorem dX6_isFull_13 : decode cX6_isFull 13 = .ok (.iconst 0, 1) := by decide +kernel
theorem dX6_isFull_14 : decode cX6_isFull 14 = .ok (.ireturn, 1) := by decide +kernel
theorem dX6_goneCount_0 : decode cX6_goneCount 0 = .ok (.aload_n 0, 1) := by decide +kernel
theorem dX6_goneCount_1 : decode cX6_goneCount 1 = .ok (.getfield 22, 3) := by decide +kernel
theorem dX6_goneCount_4 : decode cX6_goneCount 4 = .ok (.ireturn, 1) := by decide +kernel
theorem dX6_add_0 : decode cX6_add 0 = .ok (.aload_n 0, 1) := by decide +kernel
theorem dX6_add_1 : decode cX6_add 1 = .ok (.getfield 18, 3) := by decide +kernel
theorem dX6_add_4 : decode cX6_add 4 = .ok (.istore_n 2, 1) := by decide +kernel
theorem dX6_add_5 : decode cX6_add 5 = .ok (.aload_n 0, 1) := by decide +kernel
theorem dX6_add_6 : decode cX6_add 6 = .ok (.getfield 9, 3) := by decide +kernel
theorem dX6_add_9 : decode cX6_add 9 = .ok (.iload_n 2, 1) := by decide +kernel
theorem dX6_add_10 : decode cX6_add 10 = .ok (.iload_n 1, 1) := by decide +kernel
theorem dX6_add_11 : decode cX6_add 11 = .ok (.iastore, 1) := by decide +kernel
theorem dX6_add_12 : decode cX6_add 12 = .ok (.aload_n 0, 1) := by decide +kernel
theorem dX6_add_13 : decode cX6_add 13 = .ok (.getfield 15, 3) := by decide +kernel
theorem dX6_add_16 : decode cX6_add 16 = .ok (.iload_n 2, 1) := by decide +kernel
theorem dX6_add_17 : decode cX6_add 17 = .ok (.iconst 3, 1) := by decide +kernel
theorem dX6_add_18 : decode cX6_add 18 = .ok (.iastore, 1) := by decide +kernel
theorem dX6_add_19 : decode cX6_add 19 = .ok (.aload_n 0, 1) := by decide +kernel
theorem dX6_add_20 : decode cX6_add 20 = .ok (.dup, 1) := by decide +kernel
theorem dX6_add_21 : decode cX6_add 21 = .ok (.getfield 18, 3) := by decide +kernel
theorem dX6_add_24 : decode cX6_add 24 = .ok (.iconst 1, 1) := by decide +kernel
theorem dX6_add_25 : decode cX6_add 25 = .ok (.iadd, 1) := by decide +kernel
theorem dX6_add_26 : decode cX6_add 26 = .ok (.putfield 18, 3) := by decide +kernel
theorem dX6_add_29 : decode cX6_add 29 = .ok (.iload_n 2, 1) := by decide +kernel
theorem dX6_add_30 : decode cX6_add 30 = .ok (.ireturn, 1) := by decide +kernel
theorem dX6_gradeOf_0 : decode cX6_gradeOf 0 = .ok (.aload_n 0, 1) := by decide +kernel
theorem dX6_gradeOf_1 : decode cX6_gradeOf 1 = .ok (.getfield 9, 3) := by decide +kernel
theorem dX6_gradeOf_4 : decode cX6_gradeOf 4 = .ok (.iload_n 1, 1) := by decide +kernel
theorem dX6_gradeOf_5 : decode cX6_gradeOf 5 = .ok (.iaload, 1) := by decide +kernel
theorem dX6_gradeOf_6 : decode cX6_gradeOf 6 = .ok (.ireturn, 1) := by decide +kernel
theorem dX6_usesLeftOf_0 : decode cX6_usesLeftOf 0 = .ok (.aload_n 0, 1) := by decide +kernel
theorem dX6_usesLeftOf_1 : decode cX6_usesLeftOf 1 = .ok (.getfield 15, 3) := by decide +kernel
theorem dX6_usesLeftOf_4 : decode cX6_usesLeftOf 4 = .ok (.iload_n 1, 1) := by decide +kernel
theorem dX6_usesLeftOf_5 : decode cX6_usesLeftOf 5 = .ok (.iaload, 1) := by decide +kernel
theorem dX6_usesLeftOf_6 : decode cX6_usesLeftOf 6 = .ok (.ireturn, 1) := by decide +kernel
theorem dX6_bestAgainst_0 : decode cX6_bestAgainst 0 = .ok (.iconst (-1), 1) := by decide +kernel
theorem dX6_bestAgainst_1 : decode cX6_bestAgainst 1 = .ok (.istore_n 2, 1) := by decide +kernel
theorem dX6_bestAgainst_2 : decode cX6_bestAgainst 2 = .ok (.iconst 0, 1) := by decide +kernel
theorem dX6_bestAgainst_3 : decode cX6_bestAgainst 3 = .ok (.istore_n 3, 1) := by decide +kernel
theorem dX6_bestAgainst_4 : decode cX6_bestAgainst 4 = .ok (.iload_n 3, 1) := by decide +kernel
theorem dX6_bestAgainst_5 : decode cX6_bestAgainst 5 = .ok (.aload_n 0, 1) := by decide +kernel
theorem dX6_bestAgainst_6 : decode cX6_bestAgainst 6 = .ok (.getfield 18, 3) := by decide +kernel
theorem dX6_bestAgainst_9 : decode cX6_bestAgainst 9 = .ok (.if_icmp .ge 35, 3) := by decide +kernel
theorem dX6_bestAgainst_12 : decode cX6_bestAgainst 12 = .ok (.aload_n 0, 1) := by decide +kernel
theorem dX6_bestAgainst_13 : decode cX6_bestAgainst 13 = .ok (.getfield 9, 3) := by decide +kernel
theorem dX6_bestAgainst_16 : decode cX6_bestAgainst 16 = .ok (.iload_n 3, 1) := by decide +kernel
theorem dX6_bestAgainst_17 : decode cX6_bestAgainst 17 = .ok (.iaload, 1) := by decide +kernel
theorem dX6_bestAgainst_18 : decode cX6_bestAgainst 18 = .ok (.iload_n 1, 1) := by decide +kernel
theorem dX6_bestAgainst_19 : decode cX6_bestAgainst 19 = .ok (.if_icmp .lt 19, 3) := by decide +kernel
theorem dX6_bestAgainst_22 : decode cX6_bestAgainst 22 = .ok (.iload_n 2, 1) := by decide +kernel
theorem dX6_bestAgainst_23 : decode cX6_bestAgainst 23 = .ok (.iconst (-1), 1) := by decide +kernel
theorem dX6_bestAgainst_24 : decode cX6_bestAgainst 24 = .ok (.if_icmp .eq 12, 3) := by decide +kernel
theorem dX6_bestAgainst_27 : decode cX6_bestAgainst 27 = .ok (.aload_n 0, 1) := by decide +kernel
theorem dX6_bestAgainst_28 : decode cX6_bestAgainst 28 = .ok (.iload_n 3, 1) := by decide +kernel
theorem dX6_bestAgainst_29 : decode cX6_bestAgainst 29 = .ok (.iload_n 2, 1) := by decide +kernel
theorem dX6_bestAgainst_30 : decode cX6_bestAgainst 30 = .ok (.invokevirtual 31, 3) := by decide +kernel
theorem dX6_bestAgainst_33 : decode cX6_bestAgainst 33 = .ok (.ifCond .eq 5, 3) := by decide +kernel
theorem dX6_bestAgainst_36 : decode cX6_bestAgainst 36 = .ok (.iload_n 3, 1) := by decide +kernel
theorem dX6_bestAgainst_37 : decode cX6_bestAgainst 37 = .ok (.istore_n 2, 1) := by decide +kernel
theorem dX6_bestAgainst_38 : decode cX6_bestAgainst 38 = .ok (.iinc 3 1, 3) := by decide +kernel
theorem dX6_bestAgainst_41 : decode cX6_bestAgainst 41 = .ok (.goto (-37), 3) := by decide +kernel
theorem dX6_bestAgainst_44 : decode cX6_bestAgainst 44 = .ok (.iload_n 2, 1) := by decide +kernel
theorem dX6_bestAgainst_45 : decode cX6_bestAgainst 45 = .ok (.ireturn, 1) := by decide +kernel
theorem dX6_isPreferred_0 : decode cX6_isPreferred 0 = .ok (.aload_n 0, 1) := by decide +kernel
theorem dX6_isPreferred_1 : decode cX6_isPreferred 1 = .ok (.getfield 9, 3) := by decide +kernel
theorem dX6_isPreferred_4 : decode cX6_isPreferred 4 = .ok (.iload_n 1, 1) := by decide +kernel
theorem dX6_isPreferred_5 : decode cX6_isPreferred 5 = .ok (.iaload, 1) := by decide +kernel
theorem dX6_isPreferred_6 : decode cX6_isPreferred 6 = .ok (.aload_n 0, 1) := by decide +kernel
theorem dX6_isPreferred_7 : decode cX6_isPreferred 7 = .ok (.getfield 9, 3) := by decide +kernel
theorem dX6_isPreferred_10 : decode cX6_isPreferred 10 = .ok (.iload_n 2, 1) := by decide +kernel
theorem dX6_isPreferred_11 : decode cX6_isPreferred 11 = .ok (.iaload, 1) := by decide +kernel
theorem dX6_isPreferred_12 : decode cX6_isPreferred 12 = .ok (.if_icmp .eq 24, 3) := by decide +kernel
theorem dX6_isPreferred_15 : decode cX6_isPreferred 15 = .ok (.aload_n 0, 1) := by decide +kernel
theorem dX6_isPreferred_16 : decode cX6_isPreferred 16 = .ok (.getfield 9, 3) := by decide +kernel
theorem dX6_isPreferred_19 : decode cX6_isPreferred 19 = .ok (.iload_n 1, 1) := by decide +kernel
theorem dX6_isPreferred_20 : decode cX6_isPreferred 20 = .ok (.iaload, 1) := by decide +kernel
theorem dX6_isPreferred_21 : decode cX6_isPreferred 21 = .ok (.aload_n 0, 1) := by decide +kernel
theorem dX6_isPreferred_22 : decode cX6_isPreferred 22 = .ok (.getfield 9, 3) := by decide +kernel
theorem dX6_isPreferred_25 : decode cX6_isPreferred 25 = .ok (.iload_n 2, 1) := by decide +kernel
theorem dX6_isPreferred_26 : decode cX6_isPreferred 26 = .ok (.iaload, 1) := by decide +kernel
theorem dX6_isPreferred_27 : decode cX6_isPreferred 27 = .ok (.if_icmp .ge 7, 3) := by decide +kernel
theorem dX6_isPreferred_30 : decode cX6_isPreferred 30 = .ok (.iconst 1, 1) := by decide +kernel
theorem dX6_isPreferred_31 : decode cX6_isPreferred 31 = .ok (.goto 4, 3) := by decide +kernel
theorem dX6_isPreferred_34 : decode cX6_isPreferred 34 = .ok (.iconst 0, 1) := by decide +kernel
theorem dX6_isPreferred_35 : decode cX6_isPreferred 35 = .ok (.ireturn, 1) := by decide +kernel
theorem dX6_isPreferred_36 : decode cX6_isPreferred 36 = .ok (.aload_n 0, 1) := by decide +kernel
theorem dX6_isPreferred_37 : decode cX6_isPreferred 37 = .ok (.getfield 15, 3) := by decide +kernel
theorem dX6_isPreferred_40 : decode cX6_isPreferred 40 = .ok (.iload_n 1, 1) := by decide +kernel
theorem dX6_isPreferred_41 : decode cX6_isPreferred 41 = .ok (.iaload, 1) := by decide +kernel
theorem dX6_isPreferred_42 : decode cX6_isPreferred 42 = .ok (.aload_n 0, 1) := by decide +kernel
theorem dX6_isPreferred_43 : decode cX6_isPreferred 43 = .ok (.getfield 15, 3) := by decide +kernel
theorem dX6_isPreferred_46 : decode cX6_isPreferred 46 = .ok (.iload_n 2, 1) := by decide +kernel
theorem dX6_isPreferred_47 : decode cX6_isPreferred 47 = .ok (.iaload, 1) := by decide +kernel
theorem dX6_isPreferred_48 : decode cX6_isPreferred 48 = .ok (.if_icmp .ge 7, 3) := by decide +kernel
theorem dX6_isPreferred_51 : decode cX6_isPreferred 51 = .ok (.iconst 1, 1) := by decide +kernel
theorem dX6_isPreferred_52 : decode cX6_isPreferred 52 = .ok (.goto 4, 3) := by decide +kernel
theorem dX6_isPreferred_55 : decode cX6_isPreferred 55 = .ok (.iconst 0, 1) := by decide +kernel
theorem dX6_isPreferred_56 : decode cX6_isPreferred 56 = .ok (.ireturn, 1) := by decide +kernel
theorem dX6_useAgainst_0 : decode cX6_useAgainst 0 = .ok (.iload_n 1, 1) := by decide +kernel
theorem dX6_useAgainst_1 : decode cX6_useAgainst 1 = .ok (.ifCond .ne 4, 3) := by decide +kernel
theorem dX6_useAgainst_4 : decode cX6_useAgainst 4 = .ok (.return_, 1) := by decide +kernel
theorem dX6_useAgainst_5 : decode cX6_useAgainst 5 = .ok (.aload_n 0, 1) := by decide +kernel
theorem dX6_useAgainst_6 : decode cX6_useAgainst 6 = .ok (.iload_n 1, 1) := by decide +kernel
theorem dX6_useAgainst_7 : decode cX6_useAgainst 7 = .ok (.invokevirtual 35, 3) := by decide +kernel
theorem dX6_useAgainst_10 : decode cX6_useAgainst 10 = .ok (.istore_n 2, 1) := by decide +kernel
theorem dX6_useAgainst_11 : decode cX6_useAgainst 11 = .ok (.iload_n 2, 1) := by decide +kernel
theorem dX6_useAgainst_12 : decode cX6_useAgainst 12 = .ok (.iconst (-1), 1) := by decide +kernel
theorem dX6_useAgainst_13 : decode cX6_useAgainst 13 = .ok (.if_icmp .ne 4, 3) := by decide +kernel
theorem dX6_useAgainst_16 : decode cX6_useAgainst 16 = .ok (.return_, 1) := by decide +kernel
theorem dX6_useAgainst_17 : decode cX6_useAgainst 17 = .ok (.aload_n 0, 1) := by decide +kernel
theorem dX6_useAgainst_18 : decode cX6_useAgainst 18 = .ok (.getfield 15, 3) := by decide +kernel
theorem dX6_useAgainst_21 : decode cX6_useAgainst 21 = .ok (.iload_n 2, 1) := by decide +kernel
theorem dX6_useAgainst_22 : decode cX6_useAgainst 22 = .ok (.dup2, 1) := by decide +kernel
theorem dX6_useAgainst_23 : decode cX6_useAgainst 23 = .ok (.iaload, 1) := by decide +kernel
theorem dX6_useAgainst_24 : decode cX6_useAgainst 24 = .ok (.iconst 1, 1) := by decide +kernel
theorem dX6_useAgainst_25 : decode cX6_useAgainst 25 = .ok (.isub, 1) := by decide +kernel
theorem dX6_useAgainst_26 : decode cX6_useAgainst 26 = .ok (.iastore, 1) := by decide +kernel
theorem dX6_useAgainst_27 : decode cX6_useAgainst 27 = .ok (.aload_n 0, 1) := by decide +kernel
theorem dX6_useAgainst_28 : decode cX6_useAgainst 28 = .ok (.getfield 15, 3) := by decide +kernel
theorem dX6_useAgainst_31 : decode cX6_useAgainst 31 = .ok (.iload_n 2, 1) := by decide +kernel
theorem dX6_useAgainst_32 : decode cX6_useAgainst 32 = .ok (.iaload, 1) := by decide +kernel
theorem dX6_useAgainst_33 : decode cX6_useAgainst 33 = .ok (.ifCond .ne 18, 3) := by decide +kernel
theorem dX6_useAgainst_36 : decode cX6_useAgainst 36 = .ok (.aload_n 0, 1) := by decide +kernel
theorem dX6_useAgainst_37 : decode cX6_useAgainst 37 = .ok (.iload_n 2, 1) := by decide +kernel
theorem dX6_useAgainst_38 : decode cX6_useAgainst 38 = .ok (.invokevirtual 39, 3) := by decide +kernel
theorem dX6_useAgainst_41 : decode cX6_useAgainst 41 = .ok (.aload_n 0, 1) := by decide +kernel
theorem dX6_useAgainst_42 : decode cX6_useAgainst 42 = .ok (.dup, 1) := by decide +kernel
theorem dX6_useAgainst_43 : decode cX6_useAgainst 43 = .ok (.getfield 22, 3) := by decide +kernel
theorem dX6_useAgainst_46 : decode cX6_useAgainst 46 = .ok (.iconst 1, 1) := by decide +kernel
theorem dX6_useAgainst_47 : decode cX6_useAgainst 47 = .ok (.iadd, 1) := by decide +kernel
theorem dX6_useAgainst_48 : decode cX6_useAgainst 48 = .ok (.putfield 22, 3) := by decide +kernel
theorem dX6_useAgainst_51 : decode cX6_useAgainst 51 = .ok (.return_, 1) := by decide +kernel
theorem dX6_remove_0 : decode cX6_remove 0 = .ok (.aload_n 0, 1) := by decide +kernel
theorem dX6_remove_1 : decode cX6_remove 1 = .ok (.dup, 1) := by decide +kernel
theorem dX6_remove_2 : decode cX6_remove 2 = .ok (.getfield 18, 3) := by decide +kernel
theorem dX6_remove_5 : decode cX6_remove 5 = .ok (.iconst 1, 1) := by decide +kernel
theorem dX6_remove_6 : decode cX6_remove 6 = .ok (.isub, 1) := by decide +kernel
theorem dX6_remove_7 : decode cX6_remove 7 = .ok (.putfield 18, 3) := by decide +kernel
theorem dX6_remove_10 : decode cX6_remove 10 = .ok (.iload_n 1, 1) := by decide +kernel
theorem dX6_remove_11 : decode cX6_remove 11 = .ok (.istore_n 2, 1) := by decide +kernel
theorem dX6_remove_12 : decode cX6_remove 12 = .ok (.iload_n 2, 1) := by decide +kernel
theorem dX6_remove_13 : decode cX6_remove 13 = .ok (.aload_n 0, 1) := by decide +kernel
theorem dX6_remove_14 : decode cX6_remove 14 = .ok (.getfield 18, 3) := by decide +kernel
theorem dX6_remove_17 : decode cX6_remove 17 = .ok (.if_icmp .ge 37, 3) := by decide +kernel
theorem dX6_remove_20 : decode cX6_remove 20 = .ok (.aload_n 0, 1) := by decide +kernel
theorem dX6_remove_21 : decode cX6_remove 21 = .ok (.getfield 9, 3) := by decide +kernel
theorem dX6_remove_24 : decode cX6_remove 24 = .ok (.iload_n 2, 1) := by decide +kernel
theorem dX6_remove_25 : decode cX6_remove 25 = .ok (.aload_n 0, 1) := by decide +kernel
theorem dX6_remove_26 : decode cX6_remove 26 = .ok (.getfield 9, 3) := by decide +kernel
theorem dX6_remove_29 : decode cX6_remove 29 = .ok (.iload_n 2, 1) := by decide +kernel
theorem dX6_remove_30 : decode cX6_remove 30 = .ok (.iconst 1, 1) := by decide +kernel
theorem dX6_remove_31 : decode cX6_remove 31 = .ok (.iadd, 1) := by decide +kernel
theorem dX6_remove_32 : decode cX6_remove 32 = .ok (.iaload, 1) := by decide +kernel
theorem dX6_remove_33 : decode cX6_remove 33 = .ok (.iastore, 1) := by decide +kernel
theorem dX6_remove_34 : decode cX6_remove 34 = .ok (.aload_n 0, 1) := by decide +kernel
theorem dX6_remove_35 : decode cX6_remove 35 = .ok (.getfield 15, 3) := by decide +kernel
theorem dX6_remove_38 : decode cX6_remove 38 = .ok (.iload_n 2, 1) := by decide +kernel
theorem dX6_remove_39 : decode cX6_remove 39 = .ok (.aload_n 0, 1) := by decide +kernel
theorem dX6_remove_40 : decode cX6_remove 40 = .ok (.getfield 15, 3) := by decide +kernel
theorem dX6_remove_43 : decode cX6_remove 43 = .ok (.iload_n 2, 1) := by decide +kernel
theorem dX6_remove_44 : decode cX6_remove 44 = .ok (.iconst 1, 1) := by decide +kernel
theorem dX6_remove_45 : decode cX6_remove 45 = .ok (.iadd, 1) := by decide +kernel
theorem dX6_remove_46 : decode cX6_remove 46 = .ok (.iaload, 1) := by decide +kernel
theorem dX6_remove_47 : decode cX6_remove 47 = .ok (.iastore, 1) := by decide +kernel
theorem dX6_remove_48 : decode cX6_remove 48 = .ok (.iinc 2 1, 3) := by decide +kernel
theorem dX6_remove_51 : decode cX6_remove 51 = .ok (.goto (-39), 3) := by decide +kernel
theorem dX6_remove_54 : decode cX6_remove 54 = .ok (.return_, 1) := by decide +kernel
theorem dX6_usesOfGrade_0 : decode cX6_usesOfGrade 0 = .ok (.iconst 0, 1) := by decide +kernel
theorem dX6_usesOfGrade_1 : decode cX6_usesOfGrade 1 = .ok (.istore_n 2, 1) := by decide +kernel
theorem dX6_usesOfGrade_2 : decode cX6_usesOfGrade 2 = .ok (.iconst 0, 1) := by decide +kernel
theorem dX6_usesOfGrade_3 : decode cX6_usesOfGrade 3 = .ok (.istore_n 3, 1) := by decide +kernel
theorem dX6_usesOfGrade_4 : decode cX6_usesOfGrade 4 = .ok (.iload_n 3, 1) := by decide +kernel
theorem dX6_usesOfGrade_5 : decode cX6_usesOfGrade 5 = .ok (.aload_n 0, 1) := by decide +kernel
theorem dX6_usesOfGrade_6 : decode cX6_usesOfGrade 6 = .ok (.getfield 18, 3) := by decide +kernel
theorem dX6_usesOfGrade_9 : decode cX6_usesOfGrade 9 = .ok (.if_icmp .ge 28, 3) := by decide +kernel
theorem dX6_usesOfGrade_12 : decode cX6_usesOfGrade 12 = .ok (.aload_n 0, 1) := by decide +kernel
theorem dX6_usesOfGrade_13 : decode cX6_usesOfGrade 13 = .ok (.getfield 9, 3) := by decide +kernel
theorem dX6_usesOfGrade_16 : decode cX6_usesOfGrade 16 = .ok (.iload_n 3, 1) := by decide +kernel
theorem dX6_usesOfGrade_17 : decode cX6_usesOfGrade 17 = .ok (.iaload, 1) := by decide +kernel
theorem dX6_usesOfGrade_18 : decode cX6_usesOfGrade 18 = .ok (.iload_n 1, 1) := by decide +kernel
theorem dX6_usesOfGrade_19 : decode cX6_usesOfGrade 19 = .ok (.if_icmp .ne 12, 3) := by decide +kernel
theorem dX6_usesOfGrade_22 : decode cX6_usesOfGrade 22 = .ok (.iload_n 2, 1) := by decide +kernel
theorem dX6_usesOfGrade_23 : decode cX6_usesOfGrade 23 = .ok (.aload_n 0, 1) := by decide +kernel
theorem dX6_usesOfGrade_24 : decode cX6_usesOfGrade 24 = .ok (.getfield 15, 3) := by decide +kernel
theorem dX6_usesOfGrade_27 : decode cX6_usesOfGrade 27 = .ok (.iload_n 3, 1) := by decide +kernel
theorem dX6_usesOfGrade_28 : decode cX6_usesOfGrade 28 = .ok (.iaload, 1) := by decide +kernel
theorem dX6_usesOfGrade_29 : decode cX6_usesOfGrade 29 = .ok (.iadd, 1) := by decide +kernel
theorem dX6_usesOfGrade_30 : decode cX6_usesOfGrade 30 = .ok (.istore_n 2, 1) := by decide +kernel
theorem dX6_usesOfGrade_31 : decode cX6_usesOfGrade 31 = .ok (.iinc 3 1, 3) := by decide +kernel
theorem dX6_usesOfGrade_34 : decode cX6_usesOfGrade 34 = .ok (.goto (-30), 3) := by decide +kernel
theorem dX6_usesOfGrade_37 : decode cX6_usesOfGrade 37 = .ok (.iload_n 2, 1) := by decide +kernel
theorem dX6_usesOfGrade_38 : decode cX6_usesOfGrade 38 = .ok (.ireturn, 1) := by decide +kernel
theorem dX7_init_0 : decode cX7_init 0 = .ok (.aload_n 0, 1) := by decide +kernel
theorem dX7_init_1 : decode cX7_init 1 = .ok (.invokespecial 3, 3) := by decide +kernel
theorem dX7_init_4 : decode cX7_init 4 = .ok (.aload_n 0, 1) := by decide +kernel
theorem dX7_init_5 : decode cX7_init 5 = .ok (.bipush 9, 2) := by decide +kernel
theorem dX7_init_7 : decode cX7_init 7 = .ok (.anewarray 11, 3) := by decide +kernel
theorem dX7_init_10 : decode cX7_init 10 = .ok (.putfield 13, 3) := by decide +kernel
theorem dX7_init_13 : decode cX7_init 13 = .ok (.aload_n 0, 1) := by decide +kernel
theorem dX7_init_14 : decode cX7_init 14 = .ok (.iconst 0, 1) := by decide +kernel
theorem dX7_init_15 : decode cX7_init 15 = .ok (.putfield 17, 3) := by decide +kernel
theorem dX7_init_18 : decode cX7_init 18 = .ok (.aload_n 0, 1) := by decide +kernel
theorem dX7_init_19 : decode cX7_init 19 = .ok (.iconst 0, 1) := by decide +kernel
theorem dX7_init_20 : decode cX7_init 20 = .ok (.putfield 21, 3) := by decide +kernel
theorem dX7_init_23 : decode cX7_init 23 = .ok (.iconst 0, 1) := by decide +kernel
theorem dX7_init_24 : decode cX7_init 24 = .ok (.istore_n 1, 1) := by decide +kernel
theorem dX7_init_25 : decode cX7_init 25 = .ok (.iload_n 1, 1) := by decide +kernel
theorem dX7_init_26 : decode cX7_init 26 = .ok (.bipush 9, 2) := by decide +kernel
theorem dX7_init_28 : decode cX7_init 28 = .ok (.if_icmp .ge 22, 3) := by decide +kernel
theorem dX7_init_31 : decode cX7_init 31 = .ok (.aload_n 0, 1) := by decide +kernel
theorem dX7_init_32 : decode cX7_init 32 = .ok (.getfield 13, 3) := by decide +kernel
theorem dX7_init_35 : decode cX7_init 35 = .ok (.iload_n 1, 1) := by decide +kernel
theorem dX7_init_36 : decode cX7_init 36 = .ok (.new 11, 3) := by decide +kernel
theorem dX7_init_39 : decode cX7_init 39 = .ok (.dup, 1) := by decide +kernel
theorem dX7_init_40 : decode cX7_init 40 = .ok (.invokespecial 24, 3) := by decide +kernel
theorem dX7_init_43 : decode cX7_init 43 = .ok (.aastore, 1) := by decide +kernel
theorem dX7_init_44 : decode cX7_init 44 = .ok (.iinc 1 1, 3) := by decide +kernel
theorem dX7_init_47 : decode cX7_init 47 = .ok (.goto (-22), 3) := by decide +kernel
theorem dX7_init_50 : decode cX7_init 50 = .ok (.return_, 1) := by decide +kernel
theorem dX7_size_0 : decode cX7_size 0 = .ok (.aload_n 0, 1) := by decide +kernel
theorem dX7_size_1 : decode cX7_size 1 = .ok (.getfield 21, 3) := by decide +kernel
theorem dX7_size_4 : decode cX7_size 4 = .ok (.ireturn, 1) := by decide +kernel
theorem dX7_prepare_0 : decode cX7_prepare 0 = .ok (.aload_n 0, 1) := by decide +kernel
theorem dX7_prepare_1 : decode cX7_prepare 1 = .ok (.getfield 13, 3) := by decide +kernel
theorem dX7_prepare_4 : decode cX7_prepare 4 = .ok (.aload_n 0, 1) := by decide +kernel
theorem dX7_prepare_5 : decode cX7_prepare 5 = .ok (.getfield 17, 3) := by decide +kernel
theorem dX7_prepare_8 : decode cX7_prepare 8 = .ok (.aaload, 1) := by decide +kernel
theorem dX7_prepare_9 : decode cX7_prepare 9 = .ok (.astore_n 2, 1) := by decide +kernel
theorem dX7_prepare_10 : decode cX7_prepare 10 = .ok (.aload_n 2, 1) := by decide +kernel
theorem dX7_prepare_11 : decode cX7_prepare 11 = .ok (.ifnull 8, 3) := by decide +kernel
theorem dX7_prepare_14 : decode cX7_prepare 14 = .ok (.aload_n 2, 1) := by decide +kernel
theorem dX7_prepare_15 : decode cX7_prepare 15 = .ok (.aload_n 1, 1) := by decide +kernel
theorem dX7_prepare_16 : decode cX7_prepare 16 = .ok (.invokevirtual 25, 3) := by decide +kernel
theorem dX7_prepare_19 : decode cX7_prepare 19 = .ok (.return_, 1) := by decide +kernel
theorem dX7_keep_0 : decode cX7_keep 0 = .ok (.aload_n 0, 1) := by decide +kernel
theorem dX7_keep_1 : decode cX7_keep 1 = .ok (.aload_n 0, 1) := by decide +kernel
theorem dX7_keep_2 : decode cX7_keep 2 = .ok (.getfield 17, 3) := by decide +kernel
theorem dX7_keep_5 : decode cX7_keep 5 = .ok (.iconst 1, 1) := by decide +kernel
theorem dX7_keep_6 : decode cX7_keep 6 = .ok (.iadd, 1) := by decide +kernel
theorem dX7_keep_7 : decode cX7_keep 7 = .ok (.bipush 9, 2) := by decide +kernel
theorem dX7_keep_9 : decode cX7_keep 9 = .ok (.irem, 1) := by decide +kernel
theorem dX7_keep_10 : decode cX7_keep 10 = .ok (.putfield 17, 3) := by decide +kernel
theorem dX7_keep_13 : decode cX7_keep 13 = .ok (.aload_n 0, 1) := by decide +kernel
theorem dX7_keep_14 : decode cX7_keep 14 = .ok (.aload_n 0, 1) := by decide +kernel
theorem dX7_keep_15 : decode cX7_keep 15 = .ok (.getfield 21, 3) := by decide +kernel
theorem dX7_keep_18 : decode cX7_keep 18 = .ok (.iconst 1, 1) := by decide +kernel
theorem dX7_keep_19 : decode cX7_keep 19 = .ok (.iadd, 1) := by decide +kernel
theorem dX7_keep_20 : decode cX7_keep 20 = .ok (.bipush 8, 2) := by decide +kernel
theorem dX7_keep_22 : decode cX7_keep 22 = .ok (.invokestatic 29, 3) := by decide +kernel
theorem dX7_keep_25 : decode cX7_keep 25 = .ok (.putfield 21, 3) := by decide +kernel
theorem dX7_keep_28 : decode cX7_keep 28 = .ok (.return_, 1) := by decide +kernel
theorem dX7_putBack_0 : decode cX7_putBack 0 = .ok (.aload_n 0, 1) := by decide +kernel
theorem dX7_putBack_1 : decode cX7_putBack 1 = .ok (.getfield 13, 3) := by decide +kernel
theorem dX7_putBack_4 : decode cX7_putBack 4 = .ok (.aload_n 0, 1) := by decide +kernel
theorem dX7_putBack_5 : decode cX7_putBack 5 = .ok (.getfield 17, 3) := by decide +kernel
theorem dX7_putBack_8 : decode cX7_putBack 8 = .ok (.aaload, 1) := by decide +kernel
theorem dX7_putBack_9 : decode cX7_putBack 9 = .ok (.astore_n 2, 1) := by decide +kernel
theorem dX7_putBack_10 : decode cX7_putBack 10 = .ok (.aload_n 2, 1) := by decide +kernel
theorem dX7_putBack_11 : decode cX7_putBack 11 = .ok (.ifnull 8, 3) := by decide +kernel
theorem dX7_putBack_14 : decode cX7_putBack 14 = .ok (.aload_n 1, 1) := by decide +kernel
theorem dX7_putBack_15 : decode cX7_putBack 15 = .ok (.aload_n 2, 1) := by decide +kernel
theorem dX7_putBack_16 : decode cX7_putBack 16 = .ok (.invokevirtual 25, 3) := by decide +kernel
theorem dX7_putBack_19 : decode cX7_putBack 19 = .ok (.return_, 1) := by decide +kernel
theorem dX7_goBack_0 : decode cX7_goBack 0 = .ok (.aload_n 0, 1) := by decide +kernel
theorem dX7_goBack_1 : decode cX7_goBack 1 = .ok (.aload_n 0, 1) := by decide +kernel
theorem dX7_goBack_2 : decode cX7_goBack 2 = .ok (.getfield 17, 3) := by decide +kernel
theorem dX7_goBack_5 : decode cX7_goBack 5 = .ok (.bipush 9, 2) := by decide +kernel
theorem dX7_goBack_7 : decode cX7_goBack 7 = .ok (.iadd, 1) := by decide +kernel
theorem dX7_goBack_8 : decode cX7_goBack 8 = .ok (.iconst 1, 1) := by decide +kernel
theorem dX7_goBack_9 : decode cX7_goBack 9 = .ok (.isub, 1) := by decide +kernel
theorem dX7_goBack_10 : decode cX7_goBack 10 = .ok (.bipush 9, 2) := by decide +kernel
theorem dX7_goBack_12 : decode cX7_goBack 12 = .ok (.irem, 1) := by decide +kernel
theorem dX7_goBack_13 : decode cX7_goBack 13 = .ok (.putfield 17, 3) := by decide +kernel
theorem dX7_goBack_16 : decode cX7_goBack 16 = .ok (.aload_n 0, 1) := by decide +kernel
theorem dX7_goBack_17 : decode cX7_goBack 17 = .ok (.dup, 1) := by decide +kernel
theorem dX7_goBack_18 : decode cX7_goBack 18 = .ok (.getfield 21, 3) := by decide +kernel
theorem dX7_goBack_21 : decode cX7_goBack 21 = .ok (.iconst 1, 1) := by decide +kernel
theorem dX7_goBack_22 : decode cX7_goBack 22 = .ok (.isub, 1) := by decide +kernel
theorem dX7_goBack_23 : decode cX7_goBack 23 = .ok (.putfield 21, 3) := by decide +kernel
theorem dX7_goBack_26 : decode cX7_goBack 26 = .ok (.aload_n 0, 1) := by decide +kernel
theorem dX7_goBack_27 : decode cX7_goBack 27 = .ok (.aload_n 1, 1) := by decide +kernel
theorem dX7_goBack_28 : decode cX7_goBack 28 = .ok (.invokevirtual 35, 3) := by decide +kernel
theorem dX7_goBack_31 : decode cX7_goBack 31 = .ok (.aload_n 0, 1) := by decide +kernel
theorem dX7_goBack_32 : decode cX7_goBack 32 = .ok (.getfield 21, 3) := by decide +kernel
theorem dX7_goBack_35 : decode cX7_goBack 35 = .ok (.ireturn, 1) := by decide +kernel
theorem dX7_forget_0 : decode cX7_forget 0 = .ok (.aload_n 0, 1) := by decide +kernel
theorem dX7_forget_1 : decode cX7_forget 1 = .ok (.iconst 0, 1) := by decide +kernel
theorem dX7_forget_2 : decode cX7_forget 2 = .ok (.putfield 21, 3) := by decide +kernel
theorem dX7_forget_5 : decode cX7_forget 5 = .ok (.return_, 1) := by decide +kernel
theorem dX8_init_0 : decode cX8_init 0 = .ok (.aload_n 0, 1) := by decide +kernel
theorem dX8_init_1 : decode cX8_init 1 = .ok (.invokespecial 3, 3) := by decide +kernel
theorem dX8_init_4 : decode cX8_init 4 = .ok (.aload_n 0, 1) := by decide +kernel
theorem dX8_init_5 : decode cX8_init 5 = .ok (.bipush 12, 2) := by decide +kernel
theorem dX8_init_7 : decode cX8_init 7 = .ok (.newarray .int, 2) := by decide +kernel
theorem dX8_init_9 : decode cX8_init 9 = .ok (.putfield 9, 3) := by decide +kernel
theorem dX8_init_12 : decode cX8_init 12 = .ok (.aload_n 0, 1) := by decide +kernel
theorem dX8_init_13 : decode cX8_init 13 = .ok (.bipush 12, 2) := by decide +kernel
theorem dX8_init_15 : decode cX8_init 15 = .ok (.newarray .int, 2) := by decide +kernel
theorem dX8_init_17 : decode cX8_init 17 = .ok (.putfield 15, 3) := by decide +kernel
theorem dX8_init_20 : decode cX8_init 20 = .ok (.aload_n 0, 1) := by decide +kernel
theorem dX8_init_21 : decode cX8_init 21 = .ok (.bipush 12, 2) := by decide +kernel
theorem dX8_init_23 : decode cX8_init 23 = .ok (.newarray .int, 2) := by decide +kernel
theorem dX8_init_25 : decode cX8_init 25 = .ok (.putfield 18, 3) := by decide +kernel
theorem dX8_init_28 : decode cX8_init 28 = .ok (.aload_n 0, 1) := by decide +kernel
theorem dX8_init_29 : decode cX8_init 29 = .ok (.bipush 12, 2) := by decide +kernel
theorem dX8_init_31 : decode cX8_init 31 = .ok (.newarray .int, 2) := by decide +kernel
theorem dX8_init_33 : decode cX8_init 33 = .ok (.putfield 21, 3) := by decide +kernel
theorem dX8_init_36 : decode cX8_init 36 = .ok (.aload_n 0, 1) := by decide +kernel
theorem dX8_init_37 : decode cX8_init 37 = .ok (.bipush 12, 2) := by decide +kernel
theorem dX8_init_39 : decode cX8_init 39 = .ok (.newarray .int, 2) := by decide +kernel
theorem dX8_init_41 : decode cX8_init 41 = .ok (.putfield 24, 3) := by decide +kernel
theorem dX8_init_44 : decode cX8_init 44 = .ok (.aload_n 0, 1) := by decide +kernel
theorem dX8_init_45 : decode cX8_init 45 = .ok (.iconst 0, 1) := by decide +kernel
theorem dX8_init_46 : decode cX8_init 46 = .ok (.putfield 27, 3) := by decide +kernel
theorem dX8_init_49 : decode cX8_init 49 = .ok (.return_, 1) := by decide +kernel
theorem dX8_copyFrom_0 : decode cX8_copyFrom 0 = .ok (.aload_n 1, 1) := by decide +kernel
theorem dX8_copyFrom_1 : decode cX8_copyFrom 1 = .ok (.getfield 9, 3) := by decide +kernel
theorem dX8_copyFrom_4 : decode cX8_copyFrom 4 = .ok (.iconst 0, 1) := by decide +kernel
theorem dX8_copyFrom_5 : decode cX8_copyFrom 5 = .ok (.aload_n 0, 1) := by decide +kernel
theorem dX8_copyFrom_6 : decode cX8_copyFrom 6 = .ok (.getfield 9, 3) := by decide +kernel
theorem dX8_copyFrom_9 : decode cX8_copyFrom 9 = .ok (.iconst 0, 1) := by decide +kernel
theorem dX8_copyFrom_10 : decode cX8_copyFrom 10 = .ok (.bipush 12, 2) := by decide +kernel
theorem dX8_copyFrom_12 : decode cX8_copyFrom 12 = .ok (.invokestatic 31, 3) := by decide +kernel
theorem dX8_copyFrom_15 : decode cX8_copyFrom 15 = .ok (.aload_n 1, 1) := by decide +kernel
theorem dX8_copyFrom_16 : decode cX8_copyFrom 16 = .ok (.getfield 15, 3) := by decide +kernel
theorem dX8_copyFrom_19 : decode cX8_copyFrom 19 = .ok (.iconst 0, 1) := by decide +kernel
theorem dX8_copyFrom_20 : decode cX8_copyFrom 20 = .ok (.aload_n 0, 1) := by decide +kernel
theorem dX8_copyFrom_21 : decode cX8_copyFrom 21 = .ok (.getfield 15, 3) := by decide +kernel
theorem dX8_copyFrom_24 : decode cX8_copyFrom 24 = .ok (.iconst 0, 1) := by decide +kernel
theorem dX8_copyFrom_25 : decode cX8_copyFrom 25 = .ok (.bipush 12, 2) := by decide +kernel
theorem dX8_copyFrom_27 : decode cX8_copyFrom 27 = .ok (.invokestatic 31, 3) := by decide +kernel
theorem dX8_copyFrom_30 : decode cX8_copyFrom 30 = .ok (.aload_n 1, 1) := by decide +kernel
theorem dX8_copyFrom_31 : decode cX8_copyFrom 31 = .ok (.getfield 18, 3) := by decide +kernel
theorem dX8_copyFrom_34 : decode cX8_copyFrom 34 = .ok (.iconst 0, 1) := by decide +kernel
theorem dX8_copyFrom_35 : decode cX8_copyFrom 35 = .ok (.aload_n 0, 1) := by decide +kernel
theorem dX8_copyFrom_36 : decode cX8_copyFrom 36 = .ok (.getfield 18, 3) := by decide +kernel
theorem dX8_copyFrom_39 : decode cX8_copyFrom 39 = .ok (.iconst 0, 1) := by decide +kernel
theorem dX8_copyFrom_40 : decode cX8_copyFrom 40 = .ok (.bipush 12, 2) := by decide +kernel
theorem dX8_copyFrom_42 : decode cX8_copyFrom 42 = .ok (.invokestatic 31, 3) := by decide +kernel
theorem dX8_copyFrom_45 : decode cX8_copyFrom 45 = .ok (.aload_n 1, 1) := by decide +kernel
theorem dX8_copyFrom_46 : decode cX8_copyFrom 46 = .ok (.getfield 21, 3) := by decide +kernel
theorem dX8_copyFrom_49 : decode cX8_copyFrom 49 = .ok (.iconst 0, 1) := by decide +kernel
theorem dX8_copyFrom_50 : decode cX8_copyFrom 50 = .ok (.aload_n 0, 1) := by decide +kernel
theorem dX8_copyFrom_51 : decode cX8_copyFrom 51 = .ok (.getfield 21, 3) := by decide +kernel
theorem dX8_copyFrom_54 : decode cX8_copyFrom 54 = .ok (.iconst 0, 1) := by decide +kernel
theorem dX8_copyFrom_55 : decode cX8_copyFrom 55 = .ok (.bipush 12, 2) := by decide +kernel
theorem dX8_copyFrom_57 : decode cX8_copyFrom 57 = .ok (.invokestatic 31, 3) := by decide +kernel
theorem dX8_copyFrom_60 : decode cX8_copyFrom 60 = .ok (.aload_n 1, 1) := by decide +kernel
theorem dX8_copyFrom_61 : decode cX8_copyFrom 61 = .ok (.getfield 24, 3) := by decide +kernel
theorem dX8_copyFrom_64 : decode cX8_copyFrom 64 = .ok (.iconst 0, 1) := by decide +kernel
theorem dX8_copyFrom_65 : decode cX8_copyFrom 65 = .ok (.aload_n 0, 1) := by decide +kernel
theorem dX8_copyFrom_66 : decode cX8_copyFrom 66 = .ok (.getfield 24, 3) := by decide +kernel
theorem dX8_copyFrom_69 : decode cX8_copyFrom 69 = .ok (.iconst 0, 1) := by decide +kernel
theorem dX8_copyFrom_70 : decode cX8_copyFrom 70 = .ok (.bipush 12, 2) := by decide +kernel
theorem dX8_copyFrom_72 : decode cX8_copyFrom 72 = .ok (.invokestatic 31, 3) := by decide +kernel
theorem dX8_copyFrom_75 : decode cX8_copyFrom 75 = .ok (.aload_n 0, 1) := by decide +kernel
theorem dX8_copyFrom_76 : decode cX8_copyFrom 76 = .ok (.aload_n 1, 1) := by decide +kernel
theorem dX8_copyFrom_77 : decode cX8_copyFrom 77 = .ok (.getfield 27, 3) := by decide +kernel
theorem dX8_copyFrom_80 : decode cX8_copyFrom 80 = .ok (.putfield 27, 3) := by decide +kernel
theorem dX8_copyFrom_83 : decode cX8_copyFrom 83 = .ok (.return_, 1) := by decide +kernel
theorem dX8_size_0 : decode cX8_size 0 = .ok (.aload_n 0, 1) := by decide +kernel
theorem dX8_size_1 : decode cX8_size 1 = .ok (.getfield 27, 3) := by decide +kernel
theorem dX8_size_4 : decode cX8_size 4 = .ok (.ireturn, 1) := by decide +kernel
theorem dX8_isFull_0 : decode cX8_isFull 0 = .ok (.aload_n 0, 1) := by decide +kernel
theorem dX8_isFull_1 : decode cX8_isFull 1 = .ok (.getfield 27, 3) := by decide +kernel
theorem dX8_isFull_4 : decode cX8_isFull 4 = .ok (.bipush 12, 2) := by decide +kernel
theorem dX8_isFull_6 : decode cX8_isFull 6 = .ok (.if_icmp .lt 7, 3) := by decide +kernel
theorem dX8_isFull_9 : decode cX8_isFull 9 = .ok (.iconst 1, 1) := by decide +kernel
theorem dX8_isFull_10 : decode cX8_isFull 10 = .ok (.goto 4, 3) := by decide +kernel
theorem dX8_isFull_13 : decode cX8_isFull 13 = .ok (.iconst 0, 1) := by decide +kernel
theorem dX8_isFull_14 : decode cX8_isFull 14 = .ok (.ireturn, 1) := by decide +kernel
theorem dX8_add_0 : decode cX8_add 0 = .ok (.aload_n 0, 1) := by decide +kernel
theorem dX8_add_1 : decode cX8_add 1 = .ok (.getfield 27, 3) := by decide +kernel
theorem dX8_add_4 : decode cX8_add 4 = .ok (.istore 4, 2) := by decide +kernel
theorem dX8_add_6 : decode cX8_add 6 = .ok (.aload_n 0, 1) := by decide +kernel
theorem dX8_add_7 : decode cX8_add 7 = .ok (.getfield 9, 3) := by decide +kernel
theorem dX8_add_10 : decode cX8_add 10 = .ok (.iload 4, 2) := by decide +kernel
theorem dX8_add_12 : decode cX8_add 12 = .ok (.iload_n 1, 1) := by decide +kernel
theorem dX8_add_13 : decode cX8_add 13 = .ok (.iastore, 1) := by decide +kernel
theorem dX8_add_14 : decode cX8_add 14 = .ok (.aload_n 0, 1) := by decide +kernel
theorem dX8_add_15 : decode cX8_add 15 = .ok (.getfield 15, 3) := by decide +kernel
theorem dX8_add_18 : decode cX8_add 18 = .ok (.iload 4, 2) := by decide +kernel
theorem dX8_add_20 : decode cX8_add 20 = .ok (.iload_n 2, 1) := by decide +kernel
theorem dX8_add_21 : decode cX8_add 21 = .ok (.iastore, 1) := by decide +kernel
theorem dX8_add_22 : decode cX8_add 22 = .ok (.aload_n 0, 1) := by decide +kernel
theorem dX8_add_23 : decode cX8_add 23 = .ok (.getfield 18, 3) := by decide +kernel
theorem dX8_add_26 : decode cX8_add 26 = .ok (.iload 4, 2) := by decide +kernel
theorem dX8_add_28 : decode cX8_add 28 = .ok (.iload_n 3, 1) := by decide +kernel
theorem dX8_add_29 : decode cX8_add 29 = .ok (.iastore, 1) := by decide +kernel
theorem dX8_add_30 : decode cX8_add 30 = .ok (.aload_n 0, 1) := by decide +kernel
theorem dX8_add_31 : decode cX8_add 31 = .ok (.getfield 21, 3) := by decide +kernel
theorem dX8_add_34 : decode cX8_add 34 = .ok (.iload 4, 2) := by decide +kernel
theorem dX8_add_36 : decode cX8_add 36 = .ok (.iconst (-1), 1) := by decide +kernel
theorem dX8_add_37 : decode cX8_add 37 = .ok (.iastore, 1) := by decide +kernel
theorem dX8_add_38 : decode cX8_add 38 = .ok (.aload_n 0, 1) := by decide +kernel
theorem dX8_add_39 : decode cX8_add 39 = .ok (.getfield 24, 3) := by decide +kernel
theorem dX8_add_42 : decode cX8_add 42 = .ok (.iload 4, 2) := by decide +kernel
theorem dX8_add_44 : decode cX8_add 44 = .ok (.iconst 0, 1) := by decide +kernel
theorem dX8_add_45 : decode cX8_add 45 = .ok (.iastore, 1) := by decide +kernel
theorem dX8_add_46 : decode cX8_add 46 = .ok (.aload_n 0, 1) := by decide +kernel
theorem dX8_add_47 : decode cX8_add 47 = .ok (.dup, 1) := by decide +kernel
