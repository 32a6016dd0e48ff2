theorem dX9_shortenBy_65 : decode cX9_shortenBy 65 = .ok (.if_icmp .ge 19, 3) := by decide +kernel
theorem dX9_shortenBy_68 : decode cX9_shortenBy 68 = .ok (.aload_n 0, 1) := by decide +kernel
theorem dX9_shortenBy_69 : decode cX9_shortenBy 69 = .ok (.getfield 22, 3) := by decide +kernel
theorem dX9_shortenBy_72 : decode cX9_shortenBy 72 = .ok (.iload_n 1, 1) := by decide +kernel
theorem dX9_shortenBy_73 : decode cX9_shortenBy 73 = .ok (.bipush 6, 2) := by decide +kernel
theorem dX9_shortenBy_75 : decode cX9_shortenBy 75 = .ok (.imul, 1) := by decide +kernel
theorem dX9_shortenBy_76 : decode cX9_shortenBy 76 = .ok (.iload_n 3, 1) := by decide +kernel
theorem dX9_shortenBy_77 : decode cX9_shortenBy 77 = .ok (.iadd, 1) := by decide +kernel
theorem dX9_shortenBy_78 : decode cX9_shortenBy 78 = .ok (.iload 4, 2) := by decide +kernel
theorem dX9_shortenBy_80 : decode cX9_shortenBy 80 = .ok (.iload 5, 2) := by decide +kernel
theorem dX9_shortenBy_82 : decode cX9_shortenBy 82 = .ok (.iadd, 1) := by decide +kernel
theorem dX9_shortenBy_83 : decode cX9_shortenBy 83 = .ok (.iastore, 1) := by decide +kernel
theorem dX9_shortenBy_84 : decode cX9_shortenBy 84 = .ok (.return_, 1) := by decide +kernel
theorem dX9_measuredByRounds_0 : decode cX9_measuredByRounds 0 = .ok (.aload_n 0, 1) := by decide +kernel
theorem dX9_measuredByRounds_1 : decode cX9_measuredByRounds 1 = .ok (.getfield 22, 3) := by decide +kernel
theorem dX9_measuredByRounds_4 : decode cX9_measuredByRounds 4 = .ok (.iload_n 1, 1) := by decide +kernel
theorem dX9_measuredByRounds_5 : decode cX9_measuredByRounds 5 = .ok (.bipush 6, 2) := by decide +kernel
theorem dX9_measuredByRounds_7 : decode cX9_measuredByRounds 7 = .ok (.imul, 1) := by decide +kernel
theorem dX9_measuredByRounds_8 : decode cX9_measuredByRounds 8 = .ok (.iload_n 2, 1) := by decide +kernel
theorem dX9_measuredByRounds_9 : decode cX9_measuredByRounds 9 = .ok (.iadd, 1) := by decide +kernel
theorem dX9_measuredByRounds_10 : decode cX9_measuredByRounds 10 = .ok (.iaload, 1) := by decide +kernel
theorem dX9_measuredByRounds_11 : decode cX9_measuredByRounds 11 = .ok (.ireturn, 1) := by decide +kernel
theorem dX9_bothDistancesAgree_0 : decode cX9_bothDistancesAgree 0 = .ok (.aload_n 0, 1) := by decide +kernel
theorem dX9_bothDistancesAgree_1 : decode cX9_bothDistancesAgree 1 = .ok (.invokevirtual 58, 3) := by decide +kernel
theorem dX9_bothDistancesAgree_4 : decode cX9_bothDistancesAgree 4 = .ok (.iconst 0, 1) := by decide +kernel
theorem dX9_bothDistancesAgree_5 : decode cX9_bothDistancesAgree 5 = .ok (.istore_n 1, 1) := by decide +kernel
theorem dX9_bothDistancesAgree_6 : decode cX9_bothDistancesAgree 6 = .ok (.iload_n 1, 1) := by decide +kernel
theorem dX9_bothDistancesAgree_7 : decode cX9_bothDistancesAgree 7 = .ok (.bipush 6, 2) := by decide +kernel
theorem dX9_bothDistancesAgree_9 : decode cX9_bothDistancesAgree 9 = .ok (.if_icmp .ge 45, 3) := by decide +kernel
theorem dX9_bothDistancesAgree_12 : decode cX9_bothDistancesAgree 12 = .ok (.aload_n 0, 1) := by decide +kernel
theorem dX9_bothDistancesAgree_13 : decode cX9_bothDistancesAgree 13 = .ok (.iload_n 1, 1) := by decide +kernel
theorem dX9_bothDistancesAgree_14 : decode cX9_bothDistancesAgree 14 = .ok (.invokevirtual 39, 3) := by decide +kernel
theorem dX9_bothDistancesAgree_17 : decode cX9_bothDistancesAgree 17 = .ok (.iconst 0, 1) := by decide +kernel
theorem dX9_bothDistancesAgree_18 : decode cX9_bothDistancesAgree 18 = .ok (.istore_n 2, 1) := by decide +kernel
theorem dX9_bothDistancesAgree_19 : decode cX9_bothDistancesAgree 19 = .ok (.iload_n 2, 1) := by decide +kernel
theorem dX9_bothDistancesAgree_20 : decode cX9_bothDistancesAgree 20 = .ok (.bipush 6, 2) := by decide +kernel
theorem dX9_bothDistancesAgree_22 : decode cX9_bothDistancesAgree 22 = .ok (.if_icmp .ge 26, 3) := by decide +kernel
theorem dX9_bothDistancesAgree_25 : decode cX9_bothDistancesAgree 25 = .ok (.aload_n 0, 1) := by decide +kernel
theorem dX9_bothDistancesAgree_26 : decode cX9_bothDistancesAgree 26 = .ok (.getfield 15, 3) := by decide +kernel
theorem dX9_bothDistancesAgree_29 : decode cX9_bothDistancesAgree 29 = .ok (.iload_n 2, 1) := by decide +kernel
theorem dX9_bothDistancesAgree_30 : decode cX9_bothDistancesAgree 30 = .ok (.iaload, 1) := by decide +kernel
theorem dX9_bothDistancesAgree_31 : decode cX9_bothDistancesAgree 31 = .ok (.aload_n 0, 1) := by decide +kernel
theorem dX9_bothDistancesAgree_32 : decode cX9_bothDistancesAgree 32 = .ok (.iload_n 1, 1) := by decide +kernel
theorem dX9_bothDistancesAgree_33 : decode cX9_bothDistancesAgree 33 = .ok (.iload_n 2, 1) := by decide +kernel
theorem dX9_bothDistancesAgree_34 : decode cX9_bothDistancesAgree 34 = .ok (.invokevirtual 61, 3) := by decide +kernel
theorem dX9_bothDistancesAgree_37 : decode cX9_bothDistancesAgree 37 = .ok (.if_icmp .eq 5, 3) := by decide +kernel
theorem dX9_bothDistancesAgree_40 : decode cX9_bothDistancesAgree 40 = .ok (.iconst 0, 1) := by decide +kernel
theorem dX9_bothDistancesAgree_41 : decode cX9_bothDistancesAgree 41 = .ok (.ireturn, 1) := by decide +kernel
theorem dX9_bothDistancesAgree_42 : decode cX9_bothDistancesAgree 42 = .ok (.iinc 2 1, 3) := by decide +kernel
theorem dX9_bothDistancesAgree_45 : decode cX9_bothDistancesAgree 45 = .ok (.goto (-26), 3) := by decide +kernel
theorem dX9_bothDistancesAgree_48 : decode cX9_bothDistancesAgree 48 = .ok (.iinc 1 1, 3) := by decide +kernel
theorem dX9_bothDistancesAgree_51 : decode cX9_bothDistancesAgree 51 = .ok (.goto (-45), 3) := by decide +kernel
theorem dX9_bothDistancesAgree_54 : decode cX9_bothDistancesAgree 54 = .ok (.iconst 1, 1) := by decide +kernel
theorem dX9_bothDistancesAgree_55 : decode cX9_bothDistancesAgree 55 = .ok (.ireturn, 1) := by decide +kernel
theorem dX10_init_0 : decode cX10_init 0 = .ok (.aload_n 0, 1) := by decide +kernel
theorem dX10_init_1 : decode cX10_init 1 = .ok (.invokespecial 3, 3) := by decide +kernel
theorem dX10_init_4 : decode cX10_init 4 = .ok (.aload_n 0, 1) := by decide +kernel
theorem dX10_init_5 : decode cX10_init 5 = .ok (.bipush 100, 2) := by decide +kernel
theorem dX10_init_7 : decode cX10_init 7 = .ok (.newarray .char, 2) := by decide +kernel
theorem dX10_init_9 : decode cX10_init 9 = .ok (.putfield 9, 3) := by decide +kernel
theorem dX10_init_12 : decode cX10_init 12 = .ok (.aload_n 0, 1) := by decide +kernel
theorem dX10_init_13 : decode cX10_init 13 = .ok (.iconst 0, 1) := by decide +kernel
theorem dX10_init_14 : decode cX10_init 14 = .ok (.putfield 15, 3) := by decide +kernel
theorem dX10_init_17 : decode cX10_init 17 = .ok (.return_, 1) := by decide +kernel
theorem dX10_size_0 : decode cX10_size 0 = .ok (.aload_n 0, 1) := by decide +kernel
theorem dX10_size_1 : decode cX10_size 1 = .ok (.getfield 15, 3) := by decide +kernel
theorem dX10_size_4 : decode cX10_size 4 = .ok (.ireturn, 1) := by decide +kernel
theorem dX10_at_0 : decode cX10_at 0 = .ok (.aload_n 0, 1) := by decide +kernel
theorem dX10_at_1 : decode cX10_at 1 = .ok (.getfield 9, 3) := by decide +kernel
theorem dX10_at_4 : decode cX10_at 4 = .ok (.iload_n 1, 1) := by decide +kernel
theorem dX10_at_5 : decode cX10_at 5 = .ok (.caload, 1) := by decide +kernel
theorem dX10_at_6 : decode cX10_at 6 = .ok (.ireturn, 1) := by decide +kernel
theorem dX10_describe_0 : decode cX10_describe 0 = .ok (.aload_n 0, 1) := by decide +kernel
theorem dX10_describe_1 : decode cX10_describe 1 = .ok (.iconst 0, 1) := by decide +kernel
theorem dX10_describe_2 : decode cX10_describe 2 = .ok (.putfield 15, 3) := by decide +kernel
theorem dX10_describe_5 : decode cX10_describe 5 = .ok (.aload_n 0, 1) := by decide +kernel
theorem dX10_describe_6 : decode cX10_describe 6 = .ok (.bipush 115, 2) := by decide +kernel
theorem dX10_describe_8 : decode cX10_describe 8 = .ok (.invokevirtual 19, 3) := by decide +kernel
theorem dX10_describe_11 : decode cX10_describe 11 = .ok (.aload_n 0, 1) := by decide +kernel
theorem dX10_describe_12 : decode cX10_describe 12 = .ok (.iload_n 2, 1) := by decide +kernel
theorem dX10_describe_13 : decode cX10_describe 13 = .ok (.invokevirtual 23, 3) := by decide +kernel
theorem dX10_describe_16 : decode cX10_describe 16 = .ok (.aload_n 0, 1) := by decide +kernel
theorem dX10_describe_17 : decode cX10_describe 17 = .ok (.bipush 64, 2) := by decide +kernel
theorem dX10_describe_19 : decode cX10_describe 19 = .ok (.invokevirtual 19, 3) := by decide +kernel
theorem dX10_describe_22 : decode cX10_describe 22 = .ok (.aload_n 0, 1) := by decide +kernel
theorem dX10_describe_23 : decode cX10_describe 23 = .ok (.aload_n 1, 1) := by decide +kernel
theorem dX10_describe_24 : decode cX10_describe 24 = .ok (.getfield 27, 3) := by decide +kernel
theorem dX10_describe_27 : decode cX10_describe 27 = .ok (.iload_n 2, 1) := by decide +kernel
theorem dX10_describe_28 : decode cX10_describe 28 = .ok (.invokevirtual 33, 3) := by decide +kernel
theorem dX10_describe_31 : decode cX10_describe 31 = .ok (.invokevirtual 23, 3) := by decide +kernel
theorem dX10_describe_34 : decode cX10_describe 34 = .ok (.iconst 0, 1) := by decide +kernel
theorem dX10_describe_35 : decode cX10_describe 35 = .ok (.istore_n 3, 1) := by decide +kernel
theorem dX10_describe_36 : decode cX10_describe 36 = .ok (.iload_n 3, 1) := by decide +kernel
theorem dX10_describe_37 : decode cX10_describe 37 = .ok (.aload_n 1, 1) := by decide +kernel
theorem dX10_describe_38 : decode cX10_describe 38 = .ok (.getfield 39, 3) := by decide +kernel
theorem dX10_describe_41 : decode cX10_describe 41 = .ok (.invokevirtual 43, 3) := by decide +kernel
theorem dX10_describe_44 : decode cX10_describe 44 = .ok (.if_icmp .ge 30, 3) := by decide +kernel
theorem dX10_describe_47 : decode cX10_describe 47 = .ok (.aload_n 1, 1) := by decide +kernel
theorem dX10_describe_48 : decode cX10_describe 48 = .ok (.getfield 39, 3) := by decide +kernel
theorem dX10_describe_51 : decode cX10_describe 51 = .ok (.iload_n 3, 1) := by decide +kernel
theorem dX10_describe_52 : decode cX10_describe 52 = .ok (.invokevirtual 49, 3) := by decide +kernel
theorem dX10_describe_55 : decode cX10_describe 55 = .ok (.iload_n 2, 1) := by decide +kernel
theorem dX10_describe_56 : decode cX10_describe 56 = .ok (.if_icmp .ne 12, 3) := by decide +kernel
theorem dX10_describe_59 : decode cX10_describe 59 = .ok (.aload_n 0, 1) := by decide +kernel
theorem dX10_describe_60 : decode cX10_describe 60 = .ok (.aload_n 1, 1) := by decide +kernel
theorem dX10_describe_61 : decode cX10_describe 61 = .ok (.getfield 39, 3) := by decide +kernel
theorem dX10_describe_64 : decode cX10_describe 64 = .ok (.iload_n 3, 1) := by decide +kernel
theorem dX10_describe_65 : decode cX10_describe 65 = .ok (.invokevirtual 52, 3) := by decide +kernel
theorem dX10_describe_68 : decode cX10_describe 68 = .ok (.iinc 3 1, 3) := by decide +kernel
theorem dX10_describe_71 : decode cX10_describe 71 = .ok (.goto (-35), 3) := by decide +kernel
theorem dX10_describe_74 : decode cX10_describe 74 = .ok (.aload_n 0, 1) := by decide +kernel
theorem dX10_describe_75 : decode cX10_describe 75 = .ok (.getfield 15, 3) := by decide +kernel
theorem dX10_describe_78 : decode cX10_describe 78 = .ok (.ireturn, 1) := by decide +kernel
theorem dX10_addParcel_0 : decode cX10_addParcel 0 = .ok (.aload_n 0, 1) := by decide +kernel
theorem dX10_addParcel_1 : decode cX10_addParcel 1 = .ok (.bipush 32, 2) := by decide +kernel
theorem dX10_addParcel_3 : decode cX10_addParcel 3 = .ok (.invokevirtual 19, 3) := by decide +kernel
theorem dX10_addParcel_6 : decode cX10_addParcel 6 = .ok (.aload_n 0, 1) := by decide +kernel
theorem dX10_addParcel_7 : decode cX10_addParcel 7 = .ok (.aload_n 1, 1) := by decide +kernel
theorem dX10_addParcel_8 : decode cX10_addParcel 8 = .ok (.iload_n 2, 1) := by decide +kernel
theorem dX10_addParcel_9 : decode cX10_addParcel 9 = .ok (.invokevirtual 56, 3) := by decide +kernel
theorem dX10_addParcel_12 : decode cX10_addParcel 12 = .ok (.invokevirtual 23, 3) := by decide +kernel
theorem dX10_addParcel_15 : decode cX10_addParcel 15 = .ok (.iconst 0, 1) := by decide +kernel
theorem dX10_addParcel_16 : decode cX10_addParcel 16 = .ok (.istore_n 3, 1) := by decide +kernel
theorem dX10_addParcel_17 : decode cX10_addParcel 17 = .ok (.iload_n 3, 1) := by decide +kernel
theorem dX10_addParcel_18 : decode cX10_addParcel 18 = .ok (.aload_n 1, 1) := by decide +kernel
theorem dX10_addParcel_19 : decode cX10_addParcel 19 = .ok (.iload_n 2, 1) := by decide +kernel
theorem dX10_addParcel_20 : decode cX10_addParcel 20 = .ok (.invokevirtual 59, 3) := by decide +kernel
theorem dX10_addParcel_23 : decode cX10_addParcel 23 = .ok (.if_icmp .ge 15, 3) := by decide +kernel
theorem dX10_addParcel_26 : decode cX10_addParcel 26 = .ok (.aload_n 0, 1) := by decide +kernel
theorem dX10_addParcel_27 : decode cX10_addParcel 27 = .ok (.bipush 104, 2) := by decide +kernel
theorem dX10_addParcel_29 : decode cX10_addParcel 29 = .ok (.invokevirtual 19, 3) := by decide +kernel
theorem dX10_addParcel_32 : decode cX10_addParcel 32 = .ok (.iinc 3 1, 3) := by decide +kernel
theorem dX10_addParcel_35 : decode cX10_addParcel 35 = .ok (.goto (-18), 3) := by decide +kernel
theorem dX10_addParcel_38 : decode cX10_addParcel 38 = .ok (.aload_n 0, 1) := by decide +kernel
theorem dX10_addParcel_39 : decode cX10_addParcel 39 = .ok (.bipush 62, 2) := by decide +kernel
theorem dX10_addParcel_41 : decode cX10_addParcel 41 = .ok (.invokevirtual 19, 3) := by decide +kernel
theorem dX10_addParcel_44 : decode cX10_addParcel 44 = .ok (.aload_n 0, 1) := by decide +kernel
theorem dX10_addParcel_45 : decode cX10_addParcel 45 = .ok (.aload_n 1, 1) := by decide +kernel
theorem dX10_addParcel_46 : decode cX10_addParcel 46 = .ok (.iload_n 2, 1) := by decide +kernel
theorem dX10_addParcel_47 : decode cX10_addParcel 47 = .ok (.invokevirtual 62, 3) := by decide +kernel
theorem dX10_addParcel_50 : decode cX10_addParcel 50 = .ok (.invokevirtual 23, 3) := by decide +kernel
theorem dX10_addParcel_53 : decode cX10_addParcel 53 = .ok (.return_, 1) := by decide +kernel
theorem dX10_addNumber_0 : decode cX10_addNumber 0 = .ok (.iload_n 1, 1) := by decide +kernel
theorem dX10_addNumber_1 : decode cX10_addNumber 1 = .ok (.bipush 10, 2) := by decide +kernel
theorem dX10_addNumber_3 : decode cX10_addNumber 3 = .ok (.if_icmp .lt 15, 3) := by decide +kernel
theorem dX10_addNumber_6 : decode cX10_addNumber 6 = .ok (.aload_n 0, 1) := by decide +kernel
theorem dX10_addNumber_7 : decode cX10_addNumber 7 = .ok (.bipush 48, 2) := by decide +kernel
theorem dX10_addNumber_9 : decode cX10_addNumber 9 = .ok (.iload_n 1, 1) := by decide +kernel
theorem dX10_addNumber_10 : decode cX10_addNumber 10 = .ok (.bipush 10, 2) := by decide +kernel
theorem dX10_addNumber_12 : decode cX10_addNumber 12 = .ok (.idiv, 1) := by decide +kernel
theorem dX10_addNumber_13 : decode cX10_addNumber 13 = .ok (.iadd, 1) := by decide +kernel
theorem dX10_addNumber_14 : decode cX10_addNumber 14 = .ok (.i2c, 1) := by decide +kernel
theorem dX10_addNumber_15 : decode cX10_addNumber 15 = .ok (.invokevirtual 19, 3) := by decide +kernel
theorem dX10_addNumber_18 : decode cX10_addNumber 18 = .ok (.aload_n 0, 1) := by decide +kernel
theorem dX10_addNumber_19 : decode cX10_addNumber 19 = .ok (.bipush 48, 2) := by decide +kernel
theorem dX10_addNumber_21 : decode cX10_addNumber 21 = .ok (.iload_n 1, 1) := by decide +kernel
theorem dX10_addNumber_22 : decode cX10_addNumber 22 = .ok (.bipush 10, 2) := by decide +kernel
theorem dX10_addNumber_24 : decode cX10_addNumber 24 = .ok (.irem, 1) := by decide +kernel
theorem dX10_addNumber_25 : decode cX10_addNumber 25 = .ok (.iadd, 1) := by decide +kernel
theorem dX10_addNumber_26 : decode cX10_addNumber 26 = .ok (.i2c, 1) := by decide +kernel
theorem dX10_addNumber_27 : decode cX10_addNumber 27 = .ok (.invokevirtual 19, 3) := by decide +kernel
theorem dX10_addNumber_30 : decode cX10_addNumber 30 = .ok (.return_, 1) := by decide +kernel
theorem dX10_add_0 : decode cX10_add 0 = .ok (.aload_n 0, 1) := by decide +kernel
theorem dX10_add_1 : decode cX10_add 1 = .ok (.getfield 15, 3) := by decide +kernel
theorem dX10_add_4 : decode cX10_add 4 = .ok (.bipush 100, 2) := by decide +kernel
theorem dX10_add_6 : decode cX10_add 6 = .ok (.if_icmp .ge 23, 3) := by decide +kernel
theorem dX10_add_9 : decode cX10_add 9 = .ok (.aload_n 0, 1) := by decide +kernel
theorem dX10_add_10 : decode cX10_add 10 = .ok (.getfield 9, 3) := by decide +kernel
theorem dX10_add_13 : decode cX10_add 13 = .ok (.aload_n 0, 1) := by decide +kernel
theorem dX10_add_14 : decode cX10_add 14 = .ok (.getfield 15, 3) := by decide +kernel
theorem dX10_add_17 : decode cX10_add 17 = .ok (.iload_n 1, 1) := by decide +kernel
theorem dX10_add_18 : decode cX10_add 18 = .ok (.castore, 1) := by decide +kernel
theorem dX10_add_19 : decode cX10_add 19 = .ok (.aload_n 0, 1) := by decide +kernel
theorem dX10_add_20 : decode cX10_add 20 = .ok (.dup, 1) := by decide +kernel
theorem dX10_add_21 : decode cX10_add 21 = .ok (.getfield 15, 3) := by decide +kernel
theorem dX10_add_24 : decode cX10_add 24 = .ok (.iconst 1, 1) := by decide +kernel
theorem dX10_add_25 : decode cX10_add 25 = .ok (.iadd, 1) := by decide +kernel
theorem dX10_add_26 : decode cX10_add 26 = .ok (.putfield 15, 3) := by decide +kernel
theorem dX10_add_29 : decode cX10_add 29 = .ok (.return_, 1) := by decide +kernel
theorem dX11_init_0 : decode cX11_init 0 = .ok (.aload_n 0, 1) := by decide +kernel
theorem dX11_init_1 : decode cX11_init 1 = .ok (.invokespecial 3, 3) := by decide +kernel
theorem dX11_init_4 : decode cX11_init 4 = .ok (.aload_n 0, 1) := by decide +kernel
theorem dX11_init_5 : decode cX11_init 5 = .ok (.iconst 3, 1) := by decide +kernel
theorem dX11_init_6 : decode cX11_init 6 = .ok (.newarray .int, 2) := by decide +kernel
theorem dX11_init_8 : decode cX11_init 8 = .ok (.putfield 9, 3) := by decide +kernel
theorem dX11_init_11 : decode cX11_init 11 = .ok (.aload_n 0, 1) := by decide +kernel
theorem dX11_init_12 : decode cX11_init 12 = .ok (.iconst 3, 1) := by decide +kernel
theorem dX11_init_13 : decode cX11_init 13 = .ok (.newarray .int, 2) := by decide +kernel
theorem dX11_init_15 : decode cX11_init 15 = .ok (.putfield 15, 3) := by decide +kernel
theorem dX11_init_18 : decode cX11_init 18 = .ok (.aload_n 0, 1) := by decide +kernel
theorem dX11_init_19 : decode cX11_init 19 = .ok (.iconst 0, 1) := by decide +kernel
theorem dX11_init_20 : decode cX11_init 20 = .ok (.putfield 18, 3) := by decide +kernel
theorem dX11_init_23 : decode cX11_init 23 = .ok (.iconst 0, 1) := by decide +kernel
theorem dX11_init_24 : decode cX11_init 24 = .ok (.istore_n 1, 1) := by decide +kernel
theorem dX11_init_25 : decode cX11_init 25 = .ok (.iload_n 1, 1) := by decide +kernel
theorem dX11_init_26 : decode cX11_init 26 = .ok (.iconst 3, 1) := by decide +kernel
theorem dX11_init_27 : decode cX11_init 27 = .ok (.if_icmp .ge 17, 3) := by decide +kernel
theorem dX11_init_30 : decode cX11_init 30 = .ok (.aload_n 0, 1) := by decide +kernel
theorem dX11_init_31 : decode cX11_init 31 = .ok (.getfield 15, 3) := by decide +kernel
theorem dX11_init_34 : decode cX11_init 34 = .ok (.iload_n 1, 1) := by decide +kernel
theorem dX11_init_35 : decode cX11_init 35 = .ok (.bipush 30, 2) := by decide +kernel
theorem dX11_init_37 : decode cX11_init 37 = .ok (.iastore, 1) := by decide +kernel
theorem dX11_init_38 : decode cX11_init 38 = .ok (.iinc 1 1, 3) := by decide +kernel
theorem dX11_init_41 : decode cX11_init 41 = .ok (.goto (-16), 3) := by decide +kernel
theorem dX11_init_44 : decode cX11_init 44 = .ok (.return_, 1) := by decide +kernel
theorem dX11_copyFrom_0 : decode cX11_copyFrom 0 = .ok (.aload_n 1, 1) := by decide +kernel
theorem dX11_copyFrom_1 : decode cX11_copyFrom 1 = .ok (.getfield 9, 3) := by decide +kernel
theorem dX11_copyFrom_4 : decode cX11_copyFrom 4 = .ok (.iconst 0, 1) := by decide +kernel
theorem dX11_copyFrom_5 : decode cX11_copyFrom 5 = .ok (.aload_n 0, 1) := by decide +kernel
theorem dX11_copyFrom_6 : decode cX11_copyFrom 6 = .ok (.getfield 9, 3) := by decide +kernel
theorem dX11_copyFrom_9 : decode cX11_copyFrom 9 = .ok (.iconst 0, 1) := by decide +kernel
theorem dX11_copyFrom_10 : decode cX11_copyFrom 10 = .ok (.iconst 3, 1) := by decide +kernel
theorem dX11_copyFrom_11 : decode cX11_copyFrom 11 = .ok (.invokestatic 22, 3) := by decide +kernel
theorem dX11_copyFrom_14 : decode cX11_copyFrom 14 = .ok (.aload_n 1, 1) := by decide +kernel
theorem dX11_copyFrom_15 : decode cX11_copyFrom 15 = .ok (.getfield 15, 3) := by decide +kernel
theorem dX11_copyFrom_18 : decode cX11_copyFrom 18 = .ok (.iconst 0, 1) := by decide +kernel
theorem dX11_copyFrom_19 : decode cX11_copyFrom 19 = .ok (.aload_n 0, 1) := by decide +kernel
theorem dX11_copyFrom_20 : decode cX11_copyFrom 20 = .ok (.getfield 15, 3) := by decide +kernel
theorem dX11_copyFrom_23 : decode cX11_copyFrom 23 = .ok (.iconst 0, 1) := by decide +kernel
theorem dX11_copyFrom_24 : decode cX11_copyFrom 24 = .ok (.iconst 3, 1) := by decide +kernel
theorem dX11_copyFrom_25 : decode cX11_copyFrom 25 = .ok (.invokestatic 22, 3) := by decide +kernel
theorem dX11_copyFrom_28 : decode cX11_copyFrom 28 = .ok (.aload_n 0, 1) := by decide +kernel
theorem dX11_copyFrom_29 : decode cX11_copyFrom 29 = .ok (.aload_n 1, 1) := by decide +kernel
theorem dX11_copyFrom_30 : decode cX11_copyFrom 30 = .ok (.getfield 18, 3) := by decide +kernel
theorem dX11_copyFrom_33 : decode cX11_copyFrom 33 = .ok (.putfield 18, 3) := by decide +kernel
theorem dX11_copyFrom_36 : decode cX11_copyFrom 36 = .ok (.return_, 1) := by decide +kernel
theorem dX11_placeOf_0 : decode cX11_placeOf 0 = .ok (.aload_n 0, 1) := by decide +kernel
theorem dX11_placeOf_1 : decode cX11_placeOf 1 = .ok (.getfield 9, 3) := by decide +kernel
theorem dX11_placeOf_4 : decode cX11_placeOf 4 = .ok (.iload_n 1, 1) := by decide +kernel
theorem dX11_placeOf_5 : decode cX11_placeOf 5 = .ok (.iaload, 1) := by decide +kernel
theorem dX11_placeOf_6 : decode cX11_placeOf 6 = .ok (.ireturn, 1) := by decide +kernel
theorem dX11_capacityOf_0 : decode cX11_capacityOf 0 = .ok (.aload_n 0, 1) := by decide +kernel
theorem dX11_capacityOf_1 : decode cX11_capacityOf 1 = .ok (.getfield 15, 3) := by decide +kernel
theorem dX11_capacityOf_4 : decode cX11_capacityOf 4 = .ok (.iload_n 1, 1) := by decide +kernel
theorem dX11_capacityOf_5 : decode cX11_capacityOf 5 = .ok (.iaload, 1) := by decide +kernel
theorem dX11_capacityOf_6 : decode cX11_capacityOf 6 = .ok (.ireturn, 1) := by decide +kernel
theorem dX11_effortOfAll_0 : decode cX11_effortOfAll 0 = .ok (.aload_n 0, 1) := by decide +kernel
theorem dX11_effortOfAll_1 : decode cX11_effortOfAll 1 = .ok (.getfield 18, 3) := by decide +kernel
theorem dX11_effortOfAll_4 : decode cX11_effortOfAll 4 = .ok (.ireturn, 1) := by decide +kernel
theorem dX11_resize_0 : decode cX11_resize 0 = .ok (.aload_n 0, 1) := by decide +kernel
theorem dX11_resize_1 : decode cX11_resize 1 = .ok (.getfield 15, 3) := by decide +kernel
theorem dX11_resize_4 : decode cX11_resize 4 = .ok (.iload_n 1, 1) := by decide +kernel
theorem dX11_resize_5 : decode cX11_resize 5 = .ok (.iaload, 1) := by decide +kernel
theorem dX11_resize_6 : decode cX11_resize 6 = .ok (.istore_n 3, 1) := by decide +kernel
theorem dX11_resize_7 : decode cX11_resize 7 = .ok (.aload_n 0, 1) := by decide +kernel
theorem dX11_resize_8 : decode cX11_resize 8 = .ok (.getfield 15, 3) := by decide +kernel
theorem dX11_resize_11 : decode cX11_resize 11 = .ok (.iload_n 1, 1) := by decide +kernel
theorem dX11_resize_12 : decode cX11_resize 12 = .ok (.iload_n 2, 1) := by decide +kernel
theorem dX11_resize_13 : decode cX11_resize 13 = .ok (.iastore, 1) := by decide +kernel
theorem dX11_resize_14 : decode cX11_resize 14 = .ok (.iload_n 3, 1) := by decide +kernel
theorem dX11_resize_15 : decode cX11_resize 15 = .ok (.ireturn, 1) := by decide +kernel
theorem dX11_move_0 : decode cX11_move 0 = .ok (.aload_n 0, 1) := by decide +kernel
theorem dX11_move_1 : decode cX11_move 1 = .ok (.getfield 9, 3) := by decide +kernel
theorem dX11_move_4 : decode cX11_move 4 = .ok (.iload_n 1, 1) := by decide +kernel
theorem dX11_move_5 : decode cX11_move 5 = .ok (.iload_n 2, 1) := by decide +kernel
theorem dX11_move_6 : decode cX11_move 6 = .ok (.iastore, 1) := by decide +kernel
theorem dX11_move_7 : decode cX11_move 7 = .ok (.aload_n 0, 1) := by decide +kernel
theorem dX11_move_8 : decode cX11_move 8 = .ok (.dup, 1) := by decide +kernel
theorem dX11_move_9 : decode cX11_move 9 = .ok (.getfield 18, 3) := by decide +kernel
theorem dX11_move_12 : decode cX11_move 12 = .ok (.iload_n 3, 1) := by decide +kernel
theorem dX11_move_13 : decode cX11_move 13 = .ok (.iadd, 1) := by decide +kernel
theorem dX11_move_14 : decode cX11_move 14 = .ok (.putfield 18, 3) := by decide +kernel
theorem dX11_move_17 : decode cX11_move 17 = .ok (.return_, 1) := by decide +kernel
theorem dX12_init_0 : decode cX12_init 0 = .ok (.aload_n 0, 1) := by decide +kernel
theorem dX12_init_1 : decode cX12_init 1 = .ok (.invokespecial 1, 3) := by decide +kernel
theorem dX12_init_4 : decode cX12_init 4 = .ok (.aload_n 0, 1) := by decide +kernel
theorem dX12_init_5 : decode cX12_init 5 = .ok (.new 7, 3) := by decide +kernel
theorem dX12_init_8 : decode cX12_init 8 = .ok (.dup, 1) := by decide +kernel
theorem dX12_init_9 : decode cX12_init 9 = .ok (.invokespecial 9, 3) := by decide +kernel
theorem dX12_init_12 : decode cX12_init 12 = .ok (.putfield 10, 3) := by decide +kernel
theorem dX12_init_15 : decode cX12_init 15 = .ok (.aload_n 0, 1) := by decide +kernel
theorem dX12_init_16 : decode cX12_init 16 = .ok (.new 7, 3) := by decide +kernel
theorem dX12_init_19 : decode cX12_init 19 = .ok (.dup, 1) := by decide +kernel
theorem dX12_init_20 : decode cX12_init 20 = .ok (.invokespecial 9, 3) := by decide +kernel
theorem dX12_init_23 : decode cX12_init 23 = .ok (.putfield 16, 3) := by decide +kernel
theorem dX12_init_26 : decode cX12_init 26 = .ok (.aload_n 0, 1) := by decide +kernel
theorem dX12_init_27 : decode cX12_init 27 = .ok (.new 19, 3) := by decide +kernel
theorem dX12_init_30 : decode cX12_init 30 = .ok (.dup, 1) := by decide +kernel
theorem dX12_init_31 : decode cX12_init 31 = .ok (.invokespecial 21, 3) := by decide +kernel
theorem dX12_init_34 : decode cX12_init 34 = .ok (.putfield 22, 3) := by decide +kernel
theorem dX12_init_37 : decode cX12_init 37 = .ok (.aload_n 0, 1) := by decide +kernel
theorem dX12_init_38 : decode cX12_init 38 = .ok (.new 26, 3) := by decide +kernel
theorem dX12_init_41 : decode cX12_init 41 = .ok (.dup, 1) := by decide +kernel
theorem dX12_init_42 : decode cX12_init 42 = .ok (.invokespecial 28, 3) := by decide +kernel
theorem dX12_init_45 : decode cX12_init 45 = .ok (.putfield 29, 3) := by decide +kernel
theorem dX12_init_48 : decode cX12_init 48 = .ok (.aload_n 0, 1) := by decide +kernel
theorem dX12_init_49 : decode cX12_init 49 = .ok (.new 33, 3) := by decide +kernel
theorem dX12_init_52 : decode cX12_init 52 = .ok (.dup, 1) := by decide +kernel
theorem dX12_init_53 : decode cX12_init 53 = .ok (.invokespecial 35, 3) := by decide +kernel
theorem dX12_init_56 : decode cX12_init 56 = .ok (.putfield 36, 3) := by decide +kernel
theorem dX12_init_59 : decode cX12_init 59 = .ok (.aload_n 0, 1) := by decide +kernel
theorem dX12_init_60 : decode cX12_init 60 = .ok (.new 40, 3) := by decide +kernel
theorem dX12_init_63 : decode cX12_init 63 = .ok (.dup, 1) := by decide +kernel
theorem dX12_init_64 : decode cX12_init 64 = .ok (.invokespecial 42, 3) := by decide +kernel
theorem dX12_init_67 : decode cX12_init 67 = .ok (.putfield 43, 3) := by decide +kernel
theorem dX12_init_70 : decode cX12_init 70 = .ok (.aload_n 0, 1) := by decide +kernel
theorem dX12_init_71 : decode cX12_init 71 = .ok (.iconst 0, 1) := by decide +kernel
theorem dX12_init_72 : decode cX12_init 72 = .ok (.putfield 47, 3) := by decide +kernel
theorem dX12_init_75 : decode cX12_init 75 = .ok (.aload_n 0, 1) := by decide +kernel
theorem dX12_init_76 : decode cX12_init 76 = .ok (.iconst (-1), 1) := by decide +kernel
theorem dX12_init_77 : decode cX12_init 77 = .ok (.putfield 51, 3) := by decide +kernel
theorem dX12_init_80 : decode cX12_init 80 = .ok (.aload_n 0, 1) := by decide +kernel
theorem dX12_init_81 : decode cX12_init 81 = .ok (.iconst (-1), 1) := by decide +kernel
theorem dX12_init_82 : decode cX12_init 82 = .ok (.putfield 55, 3) := by decide +kernel
theorem dX12_init_85 : decode cX12_init 85 = .ok (.return_, 1) := by decide +kernel
theorem dX12_buildRoad_0 : decode cX12_buildRoad 0 = .ok (.aload_n 0, 1) := by decide +kernel
theorem dX12_buildRoad_1 : decode cX12_buildRoad 1 = .ok (.getfield 22, 3) := by decide +kernel
theorem dX12_buildRoad_4 : decode cX12_buildRoad 4 = .ok (.aload_n 0, 1) := by decide +kernel
theorem dX12_buildRoad_5 : decode cX12_buildRoad 5 = .ok (.getfield 10, 3) := by decide +kernel
theorem dX12_buildRoad_8 : decode cX12_buildRoad 8 = .ok (.invokevirtual 58, 3) := by decide +kernel
theorem dX12_buildRoad_11 : decode cX12_buildRoad 11 = .ok (.aload_n 0, 1) := by decide +kernel
theorem dX12_buildRoad_12 : decode cX12_buildRoad 12 = .ok (.aload_n 0, 1) := by decide +kernel
theorem dX12_buildRoad_13 : decode cX12_buildRoad 13 = .ok (.getfield 10, 3) := by decide +kernel
theorem dX12_buildRoad_16 : decode cX12_buildRoad 16 = .ok (.iload_n 1, 1) := by decide +kernel
theorem dX12_buildRoad_17 : decode cX12_buildRoad 17 = .ok (.iload_n 2, 1) := by decide +kernel
theorem dX12_buildRoad_18 : decode cX12_buildRoad 18 = .ok (.iload_n 3, 1) := by decide +kernel
theorem dX12_buildRoad_19 : decode cX12_buildRoad 19 = .ok (.invokevirtual 62, 3) := by decide +kernel
theorem dX12_buildRoad_22 : decode cX12_buildRoad 22 = .ok (.invokevirtual 66, 3) := by decide +kernel
theorem dX12_buildRoad_25 : decode cX12_buildRoad 25 = .ok (.ireturn, 1) := by decide +kernel
theorem dX12_acceptParcel_0 : decode cX12_acceptParcel 0 = .ok (.aload_n 0, 1) := by decide +kernel
theorem dX12_acceptParcel_1 : decode cX12_acceptParcel 1 = .ok (.getfield 22, 3) := by decide +kernel
theorem dX12_acceptParcel_4 : decode cX12_acceptParcel 4 = .ok (.aload_n 0, 1) := by decide +kernel
theorem dX12_acceptParcel_5 : decode cX12_acceptParcel 5 = .ok (.getfield 10, 3) := by decide +kernel
theorem dX12_acceptParcel_8 : decode cX12_acceptParcel 8 = .ok (.invokevirtual 58, 3) := by decide +kernel
theorem dX12_acceptParcel_11 : decode cX12_acceptParcel 11 = .ok (.aload_n 0, 1) := by decide +kernel
theorem dX12_acceptParcel_12 : decode cX12_acceptParcel 12 = .ok (.aload_n 0, 1) := by decide +kernel
theorem dX12_acceptParcel_13 : decode cX12_acceptParcel 13 = .ok (.getfield 10, 3) := by decide +kernel
theorem dX12_acceptParcel_16 : decode cX12_acceptParcel 16 = .ok (.iload_n 1, 1) := by decide +kernel
theorem dX12_acceptParcel_17 : decode cX12_acceptParcel 17 = .ok (.iload_n 2, 1) := by decide +kernel
theorem dX12_acceptParcel_18 : decode cX12_acceptParcel 18 = .ok (.iload_n 3, 1) := by decide +kernel
theorem dX12_acceptParcel_19 : decode cX12_acceptParcel 19 = .ok (.invokevirtual 70, 3) := by decide +kernel
theorem dX12_acceptParcel_22 : decode cX12_acceptParcel 22 = .ok (.invokevirtual 66, 3) := by decide +kernel
theorem dX12_acceptParcel_25 : decode cX12_acceptParcel 25 = .ok (.ireturn, 1) := by decide +kernel
theorem dX12_buyGlove_0 : decode cX12_buyGlove 0 = .ok (.aload_n 0, 1) := by decide +kernel
theorem dX12_buyGlove_1 : decode cX12_buyGlove 1 = .ok (.getfield 22, 3) := by decide +kernel
theorem dX12_buyGlove_4 : decode cX12_buyGlove 4 = .ok (.aload_n 0, 1) := by decide +kernel
theorem dX12_buyGlove_5 : decode cX12_buyGlove 5 = .ok (.getfield 10, 3) := by decide +kernel
theorem dX12_buyGlove_8 : decode cX12_buyGlove 8 = .ok (.invokevirtual 58, 3) := by decide +kernel
theorem dX12_buyGlove_11 : decode cX12_buyGlove 11 = .ok (.aload_n 0, 1) := by decide +kernel
theorem dX12_buyGlove_12 : decode cX12_buyGlove 12 = .ok (.aload_n 0, 1) := by decide +kernel
theorem dX12_buyGlove_13 : decode cX12_buyGlove 13 = .ok (.getfield 10, 3) := by decide +kernel
theorem dX12_buyGlove_16 : decode cX12_buyGlove 16 = .ok (.iload_n 1, 1) := by decide +kernel
theorem dX12_buyGlove_17 : decode cX12_buyGlove 17 = .ok (.invokevirtual 73, 3) := by decide +kernel
theorem dX12_buyGlove_20 : decode cX12_buyGlove 20 = .ok (.invokevirtual 66, 3) := by decide +kernel
theorem dX12_buyGlove_23 : decode cX12_buyGlove 23 = .ok (.ireturn, 1) := by decide +kernel
theorem dX12_setCapacity_0 : decode cX12_setCapacity 0 = .ok (.aload_n 0, 1) := by decide +kernel
theorem dX12_setCapacity_1 : decode cX12_setCapacity 1 = .ok (.getfield 22, 3) := by decide +kernel
theorem dX12_setCapacity_4 : decode cX12_setCapacity 4 = .ok (.aload_n 0, 1) := by decide +kernel
theorem dX12_setCapacity_5 : decode cX12_setCapacity 5 = .ok (.getfield 10, 3) := by decide +kernel
theorem dX12_setCapacity_8 : decode cX12_setCapacity 8 = .ok (.invokevirtual 58, 3) := by decide +kernel
theorem dX12_setCapacity_11 : decode cX12_setCapacity 11 = .ok (.aload_n 0, 1) := by decide +kernel
theorem dX12_setCapacity_12 : decode cX12_setCapacity 12 = .ok (.aload_n 0, 1) := by decide +kernel
theorem dX12_setCapacity_13 : decode cX12_setCapacity 13 = .ok (.getfield 10, 3) := by decide +kernel
theorem dX12_setCapacity_16 : decode cX12_setCapacity 16 = .ok (.iload_n 1, 1) := by decide +kernel
theorem dX12_setCapacity_17 : decode cX12_setCapacity 17 = .ok (.iload_n 2, 1) := by decide +kernel
theorem dX12_setCapacity_18 : decode cX12_setCapacity 18 = .ok (.invokevirtual 76, 3) := by decide +kernel
theorem dX12_setCapacity_21 : decode cX12_setCapacity 21 = .ok (.invokevirtual 66, 3) := by decide +kernel
theorem dX12_setCapacity_24 : decode cX12_setCapacity 24 = .ok (.ireturn, 1) := by decide +kernel
theorem dX12_put_0 : decode cX12_put 0 = .ok (.aload_n 0, 1) := by decide +kernel
theorem dX12_put_1 : decode cX12_put 1 = .ok (.getfield 22, 3) := by decide +kernel
theorem dX12_put_4 : decode cX12_put 4 = .ok (.aload_n 0, 1) := by decide +kernel
theorem dX12_put_5 : decode cX12_put 5 = .ok (.getfield 10, 3) := by decide +kernel
theorem dX12_put_8 : decode cX12_put 8 = .ok (.invokevirtual 58, 3) := by decide +kernel
theorem dX12_put_11 : decode cX12_put 11 = .ok (.aload_n 0, 1) := by decide +kernel
theorem dX12_put_12 : decode cX12_put 12 = .ok (.aload_n 0, 1) := by decide +kernel
theorem dX12_put_13 : decode cX12_put 13 = .ok (.getfield 10, 3) := by decide +kernel
theorem dX12_put_16 : decode cX12_put 16 = .ok (.iload_n 1, 1) := by decide +kernel
theorem dX12_put_17 : decode cX12_put 17 = .ok (.iload_n 2, 1) := by decide +kernel
theorem dX12_put_18 : decode cX12_put 18 = .ok (.invokevirtual 80, 3) := by decide +kernel
theorem dX12_put_21 : decode cX12_put 21 = .ok (.invokevirtual 66, 3) := by decide +kernel
theorem dX12_put_24 : decode cX12_put 24 = .ok (.ireturn, 1) := by decide +kernel
theorem dX12_takeOut_0 : decode cX12_takeOut 0 = .ok (.aload_n 0, 1) := by decide +kernel
theorem dX12_takeOut_1 : decode cX12_takeOut 1 = .ok (.getfield 22, 3) := by decide +kernel
theorem dX12_takeOut_4 : decode cX12_takeOut 4 = .ok (.aload_n 0, 1) := by decide +kernel
theorem dX12_takeOut_5 : decode cX12_takeOut 5 = .ok (.getfield 10, 3) := by decide +kernel
theorem dX12_takeOut_8 : decode cX12_takeOut 8 = .ok (.invokevirtual 58, 3) := by decide +kernel
theorem dX12_takeOut_11 : decode cX12_takeOut 11 = .ok (.aload_n 0, 1) := by decide +kernel
theorem dX12_takeOut_12 : decode cX12_takeOut 12 = .ok (.aload_n 0, 1) := by decide +kernel
theorem dX12_takeOut_13 : decode cX12_takeOut 13 = .ok (.getfield 10, 3) := by decide +kernel
theorem dX12_takeOut_16 : decode cX12_takeOut 16 = .ok (.iload_n 1, 1) := by decide +kernel
theorem dX12_takeOut_17 : decode cX12_takeOut 17 = .ok (.invokevirtual 83, 3) := by decide +kernel
theorem dX12_takeOut_20 : decode cX12_takeOut 20 = .ok (.invokevirtual 66, 3) := by decide +kernel
theorem dX12_takeOut_23 : decode cX12_takeOut 23 = .ok (.ireturn, 1) := by decide +kernel
theorem dX12_carry_0 : decode cX12_carry 0 = .ok (.aload_n 0, 1) := by decide +kernel
theorem dX12_carry_1 : decode cX12_carry 1 = .ok (.getfield 22, 3) := by decide +kernel
theorem dX12_carry_4 : decode cX12_carry 4 = .ok (.aload_n 0, 1) := by decide +kernel
theorem dX12_carry_5 : decode cX12_carry 5 = .ok (.getfield 10, 3) := by decide +kernel
theorem dX12_carry_8 : decode cX12_carry 8 = .ok (.invokevirtual 58, 3) := by decide +kernel
theorem dX12_carry_11 : decode cX12_carry 11 = .ok (.aload_n 0, 1) := by decide +kernel
theorem dX12_carry_12 : decode cX12_carry 12 = .ok (.aload_n 0, 1) := by decide +kernel
theorem dX12_carry_13 : decode cX12_carry 13 = .ok (.getfield 10, 3) := by decide +kernel
theorem dX12_carry_16 : decode cX12_carry 16 = .ok (.iload_n 1, 1) := by decide +kernel
theorem dX12_carry_17 : decode cX12_carry 17 = .ok (.iload_n 2, 1) := by decide +kernel
theorem dX12_carry_18 : decode cX12_carry 18 = .ok (.invokevirtual 86, 3) := by decide +kernel
theorem dX12_carry_21 : decode cX12_carry 21 = .ok (.invokevirtual 66, 3) := by decide +kernel
theorem dX12_carry_24 : decode cX12_carry 24 = .ok (.ireturn, 1) := by decide +kernel
theorem dX12_comeBack_0 : decode cX12_comeBack 0 = .ok (.aload_n 0, 1) := by decide +kernel
theorem dX12_comeBack_1 : decode cX12_comeBack 1 = .ok (.getfield 22, 3) := by decide +kernel
theorem dX12_comeBack_4 : decode cX12_comeBack 4 = .ok (.aload_n 0, 1) := by decide +kernel
theorem dX12_comeBack_5 : decode cX12_comeBack 5 = .ok (.getfield 10, 3) := by decide +kernel
theorem dX12_comeBack_8 : decode cX12_comeBack 8 = .ok (.invokevirtual 58, 3) := by decide +kernel
theorem dX12_comeBack_11 : decode cX12_comeBack 11 = .ok (.aload_n 0, 1) := by decide +kernel
theorem dX12_comeBack_12 : decode cX12_comeBack 12 = .ok (.aload_n 0, 1) := by decide +kernel
theorem dX12_comeBack_13 : decode cX12_comeBack 13 = .ok (.getfield 10, 3) := by decide +kernel
theorem dX12_comeBack_16 : decode cX12_comeBack 16 = .ok (.iload_n 1, 1) := by decide +kernel
theorem dX12_comeBack_17 : decode cX12_comeBack 17 = .ok (.invokevirtual 89, 3) := by decide +kernel
theorem dX12_comeBack_20 : decode cX12_comeBack 20 = .ok (.invokevirtual 66, 3) := by decide +kernel
theorem dX12_comeBack_23 : decode cX12_comeBack 23 = .ok (.ireturn, 1) := by decide +kernel
theorem dX12_roadCount_0 : decode cX12_roadCount 0 = .ok (.aload_n 0, 1) := by decide +kernel
theorem dX12_roadCount_1 : decode cX12_roadCount 1 = .ok (.getfield 10, 3) := by decide +kernel
theorem dX12_roadCount_4 : decode cX12_roadCount 4 = .ok (.getfield 92, 3) := by decide +kernel
theorem dX12_roadCount_7 : decode cX12_roadCount 7 = .ok (.invokevirtual 96, 3) := by decide +kernel
theorem dX12_roadCount_10 : decode cX12_roadCount 10 = .ok (.ireturn, 1) := by decide +kernel
theorem dX12_roadLength_0 : decode cX12_roadLength 0 = .ok (.iload_n 1, 1) := by decide +kernel
theorem dX12_roadLength_1 : decode cX12_roadLength 1 = .ok (.iload_n 2, 1) := by decide +kernel
theorem dX12_roadLength_2 : decode cX12_roadLength 2 = .ok (.invokestatic 102, 3) := by decide +kernel
theorem dX12_roadLength_5 : decode cX12_roadLength 5 = .ok (.aload_n 0, 1) := by decide +kernel
theorem dX12_roadLength_6 : decode cX12_roadLength 6 = .ok (.getfield 10, 3) := by decide +kernel
theorem dX12_roadLength_9 : decode cX12_roadLength 9 = .ok (.getfield 92, 3) := by decide +kernel
theorem dX12_roadLength_12 : decode cX12_roadLength 12 = .ok (.iload_n 1, 1) := by decide +kernel
theorem dX12_roadLength_13 : decode cX12_roadLength 13 = .ok (.iload_n 2, 1) := by decide +kernel
theorem dX12_roadLength_14 : decode cX12_roadLength 14 = .ok (.invokevirtual 106, 3) := by decide +kernel
theorem dX12_roadLength_17 : decode cX12_roadLength 17 = .ok (.invokestatic 109, 3) := by decide +kernel
theorem dX12_roadLength_20 : decode cX12_roadLength 20 = .ok (.ireturn, 1) := by decide +kernel
theorem dX12_distance_0 : decode cX12_distance 0 = .ok (.iload_n 1, 1) := by decide +kernel
theorem dX12_distance_1 : decode cX12_distance 1 = .ok (.iload_n 2, 1) := by decide +kernel
theorem dX12_distance_2 : decode cX12_distance 2 = .ok (.invokestatic 102, 3) := by decide +kernel
theorem dX12_distance_5 : decode cX12_distance 5 = .ok (.aload_n 0, 1) := by decide +kernel
theorem dX12_distance_6 : decode cX12_distance 6 = .ok (.getfield 10, 3) := by decide +kernel
theorem dX12_distance_9 : decode cX12_distance 9 = .ok (.getfield 92, 3) := by decide +kernel
theorem dX12_distance_12 : decode cX12_distance 12 = .ok (.iload_n 1, 1) := by decide +kernel
theorem dX12_distance_13 : decode cX12_distance 13 = .ok (.iload_n 2, 1) := by decide +kernel
theorem dX12_distance_14 : decode cX12_distance 14 = .ok (.invokevirtual 112, 3) := by decide +kernel
theorem dX12_distance_17 : decode cX12_distance 17 = .ok (.invokestatic 109, 3) := by decide +kernel
theorem dX12_distance_20 : decode cX12_distance 20 = .ok (.ireturn, 1) := by decide +kernel
theorem dX12_distanceByRounds_0 : decode cX12_distanceByRounds 0 = .ok (.iload_n 1, 1) := by decide +kernel
theorem dX12_distanceByRounds_1 : decode cX12_distanceByRounds 1 = .ok (.iload_n 2, 1) := by decide +kernel
theorem dX12_distanceByRounds_2 : decode cX12_distanceByRounds 2 = .ok (.invokestatic 102, 3) := by decide +kernel
theorem dX12_distanceByRounds_5 : decode cX12_distanceByRounds 5 = .ok (.aload_n 0, 1) := by decide +kernel
theorem dX12_distanceByRounds_6 : decode cX12_distanceByRounds 6 = .ok (.getfield 10, 3) := by decide +kernel
theorem dX12_distanceByRounds_9 : decode cX12_distanceByRounds 9 = .ok (.getfield 92, 3) := by decide +kernel
theorem dX12_distanceByRounds_12 : decode cX12_distanceByRounds 12 = .ok (.invokevirtual 115, 3) := by decide +kernel
theorem dX12_distanceByRounds_15 : decode cX12_distanceByRounds 15 = .ok (.aload_n 0, 1) := by decide +kernel
theorem dX12_distanceByRounds_16 : decode cX12_distanceByRounds 16 = .ok (.getfield 10, 3) := by decide +kernel
theorem dX12_distanceByRounds_19 : decode cX12_distanceByRounds 19 = .ok (.getfield 92, 3) := by decide +kernel
theorem dX12_distanceByRounds_22 : decode cX12_distanceByRounds 22 = .ok (.iload_n 1, 1) := by decide +kernel
theorem dX12_distanceByRounds_23 : decode cX12_distanceByRounds 23 = .ok (.iload_n 2, 1) := by decide +kernel
theorem dX12_distanceByRounds_24 : decode cX12_distanceByRounds 24 = .ok (.invokevirtual 118, 3) := by decide +kernel
theorem dX12_distanceByRounds_27 : decode cX12_distanceByRounds 27 = .ok (.invokestatic 109, 3) := by decide +kernel
theorem dX12_distanceByRounds_30 : decode cX12_distanceByRounds 30 = .ok (.ireturn, 1) := by decide +kernel
theorem dX12_farthestPlace_0 : decode cX12_farthestPlace 0 = .ok (.iload_n 1, 1) := by decide +kernel
theorem dX12_farthestPlace_1 : decode cX12_farthestPlace 1 = .ok (.bipush 6, 2) := by decide +kernel
theorem dX12_farthestPlace_3 : decode cX12_farthestPlace 3 = .ok (.invokestatic 121, 3) := by decide +kernel
theorem dX12_farthestPlace_6 : decode cX12_farthestPlace 6 = .ok (.aload_n 0, 1) := by decide +kernel
theorem dX12_farthestPlace_7 : decode cX12_farthestPlace 7 = .ok (.getfield 10, 3) := by decide +kernel
theorem dX12_farthestPlace_10 : decode cX12_farthestPlace 10 = .ok (.getfield 92, 3) := by decide +kernel
theorem dX12_farthestPlace_13 : decode cX12_farthestPlace 13 = .ok (.iload_n 1, 1) := by decide +kernel
theorem dX12_farthestPlace_14 : decode cX12_farthestPlace 14 = .ok (.invokevirtual 124, 3) := by decide +kernel
theorem dX12_farthestPlace_17 : decode cX12_farthestPlace 17 = .ok (.ireturn, 1) := by decide +kernel
theorem dX12_parcelCount_0 : decode cX12_parcelCount 0 = .ok (.aload_n 0, 1) := by decide +kernel
theorem dX12_parcelCount_1 : decode cX12_parcelCount 1 = .ok (.getfield 10, 3) := by decide +kernel
theorem dX12_parcelCount_4 : decode cX12_parcelCount 4 = .ok (.getfield 127, 3) := by decide +kernel
theorem dX12_parcelCount_7 : decode cX12_parcelCount 7 = .ok (.invokevirtual 131, 3) := by decide +kernel
theorem dX12_parcelCount_10 : decode cX12_parcelCount 10 = .ok (.ireturn, 1) := by decide +kernel
theorem dX12_weight_0 : decode cX12_weight 0 = .ok (.aload_n 0, 1) := by decide +kernel
theorem dX12_weight_1 : decode cX12_weight 1 = .ok (.iload_n 1, 1) := by decide +kernel
theorem dX12_weight_2 : decode cX12_weight 2 = .ok (.invokevirtual 134, 3) := by decide +kernel
theorem dX12_weight_5 : decode cX12_weight 5 = .ok (.aload_n 0, 1) := by decide +kernel
theorem dX12_weight_6 : decode cX12_weight 6 = .ok (.getfield 10, 3) := by decide +kernel
theorem dX12_weight_9 : decode cX12_weight 9 = .ok (.getfield 127, 3) := by decide +kernel
theorem dX12_weight_12 : decode cX12_weight 12 = .ok (.iload_n 1, 1) := by decide +kernel
theorem dX12_weight_13 : decode cX12_weight 13 = .ok (.invokevirtual 138, 3) := by decide +kernel
theorem dX12_weight_16 : decode cX12_weight 16 = .ok (.ireturn, 1) := by decide +kernel
theorem dX12_hazard_0 : decode cX12_hazard 0 = .ok (.aload_n 0, 1) := by decide +kernel
theorem dX12_hazard_1 : decode cX12_hazard 1 = .ok (.iload_n 1, 1) := by decide +kernel
theorem dX12_hazard_2 : decode cX12_hazard 2 = .ok (.invokevirtual 134, 3) := by decide +kernel
theorem dX12_hazard_5 : decode cX12_hazard 5 = .ok (.aload_n 0, 1) := by decide +kernel
theorem dX12_hazard_6 : decode cX12_hazard 6 = .ok (.getfield 10, 3) := by decide +kernel
theorem dX12_hazard_9 : decode cX12_hazard 9 = .ok (.getfield 127, 3) := by decide +kernel
theorem dX12_hazard_12 : decode cX12_hazard 12 = .ok (.iload_n 1, 1) := by decide +kernel
theorem dX12_hazard_13 : decode cX12_hazard 13 = .ok (.invokevirtual 141, 3) := by decide +kernel
theorem dX12_hazard_16 : decode cX12_hazard 16 = .ok (.ireturn, 1) := by decide +kernel
theorem dX12_destination_0 : decode cX12_destination 0 = .ok (.aload_n 0, 1) := by decide +kernel
theorem dX12_destination_1 : decode cX12_destination 1 = .ok (.iload_n 1, 1) := by decide +kernel
theorem dX12_destination_2 : decode cX12_destination 2 = .ok (.invokevirtual 134, 3) := by decide +kernel
theorem dX12_destination_5 : decode cX12_destination 5 = .ok (.aload_n 0, 1) := by decide +kernel
theorem dX12_destination_6 : decode cX12_destination 6 = .ok (.getfield 10, 3) := by decide +kernel
theorem dX12_destination_9 : decode cX12_destination 9 = .ok (.getfield 127, 3) := by decide +kernel
theorem dX12_destination_12 : decode cX12_destination 12 = .ok (.iload_n 1, 1) := by decide +kernel
theorem dX12_destination_13 : decode cX12_destination 13 = .ok (.invokevirtual 144, 3) := by decide +kernel
theorem dX12_destination_16 : decode cX12_destination 16 = .ok (.ireturn, 1) := by decide +kernel
theorem dX12_state_0 : decode cX12_state 0 = .ok (.aload_n 0, 1) := by decide +kernel
theorem dX12_state_1 : decode cX12_state 1 = .ok (.iload_n 1, 1) := by decide +kernel
theorem dX12_state_2 : decode cX12_state 2 = .ok (.invokevirtual 134, 3) := by decide +kernel
theorem dX12_state_5 : decode cX12_state 5 = .ok (.aload_n 0, 1) := by decide +kernel
theorem dX12_state_6 : decode cX12_state 6 = .ok (.getfield 10, 3) := by decide +kernel
theorem dX12_state_9 : decode cX12_state 9 = .ok (.getfield 127, 3) := by decide +kernel
theorem dX12_state_12 : decode cX12_state 12 = .ok (.iload_n 1, 1) := by decide +kernel
theorem dX12_state_13 : decode cX12_state 13 = .ok (.invokevirtual 147, 3) := by decide +kernel
theorem dX12_state_16 : decode cX12_state 16 = .ok (.ireturn, 1) := by decide +kernel
theorem dX12_sackOf_0 : decode cX12_sackOf 0 = .ok (.aload_n 0, 1) := by decide +kernel
theorem dX12_sackOf_1 : decode cX12_sackOf 1 = .ok (.iload_n 1, 1) := by decide +kernel
theorem dX12_sackOf_2 : decode cX12_sackOf 2 = .ok (.invokevirtual 134, 3) := by decide +kernel
theorem dX12_sackOf_5 : decode cX12_sackOf 5 = .ok (.aload_n 0, 1) := by decide +kernel
theorem dX12_sackOf_6 : decode cX12_sackOf 6 = .ok (.getfield 10, 3) := by decide +kernel
theorem dX12_sackOf_9 : decode cX12_sackOf 9 = .ok (.getfield 127, 3) := by decide +kernel
theorem dX12_sackOf_12 : decode cX12_sackOf 12 = .ok (.iload_n 1, 1) := by decide +kernel
theorem dX12_sackOf_13 : decode cX12_sackOf 13 = .ok (.invokevirtual 151, 3) := by decide +kernel
theorem dX12_sackOf_16 : decode cX12_sackOf 16 = .ok (.istore_n 2, 1) := by decide +kernel
theorem dX12_sackOf_17 : decode cX12_sackOf 17 = .ok (.iload_n 2, 1) := by decide +kernel
theorem dX12_sackOf_18 : decode cX12_sackOf 18 = .ok (.iconst 3, 1) := by decide +kernel
theorem dX12_sackOf_19 : decode cX12_sackOf 19 = .ok (.invokestatic 154, 3) := by decide +kernel
theorem dX12_sackOf_22 : decode cX12_sackOf 22 = .ok (.ifCond .eq 7, 3) := by decide +kernel
theorem dX12_sackOf_25 : decode cX12_sackOf 25 = .ok (.iload_n 2, 1) := by decide +kernel
theorem dX12_sackOf_26 : decode cX12_sackOf 26 = .ok (.goto 4, 3) := by decide +kernel
theorem dX12_sackOf_29 : decode cX12_sackOf 29 = .ok (.iconst (-1), 1) := by decide +kernel
theorem dX12_sackOf_30 : decode cX12_sackOf 30 = .ok (.invokestatic 109, 3) := by decide +kernel
theorem dX12_sackOf_33 : decode cX12_sackOf 33 = .ok (.ireturn, 1) := by decide +kernel
theorem dX12_returns_0 : decode cX12_returns 0 = .ok (.aload_n 0, 1) := by decide +kernel
theorem dX12_returns_1 : decode cX12_returns 1 = .ok (.iload_n 1, 1) := by decide +kernel
theorem dX12_returns_2 : decode cX12_returns 2 = .ok (.invokevirtual 134, 3) := by decide +kernel
theorem dX12_returns_5 : decode cX12_returns 5 = .ok (.aload_n 0, 1) := by decide +kernel
theorem dX12_returns_6 : decode cX12_returns 6 = .ok (.getfield 10, 3) := by decide +kernel
theorem dX12_returns_9 : decode cX12_returns 9 = .ok (.getfield 127, 3) := by decide +kernel
theorem dX12_returns_12 : decode cX12_returns 12 = .ok (.iload_n 1, 1) := by decide +kernel
theorem dX12_returns_13 : decode cX12_returns 13 = .ok (.invokevirtual 158, 3) := by decide +kernel
theorem dX12_returns_16 : decode cX12_returns 16 = .ok (.ireturn, 1) := by decide +kernel
theorem dX12_waitingCount_0 : decode cX12_waitingCount 0 = .ok (.aload_n 0, 1) := by decide +kernel
theorem dX12_waitingCount_1 : decode cX12_waitingCount 1 = .ok (.getfield 10, 3) := by decide +kernel
theorem dX12_waitingCount_4 : decode cX12_waitingCount 4 = .ok (.getfield 127, 3) := by decide +kernel
theorem dX12_waitingCount_7 : decode cX12_waitingCount 7 = .ok (.iconst (-1), 1) := by decide +kernel
theorem dX12_waitingCount_8 : decode cX12_waitingCount 8 = .ok (.invokevirtual 161, 3) := by decide +kernel
theorem dX12_waitingCount_11 : decode cX12_waitingCount 11 = .ok (.ireturn, 1) := by decide +kernel
theorem dX12_deliveredCount_0 : decode cX12_deliveredCount 0 = .ok (.aload_n 0, 1) := by decide +kernel
theorem dX12_deliveredCount_1 : decode cX12_deliveredCount 1 = .ok (.getfield 10, 3) := by decide +kernel
theorem dX12_deliveredCount_4 : decode cX12_deliveredCount 4 = .ok (.getfield 127, 3) := by decide +kernel
theorem dX12_deliveredCount_7 : decode cX12_deliveredCount 7 = .ok (.bipush (-2), 2) := by decide +kernel
theorem dX12_deliveredCount_9 : decode cX12_deliveredCount 9 = .ok (.invokevirtual 161, 3) := by decide +kernel
theorem dX12_deliveredCount_12 : decode cX12_deliveredCount 12 = .ok (.ireturn, 1) := by decide +kernel
theorem dX12_gloveCount_0 : decode cX12_gloveCount 0 = .ok (.aload_n 0, 1) := by decide +kernel
theorem dX12_gloveCount_1 : decode cX12_gloveCount 1 = .ok (.getfield 10, 3) := by decide +kernel
theorem dX12_gloveCount_4 : decode cX12_gloveCount 4 = .ok (.getfield 164, 3) := by decide +kernel
theorem dX12_gloveCount_7 : decode cX12_gloveCount 7 = .ok (.invokevirtual 168, 3) := by decide +kernel
theorem dX12_gloveCount_10 : decode cX12_gloveCount 10 = .ok (.ireturn, 1) := by decide +kernel
theorem dX12_grade_0 : decode cX12_grade 0 = .ok (.iload_n 1, 1) := by decide +kernel
theorem dX12_grade_1 : decode cX12_grade 1 = .ok (.aload_n 0, 1) := by decide +kernel
theorem dX12_grade_2 : decode cX12_grade 2 = .ok (.getfield 10, 3) := by decide +kernel
theorem dX12_grade_5 : decode cX12_grade 5 = .ok (.getfield 164, 3) := by decide +kernel
theorem dX12_grade_8 : decode cX12_grade 8 = .ok (.invokevirtual 168, 3) := by decide +kernel
theorem dX12_grade_11 : decode cX12_grade 11 = .ok (.invokestatic 121, 3) := by decide +kernel
theorem dX12_grade_14 : decode cX12_grade 14 = .ok (.aload_n 0, 1) := by decide +kernel
theorem dX12_grade_15 : decode cX12_grade 15 = .ok (.getfield 10, 3) := by decide +kernel
theorem dX12_grade_18 : decode cX12_grade 18 = .ok (.getfield 164, 3) := by decide +kernel
theorem dX12_grade_21 : decode cX12_grade 21 = .ok (.iload_n 1, 1) := by decide +kernel
theorem dX12_grade_22 : decode cX12_grade 22 = .ok (.invokevirtual 171, 3) := by decide +kernel
theorem dX12_grade_25 : decode cX12_grade 25 = .ok (.ireturn, 1) := by decide +kernel
theorem dX12_usesLeft_0 : decode cX12_usesLeft 0 = .ok (.iload_n 1, 1) := by decide +kernel
theorem dX12_usesLeft_1 : decode cX12_usesLeft 1 = .ok (.aload_n 0, 1) := by decide +kernel
theorem dX12_usesLeft_2 : decode cX12_usesLeft 2 = .ok (.getfield 10, 3) := by decide +kernel
theorem dX12_usesLeft_5 : decode cX12_usesLeft 5 = .ok (.getfield 164, 3) := by decide +kernel
theorem dX12_usesLeft_8 : decode cX12_usesLeft 8 = .ok (.invokevirtual 168, 3) := by decide +kernel
theorem dX12_usesLeft_11 : decode cX12_usesLeft 11 = .ok (.invokestatic 121, 3) := by decide +kernel
theorem dX12_usesLeft_14 : decode cX12_usesLeft 14 = .ok (.aload_n 0, 1) := by decide +kernel
theorem dX12_usesLeft_15 : decode cX12_usesLeft 15 = .ok (.getfield 10, 3) := by decide +kernel
theorem dX12_usesLeft_18 : decode cX12_usesLeft 18 = .ok (.getfield 164, 3) := by decide +kernel
theorem dX12_usesLeft_21 : decode cX12_usesLeft 21 = .ok (.iload_n 1, 1) := by decide +kernel
theorem dX12_usesLeft_22 : decode cX12_usesLeft 22 = .ok (.invokevirtual 174, 3) := by decide +kernel
theorem dX12_usesLeft_25 : decode cX12_usesLeft 25 = .ok (.ireturn, 1) := by decide +kernel
theorem dX12_gloveFor_0 : decode cX12_gloveFor 0 = .ok (.aload_n 0, 1) := by decide +kernel
theorem dX12_gloveFor_1 : decode cX12_gloveFor 1 = .ok (.iload_n 1, 1) := by decide +kernel
theorem dX12_gloveFor_2 : decode cX12_gloveFor 2 = .ok (.invokevirtual 134, 3) := by decide +kernel
theorem dX12_gloveFor_5 : decode cX12_gloveFor 5 = .ok (.aload_n 0, 1) := by decide +kernel
theorem dX12_gloveFor_6 : decode cX12_gloveFor 6 = .ok (.getfield 10, 3) := by decide +kernel
theorem dX12_gloveFor_9 : decode cX12_gloveFor 9 = .ok (.getfield 127, 3) := by decide +kernel
theorem dX12_gloveFor_12 : decode cX12_gloveFor 12 = .ok (.iload_n 1, 1) := by decide +kernel
theorem dX12_gloveFor_13 : decode cX12_gloveFor 13 = .ok (.invokevirtual 141, 3) := by decide +kernel
theorem dX12_gloveFor_16 : decode cX12_gloveFor 16 = .ok (.istore_n 2, 1) := by decide +kernel
theorem dX12_gloveFor_17 : decode cX12_gloveFor 17 = .ok (.iload_n 2, 1) := by decide +kernel
theorem dX12_gloveFor_18 : decode cX12_gloveFor 18 = .ok (.ifCond .ne 11, 3) := by decide +kernel
theorem dX12_gloveFor_21 : decode cX12_gloveFor 21 = .ok (.bipush (-5), 2) := by decide +kernel
theorem dX12_gloveFor_23 : decode cX12_gloveFor 23 = .ok (.invokestatic 177, 3) := by decide +kernel
theorem dX12_gloveFor_26 : decode cX12_gloveFor 26 = .ok (.goto 17, 3) := by decide +kernel
theorem dX12_gloveFor_29 : decode cX12_gloveFor 29 = .ok (.aload_n 0, 1) := by decide +kernel
theorem dX12_gloveFor_30 : decode cX12_gloveFor 30 = .ok (.getfield 10, 3) := by decide +kernel
theorem dX12_gloveFor_33 : decode cX12_gloveFor 33 = .ok (.getfield 164, 3) := by decide +kernel
theorem dX12_gloveFor_36 : decode cX12_gloveFor 36 = .ok (.iload_n 2, 1) := by decide +kernel
theorem dX12_gloveFor_37 : decode cX12_gloveFor 37 = .ok (.invokevirtual 180, 3) := by decide +kernel
theorem dX12_gloveFor_40 : decode cX12_gloveFor 40 = .ok (.invokestatic 109, 3) := by decide +kernel
theorem dX12_gloveFor_43 : decode cX12_gloveFor 43 = .ok (.ireturn, 1) := by decide +kernel
theorem dX12_canHandle_0 : decode cX12_canHandle 0 = .ok (.aload_n 0, 1) := by decide +kernel
theorem dX12_canHandle_1 : decode cX12_canHandle 1 = .ok (.iload_n 1, 1) := by decide +kernel
theorem dX12_canHandle_2 : decode cX12_canHandle 2 = .ok (.invokevirtual 134, 3) := by decide +kernel
theorem dX12_canHandle_5 : decode cX12_canHandle 5 = .ok (.aload_n 0, 1) := by decide +kernel
theorem dX12_canHandle_6 : decode cX12_canHandle 6 = .ok (.getfield 10, 3) := by decide +kernel
theorem dX12_canHandle_9 : decode cX12_canHandle 9 = .ok (.iload_n 1, 1) := by decide +kernel
theorem dX12_canHandle_10 : decode cX12_canHandle 10 = .ok (.invokevirtual 183, 3) := by decide +kernel
theorem dX12_canHandle_13 : decode cX12_canHandle 13 = .ok (.ireturn, 1) := by decide +kernel
theorem dX12_handleable_0 : decode cX12_handleable 0 = .ok (.aload_n 0, 1) := by decide +kernel
theorem dX12_handleable_1 : decode cX12_handleable 1 = .ok (.getfield 29, 3) := by decide +kernel
theorem dX12_handleable_4 : decode cX12_handleable 4 = .ok (.aload_n 0, 1) := by decide +kernel
theorem dX12_handleable_5 : decode cX12_handleable 5 = .ok (.getfield 10, 3) := by decide +kernel
theorem dX12_handleable_8 : decode cX12_handleable 8 = .ok (.invokevirtual 187, 3) := by decide +kernel
theorem dX12_handleable_11 : decode cX12_handleable 11 = .ok (.ireturn, 1) := by decide +kernel
theorem dX12_handleableByShortage_0 : decode cX12_handleableByShortage 0 = .ok (.aload_n 0, 1) := by decide +kernel
theorem dX12_handleableByShortage_1 : decode cX12_handleableByShortage 1 = .ok (.getfield 29, 3) := by decide +kernel
theorem dX12_handleableByShortage_4 : decode cX12_handleableByShortage 4 = .ok (.aload_n 0, 1) := by decide +kernel
theorem dX12_handleableByShortage_5 : decode cX12_handleableByShortage 5 = .ok (.getfield 10, 3) := by decide +kernel
theorem dX12_handleableByShortage_8 : decode cX12_handleableByShortage 8 = .ok (.invokevirtual 191, 3) := by decide +kernel
theorem dX12_handleableByShortage_11 : decode cX12_handleableByShortage 11 = .ok (.ireturn, 1) := by decide +kernel
theorem dX12_place_0 : decode cX12_place 0 = .ok (.iload_n 1, 1) := by decide +kernel
theorem dX12_place_1 : decode cX12_place 1 = .ok (.iconst 3, 1) := by decide +kernel
theorem dX12_place_2 : decode cX12_place 2 = .ok (.invokestatic 121, 3) := by decide +kernel
theorem dX12_place_5 : decode cX12_place 5 = .ok (.aload_n 0, 1) := by decide +kernel
theorem dX12_place_6 : decode cX12_place 6 = .ok (.getfield 10, 3) := by decide +kernel
theorem dX12_place_9 : decode cX12_place 9 = .ok (.getfield 194, 3) := by decide +kernel
theorem dX12_place_12 : decode cX12_place 12 = .ok (.iload_n 1, 1) := by decide +kernel
theorem dX12_place_13 : decode cX12_place 13 = .ok (.invokevirtual 198, 3) := by decide +kernel
theorem dX12_place_16 : decode cX12_place 16 = .ok (.ireturn, 1) := by decide +kernel
theorem dX12_capacity_0 : decode cX12_capacity 0 = .ok (.iload_n 1, 1) := by decide +kernel
theorem dX12_capacity_1 : decode cX12_capacity 1 = .ok (.iconst 3, 1) := by decide +kernel
theorem dX12_capacity_2 : decode cX12_capacity 2 = .ok (.invokestatic 121, 3) := by decide +kernel
theorem dX12_capacity_5 : decode cX12_capacity 5 = .ok (.aload_n 0, 1) := by decide +kernel
theorem dX12_capacity_6 : decode cX12_capacity 6 = .ok (.getfield 10, 3) := by decide +kernel
theorem dX12_capacity_9 : decode cX12_capacity 9 = .ok (.getfield 194, 3) := by decide +kernel
theorem dX12_capacity_12 : decode cX12_capacity 12 = .ok (.iload_n 1, 1) := by decide +kernel
theorem dX12_capacity_13 : decode cX12_capacity 13 = .ok (.invokevirtual 203, 3) := by decide +kernel
theorem dX12_capacity_16 : decode cX12_capacity 16 = .ok (.ireturn, 1) := by decide +kernel
theorem dX12_load_0 : decode cX12_load 0 = .ok (.iload_n 1, 1) := by decide +kernel
theorem dX12_load_1 : decode cX12_load 1 = .ok (.iconst 3, 1) := by decide +kernel
theorem dX12_load_2 : decode cX12_load 2 = .ok (.invokestatic 121, 3) := by decide +kernel
theorem dX12_load_5 : decode cX12_load 5 = .ok (.aload_n 0, 1) := by decide +kernel
theorem dX12_load_6 : decode cX12_load 6 = .ok (.getfield 10, 3) := by decide +kernel
theorem dX12_load_9 : decode cX12_load 9 = .ok (.getfield 127, 3) := by decide +kernel
theorem dX12_load_12 : decode cX12_load 12 = .ok (.iload_n 1, 1) := by decide +kernel
theorem dX12_load_13 : decode cX12_load 13 = .ok (.invokevirtual 206, 3) := by decide +kernel
theorem dX12_load_16 : decode cX12_load 16 = .ok (.ireturn, 1) := by decide +kernel
theorem dX12_parcelsIn_0 : decode cX12_parcelsIn 0 = .ok (.iload_n 1, 1) := by decide +kernel
theorem dX12_parcelsIn_1 : decode cX12_parcelsIn 1 = .ok (.iconst 3, 1) := by decide +kernel
theorem dX12_parcelsIn_2 : decode cX12_parcelsIn 2 = .ok (.invokestatic 121, 3) := by decide +kernel
theorem dX12_parcelsIn_5 : decode cX12_parcelsIn 5 = .ok (.aload_n 0, 1) := by decide +kernel
theorem dX12_parcelsIn_6 : decode cX12_parcelsIn 6 = .ok (.getfield 10, 3) := by decide +kernel
theorem dX12_parcelsIn_9 : decode cX12_parcelsIn 9 = .ok (.getfield 127, 3) := by decide +kernel
theorem dX12_parcelsIn_12 : decode cX12_parcelsIn 12 = .ok (.iload_n 1, 1) := by decide +kernel
theorem dX12_parcelsIn_13 : decode cX12_parcelsIn 13 = .ok (.invokevirtual 161, 3) := by decide +kernel
theorem dX12_parcelsIn_16 : decode cX12_parcelsIn 16 = .ok (.ireturn, 1) := by decide +kernel
theorem dX12_mostFitting_0 : decode cX12_mostFitting 0 = .ok (.iload_n 1, 1) := by decide +kernel
theorem dX12_mostFitting_1 : decode cX12_mostFitting 1 = .ok (.iconst 3, 1) := by decide +kernel
theorem dX12_mostFitting_2 : decode cX12_mostFitting 2 = .ok (.invokestatic 121, 3) := by decide +kernel
theorem dX12_mostFitting_5 : decode cX12_mostFitting 5 = .ok (.aload_n 0, 1) := by decide +kernel
theorem dX12_mostFitting_6 : decode cX12_mostFitting 6 = .ok (.getfield 29, 3) := by decide +kernel
theorem dX12_mostFitting_9 : decode cX12_mostFitting 9 = .ok (.aload_n 0, 1) := by decide +kernel
theorem dX12_mostFitting_10 : decode cX12_mostFitting 10 = .ok (.getfield 10, 3) := by decide +kernel
theorem dX12_mostFitting_13 : decode cX12_mostFitting 13 = .ok (.iload_n 1, 1) := by decide +kernel
theorem dX12_mostFitting_14 : decode cX12_mostFitting 14 = .ok (.invokevirtual 209, 3) := by decide +kernel
theorem dX12_mostFitting_17 : decode cX12_mostFitting 17 = .ok (.ireturn, 1) := by decide +kernel
theorem dX12_mostFittingByTable_0 : decode cX12_mostFittingByTable 0 = .ok (.iload_n 1, 1) := by decide +kernel
theorem dX12_mostFittingByTable_1 : decode cX12_mostFittingByTable 1 = .ok (.iconst 3, 1) := by decide +kernel
theorem dX12_mostFittingByTable_2 : decode cX12_mostFittingByTable 2 = .ok (.invokestatic 121, 3) := by decide +kernel
theorem dX12_mostFittingByTable_5 : decode cX12_mostFittingByTable 5 = .ok (.aload_n 0, 1) := by decide +kernel
theorem dX12_mostFittingByTable_6 : decode cX12_mostFittingByTable 6 = .ok (.getfield 29, 3) := by decide +kernel
theorem dX12_mostFittingByTable_9 : decode cX12_mostFittingByTable 9 = .ok (.aload_n 0, 1) := by decide +kernel
theorem dX12_mostFittingByTable_10 : decode cX12_mostFittingByTable 10 = .ok (.getfield 10, 3) := by decide +kernel
theorem dX12_mostFittingByTable_13 : decode cX12_mostFittingByTable 13 = .ok (.iload_n 1, 1) := by decide +kernel
theorem dX12_mostFittingByTable_14 : decode cX12_mostFittingByTable 14 = .ok (.invokevirtual 213, 3) := by decide +kernel
theorem dX12_mostFittingByTable_17 : decode cX12_mostFittingByTable 17 = .ok (.ireturn, 1) := by decide +kernel
theorem dX12_effortTo_0 : decode cX12_effortTo 0 = .ok (.iload_n 1, 1) := by decide +kernel
theorem dX12_effortTo_1 : decode cX12_effortTo 1 = .ok (.iconst 3, 1) := by decide +kernel
theorem dX12_effortTo_2 : decode cX12_effortTo 2 = .ok (.invokestatic 121, 3) := by decide +kernel
theorem dX12_effortTo_5 : decode cX12_effortTo 5 = .ok (.iload_n 2, 1) := by decide +kernel
theorem dX12_effortTo_6 : decode cX12_effortTo 6 = .ok (.bipush 6, 2) := by decide +kernel
theorem dX12_effortTo_8 : decode cX12_effortTo 8 = .ok (.invokestatic 121, 3) := by decide +kernel
theorem dX12_effortTo_11 : decode cX12_effortTo 11 = .ok (.aload_n 0, 1) := by decide +kernel
theorem dX12_effortTo_12 : decode cX12_effortTo 12 = .ok (.getfield 10, 3) := by decide +kernel
theorem dX12_effortTo_15 : decode cX12_effortTo 15 = .ok (.iload_n 1, 1) := by decide +kernel
theorem dX12_effortTo_16 : decode cX12_effortTo 16 = .ok (.iload_n 2, 1) := by decide +kernel
theorem dX12_effortTo_17 : decode cX12_effortTo 17 = .ok (.invokevirtual 216, 3) := by decide +kernel
theorem dX12_effortTo_20 : decode cX12_effortTo 20 = .ok (.invokestatic 109, 3) := by decide +kernel
theorem dX12_effortTo_23 : decode cX12_effortTo 23 = .ok (.ireturn, 1) := by decide +kernel
theorem dX12_effortSoFar_0 : decode cX12_effortSoFar 0 = .ok (.aload_n 0, 1) := by decide +kernel
theorem dX12_effortSoFar_1 : decode cX12_effortSoFar 1 = .ok (.getfield 10, 3) := by decide +kernel
theorem dX12_effortSoFar_4 : decode cX12_effortSoFar 4 = .ok (.getfield 194, 3) := by decide +kernel
theorem dX12_effortSoFar_7 : decode cX12_effortSoFar 7 = .ok (.invokevirtual 219, 3) := by decide +kernel
theorem dX12_effortSoFar_10 : decode cX12_effortSoFar 10 = .ok (.ireturn, 1) := by decide +kernel
theorem dX12_glovesUsedUp_0 : decode cX12_glovesUsedUp 0 = .ok (.aload_n 0, 1) := by decide +kernel
theorem dX12_glovesUsedUp_1 : decode cX12_glovesUsedUp 1 = .ok (.getfield 10, 3) := by decide +kernel
theorem dX12_glovesUsedUp_4 : decode cX12_glovesUsedUp 4 = .ok (.getfield 164, 3) := by decide +kernel
theorem dX12_glovesUsedUp_7 : decode cX12_glovesUsedUp 7 = .ok (.invokevirtual 222, 3) := by decide +kernel
theorem dX12_glovesUsedUp_10 : decode cX12_glovesUsedUp 10 = .ok (.ireturn, 1) := by decide +kernel
theorem dX12_heaviest_0 : decode cX12_heaviest 0 = .ok (.aload_n 0, 1) := by decide +kernel
theorem dX12_heaviest_1 : decode cX12_heaviest 1 = .ok (.getfield 10, 3) := by decide +kernel
theorem dX12_heaviest_4 : decode cX12_heaviest 4 = .ok (.getfield 127, 3) := by decide +kernel
theorem dX12_heaviest_7 : decode cX12_heaviest 7 = .ok (.iload_n 1, 1) := by decide +kernel
theorem dX12_heaviest_8 : decode cX12_heaviest 8 = .ok (.invokevirtual 225, 3) := by decide +kernel
theorem dX12_heaviest_11 : decode cX12_heaviest 11 = .ok (.invokestatic 109, 3) := by decide +kernel
theorem dX12_heaviest_14 : decode cX12_heaviest 14 = .ok (.ireturn, 1) := by decide +kernel
theorem dX12_meanHazard_0 : decode cX12_meanHazard 0 = .ok (.aload_n 0, 1) := by decide +kernel
theorem dX12_meanHazard_1 : decode cX12_meanHazard 1 = .ok (.getfield 10, 3) := by decide +kernel
theorem dX12_meanHazard_4 : decode cX12_meanHazard 4 = .ok (.getfield 127, 3) := by decide +kernel
theorem dX12_meanHazard_7 : decode cX12_meanHazard 7 = .ok (.invokevirtual 131, 3) := by decide +kernel
theorem dX12_meanHazard_10 : decode cX12_meanHazard 10 = .ok (.istore_n 1, 1) := by decide +kernel
theorem dX12_meanHazard_11 : decode cX12_meanHazard 11 = .ok (.iload_n 1, 1) := by decide +kernel
theorem dX12_meanHazard_12 : decode cX12_meanHazard 12 = .ok (.ifCond .ne 13, 3) := by decide +kernel
theorem dX12_meanHazard_15 : decode cX12_meanHazard 15 = .ok (.new 228, 3) := by decide +kernel
theorem dX12_meanHazard_18 : decode cX12_meanHazard 18 = .ok (.dup, 1) := by decide +kernel
theorem dX12_meanHazard_19 : decode cX12_meanHazard 19 = .ok (.ldc 230, 2) := by decide +kernel
theorem dX12_meanHazard_21 : decode cX12_meanHazard 21 = .ok (.invokespecial 232, 3) := by decide +kernel
theorem dX12_meanHazard_24 : decode cX12_meanHazard 24 = .ok (.athrow, 1) := by decide +kernel
theorem dX12_meanHazard_25 : decode cX12_meanHazard 25 = .ok (.aload_n 0, 1) := by decide +kernel
theorem dX12_meanHazard_26 : decode cX12_meanHazard 26 = .ok (.getfield 10, 3) := by decide +kernel
theorem dX12_meanHazard_29 : decode cX12_meanHazard 29 = .ok (.getfield 127, 3) := by decide +kernel
theorem dX12_meanHazard_32 : decode cX12_meanHazard 32 = .ok (.invokevirtual 235, 3) := by decide +kernel
theorem dX12_meanHazard_35 : decode cX12_meanHazard 35 = .ok (.i2d, 1) := by decide +kernel
theorem dX12_meanHazard_36 : decode cX12_meanHazard 36 = .ok (.iload_n 1, 1) := by decide +kernel
theorem dX12_meanHazard_37 : decode cX12_meanHazard 37 = .ok (.i2d, 1) := by decide +kernel
theorem dX12_meanHazard_38 : decode cX12_meanHazard 38 = .ok (.ddiv, 1) := by decide +kernel
theorem dX12_meanHazard_39 : decode cX12_meanHazard 39 = .ok (.dreturn, 1) := by decide +kernel
theorem dX12_deliveredShare_0 : decode cX12_deliveredShare 0 = .ok (.aload_n 0, 1) := by decide +kernel
theorem dX12_deliveredShare_1 : decode cX12_deliveredShare 1 = .ok (.getfield 10, 3) := by decide +kernel
theorem dX12_deliveredShare_4 : decode cX12_deliveredShare 4 = .ok (.getfield 127, 3) := by decide +kernel
theorem dX12_deliveredShare_7 : decode cX12_deliveredShare 7 = .ok (.invokevirtual 131, 3) := by decide +kernel
theorem dX12_deliveredShare_10 : decode cX12_deliveredShare 10 = .ok (.istore_n 1, 1) := by decide +kernel
theorem dX12_deliveredShare_11 : decode cX12_deliveredShare 11 = .ok (.iload_n 1, 1) := by decide +kernel
theorem dX12_deliveredShare_12 : decode cX12_deliveredShare 12 = .ok (.ifCond .ne 13, 3) := by decide +kernel
theorem dX12_deliveredShare_15 : decode cX12_deliveredShare 15 = .ok (.new 228, 3) := by decide +kernel
theorem dX12_deliveredShare_18 : decode cX12_deliveredShare 18 = .ok (.dup, 1) := by decide +kernel
theorem dX12_deliveredShare_19 : decode cX12_deliveredShare 19 = .ok (.ldc 230, 2) := by decide +kernel
theorem dX12_deliveredShare_21 : decode cX12_deliveredShare 21 = .ok (.invokespecial 232, 3) := by decide +kernel
theorem dX12_deliveredShare_24 : decode cX12_deliveredShare 24 = .ok (.athrow, 1) := by decide +kernel
theorem dX12_deliveredShare_25 : decode cX12_deliveredShare 25 = .ok (.aload_n 0, 1) := by decide +kernel
theorem dX12_deliveredShare_26 : decode cX12_deliveredShare 26 = .ok (.getfield 10, 3) := by decide +kernel
theorem dX12_deliveredShare_29 : decode cX12_deliveredShare 29 = .ok (.getfield 127, 3) := by decide +kernel
theorem dX12_deliveredShare_32 : decode cX12_deliveredShare 32 = .ok (.bipush (-2), 2) := by decide +kernel
theorem dX12_deliveredShare_34 : decode cX12_deliveredShare 34 = .ok (.invokevirtual 161, 3) := by decide +kernel
theorem dX12_deliveredShare_37 : decode cX12_deliveredShare 37 = .ok (.i2f, 1) := by decide +kernel
theorem dX12_deliveredShare_38 : decode cX12_deliveredShare 38 = .ok (.iload_n 1, 1) := by decide +kernel
theorem dX12_deliveredShare_39 : decode cX12_deliveredShare 39 = .ok (.i2f, 1) := by decide +kernel
theorem dX12_deliveredShare_40 : decode cX12_deliveredShare 40 = .ok (.fdiv, 1) := by decide +kernel
theorem dX12_deliveredShare_41 : decode cX12_deliveredShare 41 = .ok (.freturn, 1) := by decide +kernel
theorem dX12_isConsistent_0 : decode cX12_isConsistent 0 = .ok (.aload_n 0, 1) := by decide +kernel
theorem dX12_isConsistent_1 : decode cX12_isConsistent 1 = .ok (.getfield 10, 3) := by decide +kernel
theorem dX12_isConsistent_4 : decode cX12_isConsistent 4 = .ok (.getfield 92, 3) := by decide +kernel
theorem dX12_isConsistent_7 : decode cX12_isConsistent 7 = .ok (.invokevirtual 238, 3) := by decide +kernel
theorem dX12_isConsistent_10 : decode cX12_isConsistent 10 = .ok (.ifCond .eq 21, 3) := by decide +kernel
theorem dX12_isConsistent_13 : decode cX12_isConsistent 13 = .ok (.aload_n 0, 1) := by decide +kernel
theorem dX12_isConsistent_14 : decode cX12_isConsistent 14 = .ok (.invokevirtual 242, 3) := by decide +kernel
theorem dX12_isConsistent_17 : decode cX12_isConsistent 17 = .ok (.ifCond .eq 14, 3) := by decide +kernel
theorem dX12_isConsistent_20 : decode cX12_isConsistent 20 = .ok (.aload_n 0, 1) := by decide +kernel
theorem dX12_isConsistent_21 : decode cX12_isConsistent 21 = .ok (.invokevirtual 245, 3) := by decide +kernel
theorem dX12_isConsistent_24 : decode cX12_isConsistent 24 = .ok (.ifCond .eq 7, 3) := by decide +kernel
theorem dX12_isConsistent_27 : decode cX12_isConsistent 27 = .ok (.iconst 1, 1) := by decide +kernel
theorem dX12_isConsistent_28 : decode cX12_isConsistent 28 = .ok (.goto 4, 3) := by decide +kernel
theorem dX12_isConsistent_31 : decode cX12_isConsistent 31 = .ok (.iconst 0, 1) := by decide +kernel
theorem dX12_isConsistent_32 : decode cX12_isConsistent 32 = .ok (.ireturn, 1) := by decide +kernel
theorem dX12_feed_0 : decode cX12_feed 0 = .ok (.aload_n 0, 1) := by decide +kernel
theorem dX12_feed_1 : decode cX12_feed 1 = .ok (.getfield 36, 3) := by decide +kernel
theorem dX12_feed_4 : decode cX12_feed 4 = .ok (.invokevirtual 248, 3) := by decide +kernel
theorem dX12_feed_7 : decode cX12_feed 7 = .ok (.ifCond .eq 8, 3) := by decide +kernel
theorem dX12_feed_10 : decode cX12_feed 10 = .ok (.bipush (-4), 2) := by decide +kernel
theorem dX12_feed_12 : decode cX12_feed 12 = .ok (.goto 11, 3) := by decide +kernel
theorem dX12_feed_15 : decode cX12_feed 15 = .ok (.aload_n 0, 1) := by decide +kernel
theorem dX12_feed_16 : decode cX12_feed 16 = .ok (.getfield 36, 3) := by decide +kernel
theorem dX12_feed_19 : decode cX12_feed 19 = .ok (.iload_n 1, 1) := by decide +kernel
theorem dX12_feed_20 : decode cX12_feed 20 = .ok (.invokevirtual 251, 3) := by decide +kernel
theorem dX12_feed_23 : decode cX12_feed 23 = .ok (.invokestatic 177, 3) := by decide +kernel
theorem dX12_feed_26 : decode cX12_feed 26 = .ok (.ireturn, 1) := by decide +kernel
theorem dX12_runCommands_0 : decode cX12_runCommands 0 = .ok (.aload_n 0, 1) := by decide +kernel
theorem dX12_runCommands_1 : decode cX12_runCommands 1 = .ok (.getfield 36, 3) := by decide +kernel
theorem dX12_runCommands_4 : decode cX12_runCommands 4 = .ok (.invokevirtual 255, 3) := by decide +kernel
theorem dX12_runCommands_7 : decode cX12_runCommands 7 = .ok (.istore_n 1, 1) := by decide +kernel
theorem dX12_runCommands_8 : decode cX12_runCommands 8 = .ok (.aload_n 0, 1) := by decide +kernel
theorem dX12_runCommands_9 : decode cX12_runCommands 9 = .ok (.getfield 36, 3) := by decide +kernel
theorem dX12_runCommands_12 : decode cX12_runCommands 12 = .ok (.invokevirtual 258, 3) := by decide +kernel
theorem dX12_runCommands_15 : decode cX12_runCommands 15 = .ok (.iload_n 1, 1) := by decide +kernel
theorem dX12_runCommands_16 : decode cX12_runCommands 16 = .ok (.iconst (-1), 1) := by decide +kernel
theorem dX12_runCommands_17 : decode cX12_runCommands 17 = .ok (.if_icmp .eq 19, 3) := by decide +kernel
theorem dX12_runCommands_20 : decode cX12_runCommands 20 = .ok (.aload_n 0, 1) := by decide +kernel
theorem dX12_runCommands_21 : decode cX12_runCommands 21 = .ok (.iload_n 1, 1) := by decide +kernel
theorem dX12_runCommands_22 : decode cX12_runCommands 22 = .ok (.putfield 51, 3) := by decide +kernel
theorem dX12_runCommands_25 : decode cX12_runCommands 25 = .ok (.new 261, 3) := by decide +kernel
theorem dX12_runCommands_28 : decode cX12_runCommands 28 = .ok (.dup, 1) := by decide +kernel
theorem dX12_runCommands_29 : decode cX12_runCommands 29 = .ok (.ldc_w 263, 3) := by decide +kernel
theorem dX12_runCommands_32 : decode cX12_runCommands 32 = .ok (.invokespecial 265, 3) := by decide +kernel
theorem dX12_runCommands_35 : decode cX12_runCommands 35 = .ok (.athrow, 1) := by decide +kernel
theorem dX12_runCommands_36 : decode cX12_runCommands 36 = .ok (.aload_n 0, 1) := by decide +kernel
theorem dX12_runCommands_37 : decode cX12_runCommands 37 = .ok (.getfield 22, 3) := by decide +kernel
theorem dX12_runCommands_40 : decode cX12_runCommands 40 = .ok (.aload_n 0, 1) := by decide +kernel
theorem dX12_runCommands_41 : decode cX12_runCommands 41 = .ok (.getfield 10, 3) := by decide +kernel
theorem dX12_runCommands_44 : decode cX12_runCommands 44 = .ok (.invokevirtual 58, 3) := by decide +kernel
theorem dX12_runCommands_47 : decode cX12_runCommands 47 = .ok (.aload_n 0, 1) := by decide +kernel
theorem dX12_runCommands_48 : decode cX12_runCommands 48 = .ok (.invokevirtual 266, 3) := by decide +kernel
theorem dX12_runCommands_51 : decode cX12_runCommands 51 = .ok (.istore_n 2, 1) := by decide +kernel
theorem dX12_runCommands_52 : decode cX12_runCommands 52 = .ok (.iload_n 2, 1) := by decide +kernel
theorem dX12_runCommands_53 : decode cX12_runCommands 53 = .ok (.iconst (-1), 1) := by decide +kernel
theorem dX12_runCommands_54 : decode cX12_runCommands 54 = .ok (.if_icmp .eq 30, 3) := by decide +kernel
theorem dX12_runCommands_57 : decode cX12_runCommands 57 = .ok (.aload_n 0, 1) := by decide +kernel
theorem dX12_runCommands_58 : decode cX12_runCommands 58 = .ok (.getfield 22, 3) := by decide +kernel
theorem dX12_runCommands_61 : decode cX12_runCommands 61 = .ok (.aload_n 0, 1) := by decide +kernel
theorem dX12_runCommands_62 : decode cX12_runCommands 62 = .ok (.getfield 10, 3) := by decide +kernel
theorem dX12_runCommands_65 : decode cX12_runCommands 65 = .ok (.invokevirtual 269, 3) := by decide +kernel
theorem dX12_runCommands_68 : decode cX12_runCommands 68 = .ok (.aload_n 0, 1) := by decide +kernel
theorem dX12_runCommands_69 : decode cX12_runCommands 69 = .ok (.iload_n 2, 1) := by decide +kernel
theorem dX12_runCommands_70 : decode cX12_runCommands 70 = .ok (.putfield 55, 3) := by decide +kernel
theorem dX12_runCommands_73 : decode cX12_runCommands 73 = .ok (.new 272, 3) := by decide +kernel
theorem dX12_runCommands_76 : decode cX12_runCommands 76 = .ok (.dup, 1) := by decide +kernel
theorem dX12_runCommands_77 : decode cX12_runCommands 77 = .ok (.ldc_w 274, 3) := by decide +kernel
theorem dX12_runCommands_80 : decode cX12_runCommands 80 = .ok (.invokespecial 276, 3) := by decide +kernel
theorem dX12_runCommands_83 : decode cX12_runCommands 83 = .ok (.athrow, 1) := by decide +kernel
theorem dX12_runCommands_84 : decode cX12_runCommands 84 = .ok (.aload_n 0, 1) := by decide +kernel
theorem dX12_runCommands_85 : decode cX12_runCommands 85 = .ok (.aload_n 0, 1) := by decide +kernel
theorem dX12_runCommands_86 : decode cX12_runCommands 86 = .ok (.getfield 36, 3) := by decide +kernel
theorem dX12_runCommands_89 : decode cX12_runCommands 89 = .ok (.invokevirtual 277, 3) := by decide +kernel
theorem dX12_runCommands_92 : decode cX12_runCommands 92 = .ok (.invokevirtual 66, 3) := by decide +kernel
theorem dX12_runCommands_95 : decode cX12_runCommands 95 = .ok (.ireturn, 1) := by decide +kernel
theorem dX12_errorPosition_0 : decode cX12_errorPosition 0 = .ok (.aload_n 0, 1) := by decide +kernel
theorem dX12_errorPosition_1 : decode cX12_errorPosition 1 = .ok (.getfield 51, 3) := by decide +kernel
theorem dX12_errorPosition_4 : decode cX12_errorPosition 4 = .ok (.invokestatic 109, 3) := by decide +kernel
theorem dX12_errorPosition_7 : decode cX12_errorPosition 7 = .ok (.ireturn, 1) := by decide +kernel
theorem dX12_failedCommand_0 : decode cX12_failedCommand 0 = .ok (.aload_n 0, 1) := by decide +kernel
theorem dX12_failedCommand_1 : decode cX12_failedCommand 1 = .ok (.getfield 55, 3) := by decide +kernel
theorem dX12_failedCommand_4 : decode cX12_failedCommand 4 = .ok (.invokestatic 109, 3) := by decide +kernel
theorem dX12_failedCommand_7 : decode cX12_failedCommand 7 = .ok (.ireturn, 1) := by decide +kernel
theorem dX12_writeSack_0 : decode cX12_writeSack 0 = .ok (.iload_n 1, 1) := by decide +kernel
theorem dX12_writeSack_1 : decode cX12_writeSack 1 = .ok (.iconst 3, 1) := by decide +kernel
theorem dX12_writeSack_2 : decode cX12_writeSack 2 = .ok (.invokestatic 121, 3) := by decide +kernel
theorem dX12_writeSack_5 : decode cX12_writeSack 5 = .ok (.aload_n 0, 1) := by decide +kernel
theorem dX12_writeSack_6 : decode cX12_writeSack 6 = .ok (.getfield 43, 3) := by decide +kernel
theorem dX12_writeSack_9 : decode cX12_writeSack 9 = .ok (.aload_n 0, 1) := by decide +kernel
theorem dX12_writeSack_10 : decode cX12_writeSack 10 = .ok (.getfield 10, 3) := by decide +kernel
theorem dX12_writeSack_13 : decode cX12_writeSack 13 = .ok (.iload_n 1, 1) := by decide +kernel
theorem dX12_writeSack_14 : decode cX12_writeSack 14 = .ok (.invokevirtual 280, 3) := by decide +kernel
theorem dX12_writeSack_17 : decode cX12_writeSack 17 = .ok (.ireturn, 1) := by decide +kernel
theorem dX12_outputChar_0 : decode cX12_outputChar 0 = .ok (.iload_n 1, 1) := by decide +kernel
theorem dX12_outputChar_1 : decode cX12_outputChar 1 = .ok (.aload_n 0, 1) := by decide +kernel
theorem dX12_outputChar_2 : decode cX12_outputChar 2 = .ok (.getfield 43, 3) := by decide +kernel
theorem dX12_outputChar_5 : decode cX12_outputChar 5 = .ok (.invokevirtual 283, 3) := by decide +kernel
theorem dX12_outputChar_8 : decode cX12_outputChar 8 = .ok (.invokestatic 121, 3) := by decide +kernel
theorem dX12_outputChar_11 : decode cX12_outputChar 11 = .ok (.aload_n 0, 1) := by decide +kernel
theorem dX12_outputChar_12 : decode cX12_outputChar 12 = .ok (.getfield 43, 3) := by decide +kernel
theorem dX12_outputChar_15 : decode cX12_outputChar 15 = .ok (.iload_n 1, 1) := by decide +kernel
theorem dX12_outputChar_16 : decode cX12_outputChar 16 = .ok (.invokevirtual 284, 3) := by decide +kernel
theorem dX12_outputChar_19 : decode cX12_outputChar 19 = .ok (.ireturn, 1) := by decide +kernel
theorem dX12_undoCount_0 : decode cX12_undoCount 0 = .ok (.aload_n 0, 1) := by decide +kernel
theorem dX12_undoCount_1 : decode cX12_undoCount 1 = .ok (.getfield 22, 3) := by decide +kernel
theorem dX12_undoCount_4 : decode cX12_undoCount 4 = .ok (.invokevirtual 287, 3) := by decide +kernel
theorem dX12_undoCount_7 : decode cX12_undoCount 7 = .ok (.ireturn, 1) := by decide +kernel
theorem dX12_undo_0 : decode cX12_undo 0 = .ok (.aload_n 0, 1) := by decide +kernel
theorem dX12_undo_1 : decode cX12_undo 1 = .ok (.getfield 22, 3) := by decide +kernel
theorem dX12_undo_4 : decode cX12_undo 4 = .ok (.invokevirtual 287, 3) := by decide +kernel
theorem dX12_undo_7 : decode cX12_undo 7 = .ok (.ifCond .ne 8, 3) := by decide +kernel
theorem dX12_undo_10 : decode cX12_undo 10 = .ok (.bipush (-4), 2) := by decide +kernel
theorem dX12_undo_12 : decode cX12_undo 12 = .ok (.goto 14, 3) := by decide +kernel
theorem dX12_undo_15 : decode cX12_undo 15 = .ok (.aload_n 0, 1) := by decide +kernel
theorem dX12_undo_16 : decode cX12_undo 16 = .ok (.getfield 22, 3) := by decide +kernel
theorem dX12_undo_19 : decode cX12_undo 19 = .ok (.aload_n 0, 1) := by decide +kernel
theorem dX12_undo_20 : decode cX12_undo 20 = .ok (.getfield 10, 3) := by decide +kernel
theorem dX12_undo_23 : decode cX12_undo 23 = .ok (.invokevirtual 288, 3) := by decide +kernel
theorem dX12_undo_26 : decode cX12_undo 26 = .ok (.invokestatic 177, 3) := by decide +kernel
theorem dX12_undo_29 : decode cX12_undo 29 = .ok (.ireturn, 1) := by decide +kernel
theorem dX12_save_0 : decode cX12_save 0 = .ok (.aload_n 0, 1) := by decide +kernel
theorem dX12_save_1 : decode cX12_save 1 = .ok (.getfield 16, 3) := by decide +kernel
theorem dX12_save_4 : decode cX12_save 4 = .ok (.aload_n 0, 1) := by decide +kernel
theorem dX12_save_5 : decode cX12_save 5 = .ok (.getfield 10, 3) := by decide +kernel
theorem dX12_save_8 : decode cX12_save 8 = .ok (.invokevirtual 291, 3) := by decide +kernel
theorem dX12_save_11 : decode cX12_save 11 = .ok (.aload_n 0, 1) := by decide +kernel
theorem dX12_save_12 : decode cX12_save 12 = .ok (.iconst 1, 1) := by decide +kernel
theorem dX12_save_13 : decode cX12_save 13 = .ok (.putfield 47, 3) := by decide +kernel
theorem dX12_save_16 : decode cX12_save 16 = .ok (.aload_n 0, 1) := by decide +kernel
theorem dX12_save_17 : decode cX12_save 17 = .ok (.getfield 10, 3) := by decide +kernel
theorem dX12_save_20 : decode cX12_save 20 = .ok (.getfield 127, 3) := by decide +kernel
theorem dX12_save_23 : decode cX12_save 23 = .ok (.invokevirtual 131, 3) := by decide +kernel
theorem dX12_save_26 : decode cX12_save 26 = .ok (.ireturn, 1) := by decide +kernel
theorem dX12_restore_0 : decode cX12_restore 0 = .ok (.aload_n 0, 1) := by decide +kernel
theorem dX12_restore_1 : decode cX12_restore 1 = .ok (.getfield 47, 3) := by decide +kernel
theorem dX12_restore_4 : decode cX12_restore 4 = .ok (.ifCond .ne 14, 3) := by decide +kernel
theorem dX12_restore_7 : decode cX12_restore 7 = .ok (.new 294, 3) := by decide +kernel
theorem dX12_restore_10 : decode cX12_restore 10 = .ok (.dup, 1) := by decide +kernel
theorem dX12_restore_11 : decode cX12_restore 11 = .ok (.ldc_w 296, 3) := by decide +kernel
theorem dX12_restore_14 : decode cX12_restore 14 = .ok (.invokespecial 298, 3) := by decide +kernel
theorem dX12_restore_17 : decode cX12_restore 17 = .ok (.athrow, 1) := by decide +kernel
theorem dX12_restore_18 : decode cX12_restore 18 = .ok (.aload_n 0, 1) := by decide +kernel
theorem dX12_restore_19 : decode cX12_restore 19 = .ok (.getfield 10, 3) := by decide +kernel
theorem dX12_restore_22 : decode cX12_restore 22 = .ok (.aload_n 0, 1) := by decide +kernel
theorem dX12_restore_23 : decode cX12_restore 23 = .ok (.getfield 16, 3) := by decide +kernel
theorem dX12_restore_26 : decode cX12_restore 26 = .ok (.invokevirtual 291, 3) := by decide +kernel
theorem dX12_restore_29 : decode cX12_restore 29 = .ok (.aload_n 0, 1) := by decide +kernel
theorem dX12_restore_30 : decode cX12_restore 30 = .ok (.getfield 22, 3) := by decide +kernel
theorem dX12_restore_33 : decode cX12_restore 33 = .ok (.invokevirtual 299, 3) := by decide +kernel
theorem dX12_restore_36 : decode cX12_restore 36 = .ok (.aload_n 0, 1) := by decide +kernel
theorem dX12_restore_37 : decode cX12_restore 37 = .ok (.getfield 10, 3) := by decide +kernel
theorem dX12_restore_40 : decode cX12_restore 40 = .ok (.getfield 127, 3) := by decide +kernel
theorem dX12_restore_43 : decode cX12_restore 43 = .ok (.invokevirtual 131, 3) := by decide +kernel
theorem dX12_restore_46 : decode cX12_restore 46 = .ok (.ireturn, 1) := by decide +kernel
theorem dX12_isIndex_0 : decode cX12_isIndex 0 = .ok (.iload_n 0, 1) := by decide +kernel
theorem dX12_isIndex_1 : decode cX12_isIndex 1 = .ok (.ifCond .lt 12, 3) := by decide +kernel
theorem dX12_isIndex_4 : decode cX12_isIndex 4 = .ok (.iload_n 0, 1) := by decide +kernel
theorem dX12_isIndex_5 : decode cX12_isIndex 5 = .ok (.iload_n 1, 1) := by decide +kernel
theorem dX12_isIndex_6 : decode cX12_isIndex 6 = .ok (.if_icmp .ge 7, 3) := by decide +kernel
theorem dX12_isIndex_9 : decode cX12_isIndex 9 = .ok (.iconst 1, 1) := by decide +kernel
theorem dX12_isIndex_10 : decode cX12_isIndex 10 = .ok (.goto 4, 3) := by decide +kernel
theorem dX12_isIndex_13 : decode cX12_isIndex 13 = .ok (.iconst 0, 1) := by decide +kernel
theorem dX12_isIndex_14 : decode cX12_isIndex 14 = .ok (.ireturn, 1) := by decide +kernel
theorem dX12_isWithin_0 : decode cX12_isWithin 0 = .ok (.iload_n 0, 1) := by decide +kernel
theorem dX12_isWithin_1 : decode cX12_isWithin 1 = .ok (.iload_n 1, 1) := by decide +kernel
theorem dX12_isWithin_2 : decode cX12_isWithin 2 = .ok (.if_icmp .lt 12, 3) := by decide +kernel
theorem dX12_isWithin_5 : decode cX12_isWithin 5 = .ok (.iload_n 0, 1) := by decide +kernel
theorem dX12_isWithin_6 : decode cX12_isWithin 6 = .ok (.iload_n 2, 1) := by decide +kernel
theorem dX12_isWithin_7 : decode cX12_isWithin 7 = .ok (.if_icmp .gt 7, 3) := by decide +kernel
theorem dX12_isWithin_10 : decode cX12_isWithin 10 = .ok (.iconst 1, 1) := by decide +kernel
theorem dX12_isWithin_11 : decode cX12_isWithin 11 = .ok (.goto 4, 3) := by decide +kernel
theorem dX12_isWithin_14 : decode cX12_isWithin 14 = .ok (.iconst 0, 1) := by decide +kernel
theorem dX12_isWithin_15 : decode cX12_isWithin 15 = .ok (.ireturn, 1) := by decide +kernel
theorem dX12_accepted_0 : decode cX12_accepted 0 = .ok (.iload_n 0, 1) := by decide +kernel
theorem dX12_accepted_1 : decode cX12_accepted 1 = .ok (.tableswitch 90 (-6) (-2) #[79, 68, 57, 46, 35], 35) := by decide +kernel
theorem dX12_accepted_36 : decode cX12_accepted 36 = .ok (.new 302, 3) := by decide +kernel
theorem dX12_accepted_39 : decode cX12_accepted 39 = .ok (.dup, 1) := by decide +kernel
theorem dX12_accepted_40 : decode cX12_accepted 40 = .ok (.ldc_w 304, 3) := by decide +kernel
theorem dX12_accepted_43 : decode cX12_accepted 43 = .ok (.invokespecial 306, 3) := by decide +kernel
theorem dX12_accepted_46 : decode cX12_accepted 46 = .ok (.athrow, 1) := by decide +kernel
theorem dX12_accepted_47 : decode cX12_accepted 47 = .ok (.new 261, 3) := by decide +kernel
theorem dX12_accepted_50 : decode cX12_accepted 50 = .ok (.dup, 1) := by decide +kernel
theorem dX12_accepted_51 : decode cX12_accepted 51 = .ok (.ldc_w 307, 3) := by decide +kernel
theorem dX12_accepted_54 : decode cX12_accepted 54 = .ok (.invokespecial 265, 3) := by decide +kernel
theorem dX12_accepted_57 : decode cX12_accepted 57 = .ok (.athrow, 1) := by decide +kernel
theorem dX12_accepted_58 : decode cX12_accepted 58 = .ok (.new 294, 3) := by decide +kernel
theorem dX12_accepted_61 : decode cX12_accepted 61 = .ok (.dup, 1) := by decide +kernel
theorem dX12_accepted_62 : decode cX12_accepted 62 = .ok (.ldc_w 309, 3) := by decide +kernel
theorem dX12_accepted_65 : decode cX12_accepted 65 = .ok (.invokespecial 298, 3) := by decide +kernel
theorem dX12_accepted_68 : decode cX12_accepted 68 = .ok (.athrow, 1) := by decide +kernel
theorem dX12_accepted_69 : decode cX12_accepted 69 = .ok (.new 272, 3) := by decide +kernel
theorem dX12_accepted_72 : decode cX12_accepted 72 = .ok (.dup, 1) := by decide +kernel
theorem dX12_accepted_73 : decode cX12_accepted 73 = .ok (.ldc_w 311, 3) := by decide +kernel
theorem dX12_accepted_76 : decode cX12_accepted 76 = .ok (.invokespecial 276, 3) := by decide +kernel
theorem dX12_accepted_79 : decode cX12_accepted 79 = .ok (.athrow, 1) := by decide +kernel
theorem dX12_accepted_80 : decode cX12_accepted 80 = .ok (.new 313, 3) := by decide +kernel
theorem dX12_accepted_83 : decode cX12_accepted 83 = .ok (.dup, 1) := by decide +kernel
theorem dX12_accepted_84 : decode cX12_accepted 84 = .ok (.ldc_w 315, 3) := by decide +kernel
theorem dX12_accepted_87 : decode cX12_accepted 87 = .ok (.invokespecial 317, 3) := by decide +kernel
theorem dX12_accepted_90 : decode cX12_accepted 90 = .ok (.athrow, 1) := by decide +kernel
theorem dX12_accepted_91 : decode cX12_accepted 91 = .ok (.iload_n 0, 1) := by decide +kernel
theorem dX12_accepted_92 : decode cX12_accepted 92 = .ok (.ireturn, 1) := by decide +kernel
theorem dX12_present_0 : decode cX12_present 0 = .ok (.iload_n 0, 1) := by decide +kernel
theorem dX12_present_1 : decode cX12_present 1 = .ok (.iconst (-1), 1) := by decide +kernel
theorem dX12_present_2 : decode cX12_present 2 = .ok (.if_icmp .ne 8, 3) := by decide +kernel
theorem dX12_present_5 : decode cX12_present 5 = .ok (.bipush (-6), 2) := by decide +kernel
theorem dX12_present_7 : decode cX12_present 7 = .ok (.goto 4, 3) := by decide +kernel
theorem dX12_present_10 : decode cX12_present 10 = .ok (.iload_n 0, 1) := by decide +kernel
theorem dX12_present_11 : decode cX12_present 11 = .ok (.invokestatic 177, 3) := by decide +kernel
theorem dX12_present_14 : decode cX12_present 14 = .ok (.ireturn, 1) := by decide +kernel
theorem dX12_recorded_0 : decode cX12_recorded 0 = .ok (.iload_n 1, 1) := by decide +kernel
theorem dX12_recorded_1 : decode cX12_recorded 1 = .ok (.invokestatic 177, 3) := by decide +kernel
theorem dX12_recorded_4 : decode cX12_recorded 4 = .ok (.istore_n 2, 1) := by decide +kernel
theorem dX12_recorded_5 : decode cX12_recorded 5 = .ok (.aload_n 0, 1) := by decide +kernel
theorem dX12_recorded_6 : decode cX12_recorded 6 = .ok (.getfield 22, 3) := by decide +kernel
theorem dX12_recorded_9 : decode cX12_recorded 9 = .ok (.invokevirtual 318, 3) := by decide +kernel
theorem dX12_recorded_12 : decode cX12_recorded 12 = .ok (.iload_n 2, 1) := by decide +kernel
theorem dX12_recorded_13 : decode cX12_recorded 13 = .ok (.ireturn, 1) := by decide +kernel
theorem dX12_requireIndex_0 : decode cX12_requireIndex 0 = .ok (.iload_n 0, 1) := by decide +kernel
theorem dX12_requireIndex_1 : decode cX12_requireIndex 1 = .ok (.iload_n 1, 1) := by decide +kernel
theorem dX12_requireIndex_2 : decode cX12_requireIndex 2 = .ok (.invokestatic 154, 3) := by decide +kernel
theorem dX12_requireIndex_5 : decode cX12_requireIndex 5 = .ok (.ifCond .ne 14, 3) := by decide +kernel
theorem dX12_requireIndex_8 : decode cX12_requireIndex 8 = .ok (.new 302, 3) := by decide +kernel
theorem dX12_requireIndex_11 : decode cX12_requireIndex 11 = .ok (.dup, 1) := by decide +kernel
theorem dX12_requireIndex_12 : decode cX12_requireIndex 12 = .ok (.ldc_w 304, 3) := by decide +kernel
theorem dX12_requireIndex_15 : decode cX12_requireIndex 15 = .ok (.invokespecial 306, 3) := by decide +kernel
theorem dX12_requireIndex_18 : decode cX12_requireIndex 18 = .ok (.athrow, 1) := by decide +kernel
theorem dX12_requireIndex_19 : decode cX12_requireIndex 19 = .ok (.return_, 1) := by decide +kernel
theorem dX12_requirePlaces_0 : decode cX12_requirePlaces 0 = .ok (.iload_n 0, 1) := by decide +kernel
theorem dX12_requirePlaces_1 : decode cX12_requirePlaces 1 = .ok (.bipush 6, 2) := by decide +kernel
theorem dX12_requirePlaces_3 : decode cX12_requirePlaces 3 = .ok (.invokestatic 121, 3) := by decide +kernel
theorem dX12_requirePlaces_6 : decode cX12_requirePlaces 6 = .ok (.iload_n 1, 1) := by decide +kernel
theorem dX12_requirePlaces_7 : decode cX12_requirePlaces 7 = .ok (.bipush 6, 2) := by decide +kernel
theorem dX12_requirePlaces_9 : decode cX12_requirePlaces 9 = .ok (.invokestatic 121, 3) := by decide +kernel
theorem dX12_requirePlaces_12 : decode cX12_requirePlaces 12 = .ok (.return_, 1) := by decide +kernel
theorem dX12_requireParcel_0 : decode cX12_requireParcel 0 = .ok (.iload_n 1, 1) := by decide +kernel
theorem dX12_requireParcel_1 : decode cX12_requireParcel 1 = .ok (.aload_n 0, 1) := by decide +kernel
theorem dX12_requireParcel_2 : decode cX12_requireParcel 2 = .ok (.getfield 10, 3) := by decide +kernel
theorem dX12_requireParcel_5 : decode cX12_requireParcel 5 = .ok (.getfield 127, 3) := by decide +kernel
theorem dX12_requireParcel_8 : decode cX12_requireParcel 8 = .ok (.invokevirtual 131, 3) := by decide +kernel
theorem dX12_requireParcel_11 : decode cX12_requireParcel 11 = .ok (.invokestatic 121, 3) := by decide +kernel
theorem dX12_requireParcel_14 : decode cX12_requireParcel 14 = .ok (.return_, 1) := by decide +kernel
theorem dX12_handlingAgrees_0 : decode cX12_handlingAgrees 0 = .ok (.aload_n 0, 1) := by decide +kernel
theorem dX12_handlingAgrees_1 : decode cX12_handlingAgrees 1 = .ok (.getfield 29, 3) := by decide +kernel
theorem dX12_handlingAgrees_4 : decode cX12_handlingAgrees 4 = .ok (.aload_n 0, 1) := by decide +kernel
theorem dX12_handlingAgrees_5 : decode cX12_handlingAgrees 5 = .ok (.getfield 10, 3) := by decide +kernel
theorem dX12_handlingAgrees_8 : decode cX12_handlingAgrees 8 = .ok (.invokevirtual 187, 3) := by decide +kernel
theorem dX12_handlingAgrees_11 : decode cX12_handlingAgrees 11 = .ok (.aload_n 0, 1) := by decide +kernel
theorem dX12_handlingAgrees_12 : decode cX12_handlingAgrees 12 = .ok (.getfield 29, 3) := by decide +kernel
theorem dX12_handlingAgrees_15 : decode cX12_handlingAgrees 15 = .ok (.aload_n 0, 1) := by decide +kernel
theorem dX12_handlingAgrees_16 : decode cX12_handlingAgrees 16 = .ok (.getfield 10, 3) := by decide +kernel
theorem dX12_handlingAgrees_19 : decode cX12_handlingAgrees 19 = .ok (.invokevirtual 191, 3) := by decide +kernel
theorem dX12_handlingAgrees_22 : decode cX12_handlingAgrees 22 = .ok (.if_icmp .ne 7, 3) := by decide +kernel
theorem dX12_handlingAgrees_25 : decode cX12_handlingAgrees 25 = .ok (.iconst 1, 1) := by decide +kernel
theorem dX12_handlingAgrees_26 : decode cX12_handlingAgrees 26 = .ok (.goto 4, 3) := by decide +kernel
theorem dX12_handlingAgrees_29 : decode cX12_handlingAgrees 29 = .ok (.iconst 0, 1) := by decide +kernel
theorem dX12_handlingAgrees_30 : decode cX12_handlingAgrees 30 = .ok (.ireturn, 1) := by decide +kernel
theorem dX12_sacksAgree_0 : decode cX12_sacksAgree 0 = .ok (.iconst 0, 1) := by decide +kernel
theorem dX12_sacksAgree_1 : decode cX12_sacksAgree 1 = .ok (.istore_n 1, 1) := by decide +kernel
theorem dX12_sacksAgree_2 : decode cX12_sacksAgree 2 = .ok (.iload_n 1, 1) := by decide +kernel
theorem dX12_sacksAgree_3 : decode cX12_sacksAgree 3 = .ok (.iconst 3, 1) := by decide +kernel
theorem dX12_sacksAgree_4 : decode cX12_sacksAgree 4 = .ok (.if_icmp .ge 51, 3) := by decide +kernel
theorem dX12_sacksAgree_7 : decode cX12_sacksAgree 7 = .ok (.aload_n 0, 1) := by decide +kernel
theorem dX12_sacksAgree_8 : decode cX12_sacksAgree 8 = .ok (.getfield 29, 3) := by decide +kernel
theorem dX12_sacksAgree_11 : decode cX12_sacksAgree 11 = .ok (.aload_n 0, 1) := by decide +kernel
theorem dX12_sacksAgree_12 : decode cX12_sacksAgree 12 = .ok (.getfield 10, 3) := by decide +kernel
theorem dX12_sacksAgree_15 : decode cX12_sacksAgree 15 = .ok (.iload_n 1, 1) := by decide +kernel
theorem dX12_sacksAgree_16 : decode cX12_sacksAgree 16 = .ok (.invokevirtual 209, 3) := by decide +kernel
theorem dX12_sacksAgree_19 : decode cX12_sacksAgree 19 = .ok (.aload_n 0, 1) := by decide +kernel
theorem dX12_sacksAgree_20 : decode cX12_sacksAgree 20 = .ok (.getfield 29, 3) := by decide +kernel
theorem dX12_sacksAgree_23 : decode cX12_sacksAgree 23 = .ok (.aload_n 0, 1) := by decide +kernel
theorem dX12_sacksAgree_24 : decode cX12_sacksAgree 24 = .ok (.getfield 10, 3) := by decide +kernel
theorem dX12_sacksAgree_27 : decode cX12_sacksAgree 27 = .ok (.iload_n 1, 1) := by decide +kernel
theorem dX12_sacksAgree_28 : decode cX12_sacksAgree 28 = .ok (.invokevirtual 213, 3) := by decide +kernel
theorem dX12_sacksAgree_31 : decode cX12_sacksAgree 31 = .ok (.if_icmp .eq 5, 3) := by decide +kernel
theorem dX12_sacksAgree_34 : decode cX12_sacksAgree 34 = .ok (.iconst 0, 1) := by decide +kernel
theorem dX12_sacksAgree_35 : decode cX12_sacksAgree 35 = .ok (.ireturn, 1) := by decide +kernel
theorem dX12_sacksAgree_36 : decode cX12_sacksAgree 36 = .ok (.aload_n 0, 1) := by decide +kernel
theorem dX12_sacksAgree_37 : decode cX12_sacksAgree 37 = .ok (.getfield 10, 3) := by decide +kernel
theorem dX12_sacksAgree_40 : decode cX12_sacksAgree 40 = .ok (.iload_n 1, 1) := by decide +kernel
theorem dX12_sacksAgree_41 : decode cX12_sacksAgree 41 = .ok (.invokevirtual 321, 3) := by decide +kernel
theorem dX12_sacksAgree_44 : decode cX12_sacksAgree 44 = .ok (.ifCond .ge 5, 3) := by decide +kernel
theorem dX12_sacksAgree_47 : decode cX12_sacksAgree 47 = .ok (.iconst 0, 1) := by decide +kernel
theorem dX12_sacksAgree_48 : decode cX12_sacksAgree 48 = .ok (.ireturn, 1) := by decide +kernel
theorem dX12_sacksAgree_49 : decode cX12_sacksAgree 49 = .ok (.iinc 1 1, 3) := by decide +kernel
theorem dX12_sacksAgree_52 : decode cX12_sacksAgree 52 = .ok (.goto (-50), 3) := by decide +kernel
theorem dX12_sacksAgree_55 : decode cX12_sacksAgree 55 = .ok (.iconst 1, 1) := by decide +kernel
theorem dX12_sacksAgree_56 : decode cX12_sacksAgree 56 = .ok (.ireturn, 1) := by decide +kernel
theorem dX12_carryOutCommands_0 : decode cX12_carryOutCommands 0 = .ok (.iconst 0, 1) := by decide +kernel
theorem dX12_carryOutCommands_1 : decode cX12_carryOutCommands 1 = .ok (.istore_n 1, 1) := by decide +kernel
theorem dX12_carryOutCommands_2 : decode cX12_carryOutCommands 2 = .ok (.iload_n 1, 1) := by decide +kernel
theorem dX12_carryOutCommands_3 : decode cX12_carryOutCommands 3 = .ok (.aload_n 0, 1) := by decide +kernel
theorem dX12_carryOutCommands_4 : decode cX12_carryOutCommands 4 = .ok (.getfield 36, 3) := by decide +kernel
theorem dX12_carryOutCommands_7 : decode cX12_carryOutCommands 7 = .ok (.invokevirtual 277, 3) := by decide +kernel
theorem dX12_carryOutCommands_10 : decode cX12_carryOutCommands 10 = .ok (.if_icmp .ge 26, 3) := by decide +kernel
theorem dX12_carryOutCommands_13 : decode cX12_carryOutCommands 13 = .ok (.aload_n 0, 1) := by decide +kernel
theorem dX12_carryOutCommands_14 : decode cX12_carryOutCommands 14 = .ok (.aload_n 0, 1) := by decide +kernel
theorem dX12_carryOutCommands_15 : decode cX12_carryOutCommands 15 = .ok (.getfield 36, 3) := by decide +kernel
theorem dX12_carryOutCommands_18 : decode cX12_carryOutCommands 18 = .ok (.iload_n 1, 1) := by decide +kernel
theorem dX12_carryOutCommands_19 : decode cX12_carryOutCommands 19 = .ok (.invokevirtual 324, 3) := by decide +kernel
theorem dX12_carryOutCommands_22 : decode cX12_carryOutCommands 22 = .ok (.invokevirtual 328, 3) := by decide +kernel
theorem dX12_carryOutCommands_25 : decode cX12_carryOutCommands 25 = .ok (.ifCond .ge 5, 3) := by decide +kernel
theorem dX12_carryOutCommands_28 : decode cX12_carryOutCommands 28 = .ok (.iload_n 1, 1) := by decide +kernel
theorem dX12_carryOutCommands_29 : decode cX12_carryOutCommands 29 = .ok (.ireturn, 1) := by decide +kernel
theorem dX12_carryOutCommands_30 : decode cX12_carryOutCommands 30 = .ok (.iinc 1 1, 3) := by decide +kernel
theorem dX12_carryOutCommands_33 : decode cX12_carryOutCommands 33 = .ok (.goto (-31), 3) := by decide +kernel
theorem dX12_carryOutCommands_36 : decode cX12_carryOutCommands 36 = .ok (.iconst (-1), 1) := by decide +kernel
theorem dX12_carryOutCommands_37 : decode cX12_carryOutCommands 37 = .ok (.ireturn, 1) := by decide +kernel
theorem dX12_carryOut_0 : decode cX12_carryOut 0 = .ok (.aload_n 1, 1) := by decide +kernel
theorem dX12_carryOut_1 : decode cX12_carryOut 1 = .ok (.ifnull 10, 3) := by decide +kernel
theorem dX12_carryOut_4 : decode cX12_carryOut 4 = .ok (.aload_n 1, 1) := by decide +kernel
theorem dX12_carryOut_5 : decode cX12_carryOut 5 = .ok (.getfield 332, 3) := by decide +kernel
theorem dX12_carryOut_8 : decode cX12_carryOut 8 = .ok (.ifnonnull 6, 3) := by decide +kernel
theorem dX12_carryOut_11 : decode cX12_carryOut 11 = .ok (.bipush (-5), 2) := by decide +kernel
theorem dX12_carryOut_13 : decode cX12_carryOut 13 = .ok (.ireturn, 1) := by decide +kernel
theorem dX12_carryOut_14 : decode cX12_carryOut 14 = .ok (.getstatic 338, 3) := by decide +kernel
theorem dX12_carryOut_17 : decode cX12_carryOut 17 = .ok (.aload_n 1, 1) := by decide +kernel
theorem dX12_carryOut_18 : decode cX12_carryOut 18 = .ok (.getfield 332, 3) := by decide +kernel
theorem dX12_carryOut_21 : decode cX12_carryOut 21 = .ok (.invokevirtual 344, 3) := by decide +kernel
theorem dX12_carryOut_24 : decode cX12_carryOut 24 = .ok (.iaload, 1) := by decide +kernel
theorem dX12_carryOut_25 : decode cX12_carryOut 25 = .ok (.tableswitch 151 1 7 #[43, 63, 83, 95, 111, 123, 139], 43) := by decide +kernel
theorem dX12_carryOut_68 : decode cX12_carryOut 68 = .ok (.aload_n 0, 1) := by decide +kernel
theorem dX12_carryOut_69 : decode cX12_carryOut 69 = .ok (.getfield 10, 3) := by decide +kernel
theorem dX12_carryOut_72 : decode cX12_carryOut 72 = .ok (.aload_n 1, 1) := by decide +kernel
theorem dX12_carryOut_73 : decode cX12_carryOut 73 = .ok (.getfield 349, 3) := by decide +kernel
theorem dX12_carryOut_76 : decode cX12_carryOut 76 = .ok (.aload_n 1, 1) := by decide +kernel
theorem dX12_carryOut_77 : decode cX12_carryOut 77 = .ok (.getfield 352, 3) := by decide +kernel
theorem dX12_carryOut_80 : decode cX12_carryOut 80 = .ok (.aload_n 1, 1) := by decide +kernel
theorem dX12_carryOut_81 : decode cX12_carryOut 81 = .ok (.getfield 355, 3) := by decide +kernel
theorem dX12_carryOut_84 : decode cX12_carryOut 84 = .ok (.invokevirtual 62, 3) := by decide +kernel
theorem dX12_carryOut_87 : decode cX12_carryOut 87 = .ok (.ireturn, 1) := by decide +kernel
theorem dX12_carryOut_88 : decode cX12_carryOut 88 = .ok (.aload_n 0, 1) := by decide +kernel
theorem dX12_carryOut_89 : decode cX12_carryOut 89 = .ok (.getfield 10, 3) := by decide +kernel
theorem dX12_carryOut_92 : decode cX12_carryOut 92 = .ok (.aload_n 1, 1) := by decide +kernel
theorem dX12_carryOut_93 : decode cX12_carryOut 93 = .ok (.getfield 349, 3) := by decide +kernel
theorem dX12_carryOut_96 : decode cX12_carryOut 96 = .ok (.aload_n 1, 1) := by decide +kernel
theorem dX12_carryOut_97 : decode cX12_carryOut 97 = .ok (.getfield 352, 3) := by decide +kernel
theorem dX12_carryOut_100 : decode cX12_carryOut 100 = .ok (.aload_n 1, 1) := by decide +kernel
theorem dX12_carryOut_101 : decode cX12_carryOut 101 = .ok (.getfield 355, 3) := by decide +kernel
theorem dX12_carryOut_104 : decode cX12_carryOut 104 = .ok (.invokevirtual 70, 3) := by decide +kernel
theorem dX12_carryOut_107 : decode cX12_carryOut 107 = .ok (.ireturn, 1) := by decide +kernel
theorem dX12_carryOut_108 : decode cX12_carryOut 108 = .ok (.aload_n 0, 1) := by decide +kernel
theorem dX12_carryOut_109 : decode cX12_carryOut 109 = .ok (.getfield 10, 3) := by decide +kernel
theorem dX12_carryOut_112 : decode cX12_carryOut 112 = .ok (.aload_n 1, 1) := by decide +kernel
theorem dX12_carryOut_113 : decode cX12_carryOut 113 = .ok (.getfield 349, 3) := by decide +kernel
theorem dX12_carryOut_116 : decode cX12_carryOut 116 = .ok (.invokevirtual 73, 3) := by decide +kernel
theorem dX12_carryOut_119 : decode cX12_carryOut 119 = .ok (.ireturn, 1) := by decide +kernel
theorem dX12_carryOut_120 : decode cX12_carryOut 120 = .ok (.aload_n 0, 1) := by decide +kernel
theorem dX12_carryOut_121 : decode cX12_carryOut 121 = .ok (.getfield 10, 3) := by decide +kernel
theorem dX12_carryOut_124 : decode cX12_carryOut 124 = .ok (.aload_n 1, 1) := by decide +kernel
theorem dX12_carryOut_125 : decode cX12_carryOut 125 = .ok (.getfield 349, 3) := by decide +kernel
theorem dX12_carryOut_128 : decode cX12_carryOut 128 = .ok (.aload_n 1, 1) := by decide +kernel
theorem dX12_carryOut_129 : decode cX12_carryOut 129 = .ok (.getfield 352, 3) := by decide +kernel
theorem dX12_carryOut_132 : decode cX12_carryOut 132 = .ok (.invokevirtual 80, 3) := by decide +kernel
theorem dX12_carryOut_135 : decode cX12_carryOut 135 = .ok (.ireturn, 1) := by decide +kernel
theorem dX12_carryOut_136 : decode cX12_carryOut 136 = .ok (.aload_n 0, 1) := by decide +kernel
theorem dX12_carryOut_137 : decode cX12_carryOut 137 = .ok (.getfield 10, 3) := by decide +kernel
theorem dX12_carryOut_140 : decode cX12_carryOut 140 = .ok (.aload_n 1, 1) := by decide +kernel
theorem dX12_carryOut_141 : decode cX12_carryOut 141 = .ok (.getfield 349, 3) := by decide +kernel
theorem dX12_carryOut_144 : decode cX12_carryOut 144 = .ok (.invokevirtual 83, 3) := by decide +kernel
theorem dX12_carryOut_147 : decode cX12_carryOut 147 = .ok (.ireturn, 1) := by decide +kernel
theorem dX12_carryOut_148 : decode cX12_carryOut 148 = .ok (.aload_n 0, 1) := by decide +kernel
theorem dX12_carryOut_149 : decode cX12_carryOut 149 = .ok (.getfield 10, 3) := by decide +kernel
theorem dX12_carryOut_152 : decode cX12_carryOut 152 = .ok (.aload_n 1, 1) := by decide +kernel
theorem dX12_carryOut_153 : decode cX12_carryOut 153 = .ok (.getfield 349, 3) := by decide +kernel
theorem dX12_carryOut_156 : decode cX12_carryOut 156 = .ok (.aload_n 1, 1) := by decide +kernel
theorem dX12_carryOut_157 : decode cX12_carryOut 157 = .ok (.getfield 352, 3) := by decide +kernel
theorem dX12_carryOut_160 : decode cX12_carryOut 160 = .ok (.invokevirtual 86, 3) := by decide +kernel
theorem dX12_carryOut_163 : decode cX12_carryOut 163 = .ok (.ireturn, 1) := by decide +kernel
theorem dX12_carryOut_164 : decode cX12_carryOut 164 = .ok (.aload_n 0, 1) := by decide +kernel
theorem dX12_carryOut_165 : decode cX12_carryOut 165 = .ok (.getfield 10, 3) := by decide +kernel
theorem dX12_carryOut_168 : decode cX12_carryOut 168 = .ok (.aload_n 1, 1) := by decide +kernel
theorem dX12_carryOut_169 : decode cX12_carryOut 169 = .ok (.getfield 349, 3) := by decide +kernel
theorem dX12_carryOut_172 : decode cX12_carryOut 172 = .ok (.invokevirtual 89, 3) := by decide +kernel
theorem dX12_carryOut_175 : decode cX12_carryOut 175 = .ok (.ireturn, 1) := by decide +kernel
theorem dX12_carryOut_176 : decode cX12_carryOut 176 = .ok (.bipush (-5), 2) := by decide +kernel
theorem dX12_carryOut_178 : decode cX12_carryOut 178 = .ok (.ireturn, 1) := by decide +kernel
theorem dX13_init_0 : decode cX13_init 0 = .ok (.aload_n 0, 1) := by decide +kernel
theorem dX13_init_1 : decode cX13_init 1 = .ok (.invokespecial 1, 3) := by decide +kernel
theorem dX13_init_4 : decode cX13_init 4 = .ok (.aload_n 0, 1) := by decide +kernel
theorem dX13_init_5 : decode cX13_init 5 = .ok (.sipush 134, 3) := by decide +kernel
theorem dX13_init_8 : decode cX13_init 8 = .ok (.newarray .int, 2) := by decide +kernel
theorem dX13_init_10 : decode cX13_init 10 = .ok (.putfield 7, 3) := by decide +kernel
theorem dX13_init_13 : decode cX13_init 13 = .ok (.aload_n 0, 1) := by decide +kernel
theorem dX13_init_14 : decode cX13_init 14 = .ok (.sipush 134, 3) := by decide +kernel
theorem dX13_init_17 : decode cX13_init 17 = .ok (.newarray .int, 2) := by decide +kernel
theorem dX13_init_19 : decode cX13_init 19 = .ok (.putfield 13, 3) := by decide +kernel
theorem dX13_init_22 : decode cX13_init 22 = .ok (.aload_n 0, 1) := by decide +kernel
theorem dX13_init_23 : decode cX13_init 23 = .ok (.sipush 1072, 3) := by decide +kernel
theorem dX13_init_26 : decode cX13_init 26 = .ok (.newarray .int, 2) := by decide +kernel
theorem dX13_init_28 : decode cX13_init 28 = .ok (.putfield 16, 3) := by decide +kernel
theorem dX13_init_31 : decode cX13_init 31 = .ok (.aload_n 0, 1) := by decide +kernel
theorem dX13_init_32 : decode cX13_init 32 = .ok (.sipush 134, 3) := by decide +kernel
theorem dX13_init_35 : decode cX13_init 35 = .ok (.newarray .int, 2) := by decide +kernel
theorem dX13_init_37 : decode cX13_init 37 = .ok (.putfield 19, 3) := by decide +kernel
theorem dX13_init_40 : decode cX13_init 40 = .ok (.aload_n 0, 1) := by decide +kernel
theorem dX13_init_41 : decode cX13_init 41 = .ok (.bipush 60, 2) := by decide +kernel
theorem dX13_init_43 : decode cX13_init 43 = .ok (.newarray .char, 2) := by decide +kernel
theorem dX13_init_45 : decode cX13_init 45 = .ok (.putfield 22, 3) := by decide +kernel
theorem dX13_init_48 : decode cX13_init 48 = .ok (.aload_n 0, 1) := by decide +kernel
theorem dX13_init_49 : decode cX13_init 49 = .ok (.iconst (-1), 1) := by decide +kernel
theorem dX13_init_50 : decode cX13_init 50 = .ok (.putfield 26, 3) := by decide +kernel
theorem dX13_init_53 : decode cX13_init 53 = .ok (.aload_n 0, 1) := by decide +kernel
theorem dX13_init_54 : decode cX13_init 54 = .ok (.iconst (-1), 1) := by decide +kernel
theorem dX13_init_55 : decode cX13_init 55 = .ok (.putfield 30, 3) := by decide +kernel
theorem dX13_init_58 : decode cX13_init 58 = .ok (.aload_n 0, 1) := by decide +kernel
theorem dX13_init_59 : decode cX13_init 59 = .ok (.sipush 200, 3) := by decide +kernel
theorem dX13_init_62 : decode cX13_init 62 = .ok (.newarray .char, 2) := by decide +kernel
theorem dX13_init_64 : decode cX13_init 64 = .ok (.putfield 33, 3) := by decide +kernel
theorem dX13_init_67 : decode cX13_init 67 = .ok (.aload_n 0, 1) := by decide +kernel
theorem dX13_init_68 : decode cX13_init 68 = .ok (.bipush 6, 2) := by decide +kernel
theorem dX13_init_70 : decode cX13_init 70 = .ok (.newarray .int, 2) := by decide +kernel
theorem dX13_init_72 : decode cX13_init 72 = .ok (.putfield 36, 3) := by decide +kernel
theorem dX13_init_75 : decode cX13_init 75 = .ok (.aload_n 0, 1) := by decide +kernel
theorem dX13_init_76 : decode cX13_init 76 = .ok (.sipush 240, 3) := by decide +kernel
theorem dX13_init_79 : decode cX13_init 79 = .ok (.newarray .int, 2) := by decide +kernel
theorem dX13_init_81 : decode cX13_init 81 = .ok (.putfield 39, 3) := by decide +kernel
theorem dX13_init_84 : decode cX13_init 84 = .ok (.iconst 0, 1) := by decide +kernel
theorem dX13_init_85 : decode cX13_init 85 = .ok (.istore_n 1, 1) := by decide +kernel
theorem dX13_init_86 : decode cX13_init 86 = .ok (.iload_n 1, 1) := by decide +kernel
theorem dX13_init_87 : decode cX13_init 87 = .ok (.iconst 3, 1) := by decide +kernel
theorem dX13_init_88 : decode cX13_init 88 = .ok (.if_icmp .ge 21, 3) := by decide +kernel
theorem dX13_init_91 : decode cX13_init 91 = .ok (.aload_n 0, 1) := by decide +kernel
theorem dX13_init_92 : decode cX13_init 92 = .ok (.getfield 7, 3) := by decide +kernel
theorem dX13_init_95 : decode cX13_init 95 = .ok (.sipush 131, 3) := by decide +kernel
theorem dX13_init_98 : decode cX13_init 98 = .ok (.iload_n 1, 1) := by decide +kernel
theorem dX13_init_99 : decode cX13_init 99 = .ok (.iadd, 1) := by decide +kernel
theorem dX13_init_100 : decode cX13_init 100 = .ok (.bipush 30, 2) := by decide +kernel
theorem dX13_init_102 : decode cX13_init 102 = .ok (.iastore, 1) := by decide +kernel
theorem dX13_init_103 : decode cX13_init 103 = .ok (.iinc 1 1, 3) := by decide +kernel
theorem dX13_init_106 : decode cX13_init 106 = .ok (.goto (-20), 3) := by decide +kernel
theorem dX13_init_109 : decode cX13_init 109 = .ok (.return_, 1) := by decide +kernel
theorem dX13_thrown_0 : decode cX13_thrown 0 = .ok (.aload_n 0, 1) := by decide +kernel
theorem dX13_thrown_1 : decode cX13_thrown 1 = .ok (.getfield 42, 3) := by decide +kernel
theorem dX13_thrown_4 : decode cX13_thrown 4 = .ok (.ireturn, 1) := by decide +kernel
theorem dX13_in_0 : decode cX13_in 0 = .ok (.iload_n 0, 1) := by decide +kernel
theorem dX13_in_1 : decode cX13_in 1 = .ok (.iload_n 1, 1) := by decide +kernel
theorem dX13_in_2 : decode cX13_in 2 = .ok (.if_icmp .lt 12, 3) := by decide +kernel
theorem dX13_in_5 : decode cX13_in 5 = .ok (.iload_n 0, 1) := by decide +kernel
theorem dX13_in_6 : decode cX13_in 6 = .ok (.iload_n 2, 1) := by decide +kernel
theorem dX13_in_7 : decode cX13_in 7 = .ok (.if_icmp .gt 7, 3) := by decide +kernel
theorem dX13_in_10 : decode cX13_in 10 = .ok (.iconst 1, 1) := by decide +kernel
theorem dX13_in_11 : decode cX13_in 11 = .ok (.goto 4, 3) := by decide +kernel
theorem dX13_in_14 : decode cX13_in 14 = .ok (.iconst 0, 1) := by decide +kernel
theorem dX13_in_15 : decode cX13_in 15 = .ok (.ireturn, 1) := by decide +kernel
theorem dX13_done_0 : decode cX13_done 0 = .ok (.aload_n 0, 1) := by decide +kernel
theorem dX13_done_1 : decode cX13_done 1 = .ok (.iconst 0, 1) := by decide +kernel
theorem dX13_done_2 : decode cX13_done 2 = .ok (.putfield 42, 3) := by decide +kernel
theorem dX13_done_5 : decode cX13_done 5 = .ok (.iload_n 1, 1) := by decide +kernel
theorem dX13_done_6 : decode cX13_done 6 = .ok (.ireturn, 1) := by decide +kernel
theorem dX13_fails_0 : decode cX13_fails 0 = .ok (.aload_n 0, 1) := by decide +kernel
theorem dX13_fails_1 : decode cX13_fails 1 = .ok (.iload_n 1, 1) := by decide +kernel
theorem dX13_fails_2 : decode cX13_fails 2 = .ok (.putfield 42, 3) := by decide +kernel
theorem dX13_fails_5 : decode cX13_fails 5 = .ok (.iconst 0, 1) := by decide +kernel
theorem dX13_fails_6 : decode cX13_fails 6 = .ok (.ireturn, 1) := by decide +kernel
theorem dX13_copy_0 : decode cX13_copy 0 = .ok (.iconst 0, 1) := by decide +kernel
theorem dX13_copy_1 : decode cX13_copy 1 = .ok (.istore 4, 2) := by decide +kernel
theorem dX13_copy_3 : decode cX13_copy 3 = .ok (.iload 4, 2) := by decide +kernel
theorem dX13_copy_5 : decode cX13_copy 5 = .ok (.sipush 134, 3) := by decide +kernel
theorem dX13_copy_8 : decode cX13_copy 8 = .ok (.if_icmp .ge 21, 3) := by decide +kernel
theorem dX13_copy_11 : decode cX13_copy 11 = .ok (.aload_n 2, 1) := by decide +kernel
theorem dX13_copy_12 : decode cX13_copy 12 = .ok (.iload_n 3, 1) := by decide +kernel
theorem dX13_copy_13 : decode cX13_copy 13 = .ok (.iload 4, 2) := by decide +kernel
theorem dX13_copy_15 : decode cX13_copy 15 = .ok (.iadd, 1) := by decide +kernel
theorem dX13_copy_16 : decode cX13_copy 16 = .ok (.aload_n 0, 1) := by decide +kernel
theorem dX13_copy_17 : decode cX13_copy 17 = .ok (.iload_n 1, 1) := by decide +kernel
theorem dX13_copy_18 : decode cX13_copy 18 = .ok (.iload 4, 2) := by decide +kernel
theorem dX13_copy_20 : decode cX13_copy 20 = .ok (.iadd, 1) := by decide +kernel
theorem dX13_copy_21 : decode cX13_copy 21 = .ok (.iaload, 1) := by decide +kernel
theorem dX13_copy_22 : decode cX13_copy 22 = .ok (.iastore, 1) := by decide +kernel
theorem dX13_copy_23 : decode cX13_copy 23 = .ok (.iinc 4 1, 3) := by decide +kernel
theorem dX13_copy_26 : decode cX13_copy 26 = .ok (.goto (-23), 3) := by decide +kernel
theorem dX13_copy_29 : decode cX13_copy 29 = .ok (.return_, 1) := by decide +kernel
theorem dX13_begin_0 : decode cX13_begin 0 = .ok (.aload_n 0, 1) := by decide +kernel
theorem dX13_begin_1 : decode cX13_begin 1 = .ok (.getfield 7, 3) := by decide +kernel
theorem dX13_begin_4 : decode cX13_begin 4 = .ok (.iconst 0, 1) := by decide +kernel
theorem dX13_begin_5 : decode cX13_begin 5 = .ok (.aload_n 0, 1) := by decide +kernel
theorem dX13_begin_6 : decode cX13_begin 6 = .ok (.getfield 13, 3) := by decide +kernel
theorem dX13_begin_9 : decode cX13_begin 9 = .ok (.iconst 0, 1) := by decide +kernel
theorem dX13_begin_10 : decode cX13_begin 10 = .ok (.invokestatic 45, 3) := by decide +kernel
theorem dX13_begin_13 : decode cX13_begin 13 = .ok (.return_, 1) := by decide +kernel
theorem dX13_kept_0 : decode cX13_kept 0 = .ok (.aload_n 0, 1) := by decide +kernel
theorem dX13_kept_1 : decode cX13_kept 1 = .ok (.getfield 42, 3) := by decide +kernel
theorem dX13_kept_4 : decode cX13_kept 4 = .ok (.ifCond .eq 18, 3) := by decide +kernel
theorem dX13_kept_7 : decode cX13_kept 7 = .ok (.aload_n 0, 1) := by decide +kernel
theorem dX13_kept_8 : decode cX13_kept 8 = .ok (.getfield 13, 3) := by decide +kernel
theorem dX13_kept_11 : decode cX13_kept 11 = .ok (.iconst 0, 1) := by decide +kernel
theorem dX13_kept_12 : decode cX13_kept 12 = .ok (.aload_n 0, 1) := by decide +kernel
theorem dX13_kept_13 : decode cX13_kept 13 = .ok (.getfield 7, 3) := by decide +kernel
theorem dX13_kept_16 : decode cX13_kept 16 = .ok (.iconst 0, 1) := by decide +kernel
theorem dX13_kept_17 : decode cX13_kept 17 = .ok (.invokestatic 45, 3) := by decide +kernel
theorem dX13_kept_20 : decode cX13_kept 20 = .ok (.iconst 0, 1) := by decide +kernel
theorem dX13_kept_21 : decode cX13_kept 21 = .ok (.ireturn, 1) := by decide +kernel
theorem dX13_kept_22 : decode cX13_kept 22 = .ok (.aload_n 0, 1) := by decide +kernel
theorem dX13_kept_23 : decode cX13_kept 23 = .ok (.getfield 49, 3) := by decide +kernel
theorem dX13_kept_26 : decode cX13_kept 26 = .ok (.bipush 8, 2) := by decide +kernel
theorem dX13_kept_28 : decode cX13_kept 28 = .ok (.if_icmp .ne 44, 3) := by decide +kernel
theorem dX13_kept_31 : decode cX13_kept 31 = .ok (.iconst 0, 1) := by decide +kernel
theorem dX13_kept_32 : decode cX13_kept 32 = .ok (.istore_n 2, 1) := by decide +kernel
theorem dX13_kept_33 : decode cX13_kept 33 = .ok (.iload_n 2, 1) := by decide +kernel
theorem dX13_kept_34 : decode cX13_kept 34 = .ok (.sipush 938, 3) := by decide +kernel
theorem dX13_kept_37 : decode cX13_kept 37 = .ok (.if_icmp .ge 25, 3) := by decide +kernel
theorem dX13_kept_40 : decode cX13_kept 40 = .ok (.aload_n 0, 1) := by decide +kernel
theorem dX13_kept_41 : decode cX13_kept 41 = .ok (.getfield 16, 3) := by decide +kernel
theorem dX13_kept_44 : decode cX13_kept 44 = .ok (.iload_n 2, 1) := by decide +kernel
theorem dX13_kept_45 : decode cX13_kept 45 = .ok (.aload_n 0, 1) := by decide +kernel
theorem dX13_kept_46 : decode cX13_kept 46 = .ok (.getfield 16, 3) := by decide +kernel
theorem dX13_kept_49 : decode cX13_kept 49 = .ok (.iload_n 2, 1) := by decide +kernel
theorem dX13_kept_50 : decode cX13_kept 50 = .ok (.sipush 134, 3) := by decide +kernel
theorem dX13_kept_53 : decode cX13_kept 53 = .ok (.iadd, 1) := by decide +kernel
theorem dX13_kept_54 : decode cX13_kept 54 = .ok (.iaload, 1) := by decide +kernel
theorem dX13_kept_55 : decode cX13_kept 55 = .ok (.iastore, 1) := by decide +kernel
theorem dX13_kept_56 : decode cX13_kept 56 = .ok (.iinc 2 1, 3) := by decide +kernel
theorem dX13_kept_59 : decode cX13_kept 59 = .ok (.goto (-26), 3) := by decide +kernel
theorem dX13_kept_62 : decode cX13_kept 62 = .ok (.aload_n 0, 1) := by decide +kernel
theorem dX13_kept_63 : decode cX13_kept 63 = .ok (.dup, 1) := by decide +kernel
theorem dX13_kept_64 : decode cX13_kept 64 = .ok (.getfield 49, 3) := by decide +kernel
theorem dX13_kept_67 : decode cX13_kept 67 = .ok (.iconst 1, 1) := by decide +kernel
theorem dX13_kept_68 : decode cX13_kept 68 = .ok (.isub, 1) := by decide +kernel
theorem dX13_kept_69 : decode cX13_kept 69 = .ok (.putfield 49, 3) := by decide +kernel
theorem dX13_kept_72 : decode cX13_kept 72 = .ok (.aload_n 0, 1) := by decide +kernel
theorem dX13_kept_73 : decode cX13_kept 73 = .ok (.getfield 13, 3) := by decide +kernel
theorem dX13_kept_76 : decode cX13_kept 76 = .ok (.iconst 0, 1) := by decide +kernel
theorem dX13_kept_77 : decode cX13_kept 77 = .ok (.aload_n 0, 1) := by decide +kernel
theorem dX13_kept_78 : decode cX13_kept 78 = .ok (.getfield 16, 3) := by decide +kernel
theorem dX13_kept_81 : decode cX13_kept 81 = .ok (.aload_n 0, 1) := by decide +kernel
theorem dX13_kept_82 : decode cX13_kept 82 = .ok (.getfield 49, 3) := by decide +kernel
theorem dX13_kept_85 : decode cX13_kept 85 = .ok (.sipush 134, 3) := by decide +kernel
theorem dX13_kept_88 : decode cX13_kept 88 = .ok (.imul, 1) := by decide +kernel
theorem dX13_kept_89 : decode cX13_kept 89 = .ok (.invokestatic 45, 3) := by decide +kernel
theorem dX13_kept_92 : decode cX13_kept 92 = .ok (.aload_n 0, 1) := by decide +kernel
theorem dX13_kept_93 : decode cX13_kept 93 = .ok (.dup, 1) := by decide +kernel
theorem dX13_kept_94 : decode cX13_kept 94 = .ok (.getfield 49, 3) := by decide +kernel
theorem dX13_kept_97 : decode cX13_kept 97 = .ok (.iconst 1, 1) := by decide +kernel
theorem dX13_kept_98 : decode cX13_kept 98 = .ok (.iadd, 1) := by decide +kernel
theorem dX13_kept_99 : decode cX13_kept 99 = .ok (.putfield 49, 3) := by decide +kernel
theorem dX13_kept_102 : decode cX13_kept 102 = .ok (.iload_n 1, 1) := by decide +kernel
theorem dX13_kept_103 : decode cX13_kept 103 = .ok (.ireturn, 1) := by decide +kernel
theorem dX13_isPlace_0 : decode cX13_isPlace 0 = .ok (.iload_n 0, 1) := by decide +kernel
theorem dX13_isPlace_1 : decode cX13_isPlace 1 = .ok (.iconst 0, 1) := by decide +kernel
theorem dX13_isPlace_2 : decode cX13_isPlace 2 = .ok (.iconst 5, 1) := by decide +kernel
theorem dX13_isPlace_3 : decode cX13_isPlace 3 = .ok (.invokestatic 52, 3) := by decide +kernel
theorem dX13_isPlace_6 : decode cX13_isPlace 6 = .ok (.ireturn, 1) := by decide +kernel
theorem dX13_isSack_0 : decode cX13_isSack 0 = .ok (.iload_n 0, 1) := by decide +kernel
theorem dX13_isSack_1 : decode cX13_isSack 1 = .ok (.iconst 0, 1) := by decide +kernel
theorem dX13_isSack_2 : decode cX13_isSack 2 = .ok (.iconst 2, 1) := by decide +kernel
theorem dX13_isSack_3 : decode cX13_isSack 3 = .ok (.invokestatic 52, 3) := by decide +kernel
theorem dX13_isSack_6 : decode cX13_isSack 6 = .ok (.ireturn, 1) := by decide +kernel
theorem dX13_isParcel_0 : decode cX13_isParcel 0 = .ok (.iload_n 1, 1) := by decide +kernel
theorem dX13_isParcel_1 : decode cX13_isParcel 1 = .ok (.iconst 0, 1) := by decide +kernel
theorem dX13_isParcel_2 : decode cX13_isParcel 2 = .ok (.aload_n 0, 1) := by decide +kernel
theorem dX13_isParcel_3 : decode cX13_isParcel 3 = .ok (.getfield 7, 3) := by decide +kernel
theorem dX13_isParcel_6 : decode cX13_isParcel 6 = .ok (.bipush 36, 2) := by decide +kernel
theorem dX13_isParcel_8 : decode cX13_isParcel 8 = .ok (.iaload, 1) := by decide +kernel
theorem dX13_isParcel_9 : decode cX13_isParcel 9 = .ok (.iconst 1, 1) := by decide +kernel
theorem dX13_isParcel_10 : decode cX13_isParcel 10 = .ok (.isub, 1) := by decide +kernel
theorem dX13_isParcel_11 : decode cX13_isParcel 11 = .ok (.invokestatic 52, 3) := by decide +kernel
theorem dX13_isParcel_14 : decode cX13_isParcel 14 = .ok (.ireturn, 1) := by decide +kernel
theorem dX13_isGlove_0 : decode cX13_isGlove 0 = .ok (.iload_n 1, 1) := by decide +kernel
theorem dX13_isGlove_1 : decode cX13_isGlove 1 = .ok (.iconst 0, 1) := by decide +kernel
theorem dX13_isGlove_2 : decode cX13_isGlove 2 = .ok (.aload_n 0, 1) := by decide +kernel
theorem dX13_isGlove_3 : decode cX13_isGlove 3 = .ok (.getfield 7, 3) := by decide +kernel
theorem dX13_isGlove_6 : decode cX13_isGlove 6 = .ok (.bipush 37, 2) := by decide +kernel
theorem dX13_isGlove_8 : decode cX13_isGlove 8 = .ok (.iaload, 1) := by decide +kernel
theorem dX13_isGlove_9 : decode cX13_isGlove 9 = .ok (.iconst 1, 1) := by decide +kernel
theorem dX13_isGlove_10 : decode cX13_isGlove 10 = .ok (.isub, 1) := by decide +kernel
theorem dX13_isGlove_11 : decode cX13_isGlove 11 = .ok (.invokestatic 52, 3) := by decide +kernel
theorem dX13_isGlove_14 : decode cX13_isGlove 14 = .ok (.ireturn, 1) := by decide +kernel
theorem dX13_road_0 : decode cX13_road 0 = .ok (.aload_n 0, 1) := by decide +kernel
theorem dX13_road_1 : decode cX13_road 1 = .ok (.getfield 7, 3) := by decide +kernel
theorem dX13_road_4 : decode cX13_road 4 = .ok (.iconst 0, 1) := by decide +kernel
theorem dX13_road_5 : decode cX13_road 5 = .ok (.bipush 6, 2) := by decide +kernel
theorem dX13_road_7 : decode cX13_road 7 = .ok (.iload_n 1, 1) := by decide +kernel
theorem dX13_road_8 : decode cX13_road 8 = .ok (.imul, 1) := by decide +kernel
theorem dX13_road_9 : decode cX13_road 9 = .ok (.iadd, 1) := by decide +kernel
theorem dX13_road_10 : decode cX13_road 10 = .ok (.iload_n 2, 1) := by decide +kernel
theorem dX13_road_11 : decode cX13_road 11 = .ok (.iadd, 1) := by decide +kernel
theorem dX13_road_12 : decode cX13_road 12 = .ok (.iaload, 1) := by decide +kernel
theorem dX13_road_13 : decode cX13_road 13 = .ok (.ireturn, 1) := by decide +kernel
theorem dX13_roads_0 : decode cX13_roads 0 = .ok (.iconst 0, 1) := by decide +kernel
theorem dX13_roads_1 : decode cX13_roads 1 = .ok (.istore_n 1, 1) := by decide +kernel
theorem dX13_roads_2 : decode cX13_roads 2 = .ok (.iconst 0, 1) := by decide +kernel
theorem dX13_roads_3 : decode cX13_roads 3 = .ok (.istore_n 2, 1) := by decide +kernel
theorem dX13_roads_4 : decode cX13_roads 4 = .ok (.iload_n 2, 1) := by decide +kernel
theorem dX13_roads_5 : decode cX13_roads 5 = .ok (.bipush 6, 2) := by decide +kernel
theorem dX13_roads_7 : decode cX13_roads 7 = .ok (.if_icmp .ge 39, 3) := by decide +kernel
theorem dX13_roads_10 : decode cX13_roads 10 = .ok (.iconst 0, 1) := by decide +kernel
theorem dX13_roads_11 : decode cX13_roads 11 = .ok (.istore_n 3, 1) := by decide +kernel
theorem dX13_roads_12 : decode cX13_roads 12 = .ok (.iload_n 3, 1) := by decide +kernel
theorem dX13_roads_13 : decode cX13_roads 13 = .ok (.iload_n 2, 1) := by decide +kernel
theorem dX13_roads_14 : decode cX13_roads 14 = .ok (.if_icmp .ge 26, 3) := by decide +kernel
theorem dX13_roads_17 : decode cX13_roads 17 = .ok (.iload_n 1, 1) := by decide +kernel
theorem dX13_roads_18 : decode cX13_roads 18 = .ok (.aload_n 0, 1) := by decide +kernel
theorem dX13_roads_19 : decode cX13_roads 19 = .ok (.iload_n 2, 1) := by decide +kernel
theorem dX13_roads_20 : decode cX13_roads 20 = .ok (.iload_n 3, 1) := by decide +kernel
theorem dX13_roads_21 : decode cX13_roads 21 = .ok (.invokevirtual 56, 3) := by decide +kernel
theorem dX13_roads_24 : decode cX13_roads 24 = .ok (.ifCond .le 7, 3) := by decide +kernel
theorem dX13_roads_27 : decode cX13_roads 27 = .ok (.iconst 1, 1) := by decide +kernel
theorem dX13_roads_28 : decode cX13_roads 28 = .ok (.goto 4, 3) := by decide +kernel
theorem dX13_roads_31 : decode cX13_roads 31 = .ok (.iconst 0, 1) := by decide +kernel
theorem dX13_roads_32 : decode cX13_roads 32 = .ok (.iadd, 1) := by decide +kernel
theorem dX13_roads_33 : decode cX13_roads 33 = .ok (.istore_n 1, 1) := by decide +kernel
theorem dX13_roads_34 : decode cX13_roads 34 = .ok (.iinc 3 1, 3) := by decide +kernel
theorem dX13_roads_37 : decode cX13_roads 37 = .ok (.goto (-25), 3) := by decide +kernel
theorem dX13_roads_40 : decode cX13_roads 40 = .ok (.iinc 2 1, 3) := by decide +kernel
theorem dX13_roads_43 : decode cX13_roads 43 = .ok (.goto (-39), 3) := by decide +kernel
theorem dX13_roads_46 : decode cX13_roads 46 = .ok (.iload_n 1, 1) := by decide +kernel
theorem dX13_roads_47 : decode cX13_roads 47 = .ok (.ireturn, 1) := by decide +kernel
theorem dX13_builds_0 : decode cX13_builds 0 = .ok (.iload_n 1, 1) := by decide +kernel
theorem dX13_builds_1 : decode cX13_builds 1 = .ok (.invokestatic 60, 3) := by decide +kernel
theorem dX13_builds_4 : decode cX13_builds 4 = .ok (.ifCond .eq 10, 3) := by decide +kernel
theorem dX13_builds_7 : decode cX13_builds 7 = .ok (.iload_n 2, 1) := by decide +kernel
theorem dX13_builds_8 : decode cX13_builds 8 = .ok (.invokestatic 60, 3) := by decide +kernel
theorem dX13_builds_11 : decode cX13_builds 11 = .ok (.ifCond .ne 9, 3) := by decide +kernel
theorem dX13_builds_14 : decode cX13_builds 14 = .ok (.aload_n 0, 1) := by decide +kernel
theorem dX13_builds_15 : decode cX13_builds 15 = .ok (.iconst 1, 1) := by decide +kernel
theorem dX13_builds_16 : decode cX13_builds 16 = .ok (.invokevirtual 64, 3) := by decide +kernel
theorem dX13_builds_19 : decode cX13_builds 19 = .ok (.ireturn, 1) := by decide +kernel
theorem dX13_builds_20 : decode cX13_builds 20 = .ok (.iload_n 1, 1) := by decide +kernel
theorem dX13_builds_21 : decode cX13_builds 21 = .ok (.iload_n 2, 1) := by decide +kernel
theorem dX13_builds_22 : decode cX13_builds 22 = .ok (.if_icmp .eq 13, 3) := by decide +kernel
theorem dX13_builds_25 : decode cX13_builds 25 = .ok (.iload_n 3, 1) := by decide +kernel
theorem dX13_builds_26 : decode cX13_builds 26 = .ok (.iconst 1, 1) := by decide +kernel
theorem dX13_builds_27 : decode cX13_builds 27 = .ok (.bipush 20, 2) := by decide +kernel
theorem dX13_builds_29 : decode cX13_builds 29 = .ok (.invokestatic 52, 3) := by decide +kernel
theorem dX13_builds_32 : decode cX13_builds 32 = .ok (.ifCond .ne 9, 3) := by decide +kernel
theorem dX13_builds_35 : decode cX13_builds 35 = .ok (.aload_n 0, 1) := by decide +kernel
theorem dX13_builds_36 : decode cX13_builds 36 = .ok (.iconst 2, 1) := by decide +kernel
theorem dX13_builds_37 : decode cX13_builds 37 = .ok (.invokevirtual 64, 3) := by decide +kernel
theorem dX13_builds_40 : decode cX13_builds 40 = .ok (.ireturn, 1) := by decide +kernel
theorem dX13_builds_41 : decode cX13_builds 41 = .ok (.aload_n 0, 1) := by decide +kernel
theorem dX13_builds_42 : decode cX13_builds 42 = .ok (.iload_n 1, 1) := by decide +kernel
theorem dX13_builds_43 : decode cX13_builds 43 = .ok (.iload_n 2, 1) := by decide +kernel
theorem dX13_builds_44 : decode cX13_builds 44 = .ok (.invokevirtual 56, 3) := by decide +kernel
theorem dX13_builds_47 : decode cX13_builds 47 = .ok (.ifCond .le 9, 3) := by decide +kernel
theorem dX13_builds_50 : decode cX13_builds 50 = .ok (.aload_n 0, 1) := by decide +kernel
theorem dX13_builds_51 : decode cX13_builds 51 = .ok (.iconst 3, 1) := by decide +kernel
theorem dX13_builds_52 : decode cX13_builds 52 = .ok (.invokevirtual 64, 3) := by decide +kernel
theorem dX13_builds_55 : decode cX13_builds 55 = .ok (.ireturn, 1) := by decide +kernel
theorem dX13_builds_56 : decode cX13_builds 56 = .ok (.aload_n 0, 1) := by decide +kernel
theorem dX13_builds_57 : decode cX13_builds 57 = .ok (.getfield 7, 3) := by decide +kernel
theorem dX13_builds_60 : decode cX13_builds 60 = .ok (.iconst 0, 1) := by decide +kernel
theorem dX13_builds_61 : decode cX13_builds 61 = .ok (.bipush 6, 2) := by decide +kernel
theorem dX13_builds_63 : decode cX13_builds 63 = .ok (.iload_n 1, 1) := by decide +kernel
theorem dX13_builds_64 : decode cX13_builds 64 = .ok (.imul, 1) := by decide +kernel
theorem dX13_builds_65 : decode cX13_builds 65 = .ok (.iadd, 1) := by decide +kernel
theorem dX13_builds_66 : decode cX13_builds 66 = .ok (.iload_n 2, 1) := by decide +kernel
theorem dX13_builds_67 : decode cX13_builds 67 = .ok (.iadd, 1) := by decide +kernel
theorem dX13_builds_68 : decode cX13_builds 68 = .ok (.iload_n 3, 1) := by decide +kernel
theorem dX13_builds_69 : decode cX13_builds 69 = .ok (.iastore, 1) := by decide +kernel
theorem dX13_builds_70 : decode cX13_builds 70 = .ok (.aload_n 0, 1) := by decide +kernel
theorem dX13_builds_71 : decode cX13_builds 71 = .ok (.getfield 7, 3) := by decide +kernel
theorem dX13_builds_74 : decode cX13_builds 74 = .ok (.iconst 0, 1) := by decide +kernel
theorem dX13_builds_75 : decode cX13_builds 75 = .ok (.bipush 6, 2) := by decide +kernel
theorem dX13_builds_77 : decode cX13_builds 77 = .ok (.iload_n 2, 1) := by decide +kernel
theorem dX13_builds_78 : decode cX13_builds 78 = .ok (.imul, 1) := by decide +kernel
theorem dX13_builds_79 : decode cX13_builds 79 = .ok (.iadd, 1) := by decide +kernel
theorem dX13_builds_80 : decode cX13_builds 80 = .ok (.iload_n 1, 1) := by decide +kernel
theorem dX13_builds_81 : decode cX13_builds 81 = .ok (.iadd, 1) := by decide +kernel
theorem dX13_builds_82 : decode cX13_builds 82 = .ok (.iload_n 3, 1) := by decide +kernel
theorem dX13_builds_83 : decode cX13_builds 83 = .ok (.iastore, 1) := by decide +kernel
theorem dX13_builds_84 : decode cX13_builds 84 = .ok (.aload_n 0, 1) := by decide +kernel
theorem dX13_builds_85 : decode cX13_builds 85 = .ok (.aload_n 0, 1) := by decide +kernel
theorem dX13_builds_86 : decode cX13_builds 86 = .ok (.invokevirtual 68, 3) := by decide +kernel
theorem dX13_builds_89 : decode cX13_builds 89 = .ok (.invokevirtual 72, 3) := by decide +kernel
theorem dX13_builds_92 : decode cX13_builds 92 = .ok (.ireturn, 1) := by decide +kernel
theorem dX13_buildRoad_0 : decode cX13_buildRoad 0 = .ok (.aload_n 0, 1) := by decide +kernel
theorem dX13_buildRoad_1 : decode cX13_buildRoad 1 = .ok (.invokevirtual 75, 3) := by decide +kernel
theorem dX13_buildRoad_4 : decode cX13_buildRoad 4 = .ok (.aload_n 0, 1) := by decide +kernel
theorem dX13_buildRoad_5 : decode cX13_buildRoad 5 = .ok (.aload_n 0, 1) := by decide +kernel
theorem dX13_buildRoad_6 : decode cX13_buildRoad 6 = .ok (.iload_n 1, 1) := by decide +kernel
theorem dX13_buildRoad_7 : decode cX13_buildRoad 7 = .ok (.iload_n 2, 1) := by decide +kernel
theorem dX13_buildRoad_8 : decode cX13_buildRoad 8 = .ok (.iload_n 3, 1) := by decide +kernel
theorem dX13_buildRoad_9 : decode cX13_buildRoad 9 = .ok (.invokevirtual 78, 3) := by decide +kernel
theorem dX13_buildRoad_12 : decode cX13_buildRoad 12 = .ok (.invokevirtual 82, 3) := by decide +kernel
theorem dX13_buildRoad_15 : decode cX13_buildRoad 15 = .ok (.ireturn, 1) := by decide +kernel
theorem dX13_explores_0 : decode cX13_explores 0 = .ok (.iconst 0, 1) := by decide +kernel
theorem dX13_explores_1 : decode cX13_explores 1 = .ok (.istore_n 2, 1) := by decide +kernel
theorem dX13_explores_2 : decode cX13_explores 2 = .ok (.iload_n 2, 1) := by decide +kernel
theorem dX13_explores_3 : decode cX13_explores 3 = .ok (.bipush 6, 2) := by decide +kernel
theorem dX13_explores_5 : decode cX13_explores 5 = .ok (.if_icmp .ge 27, 3) := by decide +kernel
theorem dX13_explores_8 : decode cX13_explores 8 = .ok (.aload_n 0, 1) := by decide +kernel
theorem dX13_explores_9 : decode cX13_explores 9 = .ok (.getfield 36, 3) := by decide +kernel
theorem dX13_explores_12 : decode cX13_explores 12 = .ok (.iload_n 2, 1) := by decide +kernel
theorem dX13_explores_13 : decode cX13_explores 13 = .ok (.iload_n 2, 1) := by decide +kernel
theorem dX13_explores_14 : decode cX13_explores 14 = .ok (.iload_n 1, 1) := by decide +kernel
theorem dX13_explores_15 : decode cX13_explores 15 = .ok (.if_icmp .ne 7, 3) := by decide +kernel
theorem dX13_explores_18 : decode cX13_explores 18 = .ok (.iconst 0, 1) := by decide +kernel
theorem dX13_explores_19 : decode cX13_explores 19 = .ok (.goto 6, 3) := by decide +kernel
theorem dX13_explores_22 : decode cX13_explores 22 = .ok (.sipush 1000, 3) := by decide +kernel
theorem dX13_explores_25 : decode cX13_explores 25 = .ok (.iastore, 1) := by decide +kernel
theorem dX13_explores_26 : decode cX13_explores 26 = .ok (.iinc 2 1, 3) := by decide +kernel
theorem dX13_explores_29 : decode cX13_explores 29 = .ok (.goto (-27), 3) := by decide +kernel
theorem dX13_explores_32 : decode cX13_explores 32 = .ok (.iconst 0, 1) := by decide +kernel
theorem dX13_explores_33 : decode cX13_explores 33 = .ok (.istore_n 2, 1) := by decide +kernel
theorem dX13_explores_34 : decode cX13_explores 34 = .ok (.iload_n 2, 1) := by decide +kernel
theorem dX13_explores_35 : decode cX13_explores 35 = .ok (.bipush 6, 2) := by decide +kernel
theorem dX13_explores_37 : decode cX13_explores 37 = .ok (.if_icmp .ge 108, 3) := by decide +kernel
theorem dX13_explores_40 : decode cX13_explores 40 = .ok (.iconst 0, 1) := by decide +kernel
theorem dX13_explores_41 : decode cX13_explores 41 = .ok (.istore_n 3, 1) := by decide +kernel
theorem dX13_explores_42 : decode cX13_explores 42 = .ok (.iload_n 3, 1) := by decide +kernel
theorem dX13_explores_43 : decode cX13_explores 43 = .ok (.bipush 6, 2) := by decide +kernel
theorem dX13_explores_45 : decode cX13_explores 45 = .ok (.if_icmp .ge 94, 3) := by decide +kernel
theorem dX13_explores_48 : decode cX13_explores 48 = .ok (.iconst 0, 1) := by decide +kernel
theorem dX13_explores_49 : decode cX13_explores 49 = .ok (.istore 4, 2) := by decide +kernel
theorem dX13_explores_51 : decode cX13_explores 51 = .ok (.iload 4, 2) := by decide +kernel
theorem dX13_explores_53 : decode cX13_explores 53 = .ok (.bipush 6, 2) := by decide +kernel
theorem dX13_explores_55 : decode cX13_explores 55 = .ok (.if_icmp .ge 78, 3) := by decide +kernel
theorem dX13_explores_58 : decode cX13_explores 58 = .ok (.aload_n 0, 1) := by decide +kernel
theorem dX13_explores_59 : decode cX13_explores 59 = .ok (.getfield 36, 3) := by decide +kernel
theorem dX13_explores_62 : decode cX13_explores 62 = .ok (.iload_n 3, 1) := by decide +kernel
theorem dX13_explores_63 : decode cX13_explores 63 = .ok (.iaload, 1) := by decide +kernel
theorem dX13_explores_64 : decode cX13_explores 64 = .ok (.aload_n 0, 1) := by decide +kernel
theorem dX13_explores_65 : decode cX13_explores 65 = .ok (.iload_n 3, 1) := by decide +kernel
theorem dX13_explores_66 : decode cX13_explores 66 = .ok (.iload 4, 2) := by decide +kernel
theorem dX13_explores_68 : decode cX13_explores 68 = .ok (.invokevirtual 56, 3) := by decide +kernel
theorem dX13_explores_71 : decode cX13_explores 71 = .ok (.iadd, 1) := by decide +kernel
theorem dX13_explores_72 : decode cX13_explores 72 = .ok (.istore 5, 2) := by decide +kernel
theorem dX13_explores_74 : decode cX13_explores 74 = .ok (.aload_n 0, 1) := by decide +kernel
theorem dX13_explores_75 : decode cX13_explores 75 = .ok (.iload_n 3, 1) := by decide +kernel
theorem dX13_explores_76 : decode cX13_explores 76 = .ok (.iload 4, 2) := by decide +kernel
theorem dX13_explores_78 : decode cX13_explores 78 = .ok (.invokevirtual 56, 3) := by decide +kernel
theorem dX13_explores_81 : decode cX13_explores 81 = .ok (.ifCond .le 19, 3) := by decide +kernel
theorem dX13_explores_84 : decode cX13_explores 84 = .ok (.iload 5, 2) := by decide +kernel
theorem dX13_explores_86 : decode cX13_explores 86 = .ok (.aload_n 0, 1) := by decide +kernel
theorem dX13_explores_87 : decode cX13_explores 87 = .ok (.getfield 36, 3) := by decide +kernel
theorem dX13_explores_90 : decode cX13_explores 90 = .ok (.iload 4, 2) := by decide +kernel
theorem dX13_explores_92 : decode cX13_explores 92 = .ok (.iaload, 1) := by decide +kernel
theorem dX13_explores_93 : decode cX13_explores 93 = .ok (.if_icmp .ge 7, 3) := by decide +kernel
theorem dX13_explores_96 : decode cX13_explores 96 = .ok (.iconst 1, 1) := by decide +kernel
theorem dX13_explores_97 : decode cX13_explores 97 = .ok (.goto 4, 3) := by decide +kernel
theorem dX13_explores_100 : decode cX13_explores 100 = .ok (.iconst 0, 1) := by decide +kernel
theorem dX13_explores_101 : decode cX13_explores 101 = .ok (.istore 6, 2) := by decide +kernel
theorem dX13_explores_103 : decode cX13_explores 103 = .ok (.aload_n 0, 1) := by decide +kernel
theorem dX13_explores_104 : decode cX13_explores 104 = .ok (.getfield 36, 3) := by decide +kernel
theorem dX13_explores_107 : decode cX13_explores 107 = .ok (.iload 4, 2) := by decide +kernel
theorem dX13_explores_109 : decode cX13_explores 109 = .ok (.iload 6, 2) := by decide +kernel
theorem dX13_explores_111 : decode cX13_explores 111 = .ok (.ifCond .eq 8, 3) := by decide +kernel
theorem dX13_explores_114 : decode cX13_explores 114 = .ok (.iload 5, 2) := by decide +kernel
theorem dX13_explores_116 : decode cX13_explores 116 = .ok (.goto 10, 3) := by decide +kernel
theorem dX13_explores_119 : decode cX13_explores 119 = .ok (.aload_n 0, 1) := by decide +kernel
theorem dX13_explores_120 : decode cX13_explores 120 = .ok (.getfield 36, 3) := by decide +kernel
theorem dX13_explores_123 : decode cX13_explores 123 = .ok (.iload 4, 2) := by decide +kernel
theorem dX13_explores_125 : decode cX13_explores 125 = .ok (.iaload, 1) := by decide +kernel
theorem dX13_explores_126 : decode cX13_explores 126 = .ok (.iastore, 1) := by decide +kernel
theorem dX13_explores_127 : decode cX13_explores 127 = .ok (.iinc 4 1, 3) := by decide +kernel
theorem dX13_explores_130 : decode cX13_explores 130 = .ok (.goto (-79), 3) := by decide +kernel
theorem dX13_explores_133 : decode cX13_explores 133 = .ok (.iinc 3 1, 3) := by decide +kernel
theorem dX13_explores_136 : decode cX13_explores 136 = .ok (.goto (-94), 3) := by decide +kernel
theorem dX13_explores_139 : decode cX13_explores 139 = .ok (.iinc 2 1, 3) := by decide +kernel
theorem dX13_explores_142 : decode cX13_explores 142 = .ok (.goto (-108), 3) := by decide +kernel
theorem dX13_explores_145 : decode cX13_explores 145 = .ok (.return_, 1) := by decide +kernel
theorem dX13_distanceOf_0 : decode cX13_distanceOf 0 = .ok (.aload_n 0, 1) := by decide +kernel
theorem dX13_distanceOf_1 : decode cX13_distanceOf 1 = .ok (.iload_n 1, 1) := by decide +kernel
theorem dX13_distanceOf_2 : decode cX13_distanceOf 2 = .ok (.invokevirtual 85, 3) := by decide +kernel
theorem dX13_distanceOf_5 : decode cX13_distanceOf 5 = .ok (.aload_n 0, 1) := by decide +kernel
theorem dX13_distanceOf_6 : decode cX13_distanceOf 6 = .ok (.getfield 36, 3) := by decide +kernel
theorem dX13_distanceOf_9 : decode cX13_distanceOf 9 = .ok (.iload_n 2, 1) := by decide +kernel
theorem dX13_distanceOf_10 : decode cX13_distanceOf 10 = .ok (.iaload, 1) := by decide +kernel
theorem dX13_distanceOf_11 : decode cX13_distanceOf 11 = .ok (.ireturn, 1) := by decide +kernel
theorem dX13_accepts_0 : decode cX13_accepts 0 = .ok (.iload_n 3, 1) := by decide +kernel
theorem dX13_accepts_1 : decode cX13_accepts 1 = .ok (.invokestatic 60, 3) := by decide +kernel
theorem dX13_accepts_4 : decode cX13_accepts 4 = .ok (.ifCond .ne 9, 3) := by decide +kernel
theorem dX13_accepts_7 : decode cX13_accepts 7 = .ok (.aload_n 0, 1) := by decide +kernel
theorem dX13_accepts_8 : decode cX13_accepts 8 = .ok (.iconst 1, 1) := by decide +kernel
theorem dX13_accepts_9 : decode cX13_accepts 9 = .ok (.invokevirtual 64, 3) := by decide +kernel
theorem dX13_accepts_12 : decode cX13_accepts 12 = .ok (.ireturn, 1) := by decide +kernel
theorem dX13_accepts_13 : decode cX13_accepts 13 = .ok (.iload_n 1, 1) := by decide +kernel
theorem dX13_accepts_14 : decode cX13_accepts 14 = .ok (.iconst 1, 1) := by decide +kernel
theorem dX13_accepts_15 : decode cX13_accepts 15 = .ok (.bipush 20, 2) := by decide +kernel
theorem dX13_accepts_17 : decode cX13_accepts 17 = .ok (.invokestatic 52, 3) := by decide +kernel
theorem dX13_accepts_20 : decode cX13_accepts 20 = .ok (.ifCond .eq 12, 3) := by decide +kernel
theorem dX13_accepts_23 : decode cX13_accepts 23 = .ok (.iload_n 2, 1) := by decide +kernel
theorem dX13_accepts_24 : decode cX13_accepts 24 = .ok (.iconst 0, 1) := by decide +kernel
theorem dX13_accepts_25 : decode cX13_accepts 25 = .ok (.iconst 3, 1) := by decide +kernel
theorem dX13_accepts_26 : decode cX13_accepts 26 = .ok (.invokestatic 52, 3) := by decide +kernel
theorem dX13_accepts_29 : decode cX13_accepts 29 = .ok (.ifCond .ne 9, 3) := by decide +kernel
theorem dX13_accepts_32 : decode cX13_accepts 32 = .ok (.aload_n 0, 1) := by decide +kernel
theorem dX13_accepts_33 : decode cX13_accepts 33 = .ok (.iconst 2, 1) := by decide +kernel
theorem dX13_accepts_34 : decode cX13_accepts 34 = .ok (.invokevirtual 64, 3) := by decide +kernel
theorem dX13_accepts_37 : decode cX13_accepts 37 = .ok (.ireturn, 1) := by decide +kernel
theorem dX13_accepts_38 : decode cX13_accepts 38 = .ok (.aload_n 0, 1) := by decide +kernel
theorem dX13_accepts_39 : decode cX13_accepts 39 = .ok (.getfield 7, 3) := by decide +kernel
theorem dX13_accepts_42 : decode cX13_accepts 42 = .ok (.bipush 36, 2) := by decide +kernel
theorem dX13_accepts_44 : decode cX13_accepts 44 = .ok (.iaload, 1) := by decide +kernel
theorem dX13_accepts_45 : decode cX13_accepts 45 = .ok (.istore 4, 2) := by decide +kernel
theorem dX13_accepts_47 : decode cX13_accepts 47 = .ok (.iload 4, 2) := by decide +kernel
theorem dX13_accepts_49 : decode cX13_accepts 49 = .ok (.bipush 12, 2) := by decide +kernel
theorem dX13_accepts_51 : decode cX13_accepts 51 = .ok (.if_icmp .ne 9, 3) := by decide +kernel
theorem dX13_accepts_54 : decode cX13_accepts 54 = .ok (.aload_n 0, 1) := by decide +kernel
theorem dX13_accepts_55 : decode cX13_accepts 55 = .ok (.iconst 3, 1) := by decide +kernel
theorem dX13_accepts_56 : decode cX13_accepts 56 = .ok (.invokevirtual 64, 3) := by decide +kernel
theorem dX13_accepts_59 : decode cX13_accepts 59 = .ok (.ireturn, 1) := by decide +kernel
theorem dX13_accepts_60 : decode cX13_accepts 60 = .ok (.aload_n 0, 1) := by decide +kernel
theorem dX13_accepts_61 : decode cX13_accepts 61 = .ok (.getfield 7, 3) := by decide +kernel
theorem dX13_accepts_64 : decode cX13_accepts 64 = .ok (.bipush 40, 2) := by decide +kernel
theorem dX13_accepts_66 : decode cX13_accepts 66 = .ok (.iload 4, 2) := by decide +kernel
theorem dX13_accepts_68 : decode cX13_accepts 68 = .ok (.iadd, 1) := by decide +kernel
theorem dX13_accepts_69 : decode cX13_accepts 69 = .ok (.iload_n 1, 1) := by decide +kernel
theorem dX13_accepts_70 : decode cX13_accepts 70 = .ok (.iastore, 1) := by decide +kernel
theorem dX13_accepts_71 : decode cX13_accepts 71 = .ok (.aload_n 0, 1) := by decide +kernel
theorem dX13_accepts_72 : decode cX13_accepts 72 = .ok (.getfield 7, 3) := by decide +kernel
theorem dX13_accepts_75 : decode cX13_accepts 75 = .ok (.bipush 52, 2) := by decide +kernel
theorem dX13_accepts_77 : decode cX13_accepts 77 = .ok (.iload 4, 2) := by decide +kernel
theorem dX13_accepts_79 : decode cX13_accepts 79 = .ok (.iadd, 1) := by decide +kernel
theorem dX13_accepts_80 : decode cX13_accepts 80 = .ok (.iload_n 2, 1) := by decide +kernel
theorem dX13_accepts_81 : decode cX13_accepts 81 = .ok (.iastore, 1) := by decide +kernel
theorem dX13_accepts_82 : decode cX13_accepts 82 = .ok (.aload_n 0, 1) := by decide +kernel
theorem dX13_accepts_83 : decode cX13_accepts 83 = .ok (.getfield 7, 3) := by decide +kernel
theorem dX13_accepts_86 : decode cX13_accepts 86 = .ok (.bipush 64, 2) := by decide +kernel
theorem dX13_accepts_88 : decode cX13_accepts 88 = .ok (.iload 4, 2) := by decide +kernel
theorem dX13_accepts_90 : decode cX13_accepts 90 = .ok (.iadd, 1) := by decide +kernel
theorem dX13_accepts_91 : decode cX13_accepts 91 = .ok (.iload_n 3, 1) := by decide +kernel
theorem dX13_accepts_92 : decode cX13_accepts 92 = .ok (.iastore, 1) := by decide +kernel
theorem dX13_accepts_93 : decode cX13_accepts 93 = .ok (.aload_n 0, 1) := by decide +kernel
theorem dX13_accepts_94 : decode cX13_accepts 94 = .ok (.getfield 7, 3) := by decide +kernel
theorem dX13_accepts_97 : decode cX13_accepts 97 = .ok (.bipush 36, 2) := by decide +kernel
theorem dX13_accepts_99 : decode cX13_accepts 99 = .ok (.dup2, 1) := by decide +kernel
theorem dX13_accepts_100 : decode cX13_accepts 100 = .ok (.iaload, 1) := by decide +kernel
theorem dX13_accepts_101 : decode cX13_accepts 101 = .ok (.iconst 1, 1) := by decide +kernel
theorem dX13_accepts_102 : decode cX13_accepts 102 = .ok (.iadd, 1) := by decide +kernel
theorem dX13_accepts_103 : decode cX13_accepts 103 = .ok (.iastore, 1) := by decide +kernel
theorem dX13_accepts_104 : decode cX13_accepts 104 = .ok (.aload_n 0, 1) := by decide +kernel
theorem dX13_accepts_105 : decode cX13_accepts 105 = .ok (.iload 4, 2) := by decide +kernel
theorem dX13_accepts_107 : decode cX13_accepts 107 = .ok (.invokevirtual 72, 3) := by decide +kernel
theorem dX13_accepts_110 : decode cX13_accepts 110 = .ok (.ireturn, 1) := by decide +kernel
theorem dX13_acceptParcel_0 : decode cX13_acceptParcel 0 = .ok (.aload_n 0, 1) := by decide +kernel
theorem dX13_acceptParcel_1 : decode cX13_acceptParcel 1 = .ok (.invokevirtual 75, 3) := by decide +kernel
theorem dX13_acceptParcel_4 : decode cX13_acceptParcel 4 = .ok (.aload_n 0, 1) := by decide +kernel
theorem dX13_acceptParcel_5 : decode cX13_acceptParcel 5 = .ok (.aload_n 0, 1) := by decide +kernel
theorem dX13_acceptParcel_6 : decode cX13_acceptParcel 6 = .ok (.iload_n 1, 1) := by decide +kernel
theorem dX13_acceptParcel_7 : decode cX13_acceptParcel 7 = .ok (.iload_n 2, 1) := by decide +kernel
theorem dX13_acceptParcel_8 : decode cX13_acceptParcel 8 = .ok (.iload_n 3, 1) := by decide +kernel
theorem dX13_acceptParcel_9 : decode cX13_acceptParcel 9 = .ok (.invokevirtual 89, 3) := by decide +kernel
theorem dX13_acceptParcel_12 : decode cX13_acceptParcel 12 = .ok (.invokevirtual 82, 3) := by decide +kernel
theorem dX13_acceptParcel_15 : decode cX13_acceptParcel 15 = .ok (.ireturn, 1) := by decide +kernel
theorem dX13_buys_0 : decode cX13_buys 0 = .ok (.iload_n 1, 1) := by decide +kernel
theorem dX13_buys_1 : decode cX13_buys 1 = .ok (.iconst 1, 1) := by decide +kernel
theorem dX13_buys_2 : decode cX13_buys 2 = .ok (.iconst 3, 1) := by decide +kernel
theorem dX13_buys_3 : decode cX13_buys 3 = .ok (.invokestatic 52, 3) := by decide +kernel
theorem dX13_buys_6 : decode cX13_buys 6 = .ok (.ifCond .ne 9, 3) := by decide +kernel
theorem dX13_buys_9 : decode cX13_buys 9 = .ok (.aload_n 0, 1) := by decide +kernel
theorem dX13_buys_10 : decode cX13_buys 10 = .ok (.iconst 1, 1) := by decide +kernel
theorem dX13_buys_11 : decode cX13_buys 11 = .ok (.invokevirtual 64, 3) := by decide +kernel
theorem dX13_buys_14 : decode cX13_buys 14 = .ok (.ireturn, 1) := by decide +kernel
theorem dX13_buys_15 : decode cX13_buys 15 = .ok (.aload_n 0, 1) := by decide +kernel
theorem dX13_buys_16 : decode cX13_buys 16 = .ok (.getfield 7, 3) := by decide +kernel
theorem dX13_buys_19 : decode cX13_buys 19 = .ok (.bipush 37, 2) := by decide +kernel
theorem dX13_buys_21 : decode cX13_buys 21 = .ok (.iaload, 1) := by decide +kernel
theorem dX13_buys_22 : decode cX13_buys 22 = .ok (.istore_n 2, 1) := by decide +kernel
theorem dX13_buys_23 : decode cX13_buys 23 = .ok (.iload_n 2, 1) := by decide +kernel
theorem dX13_buys_24 : decode cX13_buys 24 = .ok (.bipush 8, 2) := by decide +kernel
theorem dX13_buys_26 : decode cX13_buys 26 = .ok (.if_icmp .ne 9, 3) := by decide +kernel
theorem dX13_buys_29 : decode cX13_buys 29 = .ok (.aload_n 0, 1) := by decide +kernel
theorem dX13_buys_30 : decode cX13_buys 30 = .ok (.iconst 2, 1) := by decide +kernel
theorem dX13_buys_31 : decode cX13_buys 31 = .ok (.invokevirtual 64, 3) := by decide +kernel
theorem dX13_buys_34 : decode cX13_buys 34 = .ok (.ireturn, 1) := by decide +kernel
theorem dX13_buys_35 : decode cX13_buys 35 = .ok (.aload_n 0, 1) := by decide +kernel
theorem dX13_buys_36 : decode cX13_buys 36 = .ok (.getfield 7, 3) := by decide +kernel
theorem dX13_buys_39 : decode cX13_buys 39 = .ok (.bipush 112, 2) := by decide +kernel
theorem dX13_buys_41 : decode cX13_buys 41 = .ok (.iload_n 2, 1) := by decide +kernel
theorem dX13_buys_42 : decode cX13_buys 42 = .ok (.iadd, 1) := by decide +kernel
theorem dX13_buys_43 : decode cX13_buys 43 = .ok (.iload_n 1, 1) := by decide +kernel
theorem dX13_buys_44 : decode cX13_buys 44 = .ok (.iastore, 1) := by decide +kernel
theorem dX13_buys_45 : decode cX13_buys 45 = .ok (.aload_n 0, 1) := by decide +kernel
theorem dX13_buys_46 : decode cX13_buys 46 = .ok (.getfield 7, 3) := by decide +kernel
theorem dX13_buys_49 : decode cX13_buys 49 = .ok (.bipush 120, 2) := by decide +kernel
theorem dX13_buys_51 : decode cX13_buys 51 = .ok (.iload_n 2, 1) := by decide +kernel
theorem dX13_buys_52 : decode cX13_buys 52 = .ok (.iadd, 1) := by decide +kernel
theorem dX13_buys_53 : decode cX13_buys 53 = .ok (.iconst 0, 1) := by decide +kernel
theorem dX13_buys_54 : decode cX13_buys 54 = .ok (.iastore, 1) := by decide +kernel
theorem dX13_buys_55 : decode cX13_buys 55 = .ok (.aload_n 0, 1) := by decide +kernel
theorem dX13_buys_56 : decode cX13_buys 56 = .ok (.getfield 7, 3) := by decide +kernel
theorem dX13_buys_59 : decode cX13_buys 59 = .ok (.bipush 37, 2) := by decide +kernel
theorem dX13_buys_61 : decode cX13_buys 61 = .ok (.dup2, 1) := by decide +kernel
theorem dX13_buys_62 : decode cX13_buys 62 = .ok (.iaload, 1) := by decide +kernel
theorem dX13_buys_63 : decode cX13_buys 63 = .ok (.iconst 1, 1) := by decide +kernel
theorem dX13_buys_64 : decode cX13_buys 64 = .ok (.iadd, 1) := by decide +kernel
theorem dX13_buys_65 : decode cX13_buys 65 = .ok (.iastore, 1) := by decide +kernel
theorem dX13_buys_66 : decode cX13_buys 66 = .ok (.aload_n 0, 1) := by decide +kernel
theorem dX13_buys_67 : decode cX13_buys 67 = .ok (.iload_n 2, 1) := by decide +kernel
theorem dX13_buys_68 : decode cX13_buys 68 = .ok (.invokevirtual 72, 3) := by decide +kernel
theorem dX13_buys_71 : decode cX13_buys 71 = .ok (.ireturn, 1) := by decide +kernel
theorem dX13_buyGlove_0 : decode cX13_buyGlove 0 = .ok (.aload_n 0, 1) := by decide +kernel
theorem dX13_buyGlove_1 : decode cX13_buyGlove 1 = .ok (.invokevirtual 75, 3) := by decide +kernel
theorem dX13_buyGlove_4 : decode cX13_buyGlove 4 = .ok (.aload_n 0, 1) := by decide +kernel
theorem dX13_buyGlove_5 : decode cX13_buyGlove 5 = .ok (.aload_n 0, 1) := by decide +kernel
theorem dX13_buyGlove_6 : decode cX13_buyGlove 6 = .ok (.iload_n 1, 1) := by decide +kernel
theorem dX13_buyGlove_7 : decode cX13_buyGlove 7 = .ok (.invokevirtual 92, 3) := by decide +kernel
theorem dX13_buyGlove_10 : decode cX13_buyGlove 10 = .ok (.invokevirtual 82, 3) := by decide +kernel
theorem dX13_buyGlove_13 : decode cX13_buyGlove 13 = .ok (.ireturn, 1) := by decide +kernel
theorem dX13_loadOf_0 : decode cX13_loadOf 0 = .ok (.iconst 0, 1) := by decide +kernel
theorem dX13_loadOf_1 : decode cX13_loadOf 1 = .ok (.istore_n 2, 1) := by decide +kernel
theorem dX13_loadOf_2 : decode cX13_loadOf 2 = .ok (.iconst 0, 1) := by decide +kernel
theorem dX13_loadOf_3 : decode cX13_loadOf 3 = .ok (.istore_n 3, 1) := by decide +kernel
theorem dX13_loadOf_4 : decode cX13_loadOf 4 = .ok (.iload_n 3, 1) := by decide +kernel
theorem dX13_loadOf_5 : decode cX13_loadOf 5 = .ok (.aload_n 0, 1) := by decide +kernel
theorem dX13_loadOf_6 : decode cX13_loadOf 6 = .ok (.getfield 7, 3) := by decide +kernel
theorem dX13_loadOf_9 : decode cX13_loadOf 9 = .ok (.bipush 36, 2) := by decide +kernel
theorem dX13_loadOf_11 : decode cX13_loadOf 11 = .ok (.iaload, 1) := by decide +kernel
theorem dX13_loadOf_12 : decode cX13_loadOf 12 = .ok (.if_icmp .ge 51, 3) := by decide +kernel
theorem dX13_loadOf_15 : decode cX13_loadOf 15 = .ok (.iload_n 2, 1) := by decide +kernel
theorem dX13_loadOf_16 : decode cX13_loadOf 16 = .ok (.aload_n 0, 1) := by decide +kernel
theorem dX13_loadOf_17 : decode cX13_loadOf 17 = .ok (.getfield 7, 3) := by decide +kernel
theorem dX13_loadOf_20 : decode cX13_loadOf 20 = .ok (.bipush 76, 2) := by decide +kernel
theorem dX13_loadOf_22 : decode cX13_loadOf 22 = .ok (.iload_n 3, 1) := by decide +kernel
theorem dX13_loadOf_23 : decode cX13_loadOf 23 = .ok (.iadd, 1) := by decide +kernel
theorem dX13_loadOf_24 : decode cX13_loadOf 24 = .ok (.iaload, 1) := by decide +kernel
theorem dX13_loadOf_25 : decode cX13_loadOf 25 = .ok (.iconst 1, 1) := by decide +kernel
theorem dX13_loadOf_26 : decode cX13_loadOf 26 = .ok (.if_icmp .ne 28, 3) := by decide +kernel
theorem dX13_loadOf_29 : decode cX13_loadOf 29 = .ok (.aload_n 0, 1) := by decide +kernel
theorem dX13_loadOf_30 : decode cX13_loadOf 30 = .ok (.getfield 7, 3) := by decide +kernel
theorem dX13_loadOf_33 : decode cX13_loadOf 33 = .ok (.bipush 88, 2) := by decide +kernel
theorem dX13_loadOf_35 : decode cX13_loadOf 35 = .ok (.iload_n 3, 1) := by decide +kernel
theorem dX13_loadOf_36 : decode cX13_loadOf 36 = .ok (.iadd, 1) := by decide +kernel
theorem dX13_loadOf_37 : decode cX13_loadOf 37 = .ok (.iaload, 1) := by decide +kernel
theorem dX13_loadOf_38 : decode cX13_loadOf 38 = .ok (.iload_n 1, 1) := by decide +kernel
theorem dX13_loadOf_39 : decode cX13_loadOf 39 = .ok (.if_icmp .ne 15, 3) := by decide +kernel
theorem dX13_loadOf_42 : decode cX13_loadOf 42 = .ok (.aload_n 0, 1) := by decide +kernel
theorem dX13_loadOf_43 : decode cX13_loadOf 43 = .ok (.getfield 7, 3) := by decide +kernel
theorem dX13_loadOf_46 : decode cX13_loadOf 46 = .ok (.bipush 40, 2) := by decide +kernel
theorem dX13_loadOf_48 : decode cX13_loadOf 48 = .ok (.iload_n 3, 1) := by decide +kernel
theorem dX13_loadOf_49 : decode cX13_loadOf 49 = .ok (.iadd, 1) := by decide +kernel
theorem dX13_loadOf_50 : decode cX13_loadOf 50 = .ok (.iaload, 1) := by decide +kernel
theorem dX13_loadOf_51 : decode cX13_loadOf 51 = .ok (.goto 4, 3) := by decide +kernel
theorem dX13_loadOf_54 : decode cX13_loadOf 54 = .ok (.iconst 0, 1) := by decide +kernel
theorem dX13_loadOf_55 : decode cX13_loadOf 55 = .ok (.iadd, 1) := by decide +kernel
theorem dX13_loadOf_56 : decode cX13_loadOf 56 = .ok (.istore_n 2, 1) := by decide +kernel
theorem dX13_loadOf_57 : decode cX13_loadOf 57 = .ok (.iinc 3 1, 3) := by decide +kernel
theorem dX13_loadOf_60 : decode cX13_loadOf 60 = .ok (.goto (-56), 3) := by decide +kernel
theorem dX13_loadOf_63 : decode cX13_loadOf 63 = .ok (.iload_n 2, 1) := by decide +kernel
theorem dX13_loadOf_64 : decode cX13_loadOf 64 = .ok (.ireturn, 1) := by decide +kernel
theorem dX13_limits_0 : decode cX13_limits 0 = .ok (.iload_n 1, 1) := by decide +kernel
theorem dX13_limits_1 : decode cX13_limits 1 = .ok (.invokestatic 95, 3) := by decide +kernel
theorem dX13_limits_4 : decode cX13_limits 4 = .ok (.ifCond .ne 9, 3) := by decide +kernel
theorem dX13_limits_7 : decode cX13_limits 7 = .ok (.aload_n 0, 1) := by decide +kernel
theorem dX13_limits_8 : decode cX13_limits 8 = .ok (.iconst 1, 1) := by decide +kernel
theorem dX13_limits_9 : decode cX13_limits 9 = .ok (.invokevirtual 64, 3) := by decide +kernel
theorem dX13_limits_12 : decode cX13_limits 12 = .ok (.ireturn, 1) := by decide +kernel
theorem dX13_limits_13 : decode cX13_limits 13 = .ok (.iload_n 2, 1) := by decide +kernel
theorem dX13_limits_14 : decode cX13_limits 14 = .ok (.iconst 1, 1) := by decide +kernel
theorem dX13_limits_15 : decode cX13_limits 15 = .ok (.bipush 60, 2) := by decide +kernel
theorem dX13_limits_17 : decode cX13_limits 17 = .ok (.invokestatic 52, 3) := by decide +kernel
theorem dX13_limits_20 : decode cX13_limits 20 = .ok (.ifCond .ne 9, 3) := by decide +kernel
theorem dX13_limits_23 : decode cX13_limits 23 = .ok (.aload_n 0, 1) := by decide +kernel
theorem dX13_limits_24 : decode cX13_limits 24 = .ok (.iconst 2, 1) := by decide +kernel
theorem dX13_limits_25 : decode cX13_limits 25 = .ok (.invokevirtual 64, 3) := by decide +kernel
theorem dX13_limits_28 : decode cX13_limits 28 = .ok (.ireturn, 1) := by decide +kernel
theorem dX13_limits_29 : decode cX13_limits 29 = .ok (.aload_n 0, 1) := by decide +kernel
theorem dX13_limits_30 : decode cX13_limits 30 = .ok (.iload_n 1, 1) := by decide +kernel
theorem dX13_limits_31 : decode cX13_limits 31 = .ok (.invokevirtual 98, 3) := by decide +kernel
theorem dX13_limits_34 : decode cX13_limits 34 = .ok (.iload_n 2, 1) := by decide +kernel
theorem dX13_limits_35 : decode cX13_limits 35 = .ok (.if_icmp .le 9, 3) := by decide +kernel
theorem dX13_limits_38 : decode cX13_limits 38 = .ok (.aload_n 0, 1) := by decide +kernel
theorem dX13_limits_39 : decode cX13_limits 39 = .ok (.iconst 3, 1) := by decide +kernel
theorem dX13_limits_40 : decode cX13_limits 40 = .ok (.invokevirtual 64, 3) := by decide +kernel
theorem dX13_limits_43 : decode cX13_limits 43 = .ok (.ireturn, 1) := by decide +kernel
theorem dX13_limits_44 : decode cX13_limits 44 = .ok (.aload_n 0, 1) := by decide +kernel
theorem dX13_limits_45 : decode cX13_limits 45 = .ok (.getfield 7, 3) := by decide +kernel
theorem dX13_limits_48 : decode cX13_limits 48 = .ok (.sipush 131, 3) := by decide +kernel
theorem dX13_limits_51 : decode cX13_limits 51 = .ok (.iload_n 1, 1) := by decide +kernel
theorem dX13_limits_52 : decode cX13_limits 52 = .ok (.iadd, 1) := by decide +kernel
theorem dX13_limits_53 : decode cX13_limits 53 = .ok (.iaload, 1) := by decide +kernel
theorem dX13_limits_54 : decode cX13_limits 54 = .ok (.istore_n 3, 1) := by decide +kernel
theorem dX13_limits_55 : decode cX13_limits 55 = .ok (.aload_n 0, 1) := by decide +kernel
theorem dX13_limits_56 : decode cX13_limits 56 = .ok (.getfield 7, 3) := by decide +kernel
theorem dX13_limits_59 : decode cX13_limits 59 = .ok (.sipush 131, 3) := by decide +kernel
theorem dX13_limits_62 : decode cX13_limits 62 = .ok (.iload_n 1, 1) := by decide +kernel
theorem dX13_limits_63 : decode cX13_limits 63 = .ok (.iadd, 1) := by decide +kernel
theorem dX13_limits_64 : decode cX13_limits 64 = .ok (.iload_n 2, 1) := by decide +kernel
theorem dX13_limits_65 : decode cX13_limits 65 = .ok (.iastore, 1) := by decide +kernel
theorem dX13_limits_66 : decode cX13_limits 66 = .ok (.aload_n 0, 1) := by decide +kernel
theorem dX13_limits_67 : decode cX13_limits 67 = .ok (.iload_n 3, 1) := by decide +kernel
theorem dX13_limits_68 : decode cX13_limits 68 = .ok (.invokevirtual 72, 3) := by decide +kernel
theorem dX13_limits_71 : decode cX13_limits 71 = .ok (.ireturn, 1) := by decide +kernel
theorem dX13_setCapacity_0 : decode cX13_setCapacity 0 = .ok (.aload_n 0, 1) := by decide +kernel
theorem dX13_setCapacity_1 : decode cX13_setCapacity 1 = .ok (.invokevirtual 75, 3) := by decide +kernel
theorem dX13_setCapacity_4 : decode cX13_setCapacity 4 = .ok (.aload_n 0, 1) := by decide +kernel
theorem dX13_setCapacity_5 : decode cX13_setCapacity 5 = .ok (.aload_n 0, 1) := by decide +kernel
theorem dX13_setCapacity_6 : decode cX13_setCapacity 6 = .ok (.iload_n 1, 1) := by decide +kernel
theorem dX13_setCapacity_7 : decode cX13_setCapacity 7 = .ok (.iload_n 2, 1) := by decide +kernel
theorem dX13_setCapacity_8 : decode cX13_setCapacity 8 = .ok (.invokevirtual 101, 3) := by decide +kernel
theorem dX13_setCapacity_11 : decode cX13_setCapacity 11 = .ok (.invokevirtual 82, 3) := by decide +kernel
theorem dX13_setCapacity_14 : decode cX13_setCapacity 14 = .ok (.ireturn, 1) := by decide +kernel
theorem dX13_isBetter_0 : decode cX13_isBetter 0 = .ok (.aload_n 0, 1) := by decide +kernel
theorem dX13_isBetter_1 : decode cX13_isBetter 1 = .ok (.getfield 7, 3) := by decide +kernel
theorem dX13_isBetter_4 : decode cX13_isBetter 4 = .ok (.bipush 112, 2) := by decide +kernel
theorem dX13_isBetter_6 : decode cX13_isBetter 6 = .ok (.iload_n 2, 1) := by decide +kernel
theorem dX13_isBetter_7 : decode cX13_isBetter 7 = .ok (.iadd, 1) := by decide +kernel
theorem dX13_isBetter_8 : decode cX13_isBetter 8 = .ok (.iaload, 1) := by decide +kernel
theorem dX13_isBetter_9 : decode cX13_isBetter 9 = .ok (.aload_n 0, 1) := by decide +kernel
theorem dX13_isBetter_10 : decode cX13_isBetter 10 = .ok (.getfield 7, 3) := by decide +kernel
theorem dX13_isBetter_13 : decode cX13_isBetter 13 = .ok (.bipush 112, 2) := by decide +kernel
theorem dX13_isBetter_15 : decode cX13_isBetter 15 = .ok (.iload_n 1, 1) := by decide +kernel
theorem dX13_isBetter_16 : decode cX13_isBetter 16 = .ok (.iadd, 1) := by decide +kernel
theorem dX13_isBetter_17 : decode cX13_isBetter 17 = .ok (.iaload, 1) := by decide +kernel
theorem dX13_isBetter_18 : decode cX13_isBetter 18 = .ok (.isub, 1) := by decide +kernel
theorem dX13_isBetter_19 : decode cX13_isBetter 19 = .ok (.istore_n 3, 1) := by decide +kernel
theorem dX13_isBetter_20 : decode cX13_isBetter 20 = .ok (.iload_n 3, 1) := by decide +kernel
theorem dX13_isBetter_21 : decode cX13_isBetter 21 = .ok (.ifCond .gt 28, 3) := by decide +kernel
theorem dX13_isBetter_24 : decode cX13_isBetter 24 = .ok (.iload_n 3, 1) := by decide +kernel
theorem dX13_isBetter_25 : decode cX13_isBetter 25 = .ok (.ifCond .ne 28, 3) := by decide +kernel
theorem dX13_isBetter_28 : decode cX13_isBetter 28 = .ok (.aload_n 0, 1) := by decide +kernel
theorem dX13_isBetter_29 : decode cX13_isBetter 29 = .ok (.getfield 7, 3) := by decide +kernel
theorem dX13_isBetter_32 : decode cX13_isBetter 32 = .ok (.bipush 120, 2) := by decide +kernel
theorem dX13_isBetter_34 : decode cX13_isBetter 34 = .ok (.iload_n 1, 1) := by decide +kernel
theorem dX13_isBetter_35 : decode cX13_isBetter 35 = .ok (.iadd, 1) := by decide +kernel
theorem dX13_isBetter_36 : decode cX13_isBetter 36 = .ok (.iaload, 1) := by decide +kernel
theorem dX13_isBetter_37 : decode cX13_isBetter 37 = .ok (.aload_n 0, 1) := by decide +kernel
theorem dX13_isBetter_38 : decode cX13_isBetter 38 = .ok (.getfield 7, 3) := by decide +kernel
theorem dX13_isBetter_41 : decode cX13_isBetter 41 = .ok (.bipush 120, 2) := by decide +kernel
theorem dX13_isBetter_43 : decode cX13_isBetter 43 = .ok (.iload_n 2, 1) := by decide +kernel
theorem dX13_isBetter_44 : decode cX13_isBetter 44 = .ok (.iadd, 1) := by decide +kernel
theorem dX13_isBetter_45 : decode cX13_isBetter 45 = .ok (.iaload, 1) := by decide +kernel
theorem dX13_isBetter_46 : decode cX13_isBetter 46 = .ok (.if_icmp .le 7, 3) := by decide +kernel
theorem dX13_isBetter_49 : decode cX13_isBetter 49 = .ok (.iconst 1, 1) := by decide +kernel
theorem dX13_isBetter_50 : decode cX13_isBetter 50 = .ok (.goto 4, 3) := by decide +kernel
theorem dX13_isBetter_53 : decode cX13_isBetter 53 = .ok (.iconst 0, 1) := by decide +kernel
theorem dX13_isBetter_54 : decode cX13_isBetter 54 = .ok (.ireturn, 1) := by decide +kernel
theorem dX13_gloveOf_0 : decode cX13_gloveOf 0 = .ok (.iconst (-1), 1) := by decide +kernel
theorem dX13_gloveOf_1 : decode cX13_gloveOf 1 = .ok (.istore_n 2, 1) := by decide +kernel
theorem dX13_gloveOf_2 : decode cX13_gloveOf 2 = .ok (.iconst 0, 1) := by decide +kernel
theorem dX13_gloveOf_3 : decode cX13_gloveOf 3 = .ok (.istore_n 3, 1) := by decide +kernel
theorem dX13_gloveOf_4 : decode cX13_gloveOf 4 = .ok (.iload_n 3, 1) := by decide +kernel
theorem dX13_gloveOf_5 : decode cX13_gloveOf 5 = .ok (.aload_n 0, 1) := by decide +kernel
theorem dX13_gloveOf_6 : decode cX13_gloveOf 6 = .ok (.getfield 7, 3) := by decide +kernel
theorem dX13_gloveOf_9 : decode cX13_gloveOf 9 = .ok (.bipush 37, 2) := by decide +kernel
theorem dX13_gloveOf_11 : decode cX13_gloveOf 11 = .ok (.iaload, 1) := by decide +kernel
theorem dX13_gloveOf_12 : decode cX13_gloveOf 12 = .ok (.if_icmp .ge 42, 3) := by decide +kernel
theorem dX13_gloveOf_15 : decode cX13_gloveOf 15 = .ok (.aload_n 0, 1) := by decide +kernel
theorem dX13_gloveOf_16 : decode cX13_gloveOf 16 = .ok (.getfield 7, 3) := by decide +kernel
theorem dX13_gloveOf_19 : decode cX13_gloveOf 19 = .ok (.bipush 112, 2) := by decide +kernel
theorem dX13_gloveOf_21 : decode cX13_gloveOf 21 = .ok (.iload_n 3, 1) := by decide +kernel
theorem dX13_gloveOf_22 : decode cX13_gloveOf 22 = .ok (.iadd, 1) := by decide +kernel
theorem dX13_gloveOf_23 : decode cX13_gloveOf 23 = .ok (.iaload, 1) := by decide +kernel
theorem dX13_gloveOf_24 : decode cX13_gloveOf 24 = .ok (.iload_n 1, 1) := by decide +kernel
theorem dX13_gloveOf_25 : decode cX13_gloveOf 25 = .ok (.if_icmp .lt 23, 3) := by decide +kernel
theorem dX13_gloveOf_28 : decode cX13_gloveOf 28 = .ok (.iload_n 2, 1) := by decide +kernel
theorem dX13_gloveOf_29 : decode cX13_gloveOf 29 = .ok (.iconst (-1), 1) := by decide +kernel
theorem dX13_gloveOf_30 : decode cX13_gloveOf 30 = .ok (.if_icmp .eq 12, 3) := by decide +kernel
theorem dX13_gloveOf_33 : decode cX13_gloveOf 33 = .ok (.aload_n 0, 1) := by decide +kernel
theorem dX13_gloveOf_34 : decode cX13_gloveOf 34 = .ok (.iload_n 3, 1) := by decide +kernel
theorem dX13_gloveOf_35 : decode cX13_gloveOf 35 = .ok (.iload_n 2, 1) := by decide +kernel
theorem dX13_gloveOf_36 : decode cX13_gloveOf 36 = .ok (.invokevirtual 104, 3) := by decide +kernel
theorem dX13_gloveOf_39 : decode cX13_gloveOf 39 = .ok (.ifCond .eq 7, 3) := by decide +kernel
theorem dX13_gloveOf_42 : decode cX13_gloveOf 42 = .ok (.iload_n 3, 1) := by decide +kernel
theorem dX13_gloveOf_43 : decode cX13_gloveOf 43 = .ok (.goto 4, 3) := by decide +kernel
theorem dX13_gloveOf_46 : decode cX13_gloveOf 46 = .ok (.iload_n 2, 1) := by decide +kernel
theorem dX13_gloveOf_47 : decode cX13_gloveOf 47 = .ok (.istore_n 2, 1) := by decide +kernel
theorem dX13_gloveOf_48 : decode cX13_gloveOf 48 = .ok (.iinc 3 1, 3) := by decide +kernel
theorem dX13_gloveOf_51 : decode cX13_gloveOf 51 = .ok (.goto (-47), 3) := by decide +kernel
theorem dX13_gloveOf_54 : decode cX13_gloveOf 54 = .ok (.iload_n 2, 1) := by decide +kernel
theorem dX13_gloveOf_55 : decode cX13_gloveOf 55 = .ok (.ireturn, 1) := by decide +kernel
theorem dX13_isHandled_0 : decode cX13_isHandled 0 = .ok (.aload_n 0, 1) := by decide +kernel
theorem dX13_isHandled_1 : decode cX13_isHandled 1 = .ok (.getfield 7, 3) := by decide +kernel
theorem dX13_isHandled_4 : decode cX13_isHandled 4 = .ok (.bipush 52, 2) := by decide +kernel
theorem dX13_isHandled_6 : decode cX13_isHandled 6 = .ok (.iload_n 1, 1) := by decide +kernel
theorem dX13_isHandled_7 : decode cX13_isHandled 7 = .ok (.iadd, 1) := by decide +kernel
theorem dX13_isHandled_8 : decode cX13_isHandled 8 = .ok (.iaload, 1) := by decide +kernel
theorem dX13_isHandled_9 : decode cX13_isHandled 9 = .ok (.ifCond .eq 20, 3) := by decide +kernel
theorem dX13_isHandled_12 : decode cX13_isHandled 12 = .ok (.aload_n 0, 1) := by decide +kernel
theorem dX13_isHandled_13 : decode cX13_isHandled 13 = .ok (.aload_n 0, 1) := by decide +kernel
theorem dX13_isHandled_14 : decode cX13_isHandled 14 = .ok (.getfield 7, 3) := by decide +kernel
theorem dX13_isHandled_17 : decode cX13_isHandled 17 = .ok (.bipush 52, 2) := by decide +kernel
theorem dX13_isHandled_19 : decode cX13_isHandled 19 = .ok (.iload_n 1, 1) := by decide +kernel
theorem dX13_isHandled_20 : decode cX13_isHandled 20 = .ok (.iadd, 1) := by decide +kernel
theorem dX13_isHandled_21 : decode cX13_isHandled 21 = .ok (.iaload, 1) := by decide +kernel
theorem dX13_isHandled_22 : decode cX13_isHandled 22 = .ok (.invokevirtual 108, 3) := by decide +kernel
theorem dX13_isHandled_25 : decode cX13_isHandled 25 = .ok (.iconst (-1), 1) := by decide +kernel
theorem dX13_isHandled_26 : decode cX13_isHandled 26 = .ok (.if_icmp .eq 7, 3) := by decide +kernel
theorem dX13_isHandled_29 : decode cX13_isHandled 29 = .ok (.iconst 1, 1) := by decide +kernel
theorem dX13_isHandled_30 : decode cX13_isHandled 30 = .ok (.goto 4, 3) := by decide +kernel
theorem dX13_isHandled_33 : decode cX13_isHandled 33 = .ok (.iconst 0, 1) := by decide +kernel
theorem dX13_isHandled_34 : decode cX13_isHandled 34 = .ok (.ireturn, 1) := by decide +kernel
theorem dX13_handles_0 : decode cX13_handles 0 = .ok (.aload_n 0, 1) := by decide +kernel
theorem dX13_handles_1 : decode cX13_handles 1 = .ok (.getfield 7, 3) := by decide +kernel
theorem dX13_handles_4 : decode cX13_handles 4 = .ok (.bipush 52, 2) := by decide +kernel
theorem dX13_handles_6 : decode cX13_handles 6 = .ok (.iload_n 1, 1) := by decide +kernel
theorem dX13_handles_7 : decode cX13_handles 7 = .ok (.iadd, 1) := by decide +kernel
theorem dX13_handles_8 : decode cX13_handles 8 = .ok (.iaload, 1) := by decide +kernel
theorem dX13_handles_9 : decode cX13_handles 9 = .ok (.ifCond .ne 4, 3) := by decide +kernel
theorem dX13_handles_12 : decode cX13_handles 12 = .ok (.return_, 1) := by decide +kernel
theorem dX13_handles_13 : decode cX13_handles 13 = .ok (.aload_n 0, 1) := by decide +kernel
theorem dX13_handles_14 : decode cX13_handles 14 = .ok (.aload_n 0, 1) := by decide +kernel
theorem dX13_handles_15 : decode cX13_handles 15 = .ok (.getfield 7, 3) := by decide +kernel
theorem dX13_handles_18 : decode cX13_handles 18 = .ok (.bipush 52, 2) := by decide +kernel
theorem dX13_handles_20 : decode cX13_handles 20 = .ok (.iload_n 1, 1) := by decide +kernel
theorem dX13_handles_21 : decode cX13_handles 21 = .ok (.iadd, 1) := by decide +kernel
theorem dX13_handles_22 : decode cX13_handles 22 = .ok (.iaload, 1) := by decide +kernel
theorem dX13_handles_23 : decode cX13_handles 23 = .ok (.invokevirtual 108, 3) := by decide +kernel
theorem dX13_handles_26 : decode cX13_handles 26 = .ok (.istore_n 2, 1) := by decide +kernel
theorem dX13_handles_27 : decode cX13_handles 27 = .ok (.aload_n 0, 1) := by decide +kernel
theorem dX13_handles_28 : decode cX13_handles 28 = .ok (.getfield 7, 3) := by decide +kernel
theorem dX13_handles_31 : decode cX13_handles 31 = .ok (.bipush 120, 2) := by decide +kernel
theorem dX13_handles_33 : decode cX13_handles 33 = .ok (.iload_n 2, 1) := by decide +kernel
theorem dX13_handles_34 : decode cX13_handles 34 = .ok (.iadd, 1) := by decide +kernel
theorem dX13_handles_35 : decode cX13_handles 35 = .ok (.dup2, 1) := by decide +kernel
theorem dX13_handles_36 : decode cX13_handles 36 = .ok (.iaload, 1) := by decide +kernel
theorem dX13_handles_37 : decode cX13_handles 37 = .ok (.iconst 1, 1) := by decide +kernel
theorem dX13_handles_38 : decode cX13_handles 38 = .ok (.iadd, 1) := by decide +kernel
theorem dX13_handles_39 : decode cX13_handles 39 = .ok (.iastore, 1) := by decide +kernel
theorem dX13_handles_40 : decode cX13_handles 40 = .ok (.aload_n 0, 1) := by decide +kernel
theorem dX13_handles_41 : decode cX13_handles 41 = .ok (.getfield 7, 3) := by decide +kernel
theorem dX13_handles_44 : decode cX13_handles 44 = .ok (.bipush 120, 2) := by decide +kernel
theorem dX13_handles_46 : decode cX13_handles 46 = .ok (.iload_n 2, 1) := by decide +kernel
theorem dX13_handles_47 : decode cX13_handles 47 = .ok (.iadd, 1) := by decide +kernel
theorem dX13_handles_48 : decode cX13_handles 48 = .ok (.iaload, 1) := by decide +kernel
theorem dX13_handles_49 : decode cX13_handles 49 = .ok (.iconst 3, 1) := by decide +kernel
theorem dX13_handles_50 : decode cX13_handles 50 = .ok (.if_icmp .ne 79, 3) := by decide +kernel
theorem dX13_handles_53 : decode cX13_handles 53 = .ok (.iload_n 2, 1) := by decide +kernel
theorem dX13_handles_54 : decode cX13_handles 54 = .ok (.istore_n 3, 1) := by decide +kernel
theorem dX13_handles_55 : decode cX13_handles 55 = .ok (.iload_n 3, 1) := by decide +kernel
theorem dX13_handles_56 : decode cX13_handles 56 = .ok (.bipush 7, 2) := by decide +kernel
theorem dX13_handles_58 : decode cX13_handles 58 = .ok (.if_icmp .ge 49, 3) := by decide +kernel
theorem dX13_handles_61 : decode cX13_handles 61 = .ok (.aload_n 0, 1) := by decide +kernel
theorem dX13_handles_62 : decode cX13_handles 62 = .ok (.getfield 7, 3) := by decide +kernel
theorem dX13_handles_65 : decode cX13_handles 65 = .ok (.bipush 112, 2) := by decide +kernel
theorem dX13_handles_67 : decode cX13_handles 67 = .ok (.iload_n 3, 1) := by decide +kernel
theorem dX13_handles_68 : decode cX13_handles 68 = .ok (.iadd, 1) := by decide +kernel
theorem dX13_handles_69 : decode cX13_handles 69 = .ok (.aload_n 0, 1) := by decide +kernel
theorem dX13_handles_70 : decode cX13_handles 70 = .ok (.getfield 7, 3) := by decide +kernel
theorem dX13_handles_73 : decode cX13_handles 73 = .ok (.bipush 112, 2) := by decide +kernel
theorem dX13_handles_75 : decode cX13_handles 75 = .ok (.iload_n 3, 1) := by decide +kernel
theorem dX13_handles_76 : decode cX13_handles 76 = .ok (.iadd, 1) := by decide +kernel
theorem dX13_handles_77 : decode cX13_handles 77 = .ok (.iconst 1, 1) := by decide +kernel
theorem dX13_handles_78 : decode cX13_handles 78 = .ok (.iadd, 1) := by decide +kernel
theorem dX13_handles_79 : decode cX13_handles 79 = .ok (.iaload, 1) := by decide +kernel
theorem dX13_handles_80 : decode cX13_handles 80 = .ok (.iastore, 1) := by decide +kernel
theorem dX13_handles_81 : decode cX13_handles 81 = .ok (.aload_n 0, 1) := by decide +kernel
theorem dX13_handles_82 : decode cX13_handles 82 = .ok (.getfield 7, 3) := by decide +kernel
theorem dX13_handles_85 : decode cX13_handles 85 = .ok (.bipush 120, 2) := by decide +kernel
theorem dX13_handles_87 : decode cX13_handles 87 = .ok (.iload_n 3, 1) := by decide +kernel
theorem dX13_handles_88 : decode cX13_handles 88 = .ok (.iadd, 1) := by decide +kernel
theorem dX13_handles_89 : decode cX13_handles 89 = .ok (.aload_n 0, 1) := by decide +kernel
theorem dX13_handles_90 : decode cX13_handles 90 = .ok (.getfield 7, 3) := by decide +kernel
theorem dX13_handles_93 : decode cX13_handles 93 = .ok (.bipush 120, 2) := by decide +kernel
theorem dX13_handles_95 : decode cX13_handles 95 = .ok (.iload_n 3, 1) := by decide +kernel
theorem dX13_handles_96 : decode cX13_handles 96 = .ok (.iadd, 1) := by decide +kernel
theorem dX13_handles_97 : decode cX13_handles 97 = .ok (.iconst 1, 1) := by decide +kernel
theorem dX13_handles_98 : decode cX13_handles 98 = .ok (.iadd, 1) := by decide +kernel
theorem dX13_handles_99 : decode cX13_handles 99 = .ok (.iaload, 1) := by decide +kernel
theorem dX13_handles_100 : decode cX13_handles 100 = .ok (.iastore, 1) := by decide +kernel
theorem dX13_handles_101 : decode cX13_handles 101 = .ok (.iinc 3 1, 3) := by decide +kernel
theorem dX13_handles_104 : decode cX13_handles 104 = .ok (.goto (-49), 3) := by decide +kernel
theorem dX13_handles_107 : decode cX13_handles 107 = .ok (.aload_n 0, 1) := by decide +kernel
theorem dX13_handles_108 : decode cX13_handles 108 = .ok (.getfield 7, 3) := by decide +kernel
theorem dX13_handles_111 : decode cX13_handles 111 = .ok (.bipush 37, 2) := by decide +kernel
theorem dX13_handles_113 : decode cX13_handles 113 = .ok (.dup2, 1) := by decide +kernel
theorem dX13_handles_114 : decode cX13_handles 114 = .ok (.iaload, 1) := by decide +kernel
theorem dX13_handles_115 : decode cX13_handles 115 = .ok (.iconst 1, 1) := by decide +kernel
theorem dX13_handles_116 : decode cX13_handles 116 = .ok (.isub, 1) := by decide +kernel
theorem dX13_handles_117 : decode cX13_handles 117 = .ok (.iastore, 1) := by decide +kernel
theorem dX13_handles_118 : decode cX13_handles 118 = .ok (.aload_n 0, 1) := by decide +kernel
theorem dX13_handles_119 : decode cX13_handles 119 = .ok (.getfield 7, 3) := by decide +kernel
theorem dX13_handles_122 : decode cX13_handles 122 = .ok (.bipush 39, 2) := by decide +kernel
theorem dX13_handles_124 : decode cX13_handles 124 = .ok (.dup2, 1) := by decide +kernel
theorem dX13_handles_125 : decode cX13_handles 125 = .ok (.iaload, 1) := by decide +kernel
theorem dX13_handles_126 : decode cX13_handles 126 = .ok (.iconst 1, 1) := by decide +kernel
theorem dX13_handles_127 : decode cX13_handles 127 = .ok (.iadd, 1) := by decide +kernel
theorem dX13_handles_128 : decode cX13_handles 128 = .ok (.iastore, 1) := by decide +kernel
theorem dX13_handles_129 : decode cX13_handles 129 = .ok (.return_, 1) := by decide +kernel
theorem dX13_puts_0 : decode cX13_puts 0 = .ok (.aload_n 0, 1) := by decide +kernel
theorem dX13_puts_1 : decode cX13_puts 1 = .ok (.iload_n 1, 1) := by decide +kernel
theorem dX13_puts_2 : decode cX13_puts 2 = .ok (.invokevirtual 111, 3) := by decide +kernel
theorem dX13_puts_5 : decode cX13_puts 5 = .ok (.ifCond .eq 10, 3) := by decide +kernel
theorem dX13_puts_8 : decode cX13_puts 8 = .ok (.iload_n 2, 1) := by decide +kernel
theorem dX13_puts_9 : decode cX13_puts 9 = .ok (.invokestatic 95, 3) := by decide +kernel
theorem dX13_puts_12 : decode cX13_puts 12 = .ok (.ifCond .ne 9, 3) := by decide +kernel
theorem dX13_puts_15 : decode cX13_puts 15 = .ok (.aload_n 0, 1) := by decide +kernel
theorem dX13_puts_16 : decode cX13_puts 16 = .ok (.iconst 1, 1) := by decide +kernel
theorem dX13_puts_17 : decode cX13_puts 17 = .ok (.invokevirtual 64, 3) := by decide +kernel
theorem dX13_puts_20 : decode cX13_puts 20 = .ok (.ireturn, 1) := by decide +kernel
theorem dX13_puts_21 : decode cX13_puts 21 = .ok (.aload_n 0, 1) := by decide +kernel
theorem dX13_puts_22 : decode cX13_puts 22 = .ok (.getfield 7, 3) := by decide +kernel
theorem dX13_puts_25 : decode cX13_puts 25 = .ok (.bipush 76, 2) := by decide +kernel
theorem dX13_puts_27 : decode cX13_puts 27 = .ok (.iload_n 1, 1) := by decide +kernel
theorem dX13_puts_28 : decode cX13_puts 28 = .ok (.iadd, 1) := by decide +kernel
theorem dX13_puts_29 : decode cX13_puts 29 = .ok (.iaload, 1) := by decide +kernel
theorem dX13_puts_30 : decode cX13_puts 30 = .ok (.ifCond .eq 9, 3) := by decide +kernel
theorem dX13_puts_33 : decode cX13_puts 33 = .ok (.aload_n 0, 1) := by decide +kernel
theorem dX13_puts_34 : decode cX13_puts 34 = .ok (.iconst 2, 1) := by decide +kernel
theorem dX13_puts_35 : decode cX13_puts 35 = .ok (.invokevirtual 64, 3) := by decide +kernel
theorem dX13_puts_38 : decode cX13_puts 38 = .ok (.ireturn, 1) := by decide +kernel
theorem dX13_puts_39 : decode cX13_puts 39 = .ok (.aload_n 0, 1) := by decide +kernel
theorem dX13_puts_40 : decode cX13_puts 40 = .ok (.iload_n 2, 1) := by decide +kernel
theorem dX13_puts_41 : decode cX13_puts 41 = .ok (.invokevirtual 98, 3) := by decide +kernel
theorem dX13_puts_44 : decode cX13_puts 44 = .ok (.aload_n 0, 1) := by decide +kernel
theorem dX13_puts_45 : decode cX13_puts 45 = .ok (.getfield 7, 3) := by decide +kernel
theorem dX13_puts_48 : decode cX13_puts 48 = .ok (.bipush 40, 2) := by decide +kernel
theorem dX13_puts_50 : decode cX13_puts 50 = .ok (.iload_n 1, 1) := by decide +kernel
theorem dX13_puts_51 : decode cX13_puts 51 = .ok (.iadd, 1) := by decide +kernel
theorem dX13_puts_52 : decode cX13_puts 52 = .ok (.iaload, 1) := by decide +kernel
theorem dX13_puts_53 : decode cX13_puts 53 = .ok (.iadd, 1) := by decide +kernel
theorem dX13_puts_54 : decode cX13_puts 54 = .ok (.istore_n 3, 1) := by decide +kernel
theorem dX13_puts_55 : decode cX13_puts 55 = .ok (.iload_n 3, 1) := by decide +kernel
theorem dX13_puts_56 : decode cX13_puts 56 = .ok (.aload_n 0, 1) := by decide +kernel
theorem dX13_puts_57 : decode cX13_puts 57 = .ok (.getfield 7, 3) := by decide +kernel
theorem dX13_puts_60 : decode cX13_puts 60 = .ok (.sipush 131, 3) := by decide +kernel
theorem dX13_puts_63 : decode cX13_puts 63 = .ok (.iload_n 2, 1) := by decide +kernel
theorem dX13_puts_64 : decode cX13_puts 64 = .ok (.iadd, 1) := by decide +kernel
theorem dX13_puts_65 : decode cX13_puts 65 = .ok (.iaload, 1) := by decide +kernel
theorem dX13_puts_66 : decode cX13_puts 66 = .ok (.if_icmp .le 9, 3) := by decide +kernel
theorem dX13_puts_69 : decode cX13_puts 69 = .ok (.aload_n 0, 1) := by decide +kernel
theorem dX13_puts_70 : decode cX13_puts 70 = .ok (.iconst 3, 1) := by decide +kernel
theorem dX13_puts_71 : decode cX13_puts 71 = .ok (.invokevirtual 64, 3) := by decide +kernel
theorem dX13_puts_74 : decode cX13_puts 74 = .ok (.ireturn, 1) := by decide +kernel
theorem dX13_puts_75 : decode cX13_puts 75 = .ok (.aload_n 0, 1) := by decide +kernel
theorem dX13_puts_76 : decode cX13_puts 76 = .ok (.iload_n 1, 1) := by decide +kernel
theorem dX13_puts_77 : decode cX13_puts 77 = .ok (.invokevirtual 114, 3) := by decide +kernel
theorem dX13_puts_80 : decode cX13_puts 80 = .ok (.ifCond .ne 9, 3) := by decide +kernel
theorem dX13_puts_83 : decode cX13_puts 83 = .ok (.aload_n 0, 1) := by decide +kernel
theorem dX13_puts_84 : decode cX13_puts 84 = .ok (.iconst 4, 1) := by decide +kernel
theorem dX13_puts_85 : decode cX13_puts 85 = .ok (.invokevirtual 64, 3) := by decide +kernel
theorem dX13_puts_88 : decode cX13_puts 88 = .ok (.ireturn, 1) := by decide +kernel
theorem dX13_puts_89 : decode cX13_puts 89 = .ok (.aload_n 0, 1) := by decide +kernel
theorem dX13_puts_90 : decode cX13_puts 90 = .ok (.iload_n 1, 1) := by decide +kernel
theorem dX13_puts_91 : decode cX13_puts 91 = .ok (.invokevirtual 117, 3) := by decide +kernel
theorem dX13_puts_94 : decode cX13_puts 94 = .ok (.aload_n 0, 1) := by decide +kernel
theorem dX13_puts_95 : decode cX13_puts 95 = .ok (.getfield 7, 3) := by decide +kernel
theorem dX13_puts_98 : decode cX13_puts 98 = .ok (.bipush 76, 2) := by decide +kernel
theorem dX13_puts_100 : decode cX13_puts 100 = .ok (.iload_n 1, 1) := by decide +kernel
theorem dX13_puts_101 : decode cX13_puts 101 = .ok (.iadd, 1) := by decide +kernel
theorem dX13_puts_102 : decode cX13_puts 102 = .ok (.iconst 1, 1) := by decide +kernel
theorem dX13_puts_103 : decode cX13_puts 103 = .ok (.iastore, 1) := by decide +kernel
theorem dX13_puts_104 : decode cX13_puts 104 = .ok (.aload_n 0, 1) := by decide +kernel
theorem dX13_puts_105 : decode cX13_puts 105 = .ok (.getfield 7, 3) := by decide +kernel
theorem dX13_puts_108 : decode cX13_puts 108 = .ok (.bipush 88, 2) := by decide +kernel
theorem dX13_puts_110 : decode cX13_puts 110 = .ok (.iload_n 1, 1) := by decide +kernel
theorem dX13_puts_111 : decode cX13_puts 111 = .ok (.iadd, 1) := by decide +kernel
theorem dX13_puts_112 : decode cX13_puts 112 = .ok (.iload_n 2, 1) := by decide +kernel
theorem dX13_puts_113 : decode cX13_puts 113 = .ok (.iastore, 1) := by decide +kernel
theorem dX13_puts_114 : decode cX13_puts 114 = .ok (.aload_n 0, 1) := by decide +kernel
theorem dX13_puts_115 : decode cX13_puts 115 = .ok (.iload_n 3, 1) := by decide +kernel
theorem dX13_puts_116 : decode cX13_puts 116 = .ok (.invokevirtual 72, 3) := by decide +kernel
theorem dX13_puts_119 : decode cX13_puts 119 = .ok (.ireturn, 1) := by decide +kernel
theorem dX13_put_0 : decode cX13_put 0 = .ok (.aload_n 0, 1) := by decide +kernel
theorem dX13_put_1 : decode cX13_put 1 = .ok (.invokevirtual 75, 3) := by decide +kernel
theorem dX13_put_4 : decode cX13_put 4 = .ok (.aload_n 0, 1) := by decide +kernel
theorem dX13_put_5 : decode cX13_put 5 = .ok (.aload_n 0, 1) := by decide +kernel
theorem dX13_put_6 : decode cX13_put 6 = .ok (.iload_n 1, 1) := by decide +kernel
theorem dX13_put_7 : decode cX13_put 7 = .ok (.iload_n 2, 1) := by decide +kernel
theorem dX13_put_8 : decode cX13_put 8 = .ok (.invokevirtual 120, 3) := by decide +kernel
theorem dX13_put_11 : decode cX13_put 11 = .ok (.invokevirtual 82, 3) := by decide +kernel
theorem dX13_put_14 : decode cX13_put 14 = .ok (.ireturn, 1) := by decide +kernel
theorem dX13_takes_0 : decode cX13_takes 0 = .ok (.aload_n 0, 1) := by decide +kernel
theorem dX13_takes_1 : decode cX13_takes 1 = .ok (.iload_n 1, 1) := by decide +kernel
theorem dX13_takes_2 : decode cX13_takes 2 = .ok (.invokevirtual 111, 3) := by decide +kernel
theorem dX13_takes_5 : decode cX13_takes 5 = .ok (.ifCond .ne 9, 3) := by decide +kernel
theorem dX13_takes_8 : decode cX13_takes 8 = .ok (.aload_n 0, 1) := by decide +kernel
theorem dX13_takes_9 : decode cX13_takes 9 = .ok (.iconst 1, 1) := by decide +kernel
theorem dX13_takes_10 : decode cX13_takes 10 = .ok (.invokevirtual 64, 3) := by decide +kernel
theorem dX13_takes_13 : decode cX13_takes 13 = .ok (.ireturn, 1) := by decide +kernel
theorem dX13_takes_14 : decode cX13_takes 14 = .ok (.aload_n 0, 1) := by decide +kernel
theorem dX13_takes_15 : decode cX13_takes 15 = .ok (.getfield 7, 3) := by decide +kernel
theorem dX13_takes_18 : decode cX13_takes 18 = .ok (.bipush 76, 2) := by decide +kernel
theorem dX13_takes_20 : decode cX13_takes 20 = .ok (.iload_n 1, 1) := by decide +kernel
theorem dX13_takes_21 : decode cX13_takes 21 = .ok (.iadd, 1) := by decide +kernel
theorem dX13_takes_22 : decode cX13_takes 22 = .ok (.iaload, 1) := by decide +kernel
theorem dX13_takes_23 : decode cX13_takes 23 = .ok (.iconst 1, 1) := by decide +kernel
theorem dX13_takes_24 : decode cX13_takes 24 = .ok (.if_icmp .eq 9, 3) := by decide +kernel
theorem dX13_takes_27 : decode cX13_takes 27 = .ok (.aload_n 0, 1) := by decide +kernel
theorem dX13_takes_28 : decode cX13_takes 28 = .ok (.iconst 2, 1) := by decide +kernel
theorem dX13_takes_29 : decode cX13_takes 29 = .ok (.invokevirtual 64, 3) := by decide +kernel
theorem dX13_takes_32 : decode cX13_takes 32 = .ok (.ireturn, 1) := by decide +kernel
theorem dX13_takes_33 : decode cX13_takes 33 = .ok (.aload_n 0, 1) := by decide +kernel
theorem dX13_takes_34 : decode cX13_takes 34 = .ok (.iload_n 1, 1) := by decide +kernel
theorem dX13_takes_35 : decode cX13_takes 35 = .ok (.invokevirtual 114, 3) := by decide +kernel
theorem dX13_takes_38 : decode cX13_takes 38 = .ok (.ifCond .ne 9, 3) := by decide +kernel
theorem dX13_takes_41 : decode cX13_takes 41 = .ok (.aload_n 0, 1) := by decide +kernel
theorem dX13_takes_42 : decode cX13_takes 42 = .ok (.iconst 3, 1) := by decide +kernel
theorem dX13_takes_43 : decode cX13_takes 43 = .ok (.invokevirtual 64, 3) := by decide +kernel
theorem dX13_takes_46 : decode cX13_takes 46 = .ok (.ireturn, 1) := by decide +kernel
theorem dX13_takes_47 : decode cX13_takes 47 = .ok (.aload_n 0, 1) := by decide +kernel
theorem dX13_takes_48 : decode cX13_takes 48 = .ok (.iload_n 1, 1) := by decide +kernel
theorem dX13_takes_49 : decode cX13_takes 49 = .ok (.invokevirtual 117, 3) := by decide +kernel
theorem dX13_takes_52 : decode cX13_takes 52 = .ok (.aload_n 0, 1) := by decide +kernel
theorem dX13_takes_53 : decode cX13_takes 53 = .ok (.getfield 7, 3) := by decide +kernel
theorem dX13_takes_56 : decode cX13_takes 56 = .ok (.bipush 76, 2) := by decide +kernel
theorem dX13_takes_58 : decode cX13_takes 58 = .ok (.iload_n 1, 1) := by decide +kernel
theorem dX13_takes_59 : decode cX13_takes 59 = .ok (.iadd, 1) := by decide +kernel
theorem dX13_takes_60 : decode cX13_takes 60 = .ok (.iconst 0, 1) := by decide +kernel
theorem dX13_takes_61 : decode cX13_takes 61 = .ok (.iastore, 1) := by decide +kernel
theorem dX13_takes_62 : decode cX13_takes 62 = .ok (.aload_n 0, 1) := by decide +kernel
theorem dX13_takes_63 : decode cX13_takes 63 = .ok (.aload_n 0, 1) := by decide +kernel
theorem dX13_takes_64 : decode cX13_takes 64 = .ok (.getfield 7, 3) := by decide +kernel
theorem dX13_takes_67 : decode cX13_takes 67 = .ok (.bipush 88, 2) := by decide +kernel
theorem dX13_takes_69 : decode cX13_takes 69 = .ok (.iload_n 1, 1) := by decide +kernel
theorem dX13_takes_70 : decode cX13_takes 70 = .ok (.iadd, 1) := by decide +kernel
theorem dX13_takes_71 : decode cX13_takes 71 = .ok (.iaload, 1) := by decide +kernel
theorem dX13_takes_72 : decode cX13_takes 72 = .ok (.invokevirtual 72, 3) := by decide +kernel
theorem dX13_takes_75 : decode cX13_takes 75 = .ok (.ireturn, 1) := by decide +kernel
theorem dX13_takeOut_0 : decode cX13_takeOut 0 = .ok (.aload_n 0, 1) := by decide +kernel
theorem dX13_takeOut_1 : decode cX13_takeOut 1 = .ok (.invokevirtual 75, 3) := by decide +kernel
theorem dX13_takeOut_4 : decode cX13_takeOut 4 = .ok (.aload_n 0, 1) := by decide +kernel
theorem dX13_takeOut_5 : decode cX13_takeOut 5 = .ok (.aload_n 0, 1) := by decide +kernel
theorem dX13_takeOut_6 : decode cX13_takeOut 6 = .ok (.iload_n 1, 1) := by decide +kernel
theorem dX13_takeOut_7 : decode cX13_takeOut 7 = .ok (.invokevirtual 123, 3) := by decide +kernel
theorem dX13_takeOut_10 : decode cX13_takeOut 10 = .ok (.invokevirtual 82, 3) := by decide +kernel
theorem dX13_takeOut_13 : decode cX13_takeOut 13 = .ok (.ireturn, 1) := by decide +kernel
theorem dX13_carries_0 : decode cX13_carries 0 = .ok (.iload_n 1, 1) := by decide +kernel
theorem dX13_carries_1 : decode cX13_carries 1 = .ok (.invokestatic 95, 3) := by decide +kernel
theorem dX13_carries_4 : decode cX13_carries 4 = .ok (.ifCond .eq 10, 3) := by decide +kernel
theorem dX13_carries_7 : decode cX13_carries 7 = .ok (.iload_n 2, 1) := by decide +kernel
theorem dX13_carries_8 : decode cX13_carries 8 = .ok (.invokestatic 60, 3) := by decide +kernel
theorem dX13_carries_11 : decode cX13_carries 11 = .ok (.ifCond .ne 9, 3) := by decide +kernel
theorem dX13_carries_14 : decode cX13_carries 14 = .ok (.aload_n 0, 1) := by decide +kernel
theorem dX13_carries_15 : decode cX13_carries 15 = .ok (.iconst 1, 1) := by decide +kernel
theorem dX13_carries_16 : decode cX13_carries 16 = .ok (.invokevirtual 64, 3) := by decide +kernel
theorem dX13_carries_19 : decode cX13_carries 19 = .ok (.ireturn, 1) := by decide +kernel
theorem dX13_carries_20 : decode cX13_carries 20 = .ok (.aload_n 0, 1) := by decide +kernel
theorem dX13_carries_21 : decode cX13_carries 21 = .ok (.getfield 7, 3) := by decide +kernel
theorem dX13_carries_24 : decode cX13_carries 24 = .ok (.sipush 128, 3) := by decide +kernel
theorem dX13_carries_27 : decode cX13_carries 27 = .ok (.iload_n 1, 1) := by decide +kernel
