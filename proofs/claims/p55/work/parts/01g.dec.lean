theorem dJ7_copyOfRange_39247_12 : decode cJ7_copyOfRange_39247 12 = .ok (.iload_n 2, 1) := by decide +kernel
theorem dJ7_copyOfRange_39247_13 : decode cJ7_copyOfRange_39247 13 = .ok (.invokestatic 339, 3) := by decide +kernel
theorem dJ7_copyOfRange_39247_16 : decode cJ7_copyOfRange_39247 16 = .ok (.areturn, 1) := by decide +kernel
theorem dJ7_copyOfRange_39247_17 : decode cJ7_copyOfRange_39247 17 = .ok (.aload_n 0, 1) := by decide +kernel
theorem dJ7_copyOfRange_39247_18 : decode cJ7_copyOfRange_39247 18 = .ok (.invokevirtual 310, 3) := by decide +kernel
theorem dJ7_copyOfRange_39247_21 : decode cJ7_copyOfRange_39247 21 = .ok (.checkcast 311, 3) := by decide +kernel
theorem dJ7_copyOfRange_39247_24 : decode cJ7_copyOfRange_39247 24 = .ok (.areturn, 1) := by decide +kernel
theorem dJ7_copyOfRangeByte_39247_0 : decode cJ7_copyOfRangeByte_39247 0 = .ok (.iload_n 1, 1) := by decide +kernel
theorem dJ7_copyOfRangeByte_39247_1 : decode cJ7_copyOfRangeByte_39247 1 = .ok (.iload_n 2, 1) := by decide +kernel
theorem dJ7_copyOfRangeByte_39247_2 : decode cJ7_copyOfRangeByte_39247 2 = .ok (.invokestatic 343, 3) := by decide +kernel
theorem dJ7_copyOfRangeByte_39247_5 : decode cJ7_copyOfRangeByte_39247 5 = .ok (.iload_n 2, 1) := by decide +kernel
theorem dJ7_copyOfRangeByte_39247_6 : decode cJ7_copyOfRangeByte_39247 6 = .ok (.iload_n 1, 1) := by decide +kernel
theorem dJ7_copyOfRangeByte_39247_7 : decode cJ7_copyOfRangeByte_39247 7 = .ok (.isub, 1) := by decide +kernel
theorem dJ7_copyOfRangeByte_39247_8 : decode cJ7_copyOfRangeByte_39247 8 = .ok (.istore_n 3, 1) := by decide +kernel
theorem dJ7_copyOfRangeByte_39247_9 : decode cJ7_copyOfRangeByte_39247 9 = .ok (.iload_n 3, 1) := by decide +kernel
theorem dJ7_copyOfRangeByte_39247_10 : decode cJ7_copyOfRangeByte_39247 10 = .ok (.newarray .byte, 2) := by decide +kernel
theorem dJ7_copyOfRangeByte_39247_12 : decode cJ7_copyOfRangeByte_39247 12 = .ok (.astore 4, 2) := by decide +kernel
theorem dJ7_copyOfRangeByte_39247_14 : decode cJ7_copyOfRangeByte_39247 14 = .ok (.aload_n 0, 1) := by decide +kernel
theorem dJ7_copyOfRangeByte_39247_15 : decode cJ7_copyOfRangeByte_39247 15 = .ok (.iload_n 1, 1) := by decide +kernel
theorem dJ7_copyOfRangeByte_39247_16 : decode cJ7_copyOfRangeByte_39247 16 = .ok (.aload 4, 2) := by decide +kernel
theorem dJ7_copyOfRangeByte_39247_18 : decode cJ7_copyOfRangeByte_39247 18 = .ok (.iconst 0, 1) := by decide +kernel
theorem dJ7_copyOfRangeByte_39247_19 : decode cJ7_copyOfRangeByte_39247 19 = .ok (.aload_n 0, 1) := by decide +kernel
theorem dJ7_copyOfRangeByte_39247_20 : decode cJ7_copyOfRangeByte_39247 20 = .ok (.arraylength, 1) := by decide +kernel
theorem dJ7_copyOfRangeByte_39247_21 : decode cJ7_copyOfRangeByte_39247 21 = .ok (.iload_n 1, 1) := by decide +kernel
theorem dJ7_copyOfRangeByte_39247_22 : decode cJ7_copyOfRangeByte_39247 22 = .ok (.isub, 1) := by decide +kernel
theorem dJ7_copyOfRangeByte_39247_23 : decode cJ7_copyOfRangeByte_39247 23 = .ok (.iload_n 3, 1) := by decide +kernel
theorem dJ7_copyOfRangeByte_39247_24 : decode cJ7_copyOfRangeByte_39247 24 = .ok (.invokestatic 304, 3) := by decide +kernel
theorem dJ7_copyOfRangeByte_39247_27 : decode cJ7_copyOfRangeByte_39247 27 = .ok (.invokestatic 150, 3) := by decide +kernel
theorem dJ7_copyOfRangeByte_39247_30 : decode cJ7_copyOfRangeByte_39247 30 = .ok (.aload 4, 2) := by decide +kernel
theorem dJ7_copyOfRangeByte_39247_32 : decode cJ7_copyOfRangeByte_39247 32 = .ok (.areturn, 1) := by decide +kernel
theorem dJ8_newLength_cabcc_0 : decode cJ8_newLength_cabcc 0 = .ok (.iload_n 0, 1) := by decide +kernel
theorem dJ8_newLength_cabcc_1 : decode cJ8_newLength_cabcc 1 = .ok (.iload_n 1, 1) := by decide +kernel
theorem dJ8_newLength_cabcc_2 : decode cJ8_newLength_cabcc 2 = .ok (.iload_n 2, 1) := by decide +kernel
theorem dJ8_newLength_cabcc_3 : decode cJ8_newLength_cabcc 3 = .ok (.invokestatic 194, 3) := by decide +kernel
theorem dJ8_newLength_cabcc_6 : decode cJ8_newLength_cabcc 6 = .ok (.iadd, 1) := by decide +kernel
theorem dJ8_newLength_cabcc_7 : decode cJ8_newLength_cabcc 7 = .ok (.istore_n 3, 1) := by decide +kernel
theorem dJ8_newLength_cabcc_8 : decode cJ8_newLength_cabcc 8 = .ok (.iconst 0, 1) := by decide +kernel
theorem dJ8_newLength_cabcc_9 : decode cJ8_newLength_cabcc 9 = .ok (.iload_n 3, 1) := by decide +kernel
theorem dJ8_newLength_cabcc_10 : decode cJ8_newLength_cabcc 10 = .ok (.if_icmp .ge 11, 3) := by decide +kernel
theorem dJ8_newLength_cabcc_13 : decode cJ8_newLength_cabcc 13 = .ok (.iload_n 3, 1) := by decide +kernel
theorem dJ8_newLength_cabcc_14 : decode cJ8_newLength_cabcc 14 = .ok (.ldc 200, 2) := by decide +kernel
theorem dJ8_newLength_cabcc_16 : decode cJ8_newLength_cabcc 16 = .ok (.if_icmp .gt 5, 3) := by decide +kernel
theorem dJ8_newLength_cabcc_19 : decode cJ8_newLength_cabcc 19 = .ok (.iload_n 3, 1) := by decide +kernel
theorem dJ8_newLength_cabcc_20 : decode cJ8_newLength_cabcc 20 = .ok (.ireturn, 1) := by decide +kernel
theorem dJ8_newLength_cabcc_21 : decode cJ8_newLength_cabcc 21 = .ok (.iload_n 0, 1) := by decide +kernel
theorem dJ8_newLength_cabcc_22 : decode cJ8_newLength_cabcc 22 = .ok (.iload_n 1, 1) := by decide +kernel
theorem dJ8_newLength_cabcc_23 : decode cJ8_newLength_cabcc 23 = .ok (.invokestatic 201, 3) := by decide +kernel
theorem dJ8_newLength_cabcc_26 : decode cJ8_newLength_cabcc 26 = .ok (.ireturn, 1) := by decide +kernel
theorem dJ8_hugeLength_7cf53_0 : decode cJ8_hugeLength_7cf53 0 = .ok (.iload_n 0, 1) := by decide +kernel
theorem dJ8_hugeLength_7cf53_1 : decode cJ8_hugeLength_7cf53 1 = .ok (.iload_n 1, 1) := by decide +kernel
theorem dJ8_hugeLength_7cf53_2 : decode cJ8_hugeLength_7cf53 2 = .ok (.iadd, 1) := by decide +kernel
theorem dJ8_hugeLength_7cf53_3 : decode cJ8_hugeLength_7cf53 3 = .ok (.istore_n 2, 1) := by decide +kernel
theorem dJ8_hugeLength_7cf53_4 : decode cJ8_hugeLength_7cf53 4 = .ok (.iload_n 2, 1) := by decide +kernel
theorem dJ8_hugeLength_7cf53_5 : decode cJ8_hugeLength_7cf53 5 = .ok (.ifCond .ge 44, 3) := by decide +kernel
theorem dJ8_hugeLength_7cf53_8 : decode cJ8_hugeLength_7cf53 8 = .ok (.new 204, 3) := by decide +kernel
theorem dJ8_hugeLength_7cf53_11 : decode cJ8_hugeLength_7cf53 11 = .ok (.dup, 1) := by decide +kernel
theorem dJ8_hugeLength_7cf53_12 : decode cJ8_hugeLength_7cf53 12 = .ok (.new 89, 3) := by decide +kernel
theorem dJ8_hugeLength_7cf53_15 : decode cJ8_hugeLength_7cf53 15 = .ok (.dup, 1) := by decide +kernel
theorem dJ8_hugeLength_7cf53_16 : decode cJ8_hugeLength_7cf53 16 = .ok (.invokespecial 91, 3) := by decide +kernel
theorem dJ8_hugeLength_7cf53_19 : decode cJ8_hugeLength_7cf53 19 = .ok (.ldc 206, 2) := by decide +kernel
theorem dJ8_hugeLength_7cf53_21 : decode cJ8_hugeLength_7cf53 21 = .ok (.invokevirtual 94, 3) := by decide +kernel
theorem dJ8_hugeLength_7cf53_24 : decode cJ8_hugeLength_7cf53 24 = .ok (.iload_n 0, 1) := by decide +kernel
theorem dJ8_hugeLength_7cf53_25 : decode cJ8_hugeLength_7cf53 25 = .ok (.invokevirtual 98, 3) := by decide +kernel
theorem dJ8_hugeLength_7cf53_28 : decode cJ8_hugeLength_7cf53 28 = .ok (.ldc 208, 2) := by decide +kernel
theorem dJ8_hugeLength_7cf53_30 : decode cJ8_hugeLength_7cf53 30 = .ok (.invokevirtual 94, 3) := by decide +kernel
theorem dJ8_hugeLength_7cf53_33 : decode cJ8_hugeLength_7cf53 33 = .ok (.iload_n 1, 1) := by decide +kernel
theorem dJ8_hugeLength_7cf53_34 : decode cJ8_hugeLength_7cf53 34 = .ok (.invokevirtual 98, 3) := by decide +kernel
theorem dJ8_hugeLength_7cf53_37 : decode cJ8_hugeLength_7cf53 37 = .ok (.ldc 210, 2) := by decide +kernel
theorem dJ8_hugeLength_7cf53_39 : decode cJ8_hugeLength_7cf53 39 = .ok (.invokevirtual 94, 3) := by decide +kernel
theorem dJ8_hugeLength_7cf53_42 : decode cJ8_hugeLength_7cf53 42 = .ok (.invokevirtual 101, 3) := by decide +kernel
theorem dJ8_hugeLength_7cf53_45 : decode cJ8_hugeLength_7cf53 45 = .ok (.invokespecial 212, 3) := by decide +kernel
theorem dJ8_hugeLength_7cf53_48 : decode cJ8_hugeLength_7cf53 48 = .ok (.athrow, 1) := by decide +kernel
theorem dJ8_hugeLength_7cf53_49 : decode cJ8_hugeLength_7cf53 49 = .ok (.iload_n 2, 1) := by decide +kernel
theorem dJ8_hugeLength_7cf53_50 : decode cJ8_hugeLength_7cf53 50 = .ok (.ldc 200, 2) := by decide +kernel
theorem dJ8_hugeLength_7cf53_52 : decode cJ8_hugeLength_7cf53 52 = .ok (.if_icmp .gt 6, 3) := by decide +kernel
theorem dJ8_hugeLength_7cf53_55 : decode cJ8_hugeLength_7cf53 55 = .ok (.ldc 200, 2) := by decide +kernel
theorem dJ8_hugeLength_7cf53_57 : decode cJ8_hugeLength_7cf53 57 = .ok (.ireturn, 1) := by decide +kernel
theorem dJ8_hugeLength_7cf53_58 : decode cJ8_hugeLength_7cf53 58 = .ok (.iload_n 2, 1) := by decide +kernel
theorem dJ8_hugeLength_7cf53_59 : decode cJ8_hugeLength_7cf53 59 = .ok (.ireturn, 1) := by decide +kernel
theorem dJ3_checkIndex_8e157_0 : decode cJ3_checkIndex_8e157 0 = .ok (.iload_n 0, 1) := by decide +kernel
theorem dJ3_checkIndex_8e157_1 : decode cJ3_checkIndex_8e157 1 = .ok (.ifCond .lt 8, 3) := by decide +kernel
theorem dJ3_checkIndex_8e157_4 : decode cJ3_checkIndex_8e157 4 = .ok (.iload_n 0, 1) := by decide +kernel
theorem dJ3_checkIndex_8e157_5 : decode cJ3_checkIndex_8e157 5 = .ok (.iload_n 1, 1) := by decide +kernel
theorem dJ3_checkIndex_8e157_6 : decode cJ3_checkIndex_8e157 6 = .ok (.if_icmp .lt 10, 3) := by decide +kernel
theorem dJ3_checkIndex_8e157_9 : decode cJ3_checkIndex_8e157 9 = .ok (.aload_n 2, 1) := by decide +kernel
theorem dJ3_checkIndex_8e157_10 : decode cJ3_checkIndex_8e157 10 = .ok (.iload_n 0, 1) := by decide +kernel
theorem dJ3_checkIndex_8e157_11 : decode cJ3_checkIndex_8e157 11 = .ok (.iload_n 1, 1) := by decide +kernel
theorem dJ3_checkIndex_8e157_12 : decode cJ3_checkIndex_8e157 12 = .ok (.invokestatic 95, 3) := by decide +kernel
theorem dJ3_checkIndex_8e157_15 : decode cJ3_checkIndex_8e157 15 = .ok (.athrow, 1) := by decide +kernel
theorem dJ3_checkIndex_8e157_16 : decode cJ3_checkIndex_8e157 16 = .ok (.iload_n 0, 1) := by decide +kernel
theorem dJ3_checkIndex_8e157_17 : decode cJ3_checkIndex_8e157 17 = .ok (.ireturn, 1) := by decide +kernel
theorem dJ3_checkFromToIndex_8c36e_0 : decode cJ3_checkFromToIndex_8c36e 0 = .ok (.iload_n 0, 1) := by decide +kernel
theorem dJ3_checkFromToIndex_8c36e_1 : decode cJ3_checkFromToIndex_8c36e 1 = .ok (.ifCond .lt 13, 3) := by decide +kernel
theorem dJ3_checkFromToIndex_8c36e_4 : decode cJ3_checkFromToIndex_8c36e 4 = .ok (.iload_n 0, 1) := by decide +kernel
theorem dJ3_checkFromToIndex_8c36e_5 : decode cJ3_checkFromToIndex_8c36e 5 = .ok (.iload_n 1, 1) := by decide +kernel
theorem dJ3_checkFromToIndex_8c36e_6 : decode cJ3_checkFromToIndex_8c36e 6 = .ok (.if_icmp .gt 8, 3) := by decide +kernel
theorem dJ3_checkFromToIndex_8c36e_9 : decode cJ3_checkFromToIndex_8c36e 9 = .ok (.iload_n 1, 1) := by decide +kernel
theorem dJ3_checkFromToIndex_8c36e_10 : decode cJ3_checkFromToIndex_8c36e 10 = .ok (.iload_n 2, 1) := by decide +kernel
theorem dJ3_checkFromToIndex_8c36e_11 : decode cJ3_checkFromToIndex_8c36e 11 = .ok (.if_icmp .le 11, 3) := by decide +kernel
theorem dJ3_checkFromToIndex_8c36e_14 : decode cJ3_checkFromToIndex_8c36e 14 = .ok (.aload_n 3, 1) := by decide +kernel
theorem dJ3_checkFromToIndex_8c36e_15 : decode cJ3_checkFromToIndex_8c36e 15 = .ok (.iload_n 0, 1) := by decide +kernel
theorem dJ3_checkFromToIndex_8c36e_16 : decode cJ3_checkFromToIndex_8c36e 16 = .ok (.iload_n 1, 1) := by decide +kernel
theorem dJ3_checkFromToIndex_8c36e_17 : decode cJ3_checkFromToIndex_8c36e 17 = .ok (.iload_n 2, 1) := by decide +kernel
theorem dJ3_checkFromToIndex_8c36e_18 : decode cJ3_checkFromToIndex_8c36e 18 = .ok (.invokestatic 99, 3) := by decide +kernel
theorem dJ3_checkFromToIndex_8c36e_21 : decode cJ3_checkFromToIndex_8c36e 21 = .ok (.athrow, 1) := by decide +kernel
theorem dJ3_checkFromToIndex_8c36e_22 : decode cJ3_checkFromToIndex_8c36e 22 = .ok (.iload_n 0, 1) := by decide +kernel
theorem dJ3_checkFromToIndex_8c36e_23 : decode cJ3_checkFromToIndex_8c36e 23 = .ok (.ireturn, 1) := by decide +kernel
theorem dJ3_checkFromIndexSize_8c36e_0 : decode cJ3_checkFromIndexSize_8c36e 0 = .ok (.iload_n 2, 1) := by decide +kernel
theorem dJ3_checkFromIndexSize_8c36e_1 : decode cJ3_checkFromIndexSize_8c36e 1 = .ok (.iload_n 0, 1) := by decide +kernel
theorem dJ3_checkFromIndexSize_8c36e_2 : decode cJ3_checkFromIndexSize_8c36e 2 = .ok (.ior, 1) := by decide +kernel
theorem dJ3_checkFromIndexSize_8c36e_3 : decode cJ3_checkFromIndexSize_8c36e 3 = .ok (.iload_n 1, 1) := by decide +kernel
theorem dJ3_checkFromIndexSize_8c36e_4 : decode cJ3_checkFromIndexSize_8c36e 4 = .ok (.ior, 1) := by decide +kernel
theorem dJ3_checkFromIndexSize_8c36e_5 : decode cJ3_checkFromIndexSize_8c36e 5 = .ok (.ifCond .lt 10, 3) := by decide +kernel
theorem dJ3_checkFromIndexSize_8c36e_8 : decode cJ3_checkFromIndexSize_8c36e 8 = .ok (.iload_n 1, 1) := by decide +kernel
theorem dJ3_checkFromIndexSize_8c36e_9 : decode cJ3_checkFromIndexSize_8c36e 9 = .ok (.iload_n 2, 1) := by decide +kernel
theorem dJ3_checkFromIndexSize_8c36e_10 : decode cJ3_checkFromIndexSize_8c36e 10 = .ok (.iload_n 0, 1) := by decide +kernel
theorem dJ3_checkFromIndexSize_8c36e_11 : decode cJ3_checkFromIndexSize_8c36e 11 = .ok (.isub, 1) := by decide +kernel
theorem dJ3_checkFromIndexSize_8c36e_12 : decode cJ3_checkFromIndexSize_8c36e 12 = .ok (.if_icmp .le 11, 3) := by decide +kernel
theorem dJ3_checkFromIndexSize_8c36e_15 : decode cJ3_checkFromIndexSize_8c36e 15 = .ok (.aload_n 3, 1) := by decide +kernel
theorem dJ3_checkFromIndexSize_8c36e_16 : decode cJ3_checkFromIndexSize_8c36e 16 = .ok (.iload_n 0, 1) := by decide +kernel
theorem dJ3_checkFromIndexSize_8c36e_17 : decode cJ3_checkFromIndexSize_8c36e 17 = .ok (.iload_n 1, 1) := by decide +kernel
theorem dJ3_checkFromIndexSize_8c36e_18 : decode cJ3_checkFromIndexSize_8c36e 18 = .ok (.iload_n 2, 1) := by decide +kernel
theorem dJ3_checkFromIndexSize_8c36e_19 : decode cJ3_checkFromIndexSize_8c36e 19 = .ok (.invokestatic 103, 3) := by decide +kernel
theorem dJ3_checkFromIndexSize_8c36e_22 : decode cJ3_checkFromIndexSize_8c36e 22 = .ok (.athrow, 1) := by decide +kernel
theorem dJ3_checkFromIndexSize_8c36e_23 : decode cJ3_checkFromIndexSize_8c36e 23 = .ok (.iload_n 0, 1) := by decide +kernel
theorem dJ3_checkFromIndexSize_8c36e_24 : decode cJ3_checkFromIndexSize_8c36e 24 = .ok (.ireturn, 1) := by decide +kernel
theorem dL_at_0 : decode cL_at 0 = .ok (.iload_n 1, 1) := by decide +kernel
theorem dL_at_1 : decode cL_at 1 = .ok (.aload_n 0, 1) := by decide +kernel
theorem dL_at_2 : decode cL_at 2 = .ok (.arraylength, 1) := by decide +kernel
theorem dL_at_3 : decode cL_at 3 = .ok (.if_icmp .ge 9, 3) := by decide +kernel
theorem dL_at_6 : decode cL_at 6 = .ok (.aload_n 0, 1) := by decide +kernel
theorem dL_at_7 : decode cL_at 7 = .ok (.iload_n 1, 1) := by decide +kernel
theorem dL_at_8 : decode cL_at 8 = .ok (.iaload, 1) := by decide +kernel
theorem dL_at_9 : decode cL_at 9 = .ok (.goto 4, 3) := by decide +kernel
theorem dL_at_12 : decode cL_at 12 = .ok (.iconst 0, 1) := by decide +kernel
theorem dL_at_13 : decode cL_at 13 = .ok (.ireturn, 1) := by decide +kernel
theorem dL_put_0 : decode cL_put 0 = .ok (.iconst 0, 1) := by decide +kernel
theorem dL_put_1 : decode cL_put 1 = .ok (.istore_n 2, 1) := by decide +kernel
theorem dL_put_2 : decode cL_put 2 = .ok (.iload_n 2, 1) := by decide +kernel
theorem dL_put_3 : decode cL_put 3 = .ok (.aload_n 1, 1) := by decide +kernel
theorem dL_put_4 : decode cL_put 4 = .ok (.invokevirtual 7, 3) := by decide +kernel
theorem dL_put_7 : decode cL_put 7 = .ok (.if_icmp .ge 19, 3) := by decide +kernel
theorem dL_put_10 : decode cL_put 10 = .ok (.aload_n 0, 1) := by decide +kernel
theorem dL_put_11 : decode cL_put 11 = .ok (.aload_n 1, 1) := by decide +kernel
theorem dL_put_12 : decode cL_put 12 = .ok (.iload_n 2, 1) := by decide +kernel
theorem dL_put_13 : decode cL_put 13 = .ok (.invokevirtual 13, 3) := by decide +kernel
theorem dL_put_16 : decode cL_put 16 = .ok (.invokevirtual 17, 3) := by decide +kernel
theorem dL_put_19 : decode cL_put 19 = .ok (.pop, 1) := by decide +kernel
theorem dL_put_20 : decode cL_put 20 = .ok (.iinc 2 1, 3) := by decide +kernel
theorem dL_put_23 : decode cL_put 23 = .ok (.goto (-21), 3) := by decide +kernel
theorem dL_put_26 : decode cL_put 26 = .ok (.return_, 1) := by decide +kernel
theorem dL_build_0 : decode cL_build 0 = .ok (.new 18, 3) := by decide +kernel
theorem dL_build_3 : decode cL_build 3 = .ok (.dup, 1) := by decide +kernel
theorem dL_build_4 : decode cL_build 4 = .ok (.invokespecial 23, 3) := by decide +kernel
theorem dL_build_7 : decode cL_build 7 = .ok (.astore_n 1, 1) := by decide +kernel
theorem dL_build_8 : decode cL_build 8 = .ok (.aload_n 0, 1) := by decide +kernel
theorem dL_build_9 : decode cL_build 9 = .ok (.iconst 0, 1) := by decide +kernel
theorem dL_build_10 : decode cL_build 10 = .ok (.invokestatic 24, 3) := by decide +kernel
theorem dL_build_13 : decode cL_build 13 = .ok (.istore_n 2, 1) := by decide +kernel
theorem dL_build_14 : decode cL_build 14 = .ok (.iconst 1, 1) := by decide +kernel
theorem dL_build_15 : decode cL_build 15 = .ok (.istore_n 3, 1) := by decide +kernel
theorem dL_build_16 : decode cL_build 16 = .ok (.iload_n 3, 1) := by decide +kernel
theorem dL_build_17 : decode cL_build 17 = .ok (.iconst 5, 1) := by decide +kernel
theorem dL_build_18 : decode cL_build 18 = .ok (.if_icmp .ge 35, 3) := by decide +kernel
theorem dL_build_21 : decode cL_build 21 = .ok (.aload_n 1, 1) := by decide +kernel
theorem dL_build_22 : decode cL_build 22 = .ok (.iconst 0, 1) := by decide +kernel
theorem dL_build_23 : decode cL_build 23 = .ok (.iload_n 2, 1) := by decide +kernel
theorem dL_build_24 : decode cL_build 24 = .ok (.iconst 2, 1) := by decide +kernel
theorem dL_build_25 : decode cL_build 25 = .ok (.iload_n 3, 1) := by decide +kernel
theorem dL_build_26 : decode cL_build 26 = .ok (.imul, 1) := by decide +kernel
theorem dL_build_27 : decode cL_build 27 = .ok (.ishr, 1) := by decide +kernel
theorem dL_build_28 : decode cL_build 28 = .ok (.iconst 3, 1) := by decide +kernel
theorem dL_build_29 : decode cL_build 29 = .ok (.iand, 1) := by decide +kernel
theorem dL_build_30 : decode cL_build 30 = .ok (.iload_n 3, 1) := by decide +kernel
theorem dL_build_31 : decode cL_build 31 = .ok (.irem, 1) := by decide +kernel
theorem dL_build_32 : decode cL_build 32 = .ok (.iload_n 3, 1) := by decide +kernel
theorem dL_build_33 : decode cL_build 33 = .ok (.iconst 1, 1) := by decide +kernel
theorem dL_build_34 : decode cL_build 34 = .ok (.iload_n 2, 1) := by decide +kernel
theorem dL_build_35 : decode cL_build 35 = .ok (.iconst 3, 1) := by decide +kernel
theorem dL_build_36 : decode cL_build 36 = .ok (.iload_n 3, 1) := by decide +kernel
theorem dL_build_37 : decode cL_build 37 = .ok (.imul, 1) := by decide +kernel
theorem dL_build_38 : decode cL_build 38 = .ok (.ishr, 1) := by decide +kernel
theorem dL_build_39 : decode cL_build 39 = .ok (.bipush 15, 2) := by decide +kernel
theorem dL_build_41 : decode cL_build 41 = .ok (.iand, 1) := by decide +kernel
theorem dL_build_42 : decode cL_build 42 = .ok (.iadd, 1) := by decide +kernel
theorem dL_build_43 : decode cL_build 43 = .ok (.invokestatic 30, 3) := by decide +kernel
theorem dL_build_46 : decode cL_build 46 = .ok (.pop, 1) := by decide +kernel
theorem dL_build_47 : decode cL_build 47 = .ok (.iinc 3 1, 3) := by decide +kernel
theorem dL_build_50 : decode cL_build 50 = .ok (.goto (-34), 3) := by decide +kernel
theorem dL_build_53 : decode cL_build 53 = .ok (.iconst 0, 1) := by decide +kernel
theorem dL_build_54 : decode cL_build 54 = .ok (.istore_n 3, 1) := by decide +kernel
theorem dL_build_55 : decode cL_build 55 = .ok (.iload_n 3, 1) := by decide +kernel
theorem dL_build_56 : decode cL_build 56 = .ok (.iconst 2, 1) := by decide +kernel
theorem dL_build_57 : decode cL_build 57 = .ok (.if_icmp .ge 31, 3) := by decide +kernel
theorem dL_build_60 : decode cL_build 60 = .ok (.aload_n 1, 1) := by decide +kernel
theorem dL_build_61 : decode cL_build 61 = .ok (.iconst 2, 1) := by decide +kernel
theorem dL_build_62 : decode cL_build 62 = .ok (.iconst 1, 1) := by decide +kernel
theorem dL_build_63 : decode cL_build 63 = .ok (.iload_n 2, 1) := by decide +kernel
theorem dL_build_64 : decode cL_build 64 = .ok (.bipush 16, 2) := by decide +kernel
theorem dL_build_66 : decode cL_build 66 = .ok (.iconst 2, 1) := by decide +kernel
theorem dL_build_67 : decode cL_build 67 = .ok (.iload_n 3, 1) := by decide +kernel
theorem dL_build_68 : decode cL_build 68 = .ok (.imul, 1) := by decide +kernel
theorem dL_build_69 : decode cL_build 69 = .ok (.iadd, 1) := by decide +kernel
theorem dL_build_70 : decode cL_build 70 = .ok (.ishr, 1) := by decide +kernel
theorem dL_build_71 : decode cL_build 71 = .ok (.iconst 3, 1) := by decide +kernel
theorem dL_build_72 : decode cL_build 72 = .ok (.iand, 1) := by decide +kernel
theorem dL_build_73 : decode cL_build 73 = .ok (.iconst 3, 1) := by decide +kernel
theorem dL_build_74 : decode cL_build 74 = .ok (.irem, 1) := by decide +kernel
theorem dL_build_75 : decode cL_build 75 = .ok (.iadd, 1) := by decide +kernel
theorem dL_build_76 : decode cL_build 76 = .ok (.iconst 0, 1) := by decide +kernel
theorem dL_build_77 : decode cL_build 77 = .ok (.iconst 0, 1) := by decide +kernel
theorem dL_build_78 : decode cL_build 78 = .ok (.invokestatic 30, 3) := by decide +kernel
theorem dL_build_81 : decode cL_build 81 = .ok (.pop, 1) := by decide +kernel
theorem dL_build_82 : decode cL_build 82 = .ok (.iinc 3 1, 3) := by decide +kernel
theorem dL_build_85 : decode cL_build 85 = .ok (.goto (-30), 3) := by decide +kernel
theorem dL_build_88 : decode cL_build 88 = .ok (.iconst 1, 1) := by decide +kernel
theorem dL_build_89 : decode cL_build 89 = .ok (.istore_n 3, 1) := by decide +kernel
theorem dL_build_90 : decode cL_build 90 = .ok (.iload_n 3, 1) := by decide +kernel
theorem dL_build_91 : decode cL_build 91 = .ok (.bipush 13, 2) := by decide +kernel
theorem dL_build_93 : decode cL_build 93 = .ok (.if_icmp .ge 337, 3) := by decide +kernel
theorem dL_build_96 : decode cL_build 96 = .ok (.aload_n 0, 1) := by decide +kernel
theorem dL_build_97 : decode cL_build 97 = .ok (.iload_n 3, 1) := by decide +kernel
theorem dL_build_98 : decode cL_build 98 = .ok (.invokestatic 24, 3) := by decide +kernel
theorem dL_build_101 : decode cL_build 101 = .ok (.istore 4, 2) := by decide +kernel
theorem dL_build_103 : decode cL_build 103 = .ok (.iconst 1, 1) := by decide +kernel
theorem dL_build_104 : decode cL_build 104 = .ok (.aload_n 1, 1) := by decide +kernel
theorem dL_build_105 : decode cL_build 105 = .ok (.invokevirtual 34, 3) := by decide +kernel
theorem dL_build_108 : decode cL_build 108 = .ok (.invokestatic 37, 3) := by decide +kernel
theorem dL_build_111 : decode cL_build 111 = .ok (.istore 5, 2) := by decide +kernel
theorem dL_build_113 : decode cL_build 113 = .ok (.aload_n 1, 1) := by decide +kernel
theorem dL_build_114 : decode cL_build 114 = .ok (.iconst 1, 1) := by decide +kernel
theorem dL_build_115 : decode cL_build 115 = .ok (.iconst 1, 1) := by decide +kernel
theorem dL_build_116 : decode cL_build 116 = .ok (.iload 4, 2) := by decide +kernel
theorem dL_build_118 : decode cL_build 118 = .ok (.bipush 15, 2) := by decide +kernel
theorem dL_build_120 : decode cL_build 120 = .ok (.iand, 1) := by decide +kernel
theorem dL_build_121 : decode cL_build 121 = .ok (.iadd, 1) := by decide +kernel
theorem dL_build_122 : decode cL_build 122 = .ok (.iload 4, 2) := by decide +kernel
theorem dL_build_124 : decode cL_build 124 = .ok (.iconst 4, 1) := by decide +kernel
theorem dL_build_125 : decode cL_build 125 = .ok (.ishr, 1) := by decide +kernel
theorem dL_build_126 : decode cL_build 126 = .ok (.iconst 3, 1) := by decide +kernel
theorem dL_build_127 : decode cL_build 127 = .ok (.iand, 1) := by decide +kernel
theorem dL_build_128 : decode cL_build 128 = .ok (.iload 4, 2) := by decide +kernel
theorem dL_build_130 : decode cL_build 130 = .ok (.bipush 6, 2) := by decide +kernel
theorem dL_build_132 : decode cL_build 132 = .ok (.ishr, 1) := by decide +kernel
theorem dL_build_133 : decode cL_build 133 = .ok (.bipush 7, 2) := by decide +kernel
theorem dL_build_135 : decode cL_build 135 = .ok (.iand, 1) := by decide +kernel
theorem dL_build_136 : decode cL_build 136 = .ok (.bipush 6, 2) := by decide +kernel
theorem dL_build_138 : decode cL_build 138 = .ok (.irem, 1) := by decide +kernel
theorem dL_build_139 : decode cL_build 139 = .ok (.invokestatic 30, 3) := by decide +kernel
theorem dL_build_142 : decode cL_build 142 = .ok (.pop, 1) := by decide +kernel
theorem dL_build_143 : decode cL_build 143 = .ok (.iload 4, 2) := by decide +kernel
theorem dL_build_145 : decode cL_build 145 = .ok (.bipush 9, 2) := by decide +kernel
theorem dL_build_147 : decode cL_build 147 = .ok (.ishr, 1) := by decide +kernel
theorem dL_build_148 : decode cL_build 148 = .ok (.iconst 1, 1) := by decide +kernel
theorem dL_build_149 : decode cL_build 149 = .ok (.iand, 1) := by decide +kernel
theorem dL_build_150 : decode cL_build 150 = .ok (.ifCond .ne 30, 3) := by decide +kernel
theorem dL_build_153 : decode cL_build 153 = .ok (.aload_n 1, 1) := by decide +kernel
theorem dL_build_154 : decode cL_build 154 = .ok (.iconst 4, 1) := by decide +kernel
theorem dL_build_155 : decode cL_build 155 = .ok (.iload 4, 2) := by decide +kernel
theorem dL_build_157 : decode cL_build 157 = .ok (.bipush 10, 2) := by decide +kernel
theorem dL_build_159 : decode cL_build 159 = .ok (.ishr, 1) := by decide +kernel
theorem dL_build_160 : decode cL_build 160 = .ok (.bipush 15, 2) := by decide +kernel
theorem dL_build_162 : decode cL_build 162 = .ok (.iand, 1) := by decide +kernel
theorem dL_build_163 : decode cL_build 163 = .ok (.iload 5, 2) := by decide +kernel
theorem dL_build_165 : decode cL_build 165 = .ok (.irem, 1) := by decide +kernel
theorem dL_build_166 : decode cL_build 166 = .ok (.iload 4, 2) := by decide +kernel
theorem dL_build_168 : decode cL_build 168 = .ok (.bipush 14, 2) := by decide +kernel
theorem dL_build_170 : decode cL_build 170 = .ok (.ishr, 1) := by decide +kernel
theorem dL_build_171 : decode cL_build 171 = .ok (.iconst 3, 1) := by decide +kernel
theorem dL_build_172 : decode cL_build 172 = .ok (.iand, 1) := by decide +kernel
theorem dL_build_173 : decode cL_build 173 = .ok (.iconst 3, 1) := by decide +kernel
theorem dL_build_174 : decode cL_build 174 = .ok (.irem, 1) := by decide +kernel
theorem dL_build_175 : decode cL_build 175 = .ok (.iconst 0, 1) := by decide +kernel
theorem dL_build_176 : decode cL_build 176 = .ok (.invokestatic 30, 3) := by decide +kernel
theorem dL_build_179 : decode cL_build 179 = .ok (.pop, 1) := by decide +kernel
theorem dL_build_180 : decode cL_build 180 = .ok (.aload_n 1, 1) := by decide +kernel
theorem dL_build_181 : decode cL_build 181 = .ok (.iconst 4, 1) := by decide +kernel
theorem dL_build_182 : decode cL_build 182 = .ok (.aload_n 1, 1) := by decide +kernel
theorem dL_build_183 : decode cL_build 183 = .ok (.invokevirtual 34, 3) := by decide +kernel
theorem dL_build_186 : decode cL_build 186 = .ok (.iconst 1, 1) := by decide +kernel
theorem dL_build_187 : decode cL_build 187 = .ok (.isub, 1) := by decide +kernel
theorem dL_build_188 : decode cL_build 188 = .ok (.iload 4, 2) := by decide +kernel
theorem dL_build_190 : decode cL_build 190 = .ok (.bipush 16, 2) := by decide +kernel
theorem dL_build_192 : decode cL_build 192 = .ok (.ishr, 1) := by decide +kernel
theorem dL_build_193 : decode cL_build 193 = .ok (.iconst 3, 1) := by decide +kernel
theorem dL_build_194 : decode cL_build 194 = .ok (.iand, 1) := by decide +kernel
theorem dL_build_195 : decode cL_build 195 = .ok (.iconst 3, 1) := by decide +kernel
theorem dL_build_196 : decode cL_build 196 = .ok (.irem, 1) := by decide +kernel
theorem dL_build_197 : decode cL_build 197 = .ok (.iconst 0, 1) := by decide +kernel
theorem dL_build_198 : decode cL_build 198 = .ok (.invokestatic 30, 3) := by decide +kernel
theorem dL_build_201 : decode cL_build 201 = .ok (.pop, 1) := by decide +kernel
theorem dL_build_202 : decode cL_build 202 = .ok (.iload 4, 2) := by decide +kernel
theorem dL_build_204 : decode cL_build 204 = .ok (.bipush 18, 2) := by decide +kernel
theorem dL_build_206 : decode cL_build 206 = .ok (.ishr, 1) := by decide +kernel
theorem dL_build_207 : decode cL_build 207 = .ok (.iconst 3, 1) := by decide +kernel
theorem dL_build_208 : decode cL_build 208 = .ok (.iand, 1) := by decide +kernel
theorem dL_build_209 : decode cL_build 209 = .ok (.ifCond .ne 31, 3) := by decide +kernel
theorem dL_build_212 : decode cL_build 212 = .ok (.aload_n 1, 1) := by decide +kernel
theorem dL_build_213 : decode cL_build 213 = .ok (.bipush 6, 2) := by decide +kernel
theorem dL_build_215 : decode cL_build 215 = .ok (.iload 4, 2) := by decide +kernel
theorem dL_build_217 : decode cL_build 217 = .ok (.bipush 20, 2) := by decide +kernel
theorem dL_build_219 : decode cL_build 219 = .ok (.ishr, 1) := by decide +kernel
theorem dL_build_220 : decode cL_build 220 = .ok (.iconst 3, 1) := by decide +kernel
theorem dL_build_221 : decode cL_build 221 = .ok (.iand, 1) := by decide +kernel
theorem dL_build_222 : decode cL_build 222 = .ok (.iconst 3, 1) := by decide +kernel
theorem dL_build_223 : decode cL_build 223 = .ok (.irem, 1) := by decide +kernel
theorem dL_build_224 : decode cL_build 224 = .ok (.iload 4, 2) := by decide +kernel
theorem dL_build_226 : decode cL_build 226 = .ok (.bipush 22, 2) := by decide +kernel
theorem dL_build_228 : decode cL_build 228 = .ok (.ishr, 1) := by decide +kernel
theorem dL_build_229 : decode cL_build 229 = .ok (.bipush 7, 2) := by decide +kernel
theorem dL_build_231 : decode cL_build 231 = .ok (.iand, 1) := by decide +kernel
theorem dL_build_232 : decode cL_build 232 = .ok (.bipush 6, 2) := by decide +kernel
theorem dL_build_234 : decode cL_build 234 = .ok (.irem, 1) := by decide +kernel
theorem dL_build_235 : decode cL_build 235 = .ok (.iconst 0, 1) := by decide +kernel
theorem dL_build_236 : decode cL_build 236 = .ok (.invokestatic 30, 3) := by decide +kernel
theorem dL_build_239 : decode cL_build 239 = .ok (.pop, 1) := by decide +kernel
theorem dL_build_240 : decode cL_build 240 = .ok (.iload 4, 2) := by decide +kernel
theorem dL_build_242 : decode cL_build 242 = .ok (.bipush 18, 2) := by decide +kernel
theorem dL_build_244 : decode cL_build 244 = .ok (.ishr, 1) := by decide +kernel
theorem dL_build_245 : decode cL_build 245 = .ok (.iconst 3, 1) := by decide +kernel
theorem dL_build_246 : decode cL_build 246 = .ok (.iand, 1) := by decide +kernel
theorem dL_build_247 : decode cL_build 247 = .ok (.iconst 1, 1) := by decide +kernel
theorem dL_build_248 : decode cL_build 248 = .ok (.if_icmp .ne 22, 3) := by decide +kernel
theorem dL_build_251 : decode cL_build 251 = .ok (.aload_n 1, 1) := by decide +kernel
theorem dL_build_252 : decode cL_build 252 = .ok (.iconst 2, 1) := by decide +kernel
theorem dL_build_253 : decode cL_build 253 = .ok (.iconst 1, 1) := by decide +kernel
theorem dL_build_254 : decode cL_build 254 = .ok (.iload 4, 2) := by decide +kernel
theorem dL_build_256 : decode cL_build 256 = .ok (.bipush 20, 2) := by decide +kernel
theorem dL_build_258 : decode cL_build 258 = .ok (.ishr, 1) := by decide +kernel
theorem dL_build_259 : decode cL_build 259 = .ok (.iconst 3, 1) := by decide +kernel
theorem dL_build_260 : decode cL_build 260 = .ok (.iand, 1) := by decide +kernel
theorem dL_build_261 : decode cL_build 261 = .ok (.iconst 3, 1) := by decide +kernel
theorem dL_build_262 : decode cL_build 262 = .ok (.irem, 1) := by decide +kernel
theorem dL_build_263 : decode cL_build 263 = .ok (.iadd, 1) := by decide +kernel
theorem dL_build_264 : decode cL_build 264 = .ok (.iconst 0, 1) := by decide +kernel
theorem dL_build_265 : decode cL_build 265 = .ok (.iconst 0, 1) := by decide +kernel
theorem dL_build_266 : decode cL_build 266 = .ok (.invokestatic 30, 3) := by decide +kernel
theorem dL_build_269 : decode cL_build 269 = .ok (.pop, 1) := by decide +kernel
theorem dL_build_270 : decode cL_build 270 = .ok (.iload 4, 2) := by decide +kernel
theorem dL_build_272 : decode cL_build 272 = .ok (.bipush 18, 2) := by decide +kernel
theorem dL_build_274 : decode cL_build 274 = .ok (.ishr, 1) := by decide +kernel
theorem dL_build_275 : decode cL_build 275 = .ok (.bipush 7, 2) := by decide +kernel
theorem dL_build_277 : decode cL_build 277 = .ok (.iand, 1) := by decide +kernel
theorem dL_build_278 : decode cL_build 278 = .ok (.iconst 2, 1) := by decide +kernel
theorem dL_build_279 : decode cL_build 279 = .ok (.if_icmp .ne 22, 3) := by decide +kernel
theorem dL_build_282 : decode cL_build 282 = .ok (.aload_n 1, 1) := by decide +kernel
theorem dL_build_283 : decode cL_build 283 = .ok (.iconst 5, 1) := by decide +kernel
theorem dL_build_284 : decode cL_build 284 = .ok (.iload 4, 2) := by decide +kernel
theorem dL_build_286 : decode cL_build 286 = .ok (.bipush 21, 2) := by decide +kernel
theorem dL_build_288 : decode cL_build 288 = .ok (.ishr, 1) := by decide +kernel
theorem dL_build_289 : decode cL_build 289 = .ok (.bipush 15, 2) := by decide +kernel
theorem dL_build_291 : decode cL_build 291 = .ok (.iand, 1) := by decide +kernel
theorem dL_build_292 : decode cL_build 292 = .ok (.iload 5, 2) := by decide +kernel
theorem dL_build_294 : decode cL_build 294 = .ok (.irem, 1) := by decide +kernel
theorem dL_build_295 : decode cL_build 295 = .ok (.iconst 0, 1) := by decide +kernel
theorem dL_build_296 : decode cL_build 296 = .ok (.iconst 0, 1) := by decide +kernel
theorem dL_build_297 : decode cL_build 297 = .ok (.invokestatic 30, 3) := by decide +kernel
theorem dL_build_300 : decode cL_build 300 = .ok (.pop, 1) := by decide +kernel
theorem dL_build_301 : decode cL_build 301 = .ok (.iload 4, 2) := by decide +kernel
theorem dL_build_303 : decode cL_build 303 = .ok (.bipush 18, 2) := by decide +kernel
theorem dL_build_305 : decode cL_build 305 = .ok (.ishr, 1) := by decide +kernel
theorem dL_build_306 : decode cL_build 306 = .ok (.bipush 7, 2) := by decide +kernel
theorem dL_build_308 : decode cL_build 308 = .ok (.iand, 1) := by decide +kernel
theorem dL_build_309 : decode cL_build 309 = .ok (.bipush 6, 2) := by decide +kernel
theorem dL_build_311 : decode cL_build 311 = .ok (.if_icmp .ne 23, 3) := by decide +kernel
theorem dL_build_314 : decode cL_build 314 = .ok (.aload_n 1, 1) := by decide +kernel
theorem dL_build_315 : decode cL_build 315 = .ok (.bipush 7, 2) := by decide +kernel
theorem dL_build_317 : decode cL_build 317 = .ok (.iload 4, 2) := by decide +kernel
theorem dL_build_319 : decode cL_build 319 = .ok (.bipush 21, 2) := by decide +kernel
theorem dL_build_321 : decode cL_build 321 = .ok (.ishr, 1) := by decide +kernel
theorem dL_build_322 : decode cL_build 322 = .ok (.bipush 15, 2) := by decide +kernel
theorem dL_build_324 : decode cL_build 324 = .ok (.iand, 1) := by decide +kernel
theorem dL_build_325 : decode cL_build 325 = .ok (.iload 5, 2) := by decide +kernel
theorem dL_build_327 : decode cL_build 327 = .ok (.irem, 1) := by decide +kernel
theorem dL_build_328 : decode cL_build 328 = .ok (.iconst 0, 1) := by decide +kernel
theorem dL_build_329 : decode cL_build 329 = .ok (.iconst 0, 1) := by decide +kernel
theorem dL_build_330 : decode cL_build 330 = .ok (.invokestatic 30, 3) := by decide +kernel
theorem dL_build_333 : decode cL_build 333 = .ok (.pop, 1) := by decide +kernel
theorem dL_build_334 : decode cL_build 334 = .ok (.iload 4, 2) := by decide +kernel
theorem dL_build_336 : decode cL_build 336 = .ok (.bipush 18, 2) := by decide +kernel
theorem dL_build_338 : decode cL_build 338 = .ok (.ishr, 1) := by decide +kernel
theorem dL_build_339 : decode cL_build 339 = .ok (.bipush 7, 2) := by decide +kernel
theorem dL_build_341 : decode cL_build 341 = .ok (.iand, 1) := by decide +kernel
theorem dL_build_342 : decode cL_build 342 = .ok (.iconst 3, 1) := by decide +kernel
theorem dL_build_343 : decode cL_build 343 = .ok (.if_icmp .ne 30, 3) := by decide +kernel
theorem dL_build_346 : decode cL_build 346 = .ok (.aload_n 1, 1) := by decide +kernel
theorem dL_build_347 : decode cL_build 347 = .ok (.iconst 3, 1) := by decide +kernel
theorem dL_build_348 : decode cL_build 348 = .ok (.iload 4, 2) := by decide +kernel
theorem dL_build_350 : decode cL_build 350 = .ok (.bipush 21, 2) := by decide +kernel
theorem dL_build_352 : decode cL_build 352 = .ok (.ishr, 1) := by decide +kernel
theorem dL_build_353 : decode cL_build 353 = .ok (.iconst 3, 1) := by decide +kernel
theorem dL_build_354 : decode cL_build 354 = .ok (.iand, 1) := by decide +kernel
theorem dL_build_355 : decode cL_build 355 = .ok (.iconst 3, 1) := by decide +kernel
theorem dL_build_356 : decode cL_build 356 = .ok (.irem, 1) := by decide +kernel
theorem dL_build_357 : decode cL_build 357 = .ok (.bipush 20, 2) := by decide +kernel
theorem dL_build_359 : decode cL_build 359 = .ok (.iload 4, 2) := by decide +kernel
theorem dL_build_361 : decode cL_build 361 = .ok (.bipush 23, 2) := by decide +kernel
theorem dL_build_363 : decode cL_build 363 = .ok (.ishr, 1) := by decide +kernel
theorem dL_build_364 : decode cL_build 364 = .ok (.bipush 31, 2) := by decide +kernel
theorem dL_build_366 : decode cL_build 366 = .ok (.iand, 1) := by decide +kernel
theorem dL_build_367 : decode cL_build 367 = .ok (.iadd, 1) := by decide +kernel
theorem dL_build_368 : decode cL_build 368 = .ok (.iconst 0, 1) := by decide +kernel
theorem dL_build_369 : decode cL_build 369 = .ok (.invokestatic 30, 3) := by decide +kernel
theorem dL_build_372 : decode cL_build 372 = .ok (.pop, 1) := by decide +kernel
theorem dL_build_373 : decode cL_build 373 = .ok (.iload 4, 2) := by decide +kernel
theorem dL_build_375 : decode cL_build 375 = .ok (.bipush 18, 2) := by decide +kernel
theorem dL_build_377 : decode cL_build 377 = .ok (.ishr, 1) := by decide +kernel
theorem dL_build_378 : decode cL_build 378 = .ok (.bipush 7, 2) := by decide +kernel
theorem dL_build_380 : decode cL_build 380 = .ok (.iand, 1) := by decide +kernel
theorem dL_build_381 : decode cL_build 381 = .ok (.bipush 7, 2) := by decide +kernel
theorem dL_build_383 : decode cL_build 383 = .ok (.if_icmp .ne 41, 3) := by decide +kernel
theorem dL_build_386 : decode cL_build 386 = .ok (.aload_n 1, 1) := by decide +kernel
theorem dL_build_387 : decode cL_build 387 = .ok (.iconst 0, 1) := by decide +kernel
theorem dL_build_388 : decode cL_build 388 = .ok (.iload 4, 2) := by decide +kernel
theorem dL_build_390 : decode cL_build 390 = .ok (.bipush 21, 2) := by decide +kernel
theorem dL_build_392 : decode cL_build 392 = .ok (.ishr, 1) := by decide +kernel
theorem dL_build_393 : decode cL_build 393 = .ok (.bipush 7, 2) := by decide +kernel
theorem dL_build_395 : decode cL_build 395 = .ok (.iand, 1) := by decide +kernel
theorem dL_build_396 : decode cL_build 396 = .ok (.bipush 6, 2) := by decide +kernel
theorem dL_build_398 : decode cL_build 398 = .ok (.irem, 1) := by decide +kernel
theorem dL_build_399 : decode cL_build 399 = .ok (.iload 4, 2) := by decide +kernel
theorem dL_build_401 : decode cL_build 401 = .ok (.bipush 24, 2) := by decide +kernel
theorem dL_build_403 : decode cL_build 403 = .ok (.ishr, 1) := by decide +kernel
theorem dL_build_404 : decode cL_build 404 = .ok (.bipush 7, 2) := by decide +kernel
theorem dL_build_406 : decode cL_build 406 = .ok (.iand, 1) := by decide +kernel
theorem dL_build_407 : decode cL_build 407 = .ok (.bipush 6, 2) := by decide +kernel
theorem dL_build_409 : decode cL_build 409 = .ok (.irem, 1) := by decide +kernel
theorem dL_build_410 : decode cL_build 410 = .ok (.iconst 1, 1) := by decide +kernel
theorem dL_build_411 : decode cL_build 411 = .ok (.iload 4, 2) := by decide +kernel
theorem dL_build_413 : decode cL_build 413 = .ok (.bipush 27, 2) := by decide +kernel
theorem dL_build_415 : decode cL_build 415 = .ok (.ishr, 1) := by decide +kernel
theorem dL_build_416 : decode cL_build 416 = .ok (.bipush 7, 2) := by decide +kernel
theorem dL_build_418 : decode cL_build 418 = .ok (.iand, 1) := by decide +kernel
theorem dL_build_419 : decode cL_build 419 = .ok (.iadd, 1) := by decide +kernel
theorem dL_build_420 : decode cL_build 420 = .ok (.invokestatic 30, 3) := by decide +kernel
theorem dL_build_423 : decode cL_build 423 = .ok (.pop, 1) := by decide +kernel
theorem dL_build_424 : decode cL_build 424 = .ok (.iinc 3 1, 3) := by decide +kernel
theorem dL_build_427 : decode cL_build 427 = .ok (.goto (-337), 3) := by decide +kernel
theorem dL_build_430 : decode cL_build 430 = .ok (.aload_n 1, 1) := by decide +kernel
theorem dL_build_431 : decode cL_build 431 = .ok (.areturn, 1) := by decide +kernel
theorem dL_act_0 : decode cL_act 0 = .ok (.iload_n 1, 1) := by decide +kernel
theorem dL_act_1 : decode cL_act 1 = .ok (.tableswitch 136 0 10 #[59, 68, 77, 83, 90, 97, 103, 110, 116, 123, 130], 59) := by decide +kernel
theorem dL_act_60 : decode cL_act 60 = .ok (.aload_n 0, 1) := by decide +kernel
theorem dL_act_61 : decode cL_act 61 = .ok (.iload_n 2, 1) := by decide +kernel
theorem dL_act_62 : decode cL_act 62 = .ok (.iload_n 3, 1) := by decide +kernel
theorem dL_act_63 : decode cL_act 63 = .ok (.iload 4, 2) := by decide +kernel
theorem dL_act_65 : decode cL_act 65 = .ok (.invokevirtual 43, 3) := by decide +kernel
theorem dL_act_68 : decode cL_act 68 = .ok (.ireturn, 1) := by decide +kernel
theorem dL_act_69 : decode cL_act 69 = .ok (.aload_n 0, 1) := by decide +kernel
theorem dL_act_70 : decode cL_act 70 = .ok (.iload_n 2, 1) := by decide +kernel
theorem dL_act_71 : decode cL_act 71 = .ok (.iload_n 3, 1) := by decide +kernel
theorem dL_act_72 : decode cL_act 72 = .ok (.iload 4, 2) := by decide +kernel
theorem dL_act_74 : decode cL_act 74 = .ok (.invokevirtual 47, 3) := by decide +kernel
theorem dL_act_77 : decode cL_act 77 = .ok (.ireturn, 1) := by decide +kernel
theorem dL_act_78 : decode cL_act 78 = .ok (.aload_n 0, 1) := by decide +kernel
theorem dL_act_79 : decode cL_act 79 = .ok (.iload_n 2, 1) := by decide +kernel
theorem dL_act_80 : decode cL_act 80 = .ok (.invokevirtual 50, 3) := by decide +kernel
theorem dL_act_83 : decode cL_act 83 = .ok (.ireturn, 1) := by decide +kernel
theorem dL_act_84 : decode cL_act 84 = .ok (.aload_n 0, 1) := by decide +kernel
theorem dL_act_85 : decode cL_act 85 = .ok (.iload_n 2, 1) := by decide +kernel
theorem dL_act_86 : decode cL_act 86 = .ok (.iload_n 3, 1) := by decide +kernel
theorem dL_act_87 : decode cL_act 87 = .ok (.invokevirtual 54, 3) := by decide +kernel
theorem dL_act_90 : decode cL_act 90 = .ok (.ireturn, 1) := by decide +kernel
theorem dL_act_91 : decode cL_act 91 = .ok (.aload_n 0, 1) := by decide +kernel
theorem dL_act_92 : decode cL_act 92 = .ok (.iload_n 2, 1) := by decide +kernel
theorem dL_act_93 : decode cL_act 93 = .ok (.iload_n 3, 1) := by decide +kernel
theorem dL_act_94 : decode cL_act 94 = .ok (.invokevirtual 57, 3) := by decide +kernel
theorem dL_act_97 : decode cL_act 97 = .ok (.ireturn, 1) := by decide +kernel
theorem dL_act_98 : decode cL_act 98 = .ok (.aload_n 0, 1) := by decide +kernel
theorem dL_act_99 : decode cL_act 99 = .ok (.iload_n 2, 1) := by decide +kernel
theorem dL_act_100 : decode cL_act 100 = .ok (.invokevirtual 60, 3) := by decide +kernel
theorem dL_act_103 : decode cL_act 103 = .ok (.ireturn, 1) := by decide +kernel
theorem dL_act_104 : decode cL_act 104 = .ok (.aload_n 0, 1) := by decide +kernel
theorem dL_act_105 : decode cL_act 105 = .ok (.iload_n 2, 1) := by decide +kernel
theorem dL_act_106 : decode cL_act 106 = .ok (.iload_n 3, 1) := by decide +kernel
theorem dL_act_107 : decode cL_act 107 = .ok (.invokevirtual 63, 3) := by decide +kernel
theorem dL_act_110 : decode cL_act 110 = .ok (.ireturn, 1) := by decide +kernel
theorem dL_act_111 : decode cL_act 111 = .ok (.aload_n 0, 1) := by decide +kernel
theorem dL_act_112 : decode cL_act 112 = .ok (.iload_n 2, 1) := by decide +kernel
theorem dL_act_113 : decode cL_act 113 = .ok (.invokevirtual 66, 3) := by decide +kernel
theorem dL_act_116 : decode cL_act 116 = .ok (.ireturn, 1) := by decide +kernel
theorem dL_act_117 : decode cL_act 117 = .ok (.aload_n 0, 1) := by decide +kernel
theorem dL_act_118 : decode cL_act 118 = .ok (.iload_n 2, 1) := by decide +kernel
theorem dL_act_119 : decode cL_act 119 = .ok (.iload_n 3, 1) := by decide +kernel
theorem dL_act_120 : decode cL_act 120 = .ok (.invokevirtual 69, 3) := by decide +kernel
theorem dL_act_123 : decode cL_act 123 = .ok (.ireturn, 1) := by decide +kernel
theorem dL_act_124 : decode cL_act 124 = .ok (.aload_n 0, 1) := by decide +kernel
theorem dL_act_125 : decode cL_act 125 = .ok (.iload_n 2, 1) := by decide +kernel
theorem dL_act_126 : decode cL_act 126 = .ok (.iload_n 3, 1) := by decide +kernel
theorem dL_act_127 : decode cL_act 127 = .ok (.invokevirtual 72, 3) := by decide +kernel
theorem dL_act_130 : decode cL_act 130 = .ok (.ireturn, 1) := by decide +kernel
theorem dL_act_131 : decode cL_act 131 = .ok (.aload_n 0, 1) := by decide +kernel
theorem dL_act_132 : decode cL_act 132 = .ok (.iload_n 2, 1) := by decide +kernel
theorem dL_act_133 : decode cL_act 133 = .ok (.invokevirtual 75, 3) := by decide +kernel
theorem dL_act_136 : decode cL_act 136 = .ok (.ireturn, 1) := by decide +kernel
theorem dL_act_137 : decode cL_act 137 = .ok (.aload_n 0, 1) := by decide +kernel
theorem dL_act_138 : decode cL_act 138 = .ok (.iload_n 2, 1) := by decide +kernel
theorem dL_act_139 : decode cL_act 139 = .ok (.iload_n 3, 1) := by decide +kernel
theorem dL_act_140 : decode cL_act 140 = .ok (.invokevirtual 78, 3) := by decide +kernel
theorem dL_act_143 : decode cL_act 143 = .ok (.ireturn, 1) := by decide +kernel
theorem dL_act_144 : decode cL_act 144 = .ok (.astore 5, 2) := by decide +kernel
theorem dL_act_146 : decode cL_act 146 = .ok (.iconst (-1), 1) := by decide +kernel
theorem dL_act_147 : decode cL_act 147 = .ok (.ireturn, 1) := by decide +kernel
theorem dL_act_148 : decode cL_act 148 = .ok (.astore 5, 2) := by decide +kernel
theorem dL_act_150 : decode cL_act 150 = .ok (.bipush (-2), 2) := by decide +kernel
theorem dL_act_152 : decode cL_act 152 = .ok (.ireturn, 1) := by decide +kernel
theorem dL_act_153 : decode cL_act 153 = .ok (.astore 5, 2) := by decide +kernel
theorem dL_act_155 : decode cL_act 155 = .ok (.bipush (-3), 2) := by decide +kernel
theorem dL_act_157 : decode cL_act 157 = .ok (.ireturn, 1) := by decide +kernel
theorem dL_act_158 : decode cL_act 158 = .ok (.astore 5, 2) := by decide +kernel
theorem dL_act_160 : decode cL_act 160 = .ok (.bipush (-4), 2) := by decide +kernel
theorem dL_act_162 : decode cL_act 162 = .ok (.ireturn, 1) := by decide +kernel
theorem dL_act_163 : decode cL_act 163 = .ok (.astore 5, 2) := by decide +kernel
theorem dL_act_165 : decode cL_act 165 = .ok (.bipush (-5), 2) := by decide +kernel
theorem dL_act_167 : decode cL_act 167 = .ok (.ireturn, 1) := by decide +kernel
theorem dL_road_0 : decode cL_road 0 = .ok (.aload_n 0, 1) := by decide +kernel
theorem dL_road_1 : decode cL_road 1 = .ok (.iload_n 1, 1) := by decide +kernel
theorem dL_road_2 : decode cL_road 2 = .ok (.iload_n 2, 1) := by decide +kernel
theorem dL_road_3 : decode cL_road 3 = .ok (.invokevirtual 91, 3) := by decide +kernel
theorem dL_road_6 : decode cL_road 6 = .ok (.ireturn, 1) := by decide +kernel
theorem dL_road_7 : decode cL_road 7 = .ok (.astore_n 3, 1) := by decide +kernel
theorem dL_road_8 : decode cL_road 8 = .ok (.iconst 0, 1) := by decide +kernel
theorem dL_road_9 : decode cL_road 9 = .ok (.ireturn, 1) := by decide +kernel
theorem dL_sackOf_0 : decode cL_sackOf 0 = .ok (.aload_n 0, 1) := by decide +kernel
theorem dL_sackOf_1 : decode cL_sackOf 1 = .ok (.iload_n 1, 1) := by decide +kernel
theorem dL_sackOf_2 : decode cL_sackOf 2 = .ok (.invokevirtual 94, 3) := by decide +kernel
theorem dL_sackOf_5 : decode cL_sackOf 5 = .ok (.bipush 115, 2) := by decide +kernel
theorem dL_sackOf_7 : decode cL_sackOf 7 = .ok (.if_icmp .ne 11, 3) := by decide +kernel
theorem dL_sackOf_10 : decode cL_sackOf 10 = .ok (.aload_n 0, 1) := by decide +kernel
theorem dL_sackOf_11 : decode cL_sackOf 11 = .ok (.iload_n 1, 1) := by decide +kernel
theorem dL_sackOf_12 : decode cL_sackOf 12 = .ok (.invokevirtual 97, 3) := by decide +kernel
theorem dL_sackOf_15 : decode cL_sackOf 15 = .ok (.goto 4, 3) := by decide +kernel
theorem dL_sackOf_18 : decode cL_sackOf 18 = .ok (.iconst (-1), 1) := by decide +kernel
theorem dL_sackOf_19 : decode cL_sackOf 19 = .ok (.ireturn, 1) := by decide +kernel
theorem dL_state_0 : decode cL_state 0 = .ok (.bipush 31, 2) := by decide +kernel
theorem dL_state_2 : decode cL_state 2 = .ok (.bipush 31, 2) := by decide +kernel
theorem dL_state_4 : decode cL_state 4 = .ok (.aload_n 0, 1) := by decide +kernel
theorem dL_state_5 : decode cL_state 5 = .ok (.invokevirtual 100, 3) := by decide +kernel
theorem dL_state_8 : decode cL_state 8 = .ok (.imul, 1) := by decide +kernel
theorem dL_state_9 : decode cL_state 9 = .ok (.aload_n 0, 1) := by decide +kernel
theorem dL_state_10 : decode cL_state 10 = .ok (.invokevirtual 103, 3) := by decide +kernel
theorem dL_state_13 : decode cL_state 13 = .ok (.iadd, 1) := by decide +kernel
theorem dL_state_14 : decode cL_state 14 = .ok (.imul, 1) := by decide +kernel
theorem dL_state_15 : decode cL_state 15 = .ok (.aload_n 0, 1) := by decide +kernel
theorem dL_state_16 : decode cL_state 16 = .ok (.invokevirtual 34, 3) := by decide +kernel
theorem dL_state_19 : decode cL_state 19 = .ok (.iadd, 1) := by decide +kernel
theorem dL_state_20 : decode cL_state 20 = .ok (.istore_n 1, 1) := by decide +kernel
theorem dL_state_21 : decode cL_state 21 = .ok (.iconst 0, 1) := by decide +kernel
theorem dL_state_22 : decode cL_state 22 = .ok (.istore_n 2, 1) := by decide +kernel
theorem dL_state_23 : decode cL_state 23 = .ok (.iload_n 2, 1) := by decide +kernel
theorem dL_state_24 : decode cL_state 24 = .ok (.bipush 6, 2) := by decide +kernel
theorem dL_state_26 : decode cL_state 26 = .ok (.if_icmp .ge 34, 3) := by decide +kernel
theorem dL_state_29 : decode cL_state 29 = .ok (.iconst 0, 1) := by decide +kernel
theorem dL_state_30 : decode cL_state 30 = .ok (.istore_n 3, 1) := by decide +kernel
theorem dL_state_31 : decode cL_state 31 = .ok (.iload_n 3, 1) := by decide +kernel
theorem dL_state_32 : decode cL_state 32 = .ok (.iload_n 2, 1) := by decide +kernel
theorem dL_state_33 : decode cL_state 33 = .ok (.if_icmp .ge 21, 3) := by decide +kernel
theorem dL_state_36 : decode cL_state 36 = .ok (.bipush 31, 2) := by decide +kernel
theorem dL_state_38 : decode cL_state 38 = .ok (.iload_n 1, 1) := by decide +kernel
theorem dL_state_39 : decode cL_state 39 = .ok (.imul, 1) := by decide +kernel
theorem dL_state_40 : decode cL_state 40 = .ok (.aload_n 0, 1) := by decide +kernel
theorem dL_state_41 : decode cL_state 41 = .ok (.iload_n 2, 1) := by decide +kernel
theorem dL_state_42 : decode cL_state 42 = .ok (.iload_n 3, 1) := by decide +kernel
theorem dL_state_43 : decode cL_state 43 = .ok (.invokestatic 106, 3) := by decide +kernel
theorem dL_state_46 : decode cL_state 46 = .ok (.iadd, 1) := by decide +kernel
theorem dL_state_47 : decode cL_state 47 = .ok (.istore_n 1, 1) := by decide +kernel
theorem dL_state_48 : decode cL_state 48 = .ok (.iinc 3 1, 3) := by decide +kernel
theorem dL_state_51 : decode cL_state 51 = .ok (.goto (-20), 3) := by decide +kernel
theorem dL_state_54 : decode cL_state 54 = .ok (.iinc 2 1, 3) := by decide +kernel
theorem dL_state_57 : decode cL_state 57 = .ok (.goto (-34), 3) := by decide +kernel
theorem dL_state_60 : decode cL_state 60 = .ok (.iconst 0, 1) := by decide +kernel
theorem dL_state_61 : decode cL_state 61 = .ok (.istore_n 2, 1) := by decide +kernel
theorem dL_state_62 : decode cL_state 62 = .ok (.iload_n 2, 1) := by decide +kernel
theorem dL_state_63 : decode cL_state 63 = .ok (.aload_n 0, 1) := by decide +kernel
theorem dL_state_64 : decode cL_state 64 = .ok (.invokevirtual 34, 3) := by decide +kernel
theorem dL_state_67 : decode cL_state 67 = .ok (.if_icmp .ge 65, 3) := by decide +kernel
theorem dL_state_70 : decode cL_state 70 = .ok (.bipush 31, 2) := by decide +kernel
theorem dL_state_72 : decode cL_state 72 = .ok (.bipush 31, 2) := by decide +kernel
theorem dL_state_74 : decode cL_state 74 = .ok (.bipush 31, 2) := by decide +kernel
theorem dL_state_76 : decode cL_state 76 = .ok (.bipush 31, 2) := by decide +kernel
theorem dL_state_78 : decode cL_state 78 = .ok (.bipush 31, 2) := by decide +kernel
theorem dL_state_80 : decode cL_state 80 = .ok (.iload_n 1, 1) := by decide +kernel
theorem dL_state_81 : decode cL_state 81 = .ok (.imul, 1) := by decide +kernel
theorem dL_state_82 : decode cL_state 82 = .ok (.aload_n 0, 1) := by decide +kernel
theorem dL_state_83 : decode cL_state 83 = .ok (.iload_n 2, 1) := by decide +kernel
theorem dL_state_84 : decode cL_state 84 = .ok (.invokevirtual 110, 3) := by decide +kernel
theorem dL_state_87 : decode cL_state 87 = .ok (.iadd, 1) := by decide +kernel
theorem dL_state_88 : decode cL_state 88 = .ok (.imul, 1) := by decide +kernel
theorem dL_state_89 : decode cL_state 89 = .ok (.aload_n 0, 1) := by decide +kernel
theorem dL_state_90 : decode cL_state 90 = .ok (.iload_n 2, 1) := by decide +kernel
theorem dL_state_91 : decode cL_state 91 = .ok (.invokevirtual 113, 3) := by decide +kernel
theorem dL_state_94 : decode cL_state 94 = .ok (.iadd, 1) := by decide +kernel
theorem dL_state_95 : decode cL_state 95 = .ok (.imul, 1) := by decide +kernel
theorem dL_state_96 : decode cL_state 96 = .ok (.aload_n 0, 1) := by decide +kernel
theorem dL_state_97 : decode cL_state 97 = .ok (.iload_n 2, 1) := by decide +kernel
theorem dL_state_98 : decode cL_state 98 = .ok (.invokevirtual 116, 3) := by decide +kernel
theorem dL_state_101 : decode cL_state 101 = .ok (.iadd, 1) := by decide +kernel
theorem dL_state_102 : decode cL_state 102 = .ok (.imul, 1) := by decide +kernel
theorem dL_state_103 : decode cL_state 103 = .ok (.aload_n 0, 1) := by decide +kernel
theorem dL_state_104 : decode cL_state 104 = .ok (.iload_n 2, 1) := by decide +kernel
theorem dL_state_105 : decode cL_state 105 = .ok (.invokevirtual 94, 3) := by decide +kernel
theorem dL_state_108 : decode cL_state 108 = .ok (.iadd, 1) := by decide +kernel
theorem dL_state_109 : decode cL_state 109 = .ok (.imul, 1) := by decide +kernel
theorem dL_state_110 : decode cL_state 110 = .ok (.bipush 7, 2) := by decide +kernel
theorem dL_state_112 : decode cL_state 112 = .ok (.aload_n 0, 1) := by decide +kernel
theorem dL_state_113 : decode cL_state 113 = .ok (.iload_n 2, 1) := by decide +kernel
theorem dL_state_114 : decode cL_state 114 = .ok (.invokestatic 119, 3) := by decide +kernel
theorem dL_state_117 : decode cL_state 117 = .ok (.imul, 1) := by decide +kernel
theorem dL_state_118 : decode cL_state 118 = .ok (.iadd, 1) := by decide +kernel
theorem dL_state_119 : decode cL_state 119 = .ok (.aload_n 0, 1) := by decide +kernel
theorem dL_state_120 : decode cL_state 120 = .ok (.iload_n 2, 1) := by decide +kernel
theorem dL_state_121 : decode cL_state 121 = .ok (.invokevirtual 122, 3) := by decide +kernel
theorem dL_state_124 : decode cL_state 124 = .ok (.iadd, 1) := by decide +kernel
theorem dL_state_125 : decode cL_state 125 = .ok (.istore_n 1, 1) := by decide +kernel
theorem dL_state_126 : decode cL_state 126 = .ok (.iinc 2 1, 3) := by decide +kernel
theorem dL_state_129 : decode cL_state 129 = .ok (.goto (-67), 3) := by decide +kernel
theorem dL_state_132 : decode cL_state 132 = .ok (.iconst 0, 1) := by decide +kernel
theorem dL_state_133 : decode cL_state 133 = .ok (.istore_n 2, 1) := by decide +kernel
theorem dL_state_134 : decode cL_state 134 = .ok (.iload_n 2, 1) := by decide +kernel
theorem dL_state_135 : decode cL_state 135 = .ok (.aload_n 0, 1) := by decide +kernel
theorem dL_state_136 : decode cL_state 136 = .ok (.invokevirtual 125, 3) := by decide +kernel
theorem dL_state_139 : decode cL_state 139 = .ok (.if_icmp .ge 29, 3) := by decide +kernel
theorem dL_state_142 : decode cL_state 142 = .ok (.bipush 31, 2) := by decide +kernel
theorem dL_state_144 : decode cL_state 144 = .ok (.bipush 31, 2) := by decide +kernel
theorem dL_state_146 : decode cL_state 146 = .ok (.iload_n 1, 1) := by decide +kernel
theorem dL_state_147 : decode cL_state 147 = .ok (.imul, 1) := by decide +kernel
theorem dL_state_148 : decode cL_state 148 = .ok (.aload_n 0, 1) := by decide +kernel
theorem dL_state_149 : decode cL_state 149 = .ok (.iload_n 2, 1) := by decide +kernel
theorem dL_state_150 : decode cL_state 150 = .ok (.invokevirtual 128, 3) := by decide +kernel
theorem dL_state_153 : decode cL_state 153 = .ok (.iadd, 1) := by decide +kernel
theorem dL_state_154 : decode cL_state 154 = .ok (.imul, 1) := by decide +kernel
theorem dL_state_155 : decode cL_state 155 = .ok (.aload_n 0, 1) := by decide +kernel
theorem dL_state_156 : decode cL_state 156 = .ok (.iload_n 2, 1) := by decide +kernel
theorem dL_state_157 : decode cL_state 157 = .ok (.invokevirtual 131, 3) := by decide +kernel
theorem dL_state_160 : decode cL_state 160 = .ok (.iadd, 1) := by decide +kernel
theorem dL_state_161 : decode cL_state 161 = .ok (.istore_n 1, 1) := by decide +kernel
theorem dL_state_162 : decode cL_state 162 = .ok (.iinc 2 1, 3) := by decide +kernel
theorem dL_state_165 : decode cL_state 165 = .ok (.goto (-31), 3) := by decide +kernel
theorem dL_state_168 : decode cL_state 168 = .ok (.iconst 0, 1) := by decide +kernel
theorem dL_state_169 : decode cL_state 169 = .ok (.istore_n 2, 1) := by decide +kernel
theorem dL_state_170 : decode cL_state 170 = .ok (.iload_n 2, 1) := by decide +kernel
theorem dL_state_171 : decode cL_state 171 = .ok (.iconst 3, 1) := by decide +kernel
theorem dL_state_172 : decode cL_state 172 = .ok (.if_icmp .ge 29, 3) := by decide +kernel
theorem dL_state_175 : decode cL_state 175 = .ok (.bipush 31, 2) := by decide +kernel
theorem dL_state_177 : decode cL_state 177 = .ok (.bipush 31, 2) := by decide +kernel
theorem dL_state_179 : decode cL_state 179 = .ok (.iload_n 1, 1) := by decide +kernel
theorem dL_state_180 : decode cL_state 180 = .ok (.imul, 1) := by decide +kernel
theorem dL_state_181 : decode cL_state 181 = .ok (.aload_n 0, 1) := by decide +kernel
theorem dL_state_182 : decode cL_state 182 = .ok (.iload_n 2, 1) := by decide +kernel
theorem dL_state_183 : decode cL_state 183 = .ok (.invokevirtual 134, 3) := by decide +kernel
theorem dL_state_186 : decode cL_state 186 = .ok (.iadd, 1) := by decide +kernel
theorem dL_state_187 : decode cL_state 187 = .ok (.imul, 1) := by decide +kernel
theorem dL_state_188 : decode cL_state 188 = .ok (.aload_n 0, 1) := by decide +kernel
theorem dL_state_189 : decode cL_state 189 = .ok (.iload_n 2, 1) := by decide +kernel
theorem dL_state_190 : decode cL_state 190 = .ok (.invokevirtual 137, 3) := by decide +kernel
theorem dL_state_193 : decode cL_state 193 = .ok (.iadd, 1) := by decide +kernel
theorem dL_state_194 : decode cL_state 194 = .ok (.istore_n 1, 1) := by decide +kernel
theorem dL_state_195 : decode cL_state 195 = .ok (.iinc 2 1, 3) := by decide +kernel
theorem dL_state_198 : decode cL_state 198 = .ok (.goto (-28), 3) := by decide +kernel
theorem dL_state_201 : decode cL_state 201 = .ok (.bipush 31, 2) := by decide +kernel
theorem dL_state_203 : decode cL_state 203 = .ok (.iload_n 1, 1) := by decide +kernel
theorem dL_state_204 : decode cL_state 204 = .ok (.imul, 1) := by decide +kernel
theorem dL_state_205 : decode cL_state 205 = .ok (.aload_n 0, 1) := by decide +kernel
theorem dL_state_206 : decode cL_state 206 = .ok (.invokevirtual 125, 3) := by decide +kernel
theorem dL_state_209 : decode cL_state 209 = .ok (.iadd, 1) := by decide +kernel
theorem dL_state_210 : decode cL_state 210 = .ok (.ireturn, 1) := by decide +kernel
theorem dL_law_0 : decode cL_law 0 = .ok (.aload_n 0, 1) := by decide +kernel
theorem dL_law_1 : decode cL_law 1 = .ok (.invokestatic 145, 3) := by decide +kernel
theorem dL_law_4 : decode cL_law 4 = .ok (.astore_n 1, 1) := by decide +kernel
theorem dL_law_5 : decode cL_law 5 = .ok (.aload_n 0, 1) := by decide +kernel
theorem dL_law_6 : decode cL_law 6 = .ok (.invokestatic 145, 3) := by decide +kernel
theorem dL_law_9 : decode cL_law 9 = .ok (.astore_n 2, 1) := by decide +kernel
theorem dL_law_10 : decode cL_law 10 = .ok (.aload_n 1, 1) := by decide +kernel
theorem dL_law_11 : decode cL_law 11 = .ok (.invokevirtual 149, 3) := by decide +kernel
theorem dL_law_14 : decode cL_law 14 = .ok (.istore_n 3, 1) := by decide +kernel
theorem dL_law_15 : decode cL_law 15 = .ok (.aload_n 1, 1) := by decide +kernel
theorem dL_law_16 : decode cL_law 16 = .ok (.invokestatic 152, 3) := by decide +kernel
theorem dL_law_19 : decode cL_law 19 = .ok (.istore 4, 2) := by decide +kernel
theorem dL_law_21 : decode cL_law 21 = .ok (.aload_n 1, 1) := by decide +kernel
theorem dL_law_22 : decode cL_law 22 = .ok (.iconst 0, 1) := by decide +kernel
theorem dL_law_23 : decode cL_law 23 = .ok (.invokevirtual 134, 3) := by decide +kernel
theorem dL_law_26 : decode cL_law 26 = .ok (.iconst 1, 1) := by decide +kernel
theorem dL_law_27 : decode cL_law 27 = .ok (.if_icmp .ne 7, 3) := by decide +kernel
theorem dL_law_30 : decode cL_law 30 = .ok (.iconst 0, 1) := by decide +kernel
theorem dL_law_31 : decode cL_law 31 = .ok (.goto 4, 3) := by decide +kernel
theorem dL_law_34 : decode cL_law 34 = .ok (.iconst 1, 1) := by decide +kernel
theorem dL_law_35 : decode cL_law 35 = .ok (.istore 5, 2) := by decide +kernel
theorem dL_law_37 : decode cL_law 37 = .ok (.aload_n 1, 1) := by decide +kernel
theorem dL_law_38 : decode cL_law 38 = .ok (.new 155, 3) := by decide +kernel
theorem dL_law_41 : decode cL_law 41 = .ok (.dup, 1) := by decide +kernel
theorem dL_law_42 : decode cL_law 42 = .ok (.invokespecial 157, 3) := by decide +kernel
theorem dL_law_45 : decode cL_law 45 = .ok (.ldc 158, 2) := by decide +kernel
theorem dL_law_47 : decode cL_law 47 = .ok (.invokevirtual 160, 3) := by decide +kernel
theorem dL_law_50 : decode cL_law 50 = .ok (.iload 5, 2) := by decide +kernel
theorem dL_law_52 : decode cL_law 52 = .ok (.invokevirtual 164, 3) := by decide +kernel
theorem dL_law_55 : decode cL_law 55 = .ok (.ldc 167, 2) := by decide +kernel
theorem dL_law_57 : decode cL_law 57 = .ok (.invokevirtual 160, 3) := by decide +kernel
theorem dL_law_60 : decode cL_law 60 = .ok (.iconst 1, 1) := by decide +kernel
theorem dL_law_61 : decode cL_law 61 = .ok (.iload 5, 2) := by decide +kernel
theorem dL_law_63 : decode cL_law 63 = .ok (.isub, 1) := by decide +kernel
theorem dL_law_64 : decode cL_law 64 = .ok (.invokevirtual 164, 3) := by decide +kernel
theorem dL_law_67 : decode cL_law 67 = .ok (.invokevirtual 169, 3) := by decide +kernel
theorem dL_law_70 : decode cL_law 70 = .ok (.invokestatic 173, 3) := by decide +kernel
theorem dL_law_73 : decode cL_law 73 = .ok (.aload_n 1, 1) := by decide +kernel
theorem dL_law_74 : decode cL_law 74 = .ok (.invokevirtual 176, 3) := by decide +kernel
theorem dL_law_77 : decode cL_law 77 = .ok (.iconst 2, 1) := by decide +kernel
theorem dL_law_78 : decode cL_law 78 = .ok (.if_icmp .ne 36, 3) := by decide +kernel
theorem dL_law_81 : decode cL_law 81 = .ok (.aload_n 2, 1) := by decide +kernel
theorem dL_law_82 : decode cL_law 82 = .ok (.iconst 0, 1) := by decide +kernel
theorem dL_law_83 : decode cL_law 83 = .ok (.iload 5, 2) := by decide +kernel
theorem dL_law_85 : decode cL_law 85 = .ok (.invokevirtual 63, 3) := by decide +kernel
theorem dL_law_88 : decode cL_law 88 = .ok (.ifCond .lt 26, 3) := by decide +kernel
theorem dL_law_91 : decode cL_law 91 = .ok (.aload_n 2, 1) := by decide +kernel
theorem dL_law_92 : decode cL_law 92 = .ok (.iconst 0, 1) := by decide +kernel
theorem dL_law_93 : decode cL_law 93 = .ok (.iconst 1, 1) := by decide +kernel
theorem dL_law_94 : decode cL_law 94 = .ok (.iload 5, 2) := by decide +kernel
theorem dL_law_96 : decode cL_law 96 = .ok (.isub, 1) := by decide +kernel
theorem dL_law_97 : decode cL_law 97 = .ok (.invokevirtual 63, 3) := by decide +kernel
theorem dL_law_100 : decode cL_law 100 = .ok (.ifCond .lt 14, 3) := by decide +kernel
theorem dL_law_103 : decode cL_law 103 = .ok (.aload_n 1, 1) := by decide +kernel
theorem dL_law_104 : decode cL_law 104 = .ok (.invokestatic 152, 3) := by decide +kernel
theorem dL_law_107 : decode cL_law 107 = .ok (.aload_n 2, 1) := by decide +kernel
theorem dL_law_108 : decode cL_law 108 = .ok (.invokestatic 152, 3) := by decide +kernel
theorem dL_law_111 : decode cL_law 111 = .ok (.if_icmp .eq 5, 3) := by decide +kernel
theorem dL_law_114 : decode cL_law 114 = .ok (.iconst 0, 1) := by decide +kernel
theorem dL_law_115 : decode cL_law 115 = .ok (.ireturn, 1) := by decide +kernel
theorem dL_law_116 : decode cL_law 116 = .ok (.aload_n 1, 1) := by decide +kernel
theorem dL_law_117 : decode cL_law 117 = .ok (.invokevirtual 179, 3) := by decide +kernel
theorem dL_law_120 : decode cL_law 120 = .ok (.ifCond .lt 35, 3) := by decide +kernel
theorem dL_law_123 : decode cL_law 123 = .ok (.aload_n 1, 1) := by decide +kernel
theorem dL_law_124 : decode cL_law 124 = .ok (.invokestatic 152, 3) := by decide +kernel
theorem dL_law_127 : decode cL_law 127 = .ok (.iload 4, 2) := by decide +kernel
theorem dL_law_129 : decode cL_law 129 = .ok (.if_icmp .ne 26, 3) := by decide +kernel
theorem dL_law_132 : decode cL_law 132 = .ok (.aload_n 2, 1) := by decide +kernel
theorem dL_law_133 : decode cL_law 133 = .ok (.invokevirtual 179, 3) := by decide +kernel
theorem dL_law_136 : decode cL_law 136 = .ok (.ifCond .lt 19, 3) := by decide +kernel
theorem dL_law_139 : decode cL_law 139 = .ok (.aload_n 2, 1) := by decide +kernel
theorem dL_law_140 : decode cL_law 140 = .ok (.invokevirtual 179, 3) := by decide +kernel
theorem dL_law_143 : decode cL_law 143 = .ok (.ifCond .lt 12, 3) := by decide +kernel
theorem dL_law_146 : decode cL_law 146 = .ok (.aload_n 2, 1) := by decide +kernel
theorem dL_law_147 : decode cL_law 147 = .ok (.invokestatic 152, 3) := by decide +kernel
theorem dL_law_150 : decode cL_law 150 = .ok (.iload 4, 2) := by decide +kernel
theorem dL_law_152 : decode cL_law 152 = .ok (.if_icmp .eq 5, 3) := by decide +kernel
theorem dL_law_155 : decode cL_law 155 = .ok (.iconst 0, 1) := by decide +kernel
theorem dL_law_156 : decode cL_law 156 = .ok (.ireturn, 1) := by decide +kernel
theorem dL_law_157 : decode cL_law 157 = .ok (.aload_n 1, 1) := by decide +kernel
theorem dL_law_158 : decode cL_law 158 = .ok (.new 155, 3) := by decide +kernel
theorem dL_law_161 : decode cL_law 161 = .ok (.dup, 1) := by decide +kernel
theorem dL_law_162 : decode cL_law 162 = .ok (.invokespecial 157, 3) := by decide +kernel
theorem dL_law_165 : decode cL_law 165 = .ok (.ldc 158, 2) := by decide +kernel
theorem dL_law_167 : decode cL_law 167 = .ok (.invokevirtual 160, 3) := by decide +kernel
theorem dL_law_170 : decode cL_law 170 = .ok (.iload 5, 2) := by decide +kernel
theorem dL_law_172 : decode cL_law 172 = .ok (.invokevirtual 164, 3) := by decide +kernel
theorem dL_law_175 : decode cL_law 175 = .ok (.ldc 182, 2) := by decide +kernel
theorem dL_law_177 : decode cL_law 177 = .ok (.invokevirtual 160, 3) := by decide +kernel
theorem dL_law_180 : decode cL_law 180 = .ok (.invokevirtual 169, 3) := by decide +kernel
theorem dL_law_183 : decode cL_law 183 = .ok (.invokestatic 173, 3) := by decide +kernel
theorem dL_law_186 : decode cL_law 186 = .ok (.aload_n 1, 1) := by decide +kernel
theorem dL_law_187 : decode cL_law 187 = .ok (.invokestatic 184, 3) := by decide +kernel
theorem dL_law_190 : decode cL_law 190 = .ok (.bipush (-2), 2) := by decide +kernel
theorem dL_law_192 : decode cL_law 192 = .ok (.if_icmp .ne 20, 3) := by decide +kernel
theorem dL_law_195 : decode cL_law 195 = .ok (.aload_n 1, 1) := by decide +kernel
theorem dL_law_196 : decode cL_law 196 = .ok (.invokevirtual 187, 3) := by decide +kernel
theorem dL_law_199 : decode cL_law 199 = .ok (.iconst 1, 1) := by decide +kernel
theorem dL_law_200 : decode cL_law 200 = .ok (.if_icmp .ne 12, 3) := by decide +kernel
theorem dL_law_203 : decode cL_law 203 = .ok (.aload_n 1, 1) := by decide +kernel
theorem dL_law_204 : decode cL_law 204 = .ok (.invokestatic 152, 3) := by decide +kernel
theorem dL_law_207 : decode cL_law 207 = .ok (.iload 4, 2) := by decide +kernel
theorem dL_law_209 : decode cL_law 209 = .ok (.if_icmp .eq 5, 3) := by decide +kernel
theorem dL_law_212 : decode cL_law 212 = .ok (.iconst 0, 1) := by decide +kernel
theorem dL_law_213 : decode cL_law 213 = .ok (.ireturn, 1) := by decide +kernel
theorem dL_law_214 : decode cL_law 214 = .ok (.aload_n 1, 1) := by decide +kernel
theorem dL_law_215 : decode cL_law 215 = .ok (.ldc 190, 2) := by decide +kernel
theorem dL_law_217 : decode cL_law 217 = .ok (.invokestatic 173, 3) := by decide +kernel
theorem dL_law_220 : decode cL_law 220 = .ok (.aload_n 1, 1) := by decide +kernel
theorem dL_law_221 : decode cL_law 221 = .ok (.invokestatic 184, 3) := by decide +kernel
theorem dL_law_224 : decode cL_law 224 = .ok (.bipush (-2), 2) := by decide +kernel
theorem dL_law_226 : decode cL_law 226 = .ok (.if_icmp .ne 19, 3) := by decide +kernel
theorem dL_law_229 : decode cL_law 229 = .ok (.aload_n 1, 1) := by decide +kernel
theorem dL_law_230 : decode cL_law 230 = .ok (.invokevirtual 187, 3) := by decide +kernel
theorem dL_law_233 : decode cL_law 233 = .ok (.ifCond .ne 12, 3) := by decide +kernel
theorem dL_law_236 : decode cL_law 236 = .ok (.aload_n 1, 1) := by decide +kernel
theorem dL_law_237 : decode cL_law 237 = .ok (.invokestatic 152, 3) := by decide +kernel
theorem dL_law_240 : decode cL_law 240 = .ok (.iload 4, 2) := by decide +kernel
theorem dL_law_242 : decode cL_law 242 = .ok (.if_icmp .eq 5, 3) := by decide +kernel
theorem dL_law_245 : decode cL_law 245 = .ok (.iconst 0, 1) := by decide +kernel
theorem dL_law_246 : decode cL_law 246 = .ok (.ireturn, 1) := by decide +kernel
theorem dL_law_247 : decode cL_law 247 = .ok (.aload_n 1, 1) := by decide +kernel
theorem dL_law_248 : decode cL_law 248 = .ok (.ldc 192, 2) := by decide +kernel
theorem dL_law_250 : decode cL_law 250 = .ok (.iconst 1, 1) := by decide +kernel
theorem dL_law_251 : decode cL_law 251 = .ok (.invokestatic 194, 3) := by decide +kernel
theorem dL_law_254 : decode cL_law 254 = .ok (.ifCond .eq 125, 3) := by decide +kernel
theorem dL_law_257 : decode cL_law 257 = .ok (.aload_n 1, 1) := by decide +kernel
theorem dL_law_258 : decode cL_law 258 = .ok (.ldc 198, 2) := by decide +kernel
theorem dL_law_260 : decode cL_law 260 = .ok (.bipush 8, 2) := by decide +kernel
theorem dL_law_262 : decode cL_law 262 = .ok (.invokestatic 194, 3) := by decide +kernel
theorem dL_law_265 : decode cL_law 265 = .ok (.ifCond .eq 114, 3) := by decide +kernel
theorem dL_law_268 : decode cL_law 268 = .ok (.aload_n 1, 1) := by decide +kernel
theorem dL_law_269 : decode cL_law 269 = .ok (.ldc 200, 2) := by decide +kernel
theorem dL_law_271 : decode cL_law 271 = .ok (.bipush 6, 2) := by decide +kernel
theorem dL_law_273 : decode cL_law 273 = .ok (.invokestatic 194, 3) := by decide +kernel
theorem dL_law_276 : decode cL_law 276 = .ok (.ifCond .eq 103, 3) := by decide +kernel
theorem dL_law_279 : decode cL_law 279 = .ok (.aload_n 1, 1) := by decide +kernel
theorem dL_law_280 : decode cL_law 280 = .ok (.ldc 202, 2) := by decide +kernel
theorem dL_law_282 : decode cL_law 282 = .ok (.bipush 11, 2) := by decide +kernel
theorem dL_law_284 : decode cL_law 284 = .ok (.invokestatic 194, 3) := by decide +kernel
theorem dL_law_287 : decode cL_law 287 = .ok (.ifCond .eq 92, 3) := by decide +kernel
theorem dL_law_290 : decode cL_law 290 = .ok (.aload_n 1, 1) := by decide +kernel
theorem dL_law_291 : decode cL_law 291 = .ok (.ldc 204, 2) := by decide +kernel
theorem dL_law_293 : decode cL_law 293 = .ok (.bipush 7, 2) := by decide +kernel
theorem dL_law_295 : decode cL_law 295 = .ok (.invokestatic 194, 3) := by decide +kernel
theorem dL_law_298 : decode cL_law 298 = .ok (.ifCond .eq 81, 3) := by decide +kernel
theorem dL_law_301 : decode cL_law 301 = .ok (.aload_n 1, 1) := by decide +kernel
theorem dL_law_302 : decode cL_law 302 = .ok (.ldc 206, 2) := by decide +kernel
theorem dL_law_304 : decode cL_law 304 = .ok (.iconst 0, 1) := by decide +kernel
theorem dL_law_305 : decode cL_law 305 = .ok (.invokestatic 194, 3) := by decide +kernel
theorem dL_law_308 : decode cL_law 308 = .ok (.ifCond .eq 71, 3) := by decide +kernel
theorem dL_law_311 : decode cL_law 311 = .ok (.aload_n 1, 1) := by decide +kernel
theorem dL_law_312 : decode cL_law 312 = .ok (.ldc 208, 2) := by decide +kernel
theorem dL_law_314 : decode cL_law 314 = .ok (.bipush 6, 2) := by decide +kernel
theorem dL_law_316 : decode cL_law 316 = .ok (.invokestatic 194, 3) := by decide +kernel
theorem dL_law_319 : decode cL_law 319 = .ok (.ifCond .eq 60, 3) := by decide +kernel
theorem dL_law_322 : decode cL_law 322 = .ok (.aload_n 1, 1) := by decide +kernel
theorem dL_law_323 : decode cL_law 323 = .ok (.ldc 210, 2) := by decide +kernel
theorem dL_law_325 : decode cL_law 325 = .ok (.bipush 7, 2) := by decide +kernel
theorem dL_law_327 : decode cL_law 327 = .ok (.invokestatic 194, 3) := by decide +kernel
theorem dL_law_330 : decode cL_law 330 = .ok (.ifCond .eq 49, 3) := by decide +kernel
theorem dL_law_333 : decode cL_law 333 = .ok (.aload_n 1, 1) := by decide +kernel
theorem dL_law_334 : decode cL_law 334 = .ok (.ldc 212, 2) := by decide +kernel
theorem dL_law_336 : decode cL_law 336 = .ok (.iconst 1, 1) := by decide +kernel
theorem dL_law_337 : decode cL_law 337 = .ok (.invokestatic 194, 3) := by decide +kernel
theorem dL_law_340 : decode cL_law 340 = .ok (.ifCond .eq 39, 3) := by decide +kernel
theorem dL_law_343 : decode cL_law 343 = .ok (.aload_n 1, 1) := by decide +kernel
theorem dL_law_344 : decode cL_law 344 = .ok (.ldc 214, 2) := by decide +kernel
theorem dL_law_346 : decode cL_law 346 = .ok (.iconst 4, 1) := by decide +kernel
theorem dL_law_347 : decode cL_law 347 = .ok (.invokestatic 194, 3) := by decide +kernel
theorem dL_law_350 : decode cL_law 350 = .ok (.ifCond .eq 29, 3) := by decide +kernel
theorem dL_law_353 : decode cL_law 353 = .ok (.aload_n 1, 1) := by decide +kernel
theorem dL_law_354 : decode cL_law 354 = .ok (.ldc 216, 2) := by decide +kernel
theorem dL_law_356 : decode cL_law 356 = .ok (.iconst 0, 1) := by decide +kernel
theorem dL_law_357 : decode cL_law 357 = .ok (.invokestatic 194, 3) := by decide +kernel
theorem dL_law_360 : decode cL_law 360 = .ok (.ifCond .eq 19, 3) := by decide +kernel
theorem dL_law_363 : decode cL_law 363 = .ok (.aload_n 1, 1) := by decide +kernel
theorem dL_law_364 : decode cL_law 364 = .ok (.invokevirtual 187, 3) := by decide +kernel
theorem dL_law_367 : decode cL_law 367 = .ok (.ifCond .ne 12, 3) := by decide +kernel
theorem dL_law_370 : decode cL_law 370 = .ok (.aload_n 1, 1) := by decide +kernel
theorem dL_law_371 : decode cL_law 371 = .ok (.invokestatic 152, 3) := by decide +kernel
theorem dL_law_374 : decode cL_law 374 = .ok (.iload 4, 2) := by decide +kernel
theorem dL_law_376 : decode cL_law 376 = .ok (.if_icmp .eq 5, 3) := by decide +kernel
theorem dL_law_379 : decode cL_law 379 = .ok (.iconst 0, 1) := by decide +kernel
theorem dL_law_380 : decode cL_law 380 = .ok (.ireturn, 1) := by decide +kernel
theorem dL_law_381 : decode cL_law 381 = .ok (.aload_n 0, 1) := by decide +kernel
theorem dL_law_382 : decode cL_law 382 = .ok (.bipush 13, 2) := by decide +kernel
theorem dL_law_384 : decode cL_law 384 = .ok (.invokestatic 24, 3) := by decide +kernel
theorem dL_law_387 : decode cL_law 387 = .ok (.istore 6, 2) := by decide +kernel
theorem dL_law_389 : decode cL_law 389 = .ok (.iconst 1, 1) := by decide +kernel
theorem dL_law_390 : decode cL_law 390 = .ok (.iload 6, 2) := by decide +kernel
theorem dL_law_392 : decode cL_law 392 = .ok (.bipush 7, 2) := by decide +kernel
theorem dL_law_394 : decode cL_law 394 = .ok (.iand, 1) := by decide +kernel
theorem dL_law_395 : decode cL_law 395 = .ok (.iadd, 1) := by decide +kernel
theorem dL_law_396 : decode cL_law 396 = .ok (.istore 7, 2) := by decide +kernel
theorem dL_law_398 : decode cL_law 398 = .ok (.iconst 2, 1) := by decide +kernel
theorem dL_law_399 : decode cL_law 399 = .ok (.iload 6, 2) := by decide +kernel
theorem dL_law_401 : decode cL_law 401 = .ok (.iconst 3, 1) := by decide +kernel
theorem dL_law_402 : decode cL_law 402 = .ok (.ishr, 1) := by decide +kernel
theorem dL_law_403 : decode cL_law 403 = .ok (.bipush 15, 2) := by decide +kernel
theorem dL_law_405 : decode cL_law 405 = .ok (.iand, 1) := by decide +kernel
theorem dL_law_406 : decode cL_law 406 = .ok (.bipush 10, 2) := by decide +kernel
theorem dL_law_408 : decode cL_law 408 = .ok (.irem, 1) := by decide +kernel
theorem dL_law_409 : decode cL_law 409 = .ok (.iadd, 1) := by decide +kernel
theorem dL_law_410 : decode cL_law 410 = .ok (.istore 8, 2) := by decide +kernel
theorem dL_law_412 : decode cL_law 412 = .ok (.new 18, 3) := by decide +kernel
theorem dL_law_415 : decode cL_law 415 = .ok (.dup, 1) := by decide +kernel
theorem dL_law_416 : decode cL_law 416 = .ok (.invokespecial 23, 3) := by decide +kernel
theorem dL_law_419 : decode cL_law 419 = .ok (.astore 9, 2) := by decide +kernel
theorem dL_law_421 : decode cL_law 421 = .ok (.aload 9, 2) := by decide +kernel
theorem dL_law_423 : decode cL_law 423 = .ok (.invokevirtual 218, 3) := by decide +kernel
theorem dL_law_426 : decode cL_law 426 = .ok (.ifCond .eq 92, 3) := by decide +kernel
theorem dL_law_429 : decode cL_law 429 = .ok (.aload 9, 2) := by decide +kernel
theorem dL_law_431 : decode cL_law 431 = .ok (.invokevirtual 222, 3) := by decide +kernel
theorem dL_law_434 : decode cL_law 434 = .ok (.ifCond .ne 84, 3) := by decide +kernel
theorem dL_law_437 : decode cL_law 437 = .ok (.aload 9, 2) := by decide +kernel
theorem dL_law_439 : decode cL_law 439 = .ok (.invokevirtual 225, 3) := by decide +kernel
theorem dL_law_442 : decode cL_law 442 = .ok (.ifCond .ne 76, 3) := by decide +kernel
theorem dL_law_445 : decode cL_law 445 = .ok (.aload 9, 2) := by decide +kernel
theorem dL_law_447 : decode cL_law 447 = .ok (.iconst 2, 1) := by decide +kernel
theorem dL_law_448 : decode cL_law 448 = .ok (.invokevirtual 228, 3) := by decide +kernel
theorem dL_law_451 : decode cL_law 451 = .ok (.ifCond .ne 67, 3) := by decide +kernel
theorem dL_law_454 : decode cL_law 454 = .ok (.aload 9, 2) := by decide +kernel
theorem dL_law_456 : decode cL_law 456 = .ok (.iconst 3, 1) := by decide +kernel
theorem dL_law_457 : decode cL_law 457 = .ok (.invokevirtual 231, 3) := by decide +kernel
theorem dL_law_460 : decode cL_law 460 = .ok (.iconst 3, 1) := by decide +kernel
theorem dL_law_461 : decode cL_law 461 = .ok (.if_icmp .ne 57, 3) := by decide +kernel
theorem dL_law_464 : decode cL_law 464 = .ok (.aload 9, 2) := by decide +kernel
theorem dL_law_466 : decode cL_law 466 = .ok (.iconst 0, 1) := by decide +kernel
theorem dL_law_467 : decode cL_law 467 = .ok (.invokevirtual 137, 3) := by decide +kernel
theorem dL_law_470 : decode cL_law 470 = .ok (.bipush 30, 2) := by decide +kernel
theorem dL_law_472 : decode cL_law 472 = .ok (.if_icmp .ne 46, 3) := by decide +kernel
theorem dL_law_475 : decode cL_law 475 = .ok (.aload 9, 2) := by decide +kernel
theorem dL_law_477 : decode cL_law 477 = .ok (.bipush 6, 2) := by decide +kernel
theorem dL_law_479 : decode cL_law 479 = .ok (.iconst 0, 1) := by decide +kernel
theorem dL_law_480 : decode cL_law 480 = .ok (.iconst 0, 1) := by decide +kernel
theorem dL_law_481 : decode cL_law 481 = .ok (.iconst 0, 1) := by decide +kernel
theorem dL_law_482 : decode cL_law 482 = .ok (.invokestatic 30, 3) := by decide +kernel
theorem dL_law_485 : decode cL_law 485 = .ok (.bipush (-2), 2) := by decide +kernel
theorem dL_law_487 : decode cL_law 487 = .ok (.if_icmp .ne 31, 3) := by decide +kernel
theorem dL_law_490 : decode cL_law 490 = .ok (.aload 9, 2) := by decide +kernel
theorem dL_law_492 : decode cL_law 492 = .ok (.bipush 6, 2) := by decide +kernel
theorem dL_law_494 : decode cL_law 494 = .ok (.iconst 0, 1) := by decide +kernel
theorem dL_law_495 : decode cL_law 495 = .ok (.iconst 1, 1) := by decide +kernel
theorem dL_law_496 : decode cL_law 496 = .ok (.iconst 0, 1) := by decide +kernel
theorem dL_law_497 : decode cL_law 497 = .ok (.invokestatic 30, 3) := by decide +kernel
theorem dL_law_500 : decode cL_law 500 = .ok (.bipush (-5), 2) := by decide +kernel
theorem dL_law_502 : decode cL_law 502 = .ok (.if_icmp .ne 16, 3) := by decide +kernel
theorem dL_law_505 : decode cL_law 505 = .ok (.aload 9, 2) := by decide +kernel
theorem dL_law_507 : decode cL_law 507 = .ok (.iconst 4, 1) := by decide +kernel
theorem dL_law_508 : decode cL_law 508 = .ok (.iconst 0, 1) := by decide +kernel
theorem dL_law_509 : decode cL_law 509 = .ok (.iconst 0, 1) := by decide +kernel
theorem dL_law_510 : decode cL_law 510 = .ok (.iconst 0, 1) := by decide +kernel
theorem dL_law_511 : decode cL_law 511 = .ok (.invokestatic 30, 3) := by decide +kernel
theorem dL_law_514 : decode cL_law 514 = .ok (.iconst (-1), 1) := by decide +kernel
theorem dL_law_515 : decode cL_law 515 = .ok (.if_icmp .eq 5, 3) := by decide +kernel
theorem dL_law_518 : decode cL_law 518 = .ok (.iconst 0, 1) := by decide +kernel
theorem dL_law_519 : decode cL_law 519 = .ok (.ireturn, 1) := by decide +kernel
theorem dL_law_520 : decode cL_law 520 = .ok (.aload 9, 2) := by decide +kernel
theorem dL_law_522 : decode cL_law 522 = .ok (.new 155, 3) := by decide +kernel
theorem dL_law_525 : decode cL_law 525 = .ok (.dup, 1) := by decide +kernel
theorem dL_law_526 : decode cL_law 526 = .ok (.invokespecial 157, 3) := by decide +kernel
theorem dL_law_529 : decode cL_law 529 = .ok (.ldc 234, 2) := by decide +kernel
theorem dL_law_531 : decode cL_law 531 = .ok (.invokevirtual 160, 3) := by decide +kernel
theorem dL_law_534 : decode cL_law 534 = .ok (.iload 7, 2) := by decide +kernel
theorem dL_law_536 : decode cL_law 536 = .ok (.invokevirtual 164, 3) := by decide +kernel
theorem dL_law_539 : decode cL_law 539 = .ok (.ldc 236, 2) := by decide +kernel
theorem dL_law_541 : decode cL_law 541 = .ok (.invokevirtual 160, 3) := by decide +kernel
theorem dL_law_544 : decode cL_law 544 = .ok (.invokevirtual 169, 3) := by decide +kernel
theorem dL_law_547 : decode cL_law 547 = .ok (.invokestatic 173, 3) := by decide +kernel
theorem dL_law_550 : decode cL_law 550 = .ok (.aload 9, 2) := by decide +kernel
theorem dL_law_552 : decode cL_law 552 = .ok (.invokevirtual 176, 3) := by decide +kernel
theorem dL_law_555 : decode cL_law 555 = .ok (.iconst 5, 1) := by decide +kernel
theorem dL_law_556 : decode cL_law 556 = .ok (.if_icmp .ne 170, 3) := by decide +kernel
theorem dL_law_559 : decode cL_law 559 = .ok (.aload 9, 2) := by decide +kernel
theorem dL_law_561 : decode cL_law 561 = .ok (.iload 8, 2) := by decide +kernel
theorem dL_law_563 : decode cL_law 563 = .ok (.iconst 2, 1) := by decide +kernel
theorem dL_law_564 : decode cL_law 564 = .ok (.iconst 2, 1) := by decide +kernel
theorem dL_law_565 : decode cL_law 565 = .ok (.invokevirtual 47, 3) := by decide +kernel
theorem dL_law_568 : decode cL_law 568 = .ok (.ifCond .ne 158, 3) := by decide +kernel
theorem dL_law_571 : decode cL_law 571 = .ok (.aload 9, 2) := by decide +kernel
theorem dL_law_573 : decode cL_law 573 = .ok (.bipush 20, 2) := by decide +kernel
theorem dL_law_575 : decode cL_law 575 = .ok (.iconst 0, 1) := by decide +kernel
theorem dL_law_576 : decode cL_law 576 = .ok (.iconst 1, 1) := by decide +kernel
theorem dL_law_577 : decode cL_law 577 = .ok (.invokevirtual 47, 3) := by decide +kernel
theorem dL_law_580 : decode cL_law 580 = .ok (.iconst 1, 1) := by decide +kernel
theorem dL_law_581 : decode cL_law 581 = .ok (.if_icmp .ne 145, 3) := by decide +kernel
theorem dL_law_584 : decode cL_law 584 = .ok (.aload 9, 2) := by decide +kernel
theorem dL_law_586 : decode cL_law 586 = .ok (.bipush 15, 2) := by decide +kernel
theorem dL_law_588 : decode cL_law 588 = .ok (.iconst 3, 1) := by decide +kernel
theorem dL_law_589 : decode cL_law 589 = .ok (.iconst 2, 1) := by decide +kernel
theorem dL_law_590 : decode cL_law 590 = .ok (.invokevirtual 47, 3) := by decide +kernel
theorem dL_law_593 : decode cL_law 593 = .ok (.iconst 2, 1) := by decide +kernel
theorem dL_law_594 : decode cL_law 594 = .ok (.if_icmp .ne 132, 3) := by decide +kernel
theorem dL_law_597 : decode cL_law 597 = .ok (.aload 9, 2) := by decide +kernel
theorem dL_law_599 : decode cL_law 599 = .ok (.iconst 0, 1) := by decide +kernel
theorem dL_law_600 : decode cL_law 600 = .ok (.iconst 2, 1) := by decide +kernel
theorem dL_law_601 : decode cL_law 601 = .ok (.invokevirtual 69, 3) := by decide +kernel
theorem dL_law_604 : decode cL_law 604 = .ok (.iload 7, 2) := by decide +kernel
theorem dL_law_606 : decode cL_law 606 = .ok (.iconst 3, 1) := by decide +kernel
theorem dL_law_607 : decode cL_law 607 = .ok (.iadd, 1) := by decide +kernel
theorem dL_law_608 : decode cL_law 608 = .ok (.if_icmp .ne 118, 3) := by decide +kernel
theorem dL_law_611 : decode cL_law 611 = .ok (.aload 9, 2) := by decide +kernel
theorem dL_law_613 : decode cL_law 613 = .ok (.iconst 2, 1) := by decide +kernel
theorem dL_law_614 : decode cL_law 614 = .ok (.iconst 0, 1) := by decide +kernel
theorem dL_law_615 : decode cL_law 615 = .ok (.invokevirtual 72, 3) := by decide +kernel
theorem dL_law_618 : decode cL_law 618 = .ok (.iload 7, 2) := by decide +kernel
theorem dL_law_620 : decode cL_law 620 = .ok (.iconst 3, 1) := by decide +kernel
theorem dL_law_621 : decode cL_law 621 = .ok (.iadd, 1) := by decide +kernel
theorem dL_law_622 : decode cL_law 622 = .ok (.if_icmp .ne 104, 3) := by decide +kernel
theorem dL_law_625 : decode cL_law 625 = .ok (.aload 9, 2) := by decide +kernel
theorem dL_law_627 : decode cL_law 627 = .ok (.iconst 0, 1) := by decide +kernel
theorem dL_law_628 : decode cL_law 628 = .ok (.invokevirtual 231, 3) := by decide +kernel
theorem dL_law_631 : decode cL_law 631 = .ok (.iconst 2, 1) := by decide +kernel
theorem dL_law_632 : decode cL_law 632 = .ok (.if_icmp .ne 94, 3) := by decide +kernel
theorem dL_law_635 : decode cL_law 635 = .ok (.aload 9, 2) := by decide +kernel
theorem dL_law_637 : decode cL_law 637 = .ok (.iconst 0, 1) := by decide +kernel
theorem dL_law_638 : decode cL_law 638 = .ok (.invokevirtual 75, 3) := by decide +kernel
theorem dL_law_641 : decode cL_law 641 = .ok (.ifCond .ne 85, 3) := by decide +kernel
theorem dL_law_644 : decode cL_law 644 = .ok (.aload 9, 2) := by decide +kernel
theorem dL_law_646 : decode cL_law 646 = .ok (.iconst 2, 1) := by decide +kernel
theorem dL_law_647 : decode cL_law 647 = .ok (.invokevirtual 75, 3) := by decide +kernel
theorem dL_law_650 : decode cL_law 650 = .ok (.iconst 1, 1) := by decide +kernel
theorem dL_law_651 : decode cL_law 651 = .ok (.if_icmp .ne 75, 3) := by decide +kernel
theorem dL_law_654 : decode cL_law 654 = .ok (.aload 9, 2) := by decide +kernel
theorem dL_law_656 : decode cL_law 656 = .ok (.bipush 10, 2) := by decide +kernel
theorem dL_law_658 : decode cL_law 658 = .ok (.iconst 1, 1) := by decide +kernel
theorem dL_law_659 : decode cL_law 659 = .ok (.iconst 0, 1) := by decide +kernel
theorem dL_law_660 : decode cL_law 660 = .ok (.iconst 0, 1) := by decide +kernel
theorem dL_law_661 : decode cL_law 661 = .ok (.invokestatic 30, 3) := by decide +kernel
theorem dL_law_664 : decode cL_law 664 = .ok (.bipush (-4), 2) := by decide +kernel
theorem dL_law_666 : decode cL_law 666 = .ok (.if_icmp .ne 60, 3) := by decide +kernel
theorem dL_law_669 : decode cL_law 669 = .ok (.aload 9, 2) := by decide +kernel
theorem dL_law_671 : decode cL_law 671 = .ok (.invokevirtual 225, 3) := by decide +kernel
theorem dL_law_674 : decode cL_law 674 = .ok (.iconst 3, 1) := by decide +kernel
theorem dL_law_675 : decode cL_law 675 = .ok (.if_icmp .ne 51, 3) := by decide +kernel
theorem dL_law_678 : decode cL_law 678 = .ok (.aload 9, 2) := by decide +kernel
theorem dL_law_680 : decode cL_law 680 = .ok (.invokevirtual 238, 3) := by decide +kernel
theorem dL_law_683 : decode cL_law 683 = .ok (.iconst 3, 1) := by decide +kernel
theorem dL_law_684 : decode cL_law 684 = .ok (.if_icmp .ne 42, 3) := by decide +kernel
theorem dL_law_687 : decode cL_law 687 = .ok (.aload 9, 2) := by decide +kernel
theorem dL_law_689 : decode cL_law 689 = .ok (.iconst 0, 1) := by decide +kernel
theorem dL_law_690 : decode cL_law 690 = .ok (.invokevirtual 228, 3) := by decide +kernel
theorem dL_law_693 : decode cL_law 693 = .ok (.iload 8, 2) := by decide +kernel
theorem dL_law_695 : decode cL_law 695 = .ok (.bipush 15, 2) := by decide +kernel
theorem dL_law_697 : decode cL_law 697 = .ok (.iadd, 1) := by decide +kernel
theorem dL_law_698 : decode cL_law 698 = .ok (.bipush 30, 2) := by decide +kernel
theorem dL_law_700 : decode cL_law 700 = .ok (.if_icmp .gt 7, 3) := by decide +kernel
theorem dL_law_703 : decode cL_law 703 = .ok (.iconst 2, 1) := by decide +kernel
theorem dL_law_704 : decode cL_law 704 = .ok (.goto 4, 3) := by decide +kernel
theorem dL_law_707 : decode cL_law 707 = .ok (.iconst 1, 1) := by decide +kernel
theorem dL_law_708 : decode cL_law 708 = .ok (.if_icmp .ne 18, 3) := by decide +kernel
theorem dL_law_711 : decode cL_law 711 = .ok (.aload 9, 2) := by decide +kernel
theorem dL_law_713 : decode cL_law 713 = .ok (.iconst 0, 1) := by decide +kernel
theorem dL_law_714 : decode cL_law 714 = .ok (.invokevirtual 241, 3) := by decide +kernel
theorem dL_law_717 : decode cL_law 717 = .ok (.aload 9, 2) := by decide +kernel
theorem dL_law_719 : decode cL_law 719 = .ok (.iconst 0, 1) := by decide +kernel
theorem dL_law_720 : decode cL_law 720 = .ok (.invokevirtual 228, 3) := by decide +kernel
theorem dL_law_723 : decode cL_law 723 = .ok (.if_icmp .eq 5, 3) := by decide +kernel
theorem dL_law_726 : decode cL_law 726 = .ok (.iconst 0, 1) := by decide +kernel
theorem dL_law_727 : decode cL_law 727 = .ok (.ireturn, 1) := by decide +kernel
theorem dL_law_728 : decode cL_law 728 = .ok (.aload 9, 2) := by decide +kernel
theorem dL_law_730 : decode cL_law 730 = .ok (.iconst 0, 1) := by decide +kernel
theorem dL_law_731 : decode cL_law 731 = .ok (.iconst 0, 1) := by decide +kernel
theorem dL_law_732 : decode cL_law 732 = .ok (.invokevirtual 57, 3) := by decide +kernel
theorem dL_law_735 : decode cL_law 735 = .ok (.iload 8, 2) := by decide +kernel
theorem dL_law_737 : decode cL_law 737 = .ok (.if_icmp .ne 51, 3) := by decide +kernel
theorem dL_law_740 : decode cL_law 740 = .ok (.aload 9, 2) := by decide +kernel
theorem dL_law_742 : decode cL_law 742 = .ok (.iconst 0, 1) := by decide +kernel
theorem dL_law_743 : decode cL_law 743 = .ok (.invokevirtual 131, 3) := by decide +kernel
theorem dL_law_746 : decode cL_law 746 = .ok (.iconst 2, 1) := by decide +kernel
theorem dL_law_747 : decode cL_law 747 = .ok (.if_icmp .ne 41, 3) := by decide +kernel
theorem dL_law_750 : decode cL_law 750 = .ok (.aload 9, 2) := by decide +kernel
theorem dL_law_752 : decode cL_law 752 = .ok (.iconst 0, 1) := by decide +kernel
theorem dL_law_753 : decode cL_law 753 = .ok (.bipush 31, 2) := by decide +kernel
theorem dL_law_755 : decode cL_law 755 = .ok (.invokevirtual 54, 3) := by decide +kernel
theorem dL_law_758 : decode cL_law 758 = .ok (.bipush 30, 2) := by decide +kernel
theorem dL_law_760 : decode cL_law 760 = .ok (.if_icmp .ne 28, 3) := by decide +kernel
theorem dL_law_763 : decode cL_law 763 = .ok (.aload 9, 2) := by decide +kernel
theorem dL_law_765 : decode cL_law 765 = .ok (.iconst 1, 1) := by decide +kernel
theorem dL_law_766 : decode cL_law 766 = .ok (.iconst 0, 1) := by decide +kernel
theorem dL_law_767 : decode cL_law 767 = .ok (.invokevirtual 57, 3) := by decide +kernel
theorem dL_law_770 : decode cL_law 770 = .ok (.iload 8, 2) := by decide +kernel
theorem dL_law_772 : decode cL_law 772 = .ok (.bipush 20, 2) := by decide +kernel
theorem dL_law_774 : decode cL_law 774 = .ok (.iadd, 1) := by decide +kernel
theorem dL_law_775 : decode cL_law 775 = .ok (.if_icmp .ne 13, 3) := by decide +kernel
theorem dL_law_778 : decode cL_law 778 = .ok (.aload 9, 2) := by decide +kernel
theorem dL_law_780 : decode cL_law 780 = .ok (.iconst 0, 1) := by decide +kernel
theorem dL_law_781 : decode cL_law 781 = .ok (.invokevirtual 131, 3) := by decide +kernel
theorem dL_law_784 : decode cL_law 784 = .ok (.iconst 2, 1) := by decide +kernel
theorem dL_law_785 : decode cL_law 785 = .ok (.if_icmp .eq 5, 3) := by decide +kernel
theorem dL_law_788 : decode cL_law 788 = .ok (.iconst 0, 1) := by decide +kernel
theorem dL_law_789 : decode cL_law 789 = .ok (.ireturn, 1) := by decide +kernel
theorem dL_law_790 : decode cL_law 790 = .ok (.aload 9, 2) := by decide +kernel
theorem dL_law_792 : decode cL_law 792 = .ok (.iconst 0, 1) := by decide +kernel
theorem dL_law_793 : decode cL_law 793 = .ok (.invokevirtual 244, 3) := by decide +kernel
theorem dL_law_796 : decode cL_law 796 = .ok (.iload 8, 2) := by decide +kernel
theorem dL_law_798 : decode cL_law 798 = .ok (.bipush 20, 2) := by decide +kernel
theorem dL_law_800 : decode cL_law 800 = .ok (.iadd, 1) := by decide +kernel
theorem dL_law_801 : decode cL_law 801 = .ok (.if_icmp .ne 173, 3) := by decide +kernel
theorem dL_law_804 : decode cL_law 804 = .ok (.aload 9, 2) := by decide +kernel
theorem dL_law_806 : decode cL_law 806 = .ok (.iconst 4, 1) := by decide +kernel
theorem dL_law_807 : decode cL_law 807 = .ok (.iconst 2, 1) := by decide +kernel
theorem dL_law_808 : decode cL_law 808 = .ok (.iconst 0, 1) := by decide +kernel
theorem dL_law_809 : decode cL_law 809 = .ok (.iconst 0, 1) := by decide +kernel
theorem dL_law_810 : decode cL_law 810 = .ok (.invokestatic 30, 3) := by decide +kernel
theorem dL_law_813 : decode cL_law 813 = .ok (.bipush (-4), 2) := by decide +kernel
theorem dL_law_815 : decode cL_law 815 = .ok (.if_icmp .ne 159, 3) := by decide +kernel
theorem dL_law_818 : decode cL_law 818 = .ok (.aload 9, 2) := by decide +kernel
theorem dL_law_820 : decode cL_law 820 = .ok (.iconst 2, 1) := by decide +kernel
theorem dL_law_821 : decode cL_law 821 = .ok (.iconst 1, 1) := by decide +kernel
theorem dL_law_822 : decode cL_law 822 = .ok (.invokevirtual 57, 3) := by decide +kernel
theorem dL_law_825 : decode cL_law 825 = .ok (.bipush 15, 2) := by decide +kernel
theorem dL_law_827 : decode cL_law 827 = .ok (.if_icmp .ne 147, 3) := by decide +kernel
theorem dL_law_830 : decode cL_law 830 = .ok (.aload 9, 2) := by decide +kernel
theorem dL_law_832 : decode cL_law 832 = .ok (.iconst 1, 1) := by decide +kernel
theorem dL_law_833 : decode cL_law 833 = .ok (.invokevirtual 131, 3) := by decide +kernel
theorem dL_law_836 : decode cL_law 836 = .ok (.iconst 2, 1) := by decide +kernel
theorem dL_law_837 : decode cL_law 837 = .ok (.if_icmp .ne 137, 3) := by decide +kernel
theorem dL_law_840 : decode cL_law 840 = .ok (.aload 9, 2) := by decide +kernel
theorem dL_law_842 : decode cL_law 842 = .ok (.iconst 0, 1) := by decide +kernel
theorem dL_law_843 : decode cL_law 843 = .ok (.iconst 2, 1) := by decide +kernel
theorem dL_law_844 : decode cL_law 844 = .ok (.invokevirtual 78, 3) := by decide +kernel
theorem dL_law_847 : decode cL_law 847 = .ok (.iload 7, 2) := by decide +kernel
theorem dL_law_849 : decode cL_law 849 = .ok (.iconst 3, 1) := by decide +kernel
theorem dL_law_850 : decode cL_law 850 = .ok (.iadd, 1) := by decide +kernel
theorem dL_law_851 : decode cL_law 851 = .ok (.iload 8, 2) := by decide +kernel
theorem dL_law_853 : decode cL_law 853 = .ok (.bipush 20, 2) := by decide +kernel
theorem dL_law_855 : decode cL_law 855 = .ok (.iadd, 1) := by decide +kernel
theorem dL_law_856 : decode cL_law 856 = .ok (.imul, 1) := by decide +kernel
theorem dL_law_857 : decode cL_law 857 = .ok (.if_icmp .ne 117, 3) := by decide +kernel
theorem dL_law_860 : decode cL_law 860 = .ok (.aload 9, 2) := by decide +kernel
theorem dL_law_862 : decode cL_law 862 = .ok (.iconst 0, 1) := by decide +kernel
theorem dL_law_863 : decode cL_law 863 = .ok (.iconst 1, 1) := by decide +kernel
theorem dL_law_864 : decode cL_law 864 = .ok (.invokevirtual 63, 3) := by decide +kernel
theorem dL_law_867 : decode cL_law 867 = .ok (.iconst 1, 1) := by decide +kernel
theorem dL_law_868 : decode cL_law 868 = .ok (.if_icmp .ne 106, 3) := by decide +kernel
theorem dL_law_871 : decode cL_law 871 = .ok (.aload 9, 2) := by decide +kernel
theorem dL_law_873 : decode cL_law 873 = .ok (.iconst 1, 1) := by decide +kernel
theorem dL_law_874 : decode cL_law 874 = .ok (.invokevirtual 94, 3) := by decide +kernel
theorem dL_law_877 : decode cL_law 877 = .ok (.bipush 100, 2) := by decide +kernel
theorem dL_law_879 : decode cL_law 879 = .ok (.if_icmp .ne 95, 3) := by decide +kernel
theorem dL_law_882 : decode cL_law 882 = .ok (.aload 9, 2) := by decide +kernel
theorem dL_law_884 : decode cL_law 884 = .ok (.invokevirtual 100, 3) := by decide +kernel
theorem dL_law_887 : decode cL_law 887 = .ok (.iload 7, 2) := by decide +kernel
theorem dL_law_889 : decode cL_law 889 = .ok (.iload 8, 2) := by decide +kernel
theorem dL_law_891 : decode cL_law 891 = .ok (.bipush 20, 2) := by decide +kernel
theorem dL_law_893 : decode cL_law 893 = .ok (.iadd, 1) := by decide +kernel
theorem dL_law_894 : decode cL_law 894 = .ok (.imul, 1) := by decide +kernel
theorem dL_law_895 : decode cL_law 895 = .ok (.if_icmp .ne 79, 3) := by decide +kernel
theorem dL_law_898 : decode cL_law 898 = .ok (.aload 9, 2) := by decide +kernel
theorem dL_law_900 : decode cL_law 900 = .ok (.iconst 0, 1) := by decide +kernel
theorem dL_law_901 : decode cL_law 901 = .ok (.invokevirtual 244, 3) := by decide +kernel
theorem dL_law_904 : decode cL_law 904 = .ok (.iload 8, 2) := by decide +kernel
theorem dL_law_906 : decode cL_law 906 = .ok (.if_icmp .ne 68, 3) := by decide +kernel
theorem dL_law_909 : decode cL_law 909 = .ok (.aload 9, 2) := by decide +kernel
theorem dL_law_911 : decode cL_law 911 = .ok (.iconst 0, 1) := by decide +kernel
theorem dL_law_912 : decode cL_law 912 = .ok (.iconst 2, 1) := by decide +kernel
theorem dL_law_913 : decode cL_law 913 = .ok (.invokevirtual 63, 3) := by decide +kernel
theorem dL_law_916 : decode cL_law 916 = .ok (.iconst 1, 1) := by decide +kernel
theorem dL_law_917 : decode cL_law 917 = .ok (.if_icmp .ne 57, 3) := by decide +kernel
theorem dL_law_920 : decode cL_law 920 = .ok (.aload 9, 2) := by decide +kernel
theorem dL_law_922 : decode cL_law 922 = .ok (.invokevirtual 100, 3) := by decide +kernel
theorem dL_law_925 : decode cL_law 925 = .ok (.iload 7, 2) := by decide +kernel
theorem dL_law_927 : decode cL_law 927 = .ok (.iload 8, 2) := by decide +kernel
theorem dL_law_929 : decode cL_law 929 = .ok (.bipush 20, 2) := by decide +kernel
theorem dL_law_931 : decode cL_law 931 = .ok (.iadd, 1) := by decide +kernel
theorem dL_law_932 : decode cL_law 932 = .ok (.imul, 1) := by decide +kernel
theorem dL_law_933 : decode cL_law 933 = .ok (.iconst 3, 1) := by decide +kernel
theorem dL_law_934 : decode cL_law 934 = .ok (.iload 8, 2) := by decide +kernel
theorem dL_law_936 : decode cL_law 936 = .ok (.imul, 1) := by decide +kernel
theorem dL_law_937 : decode cL_law 937 = .ok (.iadd, 1) := by decide +kernel
theorem dL_law_938 : decode cL_law 938 = .ok (.if_icmp .ne 36, 3) := by decide +kernel
theorem dL_law_941 : decode cL_law 941 = .ok (.aload 9, 2) := by decide +kernel
theorem dL_law_943 : decode cL_law 943 = .ok (.iconst 0, 1) := by decide +kernel
theorem dL_law_944 : decode cL_law 944 = .ok (.invokevirtual 134, 3) := by decide +kernel
theorem dL_law_947 : decode cL_law 947 = .ok (.iconst 2, 1) := by decide +kernel
theorem dL_law_948 : decode cL_law 948 = .ok (.if_icmp .ne 26, 3) := by decide +kernel
theorem dL_law_951 : decode cL_law 951 = .ok (.aload 9, 2) := by decide +kernel
theorem dL_law_953 : decode cL_law 953 = .ok (.iconst 5, 1) := by decide +kernel
theorem dL_law_954 : decode cL_law 954 = .ok (.iconst 0, 1) := by decide +kernel
theorem dL_law_955 : decode cL_law 955 = .ok (.iconst 0, 1) := by decide +kernel
theorem dL_law_956 : decode cL_law 956 = .ok (.iconst 0, 1) := by decide +kernel
theorem dL_law_957 : decode cL_law 957 = .ok (.invokestatic 30, 3) := by decide +kernel
theorem dL_law_960 : decode cL_law 960 = .ok (.bipush (-3), 2) := by decide +kernel
theorem dL_law_962 : decode cL_law 962 = .ok (.if_icmp .ne 12, 3) := by decide +kernel
theorem dL_law_965 : decode cL_law 965 = .ok (.aload 9, 2) := by decide +kernel
theorem dL_law_967 : decode cL_law 967 = .ok (.invokevirtual 247, 3) := by decide +kernel
theorem dL_law_970 : decode cL_law 970 = .ok (.iconst 2, 1) := by decide +kernel
theorem dL_law_971 : decode cL_law 971 = .ok (.if_icmp .eq 5, 3) := by decide +kernel
theorem dL_law_974 : decode cL_law 974 = .ok (.iconst 0, 1) := by decide +kernel
theorem dL_law_975 : decode cL_law 975 = .ok (.ireturn, 1) := by decide +kernel
theorem dL_law_976 : decode cL_law 976 = .ok (.aload 9, 2) := by decide +kernel
theorem dL_law_978 : decode cL_law 978 = .ok (.iconst 0, 1) := by decide +kernel
theorem dL_law_979 : decode cL_law 979 = .ok (.invokevirtual 66, 3) := by decide +kernel
theorem dL_law_982 : decode cL_law 982 = .ok (.iconst 3, 1) := by decide +kernel
theorem dL_law_983 : decode cL_law 983 = .ok (.if_icmp .ne 171, 3) := by decide +kernel
theorem dL_law_986 : decode cL_law 986 = .ok (.aload 9, 2) := by decide +kernel
theorem dL_law_988 : decode cL_law 988 = .ok (.iconst 1, 1) := by decide +kernel
theorem dL_law_989 : decode cL_law 989 = .ok (.invokevirtual 66, 3) := by decide +kernel
theorem dL_law_992 : decode cL_law 992 = .ok (.iconst 1, 1) := by decide +kernel
theorem dL_law_993 : decode cL_law 993 = .ok (.if_icmp .ne 161, 3) := by decide +kernel
theorem dL_law_996 : decode cL_law 996 = .ok (.aload 9, 2) := by decide +kernel
theorem dL_law_998 : decode cL_law 998 = .ok (.bipush 7, 2) := by decide +kernel
theorem dL_law_1000 : decode cL_law 1000 = .ok (.iconst 1, 1) := by decide +kernel
theorem dL_law_1001 : decode cL_law 1001 = .ok (.iconst 0, 1) := by decide +kernel
theorem dL_law_1002 : decode cL_law 1002 = .ok (.iconst 0, 1) := by decide +kernel
theorem dL_law_1003 : decode cL_law 1003 = .ok (.invokestatic 30, 3) := by decide +kernel
theorem dL_law_1006 : decode cL_law 1006 = .ok (.bipush (-3), 2) := by decide +kernel
theorem dL_law_1008 : decode cL_law 1008 = .ok (.if_icmp .ne 146, 3) := by decide +kernel
theorem dL_law_1011 : decode cL_law 1011 = .ok (.aload 9, 2) := by decide +kernel
theorem dL_law_1013 : decode cL_law 1013 = .ok (.iconst 1, 1) := by decide +kernel
theorem dL_law_1014 : decode cL_law 1014 = .ok (.invokevirtual 122, 3) := by decide +kernel
theorem dL_law_1017 : decode cL_law 1017 = .ok (.iconst 1, 1) := by decide +kernel
theorem dL_law_1018 : decode cL_law 1018 = .ok (.if_icmp .ne 136, 3) := by decide +kernel
theorem dL_law_1021 : decode cL_law 1021 = .ok (.aload 9, 2) := by decide +kernel
theorem dL_law_1023 : decode cL_law 1023 = .ok (.iconst 0, 1) := by decide +kernel
theorem dL_law_1024 : decode cL_law 1024 = .ok (.invokevirtual 75, 3) := by decide +kernel
theorem dL_law_1027 : decode cL_law 1027 = .ok (.iconst 1, 1) := by decide +kernel
theorem dL_law_1028 : decode cL_law 1028 = .ok (.if_icmp .ne 126, 3) := by decide +kernel
theorem dL_law_1031 : decode cL_law 1031 = .ok (.aload 9, 2) := by decide +kernel
theorem dL_law_1033 : decode cL_law 1033 = .ok (.iconst 1, 1) := by decide +kernel
theorem dL_law_1034 : decode cL_law 1034 = .ok (.invokevirtual 75, 3) := by decide +kernel
theorem dL_law_1037 : decode cL_law 1037 = .ok (.ifCond .ne 117, 3) := by decide +kernel
theorem dL_law_1040 : decode cL_law 1040 = .ok (.aload 9, 2) := by decide +kernel
theorem dL_law_1042 : decode cL_law 1042 = .ok (.iconst 2, 1) := by decide +kernel
theorem dL_law_1043 : decode cL_law 1043 = .ok (.invokevirtual 60, 3) := by decide +kernel
theorem dL_law_1046 : decode cL_law 1046 = .ok (.iconst 1, 1) := by decide +kernel
theorem dL_law_1047 : decode cL_law 1047 = .ok (.if_icmp .ne 107, 3) := by decide +kernel
theorem dL_law_1050 : decode cL_law 1050 = .ok (.aload 9, 2) := by decide +kernel
theorem dL_law_1052 : decode cL_law 1052 = .ok (.iconst 1, 1) := by decide +kernel
theorem dL_law_1053 : decode cL_law 1053 = .ok (.invokevirtual 131, 3) := by decide +kernel
theorem dL_law_1056 : decode cL_law 1056 = .ok (.iconst 1, 1) := by decide +kernel
theorem dL_law_1057 : decode cL_law 1057 = .ok (.if_icmp .ne 97, 3) := by decide +kernel
theorem dL_law_1060 : decode cL_law 1060 = .ok (.aload 9, 2) := by decide +kernel
theorem dL_law_1062 : decode cL_law 1062 = .ok (.invokevirtual 225, 3) := by decide +kernel
theorem dL_law_1065 : decode cL_law 1065 = .ok (.iconst 2, 1) := by decide +kernel
theorem dL_law_1066 : decode cL_law 1066 = .ok (.if_icmp .ne 88, 3) := by decide +kernel
theorem dL_law_1069 : decode cL_law 1069 = .ok (.aload 9, 2) := by decide +kernel
theorem dL_law_1071 : decode cL_law 1071 = .ok (.iconst 2, 1) := by decide +kernel
theorem dL_law_1072 : decode cL_law 1072 = .ok (.iconst 2, 1) := by decide +kernel
theorem dL_law_1073 : decode cL_law 1073 = .ok (.invokevirtual 57, 3) := by decide +kernel
theorem dL_law_1076 : decode cL_law 1076 = .ok (.bipush 15, 2) := by decide +kernel
theorem dL_law_1078 : decode cL_law 1078 = .ok (.if_icmp .ne 76, 3) := by decide +kernel
theorem dL_law_1081 : decode cL_law 1081 = .ok (.aload 9, 2) := by decide +kernel
theorem dL_law_1083 : decode cL_law 1083 = .ok (.invokevirtual 125, 3) := by decide +kernel
theorem dL_law_1086 : decode cL_law 1086 = .ok (.iconst 1, 1) := by decide +kernel
theorem dL_law_1087 : decode cL_law 1087 = .ok (.if_icmp .ne 67, 3) := by decide +kernel
theorem dL_law_1090 : decode cL_law 1090 = .ok (.aload 9, 2) := by decide +kernel
theorem dL_law_1092 : decode cL_law 1092 = .ok (.invokevirtual 103, 3) := by decide +kernel
theorem dL_law_1095 : decode cL_law 1095 = .ok (.iconst 1, 1) := by decide +kernel
theorem dL_law_1096 : decode cL_law 1096 = .ok (.if_icmp .ne 58, 3) := by decide +kernel
theorem dL_law_1099 : decode cL_law 1099 = .ok (.aload 9, 2) := by decide +kernel
theorem dL_law_1101 : decode cL_law 1101 = .ok (.iconst 0, 1) := by decide +kernel
theorem dL_law_1102 : decode cL_law 1102 = .ok (.invokevirtual 128, 3) := by decide +kernel
theorem dL_law_1105 : decode cL_law 1105 = .ok (.iconst 2, 1) := by decide +kernel
theorem dL_law_1106 : decode cL_law 1106 = .ok (.if_icmp .ne 48, 3) := by decide +kernel
theorem dL_law_1109 : decode cL_law 1109 = .ok (.aload 9, 2) := by decide +kernel
theorem dL_law_1111 : decode cL_law 1111 = .ok (.iconst 0, 1) := by decide +kernel
theorem dL_law_1112 : decode cL_law 1112 = .ok (.invokevirtual 250, 3) := by decide +kernel
theorem dL_law_1115 : decode cL_law 1115 = .ok (.ifCond .ne 39, 3) := by decide +kernel
theorem dL_law_1118 : decode cL_law 1118 = .ok (.aload 9, 2) := by decide +kernel
theorem dL_law_1120 : decode cL_law 1120 = .ok (.iconst 4, 1) := by decide +kernel
theorem dL_law_1121 : decode cL_law 1121 = .ok (.iconst 0, 1) := by decide +kernel
theorem dL_law_1122 : decode cL_law 1122 = .ok (.iconst 0, 1) := by decide +kernel
theorem dL_law_1123 : decode cL_law 1123 = .ok (.iconst 0, 1) := by decide +kernel
theorem dL_law_1124 : decode cL_law 1124 = .ok (.invokestatic 30, 3) := by decide +kernel
theorem dL_law_1127 : decode cL_law 1127 = .ok (.bipush (-5), 2) := by decide +kernel
theorem dL_law_1129 : decode cL_law 1129 = .ok (.if_icmp .ne 25, 3) := by decide +kernel
theorem dL_law_1132 : decode cL_law 1132 = .ok (.aload 9, 2) := by decide +kernel
theorem dL_law_1134 : decode cL_law 1134 = .ok (.iconst 1, 1) := by decide +kernel
theorem dL_law_1135 : decode cL_law 1135 = .ok (.iconst 0, 1) := by decide +kernel
theorem dL_law_1136 : decode cL_law 1136 = .ok (.invokevirtual 57, 3) := by decide +kernel
theorem dL_law_1139 : decode cL_law 1139 = .ok (.bipush 20, 2) := by decide +kernel
theorem dL_law_1141 : decode cL_law 1141 = .ok (.if_icmp .ne 13, 3) := by decide +kernel
theorem dL_law_1144 : decode cL_law 1144 = .ok (.aload 9, 2) := by decide +kernel
theorem dL_law_1146 : decode cL_law 1146 = .ok (.iconst 0, 1) := by decide +kernel
theorem dL_law_1147 : decode cL_law 1147 = .ok (.invokevirtual 131, 3) := by decide +kernel
theorem dL_law_1150 : decode cL_law 1150 = .ok (.iconst 1, 1) := by decide +kernel
theorem dL_law_1151 : decode cL_law 1151 = .ok (.if_icmp .eq 5, 3) := by decide +kernel
theorem dL_law_1154 : decode cL_law 1154 = .ok (.iconst 0, 1) := by decide +kernel
theorem dL_law_1155 : decode cL_law 1155 = .ok (.ireturn, 1) := by decide +kernel
theorem dL_law_1156 : decode cL_law 1156 = .ok (.aload 9, 2) := by decide +kernel
theorem dL_law_1158 : decode cL_law 1158 = .ok (.aload 9, 2) := by decide +kernel
theorem dL_law_1160 : decode cL_law 1160 = .ok (.iconst 0, 1) := by decide +kernel
theorem dL_law_1161 : decode cL_law 1161 = .ok (.invokevirtual 254, 3) := by decide +kernel
theorem dL_law_1164 : decode cL_law 1164 = .ok (.ldc_w 257, 3) := by decide +kernel
theorem dL_law_1167 : decode cL_law 1167 = .ok (.invokestatic 259, 3) := by decide +kernel
theorem dL_law_1170 : decode cL_law 1170 = .ok (.ifCond .eq 118, 3) := by decide +kernel
theorem dL_law_1173 : decode cL_law 1173 = .ok (.aload 9, 2) := by decide +kernel
theorem dL_law_1175 : decode cL_law 1175 = .ok (.iconst 0, 1) := by decide +kernel
theorem dL_law_1176 : decode cL_law 1176 = .ok (.invokevirtual 263, 3) := by decide +kernel
theorem dL_law_1179 : decode cL_law 1179 = .ok (.iconst 1, 1) := by decide +kernel
theorem dL_law_1180 : decode cL_law 1180 = .ok (.if_icmp .ne 108, 3) := by decide +kernel
theorem dL_law_1183 : decode cL_law 1183 = .ok (.aload 9, 2) := by decide +kernel
theorem dL_law_1185 : decode cL_law 1185 = .ok (.iconst 1, 1) := by decide +kernel
theorem dL_law_1186 : decode cL_law 1186 = .ok (.invokevirtual 263, 3) := by decide +kernel
theorem dL_law_1189 : decode cL_law 1189 = .ok (.iconst 2, 1) := by decide +kernel
theorem dL_law_1190 : decode cL_law 1190 = .ok (.if_icmp .ne 98, 3) := by decide +kernel
theorem dL_law_1193 : decode cL_law 1193 = .ok (.aload 9, 2) := by decide +kernel
theorem dL_law_1195 : decode cL_law 1195 = .ok (.iconst 2, 1) := by decide +kernel
theorem dL_law_1196 : decode cL_law 1196 = .ok (.invokevirtual 263, 3) := by decide +kernel
theorem dL_law_1199 : decode cL_law 1199 = .ok (.ifCond .ne 89, 3) := by decide +kernel
theorem dL_law_1202 : decode cL_law 1202 = .ok (.aload 9, 2) := by decide +kernel
theorem dL_law_1204 : decode cL_law 1204 = .ok (.invokevirtual 266, 3) := by decide +kernel
theorem dL_law_1207 : decode cL_law 1207 = .ok (.iconst 1, 1) := by decide +kernel
theorem dL_law_1208 : decode cL_law 1208 = .ok (.if_icmp .ne 80, 3) := by decide +kernel
theorem dL_law_1211 : decode cL_law 1211 = .ok (.aload 9, 2) := by decide +kernel
theorem dL_law_1213 : decode cL_law 1213 = .ok (.iconst 3, 1) := by decide +kernel
theorem dL_law_1214 : decode cL_law 1214 = .ok (.iconst 0, 1) := by decide +kernel
theorem dL_law_1215 : decode cL_law 1215 = .ok (.bipush 19, 2) := by decide +kernel
theorem dL_law_1217 : decode cL_law 1217 = .ok (.iconst 0, 1) := by decide +kernel
theorem dL_law_1218 : decode cL_law 1218 = .ok (.invokestatic 30, 3) := by decide +kernel
theorem dL_law_1221 : decode cL_law 1221 = .ok (.bipush (-3), 2) := by decide +kernel
theorem dL_law_1223 : decode cL_law 1223 = .ok (.if_icmp .ne 65, 3) := by decide +kernel
theorem dL_law_1226 : decode cL_law 1226 = .ok (.aload 9, 2) := by decide +kernel
theorem dL_law_1228 : decode cL_law 1228 = .ok (.iconst 0, 1) := by decide +kernel
theorem dL_law_1229 : decode cL_law 1229 = .ok (.bipush 20, 2) := by decide +kernel
theorem dL_law_1231 : decode cL_law 1231 = .ok (.invokevirtual 54, 3) := by decide +kernel
theorem dL_law_1234 : decode cL_law 1234 = .ok (.bipush 31, 2) := by decide +kernel
theorem dL_law_1236 : decode cL_law 1236 = .ok (.if_icmp .ne 52, 3) := by decide +kernel
theorem dL_law_1239 : decode cL_law 1239 = .ok (.aload 9, 2) := by decide +kernel
theorem dL_law_1241 : decode cL_law 1241 = .ok (.invokevirtual 269, 3) := by decide +kernel
theorem dL_law_1244 : decode cL_law 1244 = .ok (.ldc2_w 273, 3) := by decide +kernel
theorem dL_law_1247 : decode cL_law 1247 = .ok (.dcmp .l, 1) := by decide +kernel
theorem dL_law_1248 : decode cL_law 1248 = .ok (.ifCond .ne 40, 3) := by decide +kernel
theorem dL_law_1251 : decode cL_law 1251 = .ok (.aload 9, 2) := by decide +kernel
theorem dL_law_1253 : decode cL_law 1253 = .ok (.invokevirtual 275, 3) := by decide +kernel
theorem dL_law_1256 : decode cL_law 1256 = .ok (.fconst 0, 1) := by decide +kernel
theorem dL_law_1257 : decode cL_law 1257 = .ok (.fcmp .l, 1) := by decide +kernel
theorem dL_law_1258 : decode cL_law 1258 = .ok (.ifCond .ne 30, 3) := by decide +kernel
theorem dL_law_1261 : decode cL_law 1261 = .ok (.aload 9, 2) := by decide +kernel
theorem dL_law_1263 : decode cL_law 1263 = .ok (.invokevirtual 179, 3) := by decide +kernel
theorem dL_law_1266 : decode cL_law 1266 = .ok (.ifCond .lt 22, 3) := by decide +kernel
theorem dL_law_1269 : decode cL_law 1269 = .ok (.aload 9, 2) := by decide +kernel
theorem dL_law_1271 : decode cL_law 1271 = .ok (.iconst 0, 1) := by decide +kernel
theorem dL_law_1272 : decode cL_law 1272 = .ok (.invokevirtual 137, 3) := by decide +kernel
theorem dL_law_1275 : decode cL_law 1275 = .ok (.bipush 31, 2) := by decide +kernel
theorem dL_law_1277 : decode cL_law 1277 = .ok (.if_icmp .ne 11, 3) := by decide +kernel
theorem dL_law_1280 : decode cL_law 1280 = .ok (.aload 9, 2) := by decide +kernel
theorem dL_law_1282 : decode cL_law 1282 = .ok (.invokevirtual 218, 3) := by decide +kernel
theorem dL_law_1285 : decode cL_law 1285 = .ok (.ifCond .ne 5, 3) := by decide +kernel
theorem dL_law_1288 : decode cL_law 1288 = .ok (.iconst 0, 1) := by decide +kernel
theorem dL_law_1289 : decode cL_law 1289 = .ok (.ireturn, 1) := by decide +kernel
theorem dL_law_1290 : decode cL_law 1290 = .ok (.aload_n 1, 1) := by decide +kernel
theorem dL_law_1291 : decode cL_law 1291 = .ok (.invokevirtual 279, 3) := by decide +kernel
theorem dL_law_1294 : decode cL_law 1294 = .ok (.iload_n 3, 1) := by decide +kernel
theorem dL_law_1295 : decode cL_law 1295 = .ok (.if_icmp .ne 16, 3) := by decide +kernel
theorem dL_law_1298 : decode cL_law 1298 = .ok (.aload_n 1, 1) := by decide +kernel
theorem dL_law_1299 : decode cL_law 1299 = .ok (.invokestatic 152, 3) := by decide +kernel
theorem dL_law_1302 : decode cL_law 1302 = .ok (.iload 4, 2) := by decide +kernel
theorem dL_law_1304 : decode cL_law 1304 = .ok (.if_icmp .ne 7, 3) := by decide +kernel
theorem dL_law_1307 : decode cL_law 1307 = .ok (.iconst 1, 1) := by decide +kernel
theorem dL_law_1308 : decode cL_law 1308 = .ok (.goto 4, 3) := by decide +kernel
theorem dL_law_1311 : decode cL_law 1311 = .ok (.iconst 0, 1) := by decide +kernel
theorem dL_law_1312 : decode cL_law 1312 = .ok (.ireturn, 1) := by decide +kernel
theorem dL_isLine_0 : decode cL_isLine 0 = .ok (.iload_n 1, 1) := by decide +kernel
theorem dL_isLine_1 : decode cL_isLine 1 = .ok (.aload_n 2, 1) := by decide +kernel
theorem dL_isLine_2 : decode cL_isLine 2 = .ok (.invokevirtual 7, 3) := by decide +kernel
theorem dL_isLine_5 : decode cL_isLine 5 = .ok (.if_icmp .eq 5, 3) := by decide +kernel
theorem dL_isLine_8 : decode cL_isLine 8 = .ok (.iconst 0, 1) := by decide +kernel
theorem dL_isLine_9 : decode cL_isLine 9 = .ok (.ireturn, 1) := by decide +kernel
theorem dL_isLine_10 : decode cL_isLine 10 = .ok (.iconst 0, 1) := by decide +kernel
theorem dL_isLine_11 : decode cL_isLine 11 = .ok (.istore_n 3, 1) := by decide +kernel
theorem dL_isLine_12 : decode cL_isLine 12 = .ok (.iload_n 3, 1) := by decide +kernel
theorem dL_isLine_13 : decode cL_isLine 13 = .ok (.iload_n 1, 1) := by decide +kernel
theorem dL_isLine_14 : decode cL_isLine 14 = .ok (.if_icmp .ge 24, 3) := by decide +kernel
theorem dL_isLine_17 : decode cL_isLine 17 = .ok (.aload_n 0, 1) := by decide +kernel
theorem dL_isLine_18 : decode cL_isLine 18 = .ok (.iload_n 3, 1) := by decide +kernel
theorem dL_isLine_19 : decode cL_isLine 19 = .ok (.invokevirtual 282, 3) := by decide +kernel
theorem dL_isLine_22 : decode cL_isLine 22 = .ok (.aload_n 2, 1) := by decide +kernel
theorem dL_isLine_23 : decode cL_isLine 23 = .ok (.iload_n 3, 1) := by decide +kernel
theorem dL_isLine_24 : decode cL_isLine 24 = .ok (.invokevirtual 13, 3) := by decide +kernel
theorem dL_isLine_27 : decode cL_isLine 27 = .ok (.if_icmp .eq 5, 3) := by decide +kernel
theorem dL_isLine_30 : decode cL_isLine 30 = .ok (.iconst 0, 1) := by decide +kernel
theorem dL_isLine_31 : decode cL_isLine 31 = .ok (.ireturn, 1) := by decide +kernel
theorem dL_isLine_32 : decode cL_isLine 32 = .ok (.iinc 3 1, 3) := by decide +kernel
theorem dL_isLine_35 : decode cL_isLine 35 = .ok (.goto (-23), 3) := by decide +kernel
theorem dL_isLine_38 : decode cL_isLine 38 = .ok (.iconst 1, 1) := by decide +kernel
theorem dL_isLine_39 : decode cL_isLine 39 = .ok (.ireturn, 1) := by decide +kernel
theorem dL_runs_0 : decode cL_runs 0 = .ok (.aload_n 0, 1) := by decide +kernel
theorem dL_runs_1 : decode cL_runs 1 = .ok (.invokevirtual 176, 3) := by decide +kernel
theorem dL_runs_4 : decode cL_runs 4 = .ok (.ireturn, 1) := by decide +kernel
theorem dL_runs_5 : decode cL_runs 5 = .ok (.astore_n 1, 1) := by decide +kernel
theorem dL_runs_6 : decode cL_runs 6 = .ok (.iconst (-1), 1) := by decide +kernel
theorem dL_runs_7 : decode cL_runs 7 = .ok (.ireturn, 1) := by decide +kernel
theorem dL_runs_8 : decode cL_runs 8 = .ok (.astore_n 1, 1) := by decide +kernel
theorem dL_runs_9 : decode cL_runs 9 = .ok (.bipush (-2), 2) := by decide +kernel
theorem dL_runs_11 : decode cL_runs 11 = .ok (.ireturn, 1) := by decide +kernel
theorem dL_fails_0 : decode cL_fails 0 = .ok (.aload_n 0, 1) := by decide +kernel
theorem dL_fails_1 : decode cL_fails 1 = .ok (.aload_n 1, 1) := by decide +kernel
theorem dL_fails_2 : decode cL_fails 2 = .ok (.invokestatic 173, 3) := by decide +kernel
theorem dL_fails_5 : decode cL_fails 5 = .ok (.aload_n 0, 1) := by decide +kernel
theorem dL_fails_6 : decode cL_fails 6 = .ok (.invokestatic 184, 3) := by decide +kernel
theorem dL_fails_9 : decode cL_fails 9 = .ok (.iconst (-1), 1) := by decide +kernel
theorem dL_fails_10 : decode cL_fails 10 = .ok (.if_icmp .ne 15, 3) := by decide +kernel
theorem dL_fails_13 : decode cL_fails 13 = .ok (.aload_n 0, 1) := by decide +kernel
theorem dL_fails_14 : decode cL_fails 14 = .ok (.invokevirtual 285, 3) := by decide +kernel
theorem dL_fails_17 : decode cL_fails 17 = .ok (.iload_n 2, 1) := by decide +kernel
theorem dL_fails_18 : decode cL_fails 18 = .ok (.if_icmp .ne 7, 3) := by decide +kernel
theorem dL_fails_21 : decode cL_fails 21 = .ok (.iconst 1, 1) := by decide +kernel
theorem dL_fails_22 : decode cL_fails 22 = .ok (.goto 4, 3) := by decide +kernel
theorem dL_fails_25 : decode cL_fails 25 = .ok (.iconst 0, 1) := by decide +kernel
theorem dL_fails_26 : decode cL_fails 26 = .ok (.ireturn, 1) := by decide +kernel
