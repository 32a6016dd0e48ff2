theorem dX13_carries_28 : decode cX13_carries 28 = .ok (.iadd, 1) := by decide +kernel
theorem dX13_carries_29 : decode cX13_carries 29 = .ok (.iaload, 1) := by decide +kernel
theorem dX13_carries_30 : decode cX13_carries 30 = .ok (.iload_n 2, 1) := by decide +kernel
theorem dX13_carries_31 : decode cX13_carries 31 = .ok (.if_icmp .ne 9, 3) := by decide +kernel
theorem dX13_carries_34 : decode cX13_carries 34 = .ok (.aload_n 0, 1) := by decide +kernel
theorem dX13_carries_35 : decode cX13_carries 35 = .ok (.iconst 2, 1) := by decide +kernel
theorem dX13_carries_36 : decode cX13_carries 36 = .ok (.invokevirtual 64, 3) := by decide +kernel
theorem dX13_carries_39 : decode cX13_carries 39 = .ok (.ireturn, 1) := by decide +kernel
theorem dX13_carries_40 : decode cX13_carries 40 = .ok (.aload_n 0, 1) := by decide +kernel
theorem dX13_carries_41 : decode cX13_carries 41 = .ok (.aload_n 0, 1) := by decide +kernel
theorem dX13_carries_42 : decode cX13_carries 42 = .ok (.getfield 7, 3) := by decide +kernel
theorem dX13_carries_45 : decode cX13_carries 45 = .ok (.sipush 128, 3) := by decide +kernel
theorem dX13_carries_48 : decode cX13_carries 48 = .ok (.iload_n 1, 1) := by decide +kernel
theorem dX13_carries_49 : decode cX13_carries 49 = .ok (.iadd, 1) := by decide +kernel
theorem dX13_carries_50 : decode cX13_carries 50 = .ok (.iaload, 1) := by decide +kernel
theorem dX13_carries_51 : decode cX13_carries 51 = .ok (.iload_n 2, 1) := by decide +kernel
theorem dX13_carries_52 : decode cX13_carries 52 = .ok (.invokevirtual 126, 3) := by decide +kernel
theorem dX13_carries_55 : decode cX13_carries 55 = .ok (.istore_n 3, 1) := by decide +kernel
theorem dX13_carries_56 : decode cX13_carries 56 = .ok (.iload_n 3, 1) := by decide +kernel
theorem dX13_carries_57 : decode cX13_carries 57 = .ok (.sipush 1000, 3) := by decide +kernel
theorem dX13_carries_60 : decode cX13_carries 60 = .ok (.if_icmp .ne 9, 3) := by decide +kernel
theorem dX13_carries_63 : decode cX13_carries 63 = .ok (.aload_n 0, 1) := by decide +kernel
theorem dX13_carries_64 : decode cX13_carries 64 = .ok (.iconst 3, 1) := by decide +kernel
theorem dX13_carries_65 : decode cX13_carries 65 = .ok (.invokevirtual 64, 3) := by decide +kernel
theorem dX13_carries_68 : decode cX13_carries 68 = .ok (.ireturn, 1) := by decide +kernel
theorem dX13_carries_69 : decode cX13_carries 69 = .ok (.aload_n 0, 1) := by decide +kernel
theorem dX13_carries_70 : decode cX13_carries 70 = .ok (.getfield 7, 3) := by decide +kernel
theorem dX13_carries_73 : decode cX13_carries 73 = .ok (.bipush 38, 2) := by decide +kernel
theorem dX13_carries_75 : decode cX13_carries 75 = .ok (.dup2, 1) := by decide +kernel
theorem dX13_carries_76 : decode cX13_carries 76 = .ok (.iaload, 1) := by decide +kernel
theorem dX13_carries_77 : decode cX13_carries 77 = .ok (.iload_n 3, 1) := by decide +kernel
theorem dX13_carries_78 : decode cX13_carries 78 = .ok (.aload_n 0, 1) := by decide +kernel
theorem dX13_carries_79 : decode cX13_carries 79 = .ok (.iload_n 1, 1) := by decide +kernel
theorem dX13_carries_80 : decode cX13_carries 80 = .ok (.invokevirtual 98, 3) := by decide +kernel
theorem dX13_carries_83 : decode cX13_carries 83 = .ok (.imul, 1) := by decide +kernel
theorem dX13_carries_84 : decode cX13_carries 84 = .ok (.iadd, 1) := by decide +kernel
theorem dX13_carries_85 : decode cX13_carries 85 = .ok (.iastore, 1) := by decide +kernel
theorem dX13_carries_86 : decode cX13_carries 86 = .ok (.aload_n 0, 1) := by decide +kernel
theorem dX13_carries_87 : decode cX13_carries 87 = .ok (.getfield 7, 3) := by decide +kernel
theorem dX13_carries_90 : decode cX13_carries 90 = .ok (.sipush 128, 3) := by decide +kernel
theorem dX13_carries_93 : decode cX13_carries 93 = .ok (.iload_n 1, 1) := by decide +kernel
theorem dX13_carries_94 : decode cX13_carries 94 = .ok (.iadd, 1) := by decide +kernel
theorem dX13_carries_95 : decode cX13_carries 95 = .ok (.iload_n 2, 1) := by decide +kernel
theorem dX13_carries_96 : decode cX13_carries 96 = .ok (.iastore, 1) := by decide +kernel
theorem dX13_carries_97 : decode cX13_carries 97 = .ok (.iconst 0, 1) := by decide +kernel
theorem dX13_carries_98 : decode cX13_carries 98 = .ok (.istore 4, 2) := by decide +kernel
theorem dX13_carries_100 : decode cX13_carries 100 = .ok (.iconst 0, 1) := by decide +kernel
theorem dX13_carries_101 : decode cX13_carries 101 = .ok (.istore 5, 2) := by decide +kernel
theorem dX13_carries_103 : decode cX13_carries 103 = .ok (.iload 5, 2) := by decide +kernel
theorem dX13_carries_105 : decode cX13_carries 105 = .ok (.aload_n 0, 1) := by decide +kernel
theorem dX13_carries_106 : decode cX13_carries 106 = .ok (.getfield 7, 3) := by decide +kernel
theorem dX13_carries_109 : decode cX13_carries 109 = .ok (.bipush 36, 2) := by decide +kernel
theorem dX13_carries_111 : decode cX13_carries 111 = .ok (.iaload, 1) := by decide +kernel
theorem dX13_carries_112 : decode cX13_carries 112 = .ok (.if_icmp .ge 65, 3) := by decide +kernel
theorem dX13_carries_115 : decode cX13_carries 115 = .ok (.aload_n 0, 1) := by decide +kernel
theorem dX13_carries_116 : decode cX13_carries 116 = .ok (.getfield 7, 3) := by decide +kernel
theorem dX13_carries_119 : decode cX13_carries 119 = .ok (.bipush 76, 2) := by decide +kernel
theorem dX13_carries_121 : decode cX13_carries 121 = .ok (.iload 5, 2) := by decide +kernel
theorem dX13_carries_123 : decode cX13_carries 123 = .ok (.iadd, 1) := by decide +kernel
theorem dX13_carries_124 : decode cX13_carries 124 = .ok (.iaload, 1) := by decide +kernel
theorem dX13_carries_125 : decode cX13_carries 125 = .ok (.iconst 1, 1) := by decide +kernel
theorem dX13_carries_126 : decode cX13_carries 126 = .ok (.if_icmp .ne 45, 3) := by decide +kernel
theorem dX13_carries_129 : decode cX13_carries 129 = .ok (.aload_n 0, 1) := by decide +kernel
theorem dX13_carries_130 : decode cX13_carries 130 = .ok (.getfield 7, 3) := by decide +kernel
theorem dX13_carries_133 : decode cX13_carries 133 = .ok (.bipush 88, 2) := by decide +kernel
theorem dX13_carries_135 : decode cX13_carries 135 = .ok (.iload 5, 2) := by decide +kernel
theorem dX13_carries_137 : decode cX13_carries 137 = .ok (.iadd, 1) := by decide +kernel
theorem dX13_carries_138 : decode cX13_carries 138 = .ok (.iaload, 1) := by decide +kernel
theorem dX13_carries_139 : decode cX13_carries 139 = .ok (.iload_n 1, 1) := by decide +kernel
theorem dX13_carries_140 : decode cX13_carries 140 = .ok (.if_icmp .ne 31, 3) := by decide +kernel
theorem dX13_carries_143 : decode cX13_carries 143 = .ok (.aload_n 0, 1) := by decide +kernel
theorem dX13_carries_144 : decode cX13_carries 144 = .ok (.getfield 7, 3) := by decide +kernel
theorem dX13_carries_147 : decode cX13_carries 147 = .ok (.bipush 64, 2) := by decide +kernel
theorem dX13_carries_149 : decode cX13_carries 149 = .ok (.iload 5, 2) := by decide +kernel
theorem dX13_carries_151 : decode cX13_carries 151 = .ok (.iadd, 1) := by decide +kernel
theorem dX13_carries_152 : decode cX13_carries 152 = .ok (.iaload, 1) := by decide +kernel
theorem dX13_carries_153 : decode cX13_carries 153 = .ok (.iload_n 2, 1) := by decide +kernel
theorem dX13_carries_154 : decode cX13_carries 154 = .ok (.if_icmp .ne 17, 3) := by decide +kernel
theorem dX13_carries_157 : decode cX13_carries 157 = .ok (.aload_n 0, 1) := by decide +kernel
theorem dX13_carries_158 : decode cX13_carries 158 = .ok (.getfield 7, 3) := by decide +kernel
theorem dX13_carries_161 : decode cX13_carries 161 = .ok (.bipush 76, 2) := by decide +kernel
theorem dX13_carries_163 : decode cX13_carries 163 = .ok (.iload 5, 2) := by decide +kernel
theorem dX13_carries_165 : decode cX13_carries 165 = .ok (.iadd, 1) := by decide +kernel
theorem dX13_carries_166 : decode cX13_carries 166 = .ok (.iconst 2, 1) := by decide +kernel
theorem dX13_carries_167 : decode cX13_carries 167 = .ok (.iastore, 1) := by decide +kernel
theorem dX13_carries_168 : decode cX13_carries 168 = .ok (.iinc 4 1, 3) := by decide +kernel
theorem dX13_carries_171 : decode cX13_carries 171 = .ok (.iinc 5 1, 3) := by decide +kernel
theorem dX13_carries_174 : decode cX13_carries 174 = .ok (.goto (-71), 3) := by decide +kernel
theorem dX13_carries_177 : decode cX13_carries 177 = .ok (.aload_n 0, 1) := by decide +kernel
theorem dX13_carries_178 : decode cX13_carries 178 = .ok (.iload 4, 2) := by decide +kernel
theorem dX13_carries_180 : decode cX13_carries 180 = .ok (.invokevirtual 72, 3) := by decide +kernel
theorem dX13_carries_183 : decode cX13_carries 183 = .ok (.ireturn, 1) := by decide +kernel
theorem dX13_carry_0 : decode cX13_carry 0 = .ok (.aload_n 0, 1) := by decide +kernel
theorem dX13_carry_1 : decode cX13_carry 1 = .ok (.invokevirtual 75, 3) := by decide +kernel
theorem dX13_carry_4 : decode cX13_carry 4 = .ok (.aload_n 0, 1) := by decide +kernel
theorem dX13_carry_5 : decode cX13_carry 5 = .ok (.aload_n 0, 1) := by decide +kernel
theorem dX13_carry_6 : decode cX13_carry 6 = .ok (.iload_n 1, 1) := by decide +kernel
theorem dX13_carry_7 : decode cX13_carry 7 = .ok (.iload_n 2, 1) := by decide +kernel
theorem dX13_carry_8 : decode cX13_carry 8 = .ok (.invokevirtual 129, 3) := by decide +kernel
theorem dX13_carry_11 : decode cX13_carry 11 = .ok (.invokevirtual 82, 3) := by decide +kernel
theorem dX13_carry_14 : decode cX13_carry 14 = .ok (.ireturn, 1) := by decide +kernel
theorem dX13_comes_0 : decode cX13_comes 0 = .ok (.aload_n 0, 1) := by decide +kernel
theorem dX13_comes_1 : decode cX13_comes 1 = .ok (.iload_n 1, 1) := by decide +kernel
theorem dX13_comes_2 : decode cX13_comes 2 = .ok (.invokevirtual 111, 3) := by decide +kernel
theorem dX13_comes_5 : decode cX13_comes 5 = .ok (.ifCond .ne 9, 3) := by decide +kernel
theorem dX13_comes_8 : decode cX13_comes 8 = .ok (.aload_n 0, 1) := by decide +kernel
theorem dX13_comes_9 : decode cX13_comes 9 = .ok (.iconst 1, 1) := by decide +kernel
theorem dX13_comes_10 : decode cX13_comes 10 = .ok (.invokevirtual 64, 3) := by decide +kernel
theorem dX13_comes_13 : decode cX13_comes 13 = .ok (.ireturn, 1) := by decide +kernel
theorem dX13_comes_14 : decode cX13_comes 14 = .ok (.aload_n 0, 1) := by decide +kernel
theorem dX13_comes_15 : decode cX13_comes 15 = .ok (.getfield 7, 3) := by decide +kernel
theorem dX13_comes_18 : decode cX13_comes 18 = .ok (.bipush 76, 2) := by decide +kernel
theorem dX13_comes_20 : decode cX13_comes 20 = .ok (.iload_n 1, 1) := by decide +kernel
theorem dX13_comes_21 : decode cX13_comes 21 = .ok (.iadd, 1) := by decide +kernel
theorem dX13_comes_22 : decode cX13_comes 22 = .ok (.iaload, 1) := by decide +kernel
theorem dX13_comes_23 : decode cX13_comes 23 = .ok (.iconst 2, 1) := by decide +kernel
theorem dX13_comes_24 : decode cX13_comes 24 = .ok (.if_icmp .eq 9, 3) := by decide +kernel
theorem dX13_comes_27 : decode cX13_comes 27 = .ok (.aload_n 0, 1) := by decide +kernel
theorem dX13_comes_28 : decode cX13_comes 28 = .ok (.iconst 2, 1) := by decide +kernel
theorem dX13_comes_29 : decode cX13_comes 29 = .ok (.invokevirtual 64, 3) := by decide +kernel
theorem dX13_comes_32 : decode cX13_comes 32 = .ok (.ireturn, 1) := by decide +kernel
theorem dX13_comes_33 : decode cX13_comes 33 = .ok (.aload_n 0, 1) := by decide +kernel
theorem dX13_comes_34 : decode cX13_comes 34 = .ok (.getfield 7, 3) := by decide +kernel
theorem dX13_comes_37 : decode cX13_comes 37 = .ok (.bipush 76, 2) := by decide +kernel
theorem dX13_comes_39 : decode cX13_comes 39 = .ok (.iload_n 1, 1) := by decide +kernel
theorem dX13_comes_40 : decode cX13_comes 40 = .ok (.iadd, 1) := by decide +kernel
theorem dX13_comes_41 : decode cX13_comes 41 = .ok (.iconst 0, 1) := by decide +kernel
theorem dX13_comes_42 : decode cX13_comes 42 = .ok (.iastore, 1) := by decide +kernel
theorem dX13_comes_43 : decode cX13_comes 43 = .ok (.aload_n 0, 1) := by decide +kernel
theorem dX13_comes_44 : decode cX13_comes 44 = .ok (.getfield 7, 3) := by decide +kernel
theorem dX13_comes_47 : decode cX13_comes 47 = .ok (.bipush 100, 2) := by decide +kernel
theorem dX13_comes_49 : decode cX13_comes 49 = .ok (.iload_n 1, 1) := by decide +kernel
theorem dX13_comes_50 : decode cX13_comes 50 = .ok (.iadd, 1) := by decide +kernel
theorem dX13_comes_51 : decode cX13_comes 51 = .ok (.dup2, 1) := by decide +kernel
theorem dX13_comes_52 : decode cX13_comes 52 = .ok (.iaload, 1) := by decide +kernel
theorem dX13_comes_53 : decode cX13_comes 53 = .ok (.iconst 1, 1) := by decide +kernel
theorem dX13_comes_54 : decode cX13_comes 54 = .ok (.iadd, 1) := by decide +kernel
theorem dX13_comes_55 : decode cX13_comes 55 = .ok (.iastore, 1) := by decide +kernel
theorem dX13_comes_56 : decode cX13_comes 56 = .ok (.aload_n 0, 1) := by decide +kernel
theorem dX13_comes_57 : decode cX13_comes 57 = .ok (.getfield 7, 3) := by decide +kernel
theorem dX13_comes_60 : decode cX13_comes 60 = .ok (.bipush 52, 2) := by decide +kernel
theorem dX13_comes_62 : decode cX13_comes 62 = .ok (.iload_n 1, 1) := by decide +kernel
theorem dX13_comes_63 : decode cX13_comes 63 = .ok (.iadd, 1) := by decide +kernel
theorem dX13_comes_64 : decode cX13_comes 64 = .ok (.dup2, 1) := by decide +kernel
theorem dX13_comes_65 : decode cX13_comes 65 = .ok (.iaload, 1) := by decide +kernel
theorem dX13_comes_66 : decode cX13_comes 66 = .ok (.aload_n 0, 1) := by decide +kernel
theorem dX13_comes_67 : decode cX13_comes 67 = .ok (.getfield 7, 3) := by decide +kernel
theorem dX13_comes_70 : decode cX13_comes 70 = .ok (.bipush 52, 2) := by decide +kernel
theorem dX13_comes_72 : decode cX13_comes 72 = .ok (.iload_n 1, 1) := by decide +kernel
theorem dX13_comes_73 : decode cX13_comes 73 = .ok (.iadd, 1) := by decide +kernel
theorem dX13_comes_74 : decode cX13_comes 74 = .ok (.iaload, 1) := by decide +kernel
theorem dX13_comes_75 : decode cX13_comes 75 = .ok (.iconst 3, 1) := by decide +kernel
theorem dX13_comes_76 : decode cX13_comes 76 = .ok (.if_icmp .ge 7, 3) := by decide +kernel
theorem dX13_comes_79 : decode cX13_comes 79 = .ok (.iconst 1, 1) := by decide +kernel
theorem dX13_comes_80 : decode cX13_comes 80 = .ok (.goto 4, 3) := by decide +kernel
theorem dX13_comes_83 : decode cX13_comes 83 = .ok (.iconst 0, 1) := by decide +kernel
theorem dX13_comes_84 : decode cX13_comes 84 = .ok (.iadd, 1) := by decide +kernel
theorem dX13_comes_85 : decode cX13_comes 85 = .ok (.iastore, 1) := by decide +kernel
theorem dX13_comes_86 : decode cX13_comes 86 = .ok (.aload_n 0, 1) := by decide +kernel
theorem dX13_comes_87 : decode cX13_comes 87 = .ok (.aload_n 0, 1) := by decide +kernel
theorem dX13_comes_88 : decode cX13_comes 88 = .ok (.getfield 7, 3) := by decide +kernel
theorem dX13_comes_91 : decode cX13_comes 91 = .ok (.bipush 52, 2) := by decide +kernel
theorem dX13_comes_93 : decode cX13_comes 93 = .ok (.iload_n 1, 1) := by decide +kernel
theorem dX13_comes_94 : decode cX13_comes 94 = .ok (.iadd, 1) := by decide +kernel
theorem dX13_comes_95 : decode cX13_comes 95 = .ok (.iaload, 1) := by decide +kernel
theorem dX13_comes_96 : decode cX13_comes 96 = .ok (.invokevirtual 72, 3) := by decide +kernel
theorem dX13_comes_99 : decode cX13_comes 99 = .ok (.ireturn, 1) := by decide +kernel
theorem dX13_comeBack_0 : decode cX13_comeBack 0 = .ok (.aload_n 0, 1) := by decide +kernel
theorem dX13_comeBack_1 : decode cX13_comeBack 1 = .ok (.invokevirtual 75, 3) := by decide +kernel
theorem dX13_comeBack_4 : decode cX13_comeBack 4 = .ok (.aload_n 0, 1) := by decide +kernel
theorem dX13_comeBack_5 : decode cX13_comeBack 5 = .ok (.aload_n 0, 1) := by decide +kernel
theorem dX13_comeBack_6 : decode cX13_comeBack 6 = .ok (.iload_n 1, 1) := by decide +kernel
theorem dX13_comeBack_7 : decode cX13_comeBack 7 = .ok (.invokevirtual 132, 3) := by decide +kernel
theorem dX13_comeBack_10 : decode cX13_comeBack 10 = .ok (.invokevirtual 82, 3) := by decide +kernel
theorem dX13_comeBack_13 : decode cX13_comeBack 13 = .ok (.ireturn, 1) := by decide +kernel
theorem dX13_roadCount_0 : decode cX13_roadCount 0 = .ok (.aload_n 0, 1) := by decide +kernel
theorem dX13_roadCount_1 : decode cX13_roadCount 1 = .ok (.aload_n 0, 1) := by decide +kernel
theorem dX13_roadCount_2 : decode cX13_roadCount 2 = .ok (.invokevirtual 68, 3) := by decide +kernel
theorem dX13_roadCount_5 : decode cX13_roadCount 5 = .ok (.invokevirtual 72, 3) := by decide +kernel
theorem dX13_roadCount_8 : decode cX13_roadCount 8 = .ok (.ireturn, 1) := by decide +kernel
theorem dX13_roadLength_0 : decode cX13_roadLength 0 = .ok (.iload_n 1, 1) := by decide +kernel
theorem dX13_roadLength_1 : decode cX13_roadLength 1 = .ok (.invokestatic 60, 3) := by decide +kernel
theorem dX13_roadLength_4 : decode cX13_roadLength 4 = .ok (.ifCond .eq 10, 3) := by decide +kernel
theorem dX13_roadLength_7 : decode cX13_roadLength 7 = .ok (.iload_n 2, 1) := by decide +kernel
theorem dX13_roadLength_8 : decode cX13_roadLength 8 = .ok (.invokestatic 60, 3) := by decide +kernel
theorem dX13_roadLength_11 : decode cX13_roadLength 11 = .ok (.ifCond .ne 9, 3) := by decide +kernel
theorem dX13_roadLength_14 : decode cX13_roadLength 14 = .ok (.aload_n 0, 1) := by decide +kernel
theorem dX13_roadLength_15 : decode cX13_roadLength 15 = .ok (.iconst 1, 1) := by decide +kernel
theorem dX13_roadLength_16 : decode cX13_roadLength 16 = .ok (.invokevirtual 64, 3) := by decide +kernel
theorem dX13_roadLength_19 : decode cX13_roadLength 19 = .ok (.ireturn, 1) := by decide +kernel
theorem dX13_roadLength_20 : decode cX13_roadLength 20 = .ok (.aload_n 0, 1) := by decide +kernel
theorem dX13_roadLength_21 : decode cX13_roadLength 21 = .ok (.iload_n 1, 1) := by decide +kernel
theorem dX13_roadLength_22 : decode cX13_roadLength 22 = .ok (.iload_n 2, 1) := by decide +kernel
theorem dX13_roadLength_23 : decode cX13_roadLength 23 = .ok (.invokevirtual 56, 3) := by decide +kernel
theorem dX13_roadLength_26 : decode cX13_roadLength 26 = .ok (.ifCond .ne 11, 3) := by decide +kernel
theorem dX13_roadLength_29 : decode cX13_roadLength 29 = .ok (.aload_n 0, 1) := by decide +kernel
theorem dX13_roadLength_30 : decode cX13_roadLength 30 = .ok (.iconst 2, 1) := by decide +kernel
theorem dX13_roadLength_31 : decode cX13_roadLength 31 = .ok (.invokevirtual 64, 3) := by decide +kernel
theorem dX13_roadLength_34 : decode cX13_roadLength 34 = .ok (.goto 13, 3) := by decide +kernel
theorem dX13_roadLength_37 : decode cX13_roadLength 37 = .ok (.aload_n 0, 1) := by decide +kernel
theorem dX13_roadLength_38 : decode cX13_roadLength 38 = .ok (.aload_n 0, 1) := by decide +kernel
theorem dX13_roadLength_39 : decode cX13_roadLength 39 = .ok (.iload_n 1, 1) := by decide +kernel
theorem dX13_roadLength_40 : decode cX13_roadLength 40 = .ok (.iload_n 2, 1) := by decide +kernel
theorem dX13_roadLength_41 : decode cX13_roadLength 41 = .ok (.invokevirtual 56, 3) := by decide +kernel
theorem dX13_roadLength_44 : decode cX13_roadLength 44 = .ok (.invokevirtual 72, 3) := by decide +kernel
theorem dX13_roadLength_47 : decode cX13_roadLength 47 = .ok (.ireturn, 1) := by decide +kernel
theorem dX13_distance_0 : decode cX13_distance 0 = .ok (.iload_n 1, 1) := by decide +kernel
theorem dX13_distance_1 : decode cX13_distance 1 = .ok (.invokestatic 60, 3) := by decide +kernel
theorem dX13_distance_4 : decode cX13_distance 4 = .ok (.ifCond .eq 10, 3) := by decide +kernel
theorem dX13_distance_7 : decode cX13_distance 7 = .ok (.iload_n 2, 1) := by decide +kernel
theorem dX13_distance_8 : decode cX13_distance 8 = .ok (.invokestatic 60, 3) := by decide +kernel
theorem dX13_distance_11 : decode cX13_distance 11 = .ok (.ifCond .ne 9, 3) := by decide +kernel
theorem dX13_distance_14 : decode cX13_distance 14 = .ok (.aload_n 0, 1) := by decide +kernel
theorem dX13_distance_15 : decode cX13_distance 15 = .ok (.iconst 1, 1) := by decide +kernel
theorem dX13_distance_16 : decode cX13_distance 16 = .ok (.invokevirtual 64, 3) := by decide +kernel
theorem dX13_distance_19 : decode cX13_distance 19 = .ok (.ireturn, 1) := by decide +kernel
theorem dX13_distance_20 : decode cX13_distance 20 = .ok (.aload_n 0, 1) := by decide +kernel
theorem dX13_distance_21 : decode cX13_distance 21 = .ok (.iload_n 1, 1) := by decide +kernel
theorem dX13_distance_22 : decode cX13_distance 22 = .ok (.iload_n 2, 1) := by decide +kernel
theorem dX13_distance_23 : decode cX13_distance 23 = .ok (.invokevirtual 126, 3) := by decide +kernel
theorem dX13_distance_26 : decode cX13_distance 26 = .ok (.istore_n 3, 1) := by decide +kernel
theorem dX13_distance_27 : decode cX13_distance 27 = .ok (.iload_n 3, 1) := by decide +kernel
theorem dX13_distance_28 : decode cX13_distance 28 = .ok (.sipush 1000, 3) := by decide +kernel
theorem dX13_distance_31 : decode cX13_distance 31 = .ok (.if_icmp .ne 11, 3) := by decide +kernel
theorem dX13_distance_34 : decode cX13_distance 34 = .ok (.aload_n 0, 1) := by decide +kernel
theorem dX13_distance_35 : decode cX13_distance 35 = .ok (.iconst 2, 1) := by decide +kernel
theorem dX13_distance_36 : decode cX13_distance 36 = .ok (.invokevirtual 64, 3) := by decide +kernel
theorem dX13_distance_39 : decode cX13_distance 39 = .ok (.goto 8, 3) := by decide +kernel
theorem dX13_distance_42 : decode cX13_distance 42 = .ok (.aload_n 0, 1) := by decide +kernel
theorem dX13_distance_43 : decode cX13_distance 43 = .ok (.iload_n 3, 1) := by decide +kernel
theorem dX13_distance_44 : decode cX13_distance 44 = .ok (.invokevirtual 72, 3) := by decide +kernel
theorem dX13_distance_47 : decode cX13_distance 47 = .ok (.ireturn, 1) := by decide +kernel
theorem dX13_distanceByRounds_0 : decode cX13_distanceByRounds 0 = .ok (.aload_n 0, 1) := by decide +kernel
theorem dX13_distanceByRounds_1 : decode cX13_distanceByRounds 1 = .ok (.iload_n 1, 1) := by decide +kernel
theorem dX13_distanceByRounds_2 : decode cX13_distanceByRounds 2 = .ok (.iload_n 2, 1) := by decide +kernel
theorem dX13_distanceByRounds_3 : decode cX13_distanceByRounds 3 = .ok (.invokevirtual 135, 3) := by decide +kernel
theorem dX13_distanceByRounds_6 : decode cX13_distanceByRounds 6 = .ok (.ireturn, 1) := by decide +kernel
theorem dX13_farthestPlace_0 : decode cX13_farthestPlace 0 = .ok (.iload_n 1, 1) := by decide +kernel
theorem dX13_farthestPlace_1 : decode cX13_farthestPlace 1 = .ok (.invokestatic 60, 3) := by decide +kernel
theorem dX13_farthestPlace_4 : decode cX13_farthestPlace 4 = .ok (.ifCond .ne 9, 3) := by decide +kernel
theorem dX13_farthestPlace_7 : decode cX13_farthestPlace 7 = .ok (.aload_n 0, 1) := by decide +kernel
theorem dX13_farthestPlace_8 : decode cX13_farthestPlace 8 = .ok (.iconst 1, 1) := by decide +kernel
theorem dX13_farthestPlace_9 : decode cX13_farthestPlace 9 = .ok (.invokevirtual 64, 3) := by decide +kernel
theorem dX13_farthestPlace_12 : decode cX13_farthestPlace 12 = .ok (.ireturn, 1) := by decide +kernel
theorem dX13_farthestPlace_13 : decode cX13_farthestPlace 13 = .ok (.aload_n 0, 1) := by decide +kernel
theorem dX13_farthestPlace_14 : decode cX13_farthestPlace 14 = .ok (.iload_n 1, 1) := by decide +kernel
theorem dX13_farthestPlace_15 : decode cX13_farthestPlace 15 = .ok (.invokevirtual 85, 3) := by decide +kernel
theorem dX13_farthestPlace_18 : decode cX13_farthestPlace 18 = .ok (.iload_n 1, 1) := by decide +kernel
theorem dX13_farthestPlace_19 : decode cX13_farthestPlace 19 = .ok (.istore_n 2, 1) := by decide +kernel
theorem dX13_farthestPlace_20 : decode cX13_farthestPlace 20 = .ok (.iconst 0, 1) := by decide +kernel
theorem dX13_farthestPlace_21 : decode cX13_farthestPlace 21 = .ok (.istore_n 3, 1) := by decide +kernel
theorem dX13_farthestPlace_22 : decode cX13_farthestPlace 22 = .ok (.iload_n 3, 1) := by decide +kernel
theorem dX13_farthestPlace_23 : decode cX13_farthestPlace 23 = .ok (.bipush 6, 2) := by decide +kernel
theorem dX13_farthestPlace_25 : decode cX13_farthestPlace 25 = .ok (.if_icmp .ge 54, 3) := by decide +kernel
theorem dX13_farthestPlace_28 : decode cX13_farthestPlace 28 = .ok (.aload_n 0, 1) := by decide +kernel
theorem dX13_farthestPlace_29 : decode cX13_farthestPlace 29 = .ok (.getfield 36, 3) := by decide +kernel
theorem dX13_farthestPlace_32 : decode cX13_farthestPlace 32 = .ok (.iload_n 3, 1) := by decide +kernel
theorem dX13_farthestPlace_33 : decode cX13_farthestPlace 33 = .ok (.iaload, 1) := by decide +kernel
theorem dX13_farthestPlace_34 : decode cX13_farthestPlace 34 = .ok (.sipush 1000, 3) := by decide +kernel
theorem dX13_farthestPlace_37 : decode cX13_farthestPlace 37 = .ok (.if_icmp .ge 22, 3) := by decide +kernel
theorem dX13_farthestPlace_40 : decode cX13_farthestPlace 40 = .ok (.aload_n 0, 1) := by decide +kernel
theorem dX13_farthestPlace_41 : decode cX13_farthestPlace 41 = .ok (.getfield 36, 3) := by decide +kernel
theorem dX13_farthestPlace_44 : decode cX13_farthestPlace 44 = .ok (.iload_n 3, 1) := by decide +kernel
theorem dX13_farthestPlace_45 : decode cX13_farthestPlace 45 = .ok (.iaload, 1) := by decide +kernel
theorem dX13_farthestPlace_46 : decode cX13_farthestPlace 46 = .ok (.aload_n 0, 1) := by decide +kernel
theorem dX13_farthestPlace_47 : decode cX13_farthestPlace 47 = .ok (.getfield 36, 3) := by decide +kernel
theorem dX13_farthestPlace_50 : decode cX13_farthestPlace 50 = .ok (.iload_n 2, 1) := by decide +kernel
theorem dX13_farthestPlace_51 : decode cX13_farthestPlace 51 = .ok (.iaload, 1) := by decide +kernel
theorem dX13_farthestPlace_52 : decode cX13_farthestPlace 52 = .ok (.if_icmp .le 7, 3) := by decide +kernel
theorem dX13_farthestPlace_55 : decode cX13_farthestPlace 55 = .ok (.iconst 1, 1) := by decide +kernel
theorem dX13_farthestPlace_56 : decode cX13_farthestPlace 56 = .ok (.goto 4, 3) := by decide +kernel
theorem dX13_farthestPlace_59 : decode cX13_farthestPlace 59 = .ok (.iconst 0, 1) := by decide +kernel
theorem dX13_farthestPlace_60 : decode cX13_farthestPlace 60 = .ok (.istore 4, 2) := by decide +kernel
theorem dX13_farthestPlace_62 : decode cX13_farthestPlace 62 = .ok (.iload 4, 2) := by decide +kernel
theorem dX13_farthestPlace_64 : decode cX13_farthestPlace 64 = .ok (.ifCond .eq 7, 3) := by decide +kernel
theorem dX13_farthestPlace_67 : decode cX13_farthestPlace 67 = .ok (.iload_n 3, 1) := by decide +kernel
theorem dX13_farthestPlace_68 : decode cX13_farthestPlace 68 = .ok (.goto 4, 3) := by decide +kernel
theorem dX13_farthestPlace_71 : decode cX13_farthestPlace 71 = .ok (.iload_n 2, 1) := by decide +kernel
theorem dX13_farthestPlace_72 : decode cX13_farthestPlace 72 = .ok (.istore_n 2, 1) := by decide +kernel
theorem dX13_farthestPlace_73 : decode cX13_farthestPlace 73 = .ok (.iinc 3 1, 3) := by decide +kernel
theorem dX13_farthestPlace_76 : decode cX13_farthestPlace 76 = .ok (.goto (-54), 3) := by decide +kernel
theorem dX13_farthestPlace_79 : decode cX13_farthestPlace 79 = .ok (.aload_n 0, 1) := by decide +kernel
theorem dX13_farthestPlace_80 : decode cX13_farthestPlace 80 = .ok (.iload_n 2, 1) := by decide +kernel
theorem dX13_farthestPlace_81 : decode cX13_farthestPlace 81 = .ok (.invokevirtual 72, 3) := by decide +kernel
theorem dX13_farthestPlace_84 : decode cX13_farthestPlace 84 = .ok (.ireturn, 1) := by decide +kernel
theorem dX13_parcelCount_0 : decode cX13_parcelCount 0 = .ok (.aload_n 0, 1) := by decide +kernel
theorem dX13_parcelCount_1 : decode cX13_parcelCount 1 = .ok (.aload_n 0, 1) := by decide +kernel
theorem dX13_parcelCount_2 : decode cX13_parcelCount 2 = .ok (.getfield 7, 3) := by decide +kernel
theorem dX13_parcelCount_5 : decode cX13_parcelCount 5 = .ok (.bipush 36, 2) := by decide +kernel
theorem dX13_parcelCount_7 : decode cX13_parcelCount 7 = .ok (.iaload, 1) := by decide +kernel
theorem dX13_parcelCount_8 : decode cX13_parcelCount 8 = .ok (.invokevirtual 72, 3) := by decide +kernel
theorem dX13_parcelCount_11 : decode cX13_parcelCount 11 = .ok (.ireturn, 1) := by decide +kernel
theorem dX13_parcelNumber_0 : decode cX13_parcelNumber 0 = .ok (.aload_n 0, 1) := by decide +kernel
theorem dX13_parcelNumber_1 : decode cX13_parcelNumber 1 = .ok (.iload_n 2, 1) := by decide +kernel
theorem dX13_parcelNumber_2 : decode cX13_parcelNumber 2 = .ok (.invokevirtual 111, 3) := by decide +kernel
theorem dX13_parcelNumber_5 : decode cX13_parcelNumber 5 = .ok (.ifCond .eq 18, 3) := by decide +kernel
theorem dX13_parcelNumber_8 : decode cX13_parcelNumber 8 = .ok (.aload_n 0, 1) := by decide +kernel
theorem dX13_parcelNumber_9 : decode cX13_parcelNumber 9 = .ok (.aload_n 0, 1) := by decide +kernel
theorem dX13_parcelNumber_10 : decode cX13_parcelNumber 10 = .ok (.getfield 7, 3) := by decide +kernel
theorem dX13_parcelNumber_13 : decode cX13_parcelNumber 13 = .ok (.iload_n 1, 1) := by decide +kernel
theorem dX13_parcelNumber_14 : decode cX13_parcelNumber 14 = .ok (.iload_n 2, 1) := by decide +kernel
theorem dX13_parcelNumber_15 : decode cX13_parcelNumber 15 = .ok (.iadd, 1) := by decide +kernel
theorem dX13_parcelNumber_16 : decode cX13_parcelNumber 16 = .ok (.iaload, 1) := by decide +kernel
theorem dX13_parcelNumber_17 : decode cX13_parcelNumber 17 = .ok (.invokevirtual 72, 3) := by decide +kernel
theorem dX13_parcelNumber_20 : decode cX13_parcelNumber 20 = .ok (.goto 8, 3) := by decide +kernel
theorem dX13_parcelNumber_23 : decode cX13_parcelNumber 23 = .ok (.aload_n 0, 1) := by decide +kernel
theorem dX13_parcelNumber_24 : decode cX13_parcelNumber 24 = .ok (.iconst 1, 1) := by decide +kernel
theorem dX13_parcelNumber_25 : decode cX13_parcelNumber 25 = .ok (.invokevirtual 64, 3) := by decide +kernel
theorem dX13_parcelNumber_28 : decode cX13_parcelNumber 28 = .ok (.ireturn, 1) := by decide +kernel
theorem dX13_weight_0 : decode cX13_weight 0 = .ok (.aload_n 0, 1) := by decide +kernel
theorem dX13_weight_1 : decode cX13_weight 1 = .ok (.bipush 40, 2) := by decide +kernel
theorem dX13_weight_3 : decode cX13_weight 3 = .ok (.iload_n 1, 1) := by decide +kernel
theorem dX13_weight_4 : decode cX13_weight 4 = .ok (.invokevirtual 138, 3) := by decide +kernel
theorem dX13_weight_7 : decode cX13_weight 7 = .ok (.ireturn, 1) := by decide +kernel
theorem dX13_hazard_0 : decode cX13_hazard 0 = .ok (.aload_n 0, 1) := by decide +kernel
theorem dX13_hazard_1 : decode cX13_hazard 1 = .ok (.bipush 52, 2) := by decide +kernel
theorem dX13_hazard_3 : decode cX13_hazard 3 = .ok (.iload_n 1, 1) := by decide +kernel
theorem dX13_hazard_4 : decode cX13_hazard 4 = .ok (.invokevirtual 138, 3) := by decide +kernel
theorem dX13_hazard_7 : decode cX13_hazard 7 = .ok (.ireturn, 1) := by decide +kernel
theorem dX13_destination_0 : decode cX13_destination 0 = .ok (.aload_n 0, 1) := by decide +kernel
theorem dX13_destination_1 : decode cX13_destination 1 = .ok (.bipush 64, 2) := by decide +kernel
theorem dX13_destination_3 : decode cX13_destination 3 = .ok (.iload_n 1, 1) := by decide +kernel
theorem dX13_destination_4 : decode cX13_destination 4 = .ok (.invokevirtual 138, 3) := by decide +kernel
theorem dX13_destination_7 : decode cX13_destination 7 = .ok (.ireturn, 1) := by decide +kernel
theorem dX13_state_0 : decode cX13_state 0 = .ok (.aload_n 0, 1) := by decide +kernel
theorem dX13_state_1 : decode cX13_state 1 = .ok (.bipush 76, 2) := by decide +kernel
theorem dX13_state_3 : decode cX13_state 3 = .ok (.iload_n 1, 1) := by decide +kernel
theorem dX13_state_4 : decode cX13_state 4 = .ok (.invokevirtual 138, 3) := by decide +kernel
theorem dX13_state_7 : decode cX13_state 7 = .ok (.istore_n 2, 1) := by decide +kernel
theorem dX13_state_8 : decode cX13_state 8 = .ok (.aload_n 0, 1) := by decide +kernel
theorem dX13_state_9 : decode cX13_state 9 = .ok (.getfield 42, 3) := by decide +kernel
theorem dX13_state_12 : decode cX13_state 12 = .ok (.ifCond .le 7, 3) := by decide +kernel
theorem dX13_state_15 : decode cX13_state 15 = .ok (.iconst 0, 1) := by decide +kernel
theorem dX13_state_16 : decode cX13_state 16 = .ok (.goto 24, 3) := by decide +kernel
theorem dX13_state_19 : decode cX13_state 19 = .ok (.iload_n 2, 1) := by decide +kernel
theorem dX13_state_20 : decode cX13_state 20 = .ok (.ifCond .ne 8, 3) := by decide +kernel
theorem dX13_state_23 : decode cX13_state 23 = .ok (.bipush 119, 2) := by decide +kernel
theorem dX13_state_25 : decode cX13_state 25 = .ok (.goto 15, 3) := by decide +kernel
theorem dX13_state_28 : decode cX13_state 28 = .ok (.iload_n 2, 1) := by decide +kernel
theorem dX13_state_29 : decode cX13_state 29 = .ok (.iconst 1, 1) := by decide +kernel
theorem dX13_state_30 : decode cX13_state 30 = .ok (.if_icmp .ne 8, 3) := by decide +kernel
theorem dX13_state_33 : decode cX13_state 33 = .ok (.bipush 115, 2) := by decide +kernel
theorem dX13_state_35 : decode cX13_state 35 = .ok (.goto 5, 3) := by decide +kernel
theorem dX13_state_38 : decode cX13_state 38 = .ok (.bipush 100, 2) := by decide +kernel
theorem dX13_state_40 : decode cX13_state 40 = .ok (.ireturn, 1) := by decide +kernel
theorem dX13_sackOf_0 : decode cX13_sackOf 0 = .ok (.aload_n 0, 1) := by decide +kernel
theorem dX13_sackOf_1 : decode cX13_sackOf 1 = .ok (.iload_n 1, 1) := by decide +kernel
theorem dX13_sackOf_2 : decode cX13_sackOf 2 = .ok (.invokevirtual 111, 3) := by decide +kernel
theorem dX13_sackOf_5 : decode cX13_sackOf 5 = .ok (.ifCond .ne 9, 3) := by decide +kernel
theorem dX13_sackOf_8 : decode cX13_sackOf 8 = .ok (.aload_n 0, 1) := by decide +kernel
theorem dX13_sackOf_9 : decode cX13_sackOf 9 = .ok (.iconst 1, 1) := by decide +kernel
theorem dX13_sackOf_10 : decode cX13_sackOf 10 = .ok (.invokevirtual 64, 3) := by decide +kernel
theorem dX13_sackOf_13 : decode cX13_sackOf 13 = .ok (.ireturn, 1) := by decide +kernel
theorem dX13_sackOf_14 : decode cX13_sackOf 14 = .ok (.aload_n 0, 1) := by decide +kernel
theorem dX13_sackOf_15 : decode cX13_sackOf 15 = .ok (.getfield 7, 3) := by decide +kernel
theorem dX13_sackOf_18 : decode cX13_sackOf 18 = .ok (.bipush 76, 2) := by decide +kernel
theorem dX13_sackOf_20 : decode cX13_sackOf 20 = .ok (.iload_n 1, 1) := by decide +kernel
theorem dX13_sackOf_21 : decode cX13_sackOf 21 = .ok (.iadd, 1) := by decide +kernel
theorem dX13_sackOf_22 : decode cX13_sackOf 22 = .ok (.iaload, 1) := by decide +kernel
theorem dX13_sackOf_23 : decode cX13_sackOf 23 = .ok (.iconst 1, 1) := by decide +kernel
theorem dX13_sackOf_24 : decode cX13_sackOf 24 = .ok (.if_icmp .ne 19, 3) := by decide +kernel
theorem dX13_sackOf_27 : decode cX13_sackOf 27 = .ok (.aload_n 0, 1) := by decide +kernel
theorem dX13_sackOf_28 : decode cX13_sackOf 28 = .ok (.aload_n 0, 1) := by decide +kernel
theorem dX13_sackOf_29 : decode cX13_sackOf 29 = .ok (.getfield 7, 3) := by decide +kernel
theorem dX13_sackOf_32 : decode cX13_sackOf 32 = .ok (.bipush 88, 2) := by decide +kernel
theorem dX13_sackOf_34 : decode cX13_sackOf 34 = .ok (.iload_n 1, 1) := by decide +kernel
theorem dX13_sackOf_35 : decode cX13_sackOf 35 = .ok (.iadd, 1) := by decide +kernel
theorem dX13_sackOf_36 : decode cX13_sackOf 36 = .ok (.iaload, 1) := by decide +kernel
theorem dX13_sackOf_37 : decode cX13_sackOf 37 = .ok (.invokevirtual 72, 3) := by decide +kernel
theorem dX13_sackOf_40 : decode cX13_sackOf 40 = .ok (.goto 8, 3) := by decide +kernel
theorem dX13_sackOf_43 : decode cX13_sackOf 43 = .ok (.aload_n 0, 1) := by decide +kernel
theorem dX13_sackOf_44 : decode cX13_sackOf 44 = .ok (.iconst 2, 1) := by decide +kernel
theorem dX13_sackOf_45 : decode cX13_sackOf 45 = .ok (.invokevirtual 64, 3) := by decide +kernel
theorem dX13_sackOf_48 : decode cX13_sackOf 48 = .ok (.ireturn, 1) := by decide +kernel
theorem dX13_returns_0 : decode cX13_returns 0 = .ok (.aload_n 0, 1) := by decide +kernel
theorem dX13_returns_1 : decode cX13_returns 1 = .ok (.bipush 100, 2) := by decide +kernel
theorem dX13_returns_3 : decode cX13_returns 3 = .ok (.iload_n 1, 1) := by decide +kernel
theorem dX13_returns_4 : decode cX13_returns 4 = .ok (.invokevirtual 138, 3) := by decide +kernel
theorem dX13_returns_7 : decode cX13_returns 7 = .ok (.ireturn, 1) := by decide +kernel
theorem dX13_inState_0 : decode cX13_inState 0 = .ok (.iconst 0, 1) := by decide +kernel
theorem dX13_inState_1 : decode cX13_inState 1 = .ok (.istore_n 2, 1) := by decide +kernel
theorem dX13_inState_2 : decode cX13_inState 2 = .ok (.iconst 0, 1) := by decide +kernel
theorem dX13_inState_3 : decode cX13_inState 3 = .ok (.istore_n 3, 1) := by decide +kernel
theorem dX13_inState_4 : decode cX13_inState 4 = .ok (.iload_n 3, 1) := by decide +kernel
theorem dX13_inState_5 : decode cX13_inState 5 = .ok (.aload_n 0, 1) := by decide +kernel
theorem dX13_inState_6 : decode cX13_inState 6 = .ok (.getfield 7, 3) := by decide +kernel
theorem dX13_inState_9 : decode cX13_inState 9 = .ok (.bipush 36, 2) := by decide +kernel
theorem dX13_inState_11 : decode cX13_inState 11 = .ok (.iaload, 1) := by decide +kernel
theorem dX13_inState_12 : decode cX13_inState 12 = .ok (.if_icmp .ge 30, 3) := by decide +kernel
theorem dX13_inState_15 : decode cX13_inState 15 = .ok (.iload_n 2, 1) := by decide +kernel
theorem dX13_inState_16 : decode cX13_inState 16 = .ok (.aload_n 0, 1) := by decide +kernel
theorem dX13_inState_17 : decode cX13_inState 17 = .ok (.getfield 7, 3) := by decide +kernel
theorem dX13_inState_20 : decode cX13_inState 20 = .ok (.bipush 76, 2) := by decide +kernel
theorem dX13_inState_22 : decode cX13_inState 22 = .ok (.iload_n 3, 1) := by decide +kernel
theorem dX13_inState_23 : decode cX13_inState 23 = .ok (.iadd, 1) := by decide +kernel
theorem dX13_inState_24 : decode cX13_inState 24 = .ok (.iaload, 1) := by decide +kernel
theorem dX13_inState_25 : decode cX13_inState 25 = .ok (.iload_n 1, 1) := by decide +kernel
theorem dX13_inState_26 : decode cX13_inState 26 = .ok (.if_icmp .ne 7, 3) := by decide +kernel
theorem dX13_inState_29 : decode cX13_inState 29 = .ok (.iconst 1, 1) := by decide +kernel
theorem dX13_inState_30 : decode cX13_inState 30 = .ok (.goto 4, 3) := by decide +kernel
theorem dX13_inState_33 : decode cX13_inState 33 = .ok (.iconst 0, 1) := by decide +kernel
theorem dX13_inState_34 : decode cX13_inState 34 = .ok (.iadd, 1) := by decide +kernel
theorem dX13_inState_35 : decode cX13_inState 35 = .ok (.istore_n 2, 1) := by decide +kernel
theorem dX13_inState_36 : decode cX13_inState 36 = .ok (.iinc 3 1, 3) := by decide +kernel
theorem dX13_inState_39 : decode cX13_inState 39 = .ok (.goto (-35), 3) := by decide +kernel
theorem dX13_inState_42 : decode cX13_inState 42 = .ok (.iload_n 2, 1) := by decide +kernel
theorem dX13_inState_43 : decode cX13_inState 43 = .ok (.ireturn, 1) := by decide +kernel
theorem dX13_waitingCount_0 : decode cX13_waitingCount 0 = .ok (.aload_n 0, 1) := by decide +kernel
theorem dX13_waitingCount_1 : decode cX13_waitingCount 1 = .ok (.aload_n 0, 1) := by decide +kernel
theorem dX13_waitingCount_2 : decode cX13_waitingCount 2 = .ok (.iconst 0, 1) := by decide +kernel
theorem dX13_waitingCount_3 : decode cX13_waitingCount 3 = .ok (.invokevirtual 141, 3) := by decide +kernel
theorem dX13_waitingCount_6 : decode cX13_waitingCount 6 = .ok (.invokevirtual 72, 3) := by decide +kernel
theorem dX13_waitingCount_9 : decode cX13_waitingCount 9 = .ok (.ireturn, 1) := by decide +kernel
theorem dX13_deliveredCount_0 : decode cX13_deliveredCount 0 = .ok (.aload_n 0, 1) := by decide +kernel
theorem dX13_deliveredCount_1 : decode cX13_deliveredCount 1 = .ok (.aload_n 0, 1) := by decide +kernel
theorem dX13_deliveredCount_2 : decode cX13_deliveredCount 2 = .ok (.iconst 2, 1) := by decide +kernel
theorem dX13_deliveredCount_3 : decode cX13_deliveredCount 3 = .ok (.invokevirtual 141, 3) := by decide +kernel
theorem dX13_deliveredCount_6 : decode cX13_deliveredCount 6 = .ok (.invokevirtual 72, 3) := by decide +kernel
theorem dX13_deliveredCount_9 : decode cX13_deliveredCount 9 = .ok (.ireturn, 1) := by decide +kernel
theorem dX13_gloveCount_0 : decode cX13_gloveCount 0 = .ok (.aload_n 0, 1) := by decide +kernel
theorem dX13_gloveCount_1 : decode cX13_gloveCount 1 = .ok (.aload_n 0, 1) := by decide +kernel
theorem dX13_gloveCount_2 : decode cX13_gloveCount 2 = .ok (.getfield 7, 3) := by decide +kernel
theorem dX13_gloveCount_5 : decode cX13_gloveCount 5 = .ok (.bipush 37, 2) := by decide +kernel
theorem dX13_gloveCount_7 : decode cX13_gloveCount 7 = .ok (.iaload, 1) := by decide +kernel
theorem dX13_gloveCount_8 : decode cX13_gloveCount 8 = .ok (.invokevirtual 72, 3) := by decide +kernel
theorem dX13_gloveCount_11 : decode cX13_gloveCount 11 = .ok (.ireturn, 1) := by decide +kernel
theorem dX13_grade_0 : decode cX13_grade 0 = .ok (.aload_n 0, 1) := by decide +kernel
theorem dX13_grade_1 : decode cX13_grade 1 = .ok (.iload_n 1, 1) := by decide +kernel
theorem dX13_grade_2 : decode cX13_grade 2 = .ok (.invokevirtual 144, 3) := by decide +kernel
theorem dX13_grade_5 : decode cX13_grade 5 = .ok (.ifCond .eq 19, 3) := by decide +kernel
theorem dX13_grade_8 : decode cX13_grade 8 = .ok (.aload_n 0, 1) := by decide +kernel
theorem dX13_grade_9 : decode cX13_grade 9 = .ok (.aload_n 0, 1) := by decide +kernel
theorem dX13_grade_10 : decode cX13_grade 10 = .ok (.getfield 7, 3) := by decide +kernel
theorem dX13_grade_13 : decode cX13_grade 13 = .ok (.bipush 112, 2) := by decide +kernel
theorem dX13_grade_15 : decode cX13_grade 15 = .ok (.iload_n 1, 1) := by decide +kernel
theorem dX13_grade_16 : decode cX13_grade 16 = .ok (.iadd, 1) := by decide +kernel
theorem dX13_grade_17 : decode cX13_grade 17 = .ok (.iaload, 1) := by decide +kernel
theorem dX13_grade_18 : decode cX13_grade 18 = .ok (.invokevirtual 72, 3) := by decide +kernel
theorem dX13_grade_21 : decode cX13_grade 21 = .ok (.goto 8, 3) := by decide +kernel
theorem dX13_grade_24 : decode cX13_grade 24 = .ok (.aload_n 0, 1) := by decide +kernel
theorem dX13_grade_25 : decode cX13_grade 25 = .ok (.iconst 1, 1) := by decide +kernel
theorem dX13_grade_26 : decode cX13_grade 26 = .ok (.invokevirtual 64, 3) := by decide +kernel
theorem dX13_grade_29 : decode cX13_grade 29 = .ok (.ireturn, 1) := by decide +kernel
theorem dX13_usesLeft_0 : decode cX13_usesLeft 0 = .ok (.aload_n 0, 1) := by decide +kernel
theorem dX13_usesLeft_1 : decode cX13_usesLeft 1 = .ok (.iload_n 1, 1) := by decide +kernel
theorem dX13_usesLeft_2 : decode cX13_usesLeft 2 = .ok (.invokevirtual 144, 3) := by decide +kernel
theorem dX13_usesLeft_5 : decode cX13_usesLeft 5 = .ok (.ifCond .eq 21, 3) := by decide +kernel
theorem dX13_usesLeft_8 : decode cX13_usesLeft 8 = .ok (.aload_n 0, 1) := by decide +kernel
theorem dX13_usesLeft_9 : decode cX13_usesLeft 9 = .ok (.iconst 3, 1) := by decide +kernel
theorem dX13_usesLeft_10 : decode cX13_usesLeft 10 = .ok (.aload_n 0, 1) := by decide +kernel
theorem dX13_usesLeft_11 : decode cX13_usesLeft 11 = .ok (.getfield 7, 3) := by decide +kernel
theorem dX13_usesLeft_14 : decode cX13_usesLeft 14 = .ok (.bipush 120, 2) := by decide +kernel
theorem dX13_usesLeft_16 : decode cX13_usesLeft 16 = .ok (.iload_n 1, 1) := by decide +kernel
theorem dX13_usesLeft_17 : decode cX13_usesLeft 17 = .ok (.iadd, 1) := by decide +kernel
theorem dX13_usesLeft_18 : decode cX13_usesLeft 18 = .ok (.iaload, 1) := by decide +kernel
theorem dX13_usesLeft_19 : decode cX13_usesLeft 19 = .ok (.isub, 1) := by decide +kernel
theorem dX13_usesLeft_20 : decode cX13_usesLeft 20 = .ok (.invokevirtual 72, 3) := by decide +kernel
theorem dX13_usesLeft_23 : decode cX13_usesLeft 23 = .ok (.goto 8, 3) := by decide +kernel
theorem dX13_usesLeft_26 : decode cX13_usesLeft 26 = .ok (.aload_n 0, 1) := by decide +kernel
theorem dX13_usesLeft_27 : decode cX13_usesLeft 27 = .ok (.iconst 1, 1) := by decide +kernel
theorem dX13_usesLeft_28 : decode cX13_usesLeft 28 = .ok (.invokevirtual 64, 3) := by decide +kernel
theorem dX13_usesLeft_31 : decode cX13_usesLeft 31 = .ok (.ireturn, 1) := by decide +kernel
theorem dX13_gloveFor_0 : decode cX13_gloveFor 0 = .ok (.aload_n 0, 1) := by decide +kernel
theorem dX13_gloveFor_1 : decode cX13_gloveFor 1 = .ok (.iload_n 1, 1) := by decide +kernel
theorem dX13_gloveFor_2 : decode cX13_gloveFor 2 = .ok (.invokevirtual 111, 3) := by decide +kernel
theorem dX13_gloveFor_5 : decode cX13_gloveFor 5 = .ok (.ifCond .ne 9, 3) := by decide +kernel
theorem dX13_gloveFor_8 : decode cX13_gloveFor 8 = .ok (.aload_n 0, 1) := by decide +kernel
theorem dX13_gloveFor_9 : decode cX13_gloveFor 9 = .ok (.iconst 1, 1) := by decide +kernel
theorem dX13_gloveFor_10 : decode cX13_gloveFor 10 = .ok (.invokevirtual 64, 3) := by decide +kernel
theorem dX13_gloveFor_13 : decode cX13_gloveFor 13 = .ok (.ireturn, 1) := by decide +kernel
theorem dX13_gloveFor_14 : decode cX13_gloveFor 14 = .ok (.aload_n 0, 1) := by decide +kernel
theorem dX13_gloveFor_15 : decode cX13_gloveFor 15 = .ok (.getfield 7, 3) := by decide +kernel
theorem dX13_gloveFor_18 : decode cX13_gloveFor 18 = .ok (.bipush 52, 2) := by decide +kernel
theorem dX13_gloveFor_20 : decode cX13_gloveFor 20 = .ok (.iload_n 1, 1) := by decide +kernel
theorem dX13_gloveFor_21 : decode cX13_gloveFor 21 = .ok (.iadd, 1) := by decide +kernel
theorem dX13_gloveFor_22 : decode cX13_gloveFor 22 = .ok (.iaload, 1) := by decide +kernel
theorem dX13_gloveFor_23 : decode cX13_gloveFor 23 = .ok (.ifCond .ne 9, 3) := by decide +kernel
theorem dX13_gloveFor_26 : decode cX13_gloveFor 26 = .ok (.aload_n 0, 1) := by decide +kernel
theorem dX13_gloveFor_27 : decode cX13_gloveFor 27 = .ok (.iconst 2, 1) := by decide +kernel
theorem dX13_gloveFor_28 : decode cX13_gloveFor 28 = .ok (.invokevirtual 64, 3) := by decide +kernel
theorem dX13_gloveFor_31 : decode cX13_gloveFor 31 = .ok (.ireturn, 1) := by decide +kernel
theorem dX13_gloveFor_32 : decode cX13_gloveFor 32 = .ok (.aload_n 0, 1) := by decide +kernel
theorem dX13_gloveFor_33 : decode cX13_gloveFor 33 = .ok (.aload_n 0, 1) := by decide +kernel
theorem dX13_gloveFor_34 : decode cX13_gloveFor 34 = .ok (.getfield 7, 3) := by decide +kernel
theorem dX13_gloveFor_37 : decode cX13_gloveFor 37 = .ok (.bipush 52, 2) := by decide +kernel
theorem dX13_gloveFor_39 : decode cX13_gloveFor 39 = .ok (.iload_n 1, 1) := by decide +kernel
theorem dX13_gloveFor_40 : decode cX13_gloveFor 40 = .ok (.iadd, 1) := by decide +kernel
theorem dX13_gloveFor_41 : decode cX13_gloveFor 41 = .ok (.iaload, 1) := by decide +kernel
theorem dX13_gloveFor_42 : decode cX13_gloveFor 42 = .ok (.invokevirtual 108, 3) := by decide +kernel
theorem dX13_gloveFor_45 : decode cX13_gloveFor 45 = .ok (.istore_n 2, 1) := by decide +kernel
theorem dX13_gloveFor_46 : decode cX13_gloveFor 46 = .ok (.iload_n 2, 1) := by decide +kernel
theorem dX13_gloveFor_47 : decode cX13_gloveFor 47 = .ok (.iconst (-1), 1) := by decide +kernel
theorem dX13_gloveFor_48 : decode cX13_gloveFor 48 = .ok (.if_icmp .ne 11, 3) := by decide +kernel
theorem dX13_gloveFor_51 : decode cX13_gloveFor 51 = .ok (.aload_n 0, 1) := by decide +kernel
theorem dX13_gloveFor_52 : decode cX13_gloveFor 52 = .ok (.iconst 3, 1) := by decide +kernel
theorem dX13_gloveFor_53 : decode cX13_gloveFor 53 = .ok (.invokevirtual 64, 3) := by decide +kernel
theorem dX13_gloveFor_56 : decode cX13_gloveFor 56 = .ok (.goto 8, 3) := by decide +kernel
theorem dX13_gloveFor_59 : decode cX13_gloveFor 59 = .ok (.aload_n 0, 1) := by decide +kernel
theorem dX13_gloveFor_60 : decode cX13_gloveFor 60 = .ok (.iload_n 2, 1) := by decide +kernel
theorem dX13_gloveFor_61 : decode cX13_gloveFor 61 = .ok (.invokevirtual 72, 3) := by decide +kernel
theorem dX13_gloveFor_64 : decode cX13_gloveFor 64 = .ok (.ireturn, 1) := by decide +kernel
theorem dX13_canHandle_0 : decode cX13_canHandle 0 = .ok (.aload_n 0, 1) := by decide +kernel
theorem dX13_canHandle_1 : decode cX13_canHandle 1 = .ok (.aload_n 0, 1) := by decide +kernel
theorem dX13_canHandle_2 : decode cX13_canHandle 2 = .ok (.iload_n 1, 1) := by decide +kernel
theorem dX13_canHandle_3 : decode cX13_canHandle 3 = .ok (.invokevirtual 111, 3) := by decide +kernel
theorem dX13_canHandle_6 : decode cX13_canHandle 6 = .ok (.ifCond .eq 7, 3) := by decide +kernel
theorem dX13_canHandle_9 : decode cX13_canHandle 9 = .ok (.iconst 0, 1) := by decide +kernel
theorem dX13_canHandle_10 : decode cX13_canHandle 10 = .ok (.goto 4, 3) := by decide +kernel
theorem dX13_canHandle_13 : decode cX13_canHandle 13 = .ok (.iconst 1, 1) := by decide +kernel
theorem dX13_canHandle_14 : decode cX13_canHandle 14 = .ok (.putfield 42, 3) := by decide +kernel
theorem dX13_canHandle_17 : decode cX13_canHandle 17 = .ok (.aload_n 0, 1) := by decide +kernel
theorem dX13_canHandle_18 : decode cX13_canHandle 18 = .ok (.getfield 42, 3) := by decide +kernel
theorem dX13_canHandle_21 : decode cX13_canHandle 21 = .ok (.ifCond .ne 15, 3) := by decide +kernel
theorem dX13_canHandle_24 : decode cX13_canHandle 24 = .ok (.aload_n 0, 1) := by decide +kernel
theorem dX13_canHandle_25 : decode cX13_canHandle 25 = .ok (.iload_n 1, 1) := by decide +kernel
theorem dX13_canHandle_26 : decode cX13_canHandle 26 = .ok (.invokevirtual 114, 3) := by decide +kernel
theorem dX13_canHandle_29 : decode cX13_canHandle 29 = .ok (.ifCond .eq 7, 3) := by decide +kernel
theorem dX13_canHandle_32 : decode cX13_canHandle 32 = .ok (.iconst 1, 1) := by decide +kernel
theorem dX13_canHandle_33 : decode cX13_canHandle 33 = .ok (.goto 4, 3) := by decide +kernel
theorem dX13_canHandle_36 : decode cX13_canHandle 36 = .ok (.iconst 0, 1) := by decide +kernel
theorem dX13_canHandle_37 : decode cX13_canHandle 37 = .ok (.ireturn, 1) := by decide +kernel
theorem dX13_shortage_0 : decode cX13_shortage 0 = .ok (.iconst 0, 1) := by decide +kernel
theorem dX13_shortage_1 : decode cX13_shortage 1 = .ok (.istore_n 2, 1) := by decide +kernel
theorem dX13_shortage_2 : decode cX13_shortage 2 = .ok (.iconst 0, 1) := by decide +kernel
theorem dX13_shortage_3 : decode cX13_shortage 3 = .ok (.istore_n 3, 1) := by decide +kernel
theorem dX13_shortage_4 : decode cX13_shortage 4 = .ok (.iload_n 3, 1) := by decide +kernel
theorem dX13_shortage_5 : decode cX13_shortage 5 = .ok (.aload_n 0, 1) := by decide +kernel
theorem dX13_shortage_6 : decode cX13_shortage 6 = .ok (.getfield 7, 3) := by decide +kernel
theorem dX13_shortage_9 : decode cX13_shortage 9 = .ok (.bipush 36, 2) := by decide +kernel
theorem dX13_shortage_11 : decode cX13_shortage 11 = .ok (.iaload, 1) := by decide +kernel
theorem dX13_shortage_12 : decode cX13_shortage 12 = .ok (.if_icmp .ge 42, 3) := by decide +kernel
theorem dX13_shortage_15 : decode cX13_shortage 15 = .ok (.iload_n 2, 1) := by decide +kernel
theorem dX13_shortage_16 : decode cX13_shortage 16 = .ok (.aload_n 0, 1) := by decide +kernel
theorem dX13_shortage_17 : decode cX13_shortage 17 = .ok (.getfield 7, 3) := by decide +kernel
theorem dX13_shortage_20 : decode cX13_shortage 20 = .ok (.bipush 76, 2) := by decide +kernel
theorem dX13_shortage_22 : decode cX13_shortage 22 = .ok (.iload_n 3, 1) := by decide +kernel
theorem dX13_shortage_23 : decode cX13_shortage 23 = .ok (.iadd, 1) := by decide +kernel
theorem dX13_shortage_24 : decode cX13_shortage 24 = .ok (.iaload, 1) := by decide +kernel
theorem dX13_shortage_25 : decode cX13_shortage 25 = .ok (.ifCond .ne 20, 3) := by decide +kernel
theorem dX13_shortage_28 : decode cX13_shortage 28 = .ok (.aload_n 0, 1) := by decide +kernel
theorem dX13_shortage_29 : decode cX13_shortage 29 = .ok (.getfield 7, 3) := by decide +kernel
theorem dX13_shortage_32 : decode cX13_shortage 32 = .ok (.bipush 52, 2) := by decide +kernel
theorem dX13_shortage_34 : decode cX13_shortage 34 = .ok (.iload_n 3, 1) := by decide +kernel
theorem dX13_shortage_35 : decode cX13_shortage 35 = .ok (.iadd, 1) := by decide +kernel
theorem dX13_shortage_36 : decode cX13_shortage 36 = .ok (.iaload, 1) := by decide +kernel
theorem dX13_shortage_37 : decode cX13_shortage 37 = .ok (.iload_n 1, 1) := by decide +kernel
theorem dX13_shortage_38 : decode cX13_shortage 38 = .ok (.if_icmp .lt 7, 3) := by decide +kernel
theorem dX13_shortage_41 : decode cX13_shortage 41 = .ok (.iconst 1, 1) := by decide +kernel
theorem dX13_shortage_42 : decode cX13_shortage 42 = .ok (.goto 4, 3) := by decide +kernel
theorem dX13_shortage_45 : decode cX13_shortage 45 = .ok (.iconst 0, 1) := by decide +kernel
theorem dX13_shortage_46 : decode cX13_shortage 46 = .ok (.iadd, 1) := by decide +kernel
theorem dX13_shortage_47 : decode cX13_shortage 47 = .ok (.istore_n 2, 1) := by decide +kernel
theorem dX13_shortage_48 : decode cX13_shortage 48 = .ok (.iinc 3 1, 3) := by decide +kernel
theorem dX13_shortage_51 : decode cX13_shortage 51 = .ok (.goto (-47), 3) := by decide +kernel
theorem dX13_shortage_54 : decode cX13_shortage 54 = .ok (.iconst 0, 1) := by decide +kernel
theorem dX13_shortage_55 : decode cX13_shortage 55 = .ok (.istore_n 3, 1) := by decide +kernel
theorem dX13_shortage_56 : decode cX13_shortage 56 = .ok (.iload_n 3, 1) := by decide +kernel
theorem dX13_shortage_57 : decode cX13_shortage 57 = .ok (.aload_n 0, 1) := by decide +kernel
theorem dX13_shortage_58 : decode cX13_shortage 58 = .ok (.getfield 7, 3) := by decide +kernel
theorem dX13_shortage_61 : decode cX13_shortage 61 = .ok (.bipush 37, 2) := by decide +kernel
theorem dX13_shortage_63 : decode cX13_shortage 63 = .ok (.iaload, 1) := by decide +kernel
theorem dX13_shortage_64 : decode cX13_shortage 64 = .ok (.if_icmp .ge 40, 3) := by decide +kernel
theorem dX13_shortage_67 : decode cX13_shortage 67 = .ok (.iload_n 2, 1) := by decide +kernel
theorem dX13_shortage_68 : decode cX13_shortage 68 = .ok (.aload_n 0, 1) := by decide +kernel
theorem dX13_shortage_69 : decode cX13_shortage 69 = .ok (.getfield 7, 3) := by decide +kernel
theorem dX13_shortage_72 : decode cX13_shortage 72 = .ok (.bipush 112, 2) := by decide +kernel
theorem dX13_shortage_74 : decode cX13_shortage 74 = .ok (.iload_n 3, 1) := by decide +kernel
theorem dX13_shortage_75 : decode cX13_shortage 75 = .ok (.iadd, 1) := by decide +kernel
theorem dX13_shortage_76 : decode cX13_shortage 76 = .ok (.iaload, 1) := by decide +kernel
theorem dX13_shortage_77 : decode cX13_shortage 77 = .ok (.iload_n 1, 1) := by decide +kernel
theorem dX13_shortage_78 : decode cX13_shortage 78 = .ok (.if_icmp .lt 17, 3) := by decide +kernel
theorem dX13_shortage_81 : decode cX13_shortage 81 = .ok (.iconst 3, 1) := by decide +kernel
theorem dX13_shortage_82 : decode cX13_shortage 82 = .ok (.aload_n 0, 1) := by decide +kernel
theorem dX13_shortage_83 : decode cX13_shortage 83 = .ok (.getfield 7, 3) := by decide +kernel
theorem dX13_shortage_86 : decode cX13_shortage 86 = .ok (.bipush 120, 2) := by decide +kernel
theorem dX13_shortage_88 : decode cX13_shortage 88 = .ok (.iload_n 3, 1) := by decide +kernel
theorem dX13_shortage_89 : decode cX13_shortage 89 = .ok (.iadd, 1) := by decide +kernel
theorem dX13_shortage_90 : decode cX13_shortage 90 = .ok (.iaload, 1) := by decide +kernel
theorem dX13_shortage_91 : decode cX13_shortage 91 = .ok (.isub, 1) := by decide +kernel
theorem dX13_shortage_92 : decode cX13_shortage 92 = .ok (.goto 4, 3) := by decide +kernel
theorem dX13_shortage_95 : decode cX13_shortage 95 = .ok (.iconst 0, 1) := by decide +kernel
theorem dX13_shortage_96 : decode cX13_shortage 96 = .ok (.isub, 1) := by decide +kernel
theorem dX13_shortage_97 : decode cX13_shortage 97 = .ok (.istore_n 2, 1) := by decide +kernel
theorem dX13_shortage_98 : decode cX13_shortage 98 = .ok (.iinc 3 1, 3) := by decide +kernel
theorem dX13_shortage_101 : decode cX13_shortage 101 = .ok (.goto (-45), 3) := by decide +kernel
theorem dX13_shortage_104 : decode cX13_shortage 104 = .ok (.iload_n 2, 1) := by decide +kernel
theorem dX13_shortage_105 : decode cX13_shortage 105 = .ok (.ireturn, 1) := by decide +kernel
theorem dX13_handleable_0 : decode cX13_handleable 0 = .ok (.iconst 0, 1) := by decide +kernel
theorem dX13_handleable_1 : decode cX13_handleable 1 = .ok (.istore_n 1, 1) := by decide +kernel
theorem dX13_handleable_2 : decode cX13_handleable 2 = .ok (.iconst 1, 1) := by decide +kernel
theorem dX13_handleable_3 : decode cX13_handleable 3 = .ok (.istore_n 2, 1) := by decide +kernel
theorem dX13_handleable_4 : decode cX13_handleable 4 = .ok (.iload_n 2, 1) := by decide +kernel
theorem dX13_handleable_5 : decode cX13_handleable 5 = .ok (.iconst 3, 1) := by decide +kernel
theorem dX13_handleable_6 : decode cX13_handleable 6 = .ok (.if_icmp .gt 28, 3) := by decide +kernel
theorem dX13_handleable_9 : decode cX13_handleable 9 = .ok (.aload_n 0, 1) := by decide +kernel
theorem dX13_handleable_10 : decode cX13_handleable 10 = .ok (.iload_n 2, 1) := by decide +kernel
theorem dX13_handleable_11 : decode cX13_handleable 11 = .ok (.invokevirtual 147, 3) := by decide +kernel
theorem dX13_handleable_14 : decode cX13_handleable 14 = .ok (.iload_n 1, 1) := by decide +kernel
theorem dX13_handleable_15 : decode cX13_handleable 15 = .ok (.if_icmp .le 11, 3) := by decide +kernel
theorem dX13_handleable_18 : decode cX13_handleable 18 = .ok (.aload_n 0, 1) := by decide +kernel
theorem dX13_handleable_19 : decode cX13_handleable 19 = .ok (.iload_n 2, 1) := by decide +kernel
theorem dX13_handleable_20 : decode cX13_handleable 20 = .ok (.invokevirtual 147, 3) := by decide +kernel
theorem dX13_handleable_23 : decode cX13_handleable 23 = .ok (.goto 4, 3) := by decide +kernel
theorem dX13_handleable_26 : decode cX13_handleable 26 = .ok (.iload_n 1, 1) := by decide +kernel
theorem dX13_handleable_27 : decode cX13_handleable 27 = .ok (.istore_n 1, 1) := by decide +kernel
theorem dX13_handleable_28 : decode cX13_handleable 28 = .ok (.iinc 2 1, 3) := by decide +kernel
theorem dX13_handleable_31 : decode cX13_handleable 31 = .ok (.goto (-27), 3) := by decide +kernel
theorem dX13_handleable_34 : decode cX13_handleable 34 = .ok (.aload_n 0, 1) := by decide +kernel
theorem dX13_handleable_35 : decode cX13_handleable 35 = .ok (.aload_n 0, 1) := by decide +kernel
theorem dX13_handleable_36 : decode cX13_handleable 36 = .ok (.iconst 0, 1) := by decide +kernel
theorem dX13_handleable_37 : decode cX13_handleable 37 = .ok (.invokevirtual 141, 3) := by decide +kernel
theorem dX13_handleable_40 : decode cX13_handleable 40 = .ok (.iload_n 1, 1) := by decide +kernel
theorem dX13_handleable_41 : decode cX13_handleable 41 = .ok (.isub, 1) := by decide +kernel
theorem dX13_handleable_42 : decode cX13_handleable 42 = .ok (.invokevirtual 72, 3) := by decide +kernel
theorem dX13_handleable_45 : decode cX13_handleable 45 = .ok (.ireturn, 1) := by decide +kernel
theorem dX13_handleableByShortage_0 : decode cX13_handleableByShortage 0 = .ok (.aload_n 0, 1) := by decide +kernel
theorem dX13_handleableByShortage_1 : decode cX13_handleableByShortage 1 = .ok (.invokevirtual 150, 3) := by decide +kernel
theorem dX13_handleableByShortage_4 : decode cX13_handleableByShortage 4 = .ok (.ireturn, 1) := by decide +kernel
theorem dX13_sackNumber_0 : decode cX13_sackNumber 0 = .ok (.iload_n 2, 1) := by decide +kernel
theorem dX13_sackNumber_1 : decode cX13_sackNumber 1 = .ok (.invokestatic 95, 3) := by decide +kernel
theorem dX13_sackNumber_4 : decode cX13_sackNumber 4 = .ok (.ifCond .eq 18, 3) := by decide +kernel
theorem dX13_sackNumber_7 : decode cX13_sackNumber 7 = .ok (.aload_n 0, 1) := by decide +kernel
theorem dX13_sackNumber_8 : decode cX13_sackNumber 8 = .ok (.aload_n 0, 1) := by decide +kernel
theorem dX13_sackNumber_9 : decode cX13_sackNumber 9 = .ok (.getfield 7, 3) := by decide +kernel
theorem dX13_sackNumber_12 : decode cX13_sackNumber 12 = .ok (.iload_n 1, 1) := by decide +kernel
theorem dX13_sackNumber_13 : decode cX13_sackNumber 13 = .ok (.iload_n 2, 1) := by decide +kernel
theorem dX13_sackNumber_14 : decode cX13_sackNumber 14 = .ok (.iadd, 1) := by decide +kernel
theorem dX13_sackNumber_15 : decode cX13_sackNumber 15 = .ok (.iaload, 1) := by decide +kernel
theorem dX13_sackNumber_16 : decode cX13_sackNumber 16 = .ok (.invokevirtual 72, 3) := by decide +kernel
theorem dX13_sackNumber_19 : decode cX13_sackNumber 19 = .ok (.goto 8, 3) := by decide +kernel
theorem dX13_sackNumber_22 : decode cX13_sackNumber 22 = .ok (.aload_n 0, 1) := by decide +kernel
theorem dX13_sackNumber_23 : decode cX13_sackNumber 23 = .ok (.iconst 1, 1) := by decide +kernel
theorem dX13_sackNumber_24 : decode cX13_sackNumber 24 = .ok (.invokevirtual 64, 3) := by decide +kernel
theorem dX13_sackNumber_27 : decode cX13_sackNumber 27 = .ok (.ireturn, 1) := by decide +kernel
theorem dX13_place_0 : decode cX13_place 0 = .ok (.aload_n 0, 1) := by decide +kernel
theorem dX13_place_1 : decode cX13_place 1 = .ok (.sipush 128, 3) := by decide +kernel
theorem dX13_place_4 : decode cX13_place 4 = .ok (.iload_n 1, 1) := by decide +kernel
theorem dX13_place_5 : decode cX13_place 5 = .ok (.invokevirtual 153, 3) := by decide +kernel
theorem dX13_place_8 : decode cX13_place 8 = .ok (.ireturn, 1) := by decide +kernel
theorem dX13_capacity_0 : decode cX13_capacity 0 = .ok (.aload_n 0, 1) := by decide +kernel
theorem dX13_capacity_1 : decode cX13_capacity 1 = .ok (.sipush 131, 3) := by decide +kernel
theorem dX13_capacity_4 : decode cX13_capacity 4 = .ok (.iload_n 1, 1) := by decide +kernel
theorem dX13_capacity_5 : decode cX13_capacity 5 = .ok (.invokevirtual 153, 3) := by decide +kernel
theorem dX13_capacity_8 : decode cX13_capacity 8 = .ok (.ireturn, 1) := by decide +kernel
theorem dX13_load_0 : decode cX13_load 0 = .ok (.iload_n 1, 1) := by decide +kernel
theorem dX13_load_1 : decode cX13_load 1 = .ok (.invokestatic 95, 3) := by decide +kernel
theorem dX13_load_4 : decode cX13_load 4 = .ok (.ifCond .eq 15, 3) := by decide +kernel
theorem dX13_load_7 : decode cX13_load 7 = .ok (.aload_n 0, 1) := by decide +kernel
theorem dX13_load_8 : decode cX13_load 8 = .ok (.aload_n 0, 1) := by decide +kernel
theorem dX13_load_9 : decode cX13_load 9 = .ok (.iload_n 1, 1) := by decide +kernel
theorem dX13_load_10 : decode cX13_load 10 = .ok (.invokevirtual 98, 3) := by decide +kernel
theorem dX13_load_13 : decode cX13_load 13 = .ok (.invokevirtual 72, 3) := by decide +kernel
theorem dX13_load_16 : decode cX13_load 16 = .ok (.goto 8, 3) := by decide +kernel
theorem dX13_load_19 : decode cX13_load 19 = .ok (.aload_n 0, 1) := by decide +kernel
theorem dX13_load_20 : decode cX13_load 20 = .ok (.iconst 1, 1) := by decide +kernel
theorem dX13_load_21 : decode cX13_load 21 = .ok (.invokevirtual 64, 3) := by decide +kernel
theorem dX13_load_24 : decode cX13_load 24 = .ok (.ireturn, 1) := by decide +kernel
theorem dX13_parcelsIn_0 : decode cX13_parcelsIn 0 = .ok (.iload_n 1, 1) := by decide +kernel
theorem dX13_parcelsIn_1 : decode cX13_parcelsIn 1 = .ok (.invokestatic 95, 3) := by decide +kernel
theorem dX13_parcelsIn_4 : decode cX13_parcelsIn 4 = .ok (.ifCond .ne 9, 3) := by decide +kernel
theorem dX13_parcelsIn_7 : decode cX13_parcelsIn 7 = .ok (.aload_n 0, 1) := by decide +kernel
theorem dX13_parcelsIn_8 : decode cX13_parcelsIn 8 = .ok (.iconst 1, 1) := by decide +kernel
theorem dX13_parcelsIn_9 : decode cX13_parcelsIn 9 = .ok (.invokevirtual 64, 3) := by decide +kernel
theorem dX13_parcelsIn_12 : decode cX13_parcelsIn 12 = .ok (.ireturn, 1) := by decide +kernel
theorem dX13_parcelsIn_13 : decode cX13_parcelsIn 13 = .ok (.iconst 0, 1) := by decide +kernel
theorem dX13_parcelsIn_14 : decode cX13_parcelsIn 14 = .ok (.istore_n 2, 1) := by decide +kernel
theorem dX13_parcelsIn_15 : decode cX13_parcelsIn 15 = .ok (.iconst 0, 1) := by decide +kernel
theorem dX13_parcelsIn_16 : decode cX13_parcelsIn 16 = .ok (.istore_n 3, 1) := by decide +kernel
theorem dX13_parcelsIn_17 : decode cX13_parcelsIn 17 = .ok (.iload_n 3, 1) := by decide +kernel
theorem dX13_parcelsIn_18 : decode cX13_parcelsIn 18 = .ok (.aload_n 0, 1) := by decide +kernel
theorem dX13_parcelsIn_19 : decode cX13_parcelsIn 19 = .ok (.getfield 7, 3) := by decide +kernel
theorem dX13_parcelsIn_22 : decode cX13_parcelsIn 22 = .ok (.bipush 36, 2) := by decide +kernel
theorem dX13_parcelsIn_24 : decode cX13_parcelsIn 24 = .ok (.iaload, 1) := by decide +kernel
theorem dX13_parcelsIn_25 : decode cX13_parcelsIn 25 = .ok (.if_icmp .ge 43, 3) := by decide +kernel
theorem dX13_parcelsIn_28 : decode cX13_parcelsIn 28 = .ok (.iload_n 2, 1) := by decide +kernel
theorem dX13_parcelsIn_29 : decode cX13_parcelsIn 29 = .ok (.aload_n 0, 1) := by decide +kernel
theorem dX13_parcelsIn_30 : decode cX13_parcelsIn 30 = .ok (.getfield 7, 3) := by decide +kernel
theorem dX13_parcelsIn_33 : decode cX13_parcelsIn 33 = .ok (.bipush 76, 2) := by decide +kernel
theorem dX13_parcelsIn_35 : decode cX13_parcelsIn 35 = .ok (.iload_n 3, 1) := by decide +kernel
theorem dX13_parcelsIn_36 : decode cX13_parcelsIn 36 = .ok (.iadd, 1) := by decide +kernel
theorem dX13_parcelsIn_37 : decode cX13_parcelsIn 37 = .ok (.iaload, 1) := by decide +kernel
theorem dX13_parcelsIn_38 : decode cX13_parcelsIn 38 = .ok (.iconst 1, 1) := by decide +kernel
theorem dX13_parcelsIn_39 : decode cX13_parcelsIn 39 = .ok (.if_icmp .ne 20, 3) := by decide +kernel
theorem dX13_parcelsIn_42 : decode cX13_parcelsIn 42 = .ok (.aload_n 0, 1) := by decide +kernel
theorem dX13_parcelsIn_43 : decode cX13_parcelsIn 43 = .ok (.getfield 7, 3) := by decide +kernel
theorem dX13_parcelsIn_46 : decode cX13_parcelsIn 46 = .ok (.bipush 88, 2) := by decide +kernel
theorem dX13_parcelsIn_48 : decode cX13_parcelsIn 48 = .ok (.iload_n 3, 1) := by decide +kernel
theorem dX13_parcelsIn_49 : decode cX13_parcelsIn 49 = .ok (.iadd, 1) := by decide +kernel
theorem dX13_parcelsIn_50 : decode cX13_parcelsIn 50 = .ok (.iaload, 1) := by decide +kernel
theorem dX13_parcelsIn_51 : decode cX13_parcelsIn 51 = .ok (.iload_n 1, 1) := by decide +kernel
theorem dX13_parcelsIn_52 : decode cX13_parcelsIn 52 = .ok (.if_icmp .ne 7, 3) := by decide +kernel
theorem dX13_parcelsIn_55 : decode cX13_parcelsIn 55 = .ok (.iconst 1, 1) := by decide +kernel
theorem dX13_parcelsIn_56 : decode cX13_parcelsIn 56 = .ok (.goto 4, 3) := by decide +kernel
theorem dX13_parcelsIn_59 : decode cX13_parcelsIn 59 = .ok (.iconst 0, 1) := by decide +kernel
theorem dX13_parcelsIn_60 : decode cX13_parcelsIn 60 = .ok (.iadd, 1) := by decide +kernel
theorem dX13_parcelsIn_61 : decode cX13_parcelsIn 61 = .ok (.istore_n 2, 1) := by decide +kernel
theorem dX13_parcelsIn_62 : decode cX13_parcelsIn 62 = .ok (.iinc 3 1, 3) := by decide +kernel
theorem dX13_parcelsIn_65 : decode cX13_parcelsIn 65 = .ok (.goto (-48), 3) := by decide +kernel
theorem dX13_parcelsIn_68 : decode cX13_parcelsIn 68 = .ok (.aload_n 0, 1) := by decide +kernel
theorem dX13_parcelsIn_69 : decode cX13_parcelsIn 69 = .ok (.iload_n 2, 1) := by decide +kernel
theorem dX13_parcelsIn_70 : decode cX13_parcelsIn 70 = .ok (.invokevirtual 72, 3) := by decide +kernel
theorem dX13_parcelsIn_73 : decode cX13_parcelsIn 73 = .ok (.ireturn, 1) := by decide +kernel
theorem dX13_mostFitting_0 : decode cX13_mostFitting 0 = .ok (.iload_n 1, 1) := by decide +kernel
theorem dX13_mostFitting_1 : decode cX13_mostFitting 1 = .ok (.invokestatic 95, 3) := by decide +kernel
theorem dX13_mostFitting_4 : decode cX13_mostFitting 4 = .ok (.ifCond .ne 9, 3) := by decide +kernel
theorem dX13_mostFitting_7 : decode cX13_mostFitting 7 = .ok (.aload_n 0, 1) := by decide +kernel
theorem dX13_mostFitting_8 : decode cX13_mostFitting 8 = .ok (.iconst 1, 1) := by decide +kernel
theorem dX13_mostFitting_9 : decode cX13_mostFitting 9 = .ok (.invokevirtual 64, 3) := by decide +kernel
theorem dX13_mostFitting_12 : decode cX13_mostFitting 12 = .ok (.ireturn, 1) := by decide +kernel
theorem dX13_mostFitting_13 : decode cX13_mostFitting 13 = .ok (.aload_n 0, 1) := by decide +kernel
theorem dX13_mostFitting_14 : decode cX13_mostFitting 14 = .ok (.getfield 7, 3) := by decide +kernel
theorem dX13_mostFitting_17 : decode cX13_mostFitting 17 = .ok (.sipush 131, 3) := by decide +kernel
theorem dX13_mostFitting_20 : decode cX13_mostFitting 20 = .ok (.iload_n 1, 1) := by decide +kernel
theorem dX13_mostFitting_21 : decode cX13_mostFitting 21 = .ok (.iadd, 1) := by decide +kernel
theorem dX13_mostFitting_22 : decode cX13_mostFitting 22 = .ok (.iaload, 1) := by decide +kernel
theorem dX13_mostFitting_23 : decode cX13_mostFitting 23 = .ok (.aload_n 0, 1) := by decide +kernel
theorem dX13_mostFitting_24 : decode cX13_mostFitting 24 = .ok (.iload_n 1, 1) := by decide +kernel
theorem dX13_mostFitting_25 : decode cX13_mostFitting 25 = .ok (.invokevirtual 98, 3) := by decide +kernel
theorem dX13_mostFitting_28 : decode cX13_mostFitting 28 = .ok (.isub, 1) := by decide +kernel
theorem dX13_mostFitting_29 : decode cX13_mostFitting 29 = .ok (.istore_n 2, 1) := by decide +kernel
theorem dX13_mostFitting_30 : decode cX13_mostFitting 30 = .ok (.iconst 0, 1) := by decide +kernel
theorem dX13_mostFitting_31 : decode cX13_mostFitting 31 = .ok (.istore_n 3, 1) := by decide +kernel
theorem dX13_mostFitting_32 : decode cX13_mostFitting 32 = .ok (.iconst 1, 1) := by decide +kernel
theorem dX13_mostFitting_33 : decode cX13_mostFitting 33 = .ok (.istore 4, 2) := by decide +kernel
theorem dX13_mostFitting_35 : decode cX13_mostFitting 35 = .ok (.iload 4, 2) := by decide +kernel
theorem dX13_mostFitting_37 : decode cX13_mostFitting 37 = .ok (.bipush 20, 2) := by decide +kernel
theorem dX13_mostFitting_39 : decode cX13_mostFitting 39 = .ok (.if_icmp .gt 72, 3) := by decide +kernel
theorem dX13_mostFitting_42 : decode cX13_mostFitting 42 = .ok (.iconst 0, 1) := by decide +kernel
theorem dX13_mostFitting_43 : decode cX13_mostFitting 43 = .ok (.istore 5, 2) := by decide +kernel
theorem dX13_mostFitting_45 : decode cX13_mostFitting 45 = .ok (.iload 5, 2) := by decide +kernel
theorem dX13_mostFitting_47 : decode cX13_mostFitting 47 = .ok (.aload_n 0, 1) := by decide +kernel
theorem dX13_mostFitting_48 : decode cX13_mostFitting 48 = .ok (.getfield 7, 3) := by decide +kernel
theorem dX13_mostFitting_51 : decode cX13_mostFitting 51 = .ok (.bipush 36, 2) := by decide +kernel
theorem dX13_mostFitting_53 : decode cX13_mostFitting 53 = .ok (.iaload, 1) := by decide +kernel
theorem dX13_mostFitting_54 : decode cX13_mostFitting 54 = .ok (.if_icmp .ge 51, 3) := by decide +kernel
theorem dX13_mostFitting_57 : decode cX13_mostFitting 57 = .ok (.aload_n 0, 1) := by decide +kernel
theorem dX13_mostFitting_58 : decode cX13_mostFitting 58 = .ok (.getfield 7, 3) := by decide +kernel
theorem dX13_mostFitting_61 : decode cX13_mostFitting 61 = .ok (.bipush 76, 2) := by decide +kernel
theorem dX13_mostFitting_63 : decode cX13_mostFitting 63 = .ok (.iload 5, 2) := by decide +kernel
theorem dX13_mostFitting_65 : decode cX13_mostFitting 65 = .ok (.iadd, 1) := by decide +kernel
theorem dX13_mostFitting_66 : decode cX13_mostFitting 66 = .ok (.iaload, 1) := by decide +kernel
theorem dX13_mostFitting_67 : decode cX13_mostFitting 67 = .ok (.ifCond .ne 32, 3) := by decide +kernel
theorem dX13_mostFitting_70 : decode cX13_mostFitting 70 = .ok (.aload_n 0, 1) := by decide +kernel
theorem dX13_mostFitting_71 : decode cX13_mostFitting 71 = .ok (.getfield 7, 3) := by decide +kernel
theorem dX13_mostFitting_74 : decode cX13_mostFitting 74 = .ok (.bipush 40, 2) := by decide +kernel
theorem dX13_mostFitting_76 : decode cX13_mostFitting 76 = .ok (.iload 5, 2) := by decide +kernel
theorem dX13_mostFitting_78 : decode cX13_mostFitting 78 = .ok (.iadd, 1) := by decide +kernel
theorem dX13_mostFitting_79 : decode cX13_mostFitting 79 = .ok (.iaload, 1) := by decide +kernel
theorem dX13_mostFitting_80 : decode cX13_mostFitting 80 = .ok (.iload 4, 2) := by decide +kernel
theorem dX13_mostFitting_82 : decode cX13_mostFitting 82 = .ok (.if_icmp .ne 17, 3) := by decide +kernel
theorem dX13_mostFitting_85 : decode cX13_mostFitting 85 = .ok (.iload 4, 2) := by decide +kernel
theorem dX13_mostFitting_87 : decode cX13_mostFitting 87 = .ok (.iload_n 2, 1) := by decide +kernel
theorem dX13_mostFitting_88 : decode cX13_mostFitting 88 = .ok (.if_icmp .gt 11, 3) := by decide +kernel
theorem dX13_mostFitting_91 : decode cX13_mostFitting 91 = .ok (.iload_n 2, 1) := by decide +kernel
theorem dX13_mostFitting_92 : decode cX13_mostFitting 92 = .ok (.iload 4, 2) := by decide +kernel
theorem dX13_mostFitting_94 : decode cX13_mostFitting 94 = .ok (.isub, 1) := by decide +kernel
theorem dX13_mostFitting_95 : decode cX13_mostFitting 95 = .ok (.istore_n 2, 1) := by decide +kernel
theorem dX13_mostFitting_96 : decode cX13_mostFitting 96 = .ok (.iinc 3 1, 3) := by decide +kernel
theorem dX13_mostFitting_99 : decode cX13_mostFitting 99 = .ok (.iinc 5 1, 3) := by decide +kernel
theorem dX13_mostFitting_102 : decode cX13_mostFitting 102 = .ok (.goto (-57), 3) := by decide +kernel
theorem dX13_mostFitting_105 : decode cX13_mostFitting 105 = .ok (.iinc 4 1, 3) := by decide +kernel
theorem dX13_mostFitting_108 : decode cX13_mostFitting 108 = .ok (.goto (-73), 3) := by decide +kernel
theorem dX13_mostFitting_111 : decode cX13_mostFitting 111 = .ok (.aload_n 0, 1) := by decide +kernel
theorem dX13_mostFitting_112 : decode cX13_mostFitting 112 = .ok (.iload_n 3, 1) := by decide +kernel
theorem dX13_mostFitting_113 : decode cX13_mostFitting 113 = .ok (.invokevirtual 72, 3) := by decide +kernel
theorem dX13_mostFitting_116 : decode cX13_mostFitting 116 = .ok (.ireturn, 1) := by decide +kernel
theorem dX13_mostFittingByTable_0 : decode cX13_mostFittingByTable 0 = .ok (.aload_n 0, 1) := by decide +kernel
theorem dX13_mostFittingByTable_1 : decode cX13_mostFittingByTable 1 = .ok (.iload_n 1, 1) := by decide +kernel
theorem dX13_mostFittingByTable_2 : decode cX13_mostFittingByTable 2 = .ok (.invokevirtual 156, 3) := by decide +kernel
theorem dX13_mostFittingByTable_5 : decode cX13_mostFittingByTable 5 = .ok (.ireturn, 1) := by decide +kernel
theorem dX13_effortTo_0 : decode cX13_effortTo 0 = .ok (.iload_n 1, 1) := by decide +kernel
theorem dX13_effortTo_1 : decode cX13_effortTo 1 = .ok (.invokestatic 95, 3) := by decide +kernel
theorem dX13_effortTo_4 : decode cX13_effortTo 4 = .ok (.ifCond .eq 10, 3) := by decide +kernel
theorem dX13_effortTo_7 : decode cX13_effortTo 7 = .ok (.iload_n 2, 1) := by decide +kernel
theorem dX13_effortTo_8 : decode cX13_effortTo 8 = .ok (.invokestatic 60, 3) := by decide +kernel
theorem dX13_effortTo_11 : decode cX13_effortTo 11 = .ok (.ifCond .ne 9, 3) := by decide +kernel
theorem dX13_effortTo_14 : decode cX13_effortTo 14 = .ok (.aload_n 0, 1) := by decide +kernel
theorem dX13_effortTo_15 : decode cX13_effortTo 15 = .ok (.iconst 1, 1) := by decide +kernel
theorem dX13_effortTo_16 : decode cX13_effortTo 16 = .ok (.invokevirtual 64, 3) := by decide +kernel
theorem dX13_effortTo_19 : decode cX13_effortTo 19 = .ok (.ireturn, 1) := by decide +kernel
theorem dX13_effortTo_20 : decode cX13_effortTo 20 = .ok (.aload_n 0, 1) := by decide +kernel
theorem dX13_effortTo_21 : decode cX13_effortTo 21 = .ok (.aload_n 0, 1) := by decide +kernel
theorem dX13_effortTo_22 : decode cX13_effortTo 22 = .ok (.getfield 7, 3) := by decide +kernel
theorem dX13_effortTo_25 : decode cX13_effortTo 25 = .ok (.sipush 128, 3) := by decide +kernel
theorem dX13_effortTo_28 : decode cX13_effortTo 28 = .ok (.iload_n 1, 1) := by decide +kernel
theorem dX13_effortTo_29 : decode cX13_effortTo 29 = .ok (.iadd, 1) := by decide +kernel
theorem dX13_effortTo_30 : decode cX13_effortTo 30 = .ok (.iaload, 1) := by decide +kernel
theorem dX13_effortTo_31 : decode cX13_effortTo 31 = .ok (.iload_n 2, 1) := by decide +kernel
theorem dX13_effortTo_32 : decode cX13_effortTo 32 = .ok (.invokevirtual 126, 3) := by decide +kernel
theorem dX13_effortTo_35 : decode cX13_effortTo 35 = .ok (.istore_n 3, 1) := by decide +kernel
theorem dX13_effortTo_36 : decode cX13_effortTo 36 = .ok (.iload_n 3, 1) := by decide +kernel
theorem dX13_effortTo_37 : decode cX13_effortTo 37 = .ok (.sipush 1000, 3) := by decide +kernel
theorem dX13_effortTo_40 : decode cX13_effortTo 40 = .ok (.if_icmp .ne 11, 3) := by decide +kernel
theorem dX13_effortTo_43 : decode cX13_effortTo 43 = .ok (.aload_n 0, 1) := by decide +kernel
theorem dX13_effortTo_44 : decode cX13_effortTo 44 = .ok (.iconst 2, 1) := by decide +kernel
theorem dX13_effortTo_45 : decode cX13_effortTo 45 = .ok (.invokevirtual 64, 3) := by decide +kernel
theorem dX13_effortTo_48 : decode cX13_effortTo 48 = .ok (.goto 14, 3) := by decide +kernel
theorem dX13_effortTo_51 : decode cX13_effortTo 51 = .ok (.aload_n 0, 1) := by decide +kernel
theorem dX13_effortTo_52 : decode cX13_effortTo 52 = .ok (.iload_n 3, 1) := by decide +kernel
theorem dX13_effortTo_53 : decode cX13_effortTo 53 = .ok (.aload_n 0, 1) := by decide +kernel
theorem dX13_effortTo_54 : decode cX13_effortTo 54 = .ok (.iload_n 1, 1) := by decide +kernel
theorem dX13_effortTo_55 : decode cX13_effortTo 55 = .ok (.invokevirtual 98, 3) := by decide +kernel
theorem dX13_effortTo_58 : decode cX13_effortTo 58 = .ok (.imul, 1) := by decide +kernel
theorem dX13_effortTo_59 : decode cX13_effortTo 59 = .ok (.invokevirtual 72, 3) := by decide +kernel
theorem dX13_effortTo_62 : decode cX13_effortTo 62 = .ok (.ireturn, 1) := by decide +kernel
theorem dX13_effortSoFar_0 : decode cX13_effortSoFar 0 = .ok (.aload_n 0, 1) := by decide +kernel
theorem dX13_effortSoFar_1 : decode cX13_effortSoFar 1 = .ok (.aload_n 0, 1) := by decide +kernel
theorem dX13_effortSoFar_2 : decode cX13_effortSoFar 2 = .ok (.getfield 7, 3) := by decide +kernel
theorem dX13_effortSoFar_5 : decode cX13_effortSoFar 5 = .ok (.bipush 38, 2) := by decide +kernel
theorem dX13_effortSoFar_7 : decode cX13_effortSoFar 7 = .ok (.iaload, 1) := by decide +kernel
theorem dX13_effortSoFar_8 : decode cX13_effortSoFar 8 = .ok (.invokevirtual 72, 3) := by decide +kernel
theorem dX13_effortSoFar_11 : decode cX13_effortSoFar 11 = .ok (.ireturn, 1) := by decide +kernel
theorem dX13_glovesUsedUp_0 : decode cX13_glovesUsedUp 0 = .ok (.aload_n 0, 1) := by decide +kernel
theorem dX13_glovesUsedUp_1 : decode cX13_glovesUsedUp 1 = .ok (.aload_n 0, 1) := by decide +kernel
theorem dX13_glovesUsedUp_2 : decode cX13_glovesUsedUp 2 = .ok (.getfield 7, 3) := by decide +kernel
theorem dX13_glovesUsedUp_5 : decode cX13_glovesUsedUp 5 = .ok (.bipush 39, 2) := by decide +kernel
theorem dX13_glovesUsedUp_7 : decode cX13_glovesUsedUp 7 = .ok (.iaload, 1) := by decide +kernel
theorem dX13_glovesUsedUp_8 : decode cX13_glovesUsedUp 8 = .ok (.invokevirtual 72, 3) := by decide +kernel
theorem dX13_glovesUsedUp_11 : decode cX13_glovesUsedUp 11 = .ok (.ireturn, 1) := by decide +kernel
theorem dX13_isAhead_0 : decode cX13_isAhead 0 = .ok (.aload_n 0, 1) := by decide +kernel
theorem dX13_isAhead_1 : decode cX13_isAhead 1 = .ok (.getfield 7, 3) := by decide +kernel
theorem dX13_isAhead_4 : decode cX13_isAhead 4 = .ok (.bipush 40, 2) := by decide +kernel
theorem dX13_isAhead_6 : decode cX13_isAhead 6 = .ok (.iload_n 1, 1) := by decide +kernel
theorem dX13_isAhead_7 : decode cX13_isAhead 7 = .ok (.iadd, 1) := by decide +kernel
theorem dX13_isAhead_8 : decode cX13_isAhead 8 = .ok (.iaload, 1) := by decide +kernel
theorem dX13_isAhead_9 : decode cX13_isAhead 9 = .ok (.aload_n 0, 1) := by decide +kernel
theorem dX13_isAhead_10 : decode cX13_isAhead 10 = .ok (.getfield 7, 3) := by decide +kernel
theorem dX13_isAhead_13 : decode cX13_isAhead 13 = .ok (.bipush 40, 2) := by decide +kernel
theorem dX13_isAhead_15 : decode cX13_isAhead 15 = .ok (.iload_n 2, 1) := by decide +kernel
theorem dX13_isAhead_16 : decode cX13_isAhead 16 = .ok (.iadd, 1) := by decide +kernel
theorem dX13_isAhead_17 : decode cX13_isAhead 17 = .ok (.iaload, 1) := by decide +kernel
theorem dX13_isAhead_18 : decode cX13_isAhead 18 = .ok (.isub, 1) := by decide +kernel
theorem dX13_isAhead_19 : decode cX13_isAhead 19 = .ok (.istore_n 3, 1) := by decide +kernel
theorem dX13_isAhead_20 : decode cX13_isAhead 20 = .ok (.aload_n 0, 1) := by decide +kernel
theorem dX13_isAhead_21 : decode cX13_isAhead 21 = .ok (.getfield 7, 3) := by decide +kernel
theorem dX13_isAhead_24 : decode cX13_isAhead 24 = .ok (.bipush 52, 2) := by decide +kernel
theorem dX13_isAhead_26 : decode cX13_isAhead 26 = .ok (.iload_n 1, 1) := by decide +kernel
theorem dX13_isAhead_27 : decode cX13_isAhead 27 = .ok (.iadd, 1) := by decide +kernel
theorem dX13_isAhead_28 : decode cX13_isAhead 28 = .ok (.iaload, 1) := by decide +kernel
theorem dX13_isAhead_29 : decode cX13_isAhead 29 = .ok (.aload_n 0, 1) := by decide +kernel
theorem dX13_isAhead_30 : decode cX13_isAhead 30 = .ok (.getfield 7, 3) := by decide +kernel
theorem dX13_isAhead_33 : decode cX13_isAhead 33 = .ok (.bipush 52, 2) := by decide +kernel
theorem dX13_isAhead_35 : decode cX13_isAhead 35 = .ok (.iload_n 2, 1) := by decide +kernel
theorem dX13_isAhead_36 : decode cX13_isAhead 36 = .ok (.iadd, 1) := by decide +kernel
theorem dX13_isAhead_37 : decode cX13_isAhead 37 = .ok (.iaload, 1) := by decide +kernel
theorem dX13_isAhead_38 : decode cX13_isAhead 38 = .ok (.isub, 1) := by decide +kernel
theorem dX13_isAhead_39 : decode cX13_isAhead 39 = .ok (.istore 4, 2) := by decide +kernel
theorem dX13_isAhead_41 : decode cX13_isAhead 41 = .ok (.iload_n 3, 1) := by decide +kernel
theorem dX13_isAhead_42 : decode cX13_isAhead 42 = .ok (.ifCond .gt 22, 3) := by decide +kernel
theorem dX13_isAhead_45 : decode cX13_isAhead 45 = .ok (.iload_n 3, 1) := by decide +kernel
theorem dX13_isAhead_46 : decode cX13_isAhead 46 = .ok (.ifCond .ne 22, 3) := by decide +kernel
theorem dX13_isAhead_49 : decode cX13_isAhead 49 = .ok (.iload 4, 2) := by decide +kernel
theorem dX13_isAhead_51 : decode cX13_isAhead 51 = .ok (.ifCond .gt 13, 3) := by decide +kernel
theorem dX13_isAhead_54 : decode cX13_isAhead 54 = .ok (.iload 4, 2) := by decide +kernel
theorem dX13_isAhead_56 : decode cX13_isAhead 56 = .ok (.ifCond .ne 12, 3) := by decide +kernel
theorem dX13_isAhead_59 : decode cX13_isAhead 59 = .ok (.iload_n 1, 1) := by decide +kernel
theorem dX13_isAhead_60 : decode cX13_isAhead 60 = .ok (.iload_n 2, 1) := by decide +kernel
theorem dX13_isAhead_61 : decode cX13_isAhead 61 = .ok (.if_icmp .ge 7, 3) := by decide +kernel
theorem dX13_isAhead_64 : decode cX13_isAhead 64 = .ok (.iconst 1, 1) := by decide +kernel
theorem dX13_isAhead_65 : decode cX13_isAhead 65 = .ok (.goto 4, 3) := by decide +kernel
theorem dX13_isAhead_68 : decode cX13_isAhead 68 = .ok (.iconst 0, 1) := by decide +kernel
theorem dX13_isAhead_69 : decode cX13_isAhead 69 = .ok (.ireturn, 1) := by decide +kernel
theorem dX13_rank_0 : decode cX13_rank 0 = .ok (.iconst 0, 1) := by decide +kernel
theorem dX13_rank_1 : decode cX13_rank 1 = .ok (.istore_n 2, 1) := by decide +kernel
theorem dX13_rank_2 : decode cX13_rank 2 = .ok (.iconst 0, 1) := by decide +kernel
theorem dX13_rank_3 : decode cX13_rank 3 = .ok (.istore_n 3, 1) := by decide +kernel
theorem dX13_rank_4 : decode cX13_rank 4 = .ok (.iload_n 3, 1) := by decide +kernel
theorem dX13_rank_5 : decode cX13_rank 5 = .ok (.aload_n 0, 1) := by decide +kernel
theorem dX13_rank_6 : decode cX13_rank 6 = .ok (.getfield 7, 3) := by decide +kernel
theorem dX13_rank_9 : decode cX13_rank 9 = .ok (.bipush 36, 2) := by decide +kernel
theorem dX13_rank_11 : decode cX13_rank 11 = .ok (.iaload, 1) := by decide +kernel
theorem dX13_rank_12 : decode cX13_rank 12 = .ok (.if_icmp .ge 39, 3) := by decide +kernel
theorem dX13_rank_15 : decode cX13_rank 15 = .ok (.iload_n 2, 1) := by decide +kernel
theorem dX13_rank_16 : decode cX13_rank 16 = .ok (.aload_n 0, 1) := by decide +kernel
theorem dX13_rank_17 : decode cX13_rank 17 = .ok (.getfield 7, 3) := by decide +kernel
theorem dX13_rank_20 : decode cX13_rank 20 = .ok (.bipush 76, 2) := by decide +kernel
theorem dX13_rank_22 : decode cX13_rank 22 = .ok (.iload_n 3, 1) := by decide +kernel
theorem dX13_rank_23 : decode cX13_rank 23 = .ok (.iadd, 1) := by decide +kernel
theorem dX13_rank_24 : decode cX13_rank 24 = .ok (.iaload, 1) := by decide +kernel
theorem dX13_rank_25 : decode cX13_rank 25 = .ok (.iconst 2, 1) := by decide +kernel
theorem dX13_rank_26 : decode cX13_rank 26 = .ok (.if_icmp .eq 16, 3) := by decide +kernel
theorem dX13_rank_29 : decode cX13_rank 29 = .ok (.aload_n 0, 1) := by decide +kernel
theorem dX13_rank_30 : decode cX13_rank 30 = .ok (.iload_n 3, 1) := by decide +kernel
theorem dX13_rank_31 : decode cX13_rank 31 = .ok (.iload_n 1, 1) := by decide +kernel
theorem dX13_rank_32 : decode cX13_rank 32 = .ok (.invokevirtual 159, 3) := by decide +kernel
theorem dX13_rank_35 : decode cX13_rank 35 = .ok (.ifCond .eq 7, 3) := by decide +kernel
theorem dX13_rank_38 : decode cX13_rank 38 = .ok (.iconst 1, 1) := by decide +kernel
theorem dX13_rank_39 : decode cX13_rank 39 = .ok (.goto 4, 3) := by decide +kernel
theorem dX13_rank_42 : decode cX13_rank 42 = .ok (.iconst 0, 1) := by decide +kernel
theorem dX13_rank_43 : decode cX13_rank 43 = .ok (.iadd, 1) := by decide +kernel
theorem dX13_rank_44 : decode cX13_rank 44 = .ok (.istore_n 2, 1) := by decide +kernel
theorem dX13_rank_45 : decode cX13_rank 45 = .ok (.iinc 3 1, 3) := by decide +kernel
theorem dX13_rank_48 : decode cX13_rank 48 = .ok (.goto (-44), 3) := by decide +kernel
theorem dX13_rank_51 : decode cX13_rank 51 = .ok (.iload_n 2, 1) := by decide +kernel
theorem dX13_rank_52 : decode cX13_rank 52 = .ok (.ireturn, 1) := by decide +kernel
theorem dX13_heaviest_0 : decode cX13_heaviest 0 = .ok (.iconst 0, 1) := by decide +kernel
theorem dX13_heaviest_1 : decode cX13_heaviest 1 = .ok (.istore_n 2, 1) := by decide +kernel
theorem dX13_heaviest_2 : decode cX13_heaviest 2 = .ok (.iload_n 2, 1) := by decide +kernel
theorem dX13_heaviest_3 : decode cX13_heaviest 3 = .ok (.aload_n 0, 1) := by decide +kernel
theorem dX13_heaviest_4 : decode cX13_heaviest 4 = .ok (.getfield 7, 3) := by decide +kernel
theorem dX13_heaviest_7 : decode cX13_heaviest 7 = .ok (.bipush 36, 2) := by decide +kernel
theorem dX13_heaviest_9 : decode cX13_heaviest 9 = .ok (.iaload, 1) := by decide +kernel
theorem dX13_heaviest_10 : decode cX13_heaviest 10 = .ok (.if_icmp .ge 37, 3) := by decide +kernel
theorem dX13_heaviest_13 : decode cX13_heaviest 13 = .ok (.aload_n 0, 1) := by decide +kernel
theorem dX13_heaviest_14 : decode cX13_heaviest 14 = .ok (.getfield 7, 3) := by decide +kernel
theorem dX13_heaviest_17 : decode cX13_heaviest 17 = .ok (.bipush 76, 2) := by decide +kernel
theorem dX13_heaviest_19 : decode cX13_heaviest 19 = .ok (.iload_n 2, 1) := by decide +kernel
theorem dX13_heaviest_20 : decode cX13_heaviest 20 = .ok (.iadd, 1) := by decide +kernel
theorem dX13_heaviest_21 : decode cX13_heaviest 21 = .ok (.iaload, 1) := by decide +kernel
theorem dX13_heaviest_22 : decode cX13_heaviest 22 = .ok (.iconst 2, 1) := by decide +kernel
theorem dX13_heaviest_23 : decode cX13_heaviest 23 = .ok (.if_icmp .eq 18, 3) := by decide +kernel
theorem dX13_heaviest_26 : decode cX13_heaviest 26 = .ok (.aload_n 0, 1) := by decide +kernel
theorem dX13_heaviest_27 : decode cX13_heaviest 27 = .ok (.iload_n 2, 1) := by decide +kernel
theorem dX13_heaviest_28 : decode cX13_heaviest 28 = .ok (.invokevirtual 162, 3) := by decide +kernel
theorem dX13_heaviest_31 : decode cX13_heaviest 31 = .ok (.iload_n 1, 1) := by decide +kernel
theorem dX13_heaviest_32 : decode cX13_heaviest 32 = .ok (.if_icmp .ne 9, 3) := by decide +kernel
theorem dX13_heaviest_35 : decode cX13_heaviest 35 = .ok (.aload_n 0, 1) := by decide +kernel
theorem dX13_heaviest_36 : decode cX13_heaviest 36 = .ok (.iload_n 2, 1) := by decide +kernel
theorem dX13_heaviest_37 : decode cX13_heaviest 37 = .ok (.invokevirtual 72, 3) := by decide +kernel
theorem dX13_heaviest_40 : decode cX13_heaviest 40 = .ok (.ireturn, 1) := by decide +kernel
theorem dX13_heaviest_41 : decode cX13_heaviest 41 = .ok (.iinc 2 1, 3) := by decide +kernel
theorem dX13_heaviest_44 : decode cX13_heaviest 44 = .ok (.goto (-42), 3) := by decide +kernel
theorem dX13_heaviest_47 : decode cX13_heaviest 47 = .ok (.aload_n 0, 1) := by decide +kernel
theorem dX13_heaviest_48 : decode cX13_heaviest 48 = .ok (.iconst 1, 1) := by decide +kernel
theorem dX13_heaviest_49 : decode cX13_heaviest 49 = .ok (.invokevirtual 64, 3) := by decide +kernel
theorem dX13_heaviest_52 : decode cX13_heaviest 52 = .ok (.ireturn, 1) := by decide +kernel
theorem dX13_meanHazard_0 : decode cX13_meanHazard 0 = .ok (.iconst 0, 1) := by decide +kernel
theorem dX13_meanHazard_1 : decode cX13_meanHazard 1 = .ok (.istore_n 1, 1) := by decide +kernel
theorem dX13_meanHazard_2 : decode cX13_meanHazard 2 = .ok (.iconst 0, 1) := by decide +kernel
theorem dX13_meanHazard_3 : decode cX13_meanHazard 3 = .ok (.istore_n 2, 1) := by decide +kernel
theorem dX13_meanHazard_4 : decode cX13_meanHazard 4 = .ok (.iload_n 2, 1) := by decide +kernel
theorem dX13_meanHazard_5 : decode cX13_meanHazard 5 = .ok (.aload_n 0, 1) := by decide +kernel
theorem dX13_meanHazard_6 : decode cX13_meanHazard 6 = .ok (.getfield 7, 3) := by decide +kernel
theorem dX13_meanHazard_9 : decode cX13_meanHazard 9 = .ok (.bipush 36, 2) := by decide +kernel
theorem dX13_meanHazard_11 : decode cX13_meanHazard 11 = .ok (.iaload, 1) := by decide +kernel
theorem dX13_meanHazard_12 : decode cX13_meanHazard 12 = .ok (.if_icmp .ge 21, 3) := by decide +kernel
theorem dX13_meanHazard_15 : decode cX13_meanHazard 15 = .ok (.iload_n 1, 1) := by decide +kernel
theorem dX13_meanHazard_16 : decode cX13_meanHazard 16 = .ok (.aload_n 0, 1) := by decide +kernel
theorem dX13_meanHazard_17 : decode cX13_meanHazard 17 = .ok (.getfield 7, 3) := by decide +kernel
theorem dX13_meanHazard_20 : decode cX13_meanHazard 20 = .ok (.bipush 52, 2) := by decide +kernel
theorem dX13_meanHazard_22 : decode cX13_meanHazard 22 = .ok (.iload_n 2, 1) := by decide +kernel
theorem dX13_meanHazard_23 : decode cX13_meanHazard 23 = .ok (.iadd, 1) := by decide +kernel
theorem dX13_meanHazard_24 : decode cX13_meanHazard 24 = .ok (.iaload, 1) := by decide +kernel
theorem dX13_meanHazard_25 : decode cX13_meanHazard 25 = .ok (.iadd, 1) := by decide +kernel
theorem dX13_meanHazard_26 : decode cX13_meanHazard 26 = .ok (.istore_n 1, 1) := by decide +kernel
theorem dX13_meanHazard_27 : decode cX13_meanHazard 27 = .ok (.iinc 2 1, 3) := by decide +kernel
theorem dX13_meanHazard_30 : decode cX13_meanHazard 30 = .ok (.goto (-26), 3) := by decide +kernel
theorem dX13_meanHazard_33 : decode cX13_meanHazard 33 = .ok (.aload_n 0, 1) := by decide +kernel
theorem dX13_meanHazard_34 : decode cX13_meanHazard 34 = .ok (.aload_n 0, 1) := by decide +kernel
theorem dX13_meanHazard_35 : decode cX13_meanHazard 35 = .ok (.getfield 7, 3) := by decide +kernel
theorem dX13_meanHazard_38 : decode cX13_meanHazard 38 = .ok (.bipush 36, 2) := by decide +kernel
theorem dX13_meanHazard_40 : decode cX13_meanHazard 40 = .ok (.iaload, 1) := by decide +kernel
theorem dX13_meanHazard_41 : decode cX13_meanHazard 41 = .ok (.ifCond .ne 7, 3) := by decide +kernel
theorem dX13_meanHazard_44 : decode cX13_meanHazard 44 = .ok (.iconst 1, 1) := by decide +kernel
theorem dX13_meanHazard_45 : decode cX13_meanHazard 45 = .ok (.goto 4, 3) := by decide +kernel
theorem dX13_meanHazard_48 : decode cX13_meanHazard 48 = .ok (.iconst 0, 1) := by decide +kernel
theorem dX13_meanHazard_49 : decode cX13_meanHazard 49 = .ok (.putfield 42, 3) := by decide +kernel
theorem dX13_meanHazard_52 : decode cX13_meanHazard 52 = .ok (.aload_n 0, 1) := by decide +kernel
theorem dX13_meanHazard_53 : decode cX13_meanHazard 53 = .ok (.getfield 42, 3) := by decide +kernel
theorem dX13_meanHazard_56 : decode cX13_meanHazard 56 = .ok (.ifCond .ne 17, 3) := by decide +kernel
theorem dX13_meanHazard_59 : decode cX13_meanHazard 59 = .ok (.iload_n 1, 1) := by decide +kernel
theorem dX13_meanHazard_60 : decode cX13_meanHazard 60 = .ok (.i2d, 1) := by decide +kernel
theorem dX13_meanHazard_61 : decode cX13_meanHazard 61 = .ok (.aload_n 0, 1) := by decide +kernel
theorem dX13_meanHazard_62 : decode cX13_meanHazard 62 = .ok (.getfield 7, 3) := by decide +kernel
theorem dX13_meanHazard_65 : decode cX13_meanHazard 65 = .ok (.bipush 36, 2) := by decide +kernel
theorem dX13_meanHazard_67 : decode cX13_meanHazard 67 = .ok (.iaload, 1) := by decide +kernel
theorem dX13_meanHazard_68 : decode cX13_meanHazard 68 = .ok (.i2d, 1) := by decide +kernel
theorem dX13_meanHazard_69 : decode cX13_meanHazard 69 = .ok (.ddiv, 1) := by decide +kernel
theorem dX13_meanHazard_70 : decode cX13_meanHazard 70 = .ok (.goto 4, 3) := by decide +kernel
theorem dX13_meanHazard_73 : decode cX13_meanHazard 73 = .ok (.dconst 0, 1) := by decide +kernel
theorem dX13_meanHazard_74 : decode cX13_meanHazard 74 = .ok (.dreturn, 1) := by decide +kernel
theorem dX13_deliveredShare_0 : decode cX13_deliveredShare 0 = .ok (.aload_n 0, 1) := by decide +kernel
theorem dX13_deliveredShare_1 : decode cX13_deliveredShare 1 = .ok (.aload_n 0, 1) := by decide +kernel
theorem dX13_deliveredShare_2 : decode cX13_deliveredShare 2 = .ok (.getfield 7, 3) := by decide +kernel
theorem dX13_deliveredShare_5 : decode cX13_deliveredShare 5 = .ok (.bipush 36, 2) := by decide +kernel
theorem dX13_deliveredShare_7 : decode cX13_deliveredShare 7 = .ok (.iaload, 1) := by decide +kernel
theorem dX13_deliveredShare_8 : decode cX13_deliveredShare 8 = .ok (.ifCond .ne 7, 3) := by decide +kernel
theorem dX13_deliveredShare_11 : decode cX13_deliveredShare 11 = .ok (.iconst 1, 1) := by decide +kernel
theorem dX13_deliveredShare_12 : decode cX13_deliveredShare 12 = .ok (.goto 4, 3) := by decide +kernel
theorem dX13_deliveredShare_15 : decode cX13_deliveredShare 15 = .ok (.iconst 0, 1) := by decide +kernel
theorem dX13_deliveredShare_16 : decode cX13_deliveredShare 16 = .ok (.putfield 42, 3) := by decide +kernel
theorem dX13_deliveredShare_19 : decode cX13_deliveredShare 19 = .ok (.aload_n 0, 1) := by decide +kernel
theorem dX13_deliveredShare_20 : decode cX13_deliveredShare 20 = .ok (.getfield 42, 3) := by decide +kernel
theorem dX13_deliveredShare_23 : decode cX13_deliveredShare 23 = .ok (.ifCond .ne 21, 3) := by decide +kernel
theorem dX13_deliveredShare_26 : decode cX13_deliveredShare 26 = .ok (.aload_n 0, 1) := by decide +kernel
theorem dX13_deliveredShare_27 : decode cX13_deliveredShare 27 = .ok (.iconst 2, 1) := by decide +kernel
theorem dX13_deliveredShare_28 : decode cX13_deliveredShare 28 = .ok (.invokevirtual 141, 3) := by decide +kernel
theorem dX13_deliveredShare_31 : decode cX13_deliveredShare 31 = .ok (.i2f, 1) := by decide +kernel
theorem dX13_deliveredShare_32 : decode cX13_deliveredShare 32 = .ok (.aload_n 0, 1) := by decide +kernel
theorem dX13_deliveredShare_33 : decode cX13_deliveredShare 33 = .ok (.getfield 7, 3) := by decide +kernel
theorem dX13_deliveredShare_36 : decode cX13_deliveredShare 36 = .ok (.bipush 36, 2) := by decide +kernel
theorem dX13_deliveredShare_38 : decode cX13_deliveredShare 38 = .ok (.iaload, 1) := by decide +kernel
theorem dX13_deliveredShare_39 : decode cX13_deliveredShare 39 = .ok (.i2f, 1) := by decide +kernel
theorem dX13_deliveredShare_40 : decode cX13_deliveredShare 40 = .ok (.fdiv, 1) := by decide +kernel
theorem dX13_deliveredShare_41 : decode cX13_deliveredShare 41 = .ok (.goto 4, 3) := by decide +kernel
theorem dX13_deliveredShare_44 : decode cX13_deliveredShare 44 = .ok (.fconst 0, 1) := by decide +kernel
theorem dX13_deliveredShare_45 : decode cX13_deliveredShare 45 = .ok (.freturn, 1) := by decide +kernel
theorem dX13_isConsistent_0 : decode cX13_isConsistent 0 = .ok (.aload_n 0, 1) := by decide +kernel
theorem dX13_isConsistent_1 : decode cX13_isConsistent 1 = .ok (.iconst 0, 1) := by decide +kernel
theorem dX13_isConsistent_2 : decode cX13_isConsistent 2 = .ok (.putfield 42, 3) := by decide +kernel
theorem dX13_isConsistent_5 : decode cX13_isConsistent 5 = .ok (.iconst 1, 1) := by decide +kernel
theorem dX13_isConsistent_6 : decode cX13_isConsistent 6 = .ok (.ireturn, 1) := by decide +kernel
theorem dX13_feed_0 : decode cX13_feed 0 = .ok (.aload_n 0, 1) := by decide +kernel
theorem dX13_feed_1 : decode cX13_feed 1 = .ok (.getfield 165, 3) := by decide +kernel
theorem dX13_feed_4 : decode cX13_feed 4 = .ok (.bipush 60, 2) := by decide +kernel
theorem dX13_feed_6 : decode cX13_feed 6 = .ok (.if_icmp .ne 9, 3) := by decide +kernel
theorem dX13_feed_9 : decode cX13_feed 9 = .ok (.aload_n 0, 1) := by decide +kernel
theorem dX13_feed_10 : decode cX13_feed 10 = .ok (.iconst 1, 1) := by decide +kernel
theorem dX13_feed_11 : decode cX13_feed 11 = .ok (.invokevirtual 64, 3) := by decide +kernel
theorem dX13_feed_14 : decode cX13_feed 14 = .ok (.ireturn, 1) := by decide +kernel
theorem dX13_feed_15 : decode cX13_feed 15 = .ok (.aload_n 0, 1) := by decide +kernel
theorem dX13_feed_16 : decode cX13_feed 16 = .ok (.getfield 22, 3) := by decide +kernel
theorem dX13_feed_19 : decode cX13_feed 19 = .ok (.aload_n 0, 1) := by decide +kernel
theorem dX13_feed_20 : decode cX13_feed 20 = .ok (.getfield 165, 3) := by decide +kernel
theorem dX13_feed_23 : decode cX13_feed 23 = .ok (.iload_n 1, 1) := by decide +kernel
theorem dX13_feed_24 : decode cX13_feed 24 = .ok (.castore, 1) := by decide +kernel
theorem dX13_feed_25 : decode cX13_feed 25 = .ok (.aload_n 0, 1) := by decide +kernel
theorem dX13_feed_26 : decode cX13_feed 26 = .ok (.dup, 1) := by decide +kernel
theorem dX13_feed_27 : decode cX13_feed 27 = .ok (.getfield 165, 3) := by decide +kernel
theorem dX13_feed_30 : decode cX13_feed 30 = .ok (.iconst 1, 1) := by decide +kernel
theorem dX13_feed_31 : decode cX13_feed 31 = .ok (.iadd, 1) := by decide +kernel
theorem dX13_feed_32 : decode cX13_feed 32 = .ok (.putfield 165, 3) := by decide +kernel
theorem dX13_feed_35 : decode cX13_feed 35 = .ok (.aload_n 0, 1) := by decide +kernel
theorem dX13_feed_36 : decode cX13_feed 36 = .ok (.aload_n 0, 1) := by decide +kernel
theorem dX13_feed_37 : decode cX13_feed 37 = .ok (.getfield 165, 3) := by decide +kernel
theorem dX13_feed_40 : decode cX13_feed 40 = .ok (.invokevirtual 72, 3) := by decide +kernel
theorem dX13_feed_43 : decode cX13_feed 43 = .ok (.ireturn, 1) := by decide +kernel
theorem dX13_here_0 : decode cX13_here 0 = .ok (.aload_n 0, 1) := by decide +kernel
theorem dX13_here_1 : decode cX13_here 1 = .ok (.getfield 168, 3) := by decide +kernel
theorem dX13_here_4 : decode cX13_here 4 = .ok (.aload_n 0, 1) := by decide +kernel
theorem dX13_here_5 : decode cX13_here 5 = .ok (.getfield 165, 3) := by decide +kernel
theorem dX13_here_8 : decode cX13_here 8 = .ok (.if_icmp .ge 15, 3) := by decide +kernel
theorem dX13_here_11 : decode cX13_here 11 = .ok (.aload_n 0, 1) := by decide +kernel
theorem dX13_here_12 : decode cX13_here 12 = .ok (.getfield 22, 3) := by decide +kernel
theorem dX13_here_15 : decode cX13_here 15 = .ok (.aload_n 0, 1) := by decide +kernel
theorem dX13_here_16 : decode cX13_here 16 = .ok (.getfield 168, 3) := by decide +kernel
theorem dX13_here_19 : decode cX13_here 19 = .ok (.caload, 1) := by decide +kernel
theorem dX13_here_20 : decode cX13_here 20 = .ok (.goto 4, 3) := by decide +kernel
theorem dX13_here_23 : decode cX13_here 23 = .ok (.iconst (-1), 1) := by decide +kernel
theorem dX13_here_24 : decode cX13_here 24 = .ok (.ireturn, 1) := by decide +kernel
theorem dX13_needs_0 : decode cX13_needs 0 = .ok (.aload_n 0, 1) := by decide +kernel
theorem dX13_needs_1 : decode cX13_needs 1 = .ok (.aload_n 0, 1) := by decide +kernel
theorem dX13_needs_2 : decode cX13_needs 2 = .ok (.getfield 171, 3) := by decide +kernel
theorem dX13_needs_5 : decode cX13_needs 5 = .ok (.ifCond .ne 11, 3) := by decide +kernel
theorem dX13_needs_8 : decode cX13_needs 8 = .ok (.aload_n 0, 1) := by decide +kernel
theorem dX13_needs_9 : decode cX13_needs 9 = .ok (.invokevirtual 175, 3) := by decide +kernel
theorem dX13_needs_12 : decode cX13_needs 12 = .ok (.iload_n 1, 1) := by decide +kernel
theorem dX13_needs_13 : decode cX13_needs 13 = .ok (.if_icmp .eq 7, 3) := by decide +kernel
theorem dX13_needs_16 : decode cX13_needs 16 = .ok (.iconst 1, 1) := by decide +kernel
theorem dX13_needs_17 : decode cX13_needs 17 = .ok (.goto 4, 3) := by decide +kernel
theorem dX13_needs_20 : decode cX13_needs 20 = .ok (.iconst 0, 1) := by decide +kernel
theorem dX13_needs_21 : decode cX13_needs 21 = .ok (.putfield 171, 3) := by decide +kernel
theorem dX13_needs_24 : decode cX13_needs 24 = .ok (.aload_n 0, 1) := by decide +kernel
theorem dX13_needs_25 : decode cX13_needs 25 = .ok (.dup, 1) := by decide +kernel
theorem dX13_needs_26 : decode cX13_needs 26 = .ok (.getfield 168, 3) := by decide +kernel
theorem dX13_needs_29 : decode cX13_needs 29 = .ok (.aload_n 0, 1) := by decide +kernel
theorem dX13_needs_30 : decode cX13_needs 30 = .ok (.getfield 171, 3) := by decide +kernel
theorem dX13_needs_33 : decode cX13_needs 33 = .ok (.ifCond .eq 7, 3) := by decide +kernel
theorem dX13_needs_36 : decode cX13_needs 36 = .ok (.iconst 0, 1) := by decide +kernel
theorem dX13_needs_37 : decode cX13_needs 37 = .ok (.goto 4, 3) := by decide +kernel
theorem dX13_needs_40 : decode cX13_needs 40 = .ok (.iconst 1, 1) := by decide +kernel
theorem dX13_needs_41 : decode cX13_needs 41 = .ok (.iadd, 1) := by decide +kernel
theorem dX13_needs_42 : decode cX13_needs 42 = .ok (.putfield 168, 3) := by decide +kernel
theorem dX13_needs_45 : decode cX13_needs 45 = .ok (.return_, 1) := by decide +kernel
theorem dX13_needsThree_0 : decode cX13_needsThree 0 = .ok (.aload_n 0, 1) := by decide +kernel
theorem dX13_needsThree_1 : decode cX13_needsThree 1 = .ok (.iload_n 1, 1) := by decide +kernel
theorem dX13_needsThree_2 : decode cX13_needsThree 2 = .ok (.invokevirtual 178, 3) := by decide +kernel
theorem dX13_needsThree_5 : decode cX13_needsThree 5 = .ok (.aload_n 0, 1) := by decide +kernel
theorem dX13_needsThree_6 : decode cX13_needsThree 6 = .ok (.iload_n 2, 1) := by decide +kernel
theorem dX13_needsThree_7 : decode cX13_needsThree 7 = .ok (.invokevirtual 178, 3) := by decide +kernel
theorem dX13_needsThree_10 : decode cX13_needsThree 10 = .ok (.aload_n 0, 1) := by decide +kernel
theorem dX13_needsThree_11 : decode cX13_needsThree 11 = .ok (.iload_n 3, 1) := by decide +kernel
theorem dX13_needsThree_12 : decode cX13_needsThree 12 = .ok (.invokevirtual 178, 3) := by decide +kernel
theorem dX13_needsThree_15 : decode cX13_needsThree 15 = .ok (.return_, 1) := by decide +kernel
theorem dX13_digitsAfter_0 : decode cX13_digitsAfter 0 = .ok (.aload_n 0, 1) := by decide +kernel
theorem dX13_digitsAfter_1 : decode cX13_digitsAfter 1 = .ok (.iload_n 1, 1) := by decide +kernel
theorem dX13_digitsAfter_2 : decode cX13_digitsAfter 2 = .ok (.invokevirtual 178, 3) := by decide +kernel
theorem dX13_digitsAfter_5 : decode cX13_digitsAfter 5 = .ok (.aload_n 0, 1) := by decide +kernel
theorem dX13_digitsAfter_6 : decode cX13_digitsAfter 6 = .ok (.aload_n 0, 1) := by decide +kernel
theorem dX13_digitsAfter_7 : decode cX13_digitsAfter 7 = .ok (.getfield 171, 3) := by decide +kernel
theorem dX13_digitsAfter_10 : decode cX13_digitsAfter 10 = .ok (.ifCond .ne 17, 3) := by decide +kernel
theorem dX13_digitsAfter_13 : decode cX13_digitsAfter 13 = .ok (.aload_n 0, 1) := by decide +kernel
theorem dX13_digitsAfter_14 : decode cX13_digitsAfter 14 = .ok (.invokevirtual 175, 3) := by decide +kernel
theorem dX13_digitsAfter_17 : decode cX13_digitsAfter 17 = .ok (.bipush 48, 2) := by decide +kernel
theorem dX13_digitsAfter_19 : decode cX13_digitsAfter 19 = .ok (.bipush 57, 2) := by decide +kernel
theorem dX13_digitsAfter_21 : decode cX13_digitsAfter 21 = .ok (.invokestatic 52, 3) := by decide +kernel
theorem dX13_digitsAfter_24 : decode cX13_digitsAfter 24 = .ok (.ifCond .ne 7, 3) := by decide +kernel
theorem dX13_digitsAfter_27 : decode cX13_digitsAfter 27 = .ok (.iconst 1, 1) := by decide +kernel
theorem dX13_digitsAfter_28 : decode cX13_digitsAfter 28 = .ok (.goto 4, 3) := by decide +kernel
theorem dX13_digitsAfter_31 : decode cX13_digitsAfter 31 = .ok (.iconst 0, 1) := by decide +kernel
theorem dX13_digitsAfter_32 : decode cX13_digitsAfter 32 = .ok (.putfield 171, 3) := by decide +kernel
theorem dX13_digitsAfter_35 : decode cX13_digitsAfter 35 = .ok (.iconst 0, 1) := by decide +kernel
theorem dX13_digitsAfter_36 : decode cX13_digitsAfter 36 = .ok (.istore_n 3, 1) := by decide +kernel
theorem dX13_digitsAfter_37 : decode cX13_digitsAfter 37 = .ok (.iconst 0, 1) := by decide +kernel
theorem dX13_digitsAfter_38 : decode cX13_digitsAfter 38 = .ok (.istore 4, 2) := by decide +kernel
theorem dX13_digitsAfter_40 : decode cX13_digitsAfter 40 = .ok (.aload_n 0, 1) := by decide +kernel
theorem dX13_digitsAfter_41 : decode cX13_digitsAfter 41 = .ok (.getfield 171, 3) := by decide +kernel
theorem dX13_digitsAfter_44 : decode cX13_digitsAfter 44 = .ok (.ifCond .ne 52, 3) := by decide +kernel
theorem dX13_digitsAfter_47 : decode cX13_digitsAfter 47 = .ok (.iload 4, 2) := by decide +kernel
theorem dX13_digitsAfter_49 : decode cX13_digitsAfter 49 = .ok (.iload_n 2, 1) := by decide +kernel
theorem dX13_digitsAfter_50 : decode cX13_digitsAfter 50 = .ok (.if_icmp .ge 46, 3) := by decide +kernel
theorem dX13_digitsAfter_53 : decode cX13_digitsAfter 53 = .ok (.aload_n 0, 1) := by decide +kernel
theorem dX13_digitsAfter_54 : decode cX13_digitsAfter 54 = .ok (.invokevirtual 175, 3) := by decide +kernel
theorem dX13_digitsAfter_57 : decode cX13_digitsAfter 57 = .ok (.bipush 48, 2) := by decide +kernel
theorem dX13_digitsAfter_59 : decode cX13_digitsAfter 59 = .ok (.bipush 57, 2) := by decide +kernel
theorem dX13_digitsAfter_61 : decode cX13_digitsAfter 61 = .ok (.invokestatic 52, 3) := by decide +kernel
theorem dX13_digitsAfter_64 : decode cX13_digitsAfter 64 = .ok (.ifCond .eq 32, 3) := by decide +kernel
theorem dX13_digitsAfter_67 : decode cX13_digitsAfter 67 = .ok (.bipush 10, 2) := by decide +kernel
theorem dX13_digitsAfter_69 : decode cX13_digitsAfter 69 = .ok (.iload_n 3, 1) := by decide +kernel
theorem dX13_digitsAfter_70 : decode cX13_digitsAfter 70 = .ok (.imul, 1) := by decide +kernel
theorem dX13_digitsAfter_71 : decode cX13_digitsAfter 71 = .ok (.aload_n 0, 1) := by decide +kernel
theorem dX13_digitsAfter_72 : decode cX13_digitsAfter 72 = .ok (.invokevirtual 175, 3) := by decide +kernel
theorem dX13_digitsAfter_75 : decode cX13_digitsAfter 75 = .ok (.iadd, 1) := by decide +kernel
theorem dX13_digitsAfter_76 : decode cX13_digitsAfter 76 = .ok (.bipush 48, 2) := by decide +kernel
theorem dX13_digitsAfter_78 : decode cX13_digitsAfter 78 = .ok (.isub, 1) := by decide +kernel
theorem dX13_digitsAfter_79 : decode cX13_digitsAfter 79 = .ok (.istore_n 3, 1) := by decide +kernel
theorem dX13_digitsAfter_80 : decode cX13_digitsAfter 80 = .ok (.aload_n 0, 1) := by decide +kernel
theorem dX13_digitsAfter_81 : decode cX13_digitsAfter 81 = .ok (.dup, 1) := by decide +kernel
theorem dX13_digitsAfter_82 : decode cX13_digitsAfter 82 = .ok (.getfield 168, 3) := by decide +kernel
theorem dX13_digitsAfter_85 : decode cX13_digitsAfter 85 = .ok (.iconst 1, 1) := by decide +kernel
theorem dX13_digitsAfter_86 : decode cX13_digitsAfter 86 = .ok (.iadd, 1) := by decide +kernel
theorem dX13_digitsAfter_87 : decode cX13_digitsAfter 87 = .ok (.putfield 168, 3) := by decide +kernel
theorem dX13_digitsAfter_90 : decode cX13_digitsAfter 90 = .ok (.iinc 4 1, 3) := by decide +kernel
theorem dX13_digitsAfter_93 : decode cX13_digitsAfter 93 = .ok (.goto (-53), 3) := by decide +kernel
theorem dX13_digitsAfter_96 : decode cX13_digitsAfter 96 = .ok (.iload_n 3, 1) := by decide +kernel
theorem dX13_digitsAfter_97 : decode cX13_digitsAfter 97 = .ok (.ireturn, 1) := by decide +kernel
theorem dX13_parsesP_0 : decode cX13_parsesP 0 = .ok (.aload_n 0, 1) := by decide +kernel
theorem dX13_parsesP_1 : decode cX13_parsesP 1 = .ok (.invokevirtual 175, 3) := by decide +kernel
theorem dX13_parsesP_4 : decode cX13_parsesP 4 = .ok (.bipush 117, 2) := by decide +kernel
theorem dX13_parsesP_6 : decode cX13_parsesP 6 = .ok (.if_icmp .ne 56, 3) := by decide +kernel
theorem dX13_parsesP_9 : decode cX13_parsesP 9 = .ok (.aload_n 0, 1) := by decide +kernel
theorem dX13_parsesP_10 : decode cX13_parsesP 10 = .ok (.getfield 39, 3) := by decide +kernel
theorem dX13_parsesP_13 : decode cX13_parsesP 13 = .ok (.iload_n 1, 1) := by decide +kernel
theorem dX13_parsesP_14 : decode cX13_parsesP 14 = .ok (.bipush 117, 2) := by decide +kernel
theorem dX13_parsesP_16 : decode cX13_parsesP 16 = .ok (.iastore, 1) := by decide +kernel
theorem dX13_parsesP_17 : decode cX13_parsesP 17 = .ok (.aload_n 0, 1) := by decide +kernel
theorem dX13_parsesP_18 : decode cX13_parsesP 18 = .ok (.bipush 117, 2) := by decide +kernel
theorem dX13_parsesP_20 : decode cX13_parsesP 20 = .ok (.invokevirtual 178, 3) := by decide +kernel
theorem dX13_parsesP_23 : decode cX13_parsesP 23 = .ok (.aload_n 0, 1) := by decide +kernel
theorem dX13_parsesP_24 : decode cX13_parsesP 24 = .ok (.bipush 116, 2) := by decide +kernel
theorem dX13_parsesP_26 : decode cX13_parsesP 26 = .ok (.invokevirtual 178, 3) := by decide +kernel
theorem dX13_parsesP_29 : decode cX13_parsesP 29 = .ok (.aload_n 0, 1) := by decide +kernel
theorem dX13_parsesP_30 : decode cX13_parsesP 30 = .ok (.getfield 39, 3) := by decide +kernel
theorem dX13_parsesP_33 : decode cX13_parsesP 33 = .ok (.iload_n 1, 1) := by decide +kernel
theorem dX13_parsesP_34 : decode cX13_parsesP 34 = .ok (.iconst 1, 1) := by decide +kernel
theorem dX13_parsesP_35 : decode cX13_parsesP 35 = .ok (.iadd, 1) := by decide +kernel
theorem dX13_parsesP_36 : decode cX13_parsesP 36 = .ok (.aload_n 0, 1) := by decide +kernel
theorem dX13_parsesP_37 : decode cX13_parsesP 37 = .ok (.bipush 32, 2) := by decide +kernel
theorem dX13_parsesP_39 : decode cX13_parsesP 39 = .ok (.iconst 2, 1) := by decide +kernel
theorem dX13_parsesP_40 : decode cX13_parsesP 40 = .ok (.invokevirtual 181, 3) := by decide +kernel
theorem dX13_parsesP_43 : decode cX13_parsesP 43 = .ok (.iastore, 1) := by decide +kernel
theorem dX13_parsesP_44 : decode cX13_parsesP 44 = .ok (.aload_n 0, 1) := by decide +kernel
theorem dX13_parsesP_45 : decode cX13_parsesP 45 = .ok (.getfield 39, 3) := by decide +kernel
theorem dX13_parsesP_48 : decode cX13_parsesP 48 = .ok (.iload_n 1, 1) := by decide +kernel
theorem dX13_parsesP_49 : decode cX13_parsesP 49 = .ok (.iconst 2, 1) := by decide +kernel
theorem dX13_parsesP_50 : decode cX13_parsesP 50 = .ok (.iadd, 1) := by decide +kernel
theorem dX13_parsesP_51 : decode cX13_parsesP 51 = .ok (.aload_n 0, 1) := by decide +kernel
theorem dX13_parsesP_52 : decode cX13_parsesP 52 = .ok (.bipush 32, 2) := by decide +kernel
theorem dX13_parsesP_54 : decode cX13_parsesP 54 = .ok (.iconst 1, 1) := by decide +kernel
theorem dX13_parsesP_55 : decode cX13_parsesP 55 = .ok (.invokevirtual 181, 3) := by decide +kernel
theorem dX13_parsesP_58 : decode cX13_parsesP 58 = .ok (.iastore, 1) := by decide +kernel
theorem dX13_parsesP_59 : decode cX13_parsesP 59 = .ok (.goto 70, 3) := by decide +kernel
theorem dX13_parsesP_62 : decode cX13_parsesP 62 = .ok (.aload_n 0, 1) := by decide +kernel
theorem dX13_parsesP_63 : decode cX13_parsesP 63 = .ok (.bipush 97, 2) := by decide +kernel
theorem dX13_parsesP_65 : decode cX13_parsesP 65 = .ok (.bipush 114, 2) := by decide +kernel
theorem dX13_parsesP_67 : decode cX13_parsesP 67 = .ok (.bipush 99, 2) := by decide +kernel
theorem dX13_parsesP_69 : decode cX13_parsesP 69 = .ok (.invokevirtual 184, 3) := by decide +kernel
theorem dX13_parsesP_72 : decode cX13_parsesP 72 = .ok (.aload_n 0, 1) := by decide +kernel
theorem dX13_parsesP_73 : decode cX13_parsesP 73 = .ok (.bipush 101, 2) := by decide +kernel
theorem dX13_parsesP_75 : decode cX13_parsesP 75 = .ok (.invokevirtual 178, 3) := by decide +kernel
theorem dX13_parsesP_78 : decode cX13_parsesP 78 = .ok (.aload_n 0, 1) := by decide +kernel
theorem dX13_parsesP_79 : decode cX13_parsesP 79 = .ok (.bipush 108, 2) := by decide +kernel
theorem dX13_parsesP_81 : decode cX13_parsesP 81 = .ok (.invokevirtual 178, 3) := by decide +kernel
theorem dX13_parsesP_84 : decode cX13_parsesP 84 = .ok (.aload_n 0, 1) := by decide +kernel
theorem dX13_parsesP_85 : decode cX13_parsesP 85 = .ok (.getfield 39, 3) := by decide +kernel
theorem dX13_parsesP_88 : decode cX13_parsesP 88 = .ok (.iload_n 1, 1) := by decide +kernel
theorem dX13_parsesP_89 : decode cX13_parsesP 89 = .ok (.iconst 1, 1) := by decide +kernel
theorem dX13_parsesP_90 : decode cX13_parsesP 90 = .ok (.iadd, 1) := by decide +kernel
theorem dX13_parsesP_91 : decode cX13_parsesP 91 = .ok (.aload_n 0, 1) := by decide +kernel
theorem dX13_parsesP_92 : decode cX13_parsesP 92 = .ok (.bipush 32, 2) := by decide +kernel
theorem dX13_parsesP_94 : decode cX13_parsesP 94 = .ok (.iconst 2, 1) := by decide +kernel
theorem dX13_parsesP_95 : decode cX13_parsesP 95 = .ok (.invokevirtual 181, 3) := by decide +kernel
theorem dX13_parsesP_98 : decode cX13_parsesP 98 = .ok (.iastore, 1) := by decide +kernel
theorem dX13_parsesP_99 : decode cX13_parsesP 99 = .ok (.aload_n 0, 1) := by decide +kernel
theorem dX13_parsesP_100 : decode cX13_parsesP 100 = .ok (.getfield 39, 3) := by decide +kernel
theorem dX13_parsesP_103 : decode cX13_parsesP 103 = .ok (.iload_n 1, 1) := by decide +kernel
theorem dX13_parsesP_104 : decode cX13_parsesP 104 = .ok (.iconst 2, 1) := by decide +kernel
theorem dX13_parsesP_105 : decode cX13_parsesP 105 = .ok (.iadd, 1) := by decide +kernel
theorem dX13_parsesP_106 : decode cX13_parsesP 106 = .ok (.aload_n 0, 1) := by decide +kernel
theorem dX13_parsesP_107 : decode cX13_parsesP 107 = .ok (.bipush 32, 2) := by decide +kernel
theorem dX13_parsesP_109 : decode cX13_parsesP 109 = .ok (.iconst 1, 1) := by decide +kernel
theorem dX13_parsesP_110 : decode cX13_parsesP 110 = .ok (.invokevirtual 181, 3) := by decide +kernel
theorem dX13_parsesP_113 : decode cX13_parsesP 113 = .ok (.iastore, 1) := by decide +kernel
theorem dX13_parsesP_114 : decode cX13_parsesP 114 = .ok (.aload_n 0, 1) := by decide +kernel
theorem dX13_parsesP_115 : decode cX13_parsesP 115 = .ok (.getfield 39, 3) := by decide +kernel
theorem dX13_parsesP_118 : decode cX13_parsesP 118 = .ok (.iload_n 1, 1) := by decide +kernel
theorem dX13_parsesP_119 : decode cX13_parsesP 119 = .ok (.iconst 3, 1) := by decide +kernel
theorem dX13_parsesP_120 : decode cX13_parsesP 120 = .ok (.iadd, 1) := by decide +kernel
theorem dX13_parsesP_121 : decode cX13_parsesP 121 = .ok (.aload_n 0, 1) := by decide +kernel
theorem dX13_parsesP_122 : decode cX13_parsesP 122 = .ok (.bipush 32, 2) := by decide +kernel
theorem dX13_parsesP_124 : decode cX13_parsesP 124 = .ok (.iconst 1, 1) := by decide +kernel
theorem dX13_parsesP_125 : decode cX13_parsesP 125 = .ok (.invokevirtual 181, 3) := by decide +kernel
theorem dX13_parsesP_128 : decode cX13_parsesP 128 = .ok (.iastore, 1) := by decide +kernel
theorem dX13_parsesP_129 : decode cX13_parsesP 129 = .ok (.return_, 1) := by decide +kernel
theorem dX13_parsesCommand_0 : decode cX13_parsesCommand 0 = .ok (.aload_n 0, 1) := by decide +kernel
theorem dX13_parsesCommand_1 : decode cX13_parsesCommand 1 = .ok (.invokevirtual 175, 3) := by decide +kernel
theorem dX13_parsesCommand_4 : decode cX13_parsesCommand 4 = .ok (.istore_n 2, 1) := by decide +kernel
theorem dX13_parsesCommand_5 : decode cX13_parsesCommand 5 = .ok (.aload_n 0, 1) := by decide +kernel
theorem dX13_parsesCommand_6 : decode cX13_parsesCommand 6 = .ok (.dup, 1) := by decide +kernel
theorem dX13_parsesCommand_7 : decode cX13_parsesCommand 7 = .ok (.getfield 168, 3) := by decide +kernel
theorem dX13_parsesCommand_10 : decode cX13_parsesCommand 10 = .ok (.iconst 1, 1) := by decide +kernel
theorem dX13_parsesCommand_11 : decode cX13_parsesCommand 11 = .ok (.iadd, 1) := by decide +kernel
theorem dX13_parsesCommand_12 : decode cX13_parsesCommand 12 = .ok (.putfield 168, 3) := by decide +kernel
theorem dX13_parsesCommand_15 : decode cX13_parsesCommand 15 = .ok (.aload_n 0, 1) := by decide +kernel
theorem dX13_parsesCommand_16 : decode cX13_parsesCommand 16 = .ok (.getfield 39, 3) := by decide +kernel
theorem dX13_parsesCommand_19 : decode cX13_parsesCommand 19 = .ok (.iload_n 1, 1) := by decide +kernel
theorem dX13_parsesCommand_20 : decode cX13_parsesCommand 20 = .ok (.iload_n 2, 1) := by decide +kernel
theorem dX13_parsesCommand_21 : decode cX13_parsesCommand 21 = .ok (.iastore, 1) := by decide +kernel
theorem dX13_parsesCommand_22 : decode cX13_parsesCommand 22 = .ok (.iload_n 2, 1) := by decide +kernel
theorem dX13_parsesCommand_23 : decode cX13_parsesCommand 23 = .ok (.tableswitch 288 98 114 #[260, 211, 288, 288, 288, 147, 288, 288, 288, 288, 288, 288, 288, 181, 139, 288, 81], 81) := by decide +kernel
theorem dX13_parsesCommand_104 : decode cX13_parsesCommand 104 = .ok (.aload_n 0, 1) := by decide +kernel
theorem dX13_parsesCommand_105 : decode cX13_parsesCommand 105 = .ok (.bipush 111, 2) := by decide +kernel
theorem dX13_parsesCommand_107 : decode cX13_parsesCommand 107 = .ok (.bipush 97, 2) := by decide +kernel
theorem dX13_parsesCommand_109 : decode cX13_parsesCommand 109 = .ok (.bipush 100, 2) := by decide +kernel
theorem dX13_parsesCommand_111 : decode cX13_parsesCommand 111 = .ok (.invokevirtual 184, 3) := by decide +kernel
theorem dX13_parsesCommand_114 : decode cX13_parsesCommand 114 = .ok (.aload_n 0, 1) := by decide +kernel
theorem dX13_parsesCommand_115 : decode cX13_parsesCommand 115 = .ok (.getfield 39, 3) := by decide +kernel
theorem dX13_parsesCommand_118 : decode cX13_parsesCommand 118 = .ok (.iload_n 1, 1) := by decide +kernel
theorem dX13_parsesCommand_119 : decode cX13_parsesCommand 119 = .ok (.iconst 1, 1) := by decide +kernel
theorem dX13_parsesCommand_120 : decode cX13_parsesCommand 120 = .ok (.iadd, 1) := by decide +kernel
theorem dX13_parsesCommand_121 : decode cX13_parsesCommand 121 = .ok (.aload_n 0, 1) := by decide +kernel
theorem dX13_parsesCommand_122 : decode cX13_parsesCommand 122 = .ok (.bipush 32, 2) := by decide +kernel
theorem dX13_parsesCommand_124 : decode cX13_parsesCommand 124 = .ok (.iconst 1, 1) := by decide +kernel
theorem dX13_parsesCommand_125 : decode cX13_parsesCommand 125 = .ok (.invokevirtual 181, 3) := by decide +kernel
theorem dX13_parsesCommand_128 : decode cX13_parsesCommand 128 = .ok (.iastore, 1) := by decide +kernel
theorem dX13_parsesCommand_129 : decode cX13_parsesCommand 129 = .ok (.aload_n 0, 1) := by decide +kernel
theorem dX13_parsesCommand_130 : decode cX13_parsesCommand 130 = .ok (.getfield 39, 3) := by decide +kernel
theorem dX13_parsesCommand_133 : decode cX13_parsesCommand 133 = .ok (.iload_n 1, 1) := by decide +kernel
theorem dX13_parsesCommand_134 : decode cX13_parsesCommand 134 = .ok (.iconst 2, 1) := by decide +kernel
theorem dX13_parsesCommand_135 : decode cX13_parsesCommand 135 = .ok (.iadd, 1) := by decide +kernel
theorem dX13_parsesCommand_136 : decode cX13_parsesCommand 136 = .ok (.aload_n 0, 1) := by decide +kernel
theorem dX13_parsesCommand_137 : decode cX13_parsesCommand 137 = .ok (.bipush 45, 2) := by decide +kernel
theorem dX13_parsesCommand_139 : decode cX13_parsesCommand 139 = .ok (.iconst 1, 1) := by decide +kernel
theorem dX13_parsesCommand_140 : decode cX13_parsesCommand 140 = .ok (.invokevirtual 181, 3) := by decide +kernel
theorem dX13_parsesCommand_143 : decode cX13_parsesCommand 143 = .ok (.iastore, 1) := by decide +kernel
theorem dX13_parsesCommand_144 : decode cX13_parsesCommand 144 = .ok (.aload_n 0, 1) := by decide +kernel
theorem dX13_parsesCommand_145 : decode cX13_parsesCommand 145 = .ok (.getfield 39, 3) := by decide +kernel
theorem dX13_parsesCommand_148 : decode cX13_parsesCommand 148 = .ok (.iload_n 1, 1) := by decide +kernel
theorem dX13_parsesCommand_149 : decode cX13_parsesCommand 149 = .ok (.iconst 3, 1) := by decide +kernel
theorem dX13_parsesCommand_150 : decode cX13_parsesCommand 150 = .ok (.iadd, 1) := by decide +kernel
theorem dX13_parsesCommand_151 : decode cX13_parsesCommand 151 = .ok (.aload_n 0, 1) := by decide +kernel
theorem dX13_parsesCommand_152 : decode cX13_parsesCommand 152 = .ok (.bipush 32, 2) := by decide +kernel
theorem dX13_parsesCommand_154 : decode cX13_parsesCommand 154 = .ok (.iconst 2, 1) := by decide +kernel
theorem dX13_parsesCommand_155 : decode cX13_parsesCommand 155 = .ok (.invokevirtual 181, 3) := by decide +kernel
theorem dX13_parsesCommand_158 : decode cX13_parsesCommand 158 = .ok (.iastore, 1) := by decide +kernel
theorem dX13_parsesCommand_159 : decode cX13_parsesCommand 159 = .ok (.goto 167, 3) := by decide +kernel
theorem dX13_parsesCommand_162 : decode cX13_parsesCommand 162 = .ok (.aload_n 0, 1) := by decide +kernel
theorem dX13_parsesCommand_163 : decode cX13_parsesCommand 163 = .ok (.iload_n 1, 1) := by decide +kernel
theorem dX13_parsesCommand_164 : decode cX13_parsesCommand 164 = .ok (.invokevirtual 188, 3) := by decide +kernel
theorem dX13_parsesCommand_167 : decode cX13_parsesCommand 167 = .ok (.goto 159, 3) := by decide +kernel
theorem dX13_parsesCommand_170 : decode cX13_parsesCommand 170 = .ok (.aload_n 0, 1) := by decide +kernel
theorem dX13_parsesCommand_171 : decode cX13_parsesCommand 171 = .ok (.bipush 108, 2) := by decide +kernel
theorem dX13_parsesCommand_173 : decode cX13_parsesCommand 173 = .ok (.bipush 111, 2) := by decide +kernel
theorem dX13_parsesCommand_175 : decode cX13_parsesCommand 175 = .ok (.bipush 118, 2) := by decide +kernel
theorem dX13_parsesCommand_177 : decode cX13_parsesCommand 177 = .ok (.invokevirtual 184, 3) := by decide +kernel
theorem dX13_parsesCommand_180 : decode cX13_parsesCommand 180 = .ok (.aload_n 0, 1) := by decide +kernel
theorem dX13_parsesCommand_181 : decode cX13_parsesCommand 181 = .ok (.bipush 101, 2) := by decide +kernel
theorem dX13_parsesCommand_183 : decode cX13_parsesCommand 183 = .ok (.invokevirtual 178, 3) := by decide +kernel
theorem dX13_parsesCommand_186 : decode cX13_parsesCommand 186 = .ok (.aload_n 0, 1) := by decide +kernel
theorem dX13_parsesCommand_187 : decode cX13_parsesCommand 187 = .ok (.getfield 39, 3) := by decide +kernel
theorem dX13_parsesCommand_190 : decode cX13_parsesCommand 190 = .ok (.iload_n 1, 1) := by decide +kernel
theorem dX13_parsesCommand_191 : decode cX13_parsesCommand 191 = .ok (.iconst 1, 1) := by decide +kernel
theorem dX13_parsesCommand_192 : decode cX13_parsesCommand 192 = .ok (.iadd, 1) := by decide +kernel
theorem dX13_parsesCommand_193 : decode cX13_parsesCommand 193 = .ok (.aload_n 0, 1) := by decide +kernel
theorem dX13_parsesCommand_194 : decode cX13_parsesCommand 194 = .ok (.bipush 32, 2) := by decide +kernel
theorem dX13_parsesCommand_196 : decode cX13_parsesCommand 196 = .ok (.iconst 1, 1) := by decide +kernel
theorem dX13_parsesCommand_197 : decode cX13_parsesCommand 197 = .ok (.invokevirtual 181, 3) := by decide +kernel
theorem dX13_parsesCommand_200 : decode cX13_parsesCommand 200 = .ok (.iastore, 1) := by decide +kernel
theorem dX13_parsesCommand_201 : decode cX13_parsesCommand 201 = .ok (.goto 125, 3) := by decide +kernel
theorem dX13_parsesCommand_204 : decode cX13_parsesCommand 204 = .ok (.aload_n 0, 1) := by decide +kernel
theorem dX13_parsesCommand_205 : decode cX13_parsesCommand 205 = .ok (.bipush 117, 2) := by decide +kernel
theorem dX13_parsesCommand_207 : decode cX13_parsesCommand 207 = .ok (.invokevirtual 178, 3) := by decide +kernel
theorem dX13_parsesCommand_210 : decode cX13_parsesCommand 210 = .ok (.aload_n 0, 1) := by decide +kernel
theorem dX13_parsesCommand_211 : decode cX13_parsesCommand 211 = .ok (.bipush 116, 2) := by decide +kernel
theorem dX13_parsesCommand_213 : decode cX13_parsesCommand 213 = .ok (.invokevirtual 178, 3) := by decide +kernel
theorem dX13_parsesCommand_216 : decode cX13_parsesCommand 216 = .ok (.aload_n 0, 1) := by decide +kernel
theorem dX13_parsesCommand_217 : decode cX13_parsesCommand 217 = .ok (.getfield 39, 3) := by decide +kernel
theorem dX13_parsesCommand_220 : decode cX13_parsesCommand 220 = .ok (.iload_n 1, 1) := by decide +kernel
theorem dX13_parsesCommand_221 : decode cX13_parsesCommand 221 = .ok (.iconst 1, 1) := by decide +kernel
theorem dX13_parsesCommand_222 : decode cX13_parsesCommand 222 = .ok (.iadd, 1) := by decide +kernel
theorem dX13_parsesCommand_223 : decode cX13_parsesCommand 223 = .ok (.aload_n 0, 1) := by decide +kernel
theorem dX13_parsesCommand_224 : decode cX13_parsesCommand 224 = .ok (.bipush 32, 2) := by decide +kernel
theorem dX13_parsesCommand_226 : decode cX13_parsesCommand 226 = .ok (.iconst 2, 1) := by decide +kernel
theorem dX13_parsesCommand_227 : decode cX13_parsesCommand 227 = .ok (.invokevirtual 181, 3) := by decide +kernel
theorem dX13_parsesCommand_230 : decode cX13_parsesCommand 230 = .ok (.iastore, 1) := by decide +kernel
theorem dX13_parsesCommand_231 : decode cX13_parsesCommand 231 = .ok (.goto 95, 3) := by decide +kernel
theorem dX13_parsesCommand_234 : decode cX13_parsesCommand 234 = .ok (.aload_n 0, 1) := by decide +kernel
theorem dX13_parsesCommand_235 : decode cX13_parsesCommand 235 = .ok (.bipush 97, 2) := by decide +kernel
theorem dX13_parsesCommand_237 : decode cX13_parsesCommand 237 = .ok (.bipush 114, 2) := by decide +kernel
theorem dX13_parsesCommand_239 : decode cX13_parsesCommand 239 = .ok (.bipush 114, 2) := by decide +kernel
theorem dX13_parsesCommand_241 : decode cX13_parsesCommand 241 = .ok (.invokevirtual 184, 3) := by decide +kernel
theorem dX13_parsesCommand_244 : decode cX13_parsesCommand 244 = .ok (.aload_n 0, 1) := by decide +kernel
theorem dX13_parsesCommand_245 : decode cX13_parsesCommand 245 = .ok (.bipush 121, 2) := by decide +kernel
theorem dX13_parsesCommand_247 : decode cX13_parsesCommand 247 = .ok (.invokevirtual 178, 3) := by decide +kernel
theorem dX13_parsesCommand_250 : decode cX13_parsesCommand 250 = .ok (.aload_n 0, 1) := by decide +kernel
theorem dX13_parsesCommand_251 : decode cX13_parsesCommand 251 = .ok (.getfield 39, 3) := by decide +kernel
theorem dX13_parsesCommand_254 : decode cX13_parsesCommand 254 = .ok (.iload_n 1, 1) := by decide +kernel
theorem dX13_parsesCommand_255 : decode cX13_parsesCommand 255 = .ok (.iconst 1, 1) := by decide +kernel
theorem dX13_parsesCommand_256 : decode cX13_parsesCommand 256 = .ok (.iadd, 1) := by decide +kernel
theorem dX13_parsesCommand_257 : decode cX13_parsesCommand 257 = .ok (.aload_n 0, 1) := by decide +kernel
theorem dX13_parsesCommand_258 : decode cX13_parsesCommand 258 = .ok (.bipush 32, 2) := by decide +kernel
theorem dX13_parsesCommand_260 : decode cX13_parsesCommand 260 = .ok (.iconst 1, 1) := by decide +kernel
theorem dX13_parsesCommand_261 : decode cX13_parsesCommand 261 = .ok (.invokevirtual 181, 3) := by decide +kernel
theorem dX13_parsesCommand_264 : decode cX13_parsesCommand 264 = .ok (.iastore, 1) := by decide +kernel
theorem dX13_parsesCommand_265 : decode cX13_parsesCommand 265 = .ok (.aload_n 0, 1) := by decide +kernel
theorem dX13_parsesCommand_266 : decode cX13_parsesCommand 266 = .ok (.getfield 39, 3) := by decide +kernel
theorem dX13_parsesCommand_269 : decode cX13_parsesCommand 269 = .ok (.iload_n 1, 1) := by decide +kernel
theorem dX13_parsesCommand_270 : decode cX13_parsesCommand 270 = .ok (.iconst 2, 1) := by decide +kernel
theorem dX13_parsesCommand_271 : decode cX13_parsesCommand 271 = .ok (.iadd, 1) := by decide +kernel
theorem dX13_parsesCommand_272 : decode cX13_parsesCommand 272 = .ok (.aload_n 0, 1) := by decide +kernel
theorem dX13_parsesCommand_273 : decode cX13_parsesCommand 273 = .ok (.bipush 32, 2) := by decide +kernel
theorem dX13_parsesCommand_275 : decode cX13_parsesCommand 275 = .ok (.iconst 1, 1) := by decide +kernel
theorem dX13_parsesCommand_276 : decode cX13_parsesCommand 276 = .ok (.invokevirtual 181, 3) := by decide +kernel
theorem dX13_parsesCommand_279 : decode cX13_parsesCommand 279 = .ok (.iastore, 1) := by decide +kernel
theorem dX13_parsesCommand_280 : decode cX13_parsesCommand 280 = .ok (.goto 46, 3) := by decide +kernel
theorem dX13_parsesCommand_283 : decode cX13_parsesCommand 283 = .ok (.aload_n 0, 1) := by decide +kernel
theorem dX13_parsesCommand_284 : decode cX13_parsesCommand 284 = .ok (.bipush 97, 2) := by decide +kernel
theorem dX13_parsesCommand_286 : decode cX13_parsesCommand 286 = .ok (.bipush 99, 2) := by decide +kernel
theorem dX13_parsesCommand_288 : decode cX13_parsesCommand 288 = .ok (.bipush 107, 2) := by decide +kernel
theorem dX13_parsesCommand_290 : decode cX13_parsesCommand 290 = .ok (.invokevirtual 184, 3) := by decide +kernel
theorem dX13_parsesCommand_293 : decode cX13_parsesCommand 293 = .ok (.aload_n 0, 1) := by decide +kernel
theorem dX13_parsesCommand_294 : decode cX13_parsesCommand 294 = .ok (.getfield 39, 3) := by decide +kernel
theorem dX13_parsesCommand_297 : decode cX13_parsesCommand 297 = .ok (.iload_n 1, 1) := by decide +kernel
theorem dX13_parsesCommand_298 : decode cX13_parsesCommand 298 = .ok (.iconst 1, 1) := by decide +kernel
theorem dX13_parsesCommand_299 : decode cX13_parsesCommand 299 = .ok (.iadd, 1) := by decide +kernel
theorem dX13_parsesCommand_300 : decode cX13_parsesCommand 300 = .ok (.aload_n 0, 1) := by decide +kernel
theorem dX13_parsesCommand_301 : decode cX13_parsesCommand 301 = .ok (.bipush 32, 2) := by decide +kernel
theorem dX13_parsesCommand_303 : decode cX13_parsesCommand 303 = .ok (.iconst 2, 1) := by decide +kernel
theorem dX13_parsesCommand_304 : decode cX13_parsesCommand 304 = .ok (.invokevirtual 181, 3) := by decide +kernel
theorem dX13_parsesCommand_307 : decode cX13_parsesCommand 307 = .ok (.iastore, 1) := by decide +kernel
theorem dX13_parsesCommand_308 : decode cX13_parsesCommand 308 = .ok (.goto 18, 3) := by decide +kernel
theorem dX13_parsesCommand_311 : decode cX13_parsesCommand 311 = .ok (.aload_n 0, 1) := by decide +kernel
theorem dX13_parsesCommand_312 : decode cX13_parsesCommand 312 = .ok (.iconst 1, 1) := by decide +kernel
theorem dX13_parsesCommand_313 : decode cX13_parsesCommand 313 = .ok (.putfield 171, 3) := by decide +kernel
theorem dX13_parsesCommand_316 : decode cX13_parsesCommand 316 = .ok (.aload_n 0, 1) := by decide +kernel
theorem dX13_parsesCommand_317 : decode cX13_parsesCommand 317 = .ok (.dup, 1) := by decide +kernel
theorem dX13_parsesCommand_318 : decode cX13_parsesCommand 318 = .ok (.getfield 168, 3) := by decide +kernel
theorem dX13_parsesCommand_321 : decode cX13_parsesCommand 321 = .ok (.iconst 1, 1) := by decide +kernel
theorem dX13_parsesCommand_322 : decode cX13_parsesCommand 322 = .ok (.isub, 1) := by decide +kernel
theorem dX13_parsesCommand_323 : decode cX13_parsesCommand 323 = .ok (.putfield 168, 3) := by decide +kernel
theorem dX13_parsesCommand_326 : decode cX13_parsesCommand 326 = .ok (.return_, 1) := by decide +kernel
theorem dX13_carriesOut_0 : decode cX13_carriesOut 0 = .ok (.aload_n 0, 1) := by decide +kernel
theorem dX13_carriesOut_1 : decode cX13_carriesOut 1 = .ok (.getfield 39, 3) := by decide +kernel
theorem dX13_carriesOut_4 : decode cX13_carriesOut 4 = .ok (.iload_n 1, 1) := by decide +kernel
theorem dX13_carriesOut_5 : decode cX13_carriesOut 5 = .ok (.iconst 1, 1) := by decide +kernel
theorem dX13_carriesOut_6 : decode cX13_carriesOut 6 = .ok (.iadd, 1) := by decide +kernel
theorem dX13_carriesOut_7 : decode cX13_carriesOut 7 = .ok (.iaload, 1) := by decide +kernel
theorem dX13_carriesOut_8 : decode cX13_carriesOut 8 = .ok (.istore_n 2, 1) := by decide +kernel
theorem dX13_carriesOut_9 : decode cX13_carriesOut 9 = .ok (.aload_n 0, 1) := by decide +kernel
theorem dX13_carriesOut_10 : decode cX13_carriesOut 10 = .ok (.getfield 39, 3) := by decide +kernel
theorem dX13_carriesOut_13 : decode cX13_carriesOut 13 = .ok (.iload_n 1, 1) := by decide +kernel
theorem dX13_carriesOut_14 : decode cX13_carriesOut 14 = .ok (.iconst 2, 1) := by decide +kernel
theorem dX13_carriesOut_15 : decode cX13_carriesOut 15 = .ok (.iadd, 1) := by decide +kernel
theorem dX13_carriesOut_16 : decode cX13_carriesOut 16 = .ok (.iaload, 1) := by decide +kernel
theorem dX13_carriesOut_17 : decode cX13_carriesOut 17 = .ok (.istore_n 3, 1) := by decide +kernel
theorem dX13_carriesOut_18 : decode cX13_carriesOut 18 = .ok (.aload_n 0, 1) := by decide +kernel
theorem dX13_carriesOut_19 : decode cX13_carriesOut 19 = .ok (.getfield 39, 3) := by decide +kernel
theorem dX13_carriesOut_22 : decode cX13_carriesOut 22 = .ok (.iload_n 1, 1) := by decide +kernel
theorem dX13_carriesOut_23 : decode cX13_carriesOut 23 = .ok (.iaload, 1) := by decide +kernel
theorem dX13_carriesOut_24 : decode cX13_carriesOut 24 = .ok (.tableswitch 148 99 117 #[141, 148, 148, 148, 122, 148, 148, 148, 148, 148, 148, 148, 135, 107, 148, 92, 148, 148, 128], 92) := by decide +kernel
theorem dX13_carriesOut_116 : decode cX13_carriesOut 116 = .ok (.aload_n 0, 1) := by decide +kernel
theorem dX13_carriesOut_117 : decode cX13_carriesOut 117 = .ok (.iload_n 2, 1) := by decide +kernel
theorem dX13_carriesOut_118 : decode cX13_carriesOut 118 = .ok (.iload_n 3, 1) := by decide +kernel
theorem dX13_carriesOut_119 : decode cX13_carriesOut 119 = .ok (.aload_n 0, 1) := by decide +kernel
theorem dX13_carriesOut_120 : decode cX13_carriesOut 120 = .ok (.getfield 39, 3) := by decide +kernel
theorem dX13_carriesOut_123 : decode cX13_carriesOut 123 = .ok (.iload_n 1, 1) := by decide +kernel
theorem dX13_carriesOut_124 : decode cX13_carriesOut 124 = .ok (.iconst 3, 1) := by decide +kernel
theorem dX13_carriesOut_125 : decode cX13_carriesOut 125 = .ok (.iadd, 1) := by decide +kernel
theorem dX13_carriesOut_126 : decode cX13_carriesOut 126 = .ok (.iaload, 1) := by decide +kernel
theorem dX13_carriesOut_127 : decode cX13_carriesOut 127 = .ok (.invokevirtual 78, 3) := by decide +kernel
theorem dX13_carriesOut_130 : decode cX13_carriesOut 130 = .ok (.ireturn, 1) := by decide +kernel
theorem dX13_carriesOut_131 : decode cX13_carriesOut 131 = .ok (.aload_n 0, 1) := by decide +kernel
theorem dX13_carriesOut_132 : decode cX13_carriesOut 132 = .ok (.iload_n 2, 1) := by decide +kernel
theorem dX13_carriesOut_133 : decode cX13_carriesOut 133 = .ok (.iload_n 3, 1) := by decide +kernel
theorem dX13_carriesOut_134 : decode cX13_carriesOut 134 = .ok (.aload_n 0, 1) := by decide +kernel
theorem dX13_carriesOut_135 : decode cX13_carriesOut 135 = .ok (.getfield 39, 3) := by decide +kernel
theorem dX13_carriesOut_138 : decode cX13_carriesOut 138 = .ok (.iload_n 1, 1) := by decide +kernel
theorem dX13_carriesOut_139 : decode cX13_carriesOut 139 = .ok (.iconst 3, 1) := by decide +kernel
theorem dX13_carriesOut_140 : decode cX13_carriesOut 140 = .ok (.iadd, 1) := by decide +kernel
theorem dX13_carriesOut_141 : decode cX13_carriesOut 141 = .ok (.iaload, 1) := by decide +kernel
theorem dX13_carriesOut_142 : decode cX13_carriesOut 142 = .ok (.invokevirtual 89, 3) := by decide +kernel
theorem dX13_carriesOut_145 : decode cX13_carriesOut 145 = .ok (.ireturn, 1) := by decide +kernel
theorem dX13_carriesOut_146 : decode cX13_carriesOut 146 = .ok (.aload_n 0, 1) := by decide +kernel
theorem dX13_carriesOut_147 : decode cX13_carriesOut 147 = .ok (.iload_n 2, 1) := by decide +kernel
theorem dX13_carriesOut_148 : decode cX13_carriesOut 148 = .ok (.invokevirtual 92, 3) := by decide +kernel
theorem dX13_carriesOut_151 : decode cX13_carriesOut 151 = .ok (.ireturn, 1) := by decide +kernel
theorem dX13_carriesOut_152 : decode cX13_carriesOut 152 = .ok (.aload_n 0, 1) := by decide +kernel
theorem dX13_carriesOut_153 : decode cX13_carriesOut 153 = .ok (.iload_n 2, 1) := by decide +kernel
theorem dX13_carriesOut_154 : decode cX13_carriesOut 154 = .ok (.iload_n 3, 1) := by decide +kernel
theorem dX13_carriesOut_155 : decode cX13_carriesOut 155 = .ok (.invokevirtual 120, 3) := by decide +kernel
theorem dX13_carriesOut_158 : decode cX13_carriesOut 158 = .ok (.ireturn, 1) := by decide +kernel
theorem dX13_carriesOut_159 : decode cX13_carriesOut 159 = .ok (.aload_n 0, 1) := by decide +kernel
theorem dX13_carriesOut_160 : decode cX13_carriesOut 160 = .ok (.iload_n 2, 1) := by decide +kernel
theorem dX13_carriesOut_161 : decode cX13_carriesOut 161 = .ok (.invokevirtual 123, 3) := by decide +kernel
theorem dX13_carriesOut_164 : decode cX13_carriesOut 164 = .ok (.ireturn, 1) := by decide +kernel
theorem dX13_carriesOut_165 : decode cX13_carriesOut 165 = .ok (.aload_n 0, 1) := by decide +kernel
theorem dX13_carriesOut_166 : decode cX13_carriesOut 166 = .ok (.iload_n 2, 1) := by decide +kernel
theorem dX13_carriesOut_167 : decode cX13_carriesOut 167 = .ok (.iload_n 3, 1) := by decide +kernel
theorem dX13_carriesOut_168 : decode cX13_carriesOut 168 = .ok (.invokevirtual 129, 3) := by decide +kernel
theorem dX13_carriesOut_171 : decode cX13_carriesOut 171 = .ok (.ireturn, 1) := by decide +kernel
theorem dX13_carriesOut_172 : decode cX13_carriesOut 172 = .ok (.aload_n 0, 1) := by decide +kernel
theorem dX13_carriesOut_173 : decode cX13_carriesOut 173 = .ok (.iload_n 2, 1) := by decide +kernel
theorem dX13_carriesOut_174 : decode cX13_carriesOut 174 = .ok (.invokevirtual 132, 3) := by decide +kernel
theorem dX13_carriesOut_177 : decode cX13_carriesOut 177 = .ok (.ireturn, 1) := by decide +kernel
theorem dX13_runCommands_0 : decode cX13_runCommands 0 = .ok (.aload_n 0, 1) := by decide +kernel
theorem dX13_runCommands_1 : decode cX13_runCommands 1 = .ok (.iconst 0, 1) := by decide +kernel
theorem dX13_runCommands_2 : decode cX13_runCommands 2 = .ok (.putfield 168, 3) := by decide +kernel
theorem dX13_runCommands_5 : decode cX13_runCommands 5 = .ok (.aload_n 0, 1) := by decide +kernel
theorem dX13_runCommands_6 : decode cX13_runCommands 6 = .ok (.iconst 0, 1) := by decide +kernel
theorem dX13_runCommands_7 : decode cX13_runCommands 7 = .ok (.putfield 171, 3) := by decide +kernel
theorem dX13_runCommands_10 : decode cX13_runCommands 10 = .ok (.iconst 0, 1) := by decide +kernel
theorem dX13_runCommands_11 : decode cX13_runCommands 11 = .ok (.istore_n 1, 1) := by decide +kernel
theorem dX13_runCommands_12 : decode cX13_runCommands 12 = .ok (.iconst 1, 1) := by decide +kernel
theorem dX13_runCommands_13 : decode cX13_runCommands 13 = .ok (.istore_n 2, 1) := by decide +kernel
theorem dX13_runCommands_14 : decode cX13_runCommands 14 = .ok (.iload_n 2, 1) := by decide +kernel
theorem dX13_runCommands_15 : decode cX13_runCommands 15 = .ok (.ifCond .eq 56, 3) := by decide +kernel
theorem dX13_runCommands_18 : decode cX13_runCommands 18 = .ok (.aload_n 0, 1) := by decide +kernel
theorem dX13_runCommands_19 : decode cX13_runCommands 19 = .ok (.iconst 4, 1) := by decide +kernel
theorem dX13_runCommands_20 : decode cX13_runCommands 20 = .ok (.iload_n 1, 1) := by decide +kernel
theorem dX13_runCommands_21 : decode cX13_runCommands 21 = .ok (.imul, 1) := by decide +kernel
theorem dX13_runCommands_22 : decode cX13_runCommands 22 = .ok (.invokevirtual 191, 3) := by decide +kernel
theorem dX13_runCommands_25 : decode cX13_runCommands 25 = .ok (.iinc 1 1, 3) := by decide +kernel
theorem dX13_runCommands_28 : decode cX13_runCommands 28 = .ok (.aload_n 0, 1) := by decide +kernel
theorem dX13_runCommands_29 : decode cX13_runCommands 29 = .ok (.getfield 171, 3) := by decide +kernel
theorem dX13_runCommands_32 : decode cX13_runCommands 32 = .ok (.ifCond .ne 16, 3) := by decide +kernel
theorem dX13_runCommands_35 : decode cX13_runCommands 35 = .ok (.aload_n 0, 1) := by decide +kernel
theorem dX13_runCommands_36 : decode cX13_runCommands 36 = .ok (.invokevirtual 175, 3) := by decide +kernel
theorem dX13_runCommands_39 : decode cX13_runCommands 39 = .ok (.bipush 59, 2) := by decide +kernel
theorem dX13_runCommands_41 : decode cX13_runCommands 41 = .ok (.if_icmp .ne 7, 3) := by decide +kernel
theorem dX13_runCommands_44 : decode cX13_runCommands 44 = .ok (.iconst 1, 1) := by decide +kernel
theorem dX13_runCommands_45 : decode cX13_runCommands 45 = .ok (.goto 4, 3) := by decide +kernel
theorem dX13_runCommands_48 : decode cX13_runCommands 48 = .ok (.iconst 0, 1) := by decide +kernel
theorem dX13_runCommands_49 : decode cX13_runCommands 49 = .ok (.istore_n 2, 1) := by decide +kernel
theorem dX13_runCommands_50 : decode cX13_runCommands 50 = .ok (.aload_n 0, 1) := by decide +kernel
theorem dX13_runCommands_51 : decode cX13_runCommands 51 = .ok (.dup, 1) := by decide +kernel
theorem dX13_runCommands_52 : decode cX13_runCommands 52 = .ok (.getfield 168, 3) := by decide +kernel
theorem dX13_runCommands_55 : decode cX13_runCommands 55 = .ok (.iload_n 2, 1) := by decide +kernel
theorem dX13_runCommands_56 : decode cX13_runCommands 56 = .ok (.ifCond .eq 7, 3) := by decide +kernel
theorem dX13_runCommands_59 : decode cX13_runCommands 59 = .ok (.iconst 1, 1) := by decide +kernel
theorem dX13_runCommands_60 : decode cX13_runCommands 60 = .ok (.goto 4, 3) := by decide +kernel
theorem dX13_runCommands_63 : decode cX13_runCommands 63 = .ok (.iconst 0, 1) := by decide +kernel
theorem dX13_runCommands_64 : decode cX13_runCommands 64 = .ok (.iadd, 1) := by decide +kernel
theorem dX13_runCommands_65 : decode cX13_runCommands 65 = .ok (.putfield 168, 3) := by decide +kernel
theorem dX13_runCommands_68 : decode cX13_runCommands 68 = .ok (.goto (-54), 3) := by decide +kernel
theorem dX13_runCommands_71 : decode cX13_runCommands 71 = .ok (.aload_n 0, 1) := by decide +kernel
theorem dX13_runCommands_72 : decode cX13_runCommands 72 = .ok (.aload_n 0, 1) := by decide +kernel
theorem dX13_runCommands_73 : decode cX13_runCommands 73 = .ok (.getfield 171, 3) := by decide +kernel
theorem dX13_runCommands_76 : decode cX13_runCommands 76 = .ok (.ifCond .ne 14, 3) := by decide +kernel
theorem dX13_runCommands_79 : decode cX13_runCommands 79 = .ok (.aload_n 0, 1) := by decide +kernel
theorem dX13_runCommands_80 : decode cX13_runCommands 80 = .ok (.getfield 168, 3) := by decide +kernel
theorem dX13_runCommands_83 : decode cX13_runCommands 83 = .ok (.aload_n 0, 1) := by decide +kernel
theorem dX13_runCommands_84 : decode cX13_runCommands 84 = .ok (.getfield 165, 3) := by decide +kernel
theorem dX13_runCommands_87 : decode cX13_runCommands 87 = .ok (.if_icmp .ge 7, 3) := by decide +kernel
theorem dX13_runCommands_90 : decode cX13_runCommands 90 = .ok (.iconst 1, 1) := by decide +kernel
theorem dX13_runCommands_91 : decode cX13_runCommands 91 = .ok (.goto 4, 3) := by decide +kernel
theorem dX13_runCommands_94 : decode cX13_runCommands 94 = .ok (.iconst 0, 1) := by decide +kernel
theorem dX13_runCommands_95 : decode cX13_runCommands 95 = .ok (.putfield 171, 3) := by decide +kernel
theorem dX13_runCommands_98 : decode cX13_runCommands 98 = .ok (.aload_n 0, 1) := by decide +kernel
theorem dX13_runCommands_99 : decode cX13_runCommands 99 = .ok (.iconst 0, 1) := by decide +kernel
theorem dX13_runCommands_100 : decode cX13_runCommands 100 = .ok (.putfield 165, 3) := by decide +kernel
theorem dX13_runCommands_103 : decode cX13_runCommands 103 = .ok (.aload_n 0, 1) := by decide +kernel
theorem dX13_runCommands_104 : decode cX13_runCommands 104 = .ok (.getfield 171, 3) := by decide +kernel
theorem dX13_runCommands_107 : decode cX13_runCommands 107 = .ok (.ifCond .eq 17, 3) := by decide +kernel
theorem dX13_runCommands_110 : decode cX13_runCommands 110 = .ok (.aload_n 0, 1) := by decide +kernel
theorem dX13_runCommands_111 : decode cX13_runCommands 111 = .ok (.aload_n 0, 1) := by decide +kernel
theorem dX13_runCommands_112 : decode cX13_runCommands 112 = .ok (.getfield 168, 3) := by decide +kernel
theorem dX13_runCommands_115 : decode cX13_runCommands 115 = .ok (.putfield 26, 3) := by decide +kernel
theorem dX13_runCommands_118 : decode cX13_runCommands 118 = .ok (.aload_n 0, 1) := by decide +kernel
theorem dX13_runCommands_119 : decode cX13_runCommands 119 = .ok (.iconst 1, 1) := by decide +kernel
theorem dX13_runCommands_120 : decode cX13_runCommands 120 = .ok (.invokevirtual 64, 3) := by decide +kernel
theorem dX13_runCommands_123 : decode cX13_runCommands 123 = .ok (.ireturn, 1) := by decide +kernel
theorem dX13_runCommands_124 : decode cX13_runCommands 124 = .ok (.aload_n 0, 1) := by decide +kernel
theorem dX13_runCommands_125 : decode cX13_runCommands 125 = .ok (.invokevirtual 75, 3) := by decide +kernel
theorem dX13_runCommands_128 : decode cX13_runCommands 128 = .ok (.iconst 0, 1) := by decide +kernel
theorem dX13_runCommands_129 : decode cX13_runCommands 129 = .ok (.istore_n 3, 1) := by decide +kernel
theorem dX13_runCommands_130 : decode cX13_runCommands 130 = .ok (.iload_n 3, 1) := by decide +kernel
theorem dX13_runCommands_131 : decode cX13_runCommands 131 = .ok (.iload_n 1, 1) := by decide +kernel
theorem dX13_runCommands_132 : decode cX13_runCommands 132 = .ok (.if_icmp .ge 42, 3) := by decide +kernel
theorem dX13_runCommands_135 : decode cX13_runCommands 135 = .ok (.aload_n 0, 1) := by decide +kernel
theorem dX13_runCommands_136 : decode cX13_runCommands 136 = .ok (.iconst 4, 1) := by decide +kernel
theorem dX13_runCommands_137 : decode cX13_runCommands 137 = .ok (.iload_n 3, 1) := by decide +kernel
theorem dX13_runCommands_138 : decode cX13_runCommands 138 = .ok (.imul, 1) := by decide +kernel
theorem dX13_runCommands_139 : decode cX13_runCommands 139 = .ok (.invokevirtual 194, 3) := by decide +kernel
theorem dX13_runCommands_142 : decode cX13_runCommands 142 = .ok (.istore 4, 2) := by decide +kernel
theorem dX13_runCommands_144 : decode cX13_runCommands 144 = .ok (.aload_n 0, 1) := by decide +kernel
theorem dX13_runCommands_145 : decode cX13_runCommands 145 = .ok (.getfield 42, 3) := by decide +kernel
theorem dX13_runCommands_148 : decode cX13_runCommands 148 = .ok (.ifCond .eq 20, 3) := by decide +kernel
theorem dX13_runCommands_151 : decode cX13_runCommands 151 = .ok (.aload_n 0, 1) := by decide +kernel
theorem dX13_runCommands_152 : decode cX13_runCommands 152 = .ok (.iload_n 3, 1) := by decide +kernel
theorem dX13_runCommands_153 : decode cX13_runCommands 153 = .ok (.putfield 30, 3) := by decide +kernel
theorem dX13_runCommands_156 : decode cX13_runCommands 156 = .ok (.aload_n 0, 1) := by decide +kernel
theorem dX13_runCommands_157 : decode cX13_runCommands 157 = .ok (.iconst 2, 1) := by decide +kernel
theorem dX13_runCommands_158 : decode cX13_runCommands 158 = .ok (.putfield 42, 3) := by decide +kernel
theorem dX13_runCommands_161 : decode cX13_runCommands 161 = .ok (.aload_n 0, 1) := by decide +kernel
theorem dX13_runCommands_162 : decode cX13_runCommands 162 = .ok (.iload 4, 2) := by decide +kernel
theorem dX13_runCommands_164 : decode cX13_runCommands 164 = .ok (.invokevirtual 82, 3) := by decide +kernel
theorem dX13_runCommands_167 : decode cX13_runCommands 167 = .ok (.ireturn, 1) := by decide +kernel
theorem dX13_runCommands_168 : decode cX13_runCommands 168 = .ok (.iinc 3 1, 3) := by decide +kernel
theorem dX13_runCommands_171 : decode cX13_runCommands 171 = .ok (.goto (-41), 3) := by decide +kernel
theorem dX13_runCommands_174 : decode cX13_runCommands 174 = .ok (.aload_n 0, 1) := by decide +kernel
theorem dX13_runCommands_175 : decode cX13_runCommands 175 = .ok (.aload_n 0, 1) := by decide +kernel
theorem dX13_runCommands_176 : decode cX13_runCommands 176 = .ok (.iload_n 1, 1) := by decide +kernel
theorem dX13_runCommands_177 : decode cX13_runCommands 177 = .ok (.invokevirtual 72, 3) := by decide +kernel
theorem dX13_runCommands_180 : decode cX13_runCommands 180 = .ok (.invokevirtual 82, 3) := by decide +kernel
theorem dX13_runCommands_183 : decode cX13_runCommands 183 = .ok (.ireturn, 1) := by decide +kernel
theorem dX13_errorPosition_0 : decode cX13_errorPosition 0 = .ok (.aload_n 0, 1) := by decide +kernel
theorem dX13_errorPosition_1 : decode cX13_errorPosition 1 = .ok (.getfield 26, 3) := by decide +kernel
theorem dX13_errorPosition_4 : decode cX13_errorPosition 4 = .ok (.iconst (-1), 1) := by decide +kernel
theorem dX13_errorPosition_5 : decode cX13_errorPosition 5 = .ok (.if_icmp .ne 11, 3) := by decide +kernel
theorem dX13_errorPosition_8 : decode cX13_errorPosition 8 = .ok (.aload_n 0, 1) := by decide +kernel
theorem dX13_errorPosition_9 : decode cX13_errorPosition 9 = .ok (.iconst 1, 1) := by decide +kernel
theorem dX13_errorPosition_10 : decode cX13_errorPosition 10 = .ok (.invokevirtual 64, 3) := by decide +kernel
theorem dX13_errorPosition_13 : decode cX13_errorPosition 13 = .ok (.goto 11, 3) := by decide +kernel
theorem dX13_errorPosition_16 : decode cX13_errorPosition 16 = .ok (.aload_n 0, 1) := by decide +kernel
theorem dX13_errorPosition_17 : decode cX13_errorPosition 17 = .ok (.aload_n 0, 1) := by decide +kernel
theorem dX13_errorPosition_18 : decode cX13_errorPosition 18 = .ok (.getfield 26, 3) := by decide +kernel
theorem dX13_errorPosition_21 : decode cX13_errorPosition 21 = .ok (.invokevirtual 72, 3) := by decide +kernel
theorem dX13_errorPosition_24 : decode cX13_errorPosition 24 = .ok (.ireturn, 1) := by decide +kernel
theorem dX13_failedCommand_0 : decode cX13_failedCommand 0 = .ok (.aload_n 0, 1) := by decide +kernel
theorem dX13_failedCommand_1 : decode cX13_failedCommand 1 = .ok (.getfield 30, 3) := by decide +kernel
theorem dX13_failedCommand_4 : decode cX13_failedCommand 4 = .ok (.iconst (-1), 1) := by decide +kernel
theorem dX13_failedCommand_5 : decode cX13_failedCommand 5 = .ok (.if_icmp .ne 11, 3) := by decide +kernel
theorem dX13_failedCommand_8 : decode cX13_failedCommand 8 = .ok (.aload_n 0, 1) := by decide +kernel
theorem dX13_failedCommand_9 : decode cX13_failedCommand 9 = .ok (.iconst 1, 1) := by decide +kernel
theorem dX13_failedCommand_10 : decode cX13_failedCommand 10 = .ok (.invokevirtual 64, 3) := by decide +kernel
theorem dX13_failedCommand_13 : decode cX13_failedCommand 13 = .ok (.goto 11, 3) := by decide +kernel
theorem dX13_failedCommand_16 : decode cX13_failedCommand 16 = .ok (.aload_n 0, 1) := by decide +kernel
theorem dX13_failedCommand_17 : decode cX13_failedCommand 17 = .ok (.aload_n 0, 1) := by decide +kernel
theorem dX13_failedCommand_18 : decode cX13_failedCommand 18 = .ok (.getfield 30, 3) := by decide +kernel
theorem dX13_failedCommand_21 : decode cX13_failedCommand 21 = .ok (.invokevirtual 72, 3) := by decide +kernel
theorem dX13_failedCommand_24 : decode cX13_failedCommand 24 = .ok (.ireturn, 1) := by decide +kernel
theorem dX13_writes_0 : decode cX13_writes 0 = .ok (.aload_n 0, 1) := by decide +kernel
theorem dX13_writes_1 : decode cX13_writes 1 = .ok (.getfield 33, 3) := by decide +kernel
theorem dX13_writes_4 : decode cX13_writes 4 = .ok (.aload_n 0, 1) := by decide +kernel
theorem dX13_writes_5 : decode cX13_writes 5 = .ok (.getfield 197, 3) := by decide +kernel
theorem dX13_writes_8 : decode cX13_writes 8 = .ok (.iload_n 1, 1) := by decide +kernel
theorem dX13_writes_9 : decode cX13_writes 9 = .ok (.i2c, 1) := by decide +kernel
theorem dX13_writes_10 : decode cX13_writes 10 = .ok (.castore, 1) := by decide +kernel
theorem dX13_writes_11 : decode cX13_writes 11 = .ok (.aload_n 0, 1) := by decide +kernel
theorem dX13_writes_12 : decode cX13_writes 12 = .ok (.dup, 1) := by decide +kernel
theorem dX13_writes_13 : decode cX13_writes 13 = .ok (.getfield 197, 3) := by decide +kernel
theorem dX13_writes_16 : decode cX13_writes 16 = .ok (.iconst 1, 1) := by decide +kernel
theorem dX13_writes_17 : decode cX13_writes 17 = .ok (.iadd, 1) := by decide +kernel
theorem dX13_writes_18 : decode cX13_writes 18 = .ok (.putfield 197, 3) := by decide +kernel
theorem dX13_writes_21 : decode cX13_writes 21 = .ok (.return_, 1) := by decide +kernel
theorem dX13_writesParcel_0 : decode cX13_writesParcel 0 = .ok (.aload_n 0, 1) := by decide +kernel
theorem dX13_writesParcel_1 : decode cX13_writesParcel 1 = .ok (.bipush 32, 2) := by decide +kernel
theorem dX13_writesParcel_3 : decode cX13_writesParcel 3 = .ok (.invokevirtual 200, 3) := by decide +kernel
theorem dX13_writesParcel_6 : decode cX13_writesParcel 6 = .ok (.aload_n 0, 1) := by decide +kernel
theorem dX13_writesParcel_7 : decode cX13_writesParcel 7 = .ok (.getfield 7, 3) := by decide +kernel
theorem dX13_writesParcel_10 : decode cX13_writesParcel 10 = .ok (.bipush 40, 2) := by decide +kernel
theorem dX13_writesParcel_12 : decode cX13_writesParcel 12 = .ok (.iload_n 1, 1) := by decide +kernel
theorem dX13_writesParcel_13 : decode cX13_writesParcel 13 = .ok (.iadd, 1) := by decide +kernel
theorem dX13_writesParcel_14 : decode cX13_writesParcel 14 = .ok (.iaload, 1) := by decide +kernel
theorem dX13_writesParcel_15 : decode cX13_writesParcel 15 = .ok (.bipush 9, 2) := by decide +kernel
theorem dX13_writesParcel_17 : decode cX13_writesParcel 17 = .ok (.if_icmp .le 22, 3) := by decide +kernel
theorem dX13_writesParcel_20 : decode cX13_writesParcel 20 = .ok (.aload_n 0, 1) := by decide +kernel
theorem dX13_writesParcel_21 : decode cX13_writesParcel 21 = .ok (.bipush 48, 2) := by decide +kernel
theorem dX13_writesParcel_23 : decode cX13_writesParcel 23 = .ok (.aload_n 0, 1) := by decide +kernel
theorem dX13_writesParcel_24 : decode cX13_writesParcel 24 = .ok (.getfield 7, 3) := by decide +kernel
theorem dX13_writesParcel_27 : decode cX13_writesParcel 27 = .ok (.bipush 40, 2) := by decide +kernel
theorem dX13_writesParcel_29 : decode cX13_writesParcel 29 = .ok (.iload_n 1, 1) := by decide +kernel
theorem dX13_writesParcel_30 : decode cX13_writesParcel 30 = .ok (.iadd, 1) := by decide +kernel
theorem dX13_writesParcel_31 : decode cX13_writesParcel 31 = .ok (.iaload, 1) := by decide +kernel
theorem dX13_writesParcel_32 : decode cX13_writesParcel 32 = .ok (.bipush 10, 2) := by decide +kernel
theorem dX13_writesParcel_34 : decode cX13_writesParcel 34 = .ok (.idiv, 1) := by decide +kernel
theorem dX13_writesParcel_35 : decode cX13_writesParcel 35 = .ok (.iadd, 1) := by decide +kernel
theorem dX13_writesParcel_36 : decode cX13_writesParcel 36 = .ok (.invokevirtual 200, 3) := by decide +kernel
theorem dX13_writesParcel_39 : decode cX13_writesParcel 39 = .ok (.aload_n 0, 1) := by decide +kernel
theorem dX13_writesParcel_40 : decode cX13_writesParcel 40 = .ok (.bipush 48, 2) := by decide +kernel
theorem dX13_writesParcel_42 : decode cX13_writesParcel 42 = .ok (.aload_n 0, 1) := by decide +kernel
theorem dX13_writesParcel_43 : decode cX13_writesParcel 43 = .ok (.getfield 7, 3) := by decide +kernel
theorem dX13_writesParcel_46 : decode cX13_writesParcel 46 = .ok (.bipush 40, 2) := by decide +kernel
theorem dX13_writesParcel_48 : decode cX13_writesParcel 48 = .ok (.iload_n 1, 1) := by decide +kernel
theorem dX13_writesParcel_49 : decode cX13_writesParcel 49 = .ok (.iadd, 1) := by decide +kernel
theorem dX13_writesParcel_50 : decode cX13_writesParcel 50 = .ok (.iaload, 1) := by decide +kernel
theorem dX13_writesParcel_51 : decode cX13_writesParcel 51 = .ok (.bipush 10, 2) := by decide +kernel
theorem dX13_writesParcel_53 : decode cX13_writesParcel 53 = .ok (.irem, 1) := by decide +kernel
theorem dX13_writesParcel_54 : decode cX13_writesParcel 54 = .ok (.iadd, 1) := by decide +kernel
theorem dX13_writesParcel_55 : decode cX13_writesParcel 55 = .ok (.invokevirtual 200, 3) := by decide +kernel
theorem dX13_writesParcel_58 : decode cX13_writesParcel 58 = .ok (.iconst 0, 1) := by decide +kernel
theorem dX13_writesParcel_59 : decode cX13_writesParcel 59 = .ok (.istore_n 2, 1) := by decide +kernel
theorem dX13_writesParcel_60 : decode cX13_writesParcel 60 = .ok (.iload_n 2, 1) := by decide +kernel
theorem dX13_writesParcel_61 : decode cX13_writesParcel 61 = .ok (.aload_n 0, 1) := by decide +kernel
theorem dX13_writesParcel_62 : decode cX13_writesParcel 62 = .ok (.getfield 7, 3) := by decide +kernel
theorem dX13_writesParcel_65 : decode cX13_writesParcel 65 = .ok (.bipush 52, 2) := by decide +kernel
theorem dX13_writesParcel_67 : decode cX13_writesParcel 67 = .ok (.iload_n 1, 1) := by decide +kernel
theorem dX13_writesParcel_68 : decode cX13_writesParcel 68 = .ok (.iadd, 1) := by decide +kernel
theorem dX13_writesParcel_69 : decode cX13_writesParcel 69 = .ok (.iaload, 1) := by decide +kernel
theorem dX13_writesParcel_70 : decode cX13_writesParcel 70 = .ok (.if_icmp .ge 15, 3) := by decide +kernel
theorem dX13_writesParcel_73 : decode cX13_writesParcel 73 = .ok (.aload_n 0, 1) := by decide +kernel
theorem dX13_writesParcel_74 : decode cX13_writesParcel 74 = .ok (.bipush 104, 2) := by decide +kernel
theorem dX13_writesParcel_76 : decode cX13_writesParcel 76 = .ok (.invokevirtual 200, 3) := by decide +kernel
theorem dX13_writesParcel_79 : decode cX13_writesParcel 79 = .ok (.iinc 2 1, 3) := by decide +kernel
theorem dX13_writesParcel_82 : decode cX13_writesParcel 82 = .ok (.goto (-22), 3) := by decide +kernel
theorem dX13_writesParcel_85 : decode cX13_writesParcel 85 = .ok (.aload_n 0, 1) := by decide +kernel
theorem dX13_writesParcel_86 : decode cX13_writesParcel 86 = .ok (.bipush 62, 2) := by decide +kernel
theorem dX13_writesParcel_88 : decode cX13_writesParcel 88 = .ok (.invokevirtual 200, 3) := by decide +kernel
theorem dX13_writesParcel_91 : decode cX13_writesParcel 91 = .ok (.aload_n 0, 1) := by decide +kernel
theorem dX13_writesParcel_92 : decode cX13_writesParcel 92 = .ok (.bipush 48, 2) := by decide +kernel
theorem dX13_writesParcel_94 : decode cX13_writesParcel 94 = .ok (.aload_n 0, 1) := by decide +kernel
theorem dX13_writesParcel_95 : decode cX13_writesParcel 95 = .ok (.getfield 7, 3) := by decide +kernel
theorem dX13_writesParcel_98 : decode cX13_writesParcel 98 = .ok (.bipush 64, 2) := by decide +kernel
theorem dX13_writesParcel_100 : decode cX13_writesParcel 100 = .ok (.iload_n 1, 1) := by decide +kernel
theorem dX13_writesParcel_101 : decode cX13_writesParcel 101 = .ok (.iadd, 1) := by decide +kernel
theorem dX13_writesParcel_102 : decode cX13_writesParcel 102 = .ok (.iaload, 1) := by decide +kernel
theorem dX13_writesParcel_103 : decode cX13_writesParcel 103 = .ok (.iadd, 1) := by decide +kernel
theorem dX13_writesParcel_104 : decode cX13_writesParcel 104 = .ok (.invokevirtual 200, 3) := by decide +kernel
theorem dX13_writesParcel_107 : decode cX13_writesParcel 107 = .ok (.return_, 1) := by decide +kernel
theorem dX13_writeSack_0 : decode cX13_writeSack 0 = .ok (.iload_n 1, 1) := by decide +kernel
theorem dX13_writeSack_1 : decode cX13_writeSack 1 = .ok (.invokestatic 95, 3) := by decide +kernel
theorem dX13_writeSack_4 : decode cX13_writeSack 4 = .ok (.ifCond .ne 9, 3) := by decide +kernel
theorem dX13_writeSack_7 : decode cX13_writeSack 7 = .ok (.aload_n 0, 1) := by decide +kernel
theorem dX13_writeSack_8 : decode cX13_writeSack 8 = .ok (.iconst 1, 1) := by decide +kernel
theorem dX13_writeSack_9 : decode cX13_writeSack 9 = .ok (.invokevirtual 64, 3) := by decide +kernel
theorem dX13_writeSack_12 : decode cX13_writeSack 12 = .ok (.ireturn, 1) := by decide +kernel
theorem dX13_writeSack_13 : decode cX13_writeSack 13 = .ok (.aload_n 0, 1) := by decide +kernel
theorem dX13_writeSack_14 : decode cX13_writeSack 14 = .ok (.iconst 0, 1) := by decide +kernel
theorem dX13_writeSack_15 : decode cX13_writeSack 15 = .ok (.putfield 197, 3) := by decide +kernel
theorem dX13_writeSack_18 : decode cX13_writeSack 18 = .ok (.aload_n 0, 1) := by decide +kernel
theorem dX13_writeSack_19 : decode cX13_writeSack 19 = .ok (.bipush 115, 2) := by decide +kernel
theorem dX13_writeSack_21 : decode cX13_writeSack 21 = .ok (.invokevirtual 200, 3) := by decide +kernel
theorem dX13_writeSack_24 : decode cX13_writeSack 24 = .ok (.aload_n 0, 1) := by decide +kernel
theorem dX13_writeSack_25 : decode cX13_writeSack 25 = .ok (.bipush 48, 2) := by decide +kernel
theorem dX13_writeSack_27 : decode cX13_writeSack 27 = .ok (.iload_n 1, 1) := by decide +kernel
theorem dX13_writeSack_28 : decode cX13_writeSack 28 = .ok (.iadd, 1) := by decide +kernel
theorem dX13_writeSack_29 : decode cX13_writeSack 29 = .ok (.invokevirtual 200, 3) := by decide +kernel
theorem dX13_writeSack_32 : decode cX13_writeSack 32 = .ok (.aload_n 0, 1) := by decide +kernel
theorem dX13_writeSack_33 : decode cX13_writeSack 33 = .ok (.bipush 64, 2) := by decide +kernel
theorem dX13_writeSack_35 : decode cX13_writeSack 35 = .ok (.invokevirtual 200, 3) := by decide +kernel
theorem dX13_writeSack_38 : decode cX13_writeSack 38 = .ok (.aload_n 0, 1) := by decide +kernel
theorem dX13_writeSack_39 : decode cX13_writeSack 39 = .ok (.bipush 48, 2) := by decide +kernel
theorem dX13_writeSack_41 : decode cX13_writeSack 41 = .ok (.aload_n 0, 1) := by decide +kernel
theorem dX13_writeSack_42 : decode cX13_writeSack 42 = .ok (.getfield 7, 3) := by decide +kernel
theorem dX13_writeSack_45 : decode cX13_writeSack 45 = .ok (.sipush 128, 3) := by decide +kernel
theorem dX13_writeSack_48 : decode cX13_writeSack 48 = .ok (.iload_n 1, 1) := by decide +kernel
theorem dX13_writeSack_49 : decode cX13_writeSack 49 = .ok (.iadd, 1) := by decide +kernel
theorem dX13_writeSack_50 : decode cX13_writeSack 50 = .ok (.iaload, 1) := by decide +kernel
theorem dX13_writeSack_51 : decode cX13_writeSack 51 = .ok (.iadd, 1) := by decide +kernel
theorem dX13_writeSack_52 : decode cX13_writeSack 52 = .ok (.invokevirtual 200, 3) := by decide +kernel
theorem dX13_writeSack_55 : decode cX13_writeSack 55 = .ok (.iconst 0, 1) := by decide +kernel
theorem dX13_writeSack_56 : decode cX13_writeSack 56 = .ok (.istore_n 2, 1) := by decide +kernel
theorem dX13_writeSack_57 : decode cX13_writeSack 57 = .ok (.iload_n 2, 1) := by decide +kernel
theorem dX13_writeSack_58 : decode cX13_writeSack 58 = .ok (.aload_n 0, 1) := by decide +kernel
theorem dX13_writeSack_59 : decode cX13_writeSack 59 = .ok (.getfield 7, 3) := by decide +kernel
theorem dX13_writeSack_62 : decode cX13_writeSack 62 = .ok (.bipush 36, 2) := by decide +kernel
theorem dX13_writeSack_64 : decode cX13_writeSack 64 = .ok (.iaload, 1) := by decide +kernel
theorem dX13_writeSack_65 : decode cX13_writeSack 65 = .ok (.if_icmp .ge 40, 3) := by decide +kernel
theorem dX13_writeSack_68 : decode cX13_writeSack 68 = .ok (.aload_n 0, 1) := by decide +kernel
theorem dX13_writeSack_69 : decode cX13_writeSack 69 = .ok (.getfield 7, 3) := by decide +kernel
theorem dX13_writeSack_72 : decode cX13_writeSack 72 = .ok (.bipush 76, 2) := by decide +kernel
theorem dX13_writeSack_74 : decode cX13_writeSack 74 = .ok (.iload_n 2, 1) := by decide +kernel
theorem dX13_writeSack_75 : decode cX13_writeSack 75 = .ok (.iadd, 1) := by decide +kernel
theorem dX13_writeSack_76 : decode cX13_writeSack 76 = .ok (.iaload, 1) := by decide +kernel
theorem dX13_writeSack_77 : decode cX13_writeSack 77 = .ok (.iconst 1, 1) := by decide +kernel
theorem dX13_writeSack_78 : decode cX13_writeSack 78 = .ok (.if_icmp .ne 21, 3) := by decide +kernel
theorem dX13_writeSack_81 : decode cX13_writeSack 81 = .ok (.aload_n 0, 1) := by decide +kernel
theorem dX13_writeSack_82 : decode cX13_writeSack 82 = .ok (.getfield 7, 3) := by decide +kernel
theorem dX13_writeSack_85 : decode cX13_writeSack 85 = .ok (.bipush 88, 2) := by decide +kernel
theorem dX13_writeSack_87 : decode cX13_writeSack 87 = .ok (.iload_n 2, 1) := by decide +kernel
theorem dX13_writeSack_88 : decode cX13_writeSack 88 = .ok (.iadd, 1) := by decide +kernel
theorem dX13_writeSack_89 : decode cX13_writeSack 89 = .ok (.iaload, 1) := by decide +kernel
theorem dX13_writeSack_90 : decode cX13_writeSack 90 = .ok (.iload_n 1, 1) := by decide +kernel
theorem dX13_writeSack_91 : decode cX13_writeSack 91 = .ok (.if_icmp .ne 8, 3) := by decide +kernel
theorem dX13_writeSack_94 : decode cX13_writeSack 94 = .ok (.aload_n 0, 1) := by decide +kernel
theorem dX13_writeSack_95 : decode cX13_writeSack 95 = .ok (.iload_n 2, 1) := by decide +kernel
theorem dX13_writeSack_96 : decode cX13_writeSack 96 = .ok (.invokevirtual 203, 3) := by decide +kernel
theorem dX13_writeSack_99 : decode cX13_writeSack 99 = .ok (.iinc 2 1, 3) := by decide +kernel
theorem dX13_writeSack_102 : decode cX13_writeSack 102 = .ok (.goto (-45), 3) := by decide +kernel
theorem dX13_writeSack_105 : decode cX13_writeSack 105 = .ok (.aload_n 0, 1) := by decide +kernel
theorem dX13_writeSack_106 : decode cX13_writeSack 106 = .ok (.aload_n 0, 1) := by decide +kernel
theorem dX13_writeSack_107 : decode cX13_writeSack 107 = .ok (.getfield 197, 3) := by decide +kernel
theorem dX13_writeSack_110 : decode cX13_writeSack 110 = .ok (.invokevirtual 72, 3) := by decide +kernel
theorem dX13_writeSack_113 : decode cX13_writeSack 113 = .ok (.ireturn, 1) := by decide +kernel
theorem dX13_outputChar_0 : decode cX13_outputChar 0 = .ok (.aload_n 0, 1) := by decide +kernel
theorem dX13_outputChar_1 : decode cX13_outputChar 1 = .ok (.iload_n 1, 1) := by decide +kernel
theorem dX13_outputChar_2 : decode cX13_outputChar 2 = .ok (.iconst 0, 1) := by decide +kernel
theorem dX13_outputChar_3 : decode cX13_outputChar 3 = .ok (.aload_n 0, 1) := by decide +kernel
theorem dX13_outputChar_4 : decode cX13_outputChar 4 = .ok (.getfield 197, 3) := by decide +kernel
theorem dX13_outputChar_7 : decode cX13_outputChar 7 = .ok (.iconst 1, 1) := by decide +kernel
theorem dX13_outputChar_8 : decode cX13_outputChar 8 = .ok (.isub, 1) := by decide +kernel
theorem dX13_outputChar_9 : decode cX13_outputChar 9 = .ok (.invokestatic 52, 3) := by decide +kernel
theorem dX13_outputChar_12 : decode cX13_outputChar 12 = .ok (.ifCond .eq 7, 3) := by decide +kernel
theorem dX13_outputChar_15 : decode cX13_outputChar 15 = .ok (.iconst 0, 1) := by decide +kernel
theorem dX13_outputChar_16 : decode cX13_outputChar 16 = .ok (.goto 4, 3) := by decide +kernel
theorem dX13_outputChar_19 : decode cX13_outputChar 19 = .ok (.iconst 1, 1) := by decide +kernel
theorem dX13_outputChar_20 : decode cX13_outputChar 20 = .ok (.putfield 42, 3) := by decide +kernel
theorem dX13_outputChar_23 : decode cX13_outputChar 23 = .ok (.aload_n 0, 1) := by decide +kernel
theorem dX13_outputChar_24 : decode cX13_outputChar 24 = .ok (.getfield 42, 3) := by decide +kernel
theorem dX13_outputChar_27 : decode cX13_outputChar 27 = .ok (.ifCond .ne 12, 3) := by decide +kernel
theorem dX13_outputChar_30 : decode cX13_outputChar 30 = .ok (.aload_n 0, 1) := by decide +kernel
theorem dX13_outputChar_31 : decode cX13_outputChar 31 = .ok (.getfield 33, 3) := by decide +kernel
theorem dX13_outputChar_34 : decode cX13_outputChar 34 = .ok (.iload_n 1, 1) := by decide +kernel
theorem dX13_outputChar_35 : decode cX13_outputChar 35 = .ok (.caload, 1) := by decide +kernel
theorem dX13_outputChar_36 : decode cX13_outputChar 36 = .ok (.goto 4, 3) := by decide +kernel
theorem dX13_outputChar_39 : decode cX13_outputChar 39 = .ok (.iconst 0, 1) := by decide +kernel
theorem dX13_outputChar_40 : decode cX13_outputChar 40 = .ok (.ireturn, 1) := by decide +kernel
theorem dX13_undoCount_0 : decode cX13_undoCount 0 = .ok (.aload_n 0, 1) := by decide +kernel
theorem dX13_undoCount_1 : decode cX13_undoCount 1 = .ok (.aload_n 0, 1) := by decide +kernel
theorem dX13_undoCount_2 : decode cX13_undoCount 2 = .ok (.getfield 49, 3) := by decide +kernel
theorem dX13_undoCount_5 : decode cX13_undoCount 5 = .ok (.invokevirtual 72, 3) := by decide +kernel
theorem dX13_undoCount_8 : decode cX13_undoCount 8 = .ok (.ireturn, 1) := by decide +kernel
theorem dX13_undo_0 : decode cX13_undo 0 = .ok (.aload_n 0, 1) := by decide +kernel
theorem dX13_undo_1 : decode cX13_undo 1 = .ok (.getfield 49, 3) := by decide +kernel
theorem dX13_undo_4 : decode cX13_undo 4 = .ok (.ifCond .ne 9, 3) := by decide +kernel
theorem dX13_undo_7 : decode cX13_undo 7 = .ok (.aload_n 0, 1) := by decide +kernel
theorem dX13_undo_8 : decode cX13_undo 8 = .ok (.iconst 1, 1) := by decide +kernel
theorem dX13_undo_9 : decode cX13_undo 9 = .ok (.invokevirtual 64, 3) := by decide +kernel
theorem dX13_undo_12 : decode cX13_undo 12 = .ok (.ireturn, 1) := by decide +kernel
theorem dX13_undo_13 : decode cX13_undo 13 = .ok (.aload_n 0, 1) := by decide +kernel
theorem dX13_undo_14 : decode cX13_undo 14 = .ok (.dup, 1) := by decide +kernel
theorem dX13_undo_15 : decode cX13_undo 15 = .ok (.getfield 49, 3) := by decide +kernel
theorem dX13_undo_18 : decode cX13_undo 18 = .ok (.iconst 1, 1) := by decide +kernel
theorem dX13_undo_19 : decode cX13_undo 19 = .ok (.isub, 1) := by decide +kernel
theorem dX13_undo_20 : decode cX13_undo 20 = .ok (.putfield 49, 3) := by decide +kernel
theorem dX13_undo_23 : decode cX13_undo 23 = .ok (.aload_n 0, 1) := by decide +kernel
theorem dX13_undo_24 : decode cX13_undo 24 = .ok (.getfield 16, 3) := by decide +kernel
theorem dX13_undo_27 : decode cX13_undo 27 = .ok (.aload_n 0, 1) := by decide +kernel
theorem dX13_undo_28 : decode cX13_undo 28 = .ok (.getfield 49, 3) := by decide +kernel
theorem dX13_undo_31 : decode cX13_undo 31 = .ok (.sipush 134, 3) := by decide +kernel
theorem dX13_undo_34 : decode cX13_undo 34 = .ok (.imul, 1) := by decide +kernel
theorem dX13_undo_35 : decode cX13_undo 35 = .ok (.aload_n 0, 1) := by decide +kernel
theorem dX13_undo_36 : decode cX13_undo 36 = .ok (.getfield 7, 3) := by decide +kernel
theorem dX13_undo_39 : decode cX13_undo 39 = .ok (.iconst 0, 1) := by decide +kernel
theorem dX13_undo_40 : decode cX13_undo 40 = .ok (.invokestatic 45, 3) := by decide +kernel
theorem dX13_undo_43 : decode cX13_undo 43 = .ok (.aload_n 0, 1) := by decide +kernel
theorem dX13_undo_44 : decode cX13_undo 44 = .ok (.aload_n 0, 1) := by decide +kernel
theorem dX13_undo_45 : decode cX13_undo 45 = .ok (.getfield 49, 3) := by decide +kernel
theorem dX13_undo_48 : decode cX13_undo 48 = .ok (.invokevirtual 72, 3) := by decide +kernel
theorem dX13_undo_51 : decode cX13_undo 51 = .ok (.ireturn, 1) := by decide +kernel
theorem dX13_save_0 : decode cX13_save 0 = .ok (.aload_n 0, 1) := by decide +kernel
theorem dX13_save_1 : decode cX13_save 1 = .ok (.getfield 7, 3) := by decide +kernel
theorem dX13_save_4 : decode cX13_save 4 = .ok (.iconst 0, 1) := by decide +kernel
theorem dX13_save_5 : decode cX13_save 5 = .ok (.aload_n 0, 1) := by decide +kernel
theorem dX13_save_6 : decode cX13_save 6 = .ok (.getfield 19, 3) := by decide +kernel
theorem dX13_save_9 : decode cX13_save 9 = .ok (.iconst 0, 1) := by decide +kernel
theorem dX13_save_10 : decode cX13_save 10 = .ok (.invokestatic 45, 3) := by decide +kernel
theorem dX13_save_13 : decode cX13_save 13 = .ok (.aload_n 0, 1) := by decide +kernel
theorem dX13_save_14 : decode cX13_save 14 = .ok (.iconst 1, 1) := by decide +kernel
theorem dX13_save_15 : decode cX13_save 15 = .ok (.putfield 206, 3) := by decide +kernel
theorem dX13_save_18 : decode cX13_save 18 = .ok (.aload_n 0, 1) := by decide +kernel
theorem dX13_save_19 : decode cX13_save 19 = .ok (.aload_n 0, 1) := by decide +kernel
theorem dX13_save_20 : decode cX13_save 20 = .ok (.getfield 7, 3) := by decide +kernel
theorem dX13_save_23 : decode cX13_save 23 = .ok (.bipush 36, 2) := by decide +kernel
theorem dX13_save_25 : decode cX13_save 25 = .ok (.iaload, 1) := by decide +kernel
theorem dX13_save_26 : decode cX13_save 26 = .ok (.invokevirtual 72, 3) := by decide +kernel
theorem dX13_save_29 : decode cX13_save 29 = .ok (.ireturn, 1) := by decide +kernel
theorem dX13_restore_0 : decode cX13_restore 0 = .ok (.aload_n 0, 1) := by decide +kernel
theorem dX13_restore_1 : decode cX13_restore 1 = .ok (.getfield 206, 3) := by decide +kernel
theorem dX13_restore_4 : decode cX13_restore 4 = .ok (.ifCond .ne 9, 3) := by decide +kernel
theorem dX13_restore_7 : decode cX13_restore 7 = .ok (.aload_n 0, 1) := by decide +kernel
theorem dX13_restore_8 : decode cX13_restore 8 = .ok (.iconst 1, 1) := by decide +kernel
theorem dX13_restore_9 : decode cX13_restore 9 = .ok (.invokevirtual 64, 3) := by decide +kernel
theorem dX13_restore_12 : decode cX13_restore 12 = .ok (.ireturn, 1) := by decide +kernel
theorem dX13_restore_13 : decode cX13_restore 13 = .ok (.aload_n 0, 1) := by decide +kernel
theorem dX13_restore_14 : decode cX13_restore 14 = .ok (.getfield 19, 3) := by decide +kernel
theorem dX13_restore_17 : decode cX13_restore 17 = .ok (.iconst 0, 1) := by decide +kernel
theorem dX13_restore_18 : decode cX13_restore 18 = .ok (.aload_n 0, 1) := by decide +kernel
theorem dX13_restore_19 : decode cX13_restore 19 = .ok (.getfield 7, 3) := by decide +kernel
theorem dX13_restore_22 : decode cX13_restore 22 = .ok (.iconst 0, 1) := by decide +kernel
theorem dX13_restore_23 : decode cX13_restore 23 = .ok (.invokestatic 45, 3) := by decide +kernel
theorem dX13_restore_26 : decode cX13_restore 26 = .ok (.aload_n 0, 1) := by decide +kernel
theorem dX13_restore_27 : decode cX13_restore 27 = .ok (.iconst 0, 1) := by decide +kernel
theorem dX13_restore_28 : decode cX13_restore 28 = .ok (.putfield 49, 3) := by decide +kernel
theorem dX13_restore_31 : decode cX13_restore 31 = .ok (.aload_n 0, 1) := by decide +kernel
theorem dX13_restore_32 : decode cX13_restore 32 = .ok (.aload_n 0, 1) := by decide +kernel
theorem dX13_restore_33 : decode cX13_restore 33 = .ok (.getfield 7, 3) := by decide +kernel
theorem dX13_restore_36 : decode cX13_restore 36 = .ok (.bipush 36, 2) := by decide +kernel
theorem dX13_restore_38 : decode cX13_restore 38 = .ok (.iaload, 1) := by decide +kernel
theorem dX13_restore_39 : decode cX13_restore 39 = .ok (.invokevirtual 72, 3) := by decide +kernel
theorem dX13_restore_42 : decode cX13_restore 42 = .ok (.ireturn, 1) := by decide +kernel
theorem dJx00060_init_a7421_0 : decode cJx00060_init_a7421 0 = .ok (.aload_n 0, 1) := by decide +kernel
theorem dJx00060_init_a7421_1 : decode cJx00060_init_a7421 1 = .ok (.aload_n 1, 1) := by decide +kernel
theorem dJx00060_init_a7421_2 : decode cJx00060_init_a7421 2 = .ok (.invokespecial 7, 3) := by decide +kernel
theorem dJx00060_init_a7421_5 : decode cJx00060_init_a7421 5 = .ok (.return_, 1) := by decide +kernel
theorem dJx29ce0_ordinal_8abf5_0 : decode cJx29ce0_ordinal_8abf5 0 = .ok (.aload_n 0, 1) := by decide +kernel
theorem dJx29ce0_ordinal_8abf5_1 : decode cJx29ce0_ordinal_8abf5 1 = .ok (.getfield 7, 3) := by decide +kernel
theorem dJx29ce0_ordinal_8abf5_4 : decode cJx29ce0_ordinal_8abf5 4 = .ok (.ireturn, 1) := by decide +kernel
theorem dJ9_max_7cf53_0 : decode cJ9_max_7cf53 0 = .ok (.iload_n 0, 1) := by decide +kernel
theorem dJ9_max_7cf53_1 : decode cJ9_max_7cf53 1 = .ok (.iload_n 1, 1) := by decide +kernel
theorem dJ9_max_7cf53_2 : decode cJ9_max_7cf53 2 = .ok (.if_icmp .lt 7, 3) := by decide +kernel
theorem dJ9_max_7cf53_5 : decode cJ9_max_7cf53 5 = .ok (.iload_n 0, 1) := by decide +kernel
theorem dJ9_max_7cf53_6 : decode cJ9_max_7cf53 6 = .ok (.goto 4, 3) := by decide +kernel
theorem dJ9_max_7cf53_9 : decode cJ9_max_7cf53 9 = .ok (.iload_n 1, 1) := by decide +kernel
theorem dJ9_max_7cf53_10 : decode cJ9_max_7cf53 10 = .ok (.ireturn, 1) := by decide +kernel
theorem dJ9_min_7cf53_0 : decode cJ9_min_7cf53 0 = .ok (.iload_n 0, 1) := by decide +kernel
theorem dJ9_min_7cf53_1 : decode cJ9_min_7cf53 1 = .ok (.iload_n 1, 1) := by decide +kernel
theorem dJ9_min_7cf53_2 : decode cJ9_min_7cf53 2 = .ok (.if_icmp .gt 7, 3) := by decide +kernel
theorem dJ9_min_7cf53_5 : decode cJ9_min_7cf53 5 = .ok (.iload_n 0, 1) := by decide +kernel
theorem dJ9_min_7cf53_6 : decode cJ9_min_7cf53 6 = .ok (.goto 4, 3) := by decide +kernel
theorem dJ9_min_7cf53_9 : decode cJ9_min_7cf53 9 = .ok (.iload_n 1, 1) := by decide +kernel
theorem dJ9_min_7cf53_10 : decode cJ9_min_7cf53 10 = .ok (.ireturn, 1) := by decide +kernel
theorem dJ0_length_8abf5_0 : decode cJ0_length_8abf5 0 = .ok (.aload_n 0, 1) := by decide +kernel
theorem dJ0_length_8abf5_1 : decode cJ0_length_8abf5 1 = .ok (.getfield 9, 3) := by decide +kernel
theorem dJ0_length_8abf5_4 : decode cJ0_length_8abf5 4 = .ok (.arraylength, 1) := by decide +kernel
theorem dJ0_length_8abf5_5 : decode cJ0_length_8abf5 5 = .ok (.aload_n 0, 1) := by decide +kernel
theorem dJ0_length_8abf5_6 : decode cJ0_length_8abf5 6 = .ok (.invokevirtual 335, 3) := by decide +kernel
theorem dJ0_length_8abf5_9 : decode cJ0_length_8abf5 9 = .ok (.ishr, 1) := by decide +kernel
theorem dJ0_length_8abf5_10 : decode cJ0_length_8abf5 10 = .ok (.ireturn, 1) := by decide +kernel
theorem dJ0_charAt_5068e_0 : decode cJ0_charAt_5068e 0 = .ok (.aload_n 0, 1) := by decide +kernel
theorem dJ0_charAt_5068e_1 : decode cJ0_charAt_5068e 1 = .ok (.invokevirtual 492, 3) := by decide +kernel
theorem dJ0_charAt_5068e_4 : decode cJ0_charAt_5068e 4 = .ok (.ifCond .eq 12, 3) := by decide +kernel
theorem dJ0_charAt_5068e_7 : decode cJ0_charAt_5068e 7 = .ok (.aload_n 0, 1) := by decide +kernel
theorem dJ0_charAt_5068e_8 : decode cJ0_charAt_5068e 8 = .ok (.getfield 9, 3) := by decide +kernel
theorem dJ0_charAt_5068e_11 : decode cJ0_charAt_5068e 11 = .ok (.iload_n 1, 1) := by decide +kernel
theorem dJ0_charAt_5068e_12 : decode cJ0_charAt_5068e 12 = .ok (.invokestatic 495, 3) := by decide +kernel
theorem dJ0_charAt_5068e_15 : decode cJ0_charAt_5068e 15 = .ok (.ireturn, 1) := by decide +kernel
theorem dJ0_charAt_5068e_16 : decode cJ0_charAt_5068e 16 = .ok (.aload_n 0, 1) := by decide +kernel
theorem dJ0_charAt_5068e_17 : decode cJ0_charAt_5068e 17 = .ok (.getfield 9, 3) := by decide +kernel
theorem dJ0_charAt_5068e_20 : decode cJ0_charAt_5068e 20 = .ok (.iload_n 1, 1) := by decide +kernel
theorem dJ0_charAt_5068e_21 : decode cJ0_charAt_5068e 21 = .ok (.invokestatic 498, 3) := by decide +kernel
theorem dJ0_charAt_5068e_24 : decode cJ0_charAt_5068e 24 = .ok (.ireturn, 1) := by decide +kernel
theorem dJ0_coder_7d493_0 : decode cJ0_coder_7d493 0 = .ok (.getstatic 38, 3) := by decide +kernel
theorem dJ0_coder_7d493_3 : decode cJ0_coder_7d493 3 = .ok (.ifCond .eq 10, 3) := by decide +kernel
theorem dJ0_coder_7d493_6 : decode cJ0_coder_7d493 6 = .ok (.aload_n 0, 1) := by decide +kernel
theorem dJ0_coder_7d493_7 : decode cJ0_coder_7d493 7 = .ok (.getfield 15, 3) := by decide +kernel
theorem dJ0_coder_7d493_10 : decode cJ0_coder_7d493 10 = .ok (.goto 4, 3) := by decide +kernel
theorem dJ0_coder_7d493_13 : decode cJ0_coder_7d493 13 = .ok (.iconst 1, 1) := by decide +kernel
theorem dJ0_coder_7d493_14 : decode cJ0_coder_7d493 14 = .ok (.ireturn, 1) := by decide +kernel
theorem dJ0_isLatin1_aae02_0 : decode cJ0_isLatin1_aae02 0 = .ok (.getstatic 38, 3) := by decide +kernel
theorem dJ0_isLatin1_aae02_3 : decode cJ0_isLatin1_aae02 3 = .ok (.ifCond .eq 14, 3) := by decide +kernel
theorem dJ0_isLatin1_aae02_6 : decode cJ0_isLatin1_aae02 6 = .ok (.aload_n 0, 1) := by decide +kernel
theorem dJ0_isLatin1_aae02_7 : decode cJ0_isLatin1_aae02 7 = .ok (.getfield 15, 3) := by decide +kernel
theorem dJ0_isLatin1_aae02_10 : decode cJ0_isLatin1_aae02 10 = .ok (.ifCond .ne 7, 3) := by decide +kernel
theorem dJ0_isLatin1_aae02_13 : decode cJ0_isLatin1_aae02 13 = .ok (.iconst 1, 1) := by decide +kernel
theorem dJ0_isLatin1_aae02_14 : decode cJ0_isLatin1_aae02 14 = .ok (.goto 4, 3) := by decide +kernel
theorem dJ0_isLatin1_aae02_17 : decode cJ0_isLatin1_aae02 17 = .ok (.iconst 0, 1) := by decide +kernel
theorem dJ0_isLatin1_aae02_18 : decode cJ0_isLatin1_aae02 18 = .ok (.ireturn, 1) := by decide +kernel
theorem dJ0_checkIndex_df160_0 : decode cJ0_checkIndex_df160 0 = .ok (.iload_n 0, 1) := by decide +kernel
theorem dJ0_checkIndex_df160_1 : decode cJ0_checkIndex_df160 1 = .ok (.iload_n 1, 1) := by decide +kernel
theorem dJ0_checkIndex_df160_2 : decode cJ0_checkIndex_df160 2 = .ok (.getstatic 1053, 3) := by decide +kernel
theorem dJ0_checkIndex_df160_5 : decode cJ0_checkIndex_df160 5 = .ok (.invokestatic 1059, 3) := by decide +kernel
theorem dJ0_checkIndex_df160_8 : decode cJ0_checkIndex_df160 8 = .ok (.pop, 1) := by decide +kernel
theorem dJ0_checkIndex_df160_9 : decode cJ0_checkIndex_df160 9 = .ok (.return_, 1) := by decide +kernel
theorem dJ1_charAt_3b067_0 : decode cJ1_charAt_3b067 0 = .ok (.iload_n 1, 1) := by decide +kernel
theorem dJ1_charAt_3b067_1 : decode cJ1_charAt_3b067 1 = .ok (.aload_n 0, 1) := by decide +kernel
theorem dJ1_charAt_3b067_2 : decode cJ1_charAt_3b067 2 = .ok (.arraylength, 1) := by decide +kernel
theorem dJ1_charAt_3b067_3 : decode cJ1_charAt_3b067 3 = .ok (.invokestatic 9, 3) := by decide +kernel
theorem dJ1_charAt_3b067_6 : decode cJ1_charAt_3b067 6 = .ok (.aload_n 0, 1) := by decide +kernel
theorem dJ1_charAt_3b067_7 : decode cJ1_charAt_3b067 7 = .ok (.iload_n 1, 1) := by decide +kernel
theorem dJ1_charAt_3b067_8 : decode cJ1_charAt_3b067 8 = .ok (.baload, 1) := by decide +kernel
theorem dJ1_charAt_3b067_9 : decode cJ1_charAt_3b067 9 = .ok (.sipush 255, 3) := by decide +kernel
theorem dJ1_charAt_3b067_12 : decode cJ1_charAt_3b067 12 = .ok (.iand, 1) := by decide +kernel
theorem dJ1_charAt_3b067_13 : decode cJ1_charAt_3b067 13 = .ok (.i2c, 1) := by decide +kernel
theorem dJ1_charAt_3b067_14 : decode cJ1_charAt_3b067 14 = .ok (.ireturn, 1) := by decide +kernel
theorem dJ2_getChar_3b067_0 : decode cJ2_getChar_3b067 0 = .ok (.getstatic 44, 3) := by decide +kernel
theorem dJ2_getChar_3b067_3 : decode cJ2_getChar_3b067 3 = .ok (.ifCond .ne 25, 3) := by decide +kernel
theorem dJ2_getChar_3b067_6 : decode cJ2_getChar_3b067 6 = .ok (.iload_n 1, 1) := by decide +kernel
theorem dJ2_getChar_3b067_7 : decode cJ2_getChar_3b067 7 = .ok (.ifCond .lt 11, 3) := by decide +kernel
theorem dJ2_getChar_3b067_10 : decode cJ2_getChar_3b067 10 = .ok (.iload_n 1, 1) := by decide +kernel
theorem dJ2_getChar_3b067_11 : decode cJ2_getChar_3b067 11 = .ok (.aload_n 0, 1) := by decide +kernel
theorem dJ2_getChar_3b067_12 : decode cJ2_getChar_3b067 12 = .ok (.invokestatic 48, 3) := by decide +kernel
theorem dJ2_getChar_3b067_15 : decode cJ2_getChar_3b067 15 = .ok (.if_icmp .lt 13, 3) := by decide +kernel
theorem dJ2_getChar_3b067_18 : decode cJ2_getChar_3b067 18 = .ok (.new 52, 3) := by decide +kernel
theorem dJ2_getChar_3b067_21 : decode cJ2_getChar_3b067 21 = .ok (.dup, 1) := by decide +kernel
theorem dJ2_getChar_3b067_22 : decode cJ2_getChar_3b067 22 = .ok (.ldc 54, 2) := by decide +kernel
theorem dJ2_getChar_3b067_24 : decode cJ2_getChar_3b067 24 = .ok (.invokespecial 56, 3) := by decide +kernel
theorem dJ2_getChar_3b067_27 : decode cJ2_getChar_3b067 27 = .ok (.athrow, 1) := by decide +kernel
theorem dJ2_getChar_3b067_28 : decode cJ2_getChar_3b067 28 = .ok (.iload_n 1, 1) := by decide +kernel
theorem dJ2_getChar_3b067_29 : decode cJ2_getChar_3b067 29 = .ok (.iconst 1, 1) := by decide +kernel
theorem dJ2_getChar_3b067_30 : decode cJ2_getChar_3b067 30 = .ok (.ishl, 1) := by decide +kernel
theorem dJ2_getChar_3b067_31 : decode cJ2_getChar_3b067 31 = .ok (.istore_n 1, 1) := by decide +kernel
theorem dJ2_getChar_3b067_32 : decode cJ2_getChar_3b067 32 = .ok (.aload_n 0, 1) := by decide +kernel
theorem dJ2_getChar_3b067_33 : decode cJ2_getChar_3b067 33 = .ok (.iload_n 1, 1) := by decide +kernel
theorem dJ2_getChar_3b067_34 : decode cJ2_getChar_3b067 34 = .ok (.iinc 1 1, 3) := by decide +kernel
theorem dJ2_getChar_3b067_37 : decode cJ2_getChar_3b067 37 = .ok (.baload, 1) := by decide +kernel
theorem dJ2_getChar_3b067_38 : decode cJ2_getChar_3b067 38 = .ok (.sipush 255, 3) := by decide +kernel
theorem dJ2_getChar_3b067_41 : decode cJ2_getChar_3b067 41 = .ok (.iand, 1) := by decide +kernel
theorem dJ2_getChar_3b067_42 : decode cJ2_getChar_3b067 42 = .ok (.getstatic 59, 3) := by decide +kernel
theorem dJ2_getChar_3b067_45 : decode cJ2_getChar_3b067 45 = .ok (.ishl, 1) := by decide +kernel
theorem dJ2_getChar_3b067_46 : decode cJ2_getChar_3b067 46 = .ok (.aload_n 0, 1) := by decide +kernel
theorem dJ2_getChar_3b067_47 : decode cJ2_getChar_3b067 47 = .ok (.iload_n 1, 1) := by decide +kernel
theorem dJ2_getChar_3b067_48 : decode cJ2_getChar_3b067 48 = .ok (.baload, 1) := by decide +kernel
theorem dJ2_getChar_3b067_49 : decode cJ2_getChar_3b067 49 = .ok (.sipush 255, 3) := by decide +kernel
theorem dJ2_getChar_3b067_52 : decode cJ2_getChar_3b067 52 = .ok (.iand, 1) := by decide +kernel
theorem dJ2_getChar_3b067_53 : decode cJ2_getChar_3b067 53 = .ok (.getstatic 63, 3) := by decide +kernel
theorem dJ2_getChar_3b067_56 : decode cJ2_getChar_3b067 56 = .ok (.ishl, 1) := by decide +kernel
theorem dJ2_getChar_3b067_57 : decode cJ2_getChar_3b067 57 = .ok (.ior, 1) := by decide +kernel
theorem dJ2_getChar_3b067_58 : decode cJ2_getChar_3b067 58 = .ok (.i2c, 1) := by decide +kernel
theorem dJ2_getChar_3b067_59 : decode cJ2_getChar_3b067 59 = .ok (.ireturn, 1) := by decide +kernel
theorem dJ2_length_9d52b_0 : decode cJ2_length_9d52b 0 = .ok (.aload_n 0, 1) := by decide +kernel
theorem dJ2_length_9d52b_1 : decode cJ2_length_9d52b 1 = .ok (.arraylength, 1) := by decide +kernel
theorem dJ2_length_9d52b_2 : decode cJ2_length_9d52b 2 = .ok (.iconst 1, 1) := by decide +kernel
theorem dJ2_length_9d52b_3 : decode cJ2_length_9d52b 3 = .ok (.ishr, 1) := by decide +kernel
theorem dJ2_length_9d52b_4 : decode cJ2_length_9d52b 4 = .ok (.ireturn, 1) := by decide +kernel
theorem dJ2_charAt_3b067_0 : decode cJ2_charAt_3b067 0 = .ok (.iload_n 1, 1) := by decide +kernel
theorem dJ2_charAt_3b067_1 : decode cJ2_charAt_3b067 1 = .ok (.aload_n 0, 1) := by decide +kernel
theorem dJ2_charAt_3b067_2 : decode cJ2_charAt_3b067 2 = .ok (.invokestatic 67, 3) := by decide +kernel
theorem dJ2_charAt_3b067_5 : decode cJ2_charAt_3b067 5 = .ok (.aload_n 0, 1) := by decide +kernel
theorem dJ2_charAt_3b067_6 : decode cJ2_charAt_3b067 6 = .ok (.iload_n 1, 1) := by decide +kernel
theorem dJ2_charAt_3b067_7 : decode cJ2_charAt_3b067 7 = .ok (.invokestatic 71, 3) := by decide +kernel
theorem dJ2_charAt_3b067_10 : decode cJ2_charAt_3b067 10 = .ok (.ireturn, 1) := by decide +kernel
theorem dJ2_checkIndex_2214a_0 : decode cJ2_checkIndex_2214a 0 = .ok (.iload_n 0, 1) := by decide +kernel
theorem dJ2_checkIndex_2214a_1 : decode cJ2_checkIndex_2214a 1 = .ok (.aload_n 1, 1) := by decide +kernel
theorem dJ2_checkIndex_2214a_2 : decode cJ2_checkIndex_2214a 2 = .ok (.invokestatic 48, 3) := by decide +kernel
theorem dJ2_checkIndex_2214a_5 : decode cJ2_checkIndex_2214a 5 = .ok (.invokestatic 414, 3) := by decide +kernel
theorem dJ2_checkIndex_2214a_8 : decode cJ2_checkIndex_2214a 8 = .ok (.return_, 1) := by decide +kernel
theorem dJ3_checkIndex_8e157_0 : decode cJ3_checkIndex_8e157 0 = .ok (.iload_n 0, 1) := by decide +kernel
theorem dJ3_checkIndex_8e157_1 : decode cJ3_checkIndex_8e157 1 = .ok (.ifCond .lt 8, 3) := by decide +kernel
theorem dJ3_checkIndex_8e157_4 : decode cJ3_checkIndex_8e157 4 = .ok (.iload_n 0, 1) := by decide +kernel
theorem dJ3_checkIndex_8e157_5 : decode cJ3_checkIndex_8e157 5 = .ok (.iload_n 1, 1) := by decide +kernel
theorem dJ3_checkIndex_8e157_6 : decode cJ3_checkIndex_8e157 6 = .ok (.if_icmp .lt 10, 3) := by decide +kernel
theorem dJ3_checkIndex_8e157_9 : decode cJ3_checkIndex_8e157 9 = .ok (.aload_n 2, 1) := by decide +kernel
theorem dJ3_checkIndex_8e157_10 : decode cJ3_checkIndex_8e157 10 = .ok (.iload_n 0, 1) := by decide +kernel
theorem dJ3_checkIndex_8e157_11 : decode cJ3_checkIndex_8e157 11 = .ok (.iload_n 1, 1) := by decide +kernel
theorem dJ3_checkIndex_8e157_12 : decode cJ3_checkIndex_8e157 12 = .ok (.invokestatic 95, 3) := by decide +kernel
theorem dJ3_checkIndex_8e157_15 : decode cJ3_checkIndex_8e157 15 = .ok (.athrow, 1) := by decide +kernel
theorem dJ3_checkIndex_8e157_16 : decode cJ3_checkIndex_8e157 16 = .ok (.iload_n 0, 1) := by decide +kernel
theorem dJ3_checkIndex_8e157_17 : decode cJ3_checkIndex_8e157 17 = .ok (.ireturn, 1) := by decide +kernel
theorem dL_buildRoad_0 : decode cL_buildRoad 0 = .ok (.aload 4, 2) := by decide +kernel
theorem dL_buildRoad_2 : decode cL_buildRoad 2 = .ok (.iconst 0, 1) := by decide +kernel
theorem dL_buildRoad_3 : decode cL_buildRoad 3 = .ok (.aload_n 0, 1) := by decide +kernel
theorem dL_buildRoad_4 : decode cL_buildRoad 4 = .ok (.iload_n 1, 1) := by decide +kernel
theorem dL_buildRoad_5 : decode cL_buildRoad 5 = .ok (.iload_n 2, 1) := by decide +kernel
theorem dL_buildRoad_6 : decode cL_buildRoad 6 = .ok (.iload_n 3, 1) := by decide +kernel
theorem dL_buildRoad_7 : decode cL_buildRoad 7 = .ok (.invokevirtual 7, 3) := by decide +kernel
theorem dL_buildRoad_10 : decode cL_buildRoad 10 = .ok (.i2l, 1) := by decide +kernel
theorem dL_buildRoad_11 : decode cL_buildRoad 11 = .ok (.lastore, 1) := by decide +kernel
theorem dL_buildRoad_12 : decode cL_buildRoad 12 = .ok (.goto 15, 3) := by decide +kernel
theorem dL_buildRoad_15 : decode cL_buildRoad 15 = .ok (.astore 5, 2) := by decide +kernel
theorem dL_buildRoad_17 : decode cL_buildRoad 17 = .ok (.iconst 1, 1) := by decide +kernel
theorem dL_buildRoad_18 : decode cL_buildRoad 18 = .ok (.ireturn, 1) := by decide +kernel
theorem dL_buildRoad_19 : decode cL_buildRoad 19 = .ok (.astore 5, 2) := by decide +kernel
theorem dL_buildRoad_21 : decode cL_buildRoad 21 = .ok (.iconst 2, 1) := by decide +kernel
theorem dL_buildRoad_22 : decode cL_buildRoad 22 = .ok (.ireturn, 1) := by decide +kernel
theorem dL_buildRoad_23 : decode cL_buildRoad 23 = .ok (.astore 5, 2) := by decide +kernel
theorem dL_buildRoad_25 : decode cL_buildRoad 25 = .ok (.iconst 3, 1) := by decide +kernel
theorem dL_buildRoad_26 : decode cL_buildRoad 26 = .ok (.ireturn, 1) := by decide +kernel
theorem dL_buildRoad_27 : decode cL_buildRoad 27 = .ok (.iconst 0, 1) := by decide +kernel
theorem dL_buildRoad_28 : decode cL_buildRoad 28 = .ok (.ireturn, 1) := by decide +kernel
theorem dL_acceptParcel_0 : decode cL_acceptParcel 0 = .ok (.aload 4, 2) := by decide +kernel
theorem dL_acceptParcel_2 : decode cL_acceptParcel 2 = .ok (.iconst 0, 1) := by decide +kernel
theorem dL_acceptParcel_3 : decode cL_acceptParcel 3 = .ok (.aload_n 0, 1) := by decide +kernel
theorem dL_acceptParcel_4 : decode cL_acceptParcel 4 = .ok (.iload_n 1, 1) := by decide +kernel
theorem dL_acceptParcel_5 : decode cL_acceptParcel 5 = .ok (.iload_n 2, 1) := by decide +kernel
theorem dL_acceptParcel_6 : decode cL_acceptParcel 6 = .ok (.iload_n 3, 1) := by decide +kernel
theorem dL_acceptParcel_7 : decode cL_acceptParcel 7 = .ok (.invokevirtual 19, 3) := by decide +kernel
theorem dL_acceptParcel_10 : decode cL_acceptParcel 10 = .ok (.i2l, 1) := by decide +kernel
theorem dL_acceptParcel_11 : decode cL_acceptParcel 11 = .ok (.lastore, 1) := by decide +kernel
theorem dL_acceptParcel_12 : decode cL_acceptParcel 12 = .ok (.goto 15, 3) := by decide +kernel
theorem dL_acceptParcel_15 : decode cL_acceptParcel 15 = .ok (.astore 5, 2) := by decide +kernel
theorem dL_acceptParcel_17 : decode cL_acceptParcel 17 = .ok (.iconst 1, 1) := by decide +kernel
theorem dL_acceptParcel_18 : decode cL_acceptParcel 18 = .ok (.ireturn, 1) := by decide +kernel
theorem dL_acceptParcel_19 : decode cL_acceptParcel 19 = .ok (.astore 5, 2) := by decide +kernel
theorem dL_acceptParcel_21 : decode cL_acceptParcel 21 = .ok (.iconst 2, 1) := by decide +kernel
theorem dL_acceptParcel_22 : decode cL_acceptParcel 22 = .ok (.ireturn, 1) := by decide +kernel
theorem dL_acceptParcel_23 : decode cL_acceptParcel 23 = .ok (.astore 5, 2) := by decide +kernel
theorem dL_acceptParcel_25 : decode cL_acceptParcel 25 = .ok (.iconst 3, 1) := by decide +kernel
theorem dL_acceptParcel_26 : decode cL_acceptParcel 26 = .ok (.ireturn, 1) := by decide +kernel
theorem dL_acceptParcel_27 : decode cL_acceptParcel 27 = .ok (.iconst 0, 1) := by decide +kernel
theorem dL_acceptParcel_28 : decode cL_acceptParcel 28 = .ok (.ireturn, 1) := by decide +kernel
theorem dL_buyGlove_0 : decode cL_buyGlove 0 = .ok (.aload_n 2, 1) := by decide +kernel
theorem dL_buyGlove_1 : decode cL_buyGlove 1 = .ok (.iconst 0, 1) := by decide +kernel
theorem dL_buyGlove_2 : decode cL_buyGlove 2 = .ok (.aload_n 0, 1) := by decide +kernel
theorem dL_buyGlove_3 : decode cL_buyGlove 3 = .ok (.iload_n 1, 1) := by decide +kernel
theorem dL_buyGlove_4 : decode cL_buyGlove 4 = .ok (.invokevirtual 22, 3) := by decide +kernel
theorem dL_buyGlove_7 : decode cL_buyGlove 7 = .ok (.i2l, 1) := by decide +kernel
theorem dL_buyGlove_8 : decode cL_buyGlove 8 = .ok (.lastore, 1) := by decide +kernel
theorem dL_buyGlove_9 : decode cL_buyGlove 9 = .ok (.goto 9, 3) := by decide +kernel
theorem dL_buyGlove_12 : decode cL_buyGlove 12 = .ok (.astore_n 3, 1) := by decide +kernel
theorem dL_buyGlove_13 : decode cL_buyGlove 13 = .ok (.iconst 1, 1) := by decide +kernel
theorem dL_buyGlove_14 : decode cL_buyGlove 14 = .ok (.ireturn, 1) := by decide +kernel
theorem dL_buyGlove_15 : decode cL_buyGlove 15 = .ok (.astore_n 3, 1) := by decide +kernel
theorem dL_buyGlove_16 : decode cL_buyGlove 16 = .ok (.iconst 2, 1) := by decide +kernel
theorem dL_buyGlove_17 : decode cL_buyGlove 17 = .ok (.ireturn, 1) := by decide +kernel
theorem dL_buyGlove_18 : decode cL_buyGlove 18 = .ok (.iconst 0, 1) := by decide +kernel
theorem dL_buyGlove_19 : decode cL_buyGlove 19 = .ok (.ireturn, 1) := by decide +kernel
theorem dL_setCapacity_0 : decode cL_setCapacity 0 = .ok (.aload_n 3, 1) := by decide +kernel
theorem dL_setCapacity_1 : decode cL_setCapacity 1 = .ok (.iconst 0, 1) := by decide +kernel
theorem dL_setCapacity_2 : decode cL_setCapacity 2 = .ok (.aload_n 0, 1) := by decide +kernel
theorem dL_setCapacity_3 : decode cL_setCapacity 3 = .ok (.iload_n 1, 1) := by decide +kernel
theorem dL_setCapacity_4 : decode cL_setCapacity 4 = .ok (.iload_n 2, 1) := by decide +kernel
theorem dL_setCapacity_5 : decode cL_setCapacity 5 = .ok (.invokevirtual 26, 3) := by decide +kernel
theorem dL_setCapacity_8 : decode cL_setCapacity 8 = .ok (.i2l, 1) := by decide +kernel
theorem dL_setCapacity_9 : decode cL_setCapacity 9 = .ok (.lastore, 1) := by decide +kernel
theorem dL_setCapacity_10 : decode cL_setCapacity 10 = .ok (.goto 15, 3) := by decide +kernel
theorem dL_setCapacity_13 : decode cL_setCapacity 13 = .ok (.astore 4, 2) := by decide +kernel
theorem dL_setCapacity_15 : decode cL_setCapacity 15 = .ok (.iconst 1, 1) := by decide +kernel
theorem dL_setCapacity_16 : decode cL_setCapacity 16 = .ok (.ireturn, 1) := by decide +kernel
theorem dL_setCapacity_17 : decode cL_setCapacity 17 = .ok (.astore 4, 2) := by decide +kernel
theorem dL_setCapacity_19 : decode cL_setCapacity 19 = .ok (.iconst 2, 1) := by decide +kernel
theorem dL_setCapacity_20 : decode cL_setCapacity 20 = .ok (.ireturn, 1) := by decide +kernel
theorem dL_setCapacity_21 : decode cL_setCapacity 21 = .ok (.astore 4, 2) := by decide +kernel
theorem dL_setCapacity_23 : decode cL_setCapacity 23 = .ok (.iconst 3, 1) := by decide +kernel
theorem dL_setCapacity_24 : decode cL_setCapacity 24 = .ok (.ireturn, 1) := by decide +kernel
theorem dL_setCapacity_25 : decode cL_setCapacity 25 = .ok (.iconst 0, 1) := by decide +kernel
theorem dL_setCapacity_26 : decode cL_setCapacity 26 = .ok (.ireturn, 1) := by decide +kernel
theorem dL_put_0 : decode cL_put 0 = .ok (.aload_n 3, 1) := by decide +kernel
theorem dL_put_1 : decode cL_put 1 = .ok (.iconst 0, 1) := by decide +kernel
theorem dL_put_2 : decode cL_put 2 = .ok (.aload_n 0, 1) := by decide +kernel
theorem dL_put_3 : decode cL_put 3 = .ok (.iload_n 1, 1) := by decide +kernel
theorem dL_put_4 : decode cL_put 4 = .ok (.iload_n 2, 1) := by decide +kernel
theorem dL_put_5 : decode cL_put 5 = .ok (.invokevirtual 30, 3) := by decide +kernel
theorem dL_put_8 : decode cL_put 8 = .ok (.i2l, 1) := by decide +kernel
theorem dL_put_9 : decode cL_put 9 = .ok (.lastore, 1) := by decide +kernel
theorem dL_put_10 : decode cL_put 10 = .ok (.goto 19, 3) := by decide +kernel
theorem dL_put_13 : decode cL_put 13 = .ok (.astore 4, 2) := by decide +kernel
theorem dL_put_15 : decode cL_put 15 = .ok (.iconst 1, 1) := by decide +kernel
theorem dL_put_16 : decode cL_put 16 = .ok (.ireturn, 1) := by decide +kernel
theorem dL_put_17 : decode cL_put 17 = .ok (.astore 4, 2) := by decide +kernel
theorem dL_put_19 : decode cL_put 19 = .ok (.iconst 2, 1) := by decide +kernel
theorem dL_put_20 : decode cL_put 20 = .ok (.ireturn, 1) := by decide +kernel
theorem dL_put_21 : decode cL_put 21 = .ok (.astore 4, 2) := by decide +kernel
theorem dL_put_23 : decode cL_put 23 = .ok (.iconst 3, 1) := by decide +kernel
theorem dL_put_24 : decode cL_put 24 = .ok (.ireturn, 1) := by decide +kernel
theorem dL_put_25 : decode cL_put 25 = .ok (.astore 4, 2) := by decide +kernel
theorem dL_put_27 : decode cL_put 27 = .ok (.iconst 4, 1) := by decide +kernel
theorem dL_put_28 : decode cL_put 28 = .ok (.ireturn, 1) := by decide +kernel
theorem dL_put_29 : decode cL_put 29 = .ok (.iconst 0, 1) := by decide +kernel
theorem dL_put_30 : decode cL_put 30 = .ok (.ireturn, 1) := by decide +kernel
theorem dL_takeOut_0 : decode cL_takeOut 0 = .ok (.aload_n 2, 1) := by decide +kernel
theorem dL_takeOut_1 : decode cL_takeOut 1 = .ok (.iconst 0, 1) := by decide +kernel
theorem dL_takeOut_2 : decode cL_takeOut 2 = .ok (.aload_n 0, 1) := by decide +kernel
theorem dL_takeOut_3 : decode cL_takeOut 3 = .ok (.iload_n 1, 1) := by decide +kernel
theorem dL_takeOut_4 : decode cL_takeOut 4 = .ok (.invokevirtual 37, 3) := by decide +kernel
theorem dL_takeOut_7 : decode cL_takeOut 7 = .ok (.i2l, 1) := by decide +kernel
theorem dL_takeOut_8 : decode cL_takeOut 8 = .ok (.lastore, 1) := by decide +kernel
theorem dL_takeOut_9 : decode cL_takeOut 9 = .ok (.goto 12, 3) := by decide +kernel
theorem dL_takeOut_12 : decode cL_takeOut 12 = .ok (.astore_n 3, 1) := by decide +kernel
theorem dL_takeOut_13 : decode cL_takeOut 13 = .ok (.iconst 1, 1) := by decide +kernel
theorem dL_takeOut_14 : decode cL_takeOut 14 = .ok (.ireturn, 1) := by decide +kernel
theorem dL_takeOut_15 : decode cL_takeOut 15 = .ok (.astore_n 3, 1) := by decide +kernel
theorem dL_takeOut_16 : decode cL_takeOut 16 = .ok (.iconst 2, 1) := by decide +kernel
theorem dL_takeOut_17 : decode cL_takeOut 17 = .ok (.ireturn, 1) := by decide +kernel
theorem dL_takeOut_18 : decode cL_takeOut 18 = .ok (.astore_n 3, 1) := by decide +kernel
theorem dL_takeOut_19 : decode cL_takeOut 19 = .ok (.iconst 3, 1) := by decide +kernel
theorem dL_takeOut_20 : decode cL_takeOut 20 = .ok (.ireturn, 1) := by decide +kernel
theorem dL_takeOut_21 : decode cL_takeOut 21 = .ok (.iconst 0, 1) := by decide +kernel
theorem dL_takeOut_22 : decode cL_takeOut 22 = .ok (.ireturn, 1) := by decide +kernel
theorem dL_carry_0 : decode cL_carry 0 = .ok (.aload_n 3, 1) := by decide +kernel
theorem dL_carry_1 : decode cL_carry 1 = .ok (.iconst 0, 1) := by decide +kernel
theorem dL_carry_2 : decode cL_carry 2 = .ok (.aload_n 0, 1) := by decide +kernel
theorem dL_carry_3 : decode cL_carry 3 = .ok (.iload_n 1, 1) := by decide +kernel
theorem dL_carry_4 : decode cL_carry 4 = .ok (.iload_n 2, 1) := by decide +kernel
theorem dL_carry_5 : decode cL_carry 5 = .ok (.invokevirtual 40, 3) := by decide +kernel
theorem dL_carry_8 : decode cL_carry 8 = .ok (.i2l, 1) := by decide +kernel
theorem dL_carry_9 : decode cL_carry 9 = .ok (.lastore, 1) := by decide +kernel
theorem dL_carry_10 : decode cL_carry 10 = .ok (.goto 15, 3) := by decide +kernel
theorem dL_carry_13 : decode cL_carry 13 = .ok (.astore 4, 2) := by decide +kernel
theorem dL_carry_15 : decode cL_carry 15 = .ok (.iconst 1, 1) := by decide +kernel
theorem dL_carry_16 : decode cL_carry 16 = .ok (.ireturn, 1) := by decide +kernel
