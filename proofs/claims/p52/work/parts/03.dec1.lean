theorem dX0_faultIn_0 : decode cX0_faultIn 0 = .ok (.aload_n 0, 1) := by decide +kernel
theorem dX0_faultIn_1 : decode cX0_faultIn 1 = .ok (.getfield 9, 3) := by decide +kernel
theorem dX0_faultIn_4 : decode cX0_faultIn 4 = .ok (.bipush 60, 2) := by decide +kernel
theorem dX0_faultIn_6 : decode cX0_faultIn 6 = .ok (.invokestatic 15, 3) := by decide +kernel
theorem dX0_faultIn_9 : decode cX0_faultIn 9 = .ok (.istore_n 1, 1) := by decide +kernel
theorem dX0_faultIn_10 : decode cX0_faultIn 10 = .ok (.iconst 0, 1) := by decide +kernel
theorem dX0_faultIn_11 : decode cX0_faultIn 11 = .ok (.istore_n 2, 1) := by decide +kernel
theorem dX0_faultIn_12 : decode cX0_faultIn 12 = .ok (.bipush 59, 2) := by decide +kernel
theorem dX0_faultIn_14 : decode cX0_faultIn 14 = .ok (.istore_n 3, 1) := by decide +kernel
theorem dX0_faultIn_15 : decode cX0_faultIn 15 = .ok (.iconst 0, 1) := by decide +kernel
theorem dX0_faultIn_16 : decode cX0_faultIn 16 = .ok (.istore 4, 2) := by decide +kernel
theorem dX0_faultIn_18 : decode cX0_faultIn 18 = .ok (.iload 4, 2) := by decide +kernel
theorem dX0_faultIn_20 : decode cX0_faultIn 20 = .ok (.iload_n 1, 1) := by decide +kernel
theorem dX0_faultIn_21 : decode cX0_faultIn 21 = .ok (.if_icmp .ge 150, 3) := by decide +kernel
theorem dX0_faultIn_24 : decode cX0_faultIn 24 = .ok (.aload_n 0, 1) := by decide +kernel
theorem dX0_faultIn_25 : decode cX0_faultIn 25 = .ok (.iload 4, 2) := by decide +kernel
theorem dX0_faultIn_27 : decode cX0_faultIn 27 = .ok (.invokevirtual 21, 3) := by decide +kernel
theorem dX0_faultIn_30 : decode cX0_faultIn 30 = .ok (.istore 5, 2) := by decide +kernel
theorem dX0_faultIn_32 : decode cX0_faultIn 32 = .ok (.iload_n 3, 1) := by decide +kernel
theorem dX0_faultIn_33 : decode cX0_faultIn 33 = .ok (.bipush 59, 2) := by decide +kernel
theorem dX0_faultIn_35 : decode cX0_faultIn 35 = .ok (.if_icmp .ne 7, 3) := by decide +kernel
theorem dX0_faultIn_38 : decode cX0_faultIn 38 = .ok (.iconst 1, 1) := by decide +kernel
theorem dX0_faultIn_39 : decode cX0_faultIn 39 = .ok (.goto 4, 3) := by decide +kernel
theorem dX0_faultIn_42 : decode cX0_faultIn 42 = .ok (.iconst 0, 1) := by decide +kernel
theorem dX0_faultIn_43 : decode cX0_faultIn 43 = .ok (.istore 6, 2) := by decide +kernel
theorem dX0_faultIn_45 : decode cX0_faultIn 45 = .ok (.aload_n 0, 1) := by decide +kernel
theorem dX0_faultIn_46 : decode cX0_faultIn 46 = .ok (.iload 4, 2) := by decide +kernel
theorem dX0_faultIn_48 : decode cX0_faultIn 48 = .ok (.invokevirtual 25, 3) := by decide +kernel
theorem dX0_faultIn_51 : decode cX0_faultIn 51 = .ok (.ifCond .eq 44, 3) := by decide +kernel
theorem dX0_faultIn_54 : decode cX0_faultIn 54 = .ok (.iload 6, 2) := by decide +kernel
theorem dX0_faultIn_56 : decode cX0_faultIn 56 = .ok (.ifCond .ne 11, 3) := by decide +kernel
theorem dX0_faultIn_59 : decode cX0_faultIn 59 = .ok (.iload_n 2, 1) := by decide +kernel
theorem dX0_faultIn_60 : decode cX0_faultIn 60 = .ok (.iload_n 3, 1) := by decide +kernel
theorem dX0_faultIn_61 : decode cX0_faultIn 61 = .ok (.invokestatic 29, 3) := by decide +kernel
theorem dX0_faultIn_64 : decode cX0_faultIn 64 = .ok (.if_icmp .ge 31, 3) := by decide +kernel
theorem dX0_faultIn_67 : decode cX0_faultIn 67 = .ok (.iload 6, 2) := by decide +kernel
theorem dX0_faultIn_69 : decode cX0_faultIn 69 = .ok (.ifCond .eq 8, 3) := by decide +kernel
theorem dX0_faultIn_72 : decode cX0_faultIn 72 = .ok (.bipush 48, 2) := by decide +kernel
theorem dX0_faultIn_74 : decode cX0_faultIn 74 = .ok (.goto 4, 3) := by decide +kernel
theorem dX0_faultIn_77 : decode cX0_faultIn 77 = .ok (.iload_n 3, 1) := by decide +kernel
theorem dX0_faultIn_78 : decode cX0_faultIn 78 = .ok (.istore_n 3, 1) := by decide +kernel
theorem dX0_faultIn_79 : decode cX0_faultIn 79 = .ok (.iload 6, 2) := by decide +kernel
theorem dX0_faultIn_81 : decode cX0_faultIn 81 = .ok (.ifCond .eq 7, 3) := by decide +kernel
theorem dX0_faultIn_84 : decode cX0_faultIn 84 = .ok (.iconst 1, 1) := by decide +kernel
theorem dX0_faultIn_85 : decode cX0_faultIn 85 = .ok (.goto 6, 3) := by decide +kernel
theorem dX0_faultIn_88 : decode cX0_faultIn 88 = .ok (.iload_n 2, 1) := by decide +kernel
theorem dX0_faultIn_89 : decode cX0_faultIn 89 = .ok (.iconst 1, 1) := by decide +kernel
theorem dX0_faultIn_90 : decode cX0_faultIn 90 = .ok (.iadd, 1) := by decide +kernel
theorem dX0_faultIn_91 : decode cX0_faultIn 91 = .ok (.istore_n 2, 1) := by decide +kernel
theorem dX0_faultIn_92 : decode cX0_faultIn 92 = .ok (.goto 73, 3) := by decide +kernel
theorem dX0_faultIn_95 : decode cX0_faultIn 95 = .ok (.iload 6, 2) := by decide +kernel
theorem dX0_faultIn_97 : decode cX0_faultIn 97 = .ok (.ifCond .eq 39, 3) := by decide +kernel
theorem dX0_faultIn_100 : decode cX0_faultIn 100 = .ok (.iload 5, 2) := by decide +kernel
theorem dX0_faultIn_102 : decode cX0_faultIn 102 = .ok (.bipush 116, 2) := by decide +kernel
theorem dX0_faultIn_104 : decode cX0_faultIn 104 = .ok (.if_icmp .eq 24, 3) := by decide +kernel
theorem dX0_faultIn_107 : decode cX0_faultIn 107 = .ok (.iload 5, 2) := by decide +kernel
theorem dX0_faultIn_109 : decode cX0_faultIn 109 = .ok (.bipush 108, 2) := by decide +kernel
theorem dX0_faultIn_111 : decode cX0_faultIn 111 = .ok (.if_icmp .eq 17, 3) := by decide +kernel
theorem dX0_faultIn_114 : decode cX0_faultIn 114 = .ok (.iload 5, 2) := by decide +kernel
theorem dX0_faultIn_116 : decode cX0_faultIn 116 = .ok (.bipush 99, 2) := by decide +kernel
theorem dX0_faultIn_118 : decode cX0_faultIn 118 = .ok (.if_icmp .eq 10, 3) := by decide +kernel
theorem dX0_faultIn_121 : decode cX0_faultIn 121 = .ok (.iload 5, 2) := by decide +kernel
theorem dX0_faultIn_123 : decode cX0_faultIn 123 = .ok (.bipush 109, 2) := by decide +kernel
theorem dX0_faultIn_125 : decode cX0_faultIn 125 = .ok (.if_icmp .ne 11, 3) := by decide +kernel
theorem dX0_faultIn_128 : decode cX0_faultIn 128 = .ok (.iload 5, 2) := by decide +kernel
theorem dX0_faultIn_130 : decode cX0_faultIn 130 = .ok (.istore_n 3, 1) := by decide +kernel
theorem dX0_faultIn_131 : decode cX0_faultIn 131 = .ok (.iconst 0, 1) := by decide +kernel
theorem dX0_faultIn_132 : decode cX0_faultIn 132 = .ok (.istore_n 2, 1) := by decide +kernel
theorem dX0_faultIn_133 : decode cX0_faultIn 133 = .ok (.goto 32, 3) := by decide +kernel
theorem dX0_faultIn_136 : decode cX0_faultIn 136 = .ok (.iload 6, 2) := by decide +kernel
theorem dX0_faultIn_138 : decode cX0_faultIn 138 = .ok (.ifCond .ne 24, 3) := by decide +kernel
theorem dX0_faultIn_141 : decode cX0_faultIn 141 = .ok (.iload 5, 2) := by decide +kernel
theorem dX0_faultIn_143 : decode cX0_faultIn 143 = .ok (.bipush 59, 2) := by decide +kernel
theorem dX0_faultIn_145 : decode cX0_faultIn 145 = .ok (.if_icmp .ne 17, 3) := by decide +kernel
theorem dX0_faultIn_148 : decode cX0_faultIn 148 = .ok (.iload_n 2, 1) := by decide +kernel
theorem dX0_faultIn_149 : decode cX0_faultIn 149 = .ok (.iload_n 3, 1) := by decide +kernel
theorem dX0_faultIn_150 : decode cX0_faultIn 150 = .ok (.invokestatic 34, 3) := by decide +kernel
theorem dX0_faultIn_153 : decode cX0_faultIn 153 = .ok (.if_icmp .lt 9, 3) := by decide +kernel
theorem dX0_faultIn_156 : decode cX0_faultIn 156 = .ok (.bipush 59, 2) := by decide +kernel
theorem dX0_faultIn_158 : decode cX0_faultIn 158 = .ok (.istore_n 3, 1) := by decide +kernel
theorem dX0_faultIn_159 : decode cX0_faultIn 159 = .ok (.goto 6, 3) := by decide +kernel
theorem dX0_faultIn_162 : decode cX0_faultIn 162 = .ok (.iload 4, 2) := by decide +kernel
theorem dX0_faultIn_164 : decode cX0_faultIn 164 = .ok (.ireturn, 1) := by decide +kernel
theorem dX0_faultIn_165 : decode cX0_faultIn 165 = .ok (.iinc 4 1, 3) := by decide +kernel
theorem dX0_faultIn_168 : decode cX0_faultIn 168 = .ok (.goto (-150), 3) := by decide +kernel
theorem dX0_faultIn_171 : decode cX0_faultIn 171 = .ok (.aload_n 0, 1) := by decide +kernel
theorem dX0_faultIn_172 : decode cX0_faultIn 172 = .ok (.getfield 9, 3) := by decide +kernel
theorem dX0_faultIn_175 : decode cX0_faultIn 175 = .ok (.bipush 60, 2) := by decide +kernel
theorem dX0_faultIn_177 : decode cX0_faultIn 177 = .ok (.if_icmp .le 6, 3) := by decide +kernel
theorem dX0_faultIn_180 : decode cX0_faultIn 180 = .ok (.bipush 60, 2) := by decide +kernel
theorem dX0_faultIn_182 : decode cX0_faultIn 182 = .ok (.ireturn, 1) := by decide +kernel
theorem dX0_faultIn_183 : decode cX0_faultIn 183 = .ok (.iload_n 3, 1) := by decide +kernel
theorem dX0_faultIn_184 : decode cX0_faultIn 184 = .ok (.bipush 59, 2) := by decide +kernel
theorem dX0_faultIn_186 : decode cX0_faultIn 186 = .ok (.if_icmp .eq 15, 3) := by decide +kernel
theorem dX0_faultIn_189 : decode cX0_faultIn 189 = .ok (.iload_n 2, 1) := by decide +kernel
theorem dX0_faultIn_190 : decode cX0_faultIn 190 = .ok (.iload_n 3, 1) := by decide +kernel
theorem dX0_faultIn_191 : decode cX0_faultIn 191 = .ok (.invokestatic 34, 3) := by decide +kernel
theorem dX0_faultIn_194 : decode cX0_faultIn 194 = .ok (.if_icmp .lt 7, 3) := by decide +kernel
theorem dX0_faultIn_197 : decode cX0_faultIn 197 = .ok (.iconst 1, 1) := by decide +kernel
theorem dX0_faultIn_198 : decode cX0_faultIn 198 = .ok (.goto 4, 3) := by decide +kernel
theorem dX0_faultIn_201 : decode cX0_faultIn 201 = .ok (.iconst 0, 1) := by decide +kernel
theorem dX0_faultIn_202 : decode cX0_faultIn 202 = .ok (.istore 4, 2) := by decide +kernel
theorem dX0_faultIn_204 : decode cX0_faultIn 204 = .ok (.iload_n 1, 1) := by decide +kernel
theorem dX0_faultIn_205 : decode cX0_faultIn 205 = .ok (.ifCond .eq 8, 3) := by decide +kernel
theorem dX0_faultIn_208 : decode cX0_faultIn 208 = .ok (.iload 4, 2) := by decide +kernel
theorem dX0_faultIn_210 : decode cX0_faultIn 210 = .ok (.ifCond .eq 7, 3) := by decide +kernel
theorem dX0_faultIn_213 : decode cX0_faultIn 213 = .ok (.iconst (-1), 1) := by decide +kernel
theorem dX0_faultIn_214 : decode cX0_faultIn 214 = .ok (.goto 4, 3) := by decide +kernel
theorem dX0_faultIn_217 : decode cX0_faultIn 217 = .ok (.iload_n 1, 1) := by decide +kernel
theorem dX0_faultIn_218 : decode cX0_faultIn 218 = .ok (.ireturn, 1) := by decide +kernel
theorem dX0_least_0 : decode cX0_least 0 = .ok (.iload_n 0, 1) := by decide +kernel
theorem dX0_least_1 : decode cX0_least 1 = .ok (.bipush 99, 2) := by decide +kernel
theorem dX0_least_3 : decode cX0_least 3 = .ok (.if_icmp .ne 7, 3) := by decide +kernel
theorem dX0_least_6 : decode cX0_least 6 = .ok (.iconst 2, 1) := by decide +kernel
theorem dX0_least_7 : decode cX0_least 7 = .ok (.goto 4, 3) := by decide +kernel
theorem dX0_least_10 : decode cX0_least 10 = .ok (.iconst 1, 1) := by decide +kernel
theorem dX0_least_11 : decode cX0_least 11 = .ok (.ireturn, 1) := by decide +kernel
theorem dX0_most_0 : decode cX0_most 0 = .ok (.iload_n 0, 1) := by decide +kernel
theorem dX0_most_1 : decode cX0_most 1 = .ok (.lookupswitch 47 #[(99, 45), (108, 43), (109, 45), (116, 43)], 43) := by decide +kernel
theorem dX0_most_44 : decode cX0_most 44 = .ok (.iconst 1, 1) := by decide +kernel
theorem dX0_most_45 : decode cX0_most 45 = .ok (.ireturn, 1) := by decide +kernel
theorem dX0_most_46 : decode cX0_most 46 = .ok (.iconst 2, 1) := by decide +kernel
theorem dX0_most_47 : decode cX0_most 47 = .ok (.ireturn, 1) := by decide +kernel
theorem dX0_most_48 : decode cX0_most 48 = .ok (.iconst 3, 1) := by decide +kernel
theorem dX0_most_49 : decode cX0_most 49 = .ok (.ireturn, 1) := by decide +kernel
theorem dX0_beginsAt_0 : decode cX0_beginsAt 0 = .ok (.iload_n 1, 1) := by decide +kernel
theorem dX0_beginsAt_1 : decode cX0_beginsAt 1 = .ok (.ifCond .eq 15, 3) := by decide +kernel
theorem dX0_beginsAt_4 : decode cX0_beginsAt 4 = .ok (.aload_n 0, 1) := by decide +kernel
theorem dX0_beginsAt_5 : decode cX0_beginsAt 5 = .ok (.iload_n 1, 1) := by decide +kernel
theorem dX0_beginsAt_6 : decode cX0_beginsAt 6 = .ok (.iconst 1, 1) := by decide +kernel
theorem dX0_beginsAt_7 : decode cX0_beginsAt 7 = .ok (.isub, 1) := by decide +kernel
theorem dX0_beginsAt_8 : decode cX0_beginsAt 8 = .ok (.invokevirtual 21, 3) := by decide +kernel
theorem dX0_beginsAt_11 : decode cX0_beginsAt 11 = .ok (.bipush 59, 2) := by decide +kernel
theorem dX0_beginsAt_13 : decode cX0_beginsAt 13 = .ok (.if_icmp .ne 7, 3) := by decide +kernel
theorem dX0_beginsAt_16 : decode cX0_beginsAt 16 = .ok (.iconst 1, 1) := by decide +kernel
theorem dX0_beginsAt_17 : decode cX0_beginsAt 17 = .ok (.goto 4, 3) := by decide +kernel
theorem dX0_beginsAt_20 : decode cX0_beginsAt 20 = .ok (.iconst 0, 1) := by decide +kernel
theorem dX0_beginsAt_21 : decode cX0_beginsAt 21 = .ok (.ireturn, 1) := by decide +kernel
theorem dX1_init_0 : decode cX1_init 0 = .ok (.aload_n 0, 1) := by decide +kernel
theorem dX1_init_1 : decode cX1_init 1 = .ok (.invokespecial 3, 3) := by decide +kernel
theorem dX1_init_4 : decode cX1_init 4 = .ok (.aload_n 0, 1) := by decide +kernel
theorem dX1_init_5 : decode cX1_init 5 = .ok (.bipush 8, 2) := by decide +kernel
theorem dX1_init_7 : decode cX1_init 7 = .ok (.newarray .int, 2) := by decide +kernel
theorem dX1_init_9 : decode cX1_init 9 = .ok (.putfield 9, 3) := by decide +kernel
theorem dX1_init_12 : decode cX1_init 12 = .ok (.aload_n 0, 1) := by decide +kernel
theorem dX1_init_13 : decode cX1_init 13 = .ok (.iconst 0, 1) := by decide +kernel
theorem dX1_init_14 : decode cX1_init 14 = .ok (.putfield 15, 3) := by decide +kernel
theorem dX1_init_17 : decode cX1_init 17 = .ok (.aload_n 0, 1) := by decide +kernel
theorem dX1_init_18 : decode cX1_init 18 = .ok (.bipush 50, 2) := by decide +kernel
theorem dX1_init_20 : decode cX1_init 20 = .ok (.putfield 19, 3) := by decide +kernel
theorem dX1_init_23 : decode cX1_init 23 = .ok (.aload_n 0, 1) := by decide +kernel
theorem dX1_init_24 : decode cX1_init 24 = .ok (.iconst 0, 1) := by decide +kernel
theorem dX1_init_25 : decode cX1_init 25 = .ok (.putfield 22, 3) := by decide +kernel
theorem dX1_init_28 : decode cX1_init 28 = .ok (.aload_n 0, 1) := by decide +kernel
theorem dX1_init_29 : decode cX1_init 29 = .ok (.iconst 0, 1) := by decide +kernel
theorem dX1_init_30 : decode cX1_init 30 = .ok (.putfield 25, 3) := by decide +kernel
theorem dX1_init_33 : decode cX1_init 33 = .ok (.aload_n 0, 1) := by decide +kernel
theorem dX1_init_34 : decode cX1_init 34 = .ok (.iconst 0, 1) := by decide +kernel
theorem dX1_init_35 : decode cX1_init 35 = .ok (.putfield 28, 3) := by decide +kernel
theorem dX1_init_38 : decode cX1_init 38 = .ok (.aload_n 0, 1) := by decide +kernel
theorem dX1_init_39 : decode cX1_init 39 = .ok (.iconst 0, 1) := by decide +kernel
theorem dX1_init_40 : decode cX1_init 40 = .ok (.putfield 31, 3) := by decide +kernel
theorem dX1_init_43 : decode cX1_init 43 = .ok (.aload_n 0, 1) := by decide +kernel
theorem dX1_init_44 : decode cX1_init 44 = .ok (.iconst 0, 1) := by decide +kernel
theorem dX1_init_45 : decode cX1_init 45 = .ok (.putfield 34, 3) := by decide +kernel
theorem dX1_init_48 : decode cX1_init 48 = .ok (.aload_n 0, 1) := by decide +kernel
theorem dX1_init_49 : decode cX1_init 49 = .ok (.iconst 0, 1) := by decide +kernel
theorem dX1_init_50 : decode cX1_init 50 = .ok (.putfield 37, 3) := by decide +kernel
theorem dX1_init_53 : decode cX1_init 53 = .ok (.return_, 1) := by decide +kernel
theorem dX1_copy_0 : decode cX1_copy 0 = .ok (.iconst 0, 1) := by decide +kernel
theorem dX1_copy_1 : decode cX1_copy 1 = .ok (.istore_n 2, 1) := by decide +kernel
theorem dX1_copy_2 : decode cX1_copy 2 = .ok (.iload_n 2, 1) := by decide +kernel
theorem dX1_copy_3 : decode cX1_copy 3 = .ok (.bipush 8, 2) := by decide +kernel
theorem dX1_copy_5 : decode cX1_copy 5 = .ok (.if_icmp .ge 21, 3) := by decide +kernel
theorem dX1_copy_8 : decode cX1_copy 8 = .ok (.aload_n 0, 1) := by decide +kernel
theorem dX1_copy_9 : decode cX1_copy 9 = .ok (.getfield 9, 3) := by decide +kernel
theorem dX1_copy_12 : decode cX1_copy 12 = .ok (.iload_n 2, 1) := by decide +kernel
theorem dX1_copy_13 : decode cX1_copy 13 = .ok (.aload_n 1, 1) := by decide +kernel
theorem dX1_copy_14 : decode cX1_copy 14 = .ok (.getfield 9, 3) := by decide +kernel
theorem dX1_copy_17 : decode cX1_copy 17 = .ok (.iload_n 2, 1) := by decide +kernel
theorem dX1_copy_18 : decode cX1_copy 18 = .ok (.iaload, 1) := by decide +kernel
theorem dX1_copy_19 : decode cX1_copy 19 = .ok (.iastore, 1) := by decide +kernel
theorem dX1_copy_20 : decode cX1_copy 20 = .ok (.iinc 2 1, 3) := by decide +kernel
theorem dX1_copy_23 : decode cX1_copy 23 = .ok (.goto (-21), 3) := by decide +kernel
theorem dX1_copy_26 : decode cX1_copy 26 = .ok (.aload_n 0, 1) := by decide +kernel
theorem dX1_copy_27 : decode cX1_copy 27 = .ok (.aload_n 1, 1) := by decide +kernel
theorem dX1_copy_28 : decode cX1_copy 28 = .ok (.getfield 15, 3) := by decide +kernel
theorem dX1_copy_31 : decode cX1_copy 31 = .ok (.putfield 15, 3) := by decide +kernel
theorem dX1_copy_34 : decode cX1_copy 34 = .ok (.aload_n 0, 1) := by decide +kernel
theorem dX1_copy_35 : decode cX1_copy 35 = .ok (.aload_n 1, 1) := by decide +kernel
theorem dX1_copy_36 : decode cX1_copy 36 = .ok (.getfield 19, 3) := by decide +kernel
theorem dX1_copy_39 : decode cX1_copy 39 = .ok (.putfield 19, 3) := by decide +kernel
theorem dX1_copy_42 : decode cX1_copy 42 = .ok (.aload_n 0, 1) := by decide +kernel
theorem dX1_copy_43 : decode cX1_copy 43 = .ok (.aload_n 1, 1) := by decide +kernel
theorem dX1_copy_44 : decode cX1_copy 44 = .ok (.getfield 22, 3) := by decide +kernel
theorem dX1_copy_47 : decode cX1_copy 47 = .ok (.putfield 22, 3) := by decide +kernel
theorem dX1_copy_50 : decode cX1_copy 50 = .ok (.aload_n 0, 1) := by decide +kernel
theorem dX1_copy_51 : decode cX1_copy 51 = .ok (.aload_n 1, 1) := by decide +kernel
theorem dX1_copy_52 : decode cX1_copy 52 = .ok (.getfield 25, 3) := by decide +kernel
theorem dX1_copy_55 : decode cX1_copy 55 = .ok (.putfield 25, 3) := by decide +kernel
theorem dX1_copy_58 : decode cX1_copy 58 = .ok (.aload_n 0, 1) := by decide +kernel
theorem dX1_copy_59 : decode cX1_copy 59 = .ok (.aload_n 1, 1) := by decide +kernel
theorem dX1_copy_60 : decode cX1_copy 60 = .ok (.getfield 28, 3) := by decide +kernel
theorem dX1_copy_63 : decode cX1_copy 63 = .ok (.putfield 28, 3) := by decide +kernel
theorem dX1_copy_66 : decode cX1_copy 66 = .ok (.aload_n 0, 1) := by decide +kernel
theorem dX1_copy_67 : decode cX1_copy 67 = .ok (.aload_n 1, 1) := by decide +kernel
theorem dX1_copy_68 : decode cX1_copy 68 = .ok (.getfield 31, 3) := by decide +kernel
theorem dX1_copy_71 : decode cX1_copy 71 = .ok (.putfield 31, 3) := by decide +kernel
theorem dX1_copy_74 : decode cX1_copy 74 = .ok (.aload_n 0, 1) := by decide +kernel
theorem dX1_copy_75 : decode cX1_copy 75 = .ok (.aload_n 1, 1) := by decide +kernel
theorem dX1_copy_76 : decode cX1_copy 76 = .ok (.getfield 34, 3) := by decide +kernel
theorem dX1_copy_79 : decode cX1_copy 79 = .ok (.putfield 34, 3) := by decide +kernel
theorem dX1_copy_82 : decode cX1_copy 82 = .ok (.aload_n 0, 1) := by decide +kernel
theorem dX1_copy_83 : decode cX1_copy 83 = .ok (.aload_n 1, 1) := by decide +kernel
theorem dX1_copy_84 : decode cX1_copy 84 = .ok (.getfield 37, 3) := by decide +kernel
theorem dX1_copy_87 : decode cX1_copy 87 = .ok (.putfield 37, 3) := by decide +kernel
theorem dX1_copy_90 : decode cX1_copy 90 = .ok (.return_, 1) := by decide +kernel
theorem dX1_holds_0 : decode cX1_holds 0 = .ok (.iload_n 1, 1) := by decide +kernel
theorem dX1_holds_1 : decode cX1_holds 1 = .ok (.ifCond .lt 24, 3) := by decide +kernel
theorem dX1_holds_4 : decode cX1_holds 4 = .ok (.iload_n 1, 1) := by decide +kernel
theorem dX1_holds_5 : decode cX1_holds 5 = .ok (.bipush 8, 2) := by decide +kernel
theorem dX1_holds_7 : decode cX1_holds 7 = .ok (.if_icmp .ge 18, 3) := by decide +kernel
theorem dX1_holds_10 : decode cX1_holds 10 = .ok (.aload_n 0, 1) := by decide +kernel
theorem dX1_holds_11 : decode cX1_holds 11 = .ok (.getfield 15, 3) := by decide +kernel
theorem dX1_holds_14 : decode cX1_holds 14 = .ok (.iload_n 1, 1) := by decide +kernel
theorem dX1_holds_15 : decode cX1_holds 15 = .ok (.ishr, 1) := by decide +kernel
theorem dX1_holds_16 : decode cX1_holds 16 = .ok (.iconst 1, 1) := by decide +kernel
theorem dX1_holds_17 : decode cX1_holds 17 = .ok (.iand, 1) := by decide +kernel
theorem dX1_holds_18 : decode cX1_holds 18 = .ok (.ifCond .eq 7, 3) := by decide +kernel
theorem dX1_holds_21 : decode cX1_holds 21 = .ok (.iconst 1, 1) := by decide +kernel
theorem dX1_holds_22 : decode cX1_holds 22 = .ok (.goto 4, 3) := by decide +kernel
theorem dX1_holds_25 : decode cX1_holds 25 = .ok (.iconst 0, 1) := by decide +kernel
theorem dX1_holds_26 : decode cX1_holds 26 = .ok (.ireturn, 1) := by decide +kernel
theorem dX1_tiredOf_0 : decode cX1_tiredOf 0 = .ok (.iload_n 1, 1) := by decide +kernel
theorem dX1_tiredOf_1 : decode cX1_tiredOf 1 = .ok (.ifCond .lt 18, 3) := by decide +kernel
theorem dX1_tiredOf_4 : decode cX1_tiredOf 4 = .ok (.iload_n 1, 1) := by decide +kernel
theorem dX1_tiredOf_5 : decode cX1_tiredOf 5 = .ok (.bipush 8, 2) := by decide +kernel
theorem dX1_tiredOf_7 : decode cX1_tiredOf 7 = .ok (.if_icmp .ge 12, 3) := by decide +kernel
theorem dX1_tiredOf_10 : decode cX1_tiredOf 10 = .ok (.aload_n 0, 1) := by decide +kernel
theorem dX1_tiredOf_11 : decode cX1_tiredOf 11 = .ok (.getfield 9, 3) := by decide +kernel
theorem dX1_tiredOf_14 : decode cX1_tiredOf 14 = .ok (.iload_n 1, 1) := by decide +kernel
theorem dX1_tiredOf_15 : decode cX1_tiredOf 15 = .ok (.iaload, 1) := by decide +kernel
theorem dX1_tiredOf_16 : decode cX1_tiredOf 16 = .ok (.goto 4, 3) := by decide +kernel
theorem dX1_tiredOf_19 : decode cX1_tiredOf 19 = .ok (.iconst 0, 1) := by decide +kernel
theorem dX1_tiredOf_20 : decode cX1_tiredOf 20 = .ok (.ireturn, 1) := by decide +kernel
theorem dX1_tire_0 : decode cX1_tire 0 = .ok (.iload_n 1, 1) := by decide +kernel
theorem dX1_tire_1 : decode cX1_tire 1 = .ok (.ifCond .lt 16, 3) := by decide +kernel
theorem dX1_tire_4 : decode cX1_tire 4 = .ok (.iload_n 1, 1) := by decide +kernel
theorem dX1_tire_5 : decode cX1_tire 5 = .ok (.bipush 8, 2) := by decide +kernel
theorem dX1_tire_7 : decode cX1_tire 7 = .ok (.if_icmp .ge 10, 3) := by decide +kernel
theorem dX1_tire_10 : decode cX1_tire 10 = .ok (.aload_n 0, 1) := by decide +kernel
theorem dX1_tire_11 : decode cX1_tire 11 = .ok (.getfield 9, 3) := by decide +kernel
theorem dX1_tire_14 : decode cX1_tire 14 = .ok (.iload_n 1, 1) := by decide +kernel
theorem dX1_tire_15 : decode cX1_tire 15 = .ok (.iload_n 2, 1) := by decide +kernel
theorem dX1_tire_16 : decode cX1_tire 16 = .ok (.iastore, 1) := by decide +kernel
theorem dX1_tire_17 : decode cX1_tire 17 = .ok (.return_, 1) := by decide +kernel
theorem dX1_tiredTogether_0 : decode cX1_tiredTogether 0 = .ok (.iconst 0, 1) := by decide +kernel
theorem dX1_tiredTogether_1 : decode cX1_tiredTogether 1 = .ok (.istore_n 1, 1) := by decide +kernel
theorem dX1_tiredTogether_2 : decode cX1_tiredTogether 2 = .ok (.iconst 0, 1) := by decide +kernel
theorem dX1_tiredTogether_3 : decode cX1_tiredTogether 3 = .ok (.istore_n 2, 1) := by decide +kernel
theorem dX1_tiredTogether_4 : decode cX1_tiredTogether 4 = .ok (.iload_n 2, 1) := by decide +kernel
theorem dX1_tiredTogether_5 : decode cX1_tiredTogether 5 = .ok (.bipush 8, 2) := by decide +kernel
theorem dX1_tiredTogether_7 : decode cX1_tiredTogether 7 = .ok (.if_icmp .ge 18, 3) := by decide +kernel
theorem dX1_tiredTogether_10 : decode cX1_tiredTogether 10 = .ok (.iload_n 1, 1) := by decide +kernel
theorem dX1_tiredTogether_11 : decode cX1_tiredTogether 11 = .ok (.aload_n 0, 1) := by decide +kernel
theorem dX1_tiredTogether_12 : decode cX1_tiredTogether 12 = .ok (.getfield 9, 3) := by decide +kernel
theorem dX1_tiredTogether_15 : decode cX1_tiredTogether 15 = .ok (.iload_n 2, 1) := by decide +kernel
theorem dX1_tiredTogether_16 : decode cX1_tiredTogether 16 = .ok (.iaload, 1) := by decide +kernel
theorem dX1_tiredTogether_17 : decode cX1_tiredTogether 17 = .ok (.iadd, 1) := by decide +kernel
theorem dX1_tiredTogether_18 : decode cX1_tiredTogether 18 = .ok (.istore_n 1, 1) := by decide +kernel
theorem dX1_tiredTogether_19 : decode cX1_tiredTogether 19 = .ok (.iinc 2 1, 3) := by decide +kernel
theorem dX1_tiredTogether_22 : decode cX1_tiredTogether 22 = .ok (.goto (-18), 3) := by decide +kernel
theorem dX1_tiredTogether_25 : decode cX1_tiredTogether 25 = .ok (.iload_n 1, 1) := by decide +kernel
theorem dX1_tiredTogether_26 : decode cX1_tiredTogether 26 = .ok (.ireturn, 1) := by decide +kernel
theorem dX1_workAndRest_0 : decode cX1_workAndRest 0 = .ok (.iconst 0, 1) := by decide +kernel
theorem dX1_workAndRest_1 : decode cX1_workAndRest 1 = .ok (.istore_n 1, 1) := by decide +kernel
theorem dX1_workAndRest_2 : decode cX1_workAndRest 2 = .ok (.iload_n 1, 1) := by decide +kernel
theorem dX1_workAndRest_3 : decode cX1_workAndRest 3 = .ok (.bipush 8, 2) := by decide +kernel
theorem dX1_workAndRest_5 : decode cX1_workAndRest 5 = .ok (.if_icmp .ge 64, 3) := by decide +kernel
theorem dX1_workAndRest_8 : decode cX1_workAndRest 8 = .ok (.aload_n 0, 1) := by decide +kernel
theorem dX1_workAndRest_9 : decode cX1_workAndRest 9 = .ok (.getfield 15, 3) := by decide +kernel
theorem dX1_workAndRest_12 : decode cX1_workAndRest 12 = .ok (.iload_n 1, 1) := by decide +kernel
theorem dX1_workAndRest_13 : decode cX1_workAndRest 13 = .ok (.ishr, 1) := by decide +kernel
theorem dX1_workAndRest_14 : decode cX1_workAndRest 14 = .ok (.iconst 1, 1) := by decide +kernel
theorem dX1_workAndRest_15 : decode cX1_workAndRest 15 = .ok (.iand, 1) := by decide +kernel
theorem dX1_workAndRest_16 : decode cX1_workAndRest 16 = .ok (.ifCond .eq 7, 3) := by decide +kernel
theorem dX1_workAndRest_19 : decode cX1_workAndRest 19 = .ok (.iconst 1, 1) := by decide +kernel
theorem dX1_workAndRest_20 : decode cX1_workAndRest 20 = .ok (.goto 4, 3) := by decide +kernel
theorem dX1_workAndRest_23 : decode cX1_workAndRest 23 = .ok (.iconst 0, 1) := by decide +kernel
theorem dX1_workAndRest_24 : decode cX1_workAndRest 24 = .ok (.istore_n 2, 1) := by decide +kernel
theorem dX1_workAndRest_25 : decode cX1_workAndRest 25 = .ok (.aload_n 0, 1) := by decide +kernel
theorem dX1_workAndRest_26 : decode cX1_workAndRest 26 = .ok (.getfield 9, 3) := by decide +kernel
theorem dX1_workAndRest_29 : decode cX1_workAndRest 29 = .ok (.iload_n 1, 1) := by decide +kernel
theorem dX1_workAndRest_30 : decode cX1_workAndRest 30 = .ok (.iload_n 2, 1) := by decide +kernel
theorem dX1_workAndRest_31 : decode cX1_workAndRest 31 = .ok (.ifCond .eq 19, 3) := by decide +kernel
theorem dX1_workAndRest_34 : decode cX1_workAndRest 34 = .ok (.bipush 99, 2) := by decide +kernel
theorem dX1_workAndRest_36 : decode cX1_workAndRest 36 = .ok (.aload_n 0, 1) := by decide +kernel
theorem dX1_workAndRest_37 : decode cX1_workAndRest 37 = .ok (.getfield 9, 3) := by decide +kernel
theorem dX1_workAndRest_40 : decode cX1_workAndRest 40 = .ok (.iload_n 1, 1) := by decide +kernel
theorem dX1_workAndRest_41 : decode cX1_workAndRest 41 = .ok (.iaload, 1) := by decide +kernel
theorem dX1_workAndRest_42 : decode cX1_workAndRest 42 = .ok (.iconst 2, 1) := by decide +kernel
theorem dX1_workAndRest_43 : decode cX1_workAndRest 43 = .ok (.iadd, 1) := by decide +kernel
theorem dX1_workAndRest_44 : decode cX1_workAndRest 44 = .ok (.invokestatic 40, 3) := by decide +kernel
theorem dX1_workAndRest_47 : decode cX1_workAndRest 47 = .ok (.goto 15, 3) := by decide +kernel
theorem dX1_workAndRest_50 : decode cX1_workAndRest 50 = .ok (.iconst 0, 1) := by decide +kernel
theorem dX1_workAndRest_51 : decode cX1_workAndRest 51 = .ok (.aload_n 0, 1) := by decide +kernel
theorem dX1_workAndRest_52 : decode cX1_workAndRest 52 = .ok (.getfield 9, 3) := by decide +kernel
theorem dX1_workAndRest_55 : decode cX1_workAndRest 55 = .ok (.iload_n 1, 1) := by decide +kernel
theorem dX1_workAndRest_56 : decode cX1_workAndRest 56 = .ok (.iaload, 1) := by decide +kernel
theorem dX1_workAndRest_57 : decode cX1_workAndRest 57 = .ok (.iconst 1, 1) := by decide +kernel
theorem dX1_workAndRest_58 : decode cX1_workAndRest 58 = .ok (.isub, 1) := by decide +kernel
theorem dX1_workAndRest_59 : decode cX1_workAndRest 59 = .ok (.invokestatic 46, 3) := by decide +kernel
theorem dX1_workAndRest_62 : decode cX1_workAndRest 62 = .ok (.iastore, 1) := by decide +kernel
theorem dX1_workAndRest_63 : decode cX1_workAndRest 63 = .ok (.iinc 1 1, 3) := by decide +kernel
theorem dX1_workAndRest_66 : decode cX1_workAndRest 66 = .ok (.goto (-64), 3) := by decide +kernel
theorem dX1_workAndRest_69 : decode cX1_workAndRest 69 = .ok (.return_, 1) := by decide +kernel
theorem dX2_init_0 : decode cX2_init 0 = .ok (.aload_n 0, 1) := by decide +kernel
theorem dX2_init_1 : decode cX2_init 1 = .ok (.invokespecial 3, 3) := by decide +kernel
theorem dX2_init_4 : decode cX2_init 4 = .ok (.aload_n 0, 1) := by decide +kernel
theorem dX2_init_5 : decode cX2_init 5 = .ok (.bipush 40, 2) := by decide +kernel
theorem dX2_init_7 : decode cX2_init 7 = .ok (.newarray .int, 2) := by decide +kernel
theorem dX2_init_9 : decode cX2_init 9 = .ok (.putfield 9, 3) := by decide +kernel
theorem dX2_init_12 : decode cX2_init 12 = .ok (.aload_n 0, 1) := by decide +kernel
theorem dX2_init_13 : decode cX2_init 13 = .ok (.iconst 0, 1) := by decide +kernel
theorem dX2_init_14 : decode cX2_init 14 = .ok (.putfield 15, 3) := by decide +kernel
theorem dX2_init_17 : decode cX2_init 17 = .ok (.aload_n 0, 1) := by decide +kernel
theorem dX2_init_18 : decode cX2_init 18 = .ok (.bipush 7, 2) := by decide +kernel
theorem dX2_init_20 : decode cX2_init 20 = .ok (.newarray .int, 2) := by decide +kernel
theorem dX2_init_22 : decode cX2_init 22 = .ok (.putfield 19, 3) := by decide +kernel
theorem dX2_init_25 : decode cX2_init 25 = .ok (.aload_n 0, 1) := by decide +kernel
theorem dX2_init_26 : decode cX2_init 26 = .ok (.bipush 41, 2) := by decide +kernel
theorem dX2_init_28 : decode cX2_init 28 = .ok (.newarray .int, 2) := by decide +kernel
theorem dX2_init_30 : decode cX2_init 30 = .ok (.putfield 22, 3) := by decide +kernel
theorem dX2_init_33 : decode cX2_init 33 = .ok (.aload_n 0, 1) := by decide +kernel
theorem dX2_init_34 : decode cX2_init 34 = .ok (.bipush 40, 2) := by decide +kernel
theorem dX2_init_36 : decode cX2_init 36 = .ok (.newarray .int, 2) := by decide +kernel
theorem dX2_init_38 : decode cX2_init 38 = .ok (.putfield 25, 3) := by decide +kernel
theorem dX2_init_41 : decode cX2_init 41 = .ok (.aload_n 0, 1) := by decide +kernel
theorem dX2_init_42 : decode cX2_init 42 = .ok (.iconst 0, 1) := by decide +kernel
theorem dX2_init_43 : decode cX2_init 43 = .ok (.putfield 28, 3) := by decide +kernel
theorem dX2_init_46 : decode cX2_init 46 = .ok (.aload_n 0, 1) := by decide +kernel
theorem dX2_init_47 : decode cX2_init 47 = .ok (.iconst 0, 1) := by decide +kernel
theorem dX2_init_48 : decode cX2_init 48 = .ok (.putfield 31, 3) := by decide +kernel
theorem dX2_init_51 : decode cX2_init 51 = .ok (.aload_n 0, 1) := by decide +kernel
theorem dX2_init_52 : decode cX2_init 52 = .ok (.iconst 0, 1) := by decide +kernel
theorem dX2_init_53 : decode cX2_init 53 = .ok (.putfield 34, 3) := by decide +kernel
theorem dX2_init_56 : decode cX2_init 56 = .ok (.aload_n 0, 1) := by decide +kernel
theorem dX2_init_57 : decode cX2_init 57 = .ok (.iconst 0, 1) := by decide +kernel
theorem dX2_init_58 : decode cX2_init 58 = .ok (.putfield 37, 3) := by decide +kernel
theorem dX2_init_61 : decode cX2_init 61 = .ok (.aload_n 0, 1) := by decide +kernel
theorem dX2_init_62 : decode cX2_init 62 = .ok (.iconst 0, 1) := by decide +kernel
theorem dX2_init_63 : decode cX2_init 63 = .ok (.putfield 40, 3) := by decide +kernel
theorem dX2_init_66 : decode cX2_init 66 = .ok (.return_, 1) := by decide +kernel
theorem dX2_read_0 : decode cX2_read 0 = .ok (.aload_n 0, 1) := by decide +kernel
theorem dX2_read_1 : decode cX2_read 1 = .ok (.iconst 0, 1) := by decide +kernel
theorem dX2_read_2 : decode cX2_read 2 = .ok (.putfield 15, 3) := by decide +kernel
theorem dX2_read_5 : decode cX2_read 5 = .ok (.aload_n 0, 1) := by decide +kernel
theorem dX2_read_6 : decode cX2_read 6 = .ok (.iconst 0, 1) := by decide +kernel
theorem dX2_read_7 : decode cX2_read 7 = .ok (.putfield 28, 3) := by decide +kernel
theorem dX2_read_10 : decode cX2_read 10 = .ok (.aload_n 0, 1) := by decide +kernel
theorem dX2_read_11 : decode cX2_read 11 = .ok (.iconst 0, 1) := by decide +kernel
theorem dX2_read_12 : decode cX2_read 12 = .ok (.putfield 31, 3) := by decide +kernel
theorem dX2_read_15 : decode cX2_read 15 = .ok (.aload_n 0, 1) := by decide +kernel
theorem dX2_read_16 : decode cX2_read 16 = .ok (.iconst 0, 1) := by decide +kernel
theorem dX2_read_17 : decode cX2_read 17 = .ok (.putfield 34, 3) := by decide +kernel
theorem dX2_read_20 : decode cX2_read 20 = .ok (.aload_n 0, 1) := by decide +kernel
theorem dX2_read_21 : decode cX2_read 21 = .ok (.iconst 0, 1) := by decide +kernel
theorem dX2_read_22 : decode cX2_read 22 = .ok (.putfield 37, 3) := by decide +kernel
theorem dX2_read_25 : decode cX2_read 25 = .ok (.aload_n 0, 1) := by decide +kernel
theorem dX2_read_26 : decode cX2_read 26 = .ok (.iconst 0, 1) := by decide +kernel
theorem dX2_read_27 : decode cX2_read 27 = .ok (.putfield 40, 3) := by decide +kernel
theorem dX2_read_30 : decode cX2_read 30 = .ok (.aload_n 1, 1) := by decide +kernel
theorem dX2_read_31 : decode cX2_read 31 = .ok (.getfield 44, 3) := by decide +kernel
theorem dX2_read_34 : decode cX2_read 34 = .ok (.bipush 40, 2) := by decide +kernel
theorem dX2_read_36 : decode cX2_read 36 = .ok (.invokestatic 47, 3) := by decide +kernel
theorem dX2_read_39 : decode cX2_read 39 = .ok (.istore_n 2, 1) := by decide +kernel
theorem dX2_read_40 : decode cX2_read 40 = .ok (.iconst 0, 1) := by decide +kernel
theorem dX2_read_41 : decode cX2_read 41 = .ok (.istore_n 3, 1) := by decide +kernel
theorem dX2_read_42 : decode cX2_read 42 = .ok (.iload_n 3, 1) := by decide +kernel
theorem dX2_read_43 : decode cX2_read 43 = .ok (.iload_n 2, 1) := by decide +kernel
theorem dX2_read_44 : decode cX2_read 44 = .ok (.if_icmp .ge 47, 3) := by decide +kernel
theorem dX2_read_47 : decode cX2_read 47 = .ok (.aload_n 1, 1) := by decide +kernel
theorem dX2_read_48 : decode cX2_read 48 = .ok (.iload_n 3, 1) := by decide +kernel
theorem dX2_read_49 : decode cX2_read 49 = .ok (.invokevirtual 53, 3) := by decide +kernel
theorem dX2_read_52 : decode cX2_read 52 = .ok (.istore 4, 2) := by decide +kernel
theorem dX2_read_54 : decode cX2_read 54 = .ok (.aload_n 0, 1) := by decide +kernel
theorem dX2_read_55 : decode cX2_read 55 = .ok (.getfield 40, 3) := by decide +kernel
theorem dX2_read_58 : decode cX2_read 58 = .ok (.ifCond .eq 12, 3) := by decide +kernel
theorem dX2_read_61 : decode cX2_read 61 = .ok (.aload_n 0, 1) := by decide +kernel
theorem dX2_read_62 : decode cX2_read 62 = .ok (.iload 4, 2) := by decide +kernel
theorem dX2_read_64 : decode cX2_read 64 = .ok (.invokevirtual 57, 3) := by decide +kernel
theorem dX2_read_67 : decode cX2_read 67 = .ok (.goto 9, 3) := by decide +kernel
theorem dX2_read_70 : decode cX2_read 70 = .ok (.aload_n 0, 1) := by decide +kernel
theorem dX2_read_71 : decode cX2_read 71 = .ok (.iload 4, 2) := by decide +kernel
theorem dX2_read_73 : decode cX2_read 73 = .ok (.invokevirtual 61, 3) := by decide +kernel
theorem dX2_read_76 : decode cX2_read 76 = .ok (.istore 5, 2) := by decide +kernel
theorem dX2_read_78 : decode cX2_read 78 = .ok (.iload 5, 2) := by decide +kernel
theorem dX2_read_80 : decode cX2_read 80 = .ok (.ifCond .ne 5, 3) := by decide +kernel
theorem dX2_read_83 : decode cX2_read 83 = .ok (.iload_n 3, 1) := by decide +kernel
theorem dX2_read_84 : decode cX2_read 84 = .ok (.ireturn, 1) := by decide +kernel
theorem dX2_read_85 : decode cX2_read 85 = .ok (.iinc 3 1, 3) := by decide +kernel
theorem dX2_read_88 : decode cX2_read 88 = .ok (.goto (-46), 3) := by decide +kernel
theorem dX2_read_91 : decode cX2_read 91 = .ok (.aload_n 1, 1) := by decide +kernel
theorem dX2_read_92 : decode cX2_read 92 = .ok (.getfield 44, 3) := by decide +kernel
theorem dX2_read_95 : decode cX2_read 95 = .ok (.bipush 40, 2) := by decide +kernel
theorem dX2_read_97 : decode cX2_read 97 = .ok (.if_icmp .le 6, 3) := by decide +kernel
theorem dX2_read_100 : decode cX2_read 100 = .ok (.bipush 40, 2) := by decide +kernel
theorem dX2_read_102 : decode cX2_read 102 = .ok (.ireturn, 1) := by decide +kernel
theorem dX2_read_103 : decode cX2_read 103 = .ok (.iload_n 2, 1) := by decide +kernel
theorem dX2_read_104 : decode cX2_read 104 = .ok (.ifCond .le 19, 3) := by decide +kernel
theorem dX2_read_107 : decode cX2_read 107 = .ok (.aload_n 0, 1) := by decide +kernel
theorem dX2_read_108 : decode cX2_read 108 = .ok (.getfield 40, 3) := by decide +kernel
theorem dX2_read_111 : decode cX2_read 111 = .ok (.ifCond .eq 10, 3) := by decide +kernel
theorem dX2_read_114 : decode cX2_read 114 = .ok (.aload_n 0, 1) := by decide +kernel
theorem dX2_read_115 : decode cX2_read 115 = .ok (.getfield 31, 3) := by decide +kernel
theorem dX2_read_118 : decode cX2_read 118 = .ok (.ifCond .le 5, 3) := by decide +kernel
theorem dX2_read_121 : decode cX2_read 121 = .ok (.iload_n 2, 1) := by decide +kernel
theorem dX2_read_122 : decode cX2_read 122 = .ok (.ireturn, 1) := by decide +kernel
theorem dX2_read_123 : decode cX2_read 123 = .ok (.aload_n 0, 1) := by decide +kernel
theorem dX2_read_124 : decode cX2_read 124 = .ok (.iconst 1, 1) := by decide +kernel
theorem dX2_read_125 : decode cX2_read 125 = .ok (.invokevirtual 64, 3) := by decide +kernel
theorem dX2_read_128 : decode cX2_read 128 = .ok (.iconst (-1), 1) := by decide +kernel
theorem dX2_read_129 : decode cX2_read 129 = .ok (.ireturn, 1) := by decide +kernel
theorem dX2_begin_0 : decode cX2_begin 0 = .ok (.iload_n 1, 1) := by decide +kernel
theorem dX2_begin_1 : decode cX2_begin 1 = .ok (.bipush 45, 2) := by decide +kernel
theorem dX2_begin_3 : decode cX2_begin 3 = .ok (.if_icmp .ne 11, 3) := by decide +kernel
theorem dX2_begin_6 : decode cX2_begin 6 = .ok (.aload_n 0, 1) := by decide +kernel
theorem dX2_begin_7 : decode cX2_begin 7 = .ok (.bipush 126, 2) := by decide +kernel
theorem dX2_begin_9 : decode cX2_begin 9 = .ok (.invokevirtual 68, 3) := by decide +kernel
theorem dX2_begin_12 : decode cX2_begin 12 = .ok (.iconst 1, 1) := by decide +kernel
theorem dX2_begin_13 : decode cX2_begin 13 = .ok (.ireturn, 1) := by decide +kernel
theorem dX2_begin_14 : decode cX2_begin 14 = .ok (.iload_n 1, 1) := by decide +kernel
theorem dX2_begin_15 : decode cX2_begin 15 = .ok (.bipush 40, 2) := by decide +kernel
theorem dX2_begin_17 : decode cX2_begin 17 = .ok (.if_icmp .ne 8, 3) := by decide +kernel
theorem dX2_begin_20 : decode cX2_begin 20 = .ok (.aload_n 0, 1) := by decide +kernel
theorem dX2_begin_21 : decode cX2_begin 21 = .ok (.invokevirtual 71, 3) := by decide +kernel
theorem dX2_begin_24 : decode cX2_begin 24 = .ok (.ireturn, 1) := by decide +kernel
theorem dX2_begin_25 : decode cX2_begin 25 = .ok (.ldc 75, 2) := by decide +kernel
theorem dX2_begin_27 : decode cX2_begin 27 = .ok (.iload_n 1, 1) := by decide +kernel
theorem dX2_begin_28 : decode cX2_begin 28 = .ok (.i2c, 1) := by decide +kernel
theorem dX2_begin_29 : decode cX2_begin 29 = .ok (.invokevirtual 77, 3) := by decide +kernel
theorem dX2_begin_32 : decode cX2_begin 32 = .ok (.istore_n 2, 1) := by decide +kernel
theorem dX2_begin_33 : decode cX2_begin 33 = .ok (.iload_n 1, 1) := by decide +kernel
theorem dX2_begin_34 : decode cX2_begin 34 = .ok (.bipush 48, 2) := by decide +kernel
theorem dX2_begin_36 : decode cX2_begin 36 = .ok (.if_icmp .lt 13, 3) := by decide +kernel
theorem dX2_begin_39 : decode cX2_begin 39 = .ok (.iload_n 1, 1) := by decide +kernel
theorem dX2_begin_40 : decode cX2_begin 40 = .ok (.bipush 57, 2) := by decide +kernel
theorem dX2_begin_42 : decode cX2_begin 42 = .ok (.if_icmp .gt 7, 3) := by decide +kernel
theorem dX2_begin_45 : decode cX2_begin 45 = .ok (.iconst 1, 1) := by decide +kernel
theorem dX2_begin_46 : decode cX2_begin 46 = .ok (.goto 4, 3) := by decide +kernel
theorem dX2_begin_49 : decode cX2_begin 49 = .ok (.iconst 0, 1) := by decide +kernel
theorem dX2_begin_50 : decode cX2_begin 50 = .ok (.istore_n 3, 1) := by decide +kernel
theorem dX2_begin_51 : decode cX2_begin 51 = .ok (.iload_n 3, 1) := by decide +kernel
theorem dX2_begin_52 : decode cX2_begin 52 = .ok (.ifCond .ne 9, 3) := by decide +kernel
theorem dX2_begin_55 : decode cX2_begin 55 = .ok (.iload_n 2, 1) := by decide +kernel
theorem dX2_begin_56 : decode cX2_begin 56 = .ok (.ifCond .ge 5, 3) := by decide +kernel
theorem dX2_begin_59 : decode cX2_begin 59 = .ok (.iconst 0, 1) := by decide +kernel
theorem dX2_begin_60 : decode cX2_begin 60 = .ok (.ireturn, 1) := by decide +kernel
theorem dX2_begin_61 : decode cX2_begin 61 = .ok (.aload_n 0, 1) := by decide +kernel
theorem dX2_begin_62 : decode cX2_begin 62 = .ok (.iload_n 3, 1) := by decide +kernel
theorem dX2_begin_63 : decode cX2_begin 63 = .ok (.ifCond .eq 10, 3) := by decide +kernel
theorem dX2_begin_66 : decode cX2_begin 66 = .ok (.iload_n 1, 1) := by decide +kernel
theorem dX2_begin_67 : decode cX2_begin 67 = .ok (.bipush 48, 2) := by decide +kernel
theorem dX2_begin_69 : decode cX2_begin 69 = .ok (.isub, 1) := by decide +kernel
theorem dX2_begin_70 : decode cX2_begin 70 = .ok (.goto 8, 3) := by decide +kernel
theorem dX2_begin_73 : decode cX2_begin 73 = .ok (.sipush 1000, 3) := by decide +kernel
theorem dX2_begin_76 : decode cX2_begin 76 = .ok (.iload_n 2, 1) := by decide +kernel
theorem dX2_begin_77 : decode cX2_begin 77 = .ok (.iadd, 1) := by decide +kernel
theorem dX2_begin_78 : decode cX2_begin 78 = .ok (.invokevirtual 82, 3) := by decide +kernel
theorem dX2_begin_81 : decode cX2_begin 81 = .ok (.aload_n 0, 1) := by decide +kernel
theorem dX2_begin_82 : decode cX2_begin 82 = .ok (.iload_n 3, 1) := by decide +kernel
theorem dX2_begin_83 : decode cX2_begin 83 = .ok (.ifCond .eq 7, 3) := by decide +kernel
theorem dX2_begin_86 : decode cX2_begin 86 = .ok (.iconst 1, 1) := by decide +kernel
theorem dX2_begin_87 : decode cX2_begin 87 = .ok (.goto 4, 3) := by decide +kernel
theorem dX2_begin_90 : decode cX2_begin 90 = .ok (.iconst 0, 1) := by decide +kernel
theorem dX2_begin_91 : decode cX2_begin 91 = .ok (.putfield 37, 3) := by decide +kernel
theorem dX2_begin_94 : decode cX2_begin 94 = .ok (.aload_n 0, 1) := by decide +kernel
theorem dX2_begin_95 : decode cX2_begin 95 = .ok (.iconst 1, 1) := by decide +kernel
theorem dX2_begin_96 : decode cX2_begin 96 = .ok (.putfield 40, 3) := by decide +kernel
theorem dX2_begin_99 : decode cX2_begin 99 = .ok (.iconst 1, 1) := by decide +kernel
theorem dX2_begin_100 : decode cX2_begin 100 = .ok (.ireturn, 1) := by decide +kernel
theorem dX2_open_0 : decode cX2_open 0 = .ok (.aload_n 0, 1) := by decide +kernel
theorem dX2_open_1 : decode cX2_open 1 = .ok (.getfield 31, 3) := by decide +kernel
theorem dX2_open_4 : decode cX2_open 4 = .ok (.iconst 4, 1) := by decide +kernel
theorem dX2_open_5 : decode cX2_open 5 = .ok (.if_icmp .lt 5, 3) := by decide +kernel
theorem dX2_open_8 : decode cX2_open 8 = .ok (.iconst 0, 1) := by decide +kernel
theorem dX2_open_9 : decode cX2_open 9 = .ok (.ireturn, 1) := by decide +kernel
theorem dX2_open_10 : decode cX2_open 10 = .ok (.aload_n 0, 1) := by decide +kernel
theorem dX2_open_11 : decode cX2_open 11 = .ok (.dup, 1) := by decide +kernel
theorem dX2_open_12 : decode cX2_open 12 = .ok (.getfield 31, 3) := by decide +kernel
theorem dX2_open_15 : decode cX2_open 15 = .ok (.iconst 1, 1) := by decide +kernel
theorem dX2_open_16 : decode cX2_open 16 = .ok (.iadd, 1) := by decide +kernel
theorem dX2_open_17 : decode cX2_open 17 = .ok (.putfield 31, 3) := by decide +kernel
theorem dX2_open_20 : decode cX2_open 20 = .ok (.aload_n 0, 1) := by decide +kernel
theorem dX2_open_21 : decode cX2_open 21 = .ok (.bipush 40, 2) := by decide +kernel
theorem dX2_open_23 : decode cX2_open 23 = .ok (.invokevirtual 68, 3) := by decide +kernel
theorem dX2_open_26 : decode cX2_open 26 = .ok (.iconst 1, 1) := by decide +kernel
theorem dX2_open_27 : decode cX2_open 27 = .ok (.ireturn, 1) := by decide +kernel
theorem dX2_goOn_0 : decode cX2_goOn 0 = .ok (.iload_n 1, 1) := by decide +kernel
theorem dX2_goOn_1 : decode cX2_goOn 1 = .ok (.bipush 48, 2) := by decide +kernel
theorem dX2_goOn_3 : decode cX2_goOn 3 = .ok (.if_icmp .lt 18, 3) := by decide +kernel
theorem dX2_goOn_6 : decode cX2_goOn 6 = .ok (.iload_n 1, 1) := by decide +kernel
theorem dX2_goOn_7 : decode cX2_goOn 7 = .ok (.bipush 57, 2) := by decide +kernel
theorem dX2_goOn_9 : decode cX2_goOn 9 = .ok (.if_icmp .gt 12, 3) := by decide +kernel
theorem dX2_goOn_12 : decode cX2_goOn 12 = .ok (.aload_n 0, 1) := by decide +kernel
theorem dX2_goOn_13 : decode cX2_goOn 13 = .ok (.iload_n 1, 1) := by decide +kernel
theorem dX2_goOn_14 : decode cX2_goOn 14 = .ok (.bipush 48, 2) := by decide +kernel
theorem dX2_goOn_16 : decode cX2_goOn 16 = .ok (.isub, 1) := by decide +kernel
theorem dX2_goOn_17 : decode cX2_goOn 17 = .ok (.invokevirtual 85, 3) := by decide +kernel
theorem dX2_goOn_20 : decode cX2_goOn 20 = .ok (.ireturn, 1) := by decide +kernel
theorem dX2_goOn_21 : decode cX2_goOn 21 = .ok (.aload_n 0, 1) := by decide +kernel
theorem dX2_goOn_22 : decode cX2_goOn 22 = .ok (.iconst 0, 1) := by decide +kernel
theorem dX2_goOn_23 : decode cX2_goOn 23 = .ok (.putfield 37, 3) := by decide +kernel
theorem dX2_goOn_26 : decode cX2_goOn 26 = .ok (.iload_n 1, 1) := by decide +kernel
theorem dX2_goOn_27 : decode cX2_goOn 27 = .ok (.tableswitch 119 41 62 #[101, 112, 112, 119, 112, 119, 112, 119, 119, 119, 119, 119, 119, 119, 119, 119, 119, 119, 119, 106, 106, 106], 101) := by decide +kernel
theorem dX2_goOn_128 : decode cX2_goOn 128 = .ok (.aload_n 0, 1) := by decide +kernel
theorem dX2_goOn_129 : decode cX2_goOn 129 = .ok (.invokevirtual 88, 3) := by decide +kernel
theorem dX2_goOn_132 : decode cX2_goOn 132 = .ok (.ireturn, 1) := by decide +kernel
theorem dX2_goOn_133 : decode cX2_goOn 133 = .ok (.aload_n 0, 1) := by decide +kernel
theorem dX2_goOn_134 : decode cX2_goOn 134 = .ok (.iload_n 1, 1) := by decide +kernel
theorem dX2_goOn_135 : decode cX2_goOn 135 = .ok (.invokevirtual 91, 3) := by decide +kernel
theorem dX2_goOn_138 : decode cX2_goOn 138 = .ok (.ireturn, 1) := by decide +kernel
theorem dX2_goOn_139 : decode cX2_goOn 139 = .ok (.aload_n 0, 1) := by decide +kernel
theorem dX2_goOn_140 : decode cX2_goOn 140 = .ok (.iload_n 1, 1) := by decide +kernel
theorem dX2_goOn_141 : decode cX2_goOn 141 = .ok (.invokevirtual 94, 3) := by decide +kernel
theorem dX2_goOn_144 : decode cX2_goOn 144 = .ok (.iconst 1, 1) := by decide +kernel
theorem dX2_goOn_145 : decode cX2_goOn 145 = .ok (.ireturn, 1) := by decide +kernel
theorem dX2_goOn_146 : decode cX2_goOn 146 = .ok (.iconst 0, 1) := by decide +kernel
theorem dX2_goOn_147 : decode cX2_goOn 147 = .ok (.ireturn, 1) := by decide +kernel
theorem dX2_lengthen_0 : decode cX2_lengthen 0 = .ok (.aload_n 0, 1) := by decide +kernel
theorem dX2_lengthen_1 : decode cX2_lengthen 1 = .ok (.getfield 37, 3) := by decide +kernel
theorem dX2_lengthen_4 : decode cX2_lengthen 4 = .ok (.iconst 1, 1) := by decide +kernel
theorem dX2_lengthen_5 : decode cX2_lengthen 5 = .ok (.if_icmp .lt 31, 3) := by decide +kernel
theorem dX2_lengthen_8 : decode cX2_lengthen 8 = .ok (.aload_n 0, 1) := by decide +kernel
theorem dX2_lengthen_9 : decode cX2_lengthen 9 = .ok (.getfield 37, 3) := by decide +kernel
theorem dX2_lengthen_12 : decode cX2_lengthen 12 = .ok (.iconst 2, 1) := by decide +kernel
theorem dX2_lengthen_13 : decode cX2_lengthen 13 = .ok (.if_icmp .gt 23, 3) := by decide +kernel
theorem dX2_lengthen_16 : decode cX2_lengthen 16 = .ok (.aload_n 0, 1) := by decide +kernel
theorem dX2_lengthen_17 : decode cX2_lengthen 17 = .ok (.getfield 15, 3) := by decide +kernel
theorem dX2_lengthen_20 : decode cX2_lengthen 20 = .ok (.iconst 1, 1) := by decide +kernel
theorem dX2_lengthen_21 : decode cX2_lengthen 21 = .ok (.if_icmp .lt 15, 3) := by decide +kernel
theorem dX2_lengthen_24 : decode cX2_lengthen 24 = .ok (.aload_n 0, 1) := by decide +kernel
theorem dX2_lengthen_25 : decode cX2_lengthen 25 = .ok (.getfield 15, 3) := by decide +kernel
theorem dX2_lengthen_28 : decode cX2_lengthen 28 = .ok (.aload_n 0, 1) := by decide +kernel
theorem dX2_lengthen_29 : decode cX2_lengthen 29 = .ok (.getfield 9, 3) := by decide +kernel
theorem dX2_lengthen_32 : decode cX2_lengthen 32 = .ok (.arraylength, 1) := by decide +kernel
theorem dX2_lengthen_33 : decode cX2_lengthen 33 = .ok (.if_icmp .le 5, 3) := by decide +kernel
theorem dX2_lengthen_36 : decode cX2_lengthen 36 = .ok (.iconst 0, 1) := by decide +kernel
theorem dX2_lengthen_37 : decode cX2_lengthen 37 = .ok (.ireturn, 1) := by decide +kernel
theorem dX2_lengthen_38 : decode cX2_lengthen 38 = .ok (.aload_n 0, 1) := by decide +kernel
theorem dX2_lengthen_39 : decode cX2_lengthen 39 = .ok (.getfield 9, 3) := by decide +kernel
theorem dX2_lengthen_42 : decode cX2_lengthen 42 = .ok (.aload_n 0, 1) := by decide +kernel
theorem dX2_lengthen_43 : decode cX2_lengthen 43 = .ok (.getfield 15, 3) := by decide +kernel
theorem dX2_lengthen_46 : decode cX2_lengthen 46 = .ok (.iconst 1, 1) := by decide +kernel
theorem dX2_lengthen_47 : decode cX2_lengthen 47 = .ok (.isub, 1) := by decide +kernel
theorem dX2_lengthen_48 : decode cX2_lengthen 48 = .ok (.aload_n 0, 1) := by decide +kernel
theorem dX2_lengthen_49 : decode cX2_lengthen 49 = .ok (.getfield 9, 3) := by decide +kernel
theorem dX2_lengthen_52 : decode cX2_lengthen 52 = .ok (.aload_n 0, 1) := by decide +kernel
theorem dX2_lengthen_53 : decode cX2_lengthen 53 = .ok (.getfield 15, 3) := by decide +kernel
theorem dX2_lengthen_56 : decode cX2_lengthen 56 = .ok (.iconst 1, 1) := by decide +kernel
theorem dX2_lengthen_57 : decode cX2_lengthen 57 = .ok (.isub, 1) := by decide +kernel
theorem dX2_lengthen_58 : decode cX2_lengthen 58 = .ok (.iaload, 1) := by decide +kernel
theorem dX2_lengthen_59 : decode cX2_lengthen 59 = .ok (.bipush 10, 2) := by decide +kernel
theorem dX2_lengthen_61 : decode cX2_lengthen 61 = .ok (.imul, 1) := by decide +kernel
theorem dX2_lengthen_62 : decode cX2_lengthen 62 = .ok (.iload_n 1, 1) := by decide +kernel
theorem dX2_lengthen_63 : decode cX2_lengthen 63 = .ok (.iadd, 1) := by decide +kernel
theorem dX2_lengthen_64 : decode cX2_lengthen 64 = .ok (.iastore, 1) := by decide +kernel
theorem dX2_lengthen_65 : decode cX2_lengthen 65 = .ok (.aload_n 0, 1) := by decide +kernel
theorem dX2_lengthen_66 : decode cX2_lengthen 66 = .ok (.dup, 1) := by decide +kernel
theorem dX2_lengthen_67 : decode cX2_lengthen 67 = .ok (.getfield 37, 3) := by decide +kernel
theorem dX2_lengthen_70 : decode cX2_lengthen 70 = .ok (.iconst 1, 1) := by decide +kernel
theorem dX2_lengthen_71 : decode cX2_lengthen 71 = .ok (.iadd, 1) := by decide +kernel
theorem dX2_lengthen_72 : decode cX2_lengthen 72 = .ok (.putfield 37, 3) := by decide +kernel
theorem dX2_lengthen_75 : decode cX2_lengthen 75 = .ok (.iconst 1, 1) := by decide +kernel
theorem dX2_lengthen_76 : decode cX2_lengthen 76 = .ok (.ireturn, 1) := by decide +kernel
theorem dX2_close_0 : decode cX2_close 0 = .ok (.aload_n 0, 1) := by decide +kernel
theorem dX2_close_1 : decode cX2_close 1 = .ok (.getfield 31, 3) := by decide +kernel
theorem dX2_close_4 : decode cX2_close 4 = .ok (.ifCond .le 10, 3) := by decide +kernel
theorem dX2_close_7 : decode cX2_close 7 = .ok (.aload_n 0, 1) := by decide +kernel
theorem dX2_close_8 : decode cX2_close 8 = .ok (.getfield 28, 3) := by decide +kernel
theorem dX2_close_11 : decode cX2_close 11 = .ok (.ifCond .gt 5, 3) := by decide +kernel
theorem dX2_close_14 : decode cX2_close 14 = .ok (.iconst 0, 1) := by decide +kernel
theorem dX2_close_15 : decode cX2_close 15 = .ok (.ireturn, 1) := by decide +kernel
theorem dX2_close_16 : decode cX2_close 16 = .ok (.aload_n 0, 1) := by decide +kernel
theorem dX2_close_17 : decode cX2_close 17 = .ok (.iconst 1, 1) := by decide +kernel
theorem dX2_close_18 : decode cX2_close 18 = .ok (.invokevirtual 64, 3) := by decide +kernel
theorem dX2_close_21 : decode cX2_close 21 = .ok (.aload_n 0, 1) := by decide +kernel
theorem dX2_close_22 : decode cX2_close 22 = .ok (.dup, 1) := by decide +kernel
theorem dX2_close_23 : decode cX2_close 23 = .ok (.getfield 28, 3) := by decide +kernel
theorem dX2_close_26 : decode cX2_close 26 = .ok (.iconst 1, 1) := by decide +kernel
theorem dX2_close_27 : decode cX2_close 27 = .ok (.isub, 1) := by decide +kernel
theorem dX2_close_28 : decode cX2_close 28 = .ok (.putfield 28, 3) := by decide +kernel
theorem dX2_close_31 : decode cX2_close 31 = .ok (.aload_n 0, 1) := by decide +kernel
theorem dX2_close_32 : decode cX2_close 32 = .ok (.dup, 1) := by decide +kernel
theorem dX2_close_33 : decode cX2_close 33 = .ok (.getfield 34, 3) := by decide +kernel
theorem dX2_close_36 : decode cX2_close 36 = .ok (.iconst 1, 1) := by decide +kernel
theorem dX2_close_37 : decode cX2_close 37 = .ok (.aload_n 0, 1) := by decide +kernel
theorem dX2_close_38 : decode cX2_close 38 = .ok (.getfield 31, 3) := by decide +kernel
theorem dX2_close_41 : decode cX2_close 41 = .ok (.ishl, 1) := by decide +kernel
theorem dX2_close_42 : decode cX2_close 42 = .ok (.iconst (-1), 1) := by decide +kernel
theorem dX2_close_43 : decode cX2_close 43 = .ok (.ixor, 1) := by decide +kernel
theorem dX2_close_44 : decode cX2_close 44 = .ok (.iand, 1) := by decide +kernel
theorem dX2_close_45 : decode cX2_close 45 = .ok (.putfield 34, 3) := by decide +kernel
theorem dX2_close_48 : decode cX2_close 48 = .ok (.aload_n 0, 1) := by decide +kernel
theorem dX2_close_49 : decode cX2_close 49 = .ok (.dup, 1) := by decide +kernel
theorem dX2_close_50 : decode cX2_close 50 = .ok (.getfield 31, 3) := by decide +kernel
theorem dX2_close_53 : decode cX2_close 53 = .ok (.iconst 1, 1) := by decide +kernel
theorem dX2_close_54 : decode cX2_close 54 = .ok (.isub, 1) := by decide +kernel
theorem dX2_close_55 : decode cX2_close 55 = .ok (.putfield 31, 3) := by decide +kernel
theorem dX2_close_58 : decode cX2_close 58 = .ok (.iconst 1, 1) := by decide +kernel
theorem dX2_close_59 : decode cX2_close 59 = .ok (.ireturn, 1) := by decide +kernel
theorem dX2_compare_0 : decode cX2_compare 0 = .ok (.aload_n 0, 1) := by decide +kernel
theorem dX2_compare_1 : decode cX2_compare 1 = .ok (.getfield 34, 3) := by decide +kernel
theorem dX2_compare_4 : decode cX2_compare 4 = .ok (.aload_n 0, 1) := by decide +kernel
theorem dX2_compare_5 : decode cX2_compare 5 = .ok (.getfield 31, 3) := by decide +kernel
theorem dX2_compare_8 : decode cX2_compare 8 = .ok (.ishr, 1) := by decide +kernel
theorem dX2_compare_9 : decode cX2_compare 9 = .ok (.iconst 1, 1) := by decide +kernel
theorem dX2_compare_10 : decode cX2_compare 10 = .ok (.iand, 1) := by decide +kernel
theorem dX2_compare_11 : decode cX2_compare 11 = .ok (.ifCond .eq 5, 3) := by decide +kernel
theorem dX2_compare_14 : decode cX2_compare 14 = .ok (.iconst 0, 1) := by decide +kernel
theorem dX2_compare_15 : decode cX2_compare 15 = .ok (.ireturn, 1) := by decide +kernel
theorem dX2_compare_16 : decode cX2_compare 16 = .ok (.aload_n 0, 1) := by decide +kernel
theorem dX2_compare_17 : decode cX2_compare 17 = .ok (.dup, 1) := by decide +kernel
theorem dX2_compare_18 : decode cX2_compare 18 = .ok (.getfield 34, 3) := by decide +kernel
theorem dX2_compare_21 : decode cX2_compare 21 = .ok (.iconst 1, 1) := by decide +kernel
theorem dX2_compare_22 : decode cX2_compare 22 = .ok (.aload_n 0, 1) := by decide +kernel
theorem dX2_compare_23 : decode cX2_compare 23 = .ok (.getfield 31, 3) := by decide +kernel
theorem dX2_compare_26 : decode cX2_compare 26 = .ok (.ishl, 1) := by decide +kernel
theorem dX2_compare_27 : decode cX2_compare 27 = .ok (.ior, 1) := by decide +kernel
theorem dX2_compare_28 : decode cX2_compare 28 = .ok (.putfield 34, 3) := by decide +kernel
theorem dX2_compare_31 : decode cX2_compare 31 = .ok (.aload_n 0, 1) := by decide +kernel
theorem dX2_compare_32 : decode cX2_compare 32 = .ok (.iload_n 1, 1) := by decide +kernel
theorem dX2_compare_33 : decode cX2_compare 33 = .ok (.invokevirtual 94, 3) := by decide +kernel
theorem dX2_compare_36 : decode cX2_compare 36 = .ok (.iconst 1, 1) := by decide +kernel
theorem dX2_compare_37 : decode cX2_compare 37 = .ok (.ireturn, 1) := by decide +kernel
theorem dX2_operate_0 : decode cX2_operate 0 = .ok (.aload_n 0, 1) := by decide +kernel
theorem dX2_operate_1 : decode cX2_operate 1 = .ok (.iload_n 1, 1) := by decide +kernel
theorem dX2_operate_2 : decode cX2_operate 2 = .ok (.invokestatic 97, 3) := by decide +kernel
theorem dX2_operate_5 : decode cX2_operate 5 = .ok (.invokevirtual 64, 3) := by decide +kernel
theorem dX2_operate_8 : decode cX2_operate 8 = .ok (.aload_n 0, 1) := by decide +kernel
theorem dX2_operate_9 : decode cX2_operate 9 = .ok (.iload_n 1, 1) := by decide +kernel
theorem dX2_operate_10 : decode cX2_operate 10 = .ok (.invokevirtual 68, 3) := by decide +kernel
theorem dX2_operate_13 : decode cX2_operate 13 = .ok (.aload_n 0, 1) := by decide +kernel
theorem dX2_operate_14 : decode cX2_operate 14 = .ok (.iconst 0, 1) := by decide +kernel
theorem dX2_operate_15 : decode cX2_operate 15 = .ok (.putfield 40, 3) := by decide +kernel
theorem dX2_operate_18 : decode cX2_operate 18 = .ok (.return_, 1) := by decide +kernel
theorem dX2_rank_0 : decode cX2_rank 0 = .ok (.iload_n 0, 1) := by decide +kernel
theorem dX2_rank_1 : decode cX2_rank 1 = .ok (.lookupswitch 83 #[(42, 79), (43, 77), (45, 77), (47, 79), (60, 75), (61, 75), (62, 75), (126, 81)], 75) := by decide +kernel
theorem dX2_rank_76 : decode cX2_rank 76 = .ok (.iconst 1, 1) := by decide +kernel
theorem dX2_rank_77 : decode cX2_rank 77 = .ok (.ireturn, 1) := by decide +kernel
theorem dX2_rank_78 : decode cX2_rank 78 = .ok (.iconst 2, 1) := by decide +kernel
theorem dX2_rank_79 : decode cX2_rank 79 = .ok (.ireturn, 1) := by decide +kernel
theorem dX2_rank_80 : decode cX2_rank 80 = .ok (.iconst 3, 1) := by decide +kernel
theorem dX2_rank_81 : decode cX2_rank 81 = .ok (.ireturn, 1) := by decide +kernel
theorem dX2_rank_82 : decode cX2_rank 82 = .ok (.iconst 4, 1) := by decide +kernel
theorem dX2_rank_83 : decode cX2_rank 83 = .ok (.ireturn, 1) := by decide +kernel
theorem dX2_rank_84 : decode cX2_rank 84 = .ok (.iconst 0, 1) := by decide +kernel
theorem dX2_rank_85 : decode cX2_rank 85 = .ok (.ireturn, 1) := by decide +kernel
theorem dX2_release_0 : decode cX2_release 0 = .ok (.aload_n 0, 1) := by decide +kernel
theorem dX2_release_1 : decode cX2_release 1 = .ok (.getfield 28, 3) := by decide +kernel
theorem dX2_release_4 : decode cX2_release 4 = .ok (.ifCond .le 63, 3) := by decide +kernel
theorem dX2_release_7 : decode cX2_release 7 = .ok (.aload_n 0, 1) := by decide +kernel
theorem dX2_release_8 : decode cX2_release 8 = .ok (.getfield 28, 3) := by decide +kernel
theorem dX2_release_11 : decode cX2_release 11 = .ok (.aload_n 0, 1) := by decide +kernel
theorem dX2_release_12 : decode cX2_release 12 = .ok (.getfield 25, 3) := by decide +kernel
theorem dX2_release_15 : decode cX2_release 15 = .ok (.arraylength, 1) := by decide +kernel
theorem dX2_release_16 : decode cX2_release 16 = .ok (.if_icmp .gt 51, 3) := by decide +kernel
theorem dX2_release_19 : decode cX2_release 19 = .ok (.aload_n 0, 1) := by decide +kernel
theorem dX2_release_20 : decode cX2_release 20 = .ok (.getfield 25, 3) := by decide +kernel
theorem dX2_release_23 : decode cX2_release 23 = .ok (.aload_n 0, 1) := by decide +kernel
theorem dX2_release_24 : decode cX2_release 24 = .ok (.getfield 28, 3) := by decide +kernel
theorem dX2_release_27 : decode cX2_release 27 = .ok (.iconst 1, 1) := by decide +kernel
theorem dX2_release_28 : decode cX2_release 28 = .ok (.isub, 1) := by decide +kernel
theorem dX2_release_29 : decode cX2_release 29 = .ok (.iaload, 1) := by decide +kernel
theorem dX2_release_30 : decode cX2_release 30 = .ok (.invokestatic 97, 3) := by decide +kernel
theorem dX2_release_33 : decode cX2_release 33 = .ok (.iload_n 1, 1) := by decide +kernel
theorem dX2_release_34 : decode cX2_release 34 = .ok (.if_icmp .lt 33, 3) := by decide +kernel
theorem dX2_release_37 : decode cX2_release 37 = .ok (.aload_n 0, 1) := by decide +kernel
theorem dX2_release_38 : decode cX2_release 38 = .ok (.dup, 1) := by decide +kernel
theorem dX2_release_39 : decode cX2_release 39 = .ok (.getfield 28, 3) := by decide +kernel
theorem dX2_release_42 : decode cX2_release 42 = .ok (.iconst 1, 1) := by decide +kernel
theorem dX2_release_43 : decode cX2_release 43 = .ok (.isub, 1) := by decide +kernel
theorem dX2_release_44 : decode cX2_release 44 = .ok (.putfield 28, 3) := by decide +kernel
theorem dX2_release_47 : decode cX2_release 47 = .ok (.aload_n 0, 1) := by decide +kernel
theorem dX2_release_48 : decode cX2_release 48 = .ok (.sipush 1010, 3) := by decide +kernel
theorem dX2_release_51 : decode cX2_release 51 = .ok (.aload_n 0, 1) := by decide +kernel
theorem dX2_release_52 : decode cX2_release 52 = .ok (.getfield 25, 3) := by decide +kernel
theorem dX2_release_55 : decode cX2_release 55 = .ok (.aload_n 0, 1) := by decide +kernel
theorem dX2_release_56 : decode cX2_release 56 = .ok (.getfield 28, 3) := by decide +kernel
theorem dX2_release_59 : decode cX2_release 59 = .ok (.iaload, 1) := by decide +kernel
theorem dX2_release_60 : decode cX2_release 60 = .ok (.iadd, 1) := by decide +kernel
theorem dX2_release_61 : decode cX2_release 61 = .ok (.invokevirtual 82, 3) := by decide +kernel
theorem dX2_release_64 : decode cX2_release 64 = .ok (.goto (-64), 3) := by decide +kernel
theorem dX2_release_67 : decode cX2_release 67 = .ok (.return_, 1) := by decide +kernel
theorem dX2_hold_0 : decode cX2_hold 0 = .ok (.aload_n 0, 1) := by decide +kernel
theorem dX2_hold_1 : decode cX2_hold 1 = .ok (.getfield 28, 3) := by decide +kernel
theorem dX2_hold_4 : decode cX2_hold 4 = .ok (.ifCond .lt 35, 3) := by decide +kernel
theorem dX2_hold_7 : decode cX2_hold 7 = .ok (.aload_n 0, 1) := by decide +kernel
theorem dX2_hold_8 : decode cX2_hold 8 = .ok (.getfield 28, 3) := by decide +kernel
theorem dX2_hold_11 : decode cX2_hold 11 = .ok (.aload_n 0, 1) := by decide +kernel
theorem dX2_hold_12 : decode cX2_hold 12 = .ok (.getfield 25, 3) := by decide +kernel
theorem dX2_hold_15 : decode cX2_hold 15 = .ok (.arraylength, 1) := by decide +kernel
theorem dX2_hold_16 : decode cX2_hold 16 = .ok (.if_icmp .ge 23, 3) := by decide +kernel
theorem dX2_hold_19 : decode cX2_hold 19 = .ok (.aload_n 0, 1) := by decide +kernel
theorem dX2_hold_20 : decode cX2_hold 20 = .ok (.getfield 25, 3) := by decide +kernel
theorem dX2_hold_23 : decode cX2_hold 23 = .ok (.aload_n 0, 1) := by decide +kernel
theorem dX2_hold_24 : decode cX2_hold 24 = .ok (.getfield 28, 3) := by decide +kernel
theorem dX2_hold_27 : decode cX2_hold 27 = .ok (.iload_n 1, 1) := by decide +kernel
theorem dX2_hold_28 : decode cX2_hold 28 = .ok (.iastore, 1) := by decide +kernel
theorem dX2_hold_29 : decode cX2_hold 29 = .ok (.aload_n 0, 1) := by decide +kernel
theorem dX2_hold_30 : decode cX2_hold 30 = .ok (.dup, 1) := by decide +kernel
theorem dX2_hold_31 : decode cX2_hold 31 = .ok (.getfield 28, 3) := by decide +kernel
theorem dX2_hold_34 : decode cX2_hold 34 = .ok (.iconst 1, 1) := by decide +kernel
theorem dX2_hold_35 : decode cX2_hold 35 = .ok (.iadd, 1) := by decide +kernel
theorem dX2_hold_36 : decode cX2_hold 36 = .ok (.putfield 28, 3) := by decide +kernel
theorem dX2_hold_39 : decode cX2_hold 39 = .ok (.return_, 1) := by decide +kernel
theorem dX2_put_0 : decode cX2_put 0 = .ok (.aload_n 0, 1) := by decide +kernel
theorem dX2_put_1 : decode cX2_put 1 = .ok (.getfield 15, 3) := by decide +kernel
theorem dX2_put_4 : decode cX2_put 4 = .ok (.ifCond .lt 35, 3) := by decide +kernel
theorem dX2_put_7 : decode cX2_put 7 = .ok (.aload_n 0, 1) := by decide +kernel
theorem dX2_put_8 : decode cX2_put 8 = .ok (.getfield 15, 3) := by decide +kernel
theorem dX2_put_11 : decode cX2_put 11 = .ok (.aload_n 0, 1) := by decide +kernel
theorem dX2_put_12 : decode cX2_put 12 = .ok (.getfield 9, 3) := by decide +kernel
theorem dX2_put_15 : decode cX2_put 15 = .ok (.arraylength, 1) := by decide +kernel
theorem dX2_put_16 : decode cX2_put 16 = .ok (.if_icmp .ge 23, 3) := by decide +kernel
theorem dX2_put_19 : decode cX2_put 19 = .ok (.aload_n 0, 1) := by decide +kernel
theorem dX2_put_20 : decode cX2_put 20 = .ok (.getfield 9, 3) := by decide +kernel
theorem dX2_put_23 : decode cX2_put 23 = .ok (.aload_n 0, 1) := by decide +kernel
theorem dX2_put_24 : decode cX2_put 24 = .ok (.getfield 15, 3) := by decide +kernel
theorem dX2_put_27 : decode cX2_put 27 = .ok (.iload_n 1, 1) := by decide +kernel
theorem dX2_put_28 : decode cX2_put 28 = .ok (.iastore, 1) := by decide +kernel
theorem dX2_put_29 : decode cX2_put 29 = .ok (.aload_n 0, 1) := by decide +kernel
theorem dX2_put_30 : decode cX2_put 30 = .ok (.dup, 1) := by decide +kernel
theorem dX2_put_31 : decode cX2_put 31 = .ok (.getfield 15, 3) := by decide +kernel
theorem dX2_put_34 : decode cX2_put 34 = .ok (.iconst 1, 1) := by decide +kernel
theorem dX2_put_35 : decode cX2_put 35 = .ok (.iadd, 1) := by decide +kernel
theorem dX2_put_36 : decode cX2_put 36 = .ok (.putfield 15, 3) := by decide +kernel
theorem dX2_put_39 : decode cX2_put 39 = .ok (.return_, 1) := by decide +kernel
theorem dX2_value_0 : decode cX2_value 0 = .ok (.aload_n 0, 1) := by decide +kernel
theorem dX2_value_1 : decode cX2_value 1 = .ok (.getfield 15, 3) := by decide +kernel
theorem dX2_value_4 : decode cX2_value 4 = .ok (.ifCond .ne 18, 3) := by decide +kernel
theorem dX2_value_7 : decode cX2_value 7 = .ok (.iload_n 1, 1) := by decide +kernel
theorem dX2_value_8 : decode cX2_value 8 = .ok (.bipush 10, 2) := by decide +kernel
theorem dX2_value_10 : decode cX2_value 10 = .ok (.imul, 1) := by decide +kernel
theorem dX2_value_11 : decode cX2_value 11 = .ok (.iload_n 2, 1) := by decide +kernel
theorem dX2_value_12 : decode cX2_value 12 = .ok (.isub, 1) := by decide +kernel
theorem dX2_value_13 : decode cX2_value 13 = .ok (.iload 4, 2) := by decide +kernel
theorem dX2_value_15 : decode cX2_value 15 = .ok (.iconst 3, 1) := by decide +kernel
theorem dX2_value_16 : decode cX2_value 16 = .ok (.imul, 1) := by decide +kernel
theorem dX2_value_17 : decode cX2_value 17 = .ok (.isub, 1) := by decide +kernel
theorem dX2_value_18 : decode cX2_value 18 = .ok (.iload 5, 2) := by decide +kernel
theorem dX2_value_20 : decode cX2_value 20 = .ok (.isub, 1) := by decide +kernel
theorem dX2_value_21 : decode cX2_value 21 = .ok (.ireturn, 1) := by decide +kernel
theorem dX2_value_22 : decode cX2_value 22 = .ok (.aload_n 0, 1) := by decide +kernel
theorem dX2_value_23 : decode cX2_value 23 = .ok (.getfield 19, 3) := by decide +kernel
theorem dX2_value_26 : decode cX2_value 26 = .ok (.iconst 0, 1) := by decide +kernel
theorem dX2_value_27 : decode cX2_value 27 = .ok (.iload_n 1, 1) := by decide +kernel
theorem dX2_value_28 : decode cX2_value 28 = .ok (.iastore, 1) := by decide +kernel
theorem dX2_value_29 : decode cX2_value 29 = .ok (.aload_n 0, 1) := by decide +kernel
theorem dX2_value_30 : decode cX2_value 30 = .ok (.getfield 19, 3) := by decide +kernel
theorem dX2_value_33 : decode cX2_value 33 = .ok (.iconst 1, 1) := by decide +kernel
theorem dX2_value_34 : decode cX2_value 34 = .ok (.iload_n 2, 1) := by decide +kernel
theorem dX2_value_35 : decode cX2_value 35 = .ok (.iastore, 1) := by decide +kernel
theorem dX2_value_36 : decode cX2_value 36 = .ok (.aload_n 0, 1) := by decide +kernel
theorem dX2_value_37 : decode cX2_value 37 = .ok (.getfield 19, 3) := by decide +kernel
theorem dX2_value_40 : decode cX2_value 40 = .ok (.iconst 2, 1) := by decide +kernel
theorem dX2_value_41 : decode cX2_value 41 = .ok (.iload_n 3, 1) := by decide +kernel
theorem dX2_value_42 : decode cX2_value 42 = .ok (.iastore, 1) := by decide +kernel
theorem dX2_value_43 : decode cX2_value 43 = .ok (.aload_n 0, 1) := by decide +kernel
theorem dX2_value_44 : decode cX2_value 44 = .ok (.getfield 19, 3) := by decide +kernel
theorem dX2_value_47 : decode cX2_value 47 = .ok (.iconst 3, 1) := by decide +kernel
theorem dX2_value_48 : decode cX2_value 48 = .ok (.iload 4, 2) := by decide +kernel
theorem dX2_value_50 : decode cX2_value 50 = .ok (.iastore, 1) := by decide +kernel
theorem dX2_value_51 : decode cX2_value 51 = .ok (.aload_n 0, 1) := by decide +kernel
theorem dX2_value_52 : decode cX2_value 52 = .ok (.getfield 19, 3) := by decide +kernel
theorem dX2_value_55 : decode cX2_value 55 = .ok (.iconst 4, 1) := by decide +kernel
theorem dX2_value_56 : decode cX2_value 56 = .ok (.iload 5, 2) := by decide +kernel
theorem dX2_value_58 : decode cX2_value 58 = .ok (.iastore, 1) := by decide +kernel
theorem dX2_value_59 : decode cX2_value 59 = .ok (.aload_n 0, 1) := by decide +kernel
theorem dX2_value_60 : decode cX2_value 60 = .ok (.getfield 19, 3) := by decide +kernel
theorem dX2_value_63 : decode cX2_value 63 = .ok (.iconst 5, 1) := by decide +kernel
theorem dX2_value_64 : decode cX2_value 64 = .ok (.iload 6, 2) := by decide +kernel
theorem dX2_value_66 : decode cX2_value 66 = .ok (.iastore, 1) := by decide +kernel
theorem dX2_value_67 : decode cX2_value 67 = .ok (.aload_n 0, 1) := by decide +kernel
theorem dX2_value_68 : decode cX2_value 68 = .ok (.getfield 19, 3) := by decide +kernel
theorem dX2_value_71 : decode cX2_value 71 = .ok (.bipush 6, 2) := by decide +kernel
theorem dX2_value_73 : decode cX2_value 73 = .ok (.iload 7, 2) := by decide +kernel
theorem dX2_value_75 : decode cX2_value 75 = .ok (.iastore, 1) := by decide +kernel
theorem dX2_value_76 : decode cX2_value 76 = .ok (.iconst 0, 1) := by decide +kernel
theorem dX2_value_77 : decode cX2_value 77 = .ok (.istore 8, 2) := by decide +kernel
theorem dX2_value_79 : decode cX2_value 79 = .ok (.iconst 0, 1) := by decide +kernel
theorem dX2_value_80 : decode cX2_value 80 = .ok (.istore 9, 2) := by decide +kernel
theorem dX2_value_82 : decode cX2_value 82 = .ok (.iload 9, 2) := by decide +kernel
theorem dX2_value_84 : decode cX2_value 84 = .ok (.aload_n 0, 1) := by decide +kernel
theorem dX2_value_85 : decode cX2_value 85 = .ok (.getfield 15, 3) := by decide +kernel
theorem dX2_value_88 : decode cX2_value 88 = .ok (.if_icmp .ge 164, 3) := by decide +kernel
theorem dX2_value_91 : decode cX2_value 91 = .ok (.iload 9, 2) := by decide +kernel
theorem dX2_value_93 : decode cX2_value 93 = .ok (.aload_n 0, 1) := by decide +kernel
theorem dX2_value_94 : decode cX2_value 94 = .ok (.getfield 9, 3) := by decide +kernel
theorem dX2_value_97 : decode cX2_value 97 = .ok (.arraylength, 1) := by decide +kernel
theorem dX2_value_98 : decode cX2_value 98 = .ok (.if_icmp .ge 154, 3) := by decide +kernel
theorem dX2_value_101 : decode cX2_value 101 = .ok (.aload_n 0, 1) := by decide +kernel
theorem dX2_value_102 : decode cX2_value 102 = .ok (.getfield 9, 3) := by decide +kernel
theorem dX2_value_105 : decode cX2_value 105 = .ok (.iload 9, 2) := by decide +kernel
theorem dX2_value_107 : decode cX2_value 107 = .ok (.iaload, 1) := by decide +kernel
theorem dX2_value_108 : decode cX2_value 108 = .ok (.istore 10, 2) := by decide +kernel
theorem dX2_value_110 : decode cX2_value 110 = .ok (.iload 10, 2) := by decide +kernel
theorem dX2_value_112 : decode cX2_value 112 = .ok (.sipush 1010, 3) := by decide +kernel
theorem dX2_value_115 : decode cX2_value 115 = .ok (.if_icmp .ge 7, 3) := by decide +kernel
theorem dX2_value_118 : decode cX2_value 118 = .ok (.iconst 0, 1) := by decide +kernel
theorem dX2_value_119 : decode cX2_value 119 = .ok (.goto 16, 3) := by decide +kernel
theorem dX2_value_122 : decode cX2_value 122 = .ok (.iload 10, 2) := by decide +kernel
theorem dX2_value_124 : decode cX2_value 124 = .ok (.sipush 1136, 3) := by decide +kernel
theorem dX2_value_127 : decode cX2_value 127 = .ok (.if_icmp .ne 7, 3) := by decide +kernel
theorem dX2_value_130 : decode cX2_value 130 = .ok (.iconst 1, 1) := by decide +kernel
theorem dX2_value_131 : decode cX2_value 131 = .ok (.goto 4, 3) := by decide +kernel
theorem dX2_value_134 : decode cX2_value 134 = .ok (.iconst 2, 1) := by decide +kernel
theorem dX2_value_135 : decode cX2_value 135 = .ok (.istore 11, 2) := by decide +kernel
theorem dX2_value_137 : decode cX2_value 137 = .ok (.iload 8, 2) := by decide +kernel
theorem dX2_value_139 : decode cX2_value 139 = .ok (.iload 11, 2) := by decide +kernel
theorem dX2_value_141 : decode cX2_value 141 = .ok (.isub, 1) := by decide +kernel
theorem dX2_value_142 : decode cX2_value 142 = .ok (.istore 12, 2) := by decide +kernel
theorem dX2_value_144 : decode cX2_value 144 = .ok (.iload 12, 2) := by decide +kernel
theorem dX2_value_146 : decode cX2_value 146 = .ok (.ifCond .lt 15, 3) := by decide +kernel
theorem dX2_value_149 : decode cX2_value 149 = .ok (.iload 12, 2) := by decide +kernel
theorem dX2_value_151 : decode cX2_value 151 = .ok (.iconst 1, 1) := by decide +kernel
theorem dX2_value_152 : decode cX2_value 152 = .ok (.iadd, 1) := by decide +kernel
theorem dX2_value_153 : decode cX2_value 153 = .ok (.aload_n 0, 1) := by decide +kernel
theorem dX2_value_154 : decode cX2_value 154 = .ok (.getfield 22, 3) := by decide +kernel
theorem dX2_value_157 : decode cX2_value 157 = .ok (.arraylength, 1) := by decide +kernel
theorem dX2_value_158 : decode cX2_value 158 = .ok (.if_icmp .lt 5, 3) := by decide +kernel
theorem dX2_value_161 : decode cX2_value 161 = .ok (.iconst 0, 1) := by decide +kernel
theorem dX2_value_162 : decode cX2_value 162 = .ok (.ireturn, 1) := by decide +kernel
theorem dX2_value_163 : decode cX2_value 163 = .ok (.iload 11, 2) := by decide +kernel
theorem dX2_value_165 : decode cX2_value 165 = .ok (.ifCond .ne 19, 3) := by decide +kernel
theorem dX2_value_168 : decode cX2_value 168 = .ok (.aload_n 0, 1) := by decide +kernel
theorem dX2_value_169 : decode cX2_value 169 = .ok (.getfield 22, 3) := by decide +kernel
theorem dX2_value_172 : decode cX2_value 172 = .ok (.iload 12, 2) := by decide +kernel
theorem dX2_value_174 : decode cX2_value 174 = .ok (.aload_n 0, 1) := by decide +kernel
theorem dX2_value_175 : decode cX2_value 175 = .ok (.iload 10, 2) := by decide +kernel
theorem dX2_value_177 : decode cX2_value 177 = .ok (.invokevirtual 100, 3) := by decide +kernel
theorem dX2_value_180 : decode cX2_value 180 = .ok (.iastore, 1) := by decide +kernel
theorem dX2_value_181 : decode cX2_value 181 = .ok (.goto 59, 3) := by decide +kernel
theorem dX2_value_184 : decode cX2_value 184 = .ok (.iload 11, 2) := by decide +kernel
theorem dX2_value_186 : decode cX2_value 186 = .ok (.iconst 1, 1) := by decide +kernel
theorem dX2_value_187 : decode cX2_value 187 = .ok (.if_icmp .ne 21, 3) := by decide +kernel
theorem dX2_value_190 : decode cX2_value 190 = .ok (.aload_n 0, 1) := by decide +kernel
theorem dX2_value_191 : decode cX2_value 191 = .ok (.getfield 22, 3) := by decide +kernel
theorem dX2_value_194 : decode cX2_value 194 = .ok (.iload 12, 2) := by decide +kernel
theorem dX2_value_196 : decode cX2_value 196 = .ok (.aload_n 0, 1) := by decide +kernel
theorem dX2_value_197 : decode cX2_value 197 = .ok (.getfield 22, 3) := by decide +kernel
theorem dX2_value_200 : decode cX2_value 200 = .ok (.iload 12, 2) := by decide +kernel
theorem dX2_value_202 : decode cX2_value 202 = .ok (.iaload, 1) := by decide +kernel
theorem dX2_value_203 : decode cX2_value 203 = .ok (.ineg, 1) := by decide +kernel
theorem dX2_value_204 : decode cX2_value 204 = .ok (.iastore, 1) := by decide +kernel
theorem dX2_value_205 : decode cX2_value 205 = .ok (.goto 35, 3) := by decide +kernel
theorem dX2_value_208 : decode cX2_value 208 = .ok (.aload_n 0, 1) := by decide +kernel
theorem dX2_value_209 : decode cX2_value 209 = .ok (.getfield 22, 3) := by decide +kernel
theorem dX2_value_212 : decode cX2_value 212 = .ok (.iload 12, 2) := by decide +kernel
theorem dX2_value_214 : decode cX2_value 214 = .ok (.iload 10, 2) := by decide +kernel
theorem dX2_value_216 : decode cX2_value 216 = .ok (.sipush 1010, 3) := by decide +kernel
theorem dX2_value_219 : decode cX2_value 219 = .ok (.isub, 1) := by decide +kernel
theorem dX2_value_220 : decode cX2_value 220 = .ok (.aload_n 0, 1) := by decide +kernel
theorem dX2_value_221 : decode cX2_value 221 = .ok (.getfield 22, 3) := by decide +kernel
theorem dX2_value_224 : decode cX2_value 224 = .ok (.iload 12, 2) := by decide +kernel
theorem dX2_value_226 : decode cX2_value 226 = .ok (.iaload, 1) := by decide +kernel
theorem dX2_value_227 : decode cX2_value 227 = .ok (.aload_n 0, 1) := by decide +kernel
theorem dX2_value_228 : decode cX2_value 228 = .ok (.getfield 22, 3) := by decide +kernel
theorem dX2_value_231 : decode cX2_value 231 = .ok (.iload 12, 2) := by decide +kernel
theorem dX2_value_233 : decode cX2_value 233 = .ok (.iconst 1, 1) := by decide +kernel
theorem dX2_value_234 : decode cX2_value 234 = .ok (.iadd, 1) := by decide +kernel
theorem dX2_value_235 : decode cX2_value 235 = .ok (.iaload, 1) := by decide +kernel
theorem dX2_value_236 : decode cX2_value 236 = .ok (.invokestatic 103, 3) := by decide +kernel
theorem dX2_value_239 : decode cX2_value 239 = .ok (.iastore, 1) := by decide +kernel
theorem dX2_value_240 : decode cX2_value 240 = .ok (.iload 12, 2) := by decide +kernel
theorem dX2_value_242 : decode cX2_value 242 = .ok (.iconst 1, 1) := by decide +kernel
theorem dX2_value_243 : decode cX2_value 243 = .ok (.iadd, 1) := by decide +kernel
theorem dX2_value_244 : decode cX2_value 244 = .ok (.istore 8, 2) := by decide +kernel
theorem dX2_value_246 : decode cX2_value 246 = .ok (.iinc 9 1, 3) := by decide +kernel
theorem dX2_value_249 : decode cX2_value 249 = .ok (.goto (-167), 3) := by decide +kernel
theorem dX2_value_252 : decode cX2_value 252 = .ok (.aload_n 0, 1) := by decide +kernel
theorem dX2_value_253 : decode cX2_value 253 = .ok (.getfield 22, 3) := by decide +kernel
theorem dX2_value_256 : decode cX2_value 256 = .ok (.iconst 0, 1) := by decide +kernel
theorem dX2_value_257 : decode cX2_value 257 = .ok (.iaload, 1) := by decide +kernel
theorem dX2_value_258 : decode cX2_value 258 = .ok (.ireturn, 1) := by decide +kernel
theorem dX2_named_0 : decode cX2_named 0 = .ok (.iload_n 1, 1) := by decide +kernel
theorem dX2_named_1 : decode cX2_named 1 = .ok (.sipush 1000, 3) := by decide +kernel
theorem dX2_named_4 : decode cX2_named 4 = .ok (.isub, 1) := by decide +kernel
theorem dX2_named_5 : decode cX2_named 5 = .ok (.istore_n 2, 1) := by decide +kernel
theorem dX2_named_6 : decode cX2_named 6 = .ok (.iload_n 2, 1) := by decide +kernel
theorem dX2_named_7 : decode cX2_named 7 = .ok (.ifCond .lt 21, 3) := by decide +kernel
theorem dX2_named_10 : decode cX2_named 10 = .ok (.iload_n 2, 1) := by decide +kernel
theorem dX2_named_11 : decode cX2_named 11 = .ok (.aload_n 0, 1) := by decide +kernel
theorem dX2_named_12 : decode cX2_named 12 = .ok (.getfield 19, 3) := by decide +kernel
theorem dX2_named_15 : decode cX2_named 15 = .ok (.arraylength, 1) := by decide +kernel
theorem dX2_named_16 : decode cX2_named 16 = .ok (.if_icmp .ge 12, 3) := by decide +kernel
theorem dX2_named_19 : decode cX2_named 19 = .ok (.aload_n 0, 1) := by decide +kernel
theorem dX2_named_20 : decode cX2_named 20 = .ok (.getfield 19, 3) := by decide +kernel
theorem dX2_named_23 : decode cX2_named 23 = .ok (.iload_n 2, 1) := by decide +kernel
theorem dX2_named_24 : decode cX2_named 24 = .ok (.iaload, 1) := by decide +kernel
theorem dX2_named_25 : decode cX2_named 25 = .ok (.goto 4, 3) := by decide +kernel
theorem dX2_named_28 : decode cX2_named 28 = .ok (.iload_n 1, 1) := by decide +kernel
theorem dX2_named_29 : decode cX2_named 29 = .ok (.ireturn, 1) := by decide +kernel
theorem dX2_combine_0 : decode cX2_combine 0 = .ok (.iload_n 0, 1) := by decide +kernel
theorem dX2_combine_1 : decode cX2_combine 1 = .ok (.lookupswitch 105 #[(42, 67), (43, 59), (45, 63), (47, 71), (60, 83), (62, 94)], 59) := by decide +kernel
theorem dX2_combine_60 : decode cX2_combine 60 = .ok (.iload_n 1, 1) := by decide +kernel
theorem dX2_combine_61 : decode cX2_combine 61 = .ok (.iload_n 2, 1) := by decide +kernel
theorem dX2_combine_62 : decode cX2_combine 62 = .ok (.iadd, 1) := by decide +kernel
theorem dX2_combine_63 : decode cX2_combine 63 = .ok (.ireturn, 1) := by decide +kernel
theorem dX2_combine_64 : decode cX2_combine 64 = .ok (.iload_n 1, 1) := by decide +kernel
theorem dX2_combine_65 : decode cX2_combine 65 = .ok (.iload_n 2, 1) := by decide +kernel
theorem dX2_combine_66 : decode cX2_combine 66 = .ok (.isub, 1) := by decide +kernel
theorem dX2_combine_67 : decode cX2_combine 67 = .ok (.ireturn, 1) := by decide +kernel
theorem dX2_combine_68 : decode cX2_combine 68 = .ok (.iload_n 1, 1) := by decide +kernel
theorem dX2_combine_69 : decode cX2_combine 69 = .ok (.iload_n 2, 1) := by decide +kernel
theorem dX2_combine_70 : decode cX2_combine 70 = .ok (.imul, 1) := by decide +kernel
theorem dX2_combine_71 : decode cX2_combine 71 = .ok (.ireturn, 1) := by decide +kernel
theorem dX2_combine_72 : decode cX2_combine 72 = .ok (.iload_n 2, 1) := by decide +kernel
theorem dX2_combine_73 : decode cX2_combine 73 = .ok (.ifCond .ne 7, 3) := by decide +kernel
theorem dX2_combine_76 : decode cX2_combine 76 = .ok (.iconst 0, 1) := by decide +kernel
theorem dX2_combine_77 : decode cX2_combine 77 = .ok (.goto 6, 3) := by decide +kernel
theorem dX2_combine_80 : decode cX2_combine 80 = .ok (.iload_n 1, 1) := by decide +kernel
theorem dX2_combine_81 : decode cX2_combine 81 = .ok (.iload_n 2, 1) := by decide +kernel
theorem dX2_combine_82 : decode cX2_combine 82 = .ok (.idiv, 1) := by decide +kernel
theorem dX2_combine_83 : decode cX2_combine 83 = .ok (.ireturn, 1) := by decide +kernel
theorem dX2_combine_84 : decode cX2_combine 84 = .ok (.iload_n 1, 1) := by decide +kernel
theorem dX2_combine_85 : decode cX2_combine 85 = .ok (.iload_n 2, 1) := by decide +kernel
theorem dX2_combine_86 : decode cX2_combine 86 = .ok (.if_icmp .ge 7, 3) := by decide +kernel
theorem dX2_combine_89 : decode cX2_combine 89 = .ok (.iconst 1, 1) := by decide +kernel
theorem dX2_combine_90 : decode cX2_combine 90 = .ok (.goto 4, 3) := by decide +kernel
theorem dX2_combine_93 : decode cX2_combine 93 = .ok (.iconst 0, 1) := by decide +kernel
theorem dX2_combine_94 : decode cX2_combine 94 = .ok (.ireturn, 1) := by decide +kernel
theorem dX2_combine_95 : decode cX2_combine 95 = .ok (.iload_n 1, 1) := by decide +kernel
theorem dX2_combine_96 : decode cX2_combine 96 = .ok (.iload_n 2, 1) := by decide +kernel
theorem dX2_combine_97 : decode cX2_combine 97 = .ok (.if_icmp .le 7, 3) := by decide +kernel
theorem dX2_combine_100 : decode cX2_combine 100 = .ok (.iconst 1, 1) := by decide +kernel
theorem dX2_combine_101 : decode cX2_combine 101 = .ok (.goto 4, 3) := by decide +kernel
theorem dX2_combine_104 : decode cX2_combine 104 = .ok (.iconst 0, 1) := by decide +kernel
theorem dX2_combine_105 : decode cX2_combine 105 = .ok (.ireturn, 1) := by decide +kernel
theorem dX2_combine_106 : decode cX2_combine 106 = .ok (.iload_n 1, 1) := by decide +kernel
theorem dX2_combine_107 : decode cX2_combine 107 = .ok (.iload_n 2, 1) := by decide +kernel
theorem dX2_combine_108 : decode cX2_combine 108 = .ok (.if_icmp .ne 7, 3) := by decide +kernel
theorem dX2_combine_111 : decode cX2_combine 111 = .ok (.iconst 1, 1) := by decide +kernel
theorem dX2_combine_112 : decode cX2_combine 112 = .ok (.goto 4, 3) := by decide +kernel
theorem dX2_combine_115 : decode cX2_combine 115 = .ok (.iconst 0, 1) := by decide +kernel
theorem dX2_combine_116 : decode cX2_combine 116 = .ok (.ireturn, 1) := by decide +kernel
theorem dX3_init_0 : decode cX3_init 0 = .ok (.aload_n 0, 1) := by decide +kernel
theorem dX3_init_1 : decode cX3_init 1 = .ok (.invokespecial 3, 3) := by decide +kernel
theorem dX3_init_4 : decode cX3_init 4 = .ok (.aload_n 0, 1) := by decide +kernel
theorem dX3_init_5 : decode cX3_init 5 = .ok (.bipush 12, 2) := by decide +kernel
theorem dX3_init_7 : decode cX3_init 7 = .ok (.newarray .int, 2) := by decide +kernel
theorem dX3_init_9 : decode cX3_init 9 = .ok (.putfield 11, 3) := by decide +kernel
theorem dX3_init_12 : decode cX3_init 12 = .ok (.aload_n 0, 1) := by decide +kernel
theorem dX3_init_13 : decode cX3_init 13 = .ok (.bipush 12, 2) := by decide +kernel
theorem dX3_init_15 : decode cX3_init 15 = .ok (.newarray .int, 2) := by decide +kernel
theorem dX3_init_17 : decode cX3_init 17 = .ok (.putfield 15, 3) := by decide +kernel
theorem dX3_init_20 : decode cX3_init 20 = .ok (.aload_n 0, 1) := by decide +kernel
theorem dX3_init_21 : decode cX3_init 21 = .ok (.bipush 12, 2) := by decide +kernel
theorem dX3_init_23 : decode cX3_init 23 = .ok (.newarray .int, 2) := by decide +kernel
theorem dX3_init_25 : decode cX3_init 25 = .ok (.putfield 18, 3) := by decide +kernel
theorem dX3_init_28 : decode cX3_init 28 = .ok (.aload_n 0, 1) := by decide +kernel
theorem dX3_init_29 : decode cX3_init 29 = .ok (.iconst 0, 1) := by decide +kernel
theorem dX3_init_30 : decode cX3_init 30 = .ok (.putfield 21, 3) := by decide +kernel
theorem dX3_init_33 : decode cX3_init 33 = .ok (.aload_n 0, 1) := by decide +kernel
theorem dX3_init_34 : decode cX3_init 34 = .ok (.bipush 48, 2) := by decide +kernel
theorem dX3_init_36 : decode cX3_init 36 = .ok (.newarray .int, 2) := by decide +kernel
theorem dX3_init_38 : decode cX3_init 38 = .ok (.putfield 25, 3) := by decide +kernel
theorem dX3_init_41 : decode cX3_init 41 = .ok (.aload_n 0, 1) := by decide +kernel
theorem dX3_init_42 : decode cX3_init 42 = .ok (.bipush 48, 2) := by decide +kernel
theorem dX3_init_44 : decode cX3_init 44 = .ok (.newarray .int, 2) := by decide +kernel
theorem dX3_init_46 : decode cX3_init 46 = .ok (.putfield 28, 3) := by decide +kernel
theorem dX3_init_49 : decode cX3_init 49 = .ok (.return_, 1) := by decide +kernel
theorem dX4_init_0 : decode cX4_init 0 = .ok (.aload_n 0, 1) := by decide +kernel
theorem dX4_init_1 : decode cX4_init 1 = .ok (.invokespecial 3, 3) := by decide +kernel
theorem dX4_init_4 : decode cX4_init 4 = .ok (.aload_n 0, 1) := by decide +kernel
theorem dX4_init_5 : decode cX4_init 5 = .ok (.bipush 15, 2) := by decide +kernel
theorem dX4_init_7 : decode cX4_init 7 = .ok (.anewarray 11, 3) := by decide +kernel
theorem dX4_init_10 : decode cX4_init 10 = .ok (.putfield 13, 3) := by decide +kernel
theorem dX4_init_13 : decode cX4_init 13 = .ok (.aload_n 0, 1) := by decide +kernel
theorem dX4_init_14 : decode cX4_init 14 = .ok (.iconst 0, 1) := by decide +kernel
theorem dX4_init_15 : decode cX4_init 15 = .ok (.putfield 17, 3) := by decide +kernel
theorem dX4_init_18 : decode cX4_init 18 = .ok (.aload_n 0, 1) := by decide +kernel
theorem dX4_init_19 : decode cX4_init 19 = .ok (.iconst 0, 1) := by decide +kernel
theorem dX4_init_20 : decode cX4_init 20 = .ok (.putfield 21, 3) := by decide +kernel
theorem dX4_init_23 : decode cX4_init 23 = .ok (.iconst 0, 1) := by decide +kernel
theorem dX4_init_24 : decode cX4_init 24 = .ok (.istore_n 1, 1) := by decide +kernel
theorem dX4_init_25 : decode cX4_init 25 = .ok (.iload_n 1, 1) := by decide +kernel
theorem dX4_init_26 : decode cX4_init 26 = .ok (.aload_n 0, 1) := by decide +kernel
theorem dX4_init_27 : decode cX4_init 27 = .ok (.getfield 13, 3) := by decide +kernel
theorem dX4_init_30 : decode cX4_init 30 = .ok (.arraylength, 1) := by decide +kernel
theorem dX4_init_31 : decode cX4_init 31 = .ok (.if_icmp .ge 22, 3) := by decide +kernel
theorem dX4_init_34 : decode cX4_init 34 = .ok (.aload_n 0, 1) := by decide +kernel
theorem dX4_init_35 : decode cX4_init 35 = .ok (.getfield 13, 3) := by decide +kernel
theorem dX4_init_38 : decode cX4_init 38 = .ok (.iload_n 1, 1) := by decide +kernel
theorem dX4_init_39 : decode cX4_init 39 = .ok (.new 11, 3) := by decide +kernel
theorem dX4_init_42 : decode cX4_init 42 = .ok (.dup, 1) := by decide +kernel
theorem dX4_init_43 : decode cX4_init 43 = .ok (.invokespecial 24, 3) := by decide +kernel
theorem dX4_init_46 : decode cX4_init 46 = .ok (.aastore, 1) := by decide +kernel
theorem dX4_init_47 : decode cX4_init 47 = .ok (.iinc 1 1, 3) := by decide +kernel
theorem dX4_init_50 : decode cX4_init 50 = .ok (.goto (-25), 3) := by decide +kernel
theorem dX4_init_53 : decode cX4_init 53 = .ok (.return_, 1) := by decide +kernel
theorem dX4_clear_0 : decode cX4_clear 0 = .ok (.aload_n 0, 1) := by decide +kernel
theorem dX4_clear_1 : decode cX4_clear 1 = .ok (.iconst 0, 1) := by decide +kernel
theorem dX4_clear_2 : decode cX4_clear 2 = .ok (.putfield 21, 3) := by decide +kernel
theorem dX4_clear_5 : decode cX4_clear 5 = .ok (.return_, 1) := by decide +kernel
theorem dX4_push_0 : decode cX4_push 0 = .ok (.aload_n 0, 1) := by decide +kernel
theorem dX4_push_1 : decode cX4_push 1 = .ok (.getfield 17, 3) := by decide +kernel
theorem dX4_push_4 : decode cX4_push 4 = .ok (.ifCond .lt 56, 3) := by decide +kernel
theorem dX4_push_7 : decode cX4_push 7 = .ok (.aload_n 0, 1) := by decide +kernel
theorem dX4_push_8 : decode cX4_push 8 = .ok (.getfield 17, 3) := by decide +kernel
theorem dX4_push_11 : decode cX4_push 11 = .ok (.aload_n 0, 1) := by decide +kernel
theorem dX4_push_12 : decode cX4_push 12 = .ok (.getfield 13, 3) := by decide +kernel
theorem dX4_push_15 : decode cX4_push 15 = .ok (.arraylength, 1) := by decide +kernel
theorem dX4_push_16 : decode cX4_push 16 = .ok (.if_icmp .ge 44, 3) := by decide +kernel
theorem dX4_push_19 : decode cX4_push 19 = .ok (.aload_n 0, 1) := by decide +kernel
theorem dX4_push_20 : decode cX4_push 20 = .ok (.getfield 13, 3) := by decide +kernel
theorem dX4_push_23 : decode cX4_push 23 = .ok (.aload_n 0, 1) := by decide +kernel
theorem dX4_push_24 : decode cX4_push 24 = .ok (.getfield 17, 3) := by decide +kernel
theorem dX4_push_27 : decode cX4_push 27 = .ok (.aaload, 1) := by decide +kernel
theorem dX4_push_28 : decode cX4_push 28 = .ok (.aload_n 1, 1) := by decide +kernel
theorem dX4_push_29 : decode cX4_push 29 = .ok (.invokevirtual 25, 3) := by decide +kernel
theorem dX4_push_32 : decode cX4_push 32 = .ok (.aload_n 0, 1) := by decide +kernel
theorem dX4_push_33 : decode cX4_push 33 = .ok (.aload_n 0, 1) := by decide +kernel
theorem dX4_push_34 : decode cX4_push 34 = .ok (.getfield 17, 3) := by decide +kernel
theorem dX4_push_37 : decode cX4_push 37 = .ok (.iconst 1, 1) := by decide +kernel
theorem dX4_push_38 : decode cX4_push 38 = .ok (.iadd, 1) := by decide +kernel
theorem dX4_push_39 : decode cX4_push 39 = .ok (.bipush 15, 2) := by decide +kernel
theorem dX4_push_41 : decode cX4_push 41 = .ok (.irem, 1) := by decide +kernel
theorem dX4_push_42 : decode cX4_push 42 = .ok (.putfield 17, 3) := by decide +kernel
theorem dX4_push_45 : decode cX4_push 45 = .ok (.aload_n 0, 1) := by decide +kernel
theorem dX4_push_46 : decode cX4_push 46 = .ok (.bipush 15, 2) := by decide +kernel
theorem dX4_push_48 : decode cX4_push 48 = .ok (.aload_n 0, 1) := by decide +kernel
theorem dX4_push_49 : decode cX4_push 49 = .ok (.getfield 21, 3) := by decide +kernel
theorem dX4_push_52 : decode cX4_push 52 = .ok (.iconst 1, 1) := by decide +kernel
theorem dX4_push_53 : decode cX4_push 53 = .ok (.iadd, 1) := by decide +kernel
theorem dX4_push_54 : decode cX4_push 54 = .ok (.invokestatic 29, 3) := by decide +kernel
theorem dX4_push_57 : decode cX4_push 57 = .ok (.putfield 21, 3) := by decide +kernel
theorem dX4_push_60 : decode cX4_push 60 = .ok (.return_, 1) := by decide +kernel
theorem dX4_pop_0 : decode cX4_pop 0 = .ok (.aload_n 0, 1) := by decide +kernel
theorem dX4_pop_1 : decode cX4_pop 1 = .ok (.getfield 17, 3) := by decide +kernel
theorem dX4_pop_4 : decode cX4_pop 4 = .ok (.bipush 15, 2) := by decide +kernel
theorem dX4_pop_6 : decode cX4_pop 6 = .ok (.iadd, 1) := by decide +kernel
theorem dX4_pop_7 : decode cX4_pop 7 = .ok (.iconst 1, 1) := by decide +kernel
theorem dX4_pop_8 : decode cX4_pop 8 = .ok (.isub, 1) := by decide +kernel
theorem dX4_pop_9 : decode cX4_pop 9 = .ok (.bipush 15, 2) := by decide +kernel
theorem dX4_pop_11 : decode cX4_pop 11 = .ok (.irem, 1) := by decide +kernel
theorem dX4_pop_12 : decode cX4_pop 12 = .ok (.istore_n 2, 1) := by decide +kernel
theorem dX4_pop_13 : decode cX4_pop 13 = .ok (.aload_n 0, 1) := by decide +kernel
theorem dX4_pop_14 : decode cX4_pop 14 = .ok (.getfield 21, 3) := by decide +kernel
theorem dX4_pop_17 : decode cX4_pop 17 = .ok (.ifCond .le 16, 3) := by decide +kernel
theorem dX4_pop_20 : decode cX4_pop 20 = .ok (.iload_n 2, 1) := by decide +kernel
theorem dX4_pop_21 : decode cX4_pop 21 = .ok (.ifCond .lt 12, 3) := by decide +kernel
theorem dX4_pop_24 : decode cX4_pop 24 = .ok (.iload_n 2, 1) := by decide +kernel
theorem dX4_pop_25 : decode cX4_pop 25 = .ok (.aload_n 0, 1) := by decide +kernel
theorem dX4_pop_26 : decode cX4_pop 26 = .ok (.getfield 13, 3) := by decide +kernel
theorem dX4_pop_29 : decode cX4_pop 29 = .ok (.arraylength, 1) := by decide +kernel
theorem dX4_pop_30 : decode cX4_pop 30 = .ok (.if_icmp .lt 5, 3) := by decide +kernel
theorem dX4_pop_33 : decode cX4_pop 33 = .ok (.iconst (-1), 1) := by decide +kernel
theorem dX4_pop_34 : decode cX4_pop 34 = .ok (.ireturn, 1) := by decide +kernel
theorem dX4_pop_35 : decode cX4_pop 35 = .ok (.aload_n 1, 1) := by decide +kernel
theorem dX4_pop_36 : decode cX4_pop 36 = .ok (.aload_n 0, 1) := by decide +kernel
theorem dX4_pop_37 : decode cX4_pop 37 = .ok (.getfield 13, 3) := by decide +kernel
theorem dX4_pop_40 : decode cX4_pop 40 = .ok (.iload_n 2, 1) := by decide +kernel
theorem dX4_pop_41 : decode cX4_pop 41 = .ok (.aaload, 1) := by decide +kernel
theorem dX4_pop_42 : decode cX4_pop 42 = .ok (.invokevirtual 25, 3) := by decide +kernel
theorem dX4_pop_45 : decode cX4_pop 45 = .ok (.aload_n 0, 1) := by decide +kernel
theorem dX4_pop_46 : decode cX4_pop 46 = .ok (.iload_n 2, 1) := by decide +kernel
theorem dX4_pop_47 : decode cX4_pop 47 = .ok (.putfield 17, 3) := by decide +kernel
theorem dX4_pop_50 : decode cX4_pop 50 = .ok (.aload_n 0, 1) := by decide +kernel
theorem dX4_pop_51 : decode cX4_pop 51 = .ok (.dup, 1) := by decide +kernel
theorem dX4_pop_52 : decode cX4_pop 52 = .ok (.getfield 21, 3) := by decide +kernel
theorem dX4_pop_55 : decode cX4_pop 55 = .ok (.iconst 1, 1) := by decide +kernel
theorem dX4_pop_56 : decode cX4_pop 56 = .ok (.isub, 1) := by decide +kernel
theorem dX4_pop_57 : decode cX4_pop 57 = .ok (.putfield 21, 3) := by decide +kernel
theorem dX4_pop_60 : decode cX4_pop 60 = .ok (.aload_n 0, 1) := by decide +kernel
theorem dX4_pop_61 : decode cX4_pop 61 = .ok (.getfield 21, 3) := by decide +kernel
theorem dX4_pop_64 : decode cX4_pop 64 = .ok (.ireturn, 1) := by decide +kernel
theorem dX5_init_0 : decode cX5_init 0 = .ok (.aload_n 0, 1) := by decide +kernel
theorem dX5_init_1 : decode cX5_init 1 = .ok (.invokespecial 3, 3) := by decide +kernel
theorem dX5_init_4 : decode cX5_init 4 = .ok (.aload_n 0, 1) := by decide +kernel
theorem dX5_init_5 : decode cX5_init 5 = .ok (.bipush 8, 2) := by decide +kernel
theorem dX5_init_7 : decode cX5_init 7 = .ok (.newarray .int, 2) := by decide +kernel
theorem dX5_init_9 : decode cX5_init 9 = .ok (.putfield 9, 3) := by decide +kernel
theorem dX5_init_12 : decode cX5_init 12 = .ok (.aload_n 0, 1) := by decide +kernel
theorem dX5_init_13 : decode cX5_init 13 = .ok (.bipush 8, 2) := by decide +kernel
theorem dX5_init_15 : decode cX5_init 15 = .ok (.newarray .int, 2) := by decide +kernel
theorem dX5_init_17 : decode cX5_init 17 = .ok (.putfield 15, 3) := by decide +kernel
theorem dX5_init_20 : decode cX5_init 20 = .ok (.aload_n 0, 1) := by decide +kernel
theorem dX5_init_21 : decode cX5_init 21 = .ok (.iconst 0, 1) := by decide +kernel
theorem dX5_init_22 : decode cX5_init 22 = .ok (.putfield 18, 3) := by decide +kernel
theorem dX5_init_25 : decode cX5_init 25 = .ok (.return_, 1) := by decide +kernel
theorem dX5_has_0 : decode cX5_has 0 = .ok (.iload_n 1, 1) := by decide +kernel
theorem dX5_has_1 : decode cX5_has 1 = .ok (.ifCond .lt 21, 3) := by decide +kernel
theorem dX5_has_4 : decode cX5_has 4 = .ok (.iload_n 1, 1) := by decide +kernel
theorem dX5_has_5 : decode cX5_has 5 = .ok (.aload_n 0, 1) := by decide +kernel
theorem dX5_has_6 : decode cX5_has 6 = .ok (.getfield 18, 3) := by decide +kernel
theorem dX5_has_9 : decode cX5_has 9 = .ok (.if_icmp .ge 13, 3) := by decide +kernel
theorem dX5_has_12 : decode cX5_has 12 = .ok (.iload_n 1, 1) := by decide +kernel
theorem dX5_has_13 : decode cX5_has 13 = .ok (.bipush 8, 2) := by decide +kernel
theorem dX5_has_15 : decode cX5_has 15 = .ok (.if_icmp .ge 7, 3) := by decide +kernel
theorem dX5_has_18 : decode cX5_has 18 = .ok (.iconst 1, 1) := by decide +kernel
theorem dX5_has_19 : decode cX5_has 19 = .ok (.goto 4, 3) := by decide +kernel
theorem dX5_has_22 : decode cX5_has 22 = .ok (.iconst 0, 1) := by decide +kernel
theorem dX5_has_23 : decode cX5_has 23 = .ok (.ireturn, 1) := by decide +kernel
theorem dX5_firstOf_0 : decode cX5_firstOf 0 = .ok (.aload_n 0, 1) := by decide +kernel
theorem dX5_firstOf_1 : decode cX5_firstOf 1 = .ok (.iload_n 1, 1) := by decide +kernel
theorem dX5_firstOf_2 : decode cX5_firstOf 2 = .ok (.invokevirtual 22, 3) := by decide +kernel
theorem dX5_firstOf_5 : decode cX5_firstOf 5 = .ok (.ifCond .eq 12, 3) := by decide +kernel
theorem dX5_firstOf_8 : decode cX5_firstOf 8 = .ok (.aload_n 0, 1) := by decide +kernel
theorem dX5_firstOf_9 : decode cX5_firstOf 9 = .ok (.getfield 9, 3) := by decide +kernel
theorem dX5_firstOf_12 : decode cX5_firstOf 12 = .ok (.iload_n 1, 1) := by decide +kernel
theorem dX5_firstOf_13 : decode cX5_firstOf 13 = .ok (.iaload, 1) := by decide +kernel
theorem dX5_firstOf_14 : decode cX5_firstOf 14 = .ok (.goto 4, 3) := by decide +kernel
theorem dX5_firstOf_17 : decode cX5_firstOf 17 = .ok (.iconst 0, 1) := by decide +kernel
theorem dX5_firstOf_18 : decode cX5_firstOf 18 = .ok (.ireturn, 1) := by decide +kernel
theorem dX5_secondOf_0 : decode cX5_secondOf 0 = .ok (.aload_n 0, 1) := by decide +kernel
theorem dX5_secondOf_1 : decode cX5_secondOf 1 = .ok (.iload_n 1, 1) := by decide +kernel
theorem dX5_secondOf_2 : decode cX5_secondOf 2 = .ok (.invokevirtual 22, 3) := by decide +kernel
theorem dX5_secondOf_5 : decode cX5_secondOf 5 = .ok (.ifCond .eq 12, 3) := by decide +kernel
theorem dX5_secondOf_8 : decode cX5_secondOf 8 = .ok (.aload_n 0, 1) := by decide +kernel
theorem dX5_secondOf_9 : decode cX5_secondOf 9 = .ok (.getfield 15, 3) := by decide +kernel
theorem dX5_secondOf_12 : decode cX5_secondOf 12 = .ok (.iload_n 1, 1) := by decide +kernel
theorem dX5_secondOf_13 : decode cX5_secondOf 13 = .ok (.iaload, 1) := by decide +kernel
theorem dX5_secondOf_14 : decode cX5_secondOf 14 = .ok (.goto 4, 3) := by decide +kernel
theorem dX5_secondOf_17 : decode cX5_secondOf 17 = .ok (.iconst 0, 1) := by decide +kernel
theorem dX5_secondOf_18 : decode cX5_secondOf 18 = .ok (.ireturn, 1) := by decide +kernel
theorem dX5_secondsOf_0 : decode cX5_secondsOf 0 = .ok (.iconst 0, 1) := by decide +kernel
theorem dX5_secondsOf_1 : decode cX5_secondsOf 1 = .ok (.istore_n 2, 1) := by decide +kernel
theorem dX5_secondsOf_2 : decode cX5_secondsOf 2 = .ok (.iconst 0, 1) := by decide +kernel
theorem dX5_secondsOf_3 : decode cX5_secondsOf 3 = .ok (.istore_n 3, 1) := by decide +kernel
theorem dX5_secondsOf_4 : decode cX5_secondsOf 4 = .ok (.iload_n 3, 1) := by decide +kernel
theorem dX5_secondsOf_5 : decode cX5_secondsOf 5 = .ok (.bipush 8, 2) := by decide +kernel
theorem dX5_secondsOf_7 : decode cX5_secondsOf 7 = .ok (.if_icmp .ge 23, 3) := by decide +kernel
theorem dX5_secondsOf_10 : decode cX5_secondsOf 10 = .ok (.iload_n 2, 1) := by decide +kernel
theorem dX5_secondsOf_11 : decode cX5_secondsOf 11 = .ok (.iload_n 1, 1) := by decide +kernel
theorem dX5_secondsOf_12 : decode cX5_secondsOf 12 = .ok (.iload_n 3, 1) := by decide +kernel
theorem dX5_secondsOf_13 : decode cX5_secondsOf 13 = .ok (.ishr, 1) := by decide +kernel
theorem dX5_secondsOf_14 : decode cX5_secondsOf 14 = .ok (.iconst 1, 1) := by decide +kernel
theorem dX5_secondsOf_15 : decode cX5_secondsOf 15 = .ok (.iand, 1) := by decide +kernel
theorem dX5_secondsOf_16 : decode cX5_secondsOf 16 = .ok (.aload_n 0, 1) := by decide +kernel
theorem dX5_secondsOf_17 : decode cX5_secondsOf 17 = .ok (.iload_n 3, 1) := by decide +kernel
theorem dX5_secondsOf_18 : decode cX5_secondsOf 18 = .ok (.invokevirtual 26, 3) := by decide +kernel
theorem dX5_secondsOf_21 : decode cX5_secondsOf 21 = .ok (.imul, 1) := by decide +kernel
theorem dX5_secondsOf_22 : decode cX5_secondsOf 22 = .ok (.iadd, 1) := by decide +kernel
theorem dX5_secondsOf_23 : decode cX5_secondsOf 23 = .ok (.istore_n 2, 1) := by decide +kernel
theorem dX5_secondsOf_24 : decode cX5_secondsOf 24 = .ok (.iinc 3 1, 3) := by decide +kernel
theorem dX5_secondsOf_27 : decode cX5_secondsOf 27 = .ok (.goto (-23), 3) := by decide +kernel
theorem dX5_secondsOf_30 : decode cX5_secondsOf 30 = .ok (.iload_n 2, 1) := by decide +kernel
theorem dX5_secondsOf_31 : decode cX5_secondsOf 31 = .ok (.ireturn, 1) := by decide +kernel
theorem dX5_faultIn_0 : decode cX5_faultIn 0 = .ok (.aload_n 1, 1) := by decide +kernel
theorem dX5_faultIn_1 : decode cX5_faultIn 1 = .ok (.getfield 30, 3) := by decide +kernel
theorem dX5_faultIn_4 : decode cX5_faultIn 4 = .ok (.bipush 23, 2) := by decide +kernel
theorem dX5_faultIn_6 : decode cX5_faultIn 6 = .ok (.invokestatic 33, 3) := by decide +kernel
theorem dX5_faultIn_9 : decode cX5_faultIn 9 = .ok (.istore_n 2, 1) := by decide +kernel
theorem dX5_faultIn_10 : decode cX5_faultIn 10 = .ok (.iconst 0, 1) := by decide +kernel
theorem dX5_faultIn_11 : decode cX5_faultIn 11 = .ok (.istore_n 3, 1) := by decide +kernel
theorem dX5_faultIn_12 : decode cX5_faultIn 12 = .ok (.iload_n 3, 1) := by decide +kernel
theorem dX5_faultIn_13 : decode cX5_faultIn 13 = .ok (.iload_n 2, 1) := by decide +kernel
theorem dX5_faultIn_14 : decode cX5_faultIn 14 = .ok (.if_icmp .ge 24, 3) := by decide +kernel
theorem dX5_faultIn_17 : decode cX5_faultIn 17 = .ok (.aload_n 0, 1) := by decide +kernel
theorem dX5_faultIn_18 : decode cX5_faultIn 18 = .ok (.iload_n 3, 1) := by decide +kernel
theorem dX5_faultIn_19 : decode cX5_faultIn 19 = .ok (.aload_n 1, 1) := by decide +kernel
theorem dX5_faultIn_20 : decode cX5_faultIn 20 = .ok (.iload_n 3, 1) := by decide +kernel
theorem dX5_faultIn_21 : decode cX5_faultIn 21 = .ok (.invokevirtual 39, 3) := by decide +kernel
theorem dX5_faultIn_24 : decode cX5_faultIn 24 = .ok (.invokevirtual 42, 3) := by decide +kernel
theorem dX5_faultIn_27 : decode cX5_faultIn 27 = .ok (.ifCond .ne 5, 3) := by decide +kernel
theorem dX5_faultIn_30 : decode cX5_faultIn 30 = .ok (.iload_n 3, 1) := by decide +kernel
theorem dX5_faultIn_31 : decode cX5_faultIn 31 = .ok (.ireturn, 1) := by decide +kernel
theorem dX5_faultIn_32 : decode cX5_faultIn 32 = .ok (.iinc 3 1, 3) := by decide +kernel
theorem dX5_faultIn_35 : decode cX5_faultIn 35 = .ok (.goto (-23), 3) := by decide +kernel
theorem dX5_faultIn_38 : decode cX5_faultIn 38 = .ok (.aload_n 1, 1) := by decide +kernel
theorem dX5_faultIn_39 : decode cX5_faultIn 39 = .ok (.getfield 30, 3) := by decide +kernel
theorem dX5_faultIn_42 : decode cX5_faultIn 42 = .ok (.bipush 23, 2) := by decide +kernel
theorem dX5_faultIn_44 : decode cX5_faultIn 44 = .ok (.if_icmp .le 6, 3) := by decide +kernel
theorem dX5_faultIn_47 : decode cX5_faultIn 47 = .ok (.bipush 23, 2) := by decide +kernel
theorem dX5_faultIn_49 : decode cX5_faultIn 49 = .ok (.ireturn, 1) := by decide +kernel
theorem dX5_faultIn_50 : decode cX5_faultIn 50 = .ok (.iload_n 2, 1) := by decide +kernel
theorem dX5_faultIn_51 : decode cX5_faultIn 51 = .ok (.ifCond .eq 10, 3) := by decide +kernel
theorem dX5_faultIn_54 : decode cX5_faultIn 54 = .ok (.iload_n 2, 1) := by decide +kernel
theorem dX5_faultIn_55 : decode cX5_faultIn 55 = .ok (.iconst 3, 1) := by decide +kernel
theorem dX5_faultIn_56 : decode cX5_faultIn 56 = .ok (.irem, 1) := by decide +kernel
theorem dX5_faultIn_57 : decode cX5_faultIn 57 = .ok (.iconst 2, 1) := by decide +kernel
theorem dX5_faultIn_58 : decode cX5_faultIn 58 = .ok (.if_icmp .ne 7, 3) := by decide +kernel
theorem dX5_faultIn_61 : decode cX5_faultIn 61 = .ok (.iconst (-1), 1) := by decide +kernel
theorem dX5_faultIn_62 : decode cX5_faultIn 62 = .ok (.goto 4, 3) := by decide +kernel
theorem dX5_faultIn_65 : decode cX5_faultIn 65 = .ok (.iload_n 2, 1) := by decide +kernel
theorem dX5_faultIn_66 : decode cX5_faultIn 66 = .ok (.ireturn, 1) := by decide +kernel
theorem dX5_fits_0 : decode cX5_fits 0 = .ok (.iload_n 1, 1) := by decide +kernel
theorem dX5_fits_1 : decode cX5_fits 1 = .ok (.iconst 3, 1) := by decide +kernel
theorem dX5_fits_2 : decode cX5_fits 2 = .ok (.irem, 1) := by decide +kernel
theorem dX5_fits_3 : decode cX5_fits 3 = .ok (.lookupswitch 74 #[(0, 25), (1, 56)], 25) := by decide +kernel
theorem dX5_fits_28 : decode cX5_fits 28 = .ok (.iload_n 2, 1) := by decide +kernel
theorem dX5_fits_29 : decode cX5_fits 29 = .ok (.bipush 49, 2) := by decide +kernel
theorem dX5_fits_31 : decode cX5_fits 31 = .ok (.if_icmp .lt 26, 3) := by decide +kernel
theorem dX5_fits_34 : decode cX5_fits 34 = .ok (.iload_n 2, 1) := by decide +kernel
theorem dX5_fits_35 : decode cX5_fits 35 = .ok (.bipush 57, 2) := by decide +kernel
theorem dX5_fits_37 : decode cX5_fits 37 = .ok (.if_icmp .gt 20, 3) := by decide +kernel
theorem dX5_fits_40 : decode cX5_fits 40 = .ok (.aload_n 0, 1) := by decide +kernel
theorem dX5_fits_41 : decode cX5_fits 41 = .ok (.getfield 18, 3) := by decide +kernel
theorem dX5_fits_44 : decode cX5_fits 44 = .ok (.iload_n 1, 1) := by decide +kernel
theorem dX5_fits_45 : decode cX5_fits 45 = .ok (.iconst 3, 1) := by decide +kernel
theorem dX5_fits_46 : decode cX5_fits 46 = .ok (.idiv, 1) := by decide +kernel
theorem dX5_fits_47 : decode cX5_fits 47 = .ok (.iadd, 1) := by decide +kernel
theorem dX5_fits_48 : decode cX5_fits 48 = .ok (.bipush 8, 2) := by decide +kernel
theorem dX5_fits_50 : decode cX5_fits 50 = .ok (.if_icmp .ge 7, 3) := by decide +kernel
theorem dX5_fits_53 : decode cX5_fits 53 = .ok (.iconst 1, 1) := by decide +kernel
theorem dX5_fits_54 : decode cX5_fits 54 = .ok (.goto 4, 3) := by decide +kernel
theorem dX5_fits_57 : decode cX5_fits 57 = .ok (.iconst 0, 1) := by decide +kernel
theorem dX5_fits_58 : decode cX5_fits 58 = .ok (.ireturn, 1) := by decide +kernel
theorem dX5_fits_59 : decode cX5_fits 59 = .ok (.iload_n 2, 1) := by decide +kernel
theorem dX5_fits_60 : decode cX5_fits 60 = .ok (.bipush 48, 2) := by decide +kernel
theorem dX5_fits_62 : decode cX5_fits 62 = .ok (.if_icmp .lt 13, 3) := by decide +kernel
theorem dX5_fits_65 : decode cX5_fits 65 = .ok (.iload_n 2, 1) := by decide +kernel
theorem dX5_fits_66 : decode cX5_fits 66 = .ok (.bipush 57, 2) := by decide +kernel
theorem dX5_fits_68 : decode cX5_fits 68 = .ok (.if_icmp .gt 7, 3) := by decide +kernel
theorem dX5_fits_71 : decode cX5_fits 71 = .ok (.iconst 1, 1) := by decide +kernel
theorem dX5_fits_72 : decode cX5_fits 72 = .ok (.goto 4, 3) := by decide +kernel
theorem dX5_fits_75 : decode cX5_fits 75 = .ok (.iconst 0, 1) := by decide +kernel
theorem dX5_fits_76 : decode cX5_fits 76 = .ok (.ireturn, 1) := by decide +kernel
theorem dX5_fits_77 : decode cX5_fits 77 = .ok (.iload_n 2, 1) := by decide +kernel
theorem dX5_fits_78 : decode cX5_fits 78 = .ok (.bipush 59, 2) := by decide +kernel
theorem dX5_fits_80 : decode cX5_fits 80 = .ok (.if_icmp .ne 7, 3) := by decide +kernel
theorem dX5_fits_83 : decode cX5_fits 83 = .ok (.iconst 1, 1) := by decide +kernel
theorem dX5_fits_84 : decode cX5_fits 84 = .ok (.goto 4, 3) := by decide +kernel
theorem dX5_fits_87 : decode cX5_fits 87 = .ok (.iconst 0, 1) := by decide +kernel
theorem dX5_fits_88 : decode cX5_fits 88 = .ok (.ireturn, 1) := by decide +kernel
theorem dX5_admit_0 : decode cX5_admit 0 = .ok (.iconst 0, 1) := by decide +kernel
theorem dX5_admit_1 : decode cX5_admit 1 = .ok (.istore_n 2, 1) := by decide +kernel
theorem dX5_admit_2 : decode cX5_admit 2 = .ok (.iconst 0, 1) := by decide +kernel
theorem dX5_admit_3 : decode cX5_admit 3 = .ok (.istore_n 3, 1) := by decide +kernel
theorem dX5_admit_4 : decode cX5_admit 4 = .ok (.iload_n 3, 1) := by decide +kernel
theorem dX5_admit_5 : decode cX5_admit 5 = .ok (.aload_n 1, 1) := by decide +kernel
theorem dX5_admit_6 : decode cX5_admit 6 = .ok (.getfield 30, 3) := by decide +kernel
theorem dX5_admit_9 : decode cX5_admit 9 = .ok (.if_icmp .ge 70, 3) := by decide +kernel
theorem dX5_admit_12 : decode cX5_admit 12 = .ok (.aload_n 0, 1) := by decide +kernel
theorem dX5_admit_13 : decode cX5_admit 13 = .ok (.getfield 18, 3) := by decide +kernel
theorem dX5_admit_16 : decode cX5_admit 16 = .ok (.ifCond .lt 63, 3) := by decide +kernel
theorem dX5_admit_19 : decode cX5_admit 19 = .ok (.aload_n 0, 1) := by decide +kernel
theorem dX5_admit_20 : decode cX5_admit 20 = .ok (.getfield 18, 3) := by decide +kernel
theorem dX5_admit_23 : decode cX5_admit 23 = .ok (.bipush 8, 2) := by decide +kernel
theorem dX5_admit_25 : decode cX5_admit 25 = .ok (.if_icmp .ge 54, 3) := by decide +kernel
theorem dX5_admit_28 : decode cX5_admit 28 = .ok (.aload_n 0, 1) := by decide +kernel
theorem dX5_admit_29 : decode cX5_admit 29 = .ok (.getfield 9, 3) := by decide +kernel
theorem dX5_admit_32 : decode cX5_admit 32 = .ok (.aload_n 0, 1) := by decide +kernel
theorem dX5_admit_33 : decode cX5_admit 33 = .ok (.getfield 18, 3) := by decide +kernel
theorem dX5_admit_36 : decode cX5_admit 36 = .ok (.aload_n 1, 1) := by decide +kernel
theorem dX5_admit_37 : decode cX5_admit 37 = .ok (.iload_n 3, 1) := by decide +kernel
theorem dX5_admit_38 : decode cX5_admit 38 = .ok (.iconst 1, 1) := by decide +kernel
theorem dX5_admit_39 : decode cX5_admit 39 = .ok (.invokevirtual 46, 3) := by decide +kernel
theorem dX5_admit_42 : decode cX5_admit 42 = .ok (.iastore, 1) := by decide +kernel
theorem dX5_admit_43 : decode cX5_admit 43 = .ok (.aload_n 0, 1) := by decide +kernel
theorem dX5_admit_44 : decode cX5_admit 44 = .ok (.getfield 15, 3) := by decide +kernel
theorem dX5_admit_47 : decode cX5_admit 47 = .ok (.aload_n 0, 1) := by decide +kernel
theorem dX5_admit_48 : decode cX5_admit 48 = .ok (.getfield 18, 3) := by decide +kernel
theorem dX5_admit_51 : decode cX5_admit 51 = .ok (.aload_n 1, 1) := by decide +kernel
theorem dX5_admit_52 : decode cX5_admit 52 = .ok (.iload_n 3, 1) := by decide +kernel
theorem dX5_admit_53 : decode cX5_admit 53 = .ok (.iconst 1, 1) := by decide +kernel
theorem dX5_admit_54 : decode cX5_admit 54 = .ok (.iadd, 1) := by decide +kernel
theorem dX5_admit_55 : decode cX5_admit 55 = .ok (.iconst 1, 1) := by decide +kernel
theorem dX5_admit_56 : decode cX5_admit 56 = .ok (.invokevirtual 46, 3) := by decide +kernel
theorem dX5_admit_59 : decode cX5_admit 59 = .ok (.iastore, 1) := by decide +kernel
theorem dX5_admit_60 : decode cX5_admit 60 = .ok (.aload_n 0, 1) := by decide +kernel
theorem dX5_admit_61 : decode cX5_admit 61 = .ok (.dup, 1) := by decide +kernel
theorem dX5_admit_62 : decode cX5_admit 62 = .ok (.getfield 18, 3) := by decide +kernel
theorem dX5_admit_65 : decode cX5_admit 65 = .ok (.iconst 1, 1) := by decide +kernel
theorem dX5_admit_66 : decode cX5_admit 66 = .ok (.iadd, 1) := by decide +kernel
theorem dX5_admit_67 : decode cX5_admit 67 = .ok (.putfield 18, 3) := by decide +kernel
theorem dX5_admit_70 : decode cX5_admit 70 = .ok (.iinc 2 1, 3) := by decide +kernel
theorem dX5_admit_73 : decode cX5_admit 73 = .ok (.iinc 3 3, 3) := by decide +kernel
theorem dX5_admit_76 : decode cX5_admit 76 = .ok (.goto (-72), 3) := by decide +kernel
theorem dX5_admit_79 : decode cX5_admit 79 = .ok (.iload_n 2, 1) := by decide +kernel
theorem dX5_admit_80 : decode cX5_admit 80 = .ok (.ireturn, 1) := by decide +kernel
theorem dX5_hearing_0 : decode cX5_hearing 0 = .ok (.iconst 0, 1) := by decide +kernel
theorem dX5_hearing_1 : decode cX5_hearing 1 = .ok (.istore_n 2, 1) := by decide +kernel
theorem dX5_hearing_2 : decode cX5_hearing 2 = .ok (.iconst 0, 1) := by decide +kernel
theorem dX5_hearing_3 : decode cX5_hearing 3 = .ok (.istore_n 3, 1) := by decide +kernel
theorem dX5_hearing_4 : decode cX5_hearing 4 = .ok (.iload_n 3, 1) := by decide +kernel
theorem dX5_hearing_5 : decode cX5_hearing 5 = .ok (.bipush 8, 2) := by decide +kernel
theorem dX5_hearing_7 : decode cX5_hearing 7 = .ok (.if_icmp .ge 32, 3) := by decide +kernel
theorem dX5_hearing_10 : decode cX5_hearing 10 = .ok (.aload_n 0, 1) := by decide +kernel
theorem dX5_hearing_11 : decode cX5_hearing 11 = .ok (.iload_n 3, 1) := by decide +kernel
theorem dX5_hearing_12 : decode cX5_hearing 12 = .ok (.invokevirtual 22, 3) := by decide +kernel
theorem dX5_hearing_15 : decode cX5_hearing 15 = .ok (.ifCond .eq 18, 3) := by decide +kernel
theorem dX5_hearing_18 : decode cX5_hearing 18 = .ok (.aload_n 0, 1) := by decide +kernel
theorem dX5_hearing_19 : decode cX5_hearing 19 = .ok (.iload_n 3, 1) := by decide +kernel
theorem dX5_hearing_20 : decode cX5_hearing 20 = .ok (.invokevirtual 49, 3) := by decide +kernel
theorem dX5_hearing_23 : decode cX5_hearing 23 = .ok (.iload_n 1, 1) := by decide +kernel
theorem dX5_hearing_24 : decode cX5_hearing 24 = .ok (.if_icmp .gt 9, 3) := by decide +kernel
theorem dX5_hearing_27 : decode cX5_hearing 27 = .ok (.iload_n 2, 1) := by decide +kernel
theorem dX5_hearing_28 : decode cX5_hearing 28 = .ok (.iconst 1, 1) := by decide +kernel
theorem dX5_hearing_29 : decode cX5_hearing 29 = .ok (.iload_n 3, 1) := by decide +kernel
theorem dX5_hearing_30 : decode cX5_hearing 30 = .ok (.ishl, 1) := by decide +kernel
theorem dX5_hearing_31 : decode cX5_hearing 31 = .ok (.ior, 1) := by decide +kernel
theorem dX5_hearing_32 : decode cX5_hearing 32 = .ok (.istore_n 2, 1) := by decide +kernel
theorem dX5_hearing_33 : decode cX5_hearing 33 = .ok (.iinc 3 1, 3) := by decide +kernel
theorem dX5_hearing_36 : decode cX5_hearing 36 = .ok (.goto (-32), 3) := by decide +kernel
theorem dX5_hearing_39 : decode cX5_hearing 39 = .ok (.iload_n 2, 1) := by decide +kernel
theorem dX5_hearing_40 : decode cX5_hearing 40 = .ok (.ireturn, 1) := by decide +kernel
theorem dX5_moved_0 : decode cX5_moved 0 = .ok (.iconst 0, 1) := by decide +kernel
theorem dX5_moved_1 : decode cX5_moved 1 = .ok (.istore_n 2, 1) := by decide +kernel
theorem dX5_moved_2 : decode cX5_moved 2 = .ok (.iconst 0, 1) := by decide +kernel
theorem dX5_moved_3 : decode cX5_moved 3 = .ok (.istore_n 3, 1) := by decide +kernel
theorem dX5_moved_4 : decode cX5_moved 4 = .ok (.iload_n 3, 1) := by decide +kernel
theorem dX5_moved_5 : decode cX5_moved 5 = .ok (.bipush 8, 2) := by decide +kernel
theorem dX5_moved_7 : decode cX5_moved 7 = .ok (.if_icmp .ge 42, 3) := by decide +kernel
theorem dX5_moved_10 : decode cX5_moved 10 = .ok (.aload_n 0, 1) := by decide +kernel
theorem dX5_moved_11 : decode cX5_moved 11 = .ok (.iload_n 3, 1) := by decide +kernel
theorem dX5_moved_12 : decode cX5_moved 12 = .ok (.invokevirtual 26, 3) := by decide +kernel
theorem dX5_moved_15 : decode cX5_moved 15 = .ok (.istore 4, 2) := by decide +kernel
theorem dX5_moved_17 : decode cX5_moved 17 = .ok (.iload 4, 2) := by decide +kernel
theorem dX5_moved_19 : decode cX5_moved 19 = .ok (.ifCond .eq 24, 3) := by decide +kernel
theorem dX5_moved_22 : decode cX5_moved 22 = .ok (.iload_n 1, 1) := by decide +kernel
theorem dX5_moved_23 : decode cX5_moved 23 = .ok (.iconst 1, 1) := by decide +kernel
theorem dX5_moved_24 : decode cX5_moved 24 = .ok (.iload_n 3, 1) := by decide +kernel
theorem dX5_moved_25 : decode cX5_moved 25 = .ok (.ishl, 1) := by decide +kernel
theorem dX5_moved_26 : decode cX5_moved 26 = .ok (.iconst (-1), 1) := by decide +kernel
theorem dX5_moved_27 : decode cX5_moved 27 = .ok (.ixor, 1) := by decide +kernel
theorem dX5_moved_28 : decode cX5_moved 28 = .ok (.iand, 1) := by decide +kernel
theorem dX5_moved_29 : decode cX5_moved 29 = .ok (.invokestatic 55, 3) := by decide +kernel
theorem dX5_moved_32 : decode cX5_moved 32 = .ok (.iload 4, 2) := by decide +kernel
theorem dX5_moved_34 : decode cX5_moved 34 = .ok (.if_icmp .lt 9, 3) := by decide +kernel
theorem dX5_moved_37 : decode cX5_moved 37 = .ok (.iload_n 2, 1) := by decide +kernel
theorem dX5_moved_38 : decode cX5_moved 38 = .ok (.iconst 1, 1) := by decide +kernel
theorem dX5_moved_39 : decode cX5_moved 39 = .ok (.iload_n 3, 1) := by decide +kernel
theorem dX5_moved_40 : decode cX5_moved 40 = .ok (.ishl, 1) := by decide +kernel
theorem dX5_moved_41 : decode cX5_moved 41 = .ok (.ior, 1) := by decide +kernel
theorem dX5_moved_42 : decode cX5_moved 42 = .ok (.istore_n 2, 1) := by decide +kernel
theorem dX5_moved_43 : decode cX5_moved 43 = .ok (.iinc 3 1, 3) := by decide +kernel
theorem dX5_moved_46 : decode cX5_moved 46 = .ok (.goto (-42), 3) := by decide +kernel
theorem dX5_moved_49 : decode cX5_moved 49 = .ok (.iload_n 2, 1) := by decide +kernel
theorem dX5_moved_50 : decode cX5_moved 50 = .ok (.ireturn, 1) := by decide +kernel
theorem dX6_init_0 : decode cX6_init 0 = .ok (.aload_n 0, 1) := by decide +kernel
theorem dX6_init_1 : decode cX6_init 1 = .ok (.invokespecial 3, 3) := by decide +kernel
theorem dX6_init_4 : decode cX6_init 4 = .ok (.aload_n 0, 1) := by decide +kernel
theorem dX6_init_5 : decode cX6_init 5 = .ok (.iconst 5, 1) := by decide +kernel
theorem dX6_init_6 : decode cX6_init 6 = .ok (.anewarray 11, 3) := by decide +kernel
theorem dX6_init_9 : decode cX6_init 9 = .ok (.putfield 13, 3) := by decide +kernel
theorem dX6_init_12 : decode cX6_init 12 = .ok (.aload_n 0, 1) := by decide +kernel
theorem dX6_init_13 : decode cX6_init 13 = .ok (.iconst 4, 1) := by decide +kernel
theorem dX6_init_14 : decode cX6_init 14 = .ok (.newarray .int, 2) := by decide +kernel
theorem dX6_init_16 : decode cX6_init 16 = .ok (.putfield 17, 3) := by decide +kernel
theorem dX6_init_19 : decode cX6_init 19 = .ok (.aload_n 0, 1) := by decide +kernel
theorem dX6_init_20 : decode cX6_init 20 = .ok (.iconst 4, 1) := by decide +kernel
theorem dX6_init_21 : decode cX6_init 21 = .ok (.newarray .int, 2) := by decide +kernel
theorem dX6_init_23 : decode cX6_init 23 = .ok (.putfield 21, 3) := by decide +kernel
theorem dX6_init_26 : decode cX6_init 26 = .ok (.iconst 0, 1) := by decide +kernel
theorem dX6_init_27 : decode cX6_init 27 = .ok (.istore_n 1, 1) := by decide +kernel
theorem dX6_init_28 : decode cX6_init 28 = .ok (.iload_n 1, 1) := by decide +kernel
theorem dX6_init_29 : decode cX6_init 29 = .ok (.aload_n 0, 1) := by decide +kernel
theorem dX6_init_30 : decode cX6_init 30 = .ok (.getfield 13, 3) := by decide +kernel
theorem dX6_init_33 : decode cX6_init 33 = .ok (.arraylength, 1) := by decide +kernel
theorem dX6_init_34 : decode cX6_init 34 = .ok (.if_icmp .ge 22, 3) := by decide +kernel
theorem dX6_init_37 : decode cX6_init 37 = .ok (.aload_n 0, 1) := by decide +kernel
theorem dX6_init_38 : decode cX6_init 38 = .ok (.getfield 13, 3) := by decide +kernel
theorem dX6_init_41 : decode cX6_init 41 = .ok (.iload_n 1, 1) := by decide +kernel
theorem dX6_init_42 : decode cX6_init 42 = .ok (.new 11, 3) := by decide +kernel
theorem dX6_init_45 : decode cX6_init 45 = .ok (.dup, 1) := by decide +kernel
theorem dX6_init_46 : decode cX6_init 46 = .ok (.invokespecial 24, 3) := by decide +kernel
theorem dX6_init_49 : decode cX6_init 49 = .ok (.aastore, 1) := by decide +kernel
theorem dX6_init_50 : decode cX6_init 50 = .ok (.iinc 1 1, 3) := by decide +kernel
theorem dX6_init_53 : decode cX6_init 53 = .ok (.goto (-25), 3) := by decide +kernel
theorem dX6_init_56 : decode cX6_init 56 = .ok (.return_, 1) := by decide +kernel
theorem dX7_init_0 : decode cX7_init 0 = .ok (.aload_n 0, 1) := by decide +kernel
theorem dX7_init_1 : decode cX7_init 1 = .ok (.invokespecial 1, 3) := by decide +kernel
theorem dX7_init_4 : decode cX7_init 4 = .ok (.aload_n 0, 1) := by decide +kernel
theorem dX7_init_5 : decode cX7_init 5 = .ok (.bipush 6, 2) := by decide +kernel
theorem dX7_init_7 : decode cX7_init 7 = .ok (.newarray .long, 2) := by decide +kernel
theorem dX7_init_9 : decode cX7_init 9 = .ok (.putfield 7, 3) := by decide +kernel
theorem dX7_init_12 : decode cX7_init 12 = .ok (.aload_n 0, 1) := by decide +kernel
theorem dX7_init_13 : decode cX7_init 13 = .ok (.iconst 0, 1) := by decide +kernel
theorem dX7_init_14 : decode cX7_init 14 = .ok (.putfield 13, 3) := by decide +kernel
theorem dX7_init_17 : decode cX7_init 17 = .ok (.return_, 1) := by decide +kernel
theorem dX7_clear_0 : decode cX7_clear 0 = .ok (.aload_n 0, 1) := by decide +kernel
theorem dX7_clear_1 : decode cX7_clear 1 = .ok (.iconst 0, 1) := by decide +kernel
theorem dX7_clear_2 : decode cX7_clear 2 = .ok (.putfield 13, 3) := by decide +kernel
theorem dX7_clear_5 : decode cX7_clear 5 = .ok (.return_, 1) := by decide +kernel
theorem dX7_add_0 : decode cX7_add 0 = .ok (.aload_n 0, 1) := by decide +kernel
theorem dX7_add_1 : decode cX7_add 1 = .ok (.getfield 13, 3) := by decide +kernel
theorem dX7_add_4 : decode cX7_add 4 = .ok (.ifCond .lt 35, 3) := by decide +kernel
theorem dX7_add_7 : decode cX7_add 7 = .ok (.aload_n 0, 1) := by decide +kernel
theorem dX7_add_8 : decode cX7_add 8 = .ok (.getfield 13, 3) := by decide +kernel
theorem dX7_add_11 : decode cX7_add 11 = .ok (.aload_n 0, 1) := by decide +kernel
theorem dX7_add_12 : decode cX7_add 12 = .ok (.getfield 7, 3) := by decide +kernel
theorem dX7_add_15 : decode cX7_add 15 = .ok (.arraylength, 1) := by decide +kernel
theorem dX7_add_16 : decode cX7_add 16 = .ok (.if_icmp .ge 23, 3) := by decide +kernel
theorem dX7_add_19 : decode cX7_add 19 = .ok (.aload_n 0, 1) := by decide +kernel
theorem dX7_add_20 : decode cX7_add 20 = .ok (.getfield 7, 3) := by decide +kernel
theorem dX7_add_23 : decode cX7_add 23 = .ok (.aload_n 0, 1) := by decide +kernel
theorem dX7_add_24 : decode cX7_add 24 = .ok (.getfield 13, 3) := by decide +kernel
theorem dX7_add_27 : decode cX7_add 27 = .ok (.lload_n 1, 1) := by decide +kernel
theorem dX7_add_28 : decode cX7_add 28 = .ok (.lastore, 1) := by decide +kernel
theorem dX7_add_29 : decode cX7_add 29 = .ok (.aload_n 0, 1) := by decide +kernel
theorem dX7_add_30 : decode cX7_add 30 = .ok (.dup, 1) := by decide +kernel
theorem dX7_add_31 : decode cX7_add 31 = .ok (.getfield 13, 3) := by decide +kernel
theorem dX7_add_34 : decode cX7_add 34 = .ok (.iconst 1, 1) := by decide +kernel
theorem dX7_add_35 : decode cX7_add 35 = .ok (.iadd, 1) := by decide +kernel
theorem dX7_add_36 : decode cX7_add 36 = .ok (.putfield 13, 3) := by decide +kernel
theorem dX7_add_39 : decode cX7_add 39 = .ok (.return_, 1) := by decide +kernel
theorem dX7_at_0 : decode cX7_at 0 = .ok (.iload_n 1, 1) := by decide +kernel
theorem dX7_at_1 : decode cX7_at 1 = .ok (.ifCond .lt 29, 3) := by decide +kernel
theorem dX7_at_4 : decode cX7_at 4 = .ok (.iload_n 1, 1) := by decide +kernel
theorem dX7_at_5 : decode cX7_at 5 = .ok (.aload_n 0, 1) := by decide +kernel
theorem dX7_at_6 : decode cX7_at 6 = .ok (.getfield 13, 3) := by decide +kernel
theorem dX7_at_9 : decode cX7_at 9 = .ok (.if_icmp .ge 21, 3) := by decide +kernel
theorem dX7_at_12 : decode cX7_at 12 = .ok (.iload_n 1, 1) := by decide +kernel
theorem dX7_at_13 : decode cX7_at 13 = .ok (.aload_n 0, 1) := by decide +kernel
theorem dX7_at_14 : decode cX7_at 14 = .ok (.getfield 7, 3) := by decide +kernel
theorem dX7_at_17 : decode cX7_at 17 = .ok (.arraylength, 1) := by decide +kernel
theorem dX7_at_18 : decode cX7_at 18 = .ok (.if_icmp .ge 12, 3) := by decide +kernel
theorem dX7_at_21 : decode cX7_at 21 = .ok (.aload_n 0, 1) := by decide +kernel
theorem dX7_at_22 : decode cX7_at 22 = .ok (.getfield 7, 3) := by decide +kernel
theorem dX7_at_25 : decode cX7_at 25 = .ok (.iload_n 1, 1) := by decide +kernel
theorem dX7_at_26 : decode cX7_at 26 = .ok (.laload, 1) := by decide +kernel
theorem dX7_at_27 : decode cX7_at 27 = .ok (.goto 4, 3) := by decide +kernel
theorem dX7_at_30 : decode cX7_at 30 = .ok (.lconst 0, 1) := by decide +kernel
theorem dX7_at_31 : decode cX7_at 31 = .ok (.lreturn, 1) := by decide +kernel
theorem dX8_init_0 : decode cX8_init 0 = .ok (.aload_n 0, 1) := by decide +kernel
theorem dX8_init_1 : decode cX8_init 1 = .ok (.invokespecial 3, 3) := by decide +kernel
theorem dX8_init_4 : decode cX8_init 4 = .ok (.aload_n 0, 1) := by decide +kernel
theorem dX8_init_5 : decode cX8_init 5 = .ok (.bipush 80, 2) := by decide +kernel
theorem dX8_init_7 : decode cX8_init 7 = .ok (.newarray .int, 2) := by decide +kernel
theorem dX8_init_9 : decode cX8_init 9 = .ok (.putfield 9, 3) := by decide +kernel
theorem dX8_init_12 : decode cX8_init 12 = .ok (.aload_n 0, 1) := by decide +kernel
theorem dX8_init_13 : decode cX8_init 13 = .ok (.iconst 0, 1) := by decide +kernel
theorem dX8_init_14 : decode cX8_init 14 = .ok (.putfield 15, 3) := by decide +kernel
theorem dX8_init_17 : decode cX8_init 17 = .ok (.return_, 1) := by decide +kernel
theorem dX8_add_0 : decode cX8_add 0 = .ok (.aload_n 0, 1) := by decide +kernel
theorem dX8_add_1 : decode cX8_add 1 = .ok (.getfield 15, 3) := by decide +kernel
theorem dX8_add_4 : decode cX8_add 4 = .ok (.ifCond .lt 35, 3) := by decide +kernel
theorem dX8_add_7 : decode cX8_add 7 = .ok (.aload_n 0, 1) := by decide +kernel
theorem dX8_add_8 : decode cX8_add 8 = .ok (.getfield 15, 3) := by decide +kernel
theorem dX8_add_11 : decode cX8_add 11 = .ok (.aload_n 0, 1) := by decide +kernel
theorem dX8_add_12 : decode cX8_add 12 = .ok (.getfield 9, 3) := by decide +kernel
theorem dX8_add_15 : decode cX8_add 15 = .ok (.arraylength, 1) := by decide +kernel
theorem dX8_add_16 : decode cX8_add 16 = .ok (.if_icmp .ge 23, 3) := by decide +kernel
theorem dX8_add_19 : decode cX8_add 19 = .ok (.aload_n 0, 1) := by decide +kernel
theorem dX8_add_20 : decode cX8_add 20 = .ok (.getfield 9, 3) := by decide +kernel
theorem dX8_add_23 : decode cX8_add 23 = .ok (.aload_n 0, 1) := by decide +kernel
theorem dX8_add_24 : decode cX8_add 24 = .ok (.getfield 15, 3) := by decide +kernel
theorem dX8_add_27 : decode cX8_add 27 = .ok (.iload_n 1, 1) := by decide +kernel
theorem dX8_add_28 : decode cX8_add 28 = .ok (.iastore, 1) := by decide +kernel
theorem dX8_add_29 : decode cX8_add 29 = .ok (.aload_n 0, 1) := by decide +kernel
theorem dX8_add_30 : decode cX8_add 30 = .ok (.dup, 1) := by decide +kernel
theorem dX8_add_31 : decode cX8_add 31 = .ok (.getfield 15, 3) := by decide +kernel
theorem dX8_add_34 : decode cX8_add 34 = .ok (.iconst 1, 1) := by decide +kernel
theorem dX8_add_35 : decode cX8_add 35 = .ok (.iadd, 1) := by decide +kernel
theorem dX8_add_36 : decode cX8_add 36 = .ok (.putfield 15, 3) := by decide +kernel
theorem dX8_add_39 : decode cX8_add 39 = .ok (.return_, 1) := by decide +kernel
theorem dX8_at_0 : decode cX8_at 0 = .ok (.iload_n 1, 1) := by decide +kernel
theorem dX8_at_1 : decode cX8_at 1 = .ok (.ifCond .lt 29, 3) := by decide +kernel
theorem dX8_at_4 : decode cX8_at 4 = .ok (.iload_n 1, 1) := by decide +kernel
theorem dX8_at_5 : decode cX8_at 5 = .ok (.aload_n 0, 1) := by decide +kernel
theorem dX8_at_6 : decode cX8_at 6 = .ok (.getfield 15, 3) := by decide +kernel
theorem dX8_at_9 : decode cX8_at 9 = .ok (.if_icmp .ge 21, 3) := by decide +kernel
theorem dX8_at_12 : decode cX8_at 12 = .ok (.iload_n 1, 1) := by decide +kernel
theorem dX8_at_13 : decode cX8_at 13 = .ok (.aload_n 0, 1) := by decide +kernel
theorem dX8_at_14 : decode cX8_at 14 = .ok (.getfield 9, 3) := by decide +kernel
theorem dX8_at_17 : decode cX8_at 17 = .ok (.arraylength, 1) := by decide +kernel
theorem dX8_at_18 : decode cX8_at 18 = .ok (.if_icmp .ge 12, 3) := by decide +kernel
theorem dX8_at_21 : decode cX8_at 21 = .ok (.aload_n 0, 1) := by decide +kernel
theorem dX8_at_22 : decode cX8_at 22 = .ok (.getfield 9, 3) := by decide +kernel
theorem dX8_at_25 : decode cX8_at 25 = .ok (.iload_n 1, 1) := by decide +kernel
theorem dX8_at_26 : decode cX8_at 26 = .ok (.iaload, 1) := by decide +kernel
theorem dX8_at_27 : decode cX8_at 27 = .ok (.goto 4, 3) := by decide +kernel
theorem dX8_at_30 : decode cX8_at 30 = .ok (.iconst (-1), 1) := by decide +kernel
theorem dX8_at_31 : decode cX8_at 31 = .ok (.ireturn, 1) := by decide +kernel
theorem dX8_digitAt_0 : decode cX8_digitAt 0 = .ok (.aload_n 0, 1) := by decide +kernel
theorem dX8_digitAt_1 : decode cX8_digitAt 1 = .ok (.iload_n 1, 1) := by decide +kernel
theorem dX8_digitAt_2 : decode cX8_digitAt 2 = .ok (.invokevirtual 19, 3) := by decide +kernel
theorem dX8_digitAt_5 : decode cX8_digitAt 5 = .ok (.istore_n 2, 1) := by decide +kernel
theorem dX8_digitAt_6 : decode cX8_digitAt 6 = .ok (.iload_n 2, 1) := by decide +kernel
theorem dX8_digitAt_7 : decode cX8_digitAt 7 = .ok (.bipush 48, 2) := by decide +kernel
theorem dX8_digitAt_9 : decode cX8_digitAt 9 = .ok (.if_icmp .lt 13, 3) := by decide +kernel
theorem dX8_digitAt_12 : decode cX8_digitAt 12 = .ok (.iload_n 2, 1) := by decide +kernel
theorem dX8_digitAt_13 : decode cX8_digitAt 13 = .ok (.bipush 57, 2) := by decide +kernel
theorem dX8_digitAt_15 : decode cX8_digitAt 15 = .ok (.if_icmp .gt 7, 3) := by decide +kernel
theorem dX8_digitAt_18 : decode cX8_digitAt 18 = .ok (.iconst 1, 1) := by decide +kernel
theorem dX8_digitAt_19 : decode cX8_digitAt 19 = .ok (.goto 4, 3) := by decide +kernel
theorem dX8_digitAt_22 : decode cX8_digitAt 22 = .ok (.iconst 0, 1) := by decide +kernel
theorem dX8_digitAt_23 : decode cX8_digitAt 23 = .ok (.ireturn, 1) := by decide +kernel
theorem dX8_number_0 : decode cX8_number 0 = .ok (.iconst 0, 1) := by decide +kernel
theorem dX8_number_1 : decode cX8_number 1 = .ok (.istore_n 3, 1) := by decide +kernel
theorem dX8_number_2 : decode cX8_number 2 = .ok (.iconst 0, 1) := by decide +kernel
theorem dX8_number_3 : decode cX8_number 3 = .ok (.istore 4, 2) := by decide +kernel
theorem dX8_number_5 : decode cX8_number 5 = .ok (.iload 4, 2) := by decide +kernel
theorem dX8_number_7 : decode cX8_number 7 = .ok (.iload_n 2, 1) := by decide +kernel
theorem dX8_number_8 : decode cX8_number 8 = .ok (.if_icmp .ge 37, 3) := by decide +kernel
theorem dX8_number_11 : decode cX8_number 11 = .ok (.aload_n 0, 1) := by decide +kernel
theorem dX8_number_12 : decode cX8_number 12 = .ok (.iload_n 1, 1) := by decide +kernel
theorem dX8_number_13 : decode cX8_number 13 = .ok (.iload 4, 2) := by decide +kernel
theorem dX8_number_15 : decode cX8_number 15 = .ok (.iadd, 1) := by decide +kernel
theorem dX8_number_16 : decode cX8_number 16 = .ok (.invokevirtual 23, 3) := by decide +kernel
theorem dX8_number_19 : decode cX8_number 19 = .ok (.ifCond .eq 26, 3) := by decide +kernel
theorem dX8_number_22 : decode cX8_number 22 = .ok (.iload_n 3, 1) := by decide +kernel
theorem dX8_number_23 : decode cX8_number 23 = .ok (.bipush 10, 2) := by decide +kernel
theorem dX8_number_25 : decode cX8_number 25 = .ok (.imul, 1) := by decide +kernel
theorem dX8_number_26 : decode cX8_number 26 = .ok (.aload_n 0, 1) := by decide +kernel
theorem dX8_number_27 : decode cX8_number 27 = .ok (.iload_n 1, 1) := by decide +kernel
theorem dX8_number_28 : decode cX8_number 28 = .ok (.iload 4, 2) := by decide +kernel
theorem dX8_number_30 : decode cX8_number 30 = .ok (.iadd, 1) := by decide +kernel
theorem dX8_number_31 : decode cX8_number 31 = .ok (.invokevirtual 19, 3) := by decide +kernel
theorem dX8_number_34 : decode cX8_number 34 = .ok (.iadd, 1) := by decide +kernel
theorem dX8_number_35 : decode cX8_number 35 = .ok (.bipush 48, 2) := by decide +kernel
theorem dX8_number_37 : decode cX8_number 37 = .ok (.isub, 1) := by decide +kernel
theorem dX8_number_38 : decode cX8_number 38 = .ok (.istore_n 3, 1) := by decide +kernel
theorem dX8_number_39 : decode cX8_number 39 = .ok (.iinc 4 1, 3) := by decide +kernel
theorem dX8_number_42 : decode cX8_number 42 = .ok (.goto (-37), 3) := by decide +kernel
theorem dX8_number_45 : decode cX8_number 45 = .ok (.iload_n 3, 1) := by decide +kernel
theorem dX8_number_46 : decode cX8_number 46 = .ok (.ireturn, 1) := by decide +kernel
theorem dX9_init_0 : decode cX9_init 0 = .ok (.aload_n 0, 1) := by decide +kernel
theorem dX9_init_1 : decode cX9_init 1 = .ok (.invokespecial 3, 3) := by decide +kernel
theorem dX9_init_4 : decode cX9_init 4 = .ok (.aload_n 0, 1) := by decide +kernel
theorem dX9_init_5 : decode cX9_init 5 = .ok (.iconst 5, 1) := by decide +kernel
theorem dX9_init_6 : decode cX9_init 6 = .ok (.putfield 9, 3) := by decide +kernel
theorem dX9_init_9 : decode cX9_init 9 = .ok (.aload_n 0, 1) := by decide +kernel
theorem dX9_init_10 : decode cX9_init 10 = .ok (.iconst 0, 1) := by decide +kernel
theorem dX9_init_11 : decode cX9_init 11 = .ok (.putfield 15, 3) := by decide +kernel
theorem dX9_init_14 : decode cX9_init 14 = .ok (.aload_n 0, 1) := by decide +kernel
theorem dX9_init_15 : decode cX9_init 15 = .ok (.iconst 2, 1) := by decide +kernel
theorem dX9_init_16 : decode cX9_init 16 = .ok (.putfield 18, 3) := by decide +kernel
theorem dX9_init_19 : decode cX9_init 19 = .ok (.aload_n 0, 1) := by decide +kernel
theorem dX9_init_20 : decode cX9_init 20 = .ok (.aload_n 1, 1) := by decide +kernel
theorem dX9_init_21 : decode cX9_init 21 = .ok (.putfield 21, 3) := by decide +kernel
theorem dX9_init_24 : decode cX9_init 24 = .ok (.aload_n 0, 1) := by decide +kernel
theorem dX9_init_25 : decode cX9_init 25 = .ok (.aload_n 2, 1) := by decide +kernel
theorem dX9_init_26 : decode cX9_init 26 = .ok (.putfield 25, 3) := by decide +kernel
theorem dX9_init_29 : decode cX9_init 29 = .ok (.aload_n 0, 1) := by decide +kernel
theorem dX9_init_30 : decode cX9_init 30 = .ok (.aload_n 3, 1) := by decide +kernel
theorem dX9_init_31 : decode cX9_init 31 = .ok (.putfield 28, 3) := by decide +kernel
theorem dX9_init_34 : decode cX9_init 34 = .ok (.return_, 1) := by decide +kernel
theorem dX9_volume_0 : decode cX9_volume 0 = .ok (.iload_n 2, 1) := by decide +kernel
theorem dX9_volume_1 : decode cX9_volume 1 = .ok (.ifCond .eq 10, 3) := by decide +kernel
theorem dX9_volume_4 : decode cX9_volume 4 = .ok (.aload_n 1, 1) := by decide +kernel
theorem dX9_volume_5 : decode cX9_volume 5 = .ok (.getfield 32, 3) := by decide +kernel
theorem dX9_volume_8 : decode cX9_volume 8 = .ok (.ifCond .ne 5, 3) := by decide +kernel
theorem dX9_volume_11 : decode cX9_volume 11 = .ok (.iconst 0, 1) := by decide +kernel
theorem dX9_volume_12 : decode cX9_volume 12 = .ok (.ireturn, 1) := by decide +kernel
theorem dX9_volume_13 : decode cX9_volume 13 = .ok (.iconst 0, 1) := by decide +kernel
theorem dX9_volume_14 : decode cX9_volume 14 = .ok (.istore_n 3, 1) := by decide +kernel
theorem dX9_volume_15 : decode cX9_volume 15 = .ok (.iconst 0, 1) := by decide +kernel
theorem dX9_volume_16 : decode cX9_volume 16 = .ok (.istore 4, 2) := by decide +kernel
theorem dX9_volume_18 : decode cX9_volume 18 = .ok (.iconst 0, 1) := by decide +kernel
theorem dX9_volume_19 : decode cX9_volume 19 = .ok (.istore 5, 2) := by decide +kernel
theorem dX9_volume_21 : decode cX9_volume 21 = .ok (.iload 5, 2) := by decide +kernel
theorem dX9_volume_23 : decode cX9_volume 23 = .ok (.bipush 8, 2) := by decide +kernel
theorem dX9_volume_25 : decode cX9_volume 25 = .ok (.if_icmp .ge 41, 3) := by decide +kernel
theorem dX9_volume_28 : decode cX9_volume 28 = .ok (.iload_n 2, 1) := by decide +kernel
theorem dX9_volume_29 : decode cX9_volume 29 = .ok (.iload 5, 2) := by decide +kernel
theorem dX9_volume_31 : decode cX9_volume 31 = .ok (.ishr, 1) := by decide +kernel
theorem dX9_volume_32 : decode cX9_volume 32 = .ok (.iconst 1, 1) := by decide +kernel
theorem dX9_volume_33 : decode cX9_volume 33 = .ok (.iand, 1) := by decide +kernel
theorem dX9_volume_34 : decode cX9_volume 34 = .ok (.ifCond .eq 26, 3) := by decide +kernel
theorem dX9_volume_37 : decode cX9_volume 37 = .ok (.iload_n 3, 1) := by decide +kernel
theorem dX9_volume_38 : decode cX9_volume 38 = .ok (.aload_n 0, 1) := by decide +kernel
theorem dX9_volume_39 : decode cX9_volume 39 = .ok (.getfield 21, 3) := by decide +kernel
theorem dX9_volume_42 : decode cX9_volume 42 = .ok (.iload 5, 2) := by decide +kernel
theorem dX9_volume_44 : decode cX9_volume 44 = .ok (.invokevirtual 37, 3) := by decide +kernel
theorem dX9_volume_47 : decode cX9_volume 47 = .ok (.iadd, 1) := by decide +kernel
theorem dX9_volume_48 : decode cX9_volume 48 = .ok (.istore_n 3, 1) := by decide +kernel
theorem dX9_volume_49 : decode cX9_volume 49 = .ok (.iload 4, 2) := by decide +kernel
theorem dX9_volume_51 : decode cX9_volume 51 = .ok (.aload_n 1, 1) := by decide +kernel
theorem dX9_volume_52 : decode cX9_volume 52 = .ok (.iload 5, 2) := by decide +kernel
theorem dX9_volume_54 : decode cX9_volume 54 = .ok (.invokevirtual 43, 3) := by decide +kernel
theorem dX9_volume_57 : decode cX9_volume 57 = .ok (.iadd, 1) := by decide +kernel
theorem dX9_volume_58 : decode cX9_volume 58 = .ok (.istore 4, 2) := by decide +kernel
theorem dX9_volume_60 : decode cX9_volume 60 = .ok (.iinc 5 1, 3) := by decide +kernel
theorem dX9_volume_63 : decode cX9_volume 63 = .ok (.goto (-42), 3) := by decide +kernel
theorem dX9_volume_66 : decode cX9_volume 66 = .ok (.iload_n 2, 1) := by decide +kernel
theorem dX9_volume_67 : decode cX9_volume 67 = .ok (.invokestatic 46, 3) := by decide +kernel
theorem dX9_volume_70 : decode cX9_volume 70 = .ok (.istore 5, 2) := by decide +kernel
theorem dX9_volume_72 : decode cX9_volume 72 = .ok (.aload_n 0, 1) := by decide +kernel
theorem dX9_volume_73 : decode cX9_volume 73 = .ok (.getfield 28, 3) := by decide +kernel
theorem dX9_volume_76 : decode cX9_volume 76 = .ok (.iload_n 3, 1) := by decide +kernel
theorem dX9_volume_77 : decode cX9_volume 77 = .ok (.iload 4, 2) := by decide +kernel
theorem dX9_volume_79 : decode cX9_volume 79 = .ok (.iload 5, 2) := by decide +kernel
theorem dX9_volume_81 : decode cX9_volume 81 = .ok (.aload_n 0, 1) := by decide +kernel
theorem dX9_volume_82 : decode cX9_volume 82 = .ok (.getfield 9, 3) := by decide +kernel
theorem dX9_volume_85 : decode cX9_volume 85 = .ok (.aload_n 0, 1) := by decide +kernel
theorem dX9_volume_86 : decode cX9_volume 86 = .ok (.getfield 15, 3) := by decide +kernel
theorem dX9_volume_89 : decode cX9_volume 89 = .ok (.aload_n 1, 1) := by decide +kernel
theorem dX9_volume_90 : decode cX9_volume 90 = .ok (.getfield 32, 3) := by decide +kernel
theorem dX9_volume_93 : decode cX9_volume 93 = .ok (.aload_n 1, 1) := by decide +kernel
theorem dX9_volume_94 : decode cX9_volume 94 = .ok (.getfield 51, 3) := by decide +kernel
theorem dX9_volume_97 : decode cX9_volume 97 = .ok (.bipush 60, 2) := by decide +kernel
theorem dX9_volume_99 : decode cX9_volume 99 = .ok (.irem, 1) := by decide +kernel
theorem dX9_volume_100 : decode cX9_volume 100 = .ok (.invokevirtual 54, 3) := by decide +kernel
theorem dX9_volume_103 : decode cX9_volume 103 = .ok (.ireturn, 1) := by decide +kernel
theorem dX9_ring_0 : decode cX9_ring 0 = .ok (.aload_n 0, 1) := by decide +kernel
theorem dX9_ring_1 : decode cX9_ring 1 = .ok (.aload_n 1, 1) := by decide +kernel
theorem dX9_ring_2 : decode cX9_ring 2 = .ok (.aload_n 1, 1) := by decide +kernel
theorem dX9_ring_3 : decode cX9_ring 3 = .ok (.getfield 68, 3) := by decide +kernel
theorem dX9_ring_6 : decode cX9_ring 6 = .ok (.invokevirtual 64, 3) := by decide +kernel
theorem dX9_ring_9 : decode cX9_ring 9 = .ok (.ifCond .le 7, 3) := by decide +kernel
theorem dX9_ring_12 : decode cX9_ring 12 = .ok (.iconst 1, 1) := by decide +kernel
theorem dX9_ring_13 : decode cX9_ring 13 = .ok (.goto 4, 3) := by decide +kernel
theorem dX9_ring_16 : decode cX9_ring 16 = .ok (.iconst 0, 1) := by decide +kernel
theorem dX9_ring_17 : decode cX9_ring 17 = .ok (.istore_n 2, 1) := by decide +kernel
theorem dX9_ring_18 : decode cX9_ring 18 = .ok (.iload_n 2, 1) := by decide +kernel
theorem dX9_ring_19 : decode cX9_ring 19 = .ok (.ifCond .eq 45, 3) := by decide +kernel
theorem dX9_ring_22 : decode cX9_ring 22 = .ok (.aload_n 1, 1) := by decide +kernel
theorem dX9_ring_23 : decode cX9_ring 23 = .ok (.dup, 1) := by decide +kernel
theorem dX9_ring_24 : decode cX9_ring 24 = .ok (.getfield 71, 3) := by decide +kernel
theorem dX9_ring_27 : decode cX9_ring 27 = .ok (.iconst 1, 1) := by decide +kernel
theorem dX9_ring_28 : decode cX9_ring 28 = .ok (.iadd, 1) := by decide +kernel
theorem dX9_ring_29 : decode cX9_ring 29 = .ok (.putfield 71, 3) := by decide +kernel
theorem dX9_ring_32 : decode cX9_ring 32 = .ok (.aload_n 1, 1) := by decide +kernel
theorem dX9_ring_33 : decode cX9_ring 33 = .ok (.iconst 0, 1) := by decide +kernel
theorem dX9_ring_34 : decode cX9_ring 34 = .ok (.putfield 74, 3) := by decide +kernel
theorem dX9_ring_37 : decode cX9_ring 37 = .ok (.aload_n 1, 1) := by decide +kernel
theorem dX9_ring_38 : decode cX9_ring 38 = .ok (.getfield 71, 3) := by decide +kernel
theorem dX9_ring_41 : decode cX9_ring 41 = .ok (.bipush 10, 2) := by decide +kernel
theorem dX9_ring_43 : decode cX9_ring 43 = .ok (.irem, 1) := by decide +kernel
theorem dX9_ring_44 : decode cX9_ring 44 = .ok (.ifCond .ne 53, 3) := by decide +kernel
theorem dX9_ring_47 : decode cX9_ring 47 = .ok (.aload_n 1, 1) := by decide +kernel
theorem dX9_ring_48 : decode cX9_ring 48 = .ok (.iconst 0, 1) := by decide +kernel
theorem dX9_ring_49 : decode cX9_ring 49 = .ok (.aload_n 1, 1) := by decide +kernel
theorem dX9_ring_50 : decode cX9_ring 50 = .ok (.getfield 32, 3) := by decide +kernel
theorem dX9_ring_53 : decode cX9_ring 53 = .ok (.iconst 1, 1) := by decide +kernel
theorem dX9_ring_54 : decode cX9_ring 54 = .ok (.isub, 1) := by decide +kernel
theorem dX9_ring_55 : decode cX9_ring 55 = .ok (.invokestatic 77, 3) := by decide +kernel
theorem dX9_ring_58 : decode cX9_ring 58 = .ok (.putfield 32, 3) := by decide +kernel
theorem dX9_ring_61 : decode cX9_ring 61 = .ok (.goto 36, 3) := by decide +kernel
theorem dX9_ring_64 : decode cX9_ring 64 = .ok (.aload_n 1, 1) := by decide +kernel
theorem dX9_ring_65 : decode cX9_ring 65 = .ok (.dup, 1) := by decide +kernel
theorem dX9_ring_66 : decode cX9_ring 66 = .ok (.getfield 74, 3) := by decide +kernel
theorem dX9_ring_69 : decode cX9_ring 69 = .ok (.iconst 1, 1) := by decide +kernel
theorem dX9_ring_70 : decode cX9_ring 70 = .ok (.iadd, 1) := by decide +kernel
theorem dX9_ring_71 : decode cX9_ring 71 = .ok (.putfield 74, 3) := by decide +kernel
theorem dX9_ring_74 : decode cX9_ring 74 = .ok (.aload_n 1, 1) := by decide +kernel
theorem dX9_ring_75 : decode cX9_ring 75 = .ok (.getfield 74, 3) := by decide +kernel
theorem dX9_ring_78 : decode cX9_ring 78 = .ok (.aload_n 0, 1) := by decide +kernel
theorem dX9_ring_79 : decode cX9_ring 79 = .ok (.getfield 18, 3) := by decide +kernel
theorem dX9_ring_82 : decode cX9_ring 82 = .ok (.iconst 1, 1) := by decide +kernel
theorem dX9_ring_83 : decode cX9_ring 83 = .ok (.iadd, 1) := by decide +kernel
theorem dX9_ring_84 : decode cX9_ring 84 = .ok (.if_icmp .ne 13, 3) := by decide +kernel
theorem dX9_ring_87 : decode cX9_ring 87 = .ok (.aload_n 1, 1) := by decide +kernel
theorem dX9_ring_88 : decode cX9_ring 88 = .ok (.dup, 1) := by decide +kernel
theorem dX9_ring_89 : decode cX9_ring 89 = .ok (.getfield 83, 3) := by decide +kernel
theorem dX9_ring_92 : decode cX9_ring 92 = .ok (.iconst 1, 1) := by decide +kernel
theorem dX9_ring_93 : decode cX9_ring 93 = .ok (.iadd, 1) := by decide +kernel
theorem dX9_ring_94 : decode cX9_ring 94 = .ok (.putfield 83, 3) := by decide +kernel
theorem dX9_ring_97 : decode cX9_ring 97 = .ok (.aload_n 1, 1) := by decide +kernel
theorem dX9_ring_98 : decode cX9_ring 98 = .ok (.invokevirtual 86, 3) := by decide +kernel
theorem dX9_ring_101 : decode cX9_ring 101 = .ok (.aload_n 1, 1) := by decide +kernel
theorem dX9_ring_102 : decode cX9_ring 102 = .ok (.dup, 1) := by decide +kernel
theorem dX9_ring_103 : decode cX9_ring 103 = .ok (.getfield 89, 3) := by decide +kernel
theorem dX9_ring_106 : decode cX9_ring 106 = .ok (.aload_n 0, 1) := by decide +kernel
theorem dX9_ring_107 : decode cX9_ring 107 = .ok (.getfield 21, 3) := by decide +kernel
theorem dX9_ring_110 : decode cX9_ring 110 = .ok (.aload_n 1, 1) := by decide +kernel
theorem dX9_ring_111 : decode cX9_ring 111 = .ok (.getfield 68, 3) := by decide +kernel
theorem dX9_ring_114 : decode cX9_ring 114 = .ok (.invokevirtual 92, 3) := by decide +kernel
theorem dX9_ring_117 : decode cX9_ring 117 = .ok (.iadd, 1) := by decide +kernel
theorem dX9_ring_118 : decode cX9_ring 118 = .ok (.putfield 89, 3) := by decide +kernel
theorem dX9_ring_121 : decode cX9_ring 121 = .ok (.aload_n 1, 1) := by decide +kernel
theorem dX9_ring_122 : decode cX9_ring 122 = .ok (.dup, 1) := by decide +kernel
theorem dX9_ring_123 : decode cX9_ring 123 = .ok (.getfield 51, 3) := by decide +kernel
theorem dX9_ring_126 : decode cX9_ring 126 = .ok (.iconst 1, 1) := by decide +kernel
theorem dX9_ring_127 : decode cX9_ring 127 = .ok (.iadd, 1) := by decide +kernel
theorem dX9_ring_128 : decode cX9_ring 128 = .ok (.putfield 51, 3) := by decide +kernel
theorem dX9_ring_131 : decode cX9_ring 131 = .ok (.iload_n 2, 1) := by decide +kernel
theorem dX9_ring_132 : decode cX9_ring 132 = .ok (.ireturn, 1) := by decide +kernel
theorem dX9_minute_0 : decode cX9_minute 0 = .ok (.aload_n 0, 1) := by decide +kernel
theorem dX9_minute_1 : decode cX9_minute 1 = .ok (.aload_n 1, 1) := by decide +kernel
theorem dX9_minute_2 : decode cX9_minute 2 = .ok (.invokevirtual 95, 3) := by decide +kernel
theorem dX9_minute_5 : decode cX9_minute 5 = .ok (.pop, 1) := by decide +kernel
theorem dX9_minute_6 : decode cX9_minute 6 = .ok (.aload_n 1, 1) := by decide +kernel
theorem dX9_minute_7 : decode cX9_minute 7 = .ok (.dup, 1) := by decide +kernel
theorem dX9_minute_8 : decode cX9_minute 8 = .ok (.getfield 99, 3) := by decide +kernel
theorem dX9_minute_11 : decode cX9_minute 11 = .ok (.aload_n 0, 1) := by decide +kernel
theorem dX9_minute_12 : decode cX9_minute 12 = .ok (.getfield 25, 3) := by decide +kernel
theorem dX9_minute_15 : decode cX9_minute 15 = .ok (.aload_n 1, 1) := by decide +kernel
theorem dX9_minute_16 : decode cX9_minute 16 = .ok (.getfield 74, 3) := by decide +kernel
theorem dX9_minute_19 : decode cX9_minute 19 = .ok (.invokevirtual 102, 3) := by decide +kernel
theorem dX9_minute_22 : decode cX9_minute 22 = .ok (.aload_n 0, 1) := by decide +kernel
theorem dX9_minute_23 : decode cX9_minute 23 = .ok (.getfield 25, 3) := by decide +kernel
theorem dX9_minute_26 : decode cX9_minute 26 = .ok (.aload_n 1, 1) := by decide +kernel
theorem dX9_minute_27 : decode cX9_minute 27 = .ok (.getfield 99, 3) := by decide +kernel
theorem dX9_minute_30 : decode cX9_minute 30 = .ok (.invokevirtual 105, 3) := by decide +kernel
theorem dX9_minute_33 : decode cX9_minute 33 = .ok (.ior, 1) := by decide +kernel
theorem dX9_minute_34 : decode cX9_minute 34 = .ok (.ior, 1) := by decide +kernel
theorem dX9_minute_35 : decode cX9_minute 35 = .ok (.putfield 99, 3) := by decide +kernel
theorem dX9_minute_38 : decode cX9_minute 38 = .ok (.return_, 1) := by decide +kernel
theorem dX10_init_0 : decode cX10_init 0 = .ok (.aload_n 0, 1) := by decide +kernel
theorem dX10_init_1 : decode cX10_init 1 = .ok (.invokespecial 1, 3) := by decide +kernel
theorem dX10_init_4 : decode cX10_init 4 = .ok (.aload_n 0, 1) := by decide +kernel
theorem dX10_init_5 : decode cX10_init 5 = .ok (.new 7, 3) := by decide +kernel
theorem dX10_init_8 : decode cX10_init 8 = .ok (.dup, 1) := by decide +kernel
theorem dX10_init_9 : decode cX10_init 9 = .ok (.invokespecial 9, 3) := by decide +kernel
theorem dX10_init_12 : decode cX10_init 12 = .ok (.putfield 10, 3) := by decide +kernel
theorem dX10_init_15 : decode cX10_init 15 = .ok (.aload_n 0, 1) := by decide +kernel
theorem dX10_init_16 : decode cX10_init 16 = .ok (.new 16, 3) := by decide +kernel
theorem dX10_init_19 : decode cX10_init 19 = .ok (.dup, 1) := by decide +kernel
theorem dX10_init_20 : decode cX10_init 20 = .ok (.invokespecial 18, 3) := by decide +kernel
theorem dX10_init_23 : decode cX10_init 23 = .ok (.putfield 19, 3) := by decide +kernel
theorem dX10_init_26 : decode cX10_init 26 = .ok (.aload_n 0, 1) := by decide +kernel
theorem dX10_init_27 : decode cX10_init 27 = .ok (.new 23, 3) := by decide +kernel
theorem dX10_init_30 : decode cX10_init 30 = .ok (.dup, 1) := by decide +kernel
theorem dX10_init_31 : decode cX10_init 31 = .ok (.new 25, 3) := by decide +kernel
theorem dX10_init_34 : decode cX10_init 34 = .ok (.dup, 1) := by decide +kernel
theorem dX10_init_35 : decode cX10_init 35 = .ok (.invokespecial 27, 3) := by decide +kernel
theorem dX10_init_38 : decode cX10_init 38 = .ok (.new 25, 3) := by decide +kernel
theorem dX10_init_41 : decode cX10_init 41 = .ok (.dup, 1) := by decide +kernel
theorem dX10_init_42 : decode cX10_init 42 = .ok (.invokespecial 27, 3) := by decide +kernel
theorem dX10_init_45 : decode cX10_init 45 = .ok (.new 28, 3) := by decide +kernel
theorem dX10_init_48 : decode cX10_init 48 = .ok (.dup, 1) := by decide +kernel
theorem dX10_init_49 : decode cX10_init 49 = .ok (.invokespecial 30, 3) := by decide +kernel
theorem dX10_init_52 : decode cX10_init 52 = .ok (.invokespecial 31, 3) := by decide +kernel
theorem dX10_init_55 : decode cX10_init 55 = .ok (.putfield 34, 3) := by decide +kernel
theorem dX10_init_58 : decode cX10_init 58 = .ok (.aload_n 0, 1) := by decide +kernel
theorem dX10_init_59 : decode cX10_init 59 = .ok (.new 23, 3) := by decide +kernel
theorem dX10_init_62 : decode cX10_init 62 = .ok (.dup, 1) := by decide +kernel
theorem dX10_init_63 : decode cX10_init 63 = .ok (.aload_n 0, 1) := by decide +kernel
theorem dX10_init_64 : decode cX10_init 64 = .ok (.getfield 34, 3) := by decide +kernel
theorem dX10_init_67 : decode cX10_init 67 = .ok (.getfield 38, 3) := by decide +kernel
theorem dX10_init_70 : decode cX10_init 70 = .ok (.aload_n 0, 1) := by decide +kernel
theorem dX10_init_71 : decode cX10_init 71 = .ok (.getfield 34, 3) := by decide +kernel
theorem dX10_init_74 : decode cX10_init 74 = .ok (.getfield 42, 3) := by decide +kernel
theorem dX10_init_77 : decode cX10_init 77 = .ok (.aload_n 0, 1) := by decide +kernel
theorem dX10_init_78 : decode cX10_init 78 = .ok (.getfield 34, 3) := by decide +kernel
theorem dX10_init_81 : decode cX10_init 81 = .ok (.getfield 45, 3) := by decide +kernel
theorem dX10_init_84 : decode cX10_init 84 = .ok (.invokespecial 31, 3) := by decide +kernel
theorem dX10_init_87 : decode cX10_init 87 = .ok (.putfield 49, 3) := by decide +kernel
theorem dX10_init_90 : decode cX10_init 90 = .ok (.aload_n 0, 1) := by decide +kernel
theorem dX10_init_91 : decode cX10_init 91 = .ok (.new 28, 3) := by decide +kernel
theorem dX10_init_94 : decode cX10_init 94 = .ok (.dup, 1) := by decide +kernel
theorem dX10_init_95 : decode cX10_init 95 = .ok (.invokespecial 30, 3) := by decide +kernel
theorem dX10_init_98 : decode cX10_init 98 = .ok (.putfield 52, 3) := by decide +kernel
theorem dX10_init_101 : decode cX10_init 101 = .ok (.aload_n 0, 1) := by decide +kernel
theorem dX10_init_102 : decode cX10_init 102 = .ok (.new 55, 3) := by decide +kernel
theorem dX10_init_105 : decode cX10_init 105 = .ok (.dup, 1) := by decide +kernel
theorem dX10_init_106 : decode cX10_init 106 = .ok (.invokespecial 57, 3) := by decide +kernel
theorem dX10_init_109 : decode cX10_init 109 = .ok (.putfield 58, 3) := by decide +kernel
theorem dX10_init_112 : decode cX10_init 112 = .ok (.aload_n 0, 1) := by decide +kernel
theorem dX10_init_113 : decode cX10_init 113 = .ok (.new 55, 3) := by decide +kernel
theorem dX10_init_116 : decode cX10_init 116 = .ok (.dup, 1) := by decide +kernel
theorem dX10_init_117 : decode cX10_init 117 = .ok (.invokespecial 57, 3) := by decide +kernel
theorem dX10_init_120 : decode cX10_init 120 = .ok (.putfield 62, 3) := by decide +kernel
theorem dX10_init_123 : decode cX10_init 123 = .ok (.aload_n 0, 1) := by decide +kernel
theorem dX10_init_124 : decode cX10_init 124 = .ok (.new 55, 3) := by decide +kernel
theorem dX10_init_127 : decode cX10_init 127 = .ok (.dup, 1) := by decide +kernel
theorem dX10_init_128 : decode cX10_init 128 = .ok (.invokespecial 57, 3) := by decide +kernel
theorem dX10_init_131 : decode cX10_init 131 = .ok (.putfield 65, 3) := by decide +kernel
theorem dX10_init_134 : decode cX10_init 134 = .ok (.aload_n 0, 1) := by decide +kernel
theorem dX10_init_135 : decode cX10_init 135 = .ok (.new 68, 3) := by decide +kernel
theorem dX10_init_138 : decode cX10_init 138 = .ok (.dup, 1) := by decide +kernel
theorem dX10_init_139 : decode cX10_init 139 = .ok (.invokespecial 70, 3) := by decide +kernel
theorem dX10_init_142 : decode cX10_init 142 = .ok (.putfield 71, 3) := by decide +kernel
theorem dX10_init_145 : decode cX10_init 145 = .ok (.aload_n 0, 1) := by decide +kernel
theorem dX10_init_146 : decode cX10_init 146 = .ok (.iconst 3, 1) := by decide +kernel
theorem dX10_init_147 : decode cX10_init 147 = .ok (.anewarray 55, 3) := by decide +kernel
theorem dX10_init_150 : decode cX10_init 150 = .ok (.putfield 75, 3) := by decide +kernel
theorem dX10_init_153 : decode cX10_init 153 = .ok (.aload_n 0, 1) := by decide +kernel
theorem dX10_init_154 : decode cX10_init 154 = .ok (.iconst 0, 1) := by decide +kernel
theorem dX10_init_155 : decode cX10_init 155 = .ok (.putfield 79, 3) := by decide +kernel
theorem dX10_init_158 : decode cX10_init 158 = .ok (.aload_n 0, 1) := by decide +kernel
theorem dX10_init_159 : decode cX10_init 159 = .ok (.new 83, 3) := by decide +kernel
theorem dX10_init_162 : decode cX10_init 162 = .ok (.dup, 1) := by decide +kernel
theorem dX10_init_163 : decode cX10_init 163 = .ok (.invokespecial 85, 3) := by decide +kernel
theorem dX10_init_166 : decode cX10_init 166 = .ok (.putfield 86, 3) := by decide +kernel
theorem dX10_init_169 : decode cX10_init 169 = .ok (.aload_n 0, 1) := by decide +kernel
theorem dX10_init_170 : decode cX10_init 170 = .ok (.new 90, 3) := by decide +kernel
theorem dX10_init_173 : decode cX10_init 173 = .ok (.dup, 1) := by decide +kernel
theorem dX10_init_174 : decode cX10_init 174 = .ok (.invokespecial 92, 3) := by decide +kernel
theorem dX10_init_177 : decode cX10_init 177 = .ok (.putfield 93, 3) := by decide +kernel
theorem dX10_init_180 : decode cX10_init 180 = .ok (.iconst 0, 1) := by decide +kernel
theorem dX10_init_181 : decode cX10_init 181 = .ok (.istore_n 1, 1) := by decide +kernel
theorem dX10_init_182 : decode cX10_init 182 = .ok (.iload_n 1, 1) := by decide +kernel
theorem dX10_init_183 : decode cX10_init 183 = .ok (.aload_n 0, 1) := by decide +kernel
theorem dX10_init_184 : decode cX10_init 184 = .ok (.getfield 75, 3) := by decide +kernel
theorem dX10_init_187 : decode cX10_init 187 = .ok (.arraylength, 1) := by decide +kernel
theorem dX10_init_188 : decode cX10_init 188 = .ok (.if_icmp .ge 22, 3) := by decide +kernel
theorem dX10_init_191 : decode cX10_init 191 = .ok (.aload_n 0, 1) := by decide +kernel
theorem dX10_init_192 : decode cX10_init 192 = .ok (.getfield 75, 3) := by decide +kernel
theorem dX10_init_195 : decode cX10_init 195 = .ok (.iload_n 1, 1) := by decide +kernel
theorem dX10_init_196 : decode cX10_init 196 = .ok (.new 55, 3) := by decide +kernel
theorem dX10_init_199 : decode cX10_init 199 = .ok (.dup, 1) := by decide +kernel
theorem dX10_init_200 : decode cX10_init 200 = .ok (.invokespecial 57, 3) := by decide +kernel
theorem dX10_init_203 : decode cX10_init 203 = .ok (.aastore, 1) := by decide +kernel
theorem dX10_init_204 : decode cX10_init 204 = .ok (.iinc 1 1, 3) := by decide +kernel
theorem dX10_init_207 : decode cX10_init 207 = .ok (.goto (-25), 3) := by decide +kernel
theorem dX10_init_210 : decode cX10_init 210 = .ok (.return_, 1) := by decide +kernel
theorem dX10_sign_0 : decode cX10_sign 0 = .ok (.aload_n 0, 1) := by decide +kernel
theorem dX10_sign_1 : decode cX10_sign 1 = .ok (.getfield 10, 3) := by decide +kernel
theorem dX10_sign_4 : decode cX10_sign 4 = .ok (.getfield 97, 3) := by decide +kernel
theorem dX10_sign_7 : decode cX10_sign 7 = .ok (.iconst 4, 1) := by decide +kernel
theorem dX10_sign_8 : decode cX10_sign 8 = .ok (.iadd, 1) := by decide +kernel
theorem dX10_sign_9 : decode cX10_sign 9 = .ok (.bipush 80, 2) := by decide +kernel
theorem dX10_sign_11 : decode cX10_sign 11 = .ok (.if_icmp .le 5, 3) := by decide +kernel
theorem dX10_sign_14 : decode cX10_sign 14 = .ok (.iconst (-1), 1) := by decide +kernel
theorem dX10_sign_15 : decode cX10_sign 15 = .ok (.ireturn, 1) := by decide +kernel
theorem dX10_sign_16 : decode cX10_sign 16 = .ok (.bipush 24, 2) := by decide +kernel
theorem dX10_sign_18 : decode cX10_sign 18 = .ok (.istore_n 2, 1) := by decide +kernel
theorem dX10_sign_19 : decode cX10_sign 19 = .ok (.iload_n 2, 1) := by decide +kernel
theorem dX10_sign_20 : decode cX10_sign 20 = .ok (.ifCond .lt 23, 3) := by decide +kernel
theorem dX10_sign_23 : decode cX10_sign 23 = .ok (.aload_n 0, 1) := by decide +kernel
theorem dX10_sign_24 : decode cX10_sign 24 = .ok (.getfield 10, 3) := by decide +kernel
theorem dX10_sign_27 : decode cX10_sign 27 = .ok (.iload_n 1, 1) := by decide +kernel
theorem dX10_sign_28 : decode cX10_sign 28 = .ok (.iload_n 2, 1) := by decide +kernel
theorem dX10_sign_29 : decode cX10_sign 29 = .ok (.iushr, 1) := by decide +kernel
theorem dX10_sign_30 : decode cX10_sign 30 = .ok (.sipush 255, 3) := by decide +kernel
theorem dX10_sign_33 : decode cX10_sign 33 = .ok (.iand, 1) := by decide +kernel
theorem dX10_sign_34 : decode cX10_sign 34 = .ok (.invokevirtual 100, 3) := by decide +kernel
theorem dX10_sign_37 : decode cX10_sign 37 = .ok (.iinc 2 (-8), 3) := by decide +kernel
theorem dX10_sign_40 : decode cX10_sign 40 = .ok (.goto (-21), 3) := by decide +kernel
theorem dX10_sign_43 : decode cX10_sign 43 = .ok (.aload_n 0, 1) := by decide +kernel
theorem dX10_sign_44 : decode cX10_sign 44 = .ok (.getfield 10, 3) := by decide +kernel
theorem dX10_sign_47 : decode cX10_sign 47 = .ok (.getfield 97, 3) := by decide +kernel
theorem dX10_sign_50 : decode cX10_sign 50 = .ok (.ireturn, 1) := by decide +kernel
theorem dX10_end_0 : decode cX10_end 0 = .ok (.iload_n 1, 1) := by decide +kernel
theorem dX10_end_1 : decode cX10_end 1 = .ok (.ifCond .lt 14, 3) := by decide +kernel
theorem dX10_end_4 : decode cX10_end 4 = .ok (.iload_n 1, 1) := by decide +kernel
theorem dX10_end_5 : decode cX10_end 5 = .ok (.aload_n 0, 1) := by decide +kernel
theorem dX10_end_6 : decode cX10_end 6 = .ok (.getfield 10, 3) := by decide +kernel
theorem dX10_end_9 : decode cX10_end 9 = .ok (.getfield 97, 3) := by decide +kernel
theorem dX10_end_12 : decode cX10_end 12 = .ok (.if_icmp .le 5, 3) := by decide +kernel
theorem dX10_end_15 : decode cX10_end 15 = .ok (.iconst 0, 1) := by decide +kernel
theorem dX10_end_16 : decode cX10_end 16 = .ok (.ireturn, 1) := by decide +kernel
theorem dX10_end_17 : decode cX10_end 17 = .ok (.aload_n 0, 1) := by decide +kernel
theorem dX10_end_18 : decode cX10_end 18 = .ok (.getfield 10, 3) := by decide +kernel
theorem dX10_end_21 : decode cX10_end 21 = .ok (.iload_n 1, 1) := by decide +kernel
theorem dX10_end_22 : decode cX10_end 22 = .ok (.putfield 97, 3) := by decide +kernel
theorem dX10_end_25 : decode cX10_end 25 = .ok (.iconst 1, 1) := by decide +kernel
theorem dX10_end_26 : decode cX10_end 26 = .ok (.ireturn, 1) := by decide +kernel
theorem dX10_ringers_0 : decode cX10_ringers 0 = .ok (.aload_n 0, 1) := by decide +kernel
theorem dX10_ringers_1 : decode cX10_ringers 1 = .ok (.aload_n 0, 1) := by decide +kernel
theorem dX10_ringers_2 : decode cX10_ringers 2 = .ok (.getfield 34, 3) := by decide +kernel
theorem dX10_ringers_5 : decode cX10_ringers 5 = .ok (.getfield 38, 3) := by decide +kernel
theorem dX10_ringers_8 : decode cX10_ringers 8 = .ok (.invokevirtual 104, 3) := by decide +kernel
theorem dX10_ringers_11 : decode cX10_ringers 11 = .ok (.ireturn, 1) := by decide +kernel
theorem dX10_town_0 : decode cX10_town 0 = .ok (.aload_n 0, 1) := by decide +kernel
theorem dX10_town_1 : decode cX10_town 1 = .ok (.aload_n 0, 1) := by decide +kernel
theorem dX10_town_2 : decode cX10_town 2 = .ok (.getfield 34, 3) := by decide +kernel
theorem dX10_town_5 : decode cX10_town 5 = .ok (.getfield 42, 3) := by decide +kernel
theorem dX10_town_8 : decode cX10_town 8 = .ok (.invokevirtual 104, 3) := by decide +kernel
theorem dX10_town_11 : decode cX10_town 11 = .ok (.ireturn, 1) := by decide +kernel
theorem dX10_enrol_0 : decode cX10_enrol 0 = .ok (.aload_n 1, 1) := by decide +kernel
theorem dX10_enrol_1 : decode cX10_enrol 1 = .ok (.aload_n 0, 1) := by decide +kernel
theorem dX10_enrol_2 : decode cX10_enrol 2 = .ok (.getfield 10, 3) := by decide +kernel
theorem dX10_enrol_5 : decode cX10_enrol 5 = .ok (.invokevirtual 108, 3) := by decide +kernel
theorem dX10_enrol_8 : decode cX10_enrol 8 = .ok (.istore_n 2, 1) := by decide +kernel
theorem dX10_enrol_9 : decode cX10_enrol 9 = .ok (.iload_n 2, 1) := by decide +kernel
theorem dX10_enrol_10 : decode cX10_enrol 10 = .ok (.ifCond .lt 9, 3) := by decide +kernel
theorem dX10_enrol_13 : decode cX10_enrol 13 = .ok (.iconst (-1), 1) := by decide +kernel
theorem dX10_enrol_14 : decode cX10_enrol 14 = .ok (.iload_n 2, 1) := by decide +kernel
theorem dX10_enrol_15 : decode cX10_enrol 15 = .ok (.isub, 1) := by decide +kernel
theorem dX10_enrol_16 : decode cX10_enrol 16 = .ok (.goto 11, 3) := by decide +kernel
theorem dX10_enrol_19 : decode cX10_enrol 19 = .ok (.aload_n 1, 1) := by decide +kernel
theorem dX10_enrol_20 : decode cX10_enrol 20 = .ok (.aload_n 0, 1) := by decide +kernel
theorem dX10_enrol_21 : decode cX10_enrol 21 = .ok (.getfield 10, 3) := by decide +kernel
theorem dX10_enrol_24 : decode cX10_enrol 24 = .ok (.invokevirtual 112, 3) := by decide +kernel
theorem dX10_enrol_27 : decode cX10_enrol 27 = .ok (.istore_n 3, 1) := by decide +kernel
theorem dX10_enrol_28 : decode cX10_enrol 28 = .ok (.aload_n 0, 1) := by decide +kernel
theorem dX10_enrol_29 : decode cX10_enrol 29 = .ok (.getfield 10, 3) := by decide +kernel
theorem dX10_enrol_32 : decode cX10_enrol 32 = .ok (.iconst 0, 1) := by decide +kernel
theorem dX10_enrol_33 : decode cX10_enrol 33 = .ok (.putfield 97, 3) := by decide +kernel
theorem dX10_enrol_36 : decode cX10_enrol 36 = .ok (.iload_n 3, 1) := by decide +kernel
theorem dX10_enrol_37 : decode cX10_enrol 37 = .ok (.ifCond .le 15, 3) := by decide +kernel
theorem dX10_enrol_40 : decode cX10_enrol 40 = .ok (.aload_n 0, 1) := by decide +kernel
theorem dX10_enrol_41 : decode cX10_enrol 41 = .ok (.getfield 71, 3) := by decide +kernel
theorem dX10_enrol_44 : decode cX10_enrol 44 = .ok (.invokevirtual 115, 3) := by decide +kernel
theorem dX10_enrol_47 : decode cX10_enrol 47 = .ok (.aload_n 0, 1) := by decide +kernel
theorem dX10_enrol_48 : decode cX10_enrol 48 = .ok (.iconst 0, 1) := by decide +kernel
theorem dX10_enrol_49 : decode cX10_enrol 49 = .ok (.putfield 79, 3) := by decide +kernel
theorem dX10_enrol_52 : decode cX10_enrol 52 = .ok (.iload_n 3, 1) := by decide +kernel
theorem dX10_enrol_53 : decode cX10_enrol 53 = .ok (.ireturn, 1) := by decide +kernel
theorem dX10_rule_0 : decode cX10_rule 0 = .ok (.aload_n 0, 1) := by decide +kernel
theorem dX10_rule_1 : decode cX10_rule 1 = .ok (.getfield 52, 3) := by decide +kernel
theorem dX10_rule_4 : decode cX10_rule 4 = .ok (.aload_n 0, 1) := by decide +kernel
theorem dX10_rule_5 : decode cX10_rule 5 = .ok (.getfield 10, 3) := by decide +kernel
theorem dX10_rule_8 : decode cX10_rule 8 = .ok (.invokevirtual 118, 3) := by decide +kernel
theorem dX10_rule_11 : decode cX10_rule 11 = .ok (.istore_n 1, 1) := by decide +kernel
theorem dX10_rule_12 : decode cX10_rule 12 = .ok (.aload_n 0, 1) := by decide +kernel
theorem dX10_rule_13 : decode cX10_rule 13 = .ok (.getfield 10, 3) := by decide +kernel
theorem dX10_rule_16 : decode cX10_rule 16 = .ok (.iconst 0, 1) := by decide +kernel
theorem dX10_rule_17 : decode cX10_rule 17 = .ok (.putfield 97, 3) := by decide +kernel
theorem dX10_rule_20 : decode cX10_rule 20 = .ok (.iload_n 1, 1) := by decide +kernel
theorem dX10_rule_21 : decode cX10_rule 21 = .ok (.ifCond .lt 7, 3) := by decide +kernel
theorem dX10_rule_24 : decode cX10_rule 24 = .ok (.iconst (-1), 1) := by decide +kernel
theorem dX10_rule_25 : decode cX10_rule 25 = .ok (.iload_n 1, 1) := by decide +kernel
theorem dX10_rule_26 : decode cX10_rule 26 = .ok (.isub, 1) := by decide +kernel
theorem dX10_rule_27 : decode cX10_rule 27 = .ok (.ireturn, 1) := by decide +kernel
theorem dX10_rule_28 : decode cX10_rule 28 = .ok (.aload_n 0, 1) := by decide +kernel
theorem dX10_rule_29 : decode cX10_rule 29 = .ok (.getfield 34, 3) := by decide +kernel
theorem dX10_rule_32 : decode cX10_rule 32 = .ok (.getfield 45, 3) := by decide +kernel
theorem dX10_rule_35 : decode cX10_rule 35 = .ok (.astore_n 2, 1) := by decide +kernel
theorem dX10_rule_36 : decode cX10_rule 36 = .ok (.aload_n 0, 1) := by decide +kernel
theorem dX10_rule_37 : decode cX10_rule 37 = .ok (.getfield 34, 3) := by decide +kernel
theorem dX10_rule_40 : decode cX10_rule 40 = .ok (.aload_n 0, 1) := by decide +kernel
theorem dX10_rule_41 : decode cX10_rule 41 = .ok (.getfield 52, 3) := by decide +kernel
theorem dX10_rule_44 : decode cX10_rule 44 = .ok (.putfield 45, 3) := by decide +kernel
theorem dX10_rule_47 : decode cX10_rule 47 = .ok (.aload_n 0, 1) := by decide +kernel
theorem dX10_rule_48 : decode cX10_rule 48 = .ok (.aload_n 2, 1) := by decide +kernel
theorem dX10_rule_49 : decode cX10_rule 49 = .ok (.putfield 52, 3) := by decide +kernel
theorem dX10_rule_52 : decode cX10_rule 52 = .ok (.iconst 0, 1) := by decide +kernel
theorem dX10_rule_53 : decode cX10_rule 53 = .ok (.ireturn, 1) := by decide +kernel
theorem dX10_ringer_0 : decode cX10_ringer 0 = .ok (.aload_n 0, 1) := by decide +kernel
theorem dX10_ringer_1 : decode cX10_ringer 1 = .ok (.getfield 34, 3) := by decide +kernel
theorem dX10_ringer_4 : decode cX10_ringer 4 = .ok (.getfield 38, 3) := by decide +kernel
theorem dX10_ringer_7 : decode cX10_ringer 7 = .ok (.iload_n 1, 1) := by decide +kernel
theorem dX10_ringer_8 : decode cX10_ringer 8 = .ok (.invokevirtual 121, 3) := by decide +kernel
theorem dX10_ringer_11 : decode cX10_ringer 11 = .ok (.ifCond .ne 11, 3) := by decide +kernel
theorem dX10_ringer_14 : decode cX10_ringer 14 = .ok (.new 125, 3) := by decide +kernel
theorem dX10_ringer_17 : decode cX10_ringer 17 = .ok (.dup, 1) := by decide +kernel
theorem dX10_ringer_18 : decode cX10_ringer 18 = .ok (.invokespecial 127, 3) := by decide +kernel
theorem dX10_ringer_21 : decode cX10_ringer 21 = .ok (.athrow, 1) := by decide +kernel
theorem dX10_ringer_22 : decode cX10_ringer 22 = .ok (.iload_n 2, 1) := by decide +kernel
theorem dX10_ringer_23 : decode cX10_ringer 23 = .ok (.tableswitch 98 0 4 #[33, 45, 57, 66, 83], 33) := by decide +kernel
theorem dX10_ringer_56 : decode cX10_ringer 56 = .ok (.aload_n 0, 1) := by decide +kernel
theorem dX10_ringer_57 : decode cX10_ringer 57 = .ok (.getfield 34, 3) := by decide +kernel
theorem dX10_ringer_60 : decode cX10_ringer 60 = .ok (.getfield 38, 3) := by decide +kernel
theorem dX10_ringer_63 : decode cX10_ringer 63 = .ok (.iload_n 1, 1) := by decide +kernel
theorem dX10_ringer_64 : decode cX10_ringer 64 = .ok (.invokevirtual 128, 3) := by decide +kernel
theorem dX10_ringer_67 : decode cX10_ringer 67 = .ok (.ireturn, 1) := by decide +kernel
theorem dX10_ringer_68 : decode cX10_ringer 68 = .ok (.aload_n 0, 1) := by decide +kernel
theorem dX10_ringer_69 : decode cX10_ringer 69 = .ok (.getfield 34, 3) := by decide +kernel
theorem dX10_ringer_72 : decode cX10_ringer 72 = .ok (.getfield 38, 3) := by decide +kernel
theorem dX10_ringer_75 : decode cX10_ringer 75 = .ok (.iload_n 1, 1) := by decide +kernel
theorem dX10_ringer_76 : decode cX10_ringer 76 = .ok (.invokevirtual 132, 3) := by decide +kernel
theorem dX10_ringer_79 : decode cX10_ringer 79 = .ok (.ireturn, 1) := by decide +kernel
theorem dX10_ringer_80 : decode cX10_ringer 80 = .ok (.aload_n 0, 1) := by decide +kernel
theorem dX10_ringer_81 : decode cX10_ringer 81 = .ok (.getfield 58, 3) := by decide +kernel
theorem dX10_ringer_84 : decode cX10_ringer 84 = .ok (.iload_n 1, 1) := by decide +kernel
theorem dX10_ringer_85 : decode cX10_ringer 85 = .ok (.invokevirtual 135, 3) := by decide +kernel
theorem dX10_ringer_88 : decode cX10_ringer 88 = .ok (.ireturn, 1) := by decide +kernel
theorem dX10_ringer_89 : decode cX10_ringer 89 = .ok (.aload_n 0, 1) := by decide +kernel
theorem dX10_ringer_90 : decode cX10_ringer 90 = .ok (.getfield 58, 3) := by decide +kernel
theorem dX10_ringer_93 : decode cX10_ringer 93 = .ok (.iload_n 1, 1) := by decide +kernel
theorem dX10_ringer_94 : decode cX10_ringer 94 = .ok (.invokevirtual 138, 3) := by decide +kernel
theorem dX10_ringer_97 : decode cX10_ringer 97 = .ok (.ifCond .eq 7, 3) := by decide +kernel
theorem dX10_ringer_100 : decode cX10_ringer 100 = .ok (.iconst 1, 1) := by decide +kernel
theorem dX10_ringer_101 : decode cX10_ringer 101 = .ok (.goto 4, 3) := by decide +kernel
theorem dX10_ringer_104 : decode cX10_ringer 104 = .ok (.iconst 0, 1) := by decide +kernel
theorem dX10_ringer_105 : decode cX10_ringer 105 = .ok (.ireturn, 1) := by decide +kernel
theorem dX10_ringer_106 : decode cX10_ringer 106 = .ok (.aload_n 0, 1) := by decide +kernel
theorem dX10_ringer_107 : decode cX10_ringer 107 = .ok (.getfield 34, 3) := by decide +kernel
theorem dX10_ringer_110 : decode cX10_ringer 110 = .ok (.aload_n 0, 1) := by decide +kernel
theorem dX10_ringer_111 : decode cX10_ringer 111 = .ok (.getfield 58, 3) := by decide +kernel
theorem dX10_ringer_114 : decode cX10_ringer 114 = .ok (.iconst 1, 1) := by decide +kernel
theorem dX10_ringer_115 : decode cX10_ringer 115 = .ok (.iload_n 1, 1) := by decide +kernel
theorem dX10_ringer_116 : decode cX10_ringer 116 = .ok (.ishl, 1) := by decide +kernel
theorem dX10_ringer_117 : decode cX10_ringer 117 = .ok (.invokevirtual 141, 3) := by decide +kernel
theorem dX10_ringer_120 : decode cX10_ringer 120 = .ok (.ireturn, 1) := by decide +kernel
theorem dX10_ringer_121 : decode cX10_ringer 121 = .ok (.new 125, 3) := by decide +kernel
theorem dX10_ringer_124 : decode cX10_ringer 124 = .ok (.dup, 1) := by decide +kernel
theorem dX10_ringer_125 : decode cX10_ringer 125 = .ok (.invokespecial 127, 3) := by decide +kernel
theorem dX10_ringer_128 : decode cX10_ringer 128 = .ok (.athrow, 1) := by decide +kernel
theorem dX10_person_0 : decode cX10_person 0 = .ok (.aload_n 0, 1) := by decide +kernel
theorem dX10_person_1 : decode cX10_person 1 = .ok (.getfield 34, 3) := by decide +kernel
theorem dX10_person_4 : decode cX10_person 4 = .ok (.getfield 42, 3) := by decide +kernel
theorem dX10_person_7 : decode cX10_person 7 = .ok (.iload_n 1, 1) := by decide +kernel
theorem dX10_person_8 : decode cX10_person 8 = .ok (.invokevirtual 121, 3) := by decide +kernel
theorem dX10_person_11 : decode cX10_person 11 = .ok (.ifCond .ne 11, 3) := by decide +kernel
theorem dX10_person_14 : decode cX10_person 14 = .ok (.new 125, 3) := by decide +kernel
theorem dX10_person_17 : decode cX10_person 17 = .ok (.dup, 1) := by decide +kernel
theorem dX10_person_18 : decode cX10_person 18 = .ok (.invokespecial 127, 3) := by decide +kernel
theorem dX10_person_21 : decode cX10_person 21 = .ok (.athrow, 1) := by decide +kernel
theorem dX10_person_22 : decode cX10_person 22 = .ok (.iload_n 2, 1) := by decide +kernel
theorem dX10_person_23 : decode cX10_person 23 = .ok (.tableswitch 61 0 2 #[25, 37, 49], 25) := by decide +kernel
theorem dX10_person_48 : decode cX10_person 48 = .ok (.aload_n 0, 1) := by decide +kernel
theorem dX10_person_49 : decode cX10_person 49 = .ok (.getfield 34, 3) := by decide +kernel
theorem dX10_person_52 : decode cX10_person 52 = .ok (.getfield 42, 3) := by decide +kernel
theorem dX10_person_55 : decode cX10_person 55 = .ok (.iload_n 1, 1) := by decide +kernel
theorem dX10_person_56 : decode cX10_person 56 = .ok (.invokevirtual 128, 3) := by decide +kernel
theorem dX10_person_59 : decode cX10_person 59 = .ok (.ireturn, 1) := by decide +kernel
theorem dX10_person_60 : decode cX10_person 60 = .ok (.aload_n 0, 1) := by decide +kernel
theorem dX10_person_61 : decode cX10_person 61 = .ok (.getfield 34, 3) := by decide +kernel
theorem dX10_person_64 : decode cX10_person 64 = .ok (.getfield 42, 3) := by decide +kernel
theorem dX10_person_67 : decode cX10_person 67 = .ok (.iload_n 1, 1) := by decide +kernel
theorem dX10_person_68 : decode cX10_person 68 = .ok (.invokevirtual 132, 3) := by decide +kernel
theorem dX10_person_71 : decode cX10_person 71 = .ok (.ireturn, 1) := by decide +kernel
theorem dX10_person_72 : decode cX10_person 72 = .ok (.aload_n 0, 1) := by decide +kernel
theorem dX10_person_73 : decode cX10_person 73 = .ok (.getfield 58, 3) := by decide +kernel
theorem dX10_person_76 : decode cX10_person 76 = .ok (.getfield 145, 3) := by decide +kernel
theorem dX10_person_79 : decode cX10_person 79 = .ok (.iload_n 1, 1) := by decide +kernel
theorem dX10_person_80 : decode cX10_person 80 = .ok (.ishr, 1) := by decide +kernel
theorem dX10_person_81 : decode cX10_person 81 = .ok (.iconst 1, 1) := by decide +kernel
theorem dX10_person_82 : decode cX10_person 82 = .ok (.iand, 1) := by decide +kernel
theorem dX10_person_83 : decode cX10_person 83 = .ok (.ireturn, 1) := by decide +kernel
theorem dX10_person_84 : decode cX10_person 84 = .ok (.new 125, 3) := by decide +kernel
theorem dX10_person_87 : decode cX10_person 87 = .ok (.dup, 1) := by decide +kernel
theorem dX10_person_88 : decode cX10_person 88 = .ok (.invokespecial 127, 3) := by decide +kernel
theorem dX10_person_91 : decode cX10_person 91 = .ok (.athrow, 1) := by decide +kernel
theorem dX10_loud_0 : decode cX10_loud 0 = .ok (.aload_n 0, 1) := by decide +kernel
theorem dX10_loud_1 : decode cX10_loud 1 = .ok (.getfield 34, 3) := by decide +kernel
theorem dX10_loud_4 : decode cX10_loud 4 = .ok (.aload_n 0, 1) := by decide +kernel
theorem dX10_loud_5 : decode cX10_loud 5 = .ok (.getfield 58, 3) := by decide +kernel
theorem dX10_loud_8 : decode cX10_loud 8 = .ok (.aload_n 0, 1) := by decide +kernel
theorem dX10_loud_9 : decode cX10_loud 9 = .ok (.getfield 58, 3) := by decide +kernel
theorem dX10_loud_12 : decode cX10_loud 12 = .ok (.getfield 148, 3) := by decide +kernel
theorem dX10_loud_15 : decode cX10_loud 15 = .ok (.invokevirtual 141, 3) := by decide +kernel
theorem dX10_loud_18 : decode cX10_loud 18 = .ok (.ireturn, 1) := by decide +kernel
theorem dX10_set_0 : decode cX10_set 0 = .ok (.iconst (-1), 1) := by decide +kernel
theorem dX10_set_1 : decode cX10_set 1 = .ok (.istore_n 3, 1) := by decide +kernel
theorem dX10_set_2 : decode cX10_set 2 = .ok (.iload_n 1, 1) := by decide +kernel
theorem dX10_set_3 : decode cX10_set 3 = .ok (.ifCond .ne 33, 3) := by decide +kernel
theorem dX10_set_6 : decode cX10_set 6 = .ok (.iload_n 2, 1) := by decide +kernel
theorem dX10_set_7 : decode cX10_set 7 = .ok (.iconst 1, 1) := by decide +kernel
theorem dX10_set_8 : decode cX10_set 8 = .ok (.if_icmp .lt 28, 3) := by decide +kernel
theorem dX10_set_11 : decode cX10_set 11 = .ok (.iload_n 2, 1) := by decide +kernel
theorem dX10_set_12 : decode cX10_set 12 = .ok (.bipush 30, 2) := by decide +kernel
theorem dX10_set_14 : decode cX10_set 14 = .ok (.if_icmp .gt 22, 3) := by decide +kernel
theorem dX10_set_17 : decode cX10_set 17 = .ok (.aload_n 0, 1) := by decide +kernel
theorem dX10_set_18 : decode cX10_set 18 = .ok (.getfield 34, 3) := by decide +kernel
theorem dX10_set_21 : decode cX10_set 21 = .ok (.getfield 151, 3) := by decide +kernel
theorem dX10_set_24 : decode cX10_set 24 = .ok (.istore_n 3, 1) := by decide +kernel
theorem dX10_set_25 : decode cX10_set 25 = .ok (.aload_n 0, 1) := by decide +kernel
theorem dX10_set_26 : decode cX10_set 26 = .ok (.getfield 34, 3) := by decide +kernel
theorem dX10_set_29 : decode cX10_set 29 = .ok (.iload_n 2, 1) := by decide +kernel
theorem dX10_set_30 : decode cX10_set 30 = .ok (.putfield 151, 3) := by decide +kernel
theorem dX10_set_33 : decode cX10_set 33 = .ok (.goto 68, 3) := by decide +kernel
theorem dX10_set_36 : decode cX10_set 36 = .ok (.iload_n 1, 1) := by decide +kernel
theorem dX10_set_37 : decode cX10_set 37 = .ok (.iconst 1, 1) := by decide +kernel
theorem dX10_set_38 : decode cX10_set 38 = .ok (.if_icmp .ne 32, 3) := by decide +kernel
theorem dX10_set_41 : decode cX10_set 41 = .ok (.iload_n 2, 1) := by decide +kernel
theorem dX10_set_42 : decode cX10_set 42 = .ok (.ifCond .lt 28, 3) := by decide +kernel
theorem dX10_set_45 : decode cX10_set 45 = .ok (.iload_n 2, 1) := by decide +kernel
theorem dX10_set_46 : decode cX10_set 46 = .ok (.bipush 9, 2) := by decide +kernel
theorem dX10_set_48 : decode cX10_set 48 = .ok (.if_icmp .gt 22, 3) := by decide +kernel
theorem dX10_set_51 : decode cX10_set 51 = .ok (.aload_n 0, 1) := by decide +kernel
theorem dX10_set_52 : decode cX10_set 52 = .ok (.getfield 34, 3) := by decide +kernel
theorem dX10_set_55 : decode cX10_set 55 = .ok (.getfield 154, 3) := by decide +kernel
theorem dX10_set_58 : decode cX10_set 58 = .ok (.istore_n 3, 1) := by decide +kernel
theorem dX10_set_59 : decode cX10_set 59 = .ok (.aload_n 0, 1) := by decide +kernel
theorem dX10_set_60 : decode cX10_set 60 = .ok (.getfield 34, 3) := by decide +kernel
theorem dX10_set_63 : decode cX10_set 63 = .ok (.iload_n 2, 1) := by decide +kernel
theorem dX10_set_64 : decode cX10_set 64 = .ok (.putfield 154, 3) := by decide +kernel
theorem dX10_set_67 : decode cX10_set 67 = .ok (.goto 34, 3) := by decide +kernel
theorem dX10_set_70 : decode cX10_set 70 = .ok (.iload_n 1, 1) := by decide +kernel
theorem dX10_set_71 : decode cX10_set 71 = .ok (.iconst 2, 1) := by decide +kernel
theorem dX10_set_72 : decode cX10_set 72 = .ok (.if_icmp .ne 29, 3) := by decide +kernel
theorem dX10_set_75 : decode cX10_set 75 = .ok (.iload_n 2, 1) := by decide +kernel
theorem dX10_set_76 : decode cX10_set 76 = .ok (.ifCond .lt 25, 3) := by decide +kernel
theorem dX10_set_79 : decode cX10_set 79 = .ok (.iload_n 2, 1) := by decide +kernel
theorem dX10_set_80 : decode cX10_set 80 = .ok (.bipush 9, 2) := by decide +kernel
theorem dX10_set_82 : decode cX10_set 82 = .ok (.if_icmp .gt 19, 3) := by decide +kernel
theorem dX10_set_85 : decode cX10_set 85 = .ok (.aload_n 0, 1) := by decide +kernel
theorem dX10_set_86 : decode cX10_set 86 = .ok (.getfield 34, 3) := by decide +kernel
theorem dX10_set_89 : decode cX10_set 89 = .ok (.getfield 157, 3) := by decide +kernel
theorem dX10_set_92 : decode cX10_set 92 = .ok (.istore_n 3, 1) := by decide +kernel
theorem dX10_set_93 : decode cX10_set 93 = .ok (.aload_n 0, 1) := by decide +kernel
theorem dX10_set_94 : decode cX10_set 94 = .ok (.getfield 34, 3) := by decide +kernel
theorem dX10_set_97 : decode cX10_set 97 = .ok (.iload_n 2, 1) := by decide +kernel
theorem dX10_set_98 : decode cX10_set 98 = .ok (.putfield 157, 3) := by decide +kernel
theorem dX10_set_101 : decode cX10_set 101 = .ok (.iload_n 3, 1) := by decide +kernel
theorem dX10_set_102 : decode cX10_set 102 = .ok (.ireturn, 1) := by decide +kernel
theorem dX10_sheet_0 : decode cX10_sheet 0 = .ok (.iload_n 1, 1) := by decide +kernel
theorem dX10_sheet_1 : decode cX10_sheet 1 = .ok (.ifCond .lt 14, 3) := by decide +kernel
theorem dX10_sheet_4 : decode cX10_sheet 4 = .ok (.iload_n 1, 1) := by decide +kernel
theorem dX10_sheet_5 : decode cX10_sheet 5 = .ok (.iconst 3, 1) := by decide +kernel
theorem dX10_sheet_6 : decode cX10_sheet 6 = .ok (.if_icmp .gt 9, 3) := by decide +kernel
theorem dX10_sheet_9 : decode cX10_sheet 9 = .ok (.iload_n 2, 1) := by decide +kernel
theorem dX10_sheet_10 : decode cX10_sheet 10 = .ok (.bipush 8, 2) := by decide +kernel
theorem dX10_sheet_12 : decode cX10_sheet 12 = .ok (.if_icmp .le 5, 3) := by decide +kernel
theorem dX10_sheet_15 : decode cX10_sheet 15 = .ok (.iconst (-1), 1) := by decide +kernel
theorem dX10_sheet_16 : decode cX10_sheet 16 = .ok (.ireturn, 1) := by decide +kernel
theorem dX10_sheet_17 : decode cX10_sheet 17 = .ok (.iload_n 1, 1) := by decide +kernel
theorem dX10_sheet_18 : decode cX10_sheet 18 = .ok (.iconst 3, 1) := by decide +kernel
theorem dX10_sheet_19 : decode cX10_sheet 19 = .ok (.if_icmp .ne 7, 3) := by decide +kernel
theorem dX10_sheet_22 : decode cX10_sheet 22 = .ok (.iconst 1, 1) := by decide +kernel
theorem dX10_sheet_23 : decode cX10_sheet 23 = .ok (.goto 4, 3) := by decide +kernel
theorem dX10_sheet_26 : decode cX10_sheet 26 = .ok (.iconst 0, 1) := by decide +kernel
theorem dX10_sheet_27 : decode cX10_sheet 27 = .ok (.istore 5, 2) := by decide +kernel
theorem dX10_sheet_29 : decode cX10_sheet 29 = .ok (.iload 5, 2) := by decide +kernel
theorem dX10_sheet_31 : decode cX10_sheet 31 = .ok (.ifCond .ne 10, 3) := by decide +kernel
theorem dX10_sheet_34 : decode cX10_sheet 34 = .ok (.iload_n 2, 1) := by decide +kernel
theorem dX10_sheet_35 : decode cX10_sheet 35 = .ok (.ifCond .ge 6, 3) := by decide +kernel
theorem dX10_sheet_38 : decode cX10_sheet 38 = .ok (.bipush (-2), 2) := by decide +kernel
theorem dX10_sheet_40 : decode cX10_sheet 40 = .ok (.ireturn, 1) := by decide +kernel
theorem dX10_sheet_41 : decode cX10_sheet 41 = .ok (.iconst 0, 1) := by decide +kernel
theorem dX10_sheet_42 : decode cX10_sheet 42 = .ok (.istore 6, 2) := by decide +kernel
theorem dX10_sheet_44 : decode cX10_sheet 44 = .ok (.iload 6, 2) := by decide +kernel
theorem dX10_sheet_46 : decode cX10_sheet 46 = .ok (.bipush 8, 2) := by decide +kernel
theorem dX10_sheet_48 : decode cX10_sheet 48 = .ok (.if_icmp .ge 71, 3) := by decide +kernel
theorem dX10_sheet_51 : decode cX10_sheet 51 = .ok (.iload 5, 2) := by decide +kernel
theorem dX10_sheet_53 : decode cX10_sheet 53 = .ok (.ifCond .ne 28, 3) := by decide +kernel
theorem dX10_sheet_56 : decode cX10_sheet 56 = .ok (.iload 6, 2) := by decide +kernel
theorem dX10_sheet_58 : decode cX10_sheet 58 = .ok (.iload_n 2, 1) := by decide +kernel
theorem dX10_sheet_59 : decode cX10_sheet 59 = .ok (.if_icmp .ge 22, 3) := by decide +kernel
theorem dX10_sheet_62 : decode cX10_sheet 62 = .ok (.aload_n 0, 1) := by decide +kernel
theorem dX10_sheet_63 : decode cX10_sheet 63 = .ok (.getfield 34, 3) := by decide +kernel
theorem dX10_sheet_66 : decode cX10_sheet 66 = .ok (.getfield 38, 3) := by decide +kernel
theorem dX10_sheet_69 : decode cX10_sheet 69 = .ok (.iload 6, 2) := by decide +kernel
theorem dX10_sheet_71 : decode cX10_sheet 71 = .ok (.invokevirtual 121, 3) := by decide +kernel
theorem dX10_sheet_74 : decode cX10_sheet 74 = .ok (.ifCond .eq 7, 3) := by decide +kernel
theorem dX10_sheet_77 : decode cX10_sheet 77 = .ok (.iconst 1, 1) := by decide +kernel
theorem dX10_sheet_78 : decode cX10_sheet 78 = .ok (.goto 4, 3) := by decide +kernel
theorem dX10_sheet_81 : decode cX10_sheet 81 = .ok (.iconst 0, 1) := by decide +kernel
theorem dX10_sheet_82 : decode cX10_sheet 82 = .ok (.istore 7, 2) := by decide +kernel
theorem dX10_sheet_84 : decode cX10_sheet 84 = .ok (.aload_n 0, 1) := by decide +kernel
theorem dX10_sheet_85 : decode cX10_sheet 85 = .ok (.getfield 58, 3) := by decide +kernel
theorem dX10_sheet_88 : decode cX10_sheet 88 = .ok (.iload 6, 2) := by decide +kernel
theorem dX10_sheet_90 : decode cX10_sheet 90 = .ok (.iload 7, 2) := by decide +kernel
theorem dX10_sheet_92 : decode cX10_sheet 92 = .ok (.ifCond .eq 17, 3) := by decide +kernel
theorem dX10_sheet_95 : decode cX10_sheet 95 = .ok (.iload_n 1, 1) := by decide +kernel
theorem dX10_sheet_96 : decode cX10_sheet 96 = .ok (.iload_n 3, 1) := by decide +kernel
theorem dX10_sheet_97 : decode cX10_sheet 97 = .ok (.iload 6, 2) := by decide +kernel
theorem dX10_sheet_99 : decode cX10_sheet 99 = .ok (.iload 4, 2) := by decide +kernel
theorem dX10_sheet_101 : decode cX10_sheet 101 = .ok (.imul, 1) := by decide +kernel
theorem dX10_sheet_102 : decode cX10_sheet 102 = .ok (.iadd, 1) := by decide +kernel
theorem dX10_sheet_103 : decode cX10_sheet 103 = .ok (.invokestatic 160, 3) := by decide +kernel
theorem dX10_sheet_106 : decode cX10_sheet 106 = .ok (.goto 4, 3) := by decide +kernel
theorem dX10_sheet_109 : decode cX10_sheet 109 = .ok (.iconst 0, 1) := by decide +kernel
theorem dX10_sheet_110 : decode cX10_sheet 110 = .ok (.invokevirtual 164, 3) := by decide +kernel
theorem dX10_sheet_113 : decode cX10_sheet 113 = .ok (.iinc 6 1, 3) := by decide +kernel
theorem dX10_sheet_116 : decode cX10_sheet 116 = .ok (.goto (-72), 3) := by decide +kernel
theorem dX10_sheet_119 : decode cX10_sheet 119 = .ok (.iload 5, 2) := by decide +kernel
theorem dX10_sheet_121 : decode cX10_sheet 121 = .ok (.ifCond .eq 8, 3) := by decide +kernel
theorem dX10_sheet_124 : decode cX10_sheet 124 = .ok (.bipush (-3), 2) := by decide +kernel
theorem dX10_sheet_126 : decode cX10_sheet 126 = .ok (.goto 10, 3) := by decide +kernel
theorem dX10_sheet_129 : decode cX10_sheet 129 = .ok (.aload_n 0, 1) := by decide +kernel
theorem dX10_sheet_130 : decode cX10_sheet 130 = .ok (.getfield 58, 3) := by decide +kernel
theorem dX10_sheet_133 : decode cX10_sheet 133 = .ok (.invokevirtual 168, 3) := by decide +kernel
theorem dX10_sheet_136 : decode cX10_sheet 136 = .ok (.ireturn, 1) := by decide +kernel
theorem dX10_entry_0 : decode cX10_entry 0 = .ok (.iload_n 0, 1) := by decide +kernel
theorem dX10_entry_1 : decode cX10_entry 1 = .ok (.ifCond .ne 8, 3) := by decide +kernel
theorem dX10_entry_4 : decode cX10_entry 4 = .ok (.iload_n 1, 1) := by decide +kernel
theorem dX10_entry_5 : decode cX10_entry 5 = .ok (.i2b, 1) := by decide +kernel
theorem dX10_entry_6 : decode cX10_entry 6 = .ok (.goto 14, 3) := by decide +kernel
theorem dX10_entry_9 : decode cX10_entry 9 = .ok (.iload_n 0, 1) := by decide +kernel
theorem dX10_entry_10 : decode cX10_entry 10 = .ok (.iconst 1, 1) := by decide +kernel
theorem dX10_entry_11 : decode cX10_entry 11 = .ok (.if_icmp .ne 8, 3) := by decide +kernel
theorem dX10_entry_14 : decode cX10_entry 14 = .ok (.iload_n 1, 1) := by decide +kernel
theorem dX10_entry_15 : decode cX10_entry 15 = .ok (.i2s, 1) := by decide +kernel
theorem dX10_entry_16 : decode cX10_entry 16 = .ok (.goto 4, 3) := by decide +kernel
theorem dX10_entry_19 : decode cX10_entry 19 = .ok (.iload_n 1, 1) := by decide +kernel
theorem dX10_entry_20 : decode cX10_entry 20 = .ok (.istore_n 2, 1) := by decide +kernel
theorem dX10_entry_21 : decode cX10_entry 21 = .ok (.iconst 0, 1) := by decide +kernel
theorem dX10_entry_22 : decode cX10_entry 22 = .ok (.bipush 99, 2) := by decide +kernel
theorem dX10_entry_24 : decode cX10_entry 24 = .ok (.iload_n 2, 1) := by decide +kernel
theorem dX10_entry_25 : decode cX10_entry 25 = .ok (.invokestatic 172, 3) := by decide +kernel
theorem dX10_entry_28 : decode cX10_entry 28 = .ok (.invokestatic 177, 3) := by decide +kernel
theorem dX10_entry_31 : decode cX10_entry 31 = .ok (.ireturn, 1) := by decide +kernel
theorem dX10_take_0 : decode cX10_take 0 = .ok (.aload_n 0, 1) := by decide +kernel
theorem dX10_take_1 : decode cX10_take 1 = .ok (.getfield 65, 3) := by decide +kernel
theorem dX10_take_4 : decode cX10_take 4 = .ok (.aload_n 0, 1) := by decide +kernel
theorem dX10_take_5 : decode cX10_take 5 = .ok (.getfield 58, 3) := by decide +kernel
theorem dX10_take_8 : decode cX10_take 8 = .ok (.invokevirtual 180, 3) := by decide +kernel
theorem dX10_take_11 : decode cX10_take 11 = .ok (.aload_n 0, 1) := by decide +kernel
theorem dX10_take_12 : decode cX10_take 12 = .ok (.aload_n 0, 1) := by decide +kernel
theorem dX10_take_13 : decode cX10_take 13 = .ok (.iload_n 1, 1) := by decide +kernel
theorem dX10_take_14 : decode cX10_take 14 = .ok (.invokevirtual 184, 3) := by decide +kernel
theorem dX10_take_17 : decode cX10_take 17 = .ok (.invokevirtual 187, 3) := by decide +kernel
theorem dX10_take_20 : decode cX10_take 20 = .ok (.ireturn, 1) := by decide +kernel
theorem dX10_leave_0 : decode cX10_leave 0 = .ok (.aload_n 0, 1) := by decide +kernel
theorem dX10_leave_1 : decode cX10_leave 1 = .ok (.getfield 65, 3) := by decide +kernel
theorem dX10_leave_4 : decode cX10_leave 4 = .ok (.aload_n 0, 1) := by decide +kernel
theorem dX10_leave_5 : decode cX10_leave 5 = .ok (.getfield 58, 3) := by decide +kernel
theorem dX10_leave_8 : decode cX10_leave 8 = .ok (.invokevirtual 180, 3) := by decide +kernel
theorem dX10_leave_11 : decode cX10_leave 11 = .ok (.aload_n 0, 1) := by decide +kernel
theorem dX10_leave_12 : decode cX10_leave 12 = .ok (.aload_n 0, 1) := by decide +kernel
theorem dX10_leave_13 : decode cX10_leave 13 = .ok (.iload_n 1, 1) := by decide +kernel
theorem dX10_leave_14 : decode cX10_leave 14 = .ok (.invokevirtual 190, 3) := by decide +kernel
theorem dX10_leave_17 : decode cX10_leave 17 = .ok (.invokevirtual 187, 3) := by decide +kernel
theorem dX10_leave_20 : decode cX10_leave 20 = .ok (.ireturn, 1) := by decide +kernel
theorem dX10_mend_0 : decode cX10_mend 0 = .ok (.aload_n 0, 1) := by decide +kernel
theorem dX10_mend_1 : decode cX10_mend 1 = .ok (.getfield 65, 3) := by decide +kernel
theorem dX10_mend_4 : decode cX10_mend 4 = .ok (.aload_n 0, 1) := by decide +kernel
theorem dX10_mend_5 : decode cX10_mend 5 = .ok (.getfield 58, 3) := by decide +kernel
theorem dX10_mend_8 : decode cX10_mend 8 = .ok (.invokevirtual 180, 3) := by decide +kernel
theorem dX10_mend_11 : decode cX10_mend 11 = .ok (.aload_n 0, 1) := by decide +kernel
theorem dX10_mend_12 : decode cX10_mend 12 = .ok (.aload_n 0, 1) := by decide +kernel
theorem dX10_mend_13 : decode cX10_mend 13 = .ok (.iload_n 1, 1) := by decide +kernel
theorem dX10_mend_14 : decode cX10_mend 14 = .ok (.invokevirtual 193, 3) := by decide +kernel
theorem dX10_mend_17 : decode cX10_mend 17 = .ok (.invokevirtual 187, 3) := by decide +kernel
theorem dX10_mend_20 : decode cX10_mend 20 = .ok (.ireturn, 1) := by decide +kernel
theorem dX10_minutes_0 : decode cX10_minutes 0 = .ok (.aload_n 0, 1) := by decide +kernel
theorem dX10_minutes_1 : decode cX10_minutes 1 = .ok (.getfield 65, 3) := by decide +kernel
theorem dX10_minutes_4 : decode cX10_minutes 4 = .ok (.aload_n 0, 1) := by decide +kernel
theorem dX10_minutes_5 : decode cX10_minutes 5 = .ok (.getfield 58, 3) := by decide +kernel
theorem dX10_minutes_8 : decode cX10_minutes 8 = .ok (.invokevirtual 180, 3) := by decide +kernel
theorem dX10_minutes_11 : decode cX10_minutes 11 = .ok (.aload_n 0, 1) := by decide +kernel
theorem dX10_minutes_12 : decode cX10_minutes 12 = .ok (.aload_n 0, 1) := by decide +kernel
theorem dX10_minutes_13 : decode cX10_minutes 13 = .ok (.iload_n 1, 1) := by decide +kernel
theorem dX10_minutes_14 : decode cX10_minutes 14 = .ok (.invokevirtual 196, 3) := by decide +kernel
theorem dX10_minutes_17 : decode cX10_minutes 17 = .ok (.invokevirtual 187, 3) := by decide +kernel
theorem dX10_minutes_20 : decode cX10_minutes 20 = .ok (.istore_n 2, 1) := by decide +kernel
theorem dX10_minutes_21 : decode cX10_minutes 21 = .ok (.iload_n 2, 1) := by decide +kernel
theorem dX10_minutes_22 : decode cX10_minutes 22 = .ok (.ifCond .lt 41, 3) := by decide +kernel
theorem dX10_minutes_25 : decode cX10_minutes 25 = .ok (.aload_n 0, 1) := by decide +kernel
theorem dX10_minutes_26 : decode cX10_minutes 26 = .ok (.aload_n 0, 1) := by decide +kernel
theorem dX10_minutes_27 : decode cX10_minutes 27 = .ok (.getfield 58, 3) := by decide +kernel
theorem dX10_minutes_30 : decode cX10_minutes 30 = .ok (.getfield 199, 3) := by decide +kernel
theorem dX10_minutes_33 : decode cX10_minutes 33 = .ok (.aload_n 0, 1) := by decide +kernel
theorem dX10_minutes_34 : decode cX10_minutes 34 = .ok (.getfield 65, 3) := by decide +kernel
theorem dX10_minutes_37 : decode cX10_minutes 37 = .ok (.getfield 199, 3) := by decide +kernel
theorem dX10_minutes_40 : decode cX10_minutes 40 = .ok (.isub, 1) := by decide +kernel
theorem dX10_minutes_41 : decode cX10_minutes 41 = .ok (.i2l, 1) := by decide +kernel
theorem dX10_minutes_42 : decode cX10_minutes 42 = .ok (.aload_n 0, 1) := by decide +kernel
theorem dX10_minutes_43 : decode cX10_minutes 43 = .ok (.getfield 58, 3) := by decide +kernel
theorem dX10_minutes_46 : decode cX10_minutes 46 = .ok (.getfield 145, 3) := by decide +kernel
theorem dX10_minutes_49 : decode cX10_minutes 49 = .ok (.aload_n 0, 1) := by decide +kernel
theorem dX10_minutes_50 : decode cX10_minutes 50 = .ok (.getfield 65, 3) := by decide +kernel
theorem dX10_minutes_53 : decode cX10_minutes 53 = .ok (.getfield 145, 3) := by decide +kernel
theorem dX10_minutes_56 : decode cX10_minutes 56 = .ok (.iconst (-1), 1) := by decide +kernel
theorem dX10_minutes_57 : decode cX10_minutes 57 = .ok (.ixor, 1) := by decide +kernel
theorem dX10_minutes_58 : decode cX10_minutes 58 = .ok (.iand, 1) := by decide +kernel
theorem dX10_minutes_59 : decode cX10_minutes 59 = .ok (.i2l, 1) := by decide +kernel
theorem dX10_minutes_60 : decode cX10_minutes 60 = .ok (.invokevirtual 202, 3) := by decide +kernel
theorem dX10_minutes_63 : decode cX10_minutes 63 = .ok (.iload_n 2, 1) := by decide +kernel
theorem dX10_minutes_64 : decode cX10_minutes 64 = .ok (.ireturn, 1) := by decide +kernel
theorem dX10_watch_0 : decode cX10_watch 0 = .ok (.aload_n 0, 1) := by decide +kernel
theorem dX10_watch_1 : decode cX10_watch 1 = .ok (.getfield 10, 3) := by decide +kernel
theorem dX10_watch_4 : decode cX10_watch 4 = .ok (.invokestatic 206, 3) := by decide +kernel
theorem dX10_watch_7 : decode cX10_watch 7 = .ok (.istore_n 1, 1) := by decide +kernel
theorem dX10_watch_8 : decode cX10_watch 8 = .ok (.iload_n 1, 1) := by decide +kernel
theorem dX10_watch_9 : decode cX10_watch 9 = .ok (.ifCond .lt 15, 3) := by decide +kernel
theorem dX10_watch_12 : decode cX10_watch 12 = .ok (.aload_n 0, 1) := by decide +kernel
theorem dX10_watch_13 : decode cX10_watch 13 = .ok (.getfield 10, 3) := by decide +kernel
theorem dX10_watch_16 : decode cX10_watch 16 = .ok (.iconst 0, 1) := by decide +kernel
theorem dX10_watch_17 : decode cX10_watch 17 = .ok (.putfield 97, 3) := by decide +kernel
theorem dX10_watch_20 : decode cX10_watch 20 = .ok (.iconst (-1), 1) := by decide +kernel
theorem dX10_watch_21 : decode cX10_watch 21 = .ok (.iload_n 1, 1) := by decide +kernel
theorem dX10_watch_22 : decode cX10_watch 22 = .ok (.isub, 1) := by decide +kernel
theorem dX10_watch_23 : decode cX10_watch 23 = .ok (.ireturn, 1) := by decide +kernel
theorem dX10_watch_24 : decode cX10_watch 24 = .ok (.aload_n 0, 1) := by decide +kernel
theorem dX10_watch_25 : decode cX10_watch 25 = .ok (.getfield 65, 3) := by decide +kernel
theorem dX10_watch_28 : decode cX10_watch 28 = .ok (.aload_n 0, 1) := by decide +kernel
theorem dX10_watch_29 : decode cX10_watch 29 = .ok (.getfield 58, 3) := by decide +kernel
theorem dX10_watch_32 : decode cX10_watch 32 = .ok (.invokevirtual 180, 3) := by decide +kernel
theorem dX10_watch_35 : decode cX10_watch 35 = .ok (.iconst 0, 1) := by decide +kernel
theorem dX10_watch_36 : decode cX10_watch 36 = .ok (.istore_n 2, 1) := by decide +kernel
theorem dX10_watch_37 : decode cX10_watch 37 = .ok (.iconst 0, 1) := by decide +kernel
theorem dX10_watch_38 : decode cX10_watch 38 = .ok (.istore_n 3, 1) := by decide +kernel
theorem dX10_watch_39 : decode cX10_watch 39 = .ok (.iconst 0, 1) := by decide +kernel
theorem dX10_watch_40 : decode cX10_watch 40 = .ok (.istore 4, 2) := by decide +kernel
theorem dX10_watch_42 : decode cX10_watch 42 = .ok (.iload 4, 2) := by decide +kernel
theorem dX10_watch_44 : decode cX10_watch 44 = .ok (.aload_n 0, 1) := by decide +kernel
theorem dX10_watch_45 : decode cX10_watch 45 = .ok (.getfield 10, 3) := by decide +kernel
theorem dX10_watch_48 : decode cX10_watch 48 = .ok (.getfield 97, 3) := by decide +kernel
theorem dX10_watch_51 : decode cX10_watch 51 = .ok (.if_icmp .ge 52, 3) := by decide +kernel
theorem dX10_watch_54 : decode cX10_watch 54 = .ok (.iload_n 3, 1) := by decide +kernel
theorem dX10_watch_55 : decode cX10_watch 55 = .ok (.ifCond .ne 48, 3) := by decide +kernel
theorem dX10_watch_58 : decode cX10_watch 58 = .ok (.aload_n 0, 1) := by decide +kernel
theorem dX10_watch_59 : decode cX10_watch 59 = .ok (.getfield 10, 3) := by decide +kernel
theorem dX10_watch_62 : decode cX10_watch 62 = .ok (.iload 4, 2) := by decide +kernel
theorem dX10_watch_64 : decode cX10_watch 64 = .ok (.invokestatic 209, 3) := by decide +kernel
theorem dX10_watch_67 : decode cX10_watch 67 = .ok (.ifCond .eq 30, 3) := by decide +kernel
theorem dX10_watch_70 : decode cX10_watch 70 = .ok (.aload_n 0, 1) := by decide +kernel
theorem dX10_watch_71 : decode cX10_watch 71 = .ok (.iload 4, 2) := by decide +kernel
theorem dX10_watch_73 : decode cX10_watch 73 = .ok (.invokevirtual 213, 3) := by decide +kernel
theorem dX10_watch_76 : decode cX10_watch 76 = .ok (.ifCond .ge 7, 3) := by decide +kernel
theorem dX10_watch_79 : decode cX10_watch 79 = .ok (.iconst 1, 1) := by decide +kernel
theorem dX10_watch_80 : decode cX10_watch 80 = .ok (.goto 4, 3) := by decide +kernel
theorem dX10_watch_83 : decode cX10_watch 83 = .ok (.iconst 0, 1) := by decide +kernel
theorem dX10_watch_84 : decode cX10_watch 84 = .ok (.istore_n 3, 1) := by decide +kernel
theorem dX10_watch_85 : decode cX10_watch 85 = .ok (.iload_n 2, 1) := by decide +kernel
theorem dX10_watch_86 : decode cX10_watch 86 = .ok (.iload_n 3, 1) := by decide +kernel
theorem dX10_watch_87 : decode cX10_watch 87 = .ok (.ifCond .eq 7, 3) := by decide +kernel
theorem dX10_watch_90 : decode cX10_watch 90 = .ok (.iconst 0, 1) := by decide +kernel
theorem dX10_watch_91 : decode cX10_watch 91 = .ok (.goto 4, 3) := by decide +kernel
theorem dX10_watch_94 : decode cX10_watch 94 = .ok (.iconst 1, 1) := by decide +kernel
theorem dX10_watch_95 : decode cX10_watch 95 = .ok (.iadd, 1) := by decide +kernel
theorem dX10_watch_96 : decode cX10_watch 96 = .ok (.istore_n 2, 1) := by decide +kernel
theorem dX10_watch_97 : decode cX10_watch 97 = .ok (.iinc 4 1, 3) := by decide +kernel
theorem dX10_watch_100 : decode cX10_watch 100 = .ok (.goto (-58), 3) := by decide +kernel
theorem dX10_watch_103 : decode cX10_watch 103 = .ok (.aload_n 0, 1) := by decide +kernel
theorem dX10_watch_104 : decode cX10_watch 104 = .ok (.getfield 10, 3) := by decide +kernel
theorem dX10_watch_107 : decode cX10_watch 107 = .ok (.iconst 0, 1) := by decide +kernel
theorem dX10_watch_108 : decode cX10_watch 108 = .ok (.putfield 97, 3) := by decide +kernel
theorem dX10_watch_111 : decode cX10_watch 111 = .ok (.iload_n 2, 1) := by decide +kernel
theorem dX10_watch_112 : decode cX10_watch 112 = .ok (.ifCond .le 14, 3) := by decide +kernel
theorem dX10_watch_115 : decode cX10_watch 115 = .ok (.aload_n 0, 1) := by decide +kernel
theorem dX10_watch_116 : decode cX10_watch 116 = .ok (.getfield 71, 3) := by decide +kernel
theorem dX10_watch_119 : decode cX10_watch 119 = .ok (.aload_n 0, 1) := by decide +kernel
theorem dX10_watch_120 : decode cX10_watch 120 = .ok (.getfield 65, 3) := by decide +kernel
theorem dX10_watch_123 : decode cX10_watch 123 = .ok (.invokevirtual 216, 3) := by decide +kernel
theorem dX10_watch_126 : decode cX10_watch 126 = .ok (.aload_n 0, 1) := by decide +kernel
theorem dX10_watch_127 : decode cX10_watch 127 = .ok (.iload_n 3, 1) := by decide +kernel
theorem dX10_watch_128 : decode cX10_watch 128 = .ok (.ifCond .eq 7, 3) := by decide +kernel
theorem dX10_watch_131 : decode cX10_watch 131 = .ok (.lconst 1, 1) := by decide +kernel
theorem dX10_watch_132 : decode cX10_watch 132 = .ok (.goto 4, 3) := by decide +kernel
theorem dX10_watch_135 : decode cX10_watch 135 = .ok (.lconst 0, 1) := by decide +kernel
theorem dX10_watch_136 : decode cX10_watch 136 = .ok (.aload_n 0, 1) := by decide +kernel
theorem dX10_watch_137 : decode cX10_watch 137 = .ok (.getfield 58, 3) := by decide +kernel
theorem dX10_watch_140 : decode cX10_watch 140 = .ok (.getfield 199, 3) := by decide +kernel
theorem dX10_watch_143 : decode cX10_watch 143 = .ok (.aload_n 0, 1) := by decide +kernel
theorem dX10_watch_144 : decode cX10_watch 144 = .ok (.getfield 65, 3) := by decide +kernel
theorem dX10_watch_147 : decode cX10_watch 147 = .ok (.getfield 199, 3) := by decide +kernel
theorem dX10_watch_150 : decode cX10_watch 150 = .ok (.isub, 1) := by decide +kernel
theorem dX10_watch_151 : decode cX10_watch 151 = .ok (.i2l, 1) := by decide +kernel
theorem dX10_watch_152 : decode cX10_watch 152 = .ok (.invokevirtual 202, 3) := by decide +kernel
theorem dX10_watch_155 : decode cX10_watch 155 = .ok (.iload_n 2, 1) := by decide +kernel
theorem dX10_watch_156 : decode cX10_watch 156 = .ok (.ireturn, 1) := by decide +kernel
theorem dX10_act_0 : decode cX10_act 0 = .ok (.aload_n 0, 1) := by decide +kernel
theorem dX10_act_1 : decode cX10_act 1 = .ok (.getfield 10, 3) := by decide +kernel
theorem dX10_act_4 : decode cX10_act 4 = .ok (.iload_n 1, 1) := by decide +kernel
theorem dX10_act_5 : decode cX10_act 5 = .ok (.invokevirtual 219, 3) := by decide +kernel
theorem dX10_act_8 : decode cX10_act 8 = .ok (.lookupswitch 119 #[(99, 76), (108, 60), (109, 103), (116, 44)], 44) := by decide +kernel
theorem dX10_act_52 : decode cX10_act 52 = .ok (.aload_n 0, 1) := by decide +kernel
theorem dX10_act_53 : decode cX10_act 53 = .ok (.aload_n 0, 1) := by decide +kernel
theorem dX10_act_54 : decode cX10_act 54 = .ok (.getfield 10, 3) := by decide +kernel
theorem dX10_act_57 : decode cX10_act 57 = .ok (.iload_n 1, 1) := by decide +kernel
theorem dX10_act_58 : decode cX10_act 58 = .ok (.iconst 1, 1) := by decide +kernel
theorem dX10_act_59 : decode cX10_act 59 = .ok (.iadd, 1) := by decide +kernel
theorem dX10_act_60 : decode cX10_act 60 = .ok (.iconst 1, 1) := by decide +kernel
theorem dX10_act_61 : decode cX10_act 61 = .ok (.invokevirtual 222, 3) := by decide +kernel
theorem dX10_act_64 : decode cX10_act 64 = .ok (.invokevirtual 184, 3) := by decide +kernel
theorem dX10_act_67 : decode cX10_act 67 = .ok (.ireturn, 1) := by decide +kernel
theorem dX10_act_68 : decode cX10_act 68 = .ok (.aload_n 0, 1) := by decide +kernel
theorem dX10_act_69 : decode cX10_act 69 = .ok (.aload_n 0, 1) := by decide +kernel
theorem dX10_act_70 : decode cX10_act 70 = .ok (.getfield 10, 3) := by decide +kernel
theorem dX10_act_73 : decode cX10_act 73 = .ok (.iload_n 1, 1) := by decide +kernel
theorem dX10_act_74 : decode cX10_act 74 = .ok (.iconst 1, 1) := by decide +kernel
theorem dX10_act_75 : decode cX10_act 75 = .ok (.iadd, 1) := by decide +kernel
theorem dX10_act_76 : decode cX10_act 76 = .ok (.iconst 1, 1) := by decide +kernel
theorem dX10_act_77 : decode cX10_act 77 = .ok (.invokevirtual 222, 3) := by decide +kernel
theorem dX10_act_80 : decode cX10_act 80 = .ok (.invokevirtual 190, 3) := by decide +kernel
theorem dX10_act_83 : decode cX10_act 83 = .ok (.ireturn, 1) := by decide +kernel
theorem dX10_act_84 : decode cX10_act 84 = .ok (.aload_n 0, 1) := by decide +kernel
theorem dX10_act_85 : decode cX10_act 85 = .ok (.aload_n 0, 1) := by decide +kernel
theorem dX10_act_86 : decode cX10_act 86 = .ok (.getfield 10, 3) := by decide +kernel
theorem dX10_act_89 : decode cX10_act 89 = .ok (.iload_n 1, 1) := by decide +kernel
theorem dX10_act_90 : decode cX10_act 90 = .ok (.iconst 1, 1) := by decide +kernel
theorem dX10_act_91 : decode cX10_act 91 = .ok (.iadd, 1) := by decide +kernel
theorem dX10_act_92 : decode cX10_act 92 = .ok (.iconst 1, 1) := by decide +kernel
theorem dX10_act_93 : decode cX10_act 93 = .ok (.invokevirtual 222, 3) := by decide +kernel
theorem dX10_act_96 : decode cX10_act 96 = .ok (.aload_n 0, 1) := by decide +kernel
theorem dX10_act_97 : decode cX10_act 97 = .ok (.getfield 10, 3) := by decide +kernel
theorem dX10_act_100 : decode cX10_act 100 = .ok (.iload_n 1, 1) := by decide +kernel
theorem dX10_act_101 : decode cX10_act 101 = .ok (.iconst 2, 1) := by decide +kernel
theorem dX10_act_102 : decode cX10_act 102 = .ok (.iadd, 1) := by decide +kernel
theorem dX10_act_103 : decode cX10_act 103 = .ok (.iconst 1, 1) := by decide +kernel
theorem dX10_act_104 : decode cX10_act 104 = .ok (.invokevirtual 222, 3) := by decide +kernel
theorem dX10_act_107 : decode cX10_act 107 = .ok (.invokevirtual 225, 3) := by decide +kernel
theorem dX10_act_110 : decode cX10_act 110 = .ok (.ireturn, 1) := by decide +kernel
theorem dX10_act_111 : decode cX10_act 111 = .ok (.aload_n 0, 1) := by decide +kernel
theorem dX10_act_112 : decode cX10_act 112 = .ok (.aload_n 0, 1) := by decide +kernel
theorem dX10_act_113 : decode cX10_act 113 = .ok (.getfield 10, 3) := by decide +kernel
theorem dX10_act_116 : decode cX10_act 116 = .ok (.iload_n 1, 1) := by decide +kernel
theorem dX10_act_117 : decode cX10_act 117 = .ok (.iconst 1, 1) := by decide +kernel
theorem dX10_act_118 : decode cX10_act 118 = .ok (.iadd, 1) := by decide +kernel
theorem dX10_act_119 : decode cX10_act 119 = .ok (.iconst 2, 1) := by decide +kernel
theorem dX10_act_120 : decode cX10_act 120 = .ok (.invokevirtual 222, 3) := by decide +kernel
theorem dX10_act_123 : decode cX10_act 123 = .ok (.invokevirtual 193, 3) := by decide +kernel
theorem dX10_act_126 : decode cX10_act 126 = .ok (.ireturn, 1) := by decide +kernel
theorem dX10_act_127 : decode cX10_act 127 = .ok (.aload_n 0, 1) := by decide +kernel
theorem dX10_act_128 : decode cX10_act 128 = .ok (.aload_n 0, 1) := by decide +kernel
theorem dX10_act_129 : decode cX10_act 129 = .ok (.getfield 10, 3) := by decide +kernel
theorem dX10_act_132 : decode cX10_act 132 = .ok (.iload_n 1, 1) := by decide +kernel
theorem dX10_act_133 : decode cX10_act 133 = .ok (.iconst 3, 1) := by decide +kernel
theorem dX10_act_134 : decode cX10_act 134 = .ok (.invokevirtual 222, 3) := by decide +kernel
theorem dX10_act_137 : decode cX10_act 137 = .ok (.invokevirtual 196, 3) := by decide +kernel
theorem dX10_act_140 : decode cX10_act 140 = .ok (.ireturn, 1) := by decide +kernel
theorem dX10_remembered_0 : decode cX10_remembered 0 = .ok (.iload_n 1, 1) := by decide +kernel
theorem dX10_remembered_1 : decode cX10_remembered 1 = .ok (.ifCond .lt 14, 3) := by decide +kernel
theorem dX10_remembered_4 : decode cX10_remembered 4 = .ok (.aload_n 0, 1) := by decide +kernel
theorem dX10_remembered_5 : decode cX10_remembered 5 = .ok (.getfield 71, 3) := by decide +kernel
theorem dX10_remembered_8 : decode cX10_remembered 8 = .ok (.aload_n 0, 1) := by decide +kernel
theorem dX10_remembered_9 : decode cX10_remembered 9 = .ok (.getfield 65, 3) := by decide +kernel
theorem dX10_remembered_12 : decode cX10_remembered 12 = .ok (.invokevirtual 216, 3) := by decide +kernel
theorem dX10_remembered_15 : decode cX10_remembered 15 = .ok (.iload_n 1, 1) := by decide +kernel
theorem dX10_remembered_16 : decode cX10_remembered 16 = .ok (.ireturn, 1) := by decide +kernel
theorem dX10_grasp_0 : decode cX10_grasp 0 = .ok (.aload_n 0, 1) := by decide +kernel
theorem dX10_grasp_1 : decode cX10_grasp 1 = .ok (.getfield 34, 3) := by decide +kernel
theorem dX10_grasp_4 : decode cX10_grasp 4 = .ok (.getfield 38, 3) := by decide +kernel
theorem dX10_grasp_7 : decode cX10_grasp 7 = .ok (.iload_n 1, 1) := by decide +kernel
theorem dX10_grasp_8 : decode cX10_grasp 8 = .ok (.invokevirtual 121, 3) := by decide +kernel
theorem dX10_grasp_11 : decode cX10_grasp 11 = .ok (.ifCond .ne 5, 3) := by decide +kernel
theorem dX10_grasp_14 : decode cX10_grasp 14 = .ok (.iconst (-1), 1) := by decide +kernel
theorem dX10_grasp_15 : decode cX10_grasp 15 = .ok (.ireturn, 1) := by decide +kernel
theorem dX10_grasp_16 : decode cX10_grasp 16 = .ok (.aload_n 0, 1) := by decide +kernel
theorem dX10_grasp_17 : decode cX10_grasp 17 = .ok (.getfield 58, 3) := by decide +kernel
theorem dX10_grasp_20 : decode cX10_grasp 20 = .ok (.iload_n 1, 1) := by decide +kernel
theorem dX10_grasp_21 : decode cX10_grasp 21 = .ok (.invokevirtual 138, 3) := by decide +kernel
theorem dX10_grasp_24 : decode cX10_grasp 24 = .ok (.ifCond .eq 6, 3) := by decide +kernel
theorem dX10_grasp_27 : decode cX10_grasp 27 = .ok (.bipush (-2), 2) := by decide +kernel
theorem dX10_grasp_29 : decode cX10_grasp 29 = .ok (.ireturn, 1) := by decide +kernel
theorem dX10_grasp_30 : decode cX10_grasp 30 = .ok (.aload_n 0, 1) := by decide +kernel
theorem dX10_grasp_31 : decode cX10_grasp 31 = .ok (.getfield 58, 3) := by decide +kernel
theorem dX10_grasp_34 : decode cX10_grasp 34 = .ok (.getfield 148, 3) := by decide +kernel
theorem dX10_grasp_37 : decode cX10_grasp 37 = .ok (.invokestatic 228, 3) := by decide +kernel
theorem dX10_grasp_40 : decode cX10_grasp 40 = .ok (.iconst 3, 1) := by decide +kernel
theorem dX10_grasp_41 : decode cX10_grasp 41 = .ok (.if_icmp .lt 6, 3) := by decide +kernel
theorem dX10_grasp_44 : decode cX10_grasp 44 = .ok (.bipush (-3), 2) := by decide +kernel
theorem dX10_grasp_46 : decode cX10_grasp 46 = .ok (.ireturn, 1) := by decide +kernel
theorem dX10_grasp_47 : decode cX10_grasp 47 = .ok (.aload_n 0, 1) := by decide +kernel
theorem dX10_grasp_48 : decode cX10_grasp 48 = .ok (.getfield 58, 3) := by decide +kernel
theorem dX10_grasp_51 : decode cX10_grasp 51 = .ok (.dup, 1) := by decide +kernel
theorem dX10_grasp_52 : decode cX10_grasp 52 = .ok (.getfield 148, 3) := by decide +kernel
theorem dX10_grasp_55 : decode cX10_grasp 55 = .ok (.iconst 1, 1) := by decide +kernel
theorem dX10_grasp_56 : decode cX10_grasp 56 = .ok (.iload_n 1, 1) := by decide +kernel
theorem dX10_grasp_57 : decode cX10_grasp 57 = .ok (.ishl, 1) := by decide +kernel
theorem dX10_grasp_58 : decode cX10_grasp 58 = .ok (.ior, 1) := by decide +kernel
theorem dX10_grasp_59 : decode cX10_grasp 59 = .ok (.putfield 148, 3) := by decide +kernel
theorem dX10_grasp_62 : decode cX10_grasp 62 = .ok (.aload_n 0, 1) := by decide +kernel
theorem dX10_grasp_63 : decode cX10_grasp 63 = .ok (.getfield 58, 3) := by decide +kernel
theorem dX10_grasp_66 : decode cX10_grasp 66 = .ok (.getfield 148, 3) := by decide +kernel
theorem dX10_grasp_69 : decode cX10_grasp 69 = .ok (.invokestatic 228, 3) := by decide +kernel
theorem dX10_grasp_72 : decode cX10_grasp 72 = .ok (.ireturn, 1) := by decide +kernel
theorem dX10_letGo_0 : decode cX10_letGo 0 = .ok (.aload_n 0, 1) := by decide +kernel
theorem dX10_letGo_1 : decode cX10_letGo 1 = .ok (.getfield 34, 3) := by decide +kernel
theorem dX10_letGo_4 : decode cX10_letGo 4 = .ok (.getfield 38, 3) := by decide +kernel
theorem dX10_letGo_7 : decode cX10_letGo 7 = .ok (.iload_n 1, 1) := by decide +kernel
theorem dX10_letGo_8 : decode cX10_letGo 8 = .ok (.invokevirtual 121, 3) := by decide +kernel
theorem dX10_letGo_11 : decode cX10_letGo 11 = .ok (.ifCond .ne 5, 3) := by decide +kernel
theorem dX10_letGo_14 : decode cX10_letGo 14 = .ok (.iconst (-1), 1) := by decide +kernel
theorem dX10_letGo_15 : decode cX10_letGo 15 = .ok (.ireturn, 1) := by decide +kernel
theorem dX10_letGo_16 : decode cX10_letGo 16 = .ok (.aload_n 0, 1) := by decide +kernel
theorem dX10_letGo_17 : decode cX10_letGo 17 = .ok (.getfield 58, 3) := by decide +kernel
theorem dX10_letGo_20 : decode cX10_letGo 20 = .ok (.iload_n 1, 1) := by decide +kernel
theorem dX10_letGo_21 : decode cX10_letGo 21 = .ok (.invokevirtual 138, 3) := by decide +kernel
theorem dX10_letGo_24 : decode cX10_letGo 24 = .ok (.ifCond .ne 6, 3) := by decide +kernel
theorem dX10_letGo_27 : decode cX10_letGo 27 = .ok (.bipush (-2), 2) := by decide +kernel
theorem dX10_letGo_29 : decode cX10_letGo 29 = .ok (.ireturn, 1) := by decide +kernel
theorem dX10_letGo_30 : decode cX10_letGo 30 = .ok (.aload_n 0, 1) := by decide +kernel
theorem dX10_letGo_31 : decode cX10_letGo 31 = .ok (.getfield 58, 3) := by decide +kernel
theorem dX10_letGo_34 : decode cX10_letGo 34 = .ok (.dup, 1) := by decide +kernel
theorem dX10_letGo_35 : decode cX10_letGo 35 = .ok (.getfield 148, 3) := by decide +kernel
theorem dX10_letGo_38 : decode cX10_letGo 38 = .ok (.iconst 1, 1) := by decide +kernel
theorem dX10_letGo_39 : decode cX10_letGo 39 = .ok (.iload_n 1, 1) := by decide +kernel
theorem dX10_letGo_40 : decode cX10_letGo 40 = .ok (.ishl, 1) := by decide +kernel
theorem dX10_letGo_41 : decode cX10_letGo 41 = .ok (.iconst (-1), 1) := by decide +kernel
theorem dX10_letGo_42 : decode cX10_letGo 42 = .ok (.ixor, 1) := by decide +kernel
theorem dX10_letGo_43 : decode cX10_letGo 43 = .ok (.iand, 1) := by decide +kernel
theorem dX10_letGo_44 : decode cX10_letGo 44 = .ok (.putfield 148, 3) := by decide +kernel
theorem dX10_letGo_47 : decode cX10_letGo 47 = .ok (.aload_n 0, 1) := by decide +kernel
theorem dX10_letGo_48 : decode cX10_letGo 48 = .ok (.getfield 58, 3) := by decide +kernel
theorem dX10_letGo_51 : decode cX10_letGo 51 = .ok (.getfield 148, 3) := by decide +kernel
theorem dX10_letGo_54 : decode cX10_letGo 54 = .ok (.invokestatic 228, 3) := by decide +kernel
theorem dX10_letGo_57 : decode cX10_letGo 57 = .ok (.ireturn, 1) := by decide +kernel
theorem dX10_relieve_0 : decode cX10_relieve 0 = .ok (.aload_n 0, 1) := by decide +kernel
theorem dX10_relieve_1 : decode cX10_relieve 1 = .ok (.getfield 58, 3) := by decide +kernel
theorem dX10_relieve_4 : decode cX10_relieve 4 = .ok (.getfield 148, 3) := by decide +kernel
theorem dX10_relieve_7 : decode cX10_relieve 7 = .ok (.istore_n 3, 1) := by decide +kernel
theorem dX10_relieve_8 : decode cX10_relieve 8 = .ok (.aload_n 0, 1) := by decide +kernel
theorem dX10_relieve_9 : decode cX10_relieve 9 = .ok (.iload_n 1, 1) := by decide +kernel
theorem dX10_relieve_10 : decode cX10_relieve 10 = .ok (.invokevirtual 190, 3) := by decide +kernel
theorem dX10_relieve_13 : decode cX10_relieve 13 = .ok (.istore 4, 2) := by decide +kernel
theorem dX10_relieve_15 : decode cX10_relieve 15 = .ok (.iload 4, 2) := by decide +kernel
theorem dX10_relieve_17 : decode cX10_relieve 17 = .ok (.ifCond .ge 6, 3) := by decide +kernel
theorem dX10_relieve_20 : decode cX10_relieve 20 = .ok (.iload 4, 2) := by decide +kernel
theorem dX10_relieve_22 : decode cX10_relieve 22 = .ok (.ireturn, 1) := by decide +kernel
theorem dX10_relieve_23 : decode cX10_relieve 23 = .ok (.aload_n 0, 1) := by decide +kernel
theorem dX10_relieve_24 : decode cX10_relieve 24 = .ok (.iload_n 2, 1) := by decide +kernel
theorem dX10_relieve_25 : decode cX10_relieve 25 = .ok (.invokevirtual 184, 3) := by decide +kernel
theorem dX10_relieve_28 : decode cX10_relieve 28 = .ok (.istore 4, 2) := by decide +kernel
theorem dX10_relieve_30 : decode cX10_relieve 30 = .ok (.iload 4, 2) := by decide +kernel
theorem dX10_relieve_32 : decode cX10_relieve 32 = .ok (.ifCond .ge 11, 3) := by decide +kernel
theorem dX10_relieve_35 : decode cX10_relieve 35 = .ok (.aload_n 0, 1) := by decide +kernel
theorem dX10_relieve_36 : decode cX10_relieve 36 = .ok (.getfield 58, 3) := by decide +kernel
theorem dX10_relieve_39 : decode cX10_relieve 39 = .ok (.iload_n 3, 1) := by decide +kernel
theorem dX10_relieve_40 : decode cX10_relieve 40 = .ok (.putfield 148, 3) := by decide +kernel
theorem dX10_relieve_43 : decode cX10_relieve 43 = .ok (.iload 4, 2) := by decide +kernel
theorem dX10_relieve_45 : decode cX10_relieve 45 = .ok (.ireturn, 1) := by decide +kernel
theorem dX10_splice_0 : decode cX10_splice 0 = .ok (.iload_n 1, 1) := by decide +kernel
theorem dX10_splice_1 : decode cX10_splice 1 = .ok (.iconst 1, 1) := by decide +kernel
theorem dX10_splice_2 : decode cX10_splice 2 = .ok (.if_icmp .lt 9, 3) := by decide +kernel
theorem dX10_splice_5 : decode cX10_splice 5 = .ok (.iload_n 1, 1) := by decide +kernel
theorem dX10_splice_6 : decode cX10_splice 6 = .ok (.bipush 99, 2) := by decide +kernel
theorem dX10_splice_8 : decode cX10_splice 8 = .ok (.if_icmp .le 5, 3) := by decide +kernel
theorem dX10_splice_11 : decode cX10_splice 11 = .ok (.iconst (-1), 1) := by decide +kernel
theorem dX10_splice_12 : decode cX10_splice 12 = .ok (.ireturn, 1) := by decide +kernel
theorem dX10_splice_13 : decode cX10_splice 13 = .ok (.aload_n 0, 1) := by decide +kernel
theorem dX10_splice_14 : decode cX10_splice 14 = .ok (.getfield 58, 3) := by decide +kernel
theorem dX10_splice_17 : decode cX10_splice 17 = .ok (.bipush 99, 2) := by decide +kernel
theorem dX10_splice_19 : decode cX10_splice 19 = .ok (.aload_n 0, 1) := by decide +kernel
theorem dX10_splice_20 : decode cX10_splice 20 = .ok (.getfield 58, 3) := by decide +kernel
theorem dX10_splice_23 : decode cX10_splice 23 = .ok (.getfield 233, 3) := by decide +kernel
theorem dX10_splice_26 : decode cX10_splice 26 = .ok (.iload_n 1, 1) := by decide +kernel
theorem dX10_splice_27 : decode cX10_splice 27 = .ok (.iadd, 1) := by decide +kernel
theorem dX10_splice_28 : decode cX10_splice 28 = .ok (.invokestatic 172, 3) := by decide +kernel
theorem dX10_splice_31 : decode cX10_splice 31 = .ok (.putfield 233, 3) := by decide +kernel
theorem dX10_splice_34 : decode cX10_splice 34 = .ok (.aload_n 0, 1) := by decide +kernel
theorem dX10_splice_35 : decode cX10_splice 35 = .ok (.getfield 58, 3) := by decide +kernel
theorem dX10_splice_38 : decode cX10_splice 38 = .ok (.getfield 233, 3) := by decide +kernel
theorem dX10_splice_41 : decode cX10_splice 41 = .ok (.ireturn, 1) := by decide +kernel
theorem dX10_pass_0 : decode cX10_pass 0 = .ok (.iload_n 1, 1) := by decide +kernel
theorem dX10_pass_1 : decode cX10_pass 1 = .ok (.ifCond .lt 9, 3) := by decide +kernel
theorem dX10_pass_4 : decode cX10_pass 4 = .ok (.iload_n 1, 1) := by decide +kernel
theorem dX10_pass_5 : decode cX10_pass 5 = .ok (.bipush 120, 2) := by decide +kernel
theorem dX10_pass_7 : decode cX10_pass 7 = .ok (.if_icmp .le 5, 3) := by decide +kernel
theorem dX10_pass_10 : decode cX10_pass 10 = .ok (.iconst (-1), 1) := by decide +kernel
theorem dX10_pass_11 : decode cX10_pass 11 = .ok (.ireturn, 1) := by decide +kernel
theorem dX10_pass_12 : decode cX10_pass 12 = .ok (.aload_n 0, 1) := by decide +kernel
theorem dX10_pass_13 : decode cX10_pass 13 = .ok (.getfield 58, 3) := by decide +kernel
theorem dX10_pass_16 : decode cX10_pass 16 = .ok (.getfield 236, 3) := by decide +kernel
theorem dX10_pass_19 : decode cX10_pass 19 = .ok (.istore_n 2, 1) := by decide +kernel
theorem dX10_pass_20 : decode cX10_pass 20 = .ok (.iconst 0, 1) := by decide +kernel
theorem dX10_pass_21 : decode cX10_pass 21 = .ok (.istore_n 3, 1) := by decide +kernel
theorem dX10_pass_22 : decode cX10_pass 22 = .ok (.iload_n 3, 1) := by decide +kernel
theorem dX10_pass_23 : decode cX10_pass 23 = .ok (.iload_n 1, 1) := by decide +kernel
theorem dX10_pass_24 : decode cX10_pass 24 = .ok (.if_icmp .ge 20, 3) := by decide +kernel
theorem dX10_pass_27 : decode cX10_pass 27 = .ok (.aload_n 0, 1) := by decide +kernel
theorem dX10_pass_28 : decode cX10_pass 28 = .ok (.getfield 34, 3) := by decide +kernel
theorem dX10_pass_31 : decode cX10_pass 31 = .ok (.aload_n 0, 1) := by decide +kernel
theorem dX10_pass_32 : decode cX10_pass 32 = .ok (.getfield 58, 3) := by decide +kernel
theorem dX10_pass_35 : decode cX10_pass 35 = .ok (.invokevirtual 239, 3) := by decide +kernel
theorem dX10_pass_38 : decode cX10_pass 38 = .ok (.iinc 3 1, 3) := by decide +kernel
theorem dX10_pass_41 : decode cX10_pass 41 = .ok (.goto (-19), 3) := by decide +kernel
theorem dX10_pass_44 : decode cX10_pass 44 = .ok (.aload_n 0, 1) := by decide +kernel
theorem dX10_pass_45 : decode cX10_pass 45 = .ok (.getfield 58, 3) := by decide +kernel
theorem dX10_pass_48 : decode cX10_pass 48 = .ok (.getfield 236, 3) := by decide +kernel
theorem dX10_pass_51 : decode cX10_pass 51 = .ok (.iload_n 2, 1) := by decide +kernel
theorem dX10_pass_52 : decode cX10_pass 52 = .ok (.isub, 1) := by decide +kernel
theorem dX10_pass_53 : decode cX10_pass 53 = .ok (.ireturn, 1) := by decide +kernel
theorem dX10_undo_0 : decode cX10_undo 0 = .ok (.aload_n 0, 1) := by decide +kernel
theorem dX10_undo_1 : decode cX10_undo 1 = .ok (.getfield 71, 3) := by decide +kernel
theorem dX10_undo_4 : decode cX10_undo 4 = .ok (.aload_n 0, 1) := by decide +kernel
theorem dX10_undo_5 : decode cX10_undo 5 = .ok (.getfield 58, 3) := by decide +kernel
theorem dX10_undo_8 : decode cX10_undo 8 = .ok (.invokevirtual 242, 3) := by decide +kernel
theorem dX10_undo_11 : decode cX10_undo 11 = .ok (.ireturn, 1) := by decide +kernel
theorem dX10_count_0 : decode cX10_count 0 = .ok (.iload_n 1, 1) := by decide +kernel
theorem dX10_count_1 : decode cX10_count 1 = .ok (.tableswitch 129 0 8 #[51, 62, 73, 81, 89, 97, 105, 113, 121], 51) := by decide +kernel
theorem dX10_count_52 : decode cX10_count 52 = .ok (.aload_n 0, 1) := by decide +kernel
theorem dX10_count_53 : decode cX10_count 53 = .ok (.getfield 34, 3) := by decide +kernel
theorem dX10_count_56 : decode cX10_count 56 = .ok (.getfield 38, 3) := by decide +kernel
theorem dX10_count_59 : decode cX10_count 59 = .ok (.getfield 301, 3) := by decide +kernel
theorem dX10_count_62 : decode cX10_count 62 = .ok (.ireturn, 1) := by decide +kernel
theorem dX10_count_63 : decode cX10_count 63 = .ok (.aload_n 0, 1) := by decide +kernel
theorem dX10_count_64 : decode cX10_count 64 = .ok (.getfield 34, 3) := by decide +kernel
theorem dX10_count_67 : decode cX10_count 67 = .ok (.getfield 42, 3) := by decide +kernel
theorem dX10_count_70 : decode cX10_count 70 = .ok (.getfield 301, 3) := by decide +kernel
theorem dX10_count_73 : decode cX10_count 73 = .ok (.ireturn, 1) := by decide +kernel
theorem dX10_count_74 : decode cX10_count 74 = .ok (.aload_n 0, 1) := by decide +kernel
theorem dX10_count_75 : decode cX10_count 75 = .ok (.getfield 58, 3) := by decide +kernel
theorem dX10_count_78 : decode cX10_count 78 = .ok (.getfield 148, 3) := by decide +kernel
theorem dX10_count_81 : decode cX10_count 81 = .ok (.ireturn, 1) := by decide +kernel
theorem dX10_count_82 : decode cX10_count 82 = .ok (.aload_n 0, 1) := by decide +kernel
theorem dX10_count_83 : decode cX10_count 83 = .ok (.getfield 58, 3) := by decide +kernel
theorem dX10_count_86 : decode cX10_count 86 = .ok (.getfield 233, 3) := by decide +kernel
theorem dX10_count_89 : decode cX10_count 89 = .ok (.ireturn, 1) := by decide +kernel
theorem dX10_count_90 : decode cX10_count 90 = .ok (.aload_n 0, 1) := by decide +kernel
theorem dX10_count_91 : decode cX10_count 91 = .ok (.getfield 58, 3) := by decide +kernel
theorem dX10_count_94 : decode cX10_count 94 = .ok (.getfield 357, 3) := by decide +kernel
theorem dX10_count_97 : decode cX10_count 97 = .ok (.ireturn, 1) := by decide +kernel
theorem dX10_count_98 : decode cX10_count 98 = .ok (.aload_n 0, 1) := by decide +kernel
theorem dX10_count_99 : decode cX10_count 99 = .ok (.getfield 58, 3) := by decide +kernel
theorem dX10_count_102 : decode cX10_count 102 = .ok (.getfield 236, 3) := by decide +kernel
theorem dX10_count_105 : decode cX10_count 105 = .ok (.ireturn, 1) := by decide +kernel
theorem dX10_count_106 : decode cX10_count 106 = .ok (.aload_n 0, 1) := by decide +kernel
theorem dX10_count_107 : decode cX10_count 107 = .ok (.getfield 58, 3) := by decide +kernel
theorem dX10_count_110 : decode cX10_count 110 = .ok (.getfield 260, 3) := by decide +kernel
theorem dX10_count_113 : decode cX10_count 113 = .ok (.ireturn, 1) := by decide +kernel
theorem dX10_count_114 : decode cX10_count 114 = .ok (.aload_n 0, 1) := by decide +kernel
theorem dX10_count_115 : decode cX10_count 115 = .ok (.getfield 58, 3) := by decide +kernel
theorem dX10_count_118 : decode cX10_count 118 = .ok (.getfield 199, 3) := by decide +kernel
theorem dX10_count_121 : decode cX10_count 121 = .ok (.ireturn, 1) := by decide +kernel
theorem dX10_count_122 : decode cX10_count 122 = .ok (.aload_n 0, 1) := by decide +kernel
theorem dX10_count_123 : decode cX10_count 123 = .ok (.getfield 58, 3) := by decide +kernel
theorem dX10_count_126 : decode cX10_count 126 = .ok (.getfield 250, 3) := by decide +kernel
theorem dX10_count_129 : decode cX10_count 129 = .ok (.ireturn, 1) := by decide +kernel
theorem dX10_count_130 : decode cX10_count 130 = .ok (.aload_n 0, 1) := by decide +kernel
theorem dX10_count_131 : decode cX10_count 131 = .ok (.iload_n 1, 1) := by decide +kernel
theorem dX10_count_132 : decode cX10_count 132 = .ok (.invokevirtual 360, 3) := by decide +kernel
theorem dX10_count_135 : decode cX10_count 135 = .ok (.ireturn, 1) := by decide +kernel
theorem dX10_countFurther_0 : decode cX10_countFurther 0 = .ok (.iload_n 1, 1) := by decide +kernel
theorem dX10_countFurther_1 : decode cX10_countFurther 1 = .ok (.tableswitch 111 9 16 #[47, 55, 63, 71, 79, 87, 95, 103], 47) := by decide +kernel
theorem dX10_countFurther_48 : decode cX10_countFurther 48 = .ok (.aload_n 0, 1) := by decide +kernel
theorem dX10_countFurther_49 : decode cX10_countFurther 49 = .ok (.getfield 58, 3) := by decide +kernel
theorem dX10_countFurther_52 : decode cX10_countFurther 52 = .ok (.getfield 145, 3) := by decide +kernel
theorem dX10_countFurther_55 : decode cX10_countFurther 55 = .ok (.ireturn, 1) := by decide +kernel
theorem dX10_countFurther_56 : decode cX10_countFurther 56 = .ok (.aload_n 0, 1) := by decide +kernel
theorem dX10_countFurther_57 : decode cX10_countFurther 57 = .ok (.getfield 34, 3) := by decide +kernel
theorem dX10_countFurther_60 : decode cX10_countFurther 60 = .ok (.getfield 151, 3) := by decide +kernel
theorem dX10_countFurther_63 : decode cX10_countFurther 63 = .ok (.ireturn, 1) := by decide +kernel
theorem dX10_countFurther_64 : decode cX10_countFurther 64 = .ok (.aload_n 0, 1) := by decide +kernel
theorem dX10_countFurther_65 : decode cX10_countFurther 65 = .ok (.getfield 34, 3) := by decide +kernel
theorem dX10_countFurther_68 : decode cX10_countFurther 68 = .ok (.getfield 154, 3) := by decide +kernel
theorem dX10_countFurther_71 : decode cX10_countFurther 71 = .ok (.ireturn, 1) := by decide +kernel
theorem dX10_countFurther_72 : decode cX10_countFurther 72 = .ok (.aload_n 0, 1) := by decide +kernel
theorem dX10_countFurther_73 : decode cX10_countFurther 73 = .ok (.getfield 34, 3) := by decide +kernel
theorem dX10_countFurther_76 : decode cX10_countFurther 76 = .ok (.getfield 157, 3) := by decide +kernel
theorem dX10_countFurther_79 : decode cX10_countFurther 79 = .ok (.ireturn, 1) := by decide +kernel
theorem dX10_countFurther_80 : decode cX10_countFurther 80 = .ok (.aload_n 0, 1) := by decide +kernel
theorem dX10_countFurther_81 : decode cX10_countFurther 81 = .ok (.getfield 93, 3) := by decide +kernel
theorem dX10_countFurther_84 : decode cX10_countFurther 84 = .ok (.getfield 312, 3) := by decide +kernel
theorem dX10_countFurther_87 : decode cX10_countFurther 87 = .ok (.ireturn, 1) := by decide +kernel
theorem dX10_countFurther_88 : decode cX10_countFurther 88 = .ok (.aload_n 0, 1) := by decide +kernel
theorem dX10_countFurther_89 : decode cX10_countFurther 89 = .ok (.getfield 71, 3) := by decide +kernel
theorem dX10_countFurther_92 : decode cX10_countFurther 92 = .ok (.getfield 363, 3) := by decide +kernel
theorem dX10_countFurther_95 : decode cX10_countFurther 95 = .ok (.ireturn, 1) := by decide +kernel
theorem dX10_countFurther_96 : decode cX10_countFurther 96 = .ok (.aload_n 0, 1) := by decide +kernel
theorem dX10_countFurther_97 : decode cX10_countFurther 97 = .ok (.getfield 19, 3) := by decide +kernel
theorem dX10_countFurther_100 : decode cX10_countFurther 100 = .ok (.getfield 364, 3) := by decide +kernel
theorem dX10_countFurther_103 : decode cX10_countFurther 103 = .ok (.ireturn, 1) := by decide +kernel
theorem dX10_countFurther_104 : decode cX10_countFurther 104 = .ok (.aload_n 0, 1) := by decide +kernel
theorem dX10_countFurther_105 : decode cX10_countFurther 105 = .ok (.getfield 10, 3) := by decide +kernel
theorem dX10_countFurther_108 : decode cX10_countFurther 108 = .ok (.getfield 97, 3) := by decide +kernel
theorem dX10_countFurther_111 : decode cX10_countFurther 111 = .ok (.ireturn, 1) := by decide +kernel
theorem dX10_countFurther_112 : decode cX10_countFurther 112 = .ok (.bipush (-100), 2) := by decide +kernel
theorem dX10_countFurther_114 : decode cX10_countFurther 114 = .ok (.ireturn, 1) := by decide +kernel
theorem dX10_row_0 : decode cX10_row 0 = .ok (.iload_n 1, 1) := by decide +kernel
theorem dX10_row_1 : decode cX10_row 1 = .ok (.ifCond .lt 14, 3) := by decide +kernel
theorem dX10_row_4 : decode cX10_row 4 = .ok (.iload_n 1, 1) := by decide +kernel
theorem dX10_row_5 : decode cX10_row 5 = .ok (.aload_n 0, 1) := by decide +kernel
theorem dX10_row_6 : decode cX10_row 6 = .ok (.getfield 19, 3) := by decide +kernel
theorem dX10_row_9 : decode cX10_row 9 = .ok (.getfield 364, 3) := by decide +kernel
theorem dX10_row_12 : decode cX10_row 12 = .ok (.if_icmp .lt 11, 3) := by decide +kernel
theorem dX10_row_15 : decode cX10_row 15 = .ok (.new 125, 3) := by decide +kernel
theorem dX10_row_18 : decode cX10_row 18 = .ok (.dup, 1) := by decide +kernel
theorem dX10_row_19 : decode cX10_row 19 = .ok (.invokespecial 127, 3) := by decide +kernel
theorem dX10_row_22 : decode cX10_row 22 = .ok (.athrow, 1) := by decide +kernel
theorem dX10_row_23 : decode cX10_row 23 = .ok (.aload_n 0, 1) := by decide +kernel
theorem dX10_row_24 : decode cX10_row 24 = .ok (.getfield 19, 3) := by decide +kernel
theorem dX10_row_27 : decode cX10_row 27 = .ok (.iload_n 1, 1) := by decide +kernel
theorem dX10_row_28 : decode cX10_row 28 = .ok (.invokevirtual 365, 3) := by decide +kernel
theorem dX10_row_31 : decode cX10_row 31 = .ok (.lreturn, 1) := by decide +kernel
theorem dX10_tell_0 : decode cX10_tell 0 = .ok (.aload_n 0, 1) := by decide +kernel
theorem dX10_tell_1 : decode cX10_tell 1 = .ok (.getfield 19, 3) := by decide +kernel
theorem dX10_tell_4 : decode cX10_tell 4 = .ok (.invokevirtual 289, 3) := by decide +kernel
theorem dX10_tell_7 : decode cX10_tell 7 = .ok (.aload_n 0, 1) := by decide +kernel
theorem dX10_tell_8 : decode cX10_tell 8 = .ok (.getfield 19, 3) := by decide +kernel
theorem dX10_tell_11 : decode cX10_tell 11 = .ok (.lload_n 1, 1) := by decide +kernel
theorem dX10_tell_12 : decode cX10_tell 12 = .ok (.invokevirtual 293, 3) := by decide +kernel
theorem dX10_tell_15 : decode cX10_tell 15 = .ok (.aload_n 0, 1) := by decide +kernel
theorem dX10_tell_16 : decode cX10_tell 16 = .ok (.getfield 19, 3) := by decide +kernel
theorem dX10_tell_19 : decode cX10_tell 19 = .ok (.lload_n 3, 1) := by decide +kernel
theorem dX10_tell_20 : decode cX10_tell 20 = .ok (.invokevirtual 293, 3) := by decide +kernel
theorem dX10_tell_23 : decode cX10_tell 23 = .ok (.return_, 1) := by decide +kernel
theorem dX11_init_0 : decode cX11_init 0 = .ok (.aload_n 0, 1) := by decide +kernel
theorem dX11_init_1 : decode cX11_init 1 = .ok (.invokespecial 1, 3) := by decide +kernel
theorem dX11_init_4 : decode cX11_init 4 = .ok (.aload_n 0, 1) := by decide +kernel
theorem dX11_init_5 : decode cX11_init 5 = .ok (.bipush 50, 2) := by decide +kernel
theorem dX11_init_7 : decode cX11_init 7 = .ok (.putfield 7, 3) := by decide +kernel
theorem dX11_init_10 : decode cX11_init 10 = .ok (.return_, 1) := by decide +kernel
theorem dX11_copy_0 : decode cX11_copy 0 = .ok (.new 8, 3) := by decide +kernel
theorem dX11_copy_3 : decode cX11_copy 3 = .ok (.dup, 1) := by decide +kernel
theorem dX11_copy_4 : decode cX11_copy 4 = .ok (.invokespecial 13, 3) := by decide +kernel
theorem dX11_copy_7 : decode cX11_copy 7 = .ok (.astore_n 1, 1) := by decide +kernel
theorem dX11_copy_8 : decode cX11_copy 8 = .ok (.aload_n 1, 1) := by decide +kernel
theorem dX11_copy_9 : decode cX11_copy 9 = .ok (.aload_n 0, 1) := by decide +kernel
theorem dX11_copy_10 : decode cX11_copy 10 = .ok (.getfield 14, 3) := by decide +kernel
theorem dX11_copy_13 : decode cX11_copy 13 = .ok (.invokevirtual 18, 3) := by decide +kernel
theorem dX11_copy_16 : decode cX11_copy 16 = .ok (.checkcast 19, 3) := by decide +kernel
theorem dX11_copy_19 : decode cX11_copy 19 = .ok (.putfield 14, 3) := by decide +kernel
theorem dX11_copy_22 : decode cX11_copy 22 = .ok (.aload_n 1, 1) := by decide +kernel
theorem dX11_copy_23 : decode cX11_copy 23 = .ok (.aload_n 0, 1) := by decide +kernel
theorem dX11_copy_24 : decode cX11_copy 24 = .ok (.getfield 23, 3) := by decide +kernel
theorem dX11_copy_27 : decode cX11_copy 27 = .ok (.invokevirtual 27, 3) := by decide +kernel
theorem dX11_copy_30 : decode cX11_copy 30 = .ok (.checkcast 28, 3) := by decide +kernel
theorem dX11_copy_33 : decode cX11_copy 33 = .ok (.putfield 23, 3) := by decide +kernel
theorem dX11_copy_36 : decode cX11_copy 36 = .ok (.aload_n 1, 1) := by decide +kernel
theorem dX11_copy_37 : decode cX11_copy 37 = .ok (.aload_n 0, 1) := by decide +kernel
theorem dX11_copy_38 : decode cX11_copy 38 = .ok (.getfield 7, 3) := by decide +kernel
theorem dX11_copy_41 : decode cX11_copy 41 = .ok (.putfield 7, 3) := by decide +kernel
theorem dX11_copy_44 : decode cX11_copy 44 = .ok (.aload_n 1, 1) := by decide +kernel
theorem dX11_copy_45 : decode cX11_copy 45 = .ok (.aload_n 0, 1) := by decide +kernel
theorem dX11_copy_46 : decode cX11_copy 46 = .ok (.getfield 29, 3) := by decide +kernel
theorem dX11_copy_49 : decode cX11_copy 49 = .ok (.putfield 29, 3) := by decide +kernel
theorem dX11_copy_52 : decode cX11_copy 52 = .ok (.aload_n 1, 1) := by decide +kernel
theorem dX11_copy_53 : decode cX11_copy 53 = .ok (.aload_n 0, 1) := by decide +kernel
theorem dX11_copy_54 : decode cX11_copy 54 = .ok (.getfield 32, 3) := by decide +kernel
theorem dX11_copy_57 : decode cX11_copy 57 = .ok (.putfield 32, 3) := by decide +kernel
theorem dX11_copy_60 : decode cX11_copy 60 = .ok (.aload_n 1, 1) := by decide +kernel
theorem dX11_copy_61 : decode cX11_copy 61 = .ok (.aload_n 0, 1) := by decide +kernel
theorem dX11_copy_62 : decode cX11_copy 62 = .ok (.getfield 35, 3) := by decide +kernel
theorem dX11_copy_65 : decode cX11_copy 65 = .ok (.putfield 35, 3) := by decide +kernel
theorem dX11_copy_68 : decode cX11_copy 68 = .ok (.aload_n 1, 1) := by decide +kernel
theorem dX11_copy_69 : decode cX11_copy 69 = .ok (.aload_n 0, 1) := by decide +kernel
theorem dX11_copy_70 : decode cX11_copy 70 = .ok (.getfield 38, 3) := by decide +kernel
theorem dX11_copy_73 : decode cX11_copy 73 = .ok (.putfield 38, 3) := by decide +kernel
theorem dX11_copy_76 : decode cX11_copy 76 = .ok (.aload_n 1, 1) := by decide +kernel
theorem dX11_copy_77 : decode cX11_copy 77 = .ok (.aload_n 0, 1) := by decide +kernel
theorem dX11_copy_78 : decode cX11_copy 78 = .ok (.getfield 41, 3) := by decide +kernel
theorem dX11_copy_81 : decode cX11_copy 81 = .ok (.putfield 41, 3) := by decide +kernel
theorem dX11_copy_84 : decode cX11_copy 84 = .ok (.aload_n 1, 1) := by decide +kernel
theorem dX11_copy_85 : decode cX11_copy 85 = .ok (.aload_n 0, 1) := by decide +kernel
theorem dX11_copy_86 : decode cX11_copy 86 = .ok (.getfield 44, 3) := by decide +kernel
theorem dX11_copy_89 : decode cX11_copy 89 = .ok (.invokevirtual 27, 3) := by decide +kernel
theorem dX11_copy_92 : decode cX11_copy 92 = .ok (.checkcast 28, 3) := by decide +kernel
theorem dX11_copy_95 : decode cX11_copy 95 = .ok (.putfield 44, 3) := by decide +kernel
theorem dX11_copy_98 : decode cX11_copy 98 = .ok (.aload_n 1, 1) := by decide +kernel
theorem dX11_copy_99 : decode cX11_copy 99 = .ok (.areturn, 1) := by decide +kernel
theorem dX11_bits_0 : decode cX11_bits 0 = .ok (.iconst 0, 1) := by decide +kernel
theorem dX11_bits_1 : decode cX11_bits 1 = .ok (.istore_n 1, 1) := by decide +kernel
theorem dX11_bits_2 : decode cX11_bits 2 = .ok (.iconst 0, 1) := by decide +kernel
theorem dX11_bits_3 : decode cX11_bits 3 = .ok (.istore_n 2, 1) := by decide +kernel
theorem dX11_bits_4 : decode cX11_bits 4 = .ok (.iload_n 2, 1) := by decide +kernel
theorem dX11_bits_5 : decode cX11_bits 5 = .ok (.aload_n 0, 1) := by decide +kernel
theorem dX11_bits_6 : decode cX11_bits 6 = .ok (.getfield 23, 3) := by decide +kernel
theorem dX11_bits_9 : decode cX11_bits 9 = .ok (.arraylength, 1) := by decide +kernel
theorem dX11_bits_10 : decode cX11_bits 10 = .ok (.if_icmp .ge 24, 3) := by decide +kernel
theorem dX11_bits_13 : decode cX11_bits 13 = .ok (.aload_n 0, 1) := by decide +kernel
theorem dX11_bits_14 : decode cX11_bits 14 = .ok (.getfield 23, 3) := by decide +kernel
theorem dX11_bits_17 : decode cX11_bits 17 = .ok (.iload_n 2, 1) := by decide +kernel
theorem dX11_bits_18 : decode cX11_bits 18 = .ok (.baload, 1) := by decide +kernel
theorem dX11_bits_19 : decode cX11_bits 19 = .ok (.ifCond .eq 9, 3) := by decide +kernel
theorem dX11_bits_22 : decode cX11_bits 22 = .ok (.iload_n 1, 1) := by decide +kernel
theorem dX11_bits_23 : decode cX11_bits 23 = .ok (.iconst 1, 1) := by decide +kernel
theorem dX11_bits_24 : decode cX11_bits 24 = .ok (.iload_n 2, 1) := by decide +kernel
theorem dX11_bits_25 : decode cX11_bits 25 = .ok (.ishl, 1) := by decide +kernel
theorem dX11_bits_26 : decode cX11_bits 26 = .ok (.ior, 1) := by decide +kernel
theorem dX11_bits_27 : decode cX11_bits 27 = .ok (.istore_n 1, 1) := by decide +kernel
theorem dX11_bits_28 : decode cX11_bits 28 = .ok (.iinc 2 1, 3) := by decide +kernel
theorem dX11_bits_31 : decode cX11_bits 31 = .ok (.goto (-27), 3) := by decide +kernel
theorem dX11_bits_34 : decode cX11_bits 34 = .ok (.iload_n 1, 1) := by decide +kernel
theorem dX11_bits_35 : decode cX11_bits 35 = .ok (.ireturn, 1) := by decide +kernel
theorem dX11_doubt_0 : decode cX11_doubt 0 = .ok (.iconst 0, 1) := by decide +kernel
theorem dX11_doubt_1 : decode cX11_doubt 1 = .ok (.istore_n 1, 1) := by decide +kernel
theorem dX11_doubt_2 : decode cX11_doubt 2 = .ok (.iconst 0, 1) := by decide +kernel
theorem dX11_doubt_3 : decode cX11_doubt 3 = .ok (.istore_n 2, 1) := by decide +kernel
theorem dX11_doubt_4 : decode cX11_doubt 4 = .ok (.iload_n 2, 1) := by decide +kernel
theorem dX11_doubt_5 : decode cX11_doubt 5 = .ok (.aload_n 0, 1) := by decide +kernel
theorem dX11_doubt_6 : decode cX11_doubt 6 = .ok (.getfield 44, 3) := by decide +kernel
theorem dX11_doubt_9 : decode cX11_doubt 9 = .ok (.arraylength, 1) := by decide +kernel
theorem dX11_doubt_10 : decode cX11_doubt 10 = .ok (.if_icmp .ge 24, 3) := by decide +kernel
theorem dX11_doubt_13 : decode cX11_doubt 13 = .ok (.aload_n 0, 1) := by decide +kernel
theorem dX11_doubt_14 : decode cX11_doubt 14 = .ok (.getfield 44, 3) := by decide +kernel
theorem dX11_doubt_17 : decode cX11_doubt 17 = .ok (.iload_n 2, 1) := by decide +kernel
theorem dX11_doubt_18 : decode cX11_doubt 18 = .ok (.baload, 1) := by decide +kernel
