theorem dX10_sheet_130 : decode cX10_sheet 130 = .ok (.getfield 58, 3) := by decide +kernel
theorem dX10_sheet_133 : decode cX10_sheet 133 = .ok (.invokevirtual 168, 3) := by decide +kernel
theorem dX10_sheet_136 : decode cX10_sheet 136 = .ok (.ireturn, 1) := by decide +kernel
theorem dX10_entry_0 : decode cX10_entry 0 = .ok (.iload_n 0, 1) := by decide +kernel
theorem dX10_entry_1 : decode cX10_entry 1 = .ok (.ifCond .ne 8, 3) := by decide +kernel
theorem dX10_entry_4 : decode cX10_entry 4 = .ok (.iload_n 1, 1) := by decide +kernel
theorem dX10_entry_5 : decode cX10_entry 5 = .ok (.i2b, 1) := by decide +kernel
theorem dX10_entry_6 : decode cX10_entry 6 = .ok (.goto 14, 3) := by decide +kernel
theorem dX10_entry_9 : decode cX10_entry 9 = .ok (.iload_n 0, 1) := by decide +kernel
theorem dX10_entry_10 : decode cX10_entry 10 = .ok (.iconst 1, 1) := by decide +kernel
theorem dX10_entry_11 : decode cX10_entry 11 = .ok (.if_icmp .ne 8, 3) := by decide +kernel
theorem dX10_entry_14 : decode cX10_entry 14 = .ok (.iload_n 1, 1) := by decide +kernel
theorem dX10_entry_15 : decode cX10_entry 15 = .ok (.i2s, 1) := by decide +kernel
theorem dX10_entry_16 : decode cX10_entry 16 = .ok (.goto 4, 3) := by decide +kernel
theorem dX10_entry_19 : decode cX10_entry 19 = .ok (.iload_n 1, 1) := by decide +kernel
theorem dX10_entry_20 : decode cX10_entry 20 = .ok (.istore_n 2, 1) := by decide +kernel
theorem dX10_entry_21 : decode cX10_entry 21 = .ok (.iconst 0, 1) := by decide +kernel
theorem dX10_entry_22 : decode cX10_entry 22 = .ok (.bipush 99, 2) := by decide +kernel
theorem dX10_entry_24 : decode cX10_entry 24 = .ok (.iload_n 2, 1) := by decide +kernel
theorem dX10_entry_25 : decode cX10_entry 25 = .ok (.invokestatic 172, 3) := by decide +kernel
theorem dX10_entry_28 : decode cX10_entry 28 = .ok (.invokestatic 177, 3) := by decide +kernel
theorem dX10_entry_31 : decode cX10_entry 31 = .ok (.ireturn, 1) := by decide +kernel
theorem dX10_take_0 : decode cX10_take 0 = .ok (.aload_n 0, 1) := by decide +kernel
theorem dX10_take_1 : decode cX10_take 1 = .ok (.getfield 65, 3) := by decide +kernel
theorem dX10_take_4 : decode cX10_take 4 = .ok (.aload_n 0, 1) := by decide +kernel
theorem dX10_take_5 : decode cX10_take 5 = .ok (.getfield 58, 3) := by decide +kernel
theorem dX10_take_8 : decode cX10_take 8 = .ok (.invokevirtual 180, 3) := by decide +kernel
theorem dX10_take_11 : decode cX10_take 11 = .ok (.aload_n 0, 1) := by decide +kernel
theorem dX10_take_12 : decode cX10_take 12 = .ok (.aload_n 0, 1) := by decide +kernel
theorem dX10_take_13 : decode cX10_take 13 = .ok (.iload_n 1, 1) := by decide +kernel
theorem dX10_take_14 : decode cX10_take 14 = .ok (.invokevirtual 184, 3) := by decide +kernel
theorem dX10_take_17 : decode cX10_take 17 = .ok (.invokevirtual 187, 3) := by decide +kernel
theorem dX10_take_20 : decode cX10_take 20 = .ok (.ireturn, 1) := by decide +kernel
theorem dX10_leave_0 : decode cX10_leave 0 = .ok (.aload_n 0, 1) := by decide +kernel
theorem dX10_leave_1 : decode cX10_leave 1 = .ok (.getfield 65, 3) := by decide +kernel
theorem dX10_leave_4 : decode cX10_leave 4 = .ok (.aload_n 0, 1) := by decide +kernel
theorem dX10_leave_5 : decode cX10_leave 5 = .ok (.getfield 58, 3) := by decide +kernel
theorem dX10_leave_8 : decode cX10_leave 8 = .ok (.invokevirtual 180, 3) := by decide +kernel
theorem dX10_leave_11 : decode cX10_leave 11 = .ok (.aload_n 0, 1) := by decide +kernel
theorem dX10_leave_12 : decode cX10_leave 12 = .ok (.aload_n 0, 1) := by decide +kernel
theorem dX10_leave_13 : decode cX10_leave 13 = .ok (.iload_n 1, 1) := by decide +kernel
theorem dX10_leave_14 : decode cX10_leave 14 = .ok (.invokevirtual 190, 3) := by decide +kernel
theorem dX10_leave_17 : decode cX10_leave 17 = .ok (.invokevirtual 187, 3) := by decide +kernel
theorem dX10_leave_20 : decode cX10_leave 20 = .ok (.ireturn, 1) := by decide +kernel
theorem dX10_mend_0 : decode cX10_mend 0 = .ok (.aload_n 0, 1) := by decide +kernel
theorem dX10_mend_1 : decode cX10_mend 1 = .ok (.getfield 65, 3) := by decide +kernel
theorem dX10_mend_4 : decode cX10_mend 4 = .ok (.aload_n 0, 1) := by decide +kernel
theorem dX10_mend_5 : decode cX10_mend 5 = .ok (.getfield 58, 3) := by decide +kernel
theorem dX10_mend_8 : decode cX10_mend 8 = .ok (.invokevirtual 180, 3) := by decide +kernel
theorem dX10_mend_11 : decode cX10_mend 11 = .ok (.aload_n 0, 1) := by decide +kernel
theorem dX10_mend_12 : decode cX10_mend 12 = .ok (.aload_n 0, 1) := by decide +kernel
theorem dX10_mend_13 : decode cX10_mend 13 = .ok (.iload_n 1, 1) := by decide +kernel
theorem dX10_mend_14 : decode cX10_mend 14 = .ok (.invokevirtual 193, 3) := by decide +kernel
theorem dX10_mend_17 : decode cX10_mend 17 = .ok (.invokevirtual 187, 3) := by decide +kernel
theorem dX10_mend_20 : decode cX10_mend 20 = .ok (.ireturn, 1) := by decide +kernel
theorem dX10_minutes_0 : decode cX10_minutes 0 = .ok (.aload_n 0, 1) := by decide +kernel
theorem dX10_minutes_1 : decode cX10_minutes 1 = .ok (.getfield 65, 3) := by decide +kernel
theorem dX10_minutes_4 : decode cX10_minutes 4 = .ok (.aload_n 0, 1) := by decide +kernel
theorem dX10_minutes_5 : decode cX10_minutes 5 = .ok (.getfield 58, 3) := by decide +kernel
theorem dX10_minutes_8 : decode cX10_minutes 8 = .ok (.invokevirtual 180, 3) := by decide +kernel
theorem dX10_minutes_11 : decode cX10_minutes 11 = .ok (.aload_n 0, 1) := by decide +kernel
theorem dX10_minutes_12 : decode cX10_minutes 12 = .ok (.aload_n 0, 1) := by decide +kernel
theorem dX10_minutes_13 : decode cX10_minutes 13 = .ok (.iload_n 1, 1) := by decide +kernel
theorem dX10_minutes_14 : decode cX10_minutes 14 = .ok (.invokevirtual 196, 3) := by decide +kernel
theorem dX10_minutes_17 : decode cX10_minutes 17 = .ok (.invokevirtual 187, 3) := by decide +kernel
theorem dX10_minutes_20 : decode cX10_minutes 20 = .ok (.istore_n 2, 1) := by decide +kernel
theorem dX10_minutes_21 : decode cX10_minutes 21 = .ok (.iload_n 2, 1) := by decide +kernel
theorem dX10_minutes_22 : decode cX10_minutes 22 = .ok (.ifCond .lt 41, 3) := by decide +kernel
theorem dX10_minutes_25 : decode cX10_minutes 25 = .ok (.aload_n 0, 1) := by decide +kernel
theorem dX10_minutes_26 : decode cX10_minutes 26 = .ok (.aload_n 0, 1) := by decide +kernel
theorem dX10_minutes_27 : decode cX10_minutes 27 = .ok (.getfield 58, 3) := by decide +kernel
theorem dX10_minutes_30 : decode cX10_minutes 30 = .ok (.getfield 199, 3) := by decide +kernel
theorem dX10_minutes_33 : decode cX10_minutes 33 = .ok (.aload_n 0, 1) := by decide +kernel
theorem dX10_minutes_34 : decode cX10_minutes 34 = .ok (.getfield 65, 3) := by decide +kernel
theorem dX10_minutes_37 : decode cX10_minutes 37 = .ok (.getfield 199, 3) := by decide +kernel
theorem dX10_minutes_40 : decode cX10_minutes 40 = .ok (.isub, 1) := by decide +kernel
theorem dX10_minutes_41 : decode cX10_minutes 41 = .ok (.i2l, 1) := by decide +kernel
theorem dX10_minutes_42 : decode cX10_minutes 42 = .ok (.aload_n 0, 1) := by decide +kernel
theorem dX10_minutes_43 : decode cX10_minutes 43 = .ok (.getfield 58, 3) := by decide +kernel
theorem dX10_minutes_46 : decode cX10_minutes 46 = .ok (.getfield 145, 3) := by decide +kernel
theorem dX10_minutes_49 : decode cX10_minutes 49 = .ok (.aload_n 0, 1) := by decide +kernel
theorem dX10_minutes_50 : decode cX10_minutes 50 = .ok (.getfield 65, 3) := by decide +kernel
theorem dX10_minutes_53 : decode cX10_minutes 53 = .ok (.getfield 145, 3) := by decide +kernel
theorem dX10_minutes_56 : decode cX10_minutes 56 = .ok (.iconst (-1), 1) := by decide +kernel
theorem dX10_minutes_57 : decode cX10_minutes 57 = .ok (.ixor, 1) := by decide +kernel
theorem dX10_minutes_58 : decode cX10_minutes 58 = .ok (.iand, 1) := by decide +kernel
theorem dX10_minutes_59 : decode cX10_minutes 59 = .ok (.i2l, 1) := by decide +kernel
theorem dX10_minutes_60 : decode cX10_minutes 60 = .ok (.invokevirtual 202, 3) := by decide +kernel
theorem dX10_minutes_63 : decode cX10_minutes 63 = .ok (.iload_n 2, 1) := by decide +kernel
theorem dX10_minutes_64 : decode cX10_minutes 64 = .ok (.ireturn, 1) := by decide +kernel
theorem dX10_watch_0 : decode cX10_watch 0 = .ok (.aload_n 0, 1) := by decide +kernel
theorem dX10_watch_1 : decode cX10_watch 1 = .ok (.getfield 10, 3) := by decide +kernel
theorem dX10_watch_4 : decode cX10_watch 4 = .ok (.invokestatic 206, 3) := by decide +kernel
theorem dX10_watch_7 : decode cX10_watch 7 = .ok (.istore_n 1, 1) := by decide +kernel
theorem dX10_watch_8 : decode cX10_watch 8 = .ok (.iload_n 1, 1) := by decide +kernel
theorem dX10_watch_9 : decode cX10_watch 9 = .ok (.ifCond .lt 15, 3) := by decide +kernel
theorem dX10_watch_12 : decode cX10_watch 12 = .ok (.aload_n 0, 1) := by decide +kernel
theorem dX10_watch_13 : decode cX10_watch 13 = .ok (.getfield 10, 3) := by decide +kernel
theorem dX10_watch_16 : decode cX10_watch 16 = .ok (.iconst 0, 1) := by decide +kernel
theorem dX10_watch_17 : decode cX10_watch 17 = .ok (.putfield 97, 3) := by decide +kernel
theorem dX10_watch_20 : decode cX10_watch 20 = .ok (.iconst (-1), 1) := by decide +kernel
theorem dX10_watch_21 : decode cX10_watch 21 = .ok (.iload_n 1, 1) := by decide +kernel
theorem dX10_watch_22 : decode cX10_watch 22 = .ok (.isub, 1) := by decide +kernel
theorem dX10_watch_23 : decode cX10_watch 23 = .ok (.ireturn, 1) := by decide +kernel
theorem dX10_watch_24 : decode cX10_watch 24 = .ok (.aload_n 0, 1) := by decide +kernel
theorem dX10_watch_25 : decode cX10_watch 25 = .ok (.getfield 65, 3) := by decide +kernel
theorem dX10_watch_28 : decode cX10_watch 28 = .ok (.aload_n 0, 1) := by decide +kernel
theorem dX10_watch_29 : decode cX10_watch 29 = .ok (.getfield 58, 3) := by decide +kernel
theorem dX10_watch_32 : decode cX10_watch 32 = .ok (.invokevirtual 180, 3) := by decide +kernel
theorem dX10_watch_35 : decode cX10_watch 35 = .ok (.iconst 0, 1) := by decide +kernel
theorem dX10_watch_36 : decode cX10_watch 36 = .ok (.istore_n 2, 1) := by decide +kernel
theorem dX10_watch_37 : decode cX10_watch 37 = .ok (.iconst 0, 1) := by decide +kernel
theorem dX10_watch_38 : decode cX10_watch 38 = .ok (.istore_n 3, 1) := by decide +kernel
theorem dX10_watch_39 : decode cX10_watch 39 = .ok (.iconst 0, 1) := by decide +kernel
theorem dX10_watch_40 : decode cX10_watch 40 = .ok (.istore 4, 2) := by decide +kernel
theorem dX10_watch_42 : decode cX10_watch 42 = .ok (.iload 4, 2) := by decide +kernel
theorem dX10_watch_44 : decode cX10_watch 44 = .ok (.aload_n 0, 1) := by decide +kernel
theorem dX10_watch_45 : decode cX10_watch 45 = .ok (.getfield 10, 3) := by decide +kernel
theorem dX10_watch_48 : decode cX10_watch 48 = .ok (.getfield 97, 3) := by decide +kernel
theorem dX10_watch_51 : decode cX10_watch 51 = .ok (.if_icmp .ge 52, 3) := by decide +kernel
theorem dX10_watch_54 : decode cX10_watch 54 = .ok (.iload_n 3, 1) := by decide +kernel
theorem dX10_watch_55 : decode cX10_watch 55 = .ok (.ifCond .ne 48, 3) := by decide +kernel
theorem dX10_watch_58 : decode cX10_watch 58 = .ok (.aload_n 0, 1) := by decide +kernel
theorem dX10_watch_59 : decode cX10_watch 59 = .ok (.getfield 10, 3) := by decide +kernel
theorem dX10_watch_62 : decode cX10_watch 62 = .ok (.iload 4, 2) := by decide +kernel
theorem dX10_watch_64 : decode cX10_watch 64 = .ok (.invokestatic 209, 3) := by decide +kernel
theorem dX10_watch_67 : decode cX10_watch 67 = .ok (.ifCond .eq 30, 3) := by decide +kernel
theorem dX10_watch_70 : decode cX10_watch 70 = .ok (.aload_n 0, 1) := by decide +kernel
theorem dX10_watch_71 : decode cX10_watch 71 = .ok (.iload 4, 2) := by decide +kernel
theorem dX10_watch_73 : decode cX10_watch 73 = .ok (.invokevirtual 213, 3) := by decide +kernel
theorem dX10_watch_76 : decode cX10_watch 76 = .ok (.ifCond .ge 7, 3) := by decide +kernel
theorem dX10_watch_79 : decode cX10_watch 79 = .ok (.iconst 1, 1) := by decide +kernel
theorem dX10_watch_80 : decode cX10_watch 80 = .ok (.goto 4, 3) := by decide +kernel
theorem dX10_watch_83 : decode cX10_watch 83 = .ok (.iconst 0, 1) := by decide +kernel
theorem dX10_watch_84 : decode cX10_watch 84 = .ok (.istore_n 3, 1) := by decide +kernel
theorem dX10_watch_85 : decode cX10_watch 85 = .ok (.iload_n 2, 1) := by decide +kernel
theorem dX10_watch_86 : decode cX10_watch 86 = .ok (.iload_n 3, 1) := by decide +kernel
theorem dX10_watch_87 : decode cX10_watch 87 = .ok (.ifCond .eq 7, 3) := by decide +kernel
theorem dX10_watch_90 : decode cX10_watch 90 = .ok (.iconst 0, 1) := by decide +kernel
theorem dX10_watch_91 : decode cX10_watch 91 = .ok (.goto 4, 3) := by decide +kernel
theorem dX10_watch_94 : decode cX10_watch 94 = .ok (.iconst 1, 1) := by decide +kernel
theorem dX10_watch_95 : decode cX10_watch 95 = .ok (.iadd, 1) := by decide +kernel
theorem dX10_watch_96 : decode cX10_watch 96 = .ok (.istore_n 2, 1) := by decide +kernel
theorem dX10_watch_97 : decode cX10_watch 97 = .ok (.iinc 4 1, 3) := by decide +kernel
theorem dX10_watch_100 : decode cX10_watch 100 = .ok (.goto (-58), 3) := by decide +kernel
theorem dX10_watch_103 : decode cX10_watch 103 = .ok (.aload_n 0, 1) := by decide +kernel
theorem dX10_watch_104 : decode cX10_watch 104 = .ok (.getfield 10, 3) := by decide +kernel
theorem dX10_watch_107 : decode cX10_watch 107 = .ok (.iconst 0, 1) := by decide +kernel
theorem dX10_watch_108 : decode cX10_watch 108 = .ok (.putfield 97, 3) := by decide +kernel
theorem dX10_watch_111 : decode cX10_watch 111 = .ok (.iload_n 2, 1) := by decide +kernel
theorem dX10_watch_112 : decode cX10_watch 112 = .ok (.ifCond .le 14, 3) := by decide +kernel
theorem dX10_watch_115 : decode cX10_watch 115 = .ok (.aload_n 0, 1) := by decide +kernel
theorem dX10_watch_116 : decode cX10_watch 116 = .ok (.getfield 71, 3) := by decide +kernel
theorem dX10_watch_119 : decode cX10_watch 119 = .ok (.aload_n 0, 1) := by decide +kernel
theorem dX10_watch_120 : decode cX10_watch 120 = .ok (.getfield 65, 3) := by decide +kernel
theorem dX10_watch_123 : decode cX10_watch 123 = .ok (.invokevirtual 216, 3) := by decide +kernel
theorem dX10_watch_126 : decode cX10_watch 126 = .ok (.aload_n 0, 1) := by decide +kernel
theorem dX10_watch_127 : decode cX10_watch 127 = .ok (.iload_n 3, 1) := by decide +kernel
theorem dX10_watch_128 : decode cX10_watch 128 = .ok (.ifCond .eq 7, 3) := by decide +kernel
theorem dX10_watch_131 : decode cX10_watch 131 = .ok (.lconst 1, 1) := by decide +kernel
theorem dX10_watch_132 : decode cX10_watch 132 = .ok (.goto 4, 3) := by decide +kernel
theorem dX10_watch_135 : decode cX10_watch 135 = .ok (.lconst 0, 1) := by decide +kernel
theorem dX10_watch_136 : decode cX10_watch 136 = .ok (.aload_n 0, 1) := by decide +kernel
theorem dX10_watch_137 : decode cX10_watch 137 = .ok (.getfield 58, 3) := by decide +kernel
theorem dX10_watch_140 : decode cX10_watch 140 = .ok (.getfield 199, 3) := by decide +kernel
theorem dX10_watch_143 : decode cX10_watch 143 = .ok (.aload_n 0, 1) := by decide +kernel
theorem dX10_watch_144 : decode cX10_watch 144 = .ok (.getfield 65, 3) := by decide +kernel
theorem dX10_watch_147 : decode cX10_watch 147 = .ok (.getfield 199, 3) := by decide +kernel
theorem dX10_watch_150 : decode cX10_watch 150 = .ok (.isub, 1) := by decide +kernel
theorem dX10_watch_151 : decode cX10_watch 151 = .ok (.i2l, 1) := by decide +kernel
theorem dX10_watch_152 : decode cX10_watch 152 = .ok (.invokevirtual 202, 3) := by decide +kernel
theorem dX10_watch_155 : decode cX10_watch 155 = .ok (.iload_n 2, 1) := by decide +kernel
theorem dX10_watch_156 : decode cX10_watch 156 = .ok (.ireturn, 1) := by decide +kernel
theorem dX10_act_0 : decode cX10_act 0 = .ok (.aload_n 0, 1) := by decide +kernel
theorem dX10_act_1 : decode cX10_act 1 = .ok (.getfield 10, 3) := by decide +kernel
theorem dX10_act_4 : decode cX10_act 4 = .ok (.iload_n 1, 1) := by decide +kernel
theorem dX10_act_5 : decode cX10_act 5 = .ok (.invokevirtual 219, 3) := by decide +kernel
theorem dX10_act_8 : decode cX10_act 8 = .ok (.lookupswitch 119 #[(99, 76), (108, 60), (109, 103), (116, 44)], 44) := by decide +kernel
theorem dX10_act_52 : decode cX10_act 52 = .ok (.aload_n 0, 1) := by decide +kernel
theorem dX10_act_53 : decode cX10_act 53 = .ok (.aload_n 0, 1) := by decide +kernel
theorem dX10_act_54 : decode cX10_act 54 = .ok (.getfield 10, 3) := by decide +kernel
theorem dX10_act_57 : decode cX10_act 57 = .ok (.iload_n 1, 1) := by decide +kernel
theorem dX10_act_58 : decode cX10_act 58 = .ok (.iconst 1, 1) := by decide +kernel
theorem dX10_act_59 : decode cX10_act 59 = .ok (.iadd, 1) := by decide +kernel
theorem dX10_act_60 : decode cX10_act 60 = .ok (.iconst 1, 1) := by decide +kernel
theorem dX10_act_61 : decode cX10_act 61 = .ok (.invokevirtual 222, 3) := by decide +kernel
theorem dX10_act_64 : decode cX10_act 64 = .ok (.invokevirtual 184, 3) := by decide +kernel
theorem dX10_act_67 : decode cX10_act 67 = .ok (.ireturn, 1) := by decide +kernel
theorem dX10_act_68 : decode cX10_act 68 = .ok (.aload_n 0, 1) := by decide +kernel
theorem dX10_act_69 : decode cX10_act 69 = .ok (.aload_n 0, 1) := by decide +kernel
theorem dX10_act_70 : decode cX10_act 70 = .ok (.getfield 10, 3) := by decide +kernel
theorem dX10_act_73 : decode cX10_act 73 = .ok (.iload_n 1, 1) := by decide +kernel
theorem dX10_act_74 : decode cX10_act 74 = .ok (.iconst 1, 1) := by decide +kernel
theorem dX10_act_75 : decode cX10_act 75 = .ok (.iadd, 1) := by decide +kernel
theorem dX10_act_76 : decode cX10_act 76 = .ok (.iconst 1, 1) := by decide +kernel
theorem dX10_act_77 : decode cX10_act 77 = .ok (.invokevirtual 222, 3) := by decide +kernel
theorem dX10_act_80 : decode cX10_act 80 = .ok (.invokevirtual 190, 3) := by decide +kernel
theorem dX10_act_83 : decode cX10_act 83 = .ok (.ireturn, 1) := by decide +kernel
theorem dX10_act_84 : decode cX10_act 84 = .ok (.aload_n 0, 1) := by decide +kernel
theorem dX10_act_85 : decode cX10_act 85 = .ok (.aload_n 0, 1) := by decide +kernel
theorem dX10_act_86 : decode cX10_act 86 = .ok (.getfield 10, 3) := by decide +kernel
theorem dX10_act_89 : decode cX10_act 89 = .ok (.iload_n 1, 1) := by decide +kernel
theorem dX10_act_90 : decode cX10_act 90 = .ok (.iconst 1, 1) := by decide +kernel
theorem dX10_act_91 : decode cX10_act 91 = .ok (.iadd, 1) := by decide +kernel
theorem dX10_act_92 : decode cX10_act 92 = .ok (.iconst 1, 1) := by decide +kernel
theorem dX10_act_93 : decode cX10_act 93 = .ok (.invokevirtual 222, 3) := by decide +kernel
theorem dX10_act_96 : decode cX10_act 96 = .ok (.aload_n 0, 1) := by decide +kernel
theorem dX10_act_97 : decode cX10_act 97 = .ok (.getfield 10, 3) := by decide +kernel
theorem dX10_act_100 : decode cX10_act 100 = .ok (.iload_n 1, 1) := by decide +kernel
theorem dX10_act_101 : decode cX10_act 101 = .ok (.iconst 2, 1) := by decide +kernel
theorem dX10_act_102 : decode cX10_act 102 = .ok (.iadd, 1) := by decide +kernel
theorem dX10_act_103 : decode cX10_act 103 = .ok (.iconst 1, 1) := by decide +kernel
theorem dX10_act_104 : decode cX10_act 104 = .ok (.invokevirtual 222, 3) := by decide +kernel
theorem dX10_act_107 : decode cX10_act 107 = .ok (.invokevirtual 225, 3) := by decide +kernel
theorem dX10_act_110 : decode cX10_act 110 = .ok (.ireturn, 1) := by decide +kernel
theorem dX10_act_111 : decode cX10_act 111 = .ok (.aload_n 0, 1) := by decide +kernel
theorem dX10_act_112 : decode cX10_act 112 = .ok (.aload_n 0, 1) := by decide +kernel
theorem dX10_act_113 : decode cX10_act 113 = .ok (.getfield 10, 3) := by decide +kernel
theorem dX10_act_116 : decode cX10_act 116 = .ok (.iload_n 1, 1) := by decide +kernel
theorem dX10_act_117 : decode cX10_act 117 = .ok (.iconst 1, 1) := by decide +kernel
theorem dX10_act_118 : decode cX10_act 118 = .ok (.iadd, 1) := by decide +kernel
theorem dX10_act_119 : decode cX10_act 119 = .ok (.iconst 2, 1) := by decide +kernel
theorem dX10_act_120 : decode cX10_act 120 = .ok (.invokevirtual 222, 3) := by decide +kernel
theorem dX10_act_123 : decode cX10_act 123 = .ok (.invokevirtual 193, 3) := by decide +kernel
theorem dX10_act_126 : decode cX10_act 126 = .ok (.ireturn, 1) := by decide +kernel
theorem dX10_act_127 : decode cX10_act 127 = .ok (.aload_n 0, 1) := by decide +kernel
theorem dX10_act_128 : decode cX10_act 128 = .ok (.aload_n 0, 1) := by decide +kernel
theorem dX10_act_129 : decode cX10_act 129 = .ok (.getfield 10, 3) := by decide +kernel
theorem dX10_act_132 : decode cX10_act 132 = .ok (.iload_n 1, 1) := by decide +kernel
theorem dX10_act_133 : decode cX10_act 133 = .ok (.iconst 3, 1) := by decide +kernel
theorem dX10_act_134 : decode cX10_act 134 = .ok (.invokevirtual 222, 3) := by decide +kernel
theorem dX10_act_137 : decode cX10_act 137 = .ok (.invokevirtual 196, 3) := by decide +kernel
theorem dX10_act_140 : decode cX10_act 140 = .ok (.ireturn, 1) := by decide +kernel
theorem dX10_remembered_0 : decode cX10_remembered 0 = .ok (.iload_n 1, 1) := by decide +kernel
theorem dX10_remembered_1 : decode cX10_remembered 1 = .ok (.ifCond .lt 14, 3) := by decide +kernel
theorem dX10_remembered_4 : decode cX10_remembered 4 = .ok (.aload_n 0, 1) := by decide +kernel
theorem dX10_remembered_5 : decode cX10_remembered 5 = .ok (.getfield 71, 3) := by decide +kernel
theorem dX10_remembered_8 : decode cX10_remembered 8 = .ok (.aload_n 0, 1) := by decide +kernel
theorem dX10_remembered_9 : decode cX10_remembered 9 = .ok (.getfield 65, 3) := by decide +kernel
theorem dX10_remembered_12 : decode cX10_remembered 12 = .ok (.invokevirtual 216, 3) := by decide +kernel
theorem dX10_remembered_15 : decode cX10_remembered 15 = .ok (.iload_n 1, 1) := by decide +kernel
theorem dX10_remembered_16 : decode cX10_remembered 16 = .ok (.ireturn, 1) := by decide +kernel
theorem dX10_grasp_0 : decode cX10_grasp 0 = .ok (.aload_n 0, 1) := by decide +kernel
theorem dX10_grasp_1 : decode cX10_grasp 1 = .ok (.getfield 34, 3) := by decide +kernel
theorem dX10_grasp_4 : decode cX10_grasp 4 = .ok (.getfield 38, 3) := by decide +kernel
theorem dX10_grasp_7 : decode cX10_grasp 7 = .ok (.iload_n 1, 1) := by decide +kernel
theorem dX10_grasp_8 : decode cX10_grasp 8 = .ok (.invokevirtual 121, 3) := by decide +kernel
theorem dX10_grasp_11 : decode cX10_grasp 11 = .ok (.ifCond .ne 5, 3) := by decide +kernel
theorem dX10_grasp_14 : decode cX10_grasp 14 = .ok (.iconst (-1), 1) := by decide +kernel
theorem dX10_grasp_15 : decode cX10_grasp 15 = .ok (.ireturn, 1) := by decide +kernel
theorem dX10_grasp_16 : decode cX10_grasp 16 = .ok (.aload_n 0, 1) := by decide +kernel
theorem dX10_grasp_17 : decode cX10_grasp 17 = .ok (.getfield 58, 3) := by decide +kernel
theorem dX10_grasp_20 : decode cX10_grasp 20 = .ok (.iload_n 1, 1) := by decide +kernel
theorem dX10_grasp_21 : decode cX10_grasp 21 = .ok (.invokevirtual 138, 3) := by decide +kernel
theorem dX10_grasp_24 : decode cX10_grasp 24 = .ok (.ifCond .eq 6, 3) := by decide +kernel
theorem dX10_grasp_27 : decode cX10_grasp 27 = .ok (.bipush (-2), 2) := by decide +kernel
theorem dX10_grasp_29 : decode cX10_grasp 29 = .ok (.ireturn, 1) := by decide +kernel
theorem dX10_grasp_30 : decode cX10_grasp 30 = .ok (.aload_n 0, 1) := by decide +kernel
theorem dX10_grasp_31 : decode cX10_grasp 31 = .ok (.getfield 58, 3) := by decide +kernel
theorem dX10_grasp_34 : decode cX10_grasp 34 = .ok (.getfield 148, 3) := by decide +kernel
theorem dX10_grasp_37 : decode cX10_grasp 37 = .ok (.invokestatic 228, 3) := by decide +kernel
theorem dX10_grasp_40 : decode cX10_grasp 40 = .ok (.iconst 3, 1) := by decide +kernel
theorem dX10_grasp_41 : decode cX10_grasp 41 = .ok (.if_icmp .lt 6, 3) := by decide +kernel
theorem dX10_grasp_44 : decode cX10_grasp 44 = .ok (.bipush (-3), 2) := by decide +kernel
theorem dX10_grasp_46 : decode cX10_grasp 46 = .ok (.ireturn, 1) := by decide +kernel
theorem dX10_grasp_47 : decode cX10_grasp 47 = .ok (.aload_n 0, 1) := by decide +kernel
theorem dX10_grasp_48 : decode cX10_grasp 48 = .ok (.getfield 58, 3) := by decide +kernel
theorem dX10_grasp_51 : decode cX10_grasp 51 = .ok (.dup, 1) := by decide +kernel
theorem dX10_grasp_52 : decode cX10_grasp 52 = .ok (.getfield 148, 3) := by decide +kernel
theorem dX10_grasp_55 : decode cX10_grasp 55 = .ok (.iconst 1, 1) := by decide +kernel
theorem dX10_grasp_56 : decode cX10_grasp 56 = .ok (.iload_n 1, 1) := by decide +kernel
theorem dX10_grasp_57 : decode cX10_grasp 57 = .ok (.ishl, 1) := by decide +kernel
theorem dX10_grasp_58 : decode cX10_grasp 58 = .ok (.ior, 1) := by decide +kernel
theorem dX10_grasp_59 : decode cX10_grasp 59 = .ok (.putfield 148, 3) := by decide +kernel
theorem dX10_grasp_62 : decode cX10_grasp 62 = .ok (.aload_n 0, 1) := by decide +kernel
theorem dX10_grasp_63 : decode cX10_grasp 63 = .ok (.getfield 58, 3) := by decide +kernel
theorem dX10_grasp_66 : decode cX10_grasp 66 = .ok (.getfield 148, 3) := by decide +kernel
theorem dX10_grasp_69 : decode cX10_grasp 69 = .ok (.invokestatic 228, 3) := by decide +kernel
theorem dX10_grasp_72 : decode cX10_grasp 72 = .ok (.ireturn, 1) := by decide +kernel
theorem dX10_letGo_0 : decode cX10_letGo 0 = .ok (.aload_n 0, 1) := by decide +kernel
theorem dX10_letGo_1 : decode cX10_letGo 1 = .ok (.getfield 34, 3) := by decide +kernel
theorem dX10_letGo_4 : decode cX10_letGo 4 = .ok (.getfield 38, 3) := by decide +kernel
theorem dX10_letGo_7 : decode cX10_letGo 7 = .ok (.iload_n 1, 1) := by decide +kernel
theorem dX10_letGo_8 : decode cX10_letGo 8 = .ok (.invokevirtual 121, 3) := by decide +kernel
theorem dX10_letGo_11 : decode cX10_letGo 11 = .ok (.ifCond .ne 5, 3) := by decide +kernel
theorem dX10_letGo_14 : decode cX10_letGo 14 = .ok (.iconst (-1), 1) := by decide +kernel
theorem dX10_letGo_15 : decode cX10_letGo 15 = .ok (.ireturn, 1) := by decide +kernel
theorem dX10_letGo_16 : decode cX10_letGo 16 = .ok (.aload_n 0, 1) := by decide +kernel
theorem dX10_letGo_17 : decode cX10_letGo 17 = .ok (.getfield 58, 3) := by decide +kernel
theorem dX10_letGo_20 : decode cX10_letGo 20 = .ok (.iload_n 1, 1) := by decide +kernel
theorem dX10_letGo_21 : decode cX10_letGo 21 = .ok (.invokevirtual 138, 3) := by decide +kernel
theorem dX10_letGo_24 : decode cX10_letGo 24 = .ok (.ifCond .ne 6, 3) := by decide +kernel
theorem dX10_letGo_27 : decode cX10_letGo 27 = .ok (.bipush (-2), 2) := by decide +kernel
theorem dX10_letGo_29 : decode cX10_letGo 29 = .ok (.ireturn, 1) := by decide +kernel
theorem dX10_letGo_30 : decode cX10_letGo 30 = .ok (.aload_n 0, 1) := by decide +kernel
theorem dX10_letGo_31 : decode cX10_letGo 31 = .ok (.getfield 58, 3) := by decide +kernel
theorem dX10_letGo_34 : decode cX10_letGo 34 = .ok (.dup, 1) := by decide +kernel
theorem dX10_letGo_35 : decode cX10_letGo 35 = .ok (.getfield 148, 3) := by decide +kernel
theorem dX10_letGo_38 : decode cX10_letGo 38 = .ok (.iconst 1, 1) := by decide +kernel
theorem dX10_letGo_39 : decode cX10_letGo 39 = .ok (.iload_n 1, 1) := by decide +kernel
theorem dX10_letGo_40 : decode cX10_letGo 40 = .ok (.ishl, 1) := by decide +kernel
theorem dX10_letGo_41 : decode cX10_letGo 41 = .ok (.iconst (-1), 1) := by decide +kernel
theorem dX10_letGo_42 : decode cX10_letGo 42 = .ok (.ixor, 1) := by decide +kernel
theorem dX10_letGo_43 : decode cX10_letGo 43 = .ok (.iand, 1) := by decide +kernel
theorem dX10_letGo_44 : decode cX10_letGo 44 = .ok (.putfield 148, 3) := by decide +kernel
theorem dX10_letGo_47 : decode cX10_letGo 47 = .ok (.aload_n 0, 1) := by decide +kernel
theorem dX10_letGo_48 : decode cX10_letGo 48 = .ok (.getfield 58, 3) := by decide +kernel
theorem dX10_letGo_51 : decode cX10_letGo 51 = .ok (.getfield 148, 3) := by decide +kernel
theorem dX10_letGo_54 : decode cX10_letGo 54 = .ok (.invokestatic 228, 3) := by decide +kernel
theorem dX10_letGo_57 : decode cX10_letGo 57 = .ok (.ireturn, 1) := by decide +kernel
theorem dX10_relieve_0 : decode cX10_relieve 0 = .ok (.aload_n 0, 1) := by decide +kernel
theorem dX10_relieve_1 : decode cX10_relieve 1 = .ok (.getfield 58, 3) := by decide +kernel
theorem dX10_relieve_4 : decode cX10_relieve 4 = .ok (.getfield 148, 3) := by decide +kernel
theorem dX10_relieve_7 : decode cX10_relieve 7 = .ok (.istore_n 3, 1) := by decide +kernel
theorem dX10_relieve_8 : decode cX10_relieve 8 = .ok (.aload_n 0, 1) := by decide +kernel
theorem dX10_relieve_9 : decode cX10_relieve 9 = .ok (.iload_n 1, 1) := by decide +kernel
theorem dX10_relieve_10 : decode cX10_relieve 10 = .ok (.invokevirtual 190, 3) := by decide +kernel
theorem dX10_relieve_13 : decode cX10_relieve 13 = .ok (.istore 4, 2) := by decide +kernel
theorem dX10_relieve_15 : decode cX10_relieve 15 = .ok (.iload 4, 2) := by decide +kernel
theorem dX10_relieve_17 : decode cX10_relieve 17 = .ok (.ifCond .ge 6, 3) := by decide +kernel
theorem dX10_relieve_20 : decode cX10_relieve 20 = .ok (.iload 4, 2) := by decide +kernel
theorem dX10_relieve_22 : decode cX10_relieve 22 = .ok (.ireturn, 1) := by decide +kernel
theorem dX10_relieve_23 : decode cX10_relieve 23 = .ok (.aload_n 0, 1) := by decide +kernel
theorem dX10_relieve_24 : decode cX10_relieve 24 = .ok (.iload_n 2, 1) := by decide +kernel
theorem dX10_relieve_25 : decode cX10_relieve 25 = .ok (.invokevirtual 184, 3) := by decide +kernel
theorem dX10_relieve_28 : decode cX10_relieve 28 = .ok (.istore 4, 2) := by decide +kernel
theorem dX10_relieve_30 : decode cX10_relieve 30 = .ok (.iload 4, 2) := by decide +kernel
theorem dX10_relieve_32 : decode cX10_relieve 32 = .ok (.ifCond .ge 11, 3) := by decide +kernel
theorem dX10_relieve_35 : decode cX10_relieve 35 = .ok (.aload_n 0, 1) := by decide +kernel
theorem dX10_relieve_36 : decode cX10_relieve 36 = .ok (.getfield 58, 3) := by decide +kernel
theorem dX10_relieve_39 : decode cX10_relieve 39 = .ok (.iload_n 3, 1) := by decide +kernel
theorem dX10_relieve_40 : decode cX10_relieve 40 = .ok (.putfield 148, 3) := by decide +kernel
theorem dX10_relieve_43 : decode cX10_relieve 43 = .ok (.iload 4, 2) := by decide +kernel
theorem dX10_relieve_45 : decode cX10_relieve 45 = .ok (.ireturn, 1) := by decide +kernel
theorem dX10_splice_0 : decode cX10_splice 0 = .ok (.iload_n 1, 1) := by decide +kernel
theorem dX10_splice_1 : decode cX10_splice 1 = .ok (.iconst 1, 1) := by decide +kernel
theorem dX10_splice_2 : decode cX10_splice 2 = .ok (.if_icmp .lt 9, 3) := by decide +kernel
theorem dX10_splice_5 : decode cX10_splice 5 = .ok (.iload_n 1, 1) := by decide +kernel
theorem dX10_splice_6 : decode cX10_splice 6 = .ok (.bipush 99, 2) := by decide +kernel
theorem dX10_splice_8 : decode cX10_splice 8 = .ok (.if_icmp .le 5, 3) := by decide +kernel
theorem dX10_splice_11 : decode cX10_splice 11 = .ok (.iconst (-1), 1) := by decide +kernel
theorem dX10_splice_12 : decode cX10_splice 12 = .ok (.ireturn, 1) := by decide +kernel
theorem dX10_splice_13 : decode cX10_splice 13 = .ok (.aload_n 0, 1) := by decide +kernel
theorem dX10_splice_14 : decode cX10_splice 14 = .ok (.getfield 58, 3) := by decide +kernel
theorem dX10_splice_17 : decode cX10_splice 17 = .ok (.bipush 99, 2) := by decide +kernel
theorem dX10_splice_19 : decode cX10_splice 19 = .ok (.aload_n 0, 1) := by decide +kernel
theorem dX10_splice_20 : decode cX10_splice 20 = .ok (.getfield 58, 3) := by decide +kernel
theorem dX10_splice_23 : decode cX10_splice 23 = .ok (.getfield 233, 3) := by decide +kernel
theorem dX10_splice_26 : decode cX10_splice 26 = .ok (.iload_n 1, 1) := by decide +kernel
theorem dX10_splice_27 : decode cX10_splice 27 = .ok (.iadd, 1) := by decide +kernel
theorem dX10_splice_28 : decode cX10_splice 28 = .ok (.invokestatic 172, 3) := by decide +kernel
theorem dX10_splice_31 : decode cX10_splice 31 = .ok (.putfield 233, 3) := by decide +kernel
theorem dX10_splice_34 : decode cX10_splice 34 = .ok (.aload_n 0, 1) := by decide +kernel
theorem dX10_splice_35 : decode cX10_splice 35 = .ok (.getfield 58, 3) := by decide +kernel
theorem dX10_splice_38 : decode cX10_splice 38 = .ok (.getfield 233, 3) := by decide +kernel
theorem dX10_splice_41 : decode cX10_splice 41 = .ok (.ireturn, 1) := by decide +kernel
theorem dX10_pass_0 : decode cX10_pass 0 = .ok (.iload_n 1, 1) := by decide +kernel
theorem dX10_pass_1 : decode cX10_pass 1 = .ok (.ifCond .lt 9, 3) := by decide +kernel
theorem dX10_pass_4 : decode cX10_pass 4 = .ok (.iload_n 1, 1) := by decide +kernel
theorem dX10_pass_5 : decode cX10_pass 5 = .ok (.bipush 120, 2) := by decide +kernel
theorem dX10_pass_7 : decode cX10_pass 7 = .ok (.if_icmp .le 5, 3) := by decide +kernel
theorem dX10_pass_10 : decode cX10_pass 10 = .ok (.iconst (-1), 1) := by decide +kernel
theorem dX10_pass_11 : decode cX10_pass 11 = .ok (.ireturn, 1) := by decide +kernel
theorem dX10_pass_12 : decode cX10_pass 12 = .ok (.aload_n 0, 1) := by decide +kernel
theorem dX10_pass_13 : decode cX10_pass 13 = .ok (.getfield 58, 3) := by decide +kernel
theorem dX10_pass_16 : decode cX10_pass 16 = .ok (.getfield 236, 3) := by decide +kernel
theorem dX10_pass_19 : decode cX10_pass 19 = .ok (.istore_n 2, 1) := by decide +kernel
theorem dX10_pass_20 : decode cX10_pass 20 = .ok (.iconst 0, 1) := by decide +kernel
theorem dX10_pass_21 : decode cX10_pass 21 = .ok (.istore_n 3, 1) := by decide +kernel
theorem dX10_pass_22 : decode cX10_pass 22 = .ok (.iload_n 3, 1) := by decide +kernel
theorem dX10_pass_23 : decode cX10_pass 23 = .ok (.iload_n 1, 1) := by decide +kernel
theorem dX10_pass_24 : decode cX10_pass 24 = .ok (.if_icmp .ge 20, 3) := by decide +kernel
theorem dX10_pass_27 : decode cX10_pass 27 = .ok (.aload_n 0, 1) := by decide +kernel
theorem dX10_pass_28 : decode cX10_pass 28 = .ok (.getfield 34, 3) := by decide +kernel
theorem dX10_pass_31 : decode cX10_pass 31 = .ok (.aload_n 0, 1) := by decide +kernel
theorem dX10_pass_32 : decode cX10_pass 32 = .ok (.getfield 58, 3) := by decide +kernel
theorem dX10_pass_35 : decode cX10_pass 35 = .ok (.invokevirtual 239, 3) := by decide +kernel
theorem dX10_pass_38 : decode cX10_pass 38 = .ok (.iinc 3 1, 3) := by decide +kernel
theorem dX10_pass_41 : decode cX10_pass 41 = .ok (.goto (-19), 3) := by decide +kernel
theorem dX10_pass_44 : decode cX10_pass 44 = .ok (.aload_n 0, 1) := by decide +kernel
theorem dX10_pass_45 : decode cX10_pass 45 = .ok (.getfield 58, 3) := by decide +kernel
theorem dX10_pass_48 : decode cX10_pass 48 = .ok (.getfield 236, 3) := by decide +kernel
theorem dX10_pass_51 : decode cX10_pass 51 = .ok (.iload_n 2, 1) := by decide +kernel
theorem dX10_pass_52 : decode cX10_pass 52 = .ok (.isub, 1) := by decide +kernel
theorem dX10_pass_53 : decode cX10_pass 53 = .ok (.ireturn, 1) := by decide +kernel
theorem dX10_undo_0 : decode cX10_undo 0 = .ok (.aload_n 0, 1) := by decide +kernel
theorem dX10_undo_1 : decode cX10_undo 1 = .ok (.getfield 71, 3) := by decide +kernel
theorem dX10_undo_4 : decode cX10_undo 4 = .ok (.aload_n 0, 1) := by decide +kernel
theorem dX10_undo_5 : decode cX10_undo 5 = .ok (.getfield 58, 3) := by decide +kernel
theorem dX10_undo_8 : decode cX10_undo 8 = .ok (.invokevirtual 242, 3) := by decide +kernel
theorem dX10_undo_11 : decode cX10_undo 11 = .ok (.ireturn, 1) := by decide +kernel
theorem dX10_lasts_0 : decode cX10_lasts 0 = .ok (.aload_n 0, 1) := by decide +kernel
theorem dX10_lasts_1 : decode cX10_lasts 1 = .ok (.aload_n 0, 1) := by decide +kernel
theorem dX10_lasts_2 : decode cX10_lasts 2 = .ok (.getfield 34, 3) := by decide +kernel
theorem dX10_lasts_5 : decode cX10_lasts 5 = .ok (.invokevirtual 246, 3) := by decide +kernel
theorem dX10_lasts_8 : decode cX10_lasts 8 = .ok (.istore_n 1, 1) := by decide +kernel
theorem dX10_lasts_9 : decode cX10_lasts 9 = .ok (.iload_n 1, 1) := by decide +kernel
theorem dX10_lasts_10 : decode cX10_lasts 10 = .ok (.sipush 999, 3) := by decide +kernel
theorem dX10_lasts_13 : decode cX10_lasts 13 = .ok (.if_icmp .le 6, 3) := by decide +kernel
theorem dX10_lasts_16 : decode cX10_lasts 16 = .ok (.bipush (-2), 2) := by decide +kernel
theorem dX10_lasts_18 : decode cX10_lasts 18 = .ok (.ireturn, 1) := by decide +kernel
theorem dX10_lasts_19 : decode cX10_lasts 19 = .ok (.aload_n 0, 1) := by decide +kernel
theorem dX10_lasts_20 : decode cX10_lasts 20 = .ok (.aload_n 0, 1) := by decide +kernel
theorem dX10_lasts_21 : decode cX10_lasts 21 = .ok (.getfield 62, 3) := by decide +kernel
theorem dX10_lasts_24 : decode cX10_lasts 24 = .ok (.getfield 236, 3) := by decide +kernel
theorem dX10_lasts_27 : decode cX10_lasts 27 = .ok (.aload_n 0, 1) := by decide +kernel
theorem dX10_lasts_28 : decode cX10_lasts 28 = .ok (.getfield 58, 3) := by decide +kernel
theorem dX10_lasts_31 : decode cX10_lasts 31 = .ok (.getfield 236, 3) := by decide +kernel
theorem dX10_lasts_34 : decode cX10_lasts 34 = .ok (.isub, 1) := by decide +kernel
theorem dX10_lasts_35 : decode cX10_lasts 35 = .ok (.i2l, 1) := by decide +kernel
theorem dX10_lasts_36 : decode cX10_lasts 36 = .ok (.aload_n 0, 1) := by decide +kernel
theorem dX10_lasts_37 : decode cX10_lasts 37 = .ok (.getfield 62, 3) := by decide +kernel
theorem dX10_lasts_40 : decode cX10_lasts 40 = .ok (.getfield 250, 3) := by decide +kernel
theorem dX10_lasts_43 : decode cX10_lasts 43 = .ok (.aload_n 0, 1) := by decide +kernel
theorem dX10_lasts_44 : decode cX10_lasts 44 = .ok (.getfield 58, 3) := by decide +kernel
theorem dX10_lasts_47 : decode cX10_lasts 47 = .ok (.getfield 250, 3) := by decide +kernel
theorem dX10_lasts_50 : decode cX10_lasts 50 = .ok (.isub, 1) := by decide +kernel
theorem dX10_lasts_51 : decode cX10_lasts 51 = .ok (.i2l, 1) := by decide +kernel
theorem dX10_lasts_52 : decode cX10_lasts 52 = .ok (.invokevirtual 202, 3) := by decide +kernel
theorem dX10_lasts_55 : decode cX10_lasts 55 = .ok (.iload_n 1, 1) := by decide +kernel
theorem dX10_lasts_56 : decode cX10_lasts 56 = .ok (.ireturn, 1) := by decide +kernel
theorem dX10_firstStop_0 : decode cX10_firstStop 0 = .ok (.aload_n 0, 1) := by decide +kernel
theorem dX10_firstStop_1 : decode cX10_firstStop 1 = .ok (.getfield 62, 3) := by decide +kernel
theorem dX10_firstStop_4 : decode cX10_firstStop 4 = .ok (.aload_n 0, 1) := by decide +kernel
theorem dX10_firstStop_5 : decode cX10_firstStop 5 = .ok (.getfield 58, 3) := by decide +kernel
theorem dX10_firstStop_8 : decode cX10_firstStop 8 = .ok (.invokevirtual 180, 3) := by decide +kernel
theorem dX10_firstStop_11 : decode cX10_firstStop 11 = .ok (.iconst 1, 1) := by decide +kernel
theorem dX10_firstStop_12 : decode cX10_firstStop 12 = .ok (.istore_n 2, 1) := by decide +kernel
theorem dX10_firstStop_13 : decode cX10_firstStop 13 = .ok (.iload_n 2, 1) := by decide +kernel
theorem dX10_firstStop_14 : decode cX10_firstStop 14 = .ok (.sipush 999, 3) := by decide +kernel
theorem dX10_firstStop_17 : decode cX10_firstStop 17 = .ok (.if_icmp .gt 37, 3) := by decide +kernel
theorem dX10_firstStop_20 : decode cX10_firstStop 20 = .ok (.aload_n 1, 1) := by decide +kernel
theorem dX10_firstStop_21 : decode cX10_firstStop 21 = .ok (.aload_n 0, 1) := by decide +kernel
theorem dX10_firstStop_22 : decode cX10_firstStop 22 = .ok (.getfield 62, 3) := by decide +kernel
theorem dX10_firstStop_25 : decode cX10_firstStop 25 = .ok (.invokevirtual 253, 3) := by decide +kernel
theorem dX10_firstStop_28 : decode cX10_firstStop 28 = .ok (.pop, 1) := by decide +kernel
theorem dX10_firstStop_29 : decode cX10_firstStop 29 = .ok (.aload_n 0, 1) := by decide +kernel
theorem dX10_firstStop_30 : decode cX10_firstStop 30 = .ok (.getfield 62, 3) := by decide +kernel
theorem dX10_firstStop_33 : decode cX10_firstStop 33 = .ok (.getfield 199, 3) := by decide +kernel
theorem dX10_firstStop_36 : decode cX10_firstStop 36 = .ok (.aload_n 0, 1) := by decide +kernel
theorem dX10_firstStop_37 : decode cX10_firstStop 37 = .ok (.getfield 58, 3) := by decide +kernel
theorem dX10_firstStop_40 : decode cX10_firstStop 40 = .ok (.getfield 199, 3) := by decide +kernel
theorem dX10_firstStop_43 : decode cX10_firstStop 43 = .ok (.if_icmp .le 5, 3) := by decide +kernel
theorem dX10_firstStop_46 : decode cX10_firstStop 46 = .ok (.iload_n 2, 1) := by decide +kernel
theorem dX10_firstStop_47 : decode cX10_firstStop 47 = .ok (.ireturn, 1) := by decide +kernel
theorem dX10_firstStop_48 : decode cX10_firstStop 48 = .ok (.iinc 2 1, 3) := by decide +kernel
theorem dX10_firstStop_51 : decode cX10_firstStop 51 = .ok (.goto (-38), 3) := by decide +kernel
theorem dX10_firstStop_54 : decode cX10_firstStop 54 = .ok (.sipush 1000, 3) := by decide +kernel
theorem dX10_firstStop_57 : decode cX10_firstStop 57 = .ok (.ireturn, 1) := by decide +kernel
theorem dX10_hush_0 : decode cX10_hush 0 = .ok (.aload_n 0, 1) := by decide +kernel
theorem dX10_hush_1 : decode cX10_hush 1 = .ok (.getfield 62, 3) := by decide +kernel
theorem dX10_hush_4 : decode cX10_hush 4 = .ok (.aload_n 0, 1) := by decide +kernel
theorem dX10_hush_5 : decode cX10_hush 5 = .ok (.getfield 58, 3) := by decide +kernel
theorem dX10_hush_8 : decode cX10_hush 8 = .ok (.invokevirtual 180, 3) := by decide +kernel
theorem dX10_hush_11 : decode cX10_hush 11 = .ok (.aload_n 0, 1) := by decide +kernel
theorem dX10_hush_12 : decode cX10_hush 12 = .ok (.getfield 34, 3) := by decide +kernel
theorem dX10_hush_15 : decode cX10_hush 15 = .ok (.aload_n 0, 1) := by decide +kernel
theorem dX10_hush_16 : decode cX10_hush 16 = .ok (.getfield 62, 3) := by decide +kernel
theorem dX10_hush_19 : decode cX10_hush 19 = .ok (.sipush 999, 3) := by decide +kernel
theorem dX10_hush_22 : decode cX10_hush 22 = .ok (.invokevirtual 257, 3) := by decide +kernel
theorem dX10_hush_25 : decode cX10_hush 25 = .ok (.istore_n 1, 1) := by decide +kernel
theorem dX10_hush_26 : decode cX10_hush 26 = .ok (.iload_n 1, 1) := by decide +kernel
theorem dX10_hush_27 : decode cX10_hush 27 = .ok (.sipush 999, 3) := by decide +kernel
theorem dX10_hush_30 : decode cX10_hush 30 = .ok (.if_icmp .ne 6, 3) := by decide +kernel
theorem dX10_hush_33 : decode cX10_hush 33 = .ok (.bipush (-2), 2) := by decide +kernel
theorem dX10_hush_35 : decode cX10_hush 35 = .ok (.ireturn, 1) := by decide +kernel
theorem dX10_hush_36 : decode cX10_hush 36 = .ok (.aload_n 0, 1) := by decide +kernel
theorem dX10_hush_37 : decode cX10_hush 37 = .ok (.aload_n 0, 1) := by decide +kernel
theorem dX10_hush_38 : decode cX10_hush 38 = .ok (.getfield 62, 3) := by decide +kernel
theorem dX10_hush_41 : decode cX10_hush 41 = .ok (.getfield 260, 3) := by decide +kernel
theorem dX10_hush_44 : decode cX10_hush 44 = .ok (.i2l, 1) := by decide +kernel
theorem dX10_hush_45 : decode cX10_hush 45 = .ok (.invokevirtual 263, 3) := by decide +kernel
theorem dX10_hush_48 : decode cX10_hush 48 = .ok (.iload_n 1, 1) := by decide +kernel
theorem dX10_hush_49 : decode cX10_hush 49 = .ok (.ireturn, 1) := by decide +kernel
theorem dX10_team_0 : decode cX10_team 0 = .ok (.iload_n 1, 1) := by decide +kernel
theorem dX10_team_1 : decode cX10_team 1 = .ok (.iconst 1, 1) := by decide +kernel
theorem dX10_team_2 : decode cX10_team 2 = .ok (.if_icmp .lt 9, 3) := by decide +kernel
theorem dX10_team_5 : decode cX10_team 5 = .ok (.iload_n 1, 1) := by decide +kernel
theorem dX10_team_6 : decode cX10_team 6 = .ok (.bipush 120, 2) := by decide +kernel
theorem dX10_team_8 : decode cX10_team 8 = .ok (.if_icmp .le 5, 3) := by decide +kernel
theorem dX10_team_11 : decode cX10_team 11 = .ok (.iconst (-1), 1) := by decide +kernel
theorem dX10_team_12 : decode cX10_team 12 = .ok (.ireturn, 1) := by decide +kernel
theorem dX10_team_13 : decode cX10_team 13 = .ok (.iconst 1, 1) := by decide +kernel
theorem dX10_team_14 : decode cX10_team 14 = .ok (.istore_n 2, 1) := by decide +kernel
theorem dX10_team_15 : decode cX10_team 15 = .ok (.iload_n 2, 1) := by decide +kernel
theorem dX10_team_16 : decode cX10_team 16 = .ok (.iconst 3, 1) := by decide +kernel
theorem dX10_team_17 : decode cX10_team 17 = .ok (.if_icmp .gt 40, 3) := by decide +kernel
theorem dX10_team_20 : decode cX10_team 20 = .ok (.aload_n 0, 1) := by decide +kernel
theorem dX10_team_21 : decode cX10_team 21 = .ok (.iload_n 2, 1) := by decide +kernel
theorem dX10_team_22 : decode cX10_team 22 = .ok (.iload_n 1, 1) := by decide +kernel
theorem dX10_team_23 : decode cX10_team 23 = .ok (.invokevirtual 266, 3) := by decide +kernel
theorem dX10_team_26 : decode cX10_team 26 = .ok (.istore_n 3, 1) := by decide +kernel
theorem dX10_team_27 : decode cX10_team 27 = .ok (.iload_n 3, 1) := by decide +kernel
theorem dX10_team_28 : decode cX10_team 28 = .ok (.ifCond .eq 23, 3) := by decide +kernel
theorem dX10_team_31 : decode cX10_team 31 = .ok (.aload_n 0, 1) := by decide +kernel
theorem dX10_team_32 : decode cX10_team 32 = .ok (.iload_n 3, 1) := by decide +kernel
theorem dX10_team_33 : decode cX10_team 33 = .ok (.i2l, 1) := by decide +kernel
theorem dX10_team_34 : decode cX10_team 34 = .ok (.aload_n 0, 1) := by decide +kernel
theorem dX10_team_35 : decode cX10_team 35 = .ok (.getfield 34, 3) := by decide +kernel
theorem dX10_team_38 : decode cX10_team 38 = .ok (.getfield 38, 3) := by decide +kernel
theorem dX10_team_41 : decode cX10_team 41 = .ok (.iload_n 3, 1) := by decide +kernel
theorem dX10_team_42 : decode cX10_team 42 = .ok (.invokevirtual 269, 3) := by decide +kernel
theorem dX10_team_45 : decode cX10_team 45 = .ok (.i2l, 1) := by decide +kernel
theorem dX10_team_46 : decode cX10_team 46 = .ok (.invokevirtual 202, 3) := by decide +kernel
theorem dX10_team_49 : decode cX10_team 49 = .ok (.iload_n 2, 1) := by decide +kernel
theorem dX10_team_50 : decode cX10_team 50 = .ok (.ireturn, 1) := by decide +kernel
theorem dX10_team_51 : decode cX10_team 51 = .ok (.iinc 2 1, 3) := by decide +kernel
theorem dX10_team_54 : decode cX10_team 54 = .ok (.goto (-39), 3) := by decide +kernel
theorem dX10_team_57 : decode cX10_team 57 = .ok (.bipush (-2), 2) := by decide +kernel
theorem dX10_team_59 : decode cX10_team 59 = .ok (.ireturn, 1) := by decide +kernel
theorem dX10_cheapestTeam_0 : decode cX10_cheapestTeam 0 = .ok (.iconst 0, 1) := by decide +kernel
theorem dX10_cheapestTeam_1 : decode cX10_cheapestTeam 1 = .ok (.istore_n 3, 1) := by decide +kernel
theorem dX10_cheapestTeam_2 : decode cX10_cheapestTeam 2 = .ok (.iconst 1, 1) := by decide +kernel
theorem dX10_cheapestTeam_3 : decode cX10_cheapestTeam 3 = .ok (.istore 4, 2) := by decide +kernel
theorem dX10_cheapestTeam_5 : decode cX10_cheapestTeam 5 = .ok (.iload 4, 2) := by decide +kernel
theorem dX10_cheapestTeam_7 : decode cX10_cheapestTeam 7 = .ok (.aload_n 0, 1) := by decide +kernel
theorem dX10_cheapestTeam_8 : decode cX10_cheapestTeam 8 = .ok (.getfield 34, 3) := by decide +kernel
theorem dX10_cheapestTeam_11 : decode cX10_cheapestTeam 11 = .ok (.getfield 38, 3) := by decide +kernel
theorem dX10_cheapestTeam_14 : decode cX10_cheapestTeam 14 = .ok (.invokevirtual 272, 3) := by decide +kernel
theorem dX10_cheapestTeam_17 : decode cX10_cheapestTeam 17 = .ok (.if_icmp .gt 74, 3) := by decide +kernel
theorem dX10_cheapestTeam_20 : decode cX10_cheapestTeam 20 = .ok (.iload_n 3, 1) := by decide +kernel
theorem dX10_cheapestTeam_21 : decode cX10_cheapestTeam 21 = .ok (.ifCond .eq 29, 3) := by decide +kernel
theorem dX10_cheapestTeam_24 : decode cX10_cheapestTeam 24 = .ok (.aload_n 0, 1) := by decide +kernel
theorem dX10_cheapestTeam_25 : decode cX10_cheapestTeam 25 = .ok (.getfield 34, 3) := by decide +kernel
theorem dX10_cheapestTeam_28 : decode cX10_cheapestTeam 28 = .ok (.getfield 38, 3) := by decide +kernel
theorem dX10_cheapestTeam_31 : decode cX10_cheapestTeam 31 = .ok (.iload 4, 2) := by decide +kernel
theorem dX10_cheapestTeam_33 : decode cX10_cheapestTeam 33 = .ok (.invokevirtual 269, 3) := by decide +kernel
theorem dX10_cheapestTeam_36 : decode cX10_cheapestTeam 36 = .ok (.aload_n 0, 1) := by decide +kernel
theorem dX10_cheapestTeam_37 : decode cX10_cheapestTeam 37 = .ok (.getfield 34, 3) := by decide +kernel
theorem dX10_cheapestTeam_40 : decode cX10_cheapestTeam 40 = .ok (.getfield 38, 3) := by decide +kernel
theorem dX10_cheapestTeam_43 : decode cX10_cheapestTeam 43 = .ok (.iload_n 3, 1) := by decide +kernel
theorem dX10_cheapestTeam_44 : decode cX10_cheapestTeam 44 = .ok (.invokevirtual 269, 3) := by decide +kernel
theorem dX10_cheapestTeam_47 : decode cX10_cheapestTeam 47 = .ok (.if_icmp .ge 7, 3) := by decide +kernel
theorem dX10_cheapestTeam_50 : decode cX10_cheapestTeam 50 = .ok (.iconst 1, 1) := by decide +kernel
theorem dX10_cheapestTeam_51 : decode cX10_cheapestTeam 51 = .ok (.goto 4, 3) := by decide +kernel
theorem dX10_cheapestTeam_54 : decode cX10_cheapestTeam 54 = .ok (.iconst 0, 1) := by decide +kernel
theorem dX10_cheapestTeam_55 : decode cX10_cheapestTeam 55 = .ok (.istore 5, 2) := by decide +kernel
theorem dX10_cheapestTeam_57 : decode cX10_cheapestTeam 57 = .ok (.iload 4, 2) := by decide +kernel
theorem dX10_cheapestTeam_59 : decode cX10_cheapestTeam 59 = .ok (.invokestatic 228, 3) := by decide +kernel
theorem dX10_cheapestTeam_62 : decode cX10_cheapestTeam 62 = .ok (.iload_n 1, 1) := by decide +kernel
theorem dX10_cheapestTeam_63 : decode cX10_cheapestTeam 63 = .ok (.if_icmp .ne 22, 3) := by decide +kernel
theorem dX10_cheapestTeam_66 : decode cX10_cheapestTeam 66 = .ok (.iload 5, 2) := by decide +kernel
theorem dX10_cheapestTeam_68 : decode cX10_cheapestTeam 68 = .ok (.ifCond .eq 17, 3) := by decide +kernel
theorem dX10_cheapestTeam_71 : decode cX10_cheapestTeam 71 = .ok (.aload_n 0, 1) := by decide +kernel
theorem dX10_cheapestTeam_72 : decode cX10_cheapestTeam 72 = .ok (.iload 4, 2) := by decide +kernel
theorem dX10_cheapestTeam_74 : decode cX10_cheapestTeam 74 = .ok (.iload_n 2, 1) := by decide +kernel
theorem dX10_cheapestTeam_75 : decode cX10_cheapestTeam 75 = .ok (.invokevirtual 275, 3) := by decide +kernel
theorem dX10_cheapestTeam_78 : decode cX10_cheapestTeam 78 = .ok (.iload_n 2, 1) := by decide +kernel
theorem dX10_cheapestTeam_79 : decode cX10_cheapestTeam 79 = .ok (.if_icmp .ne 6, 3) := by decide +kernel
theorem dX10_cheapestTeam_82 : decode cX10_cheapestTeam 82 = .ok (.iload 4, 2) := by decide +kernel
theorem dX10_cheapestTeam_84 : decode cX10_cheapestTeam 84 = .ok (.istore_n 3, 1) := by decide +kernel
theorem dX10_cheapestTeam_85 : decode cX10_cheapestTeam 85 = .ok (.iinc 4 1, 3) := by decide +kernel
theorem dX10_cheapestTeam_88 : decode cX10_cheapestTeam 88 = .ok (.goto (-83), 3) := by decide +kernel
theorem dX10_cheapestTeam_91 : decode cX10_cheapestTeam 91 = .ok (.iload_n 3, 1) := by decide +kernel
theorem dX10_cheapestTeam_92 : decode cX10_cheapestTeam 92 = .ok (.ireturn, 1) := by decide +kernel
theorem dX10_ringsAlone_0 : decode cX10_ringsAlone 0 = .ok (.aload_n 0, 1) := by decide +kernel
theorem dX10_ringsAlone_1 : decode cX10_ringsAlone 1 = .ok (.getfield 62, 3) := by decide +kernel
theorem dX10_ringsAlone_4 : decode cX10_ringsAlone 4 = .ok (.aload_n 0, 1) := by decide +kernel
theorem dX10_ringsAlone_5 : decode cX10_ringsAlone 5 = .ok (.getfield 58, 3) := by decide +kernel
theorem dX10_ringsAlone_8 : decode cX10_ringsAlone 8 = .ok (.invokevirtual 180, 3) := by decide +kernel
theorem dX10_ringsAlone_11 : decode cX10_ringsAlone 11 = .ok (.aload_n 0, 1) := by decide +kernel
theorem dX10_ringsAlone_12 : decode cX10_ringsAlone 12 = .ok (.getfield 62, 3) := by decide +kernel
theorem dX10_ringsAlone_15 : decode cX10_ringsAlone 15 = .ok (.iload_n 1, 1) := by decide +kernel
theorem dX10_ringsAlone_16 : decode cX10_ringsAlone 16 = .ok (.putfield 148, 3) := by decide +kernel
theorem dX10_ringsAlone_19 : decode cX10_ringsAlone 19 = .ok (.aload_n 0, 1) := by decide +kernel
theorem dX10_ringsAlone_20 : decode cX10_ringsAlone 20 = .ok (.getfield 34, 3) := by decide +kernel
theorem dX10_ringsAlone_23 : decode cX10_ringsAlone 23 = .ok (.aload_n 0, 1) := by decide +kernel
theorem dX10_ringsAlone_24 : decode cX10_ringsAlone 24 = .ok (.getfield 62, 3) := by decide +kernel
theorem dX10_ringsAlone_27 : decode cX10_ringsAlone 27 = .ok (.iload_n 2, 1) := by decide +kernel
theorem dX10_ringsAlone_28 : decode cX10_ringsAlone 28 = .ok (.invokevirtual 257, 3) := by decide +kernel
theorem dX10_ringsAlone_31 : decode cX10_ringsAlone 31 = .ok (.ireturn, 1) := by decide +kernel
theorem dX10_strongest_0 : decode cX10_strongest 0 = .ok (.iload_n 1, 1) := by decide +kernel
theorem dX10_strongest_1 : decode cX10_strongest 1 = .ok (.iconst 1, 1) := by decide +kernel
theorem dX10_strongest_2 : decode cX10_strongest 2 = .ok (.if_icmp .lt 8, 3) := by decide +kernel
theorem dX10_strongest_5 : decode cX10_strongest 5 = .ok (.iload_n 1, 1) := by decide +kernel
theorem dX10_strongest_6 : decode cX10_strongest 6 = .ok (.iconst 3, 1) := by decide +kernel
theorem dX10_strongest_7 : decode cX10_strongest 7 = .ok (.if_icmp .le 5, 3) := by decide +kernel
theorem dX10_strongest_10 : decode cX10_strongest 10 = .ok (.iconst (-1), 1) := by decide +kernel
theorem dX10_strongest_11 : decode cX10_strongest 11 = .ok (.ireturn, 1) := by decide +kernel
theorem dX10_strongest_12 : decode cX10_strongest 12 = .ok (.iconst (-1), 1) := by decide +kernel
theorem dX10_strongest_13 : decode cX10_strongest 13 = .ok (.istore_n 2, 1) := by decide +kernel
theorem dX10_strongest_14 : decode cX10_strongest 14 = .ok (.iconst 0, 1) := by decide +kernel
theorem dX10_strongest_15 : decode cX10_strongest 15 = .ok (.istore_n 3, 1) := by decide +kernel
theorem dX10_strongest_16 : decode cX10_strongest 16 = .ok (.iconst 1, 1) := by decide +kernel
theorem dX10_strongest_17 : decode cX10_strongest 17 = .ok (.istore 4, 2) := by decide +kernel
theorem dX10_strongest_19 : decode cX10_strongest 19 = .ok (.iload 4, 2) := by decide +kernel
theorem dX10_strongest_21 : decode cX10_strongest 21 = .ok (.aload_n 0, 1) := by decide +kernel
theorem dX10_strongest_22 : decode cX10_strongest 22 = .ok (.getfield 34, 3) := by decide +kernel
theorem dX10_strongest_25 : decode cX10_strongest 25 = .ok (.getfield 38, 3) := by decide +kernel
theorem dX10_strongest_28 : decode cX10_strongest 28 = .ok (.invokevirtual 272, 3) := by decide +kernel
theorem dX10_strongest_31 : decode cX10_strongest 31 = .ok (.if_icmp .gt 45, 3) := by decide +kernel
theorem dX10_strongest_34 : decode cX10_strongest 34 = .ok (.iload 4, 2) := by decide +kernel
theorem dX10_strongest_36 : decode cX10_strongest 36 = .ok (.invokestatic 228, 3) := by decide +kernel
theorem dX10_strongest_39 : decode cX10_strongest 39 = .ok (.iload_n 1, 1) := by decide +kernel
theorem dX10_strongest_40 : decode cX10_strongest 40 = .ok (.if_icmp .ne 15, 3) := by decide +kernel
theorem dX10_strongest_43 : decode cX10_strongest 43 = .ok (.aload_n 0, 1) := by decide +kernel
theorem dX10_strongest_44 : decode cX10_strongest 44 = .ok (.iload 4, 2) := by decide +kernel
theorem dX10_strongest_46 : decode cX10_strongest 46 = .ok (.sipush 999, 3) := by decide +kernel
theorem dX10_strongest_49 : decode cX10_strongest 49 = .ok (.invokevirtual 275, 3) := by decide +kernel
theorem dX10_strongest_52 : decode cX10_strongest 52 = .ok (.goto 4, 3) := by decide +kernel
theorem dX10_strongest_55 : decode cX10_strongest 55 = .ok (.iconst (-1), 1) := by decide +kernel
theorem dX10_strongest_56 : decode cX10_strongest 56 = .ok (.istore 5, 2) := by decide +kernel
theorem dX10_strongest_58 : decode cX10_strongest 58 = .ok (.iload 5, 2) := by decide +kernel
theorem dX10_strongest_60 : decode cX10_strongest 60 = .ok (.iload_n 2, 1) := by decide +kernel
theorem dX10_strongest_61 : decode cX10_strongest 61 = .ok (.if_icmp .le 9, 3) := by decide +kernel
theorem dX10_strongest_64 : decode cX10_strongest 64 = .ok (.iload 5, 2) := by decide +kernel
theorem dX10_strongest_66 : decode cX10_strongest 66 = .ok (.istore_n 2, 1) := by decide +kernel
theorem dX10_strongest_67 : decode cX10_strongest 67 = .ok (.iload 4, 2) := by decide +kernel
theorem dX10_strongest_69 : decode cX10_strongest 69 = .ok (.istore_n 3, 1) := by decide +kernel
theorem dX10_strongest_70 : decode cX10_strongest 70 = .ok (.iinc 4 1, 3) := by decide +kernel
theorem dX10_strongest_73 : decode cX10_strongest 73 = .ok (.goto (-54), 3) := by decide +kernel
theorem dX10_strongest_76 : decode cX10_strongest 76 = .ok (.iload_n 2, 1) := by decide +kernel
theorem dX10_strongest_77 : decode cX10_strongest 77 = .ok (.ifCond .ge 6, 3) := by decide +kernel
theorem dX10_strongest_80 : decode cX10_strongest 80 = .ok (.bipush (-2), 2) := by decide +kernel
theorem dX10_strongest_82 : decode cX10_strongest 82 = .ok (.ireturn, 1) := by decide +kernel
theorem dX10_strongest_83 : decode cX10_strongest 83 = .ok (.aload_n 0, 1) := by decide +kernel
theorem dX10_strongest_84 : decode cX10_strongest 84 = .ok (.iload_n 3, 1) := by decide +kernel
theorem dX10_strongest_85 : decode cX10_strongest 85 = .ok (.i2l, 1) := by decide +kernel
theorem dX10_strongest_86 : decode cX10_strongest 86 = .ok (.invokevirtual 263, 3) := by decide +kernel
theorem dX10_strongest_89 : decode cX10_strongest 89 = .ok (.iload_n 2, 1) := by decide +kernel
theorem dX10_strongest_90 : decode cX10_strongest 90 = .ok (.ireturn, 1) := by decide +kernel
theorem dX10_silence_0 : decode cX10_silence 0 = .ok (.iload_n 1, 1) := by decide +kernel
theorem dX10_silence_1 : decode cX10_silence 1 = .ok (.iconst 1, 1) := by decide +kernel
theorem dX10_silence_2 : decode cX10_silence 2 = .ok (.if_icmp .lt 10, 3) := by decide +kernel
theorem dX10_silence_5 : decode cX10_silence 5 = .ok (.iload_n 1, 1) := by decide +kernel
theorem dX10_silence_6 : decode cX10_silence 6 = .ok (.sipush 999, 3) := by decide +kernel
theorem dX10_silence_9 : decode cX10_silence 9 = .ok (.if_icmp .le 5, 3) := by decide +kernel
theorem dX10_silence_12 : decode cX10_silence 12 = .ok (.iconst (-1), 1) := by decide +kernel
theorem dX10_silence_13 : decode cX10_silence 13 = .ok (.ireturn, 1) := by decide +kernel
theorem dX10_silence_14 : decode cX10_silence 14 = .ok (.aload_n 0, 1) := by decide +kernel
theorem dX10_silence_15 : decode cX10_silence 15 = .ok (.getfield 62, 3) := by decide +kernel
theorem dX10_silence_18 : decode cX10_silence 18 = .ok (.aload_n 0, 1) := by decide +kernel
theorem dX10_silence_19 : decode cX10_silence 19 = .ok (.getfield 58, 3) := by decide +kernel
theorem dX10_silence_22 : decode cX10_silence 22 = .ok (.invokevirtual 180, 3) := by decide +kernel
theorem dX10_silence_25 : decode cX10_silence 25 = .ok (.aload_n 0, 1) := by decide +kernel
theorem dX10_silence_26 : decode cX10_silence 26 = .ok (.getfield 58, 3) := by decide +kernel
theorem dX10_silence_29 : decode cX10_silence 29 = .ok (.getfield 260, 3) := by decide +kernel
theorem dX10_silence_32 : decode cX10_silence 32 = .ok (.istore_n 2, 1) := by decide +kernel
theorem dX10_silence_33 : decode cX10_silence 33 = .ok (.iconst 0, 1) := by decide +kernel
theorem dX10_silence_34 : decode cX10_silence 34 = .ok (.istore_n 3, 1) := by decide +kernel
theorem dX10_silence_35 : decode cX10_silence 35 = .ok (.iconst 1, 1) := by decide +kernel
theorem dX10_silence_36 : decode cX10_silence 36 = .ok (.istore 4, 2) := by decide +kernel
theorem dX10_silence_38 : decode cX10_silence 38 = .ok (.iload 4, 2) := by decide +kernel
theorem dX10_silence_40 : decode cX10_silence 40 = .ok (.iload_n 1, 1) := by decide +kernel
theorem dX10_silence_41 : decode cX10_silence 41 = .ok (.if_icmp .gt 43, 3) := by decide +kernel
theorem dX10_silence_44 : decode cX10_silence 44 = .ok (.aload_n 0, 1) := by decide +kernel
theorem dX10_silence_45 : decode cX10_silence 45 = .ok (.getfield 34, 3) := by decide +kernel
theorem dX10_silence_48 : decode cX10_silence 48 = .ok (.aload_n 0, 1) := by decide +kernel
theorem dX10_silence_49 : decode cX10_silence 49 = .ok (.getfield 62, 3) := by decide +kernel
theorem dX10_silence_52 : decode cX10_silence 52 = .ok (.invokevirtual 253, 3) := by decide +kernel
theorem dX10_silence_55 : decode cX10_silence 55 = .ok (.pop, 1) := by decide +kernel
theorem dX10_silence_56 : decode cX10_silence 56 = .ok (.aload_n 0, 1) := by decide +kernel
theorem dX10_silence_57 : decode cX10_silence 57 = .ok (.getfield 62, 3) := by decide +kernel
theorem dX10_silence_60 : decode cX10_silence 60 = .ok (.getfield 260, 3) := by decide +kernel
theorem dX10_silence_63 : decode cX10_silence 63 = .ok (.iload_n 2, 1) := by decide +kernel
theorem dX10_silence_64 : decode cX10_silence 64 = .ok (.if_icmp .le 14, 3) := by decide +kernel
theorem dX10_silence_67 : decode cX10_silence 67 = .ok (.aload_n 0, 1) := by decide +kernel
theorem dX10_silence_68 : decode cX10_silence 68 = .ok (.getfield 62, 3) := by decide +kernel
theorem dX10_silence_71 : decode cX10_silence 71 = .ok (.getfield 260, 3) := by decide +kernel
theorem dX10_silence_74 : decode cX10_silence 74 = .ok (.istore_n 2, 1) := by decide +kernel
theorem dX10_silence_75 : decode cX10_silence 75 = .ok (.iload 4, 2) := by decide +kernel
theorem dX10_silence_77 : decode cX10_silence 77 = .ok (.istore_n 3, 1) := by decide +kernel
theorem dX10_silence_78 : decode cX10_silence 78 = .ok (.iinc 4 1, 3) := by decide +kernel
theorem dX10_silence_81 : decode cX10_silence 81 = .ok (.goto (-43), 3) := by decide +kernel
theorem dX10_silence_84 : decode cX10_silence 84 = .ok (.aload_n 0, 1) := by decide +kernel
theorem dX10_silence_85 : decode cX10_silence 85 = .ok (.iload_n 3, 1) := by decide +kernel
theorem dX10_silence_86 : decode cX10_silence 86 = .ok (.i2l, 1) := by decide +kernel
theorem dX10_silence_87 : decode cX10_silence 87 = .ok (.aload_n 0, 1) := by decide +kernel
theorem dX10_silence_88 : decode cX10_silence 88 = .ok (.getfield 62, 3) := by decide +kernel
theorem dX10_silence_91 : decode cX10_silence 91 = .ok (.getfield 233, 3) := by decide +kernel
theorem dX10_silence_94 : decode cX10_silence 94 = .ok (.i2l, 1) := by decide +kernel
theorem dX10_silence_95 : decode cX10_silence 95 = .ok (.invokevirtual 202, 3) := by decide +kernel
theorem dX10_silence_98 : decode cX10_silence 98 = .ok (.iload_n 2, 1) := by decide +kernel
theorem dX10_silence_99 : decode cX10_silence 99 = .ok (.ireturn, 1) := by decide +kernel
theorem dX10_crowd_0 : decode cX10_crowd 0 = .ok (.iload_n 1, 1) := by decide +kernel
theorem dX10_crowd_1 : decode cX10_crowd 1 = .ok (.ifCond .lt 10, 3) := by decide +kernel
theorem dX10_crowd_4 : decode cX10_crowd 4 = .ok (.iload_n 1, 1) := by decide +kernel
theorem dX10_crowd_5 : decode cX10_crowd 5 = .ok (.sipush 999, 3) := by decide +kernel
theorem dX10_crowd_8 : decode cX10_crowd 8 = .ok (.if_icmp .le 5, 3) := by decide +kernel
theorem dX10_crowd_11 : decode cX10_crowd 11 = .ok (.iconst (-1), 1) := by decide +kernel
theorem dX10_crowd_12 : decode cX10_crowd 12 = .ok (.ireturn, 1) := by decide +kernel
theorem dX10_crowd_13 : decode cX10_crowd 13 = .ok (.aload_n 0, 1) := by decide +kernel
theorem dX10_crowd_14 : decode cX10_crowd 14 = .ok (.getfield 62, 3) := by decide +kernel
theorem dX10_crowd_17 : decode cX10_crowd 17 = .ok (.aload_n 0, 1) := by decide +kernel
theorem dX10_crowd_18 : decode cX10_crowd 18 = .ok (.getfield 58, 3) := by decide +kernel
theorem dX10_crowd_21 : decode cX10_crowd 21 = .ok (.invokevirtual 180, 3) := by decide +kernel
theorem dX10_crowd_24 : decode cX10_crowd 24 = .ok (.iconst 0, 1) := by decide +kernel
theorem dX10_crowd_25 : decode cX10_crowd 25 = .ok (.istore_n 2, 1) := by decide +kernel
theorem dX10_crowd_26 : decode cX10_crowd 26 = .ok (.iconst 1, 1) := by decide +kernel
theorem dX10_crowd_27 : decode cX10_crowd 27 = .ok (.istore_n 3, 1) := by decide +kernel
theorem dX10_crowd_28 : decode cX10_crowd 28 = .ok (.iload_n 3, 1) := by decide +kernel
theorem dX10_crowd_29 : decode cX10_crowd 29 = .ok (.iload_n 1, 1) := by decide +kernel
theorem dX10_crowd_30 : decode cX10_crowd 30 = .ok (.if_icmp .gt 43, 3) := by decide +kernel
theorem dX10_crowd_33 : decode cX10_crowd 33 = .ok (.aload_n 0, 1) := by decide +kernel
theorem dX10_crowd_34 : decode cX10_crowd 34 = .ok (.getfield 62, 3) := by decide +kernel
theorem dX10_crowd_37 : decode cX10_crowd 37 = .ok (.getfield 145, 3) := by decide +kernel
theorem dX10_crowd_40 : decode cX10_crowd 40 = .ok (.istore 4, 2) := by decide +kernel
theorem dX10_crowd_42 : decode cX10_crowd 42 = .ok (.aload_n 0, 1) := by decide +kernel
theorem dX10_crowd_43 : decode cX10_crowd 43 = .ok (.getfield 34, 3) := by decide +kernel
theorem dX10_crowd_46 : decode cX10_crowd 46 = .ok (.aload_n 0, 1) := by decide +kernel
theorem dX10_crowd_47 : decode cX10_crowd 47 = .ok (.getfield 62, 3) := by decide +kernel
theorem dX10_crowd_50 : decode cX10_crowd 50 = .ok (.invokevirtual 239, 3) := by decide +kernel
theorem dX10_crowd_53 : decode cX10_crowd 53 = .ok (.aload_n 0, 1) := by decide +kernel
theorem dX10_crowd_54 : decode cX10_crowd 54 = .ok (.getfield 62, 3) := by decide +kernel
theorem dX10_crowd_57 : decode cX10_crowd 57 = .ok (.getfield 145, 3) := by decide +kernel
theorem dX10_crowd_60 : decode cX10_crowd 60 = .ok (.iload 4, 2) := by decide +kernel
theorem dX10_crowd_62 : decode cX10_crowd 62 = .ok (.if_icmp .eq 5, 3) := by decide +kernel
theorem dX10_crowd_65 : decode cX10_crowd 65 = .ok (.iload_n 3, 1) := by decide +kernel
theorem dX10_crowd_66 : decode cX10_crowd 66 = .ok (.istore_n 2, 1) := by decide +kernel
theorem dX10_crowd_67 : decode cX10_crowd 67 = .ok (.iinc 3 1, 3) := by decide +kernel
theorem dX10_crowd_70 : decode cX10_crowd 70 = .ok (.goto (-42), 3) := by decide +kernel
theorem dX10_crowd_73 : decode cX10_crowd 73 = .ok (.aload_n 0, 1) := by decide +kernel
theorem dX10_crowd_74 : decode cX10_crowd 74 = .ok (.iload_n 2, 1) := by decide +kernel
theorem dX10_crowd_75 : decode cX10_crowd 75 = .ok (.i2l, 1) := by decide +kernel
theorem dX10_crowd_76 : decode cX10_crowd 76 = .ok (.aload_n 0, 1) := by decide +kernel
theorem dX10_crowd_77 : decode cX10_crowd 77 = .ok (.getfield 62, 3) := by decide +kernel
theorem dX10_crowd_80 : decode cX10_crowd 80 = .ok (.getfield 145, 3) := by decide +kernel
theorem dX10_crowd_83 : decode cX10_crowd 83 = .ok (.invokestatic 228, 3) := by decide +kernel
theorem dX10_crowd_86 : decode cX10_crowd 86 = .ok (.i2l, 1) := by decide +kernel
theorem dX10_crowd_87 : decode cX10_crowd 87 = .ok (.invokevirtual 202, 3) := by decide +kernel
theorem dX10_crowd_90 : decode cX10_crowd 90 = .ok (.aload_n 0, 1) := by decide +kernel
theorem dX10_crowd_91 : decode cX10_crowd 91 = .ok (.getfield 62, 3) := by decide +kernel
theorem dX10_crowd_94 : decode cX10_crowd 94 = .ok (.getfield 145, 3) := by decide +kernel
theorem dX10_crowd_97 : decode cX10_crowd 97 = .ok (.ireturn, 1) := by decide +kernel
theorem dX10_swap_0 : decode cX10_swap 0 = .ok (.iconst (-1), 1) := by decide +kernel
theorem dX10_swap_1 : decode cX10_swap 1 = .ok (.istore_n 1, 1) := by decide +kernel
theorem dX10_swap_2 : decode cX10_swap 2 = .ok (.iconst 0, 1) := by decide +kernel
theorem dX10_swap_3 : decode cX10_swap 3 = .ok (.istore_n 2, 1) := by decide +kernel
theorem dX10_swap_4 : decode cX10_swap 4 = .ok (.iconst 0, 1) := by decide +kernel
theorem dX10_swap_5 : decode cX10_swap 5 = .ok (.istore_n 3, 1) := by decide +kernel
theorem dX10_swap_6 : decode cX10_swap 6 = .ok (.iconst 0, 1) := by decide +kernel
theorem dX10_swap_7 : decode cX10_swap 7 = .ok (.istore 4, 2) := by decide +kernel
theorem dX10_swap_9 : decode cX10_swap 9 = .ok (.iload 4, 2) := by decide +kernel
theorem dX10_swap_11 : decode cX10_swap 11 = .ok (.bipush 8, 2) := by decide +kernel
theorem dX10_swap_13 : decode cX10_swap 13 = .ok (.if_icmp .ge 123, 3) := by decide +kernel
theorem dX10_swap_16 : decode cX10_swap 16 = .ok (.iconst 0, 1) := by decide +kernel
theorem dX10_swap_17 : decode cX10_swap 17 = .ok (.istore 5, 2) := by decide +kernel
theorem dX10_swap_19 : decode cX10_swap 19 = .ok (.iload 5, 2) := by decide +kernel
theorem dX10_swap_21 : decode cX10_swap 21 = .ok (.bipush 8, 2) := by decide +kernel
theorem dX10_swap_23 : decode cX10_swap 23 = .ok (.if_icmp .ge 107, 3) := by decide +kernel
theorem dX10_swap_26 : decode cX10_swap 26 = .ok (.aload_n 0, 1) := by decide +kernel
theorem dX10_swap_27 : decode cX10_swap 27 = .ok (.getfield 58, 3) := by decide +kernel
theorem dX10_swap_30 : decode cX10_swap 30 = .ok (.iload 4, 2) := by decide +kernel
theorem dX10_swap_32 : decode cX10_swap 32 = .ok (.invokevirtual 138, 3) := by decide +kernel
theorem dX10_swap_35 : decode cX10_swap 35 = .ok (.ifCond .eq 34, 3) := by decide +kernel
theorem dX10_swap_38 : decode cX10_swap 38 = .ok (.aload_n 0, 1) := by decide +kernel
theorem dX10_swap_39 : decode cX10_swap 39 = .ok (.getfield 34, 3) := by decide +kernel
theorem dX10_swap_42 : decode cX10_swap 42 = .ok (.getfield 38, 3) := by decide +kernel
theorem dX10_swap_45 : decode cX10_swap 45 = .ok (.iload 5, 2) := by decide +kernel
theorem dX10_swap_47 : decode cX10_swap 47 = .ok (.invokevirtual 121, 3) := by decide +kernel
theorem dX10_swap_50 : decode cX10_swap 50 = .ok (.ifCond .eq 19, 3) := by decide +kernel
theorem dX10_swap_53 : decode cX10_swap 53 = .ok (.aload_n 0, 1) := by decide +kernel
theorem dX10_swap_54 : decode cX10_swap 54 = .ok (.getfield 58, 3) := by decide +kernel
theorem dX10_swap_57 : decode cX10_swap 57 = .ok (.iload 5, 2) := by decide +kernel
theorem dX10_swap_59 : decode cX10_swap 59 = .ok (.invokevirtual 138, 3) := by decide +kernel
theorem dX10_swap_62 : decode cX10_swap 62 = .ok (.ifCond .ne 7, 3) := by decide +kernel
theorem dX10_swap_65 : decode cX10_swap 65 = .ok (.iconst 1, 1) := by decide +kernel
theorem dX10_swap_66 : decode cX10_swap 66 = .ok (.goto 4, 3) := by decide +kernel
theorem dX10_swap_69 : decode cX10_swap 69 = .ok (.iconst 0, 1) := by decide +kernel
theorem dX10_swap_70 : decode cX10_swap 70 = .ok (.istore 6, 2) := by decide +kernel
theorem dX10_swap_72 : decode cX10_swap 72 = .ok (.iload 6, 2) := by decide +kernel
theorem dX10_swap_74 : decode cX10_swap 74 = .ok (.ifCond .eq 32, 3) := by decide +kernel
theorem dX10_swap_77 : decode cX10_swap 77 = .ok (.aload_n 0, 1) := by decide +kernel
theorem dX10_swap_78 : decode cX10_swap 78 = .ok (.aload_n 0, 1) := by decide +kernel
theorem dX10_swap_79 : decode cX10_swap 79 = .ok (.getfield 58, 3) := by decide +kernel
theorem dX10_swap_82 : decode cX10_swap 82 = .ok (.getfield 148, 3) := by decide +kernel
theorem dX10_swap_85 : decode cX10_swap 85 = .ok (.iconst 1, 1) := by decide +kernel
theorem dX10_swap_86 : decode cX10_swap 86 = .ok (.iload 4, 2) := by decide +kernel
theorem dX10_swap_88 : decode cX10_swap 88 = .ok (.ishl, 1) := by decide +kernel
theorem dX10_swap_89 : decode cX10_swap 89 = .ok (.iconst (-1), 1) := by decide +kernel
theorem dX10_swap_90 : decode cX10_swap 90 = .ok (.ixor, 1) := by decide +kernel
theorem dX10_swap_91 : decode cX10_swap 91 = .ok (.iand, 1) := by decide +kernel
theorem dX10_swap_92 : decode cX10_swap 92 = .ok (.iconst 1, 1) := by decide +kernel
theorem dX10_swap_93 : decode cX10_swap 93 = .ok (.iload 5, 2) := by decide +kernel
theorem dX10_swap_95 : decode cX10_swap 95 = .ok (.ishl, 1) := by decide +kernel
theorem dX10_swap_96 : decode cX10_swap 96 = .ok (.ior, 1) := by decide +kernel
theorem dX10_swap_97 : decode cX10_swap 97 = .ok (.sipush 999, 3) := by decide +kernel
theorem dX10_swap_100 : decode cX10_swap 100 = .ok (.invokevirtual 275, 3) := by decide +kernel
theorem dX10_swap_103 : decode cX10_swap 103 = .ok (.goto 4, 3) := by decide +kernel
theorem dX10_swap_106 : decode cX10_swap 106 = .ok (.iconst (-1), 1) := by decide +kernel
theorem dX10_swap_107 : decode cX10_swap 107 = .ok (.istore 7, 2) := by decide +kernel
theorem dX10_swap_109 : decode cX10_swap 109 = .ok (.iload 7, 2) := by decide +kernel
theorem dX10_swap_111 : decode cX10_swap 111 = .ok (.iload_n 1, 1) := by decide +kernel
theorem dX10_swap_112 : decode cX10_swap 112 = .ok (.if_icmp .le 12, 3) := by decide +kernel
theorem dX10_swap_115 : decode cX10_swap 115 = .ok (.iload 7, 2) := by decide +kernel
theorem dX10_swap_117 : decode cX10_swap 117 = .ok (.istore_n 1, 1) := by decide +kernel
theorem dX10_swap_118 : decode cX10_swap 118 = .ok (.iload 4, 2) := by decide +kernel
theorem dX10_swap_120 : decode cX10_swap 120 = .ok (.istore_n 2, 1) := by decide +kernel
theorem dX10_swap_121 : decode cX10_swap 121 = .ok (.iload 5, 2) := by decide +kernel
theorem dX10_swap_123 : decode cX10_swap 123 = .ok (.istore_n 3, 1) := by decide +kernel
theorem dX10_swap_124 : decode cX10_swap 124 = .ok (.iinc 5 1, 3) := by decide +kernel
theorem dX10_swap_127 : decode cX10_swap 127 = .ok (.goto (-108), 3) := by decide +kernel
theorem dX10_swap_130 : decode cX10_swap 130 = .ok (.iinc 4 1, 3) := by decide +kernel
theorem dX10_swap_133 : decode cX10_swap 133 = .ok (.goto (-124), 3) := by decide +kernel
theorem dX10_swap_136 : decode cX10_swap 136 = .ok (.iload_n 1, 1) := by decide +kernel
theorem dX10_swap_137 : decode cX10_swap 137 = .ok (.ifCond .ge 6, 3) := by decide +kernel
theorem dX10_swap_140 : decode cX10_swap 140 = .ok (.bipush (-2), 2) := by decide +kernel
theorem dX10_swap_142 : decode cX10_swap 142 = .ok (.ireturn, 1) := by decide +kernel
theorem dX10_swap_143 : decode cX10_swap 143 = .ok (.aload_n 0, 1) := by decide +kernel
theorem dX10_swap_144 : decode cX10_swap 144 = .ok (.iload_n 2, 1) := by decide +kernel
theorem dX10_swap_145 : decode cX10_swap 145 = .ok (.i2l, 1) := by decide +kernel
theorem dX10_swap_146 : decode cX10_swap 146 = .ok (.iload_n 3, 1) := by decide +kernel
theorem dX10_swap_147 : decode cX10_swap 147 = .ok (.i2l, 1) := by decide +kernel
theorem dX10_swap_148 : decode cX10_swap 148 = .ok (.invokevirtual 202, 3) := by decide +kernel
theorem dX10_swap_151 : decode cX10_swap 151 = .ok (.iload_n 1, 1) := by decide +kernel
theorem dX10_swap_152 : decode cX10_swap 152 = .ok (.ireturn, 1) := by decide +kernel
theorem dX10_ready_0 : decode cX10_ready 0 = .ok (.aload_n 0, 1) := by decide +kernel
theorem dX10_ready_1 : decode cX10_ready 1 = .ok (.getfield 34, 3) := by decide +kernel
theorem dX10_ready_4 : decode cX10_ready 4 = .ok (.getfield 38, 3) := by decide +kernel
theorem dX10_ready_7 : decode cX10_ready 7 = .ok (.iload_n 1, 1) := by decide +kernel
theorem dX10_ready_8 : decode cX10_ready 8 = .ok (.invokevirtual 121, 3) := by decide +kernel
theorem dX10_ready_11 : decode cX10_ready 11 = .ok (.ifCond .eq 14, 3) := by decide +kernel
theorem dX10_ready_14 : decode cX10_ready 14 = .ok (.iload_n 2, 1) := by decide +kernel
theorem dX10_ready_15 : decode cX10_ready 15 = .ok (.iconst 1, 1) := by decide +kernel
theorem dX10_ready_16 : decode cX10_ready 16 = .ok (.if_icmp .lt 9, 3) := by decide +kernel
theorem dX10_ready_19 : decode cX10_ready 19 = .ok (.iload_n 2, 1) := by decide +kernel
theorem dX10_ready_20 : decode cX10_ready 20 = .ok (.bipush 60, 2) := by decide +kernel
theorem dX10_ready_22 : decode cX10_ready 22 = .ok (.if_icmp .le 5, 3) := by decide +kernel
theorem dX10_ready_25 : decode cX10_ready 25 = .ok (.iconst (-1), 1) := by decide +kernel
theorem dX10_ready_26 : decode cX10_ready 26 = .ok (.ireturn, 1) := by decide +kernel
theorem dX10_ready_27 : decode cX10_ready 27 = .ok (.aload_n 0, 1) := by decide +kernel
theorem dX10_ready_28 : decode cX10_ready 28 = .ok (.getfield 65, 3) := by decide +kernel
theorem dX10_ready_31 : decode cX10_ready 31 = .ok (.aload_n 0, 1) := by decide +kernel
theorem dX10_ready_32 : decode cX10_ready 32 = .ok (.getfield 58, 3) := by decide +kernel
theorem dX10_ready_35 : decode cX10_ready 35 = .ok (.invokevirtual 180, 3) := by decide +kernel
theorem dX10_ready_38 : decode cX10_ready 38 = .ok (.aload_n 0, 1) := by decide +kernel
theorem dX10_ready_39 : decode cX10_ready 39 = .ok (.getfield 65, 3) := by decide +kernel
theorem dX10_ready_42 : decode cX10_ready 42 = .ok (.dup, 1) := by decide +kernel
theorem dX10_ready_43 : decode cX10_ready 43 = .ok (.getfield 148, 3) := by decide +kernel
theorem dX10_ready_46 : decode cX10_ready 46 = .ok (.iconst 1, 1) := by decide +kernel
theorem dX10_ready_47 : decode cX10_ready 47 = .ok (.iload_n 1, 1) := by decide +kernel
theorem dX10_ready_48 : decode cX10_ready 48 = .ok (.ishl, 1) := by decide +kernel
theorem dX10_ready_49 : decode cX10_ready 49 = .ok (.iconst (-1), 1) := by decide +kernel
theorem dX10_ready_50 : decode cX10_ready 50 = .ok (.ixor, 1) := by decide +kernel
theorem dX10_ready_51 : decode cX10_ready 51 = .ok (.iand, 1) := by decide +kernel
theorem dX10_ready_52 : decode cX10_ready 52 = .ok (.putfield 148, 3) := by decide +kernel
theorem dX10_ready_55 : decode cX10_ready 55 = .ok (.iconst 0, 1) := by decide +kernel
theorem dX10_ready_56 : decode cX10_ready 56 = .ok (.istore_n 3, 1) := by decide +kernel
theorem dX10_ready_57 : decode cX10_ready 57 = .ok (.iload_n 3, 1) := by decide +kernel
theorem dX10_ready_58 : decode cX10_ready 58 = .ok (.bipush 120, 2) := by decide +kernel
theorem dX10_ready_60 : decode cX10_ready 60 = .ok (.if_icmp .gt 73, 3) := by decide +kernel
theorem dX10_ready_63 : decode cX10_ready 63 = .ok (.aload_n 0, 1) := by decide +kernel
theorem dX10_ready_64 : decode cX10_ready 64 = .ok (.getfield 62, 3) := by decide +kernel
theorem dX10_ready_67 : decode cX10_ready 67 = .ok (.aload_n 0, 1) := by decide +kernel
theorem dX10_ready_68 : decode cX10_ready 68 = .ok (.getfield 65, 3) := by decide +kernel
theorem dX10_ready_71 : decode cX10_ready 71 = .ok (.invokevirtual 180, 3) := by decide +kernel
theorem dX10_ready_74 : decode cX10_ready 74 = .ok (.aload_n 0, 1) := by decide +kernel
theorem dX10_ready_75 : decode cX10_ready 75 = .ok (.getfield 62, 3) := by decide +kernel
theorem dX10_ready_78 : decode cX10_ready 78 = .ok (.iconst 1, 1) := by decide +kernel
theorem dX10_ready_79 : decode cX10_ready 79 = .ok (.iload_n 1, 1) := by decide +kernel
theorem dX10_ready_80 : decode cX10_ready 80 = .ok (.ishl, 1) := by decide +kernel
theorem dX10_ready_81 : decode cX10_ready 81 = .ok (.putfield 148, 3) := by decide +kernel
theorem dX10_ready_84 : decode cX10_ready 84 = .ok (.aload_n 0, 1) := by decide +kernel
theorem dX10_ready_85 : decode cX10_ready 85 = .ok (.getfield 34, 3) := by decide +kernel
theorem dX10_ready_88 : decode cX10_ready 88 = .ok (.aload_n 0, 1) := by decide +kernel
theorem dX10_ready_89 : decode cX10_ready 89 = .ok (.getfield 62, 3) := by decide +kernel
theorem dX10_ready_92 : decode cX10_ready 92 = .ok (.iload_n 2, 1) := by decide +kernel
theorem dX10_ready_93 : decode cX10_ready 93 = .ok (.invokevirtual 257, 3) := by decide +kernel
theorem dX10_ready_96 : decode cX10_ready 96 = .ok (.iload_n 2, 1) := by decide +kernel
theorem dX10_ready_97 : decode cX10_ready 97 = .ok (.if_icmp .ne 18, 3) := by decide +kernel
theorem dX10_ready_100 : decode cX10_ready 100 = .ok (.aload_n 0, 1) := by decide +kernel
theorem dX10_ready_101 : decode cX10_ready 101 = .ok (.aload_n 0, 1) := by decide +kernel
theorem dX10_ready_102 : decode cX10_ready 102 = .ok (.getfield 65, 3) := by decide +kernel
theorem dX10_ready_105 : decode cX10_ready 105 = .ok (.iload_n 1, 1) := by decide +kernel
theorem dX10_ready_106 : decode cX10_ready 106 = .ok (.invokevirtual 135, 3) := by decide +kernel
theorem dX10_ready_109 : decode cX10_ready 109 = .ok (.i2l, 1) := by decide +kernel
theorem dX10_ready_110 : decode cX10_ready 110 = .ok (.invokevirtual 263, 3) := by decide +kernel
theorem dX10_ready_113 : decode cX10_ready 113 = .ok (.iload_n 3, 1) := by decide +kernel
theorem dX10_ready_114 : decode cX10_ready 114 = .ok (.ireturn, 1) := by decide +kernel
theorem dX10_ready_115 : decode cX10_ready 115 = .ok (.aload_n 0, 1) := by decide +kernel
theorem dX10_ready_116 : decode cX10_ready 116 = .ok (.getfield 34, 3) := by decide +kernel
theorem dX10_ready_119 : decode cX10_ready 119 = .ok (.aload_n 0, 1) := by decide +kernel
theorem dX10_ready_120 : decode cX10_ready 120 = .ok (.getfield 65, 3) := by decide +kernel
theorem dX10_ready_123 : decode cX10_ready 123 = .ok (.invokevirtual 253, 3) := by decide +kernel
theorem dX10_ready_126 : decode cX10_ready 126 = .ok (.pop, 1) := by decide +kernel
theorem dX10_ready_127 : decode cX10_ready 127 = .ok (.iinc 3 1, 3) := by decide +kernel
theorem dX10_ready_130 : decode cX10_ready 130 = .ok (.goto (-73), 3) := by decide +kernel
theorem dX10_ready_133 : decode cX10_ready 133 = .ok (.bipush (-2), 2) := by decide +kernel
theorem dX10_ready_135 : decode cX10_ready 135 = .ok (.ireturn, 1) := by decide +kernel
theorem dX10_rota_0 : decode cX10_rota 0 = .ok (.aload_n 0, 1) := by decide +kernel
theorem dX10_rota_1 : decode cX10_rota 1 = .ok (.iload_n 1, 1) := by decide +kernel
theorem dX10_rota_2 : decode cX10_rota 2 = .ok (.iload_n 2, 1) := by decide +kernel
theorem dX10_rota_3 : decode cX10_rota 3 = .ok (.iconst 1, 1) := by decide +kernel
theorem dX10_rota_4 : decode cX10_rota 4 = .ok (.invokevirtual 278, 3) := by decide +kernel
theorem dX10_rota_7 : decode cX10_rota 7 = .ok (.ireturn, 1) := by decide +kernel
theorem dX10_cheapest_0 : decode cX10_cheapest 0 = .ok (.aload_n 0, 1) := by decide +kernel
theorem dX10_cheapest_1 : decode cX10_cheapest 1 = .ok (.iload_n 1, 1) := by decide +kernel
theorem dX10_cheapest_2 : decode cX10_cheapest 2 = .ok (.iload_n 2, 1) := by decide +kernel
theorem dX10_cheapest_3 : decode cX10_cheapest 3 = .ok (.iconst 2, 1) := by decide +kernel
theorem dX10_cheapest_4 : decode cX10_cheapest 4 = .ok (.invokevirtual 278, 3) := by decide +kernel
theorem dX10_cheapest_7 : decode cX10_cheapest 7 = .ok (.ireturn, 1) := by decide +kernel
theorem dX10_bestRota_0 : decode cX10_bestRota 0 = .ok (.iload_n 1, 1) := by decide +kernel
theorem dX10_bestRota_1 : decode cX10_bestRota 1 = .ok (.iconst 1, 1) := by decide +kernel
theorem dX10_bestRota_2 : decode cX10_bestRota 2 = .ok (.if_icmp .lt 19, 3) := by decide +kernel
theorem dX10_bestRota_5 : decode cX10_bestRota 5 = .ok (.iload_n 1, 1) := by decide +kernel
theorem dX10_bestRota_6 : decode cX10_bestRota 6 = .ok (.iconst 4, 1) := by decide +kernel
theorem dX10_bestRota_7 : decode cX10_bestRota 7 = .ok (.if_icmp .gt 14, 3) := by decide +kernel
theorem dX10_bestRota_10 : decode cX10_bestRota 10 = .ok (.iload_n 2, 1) := by decide +kernel
theorem dX10_bestRota_11 : decode cX10_bestRota 11 = .ok (.iconst 1, 1) := by decide +kernel
theorem dX10_bestRota_12 : decode cX10_bestRota 12 = .ok (.if_icmp .lt 9, 3) := by decide +kernel
theorem dX10_bestRota_15 : decode cX10_bestRota 15 = .ok (.iload_n 2, 1) := by decide +kernel
theorem dX10_bestRota_16 : decode cX10_bestRota 16 = .ok (.bipush 20, 2) := by decide +kernel
theorem dX10_bestRota_18 : decode cX10_bestRota 18 = .ok (.if_icmp .le 5, 3) := by decide +kernel
theorem dX10_bestRota_21 : decode cX10_bestRota 21 = .ok (.iconst (-1), 1) := by decide +kernel
theorem dX10_bestRota_22 : decode cX10_bestRota 22 = .ok (.ireturn, 1) := by decide +kernel
theorem dX10_bestRota_23 : decode cX10_bestRota 23 = .ok (.aload_n 0, 1) := by decide +kernel
theorem dX10_bestRota_24 : decode cX10_bestRota 24 = .ok (.getfield 86, 3) := by decide +kernel
theorem dX10_bestRota_27 : decode cX10_bestRota 27 = .ok (.aload_n 0, 1) := by decide +kernel
theorem dX10_bestRota_28 : decode cX10_bestRota 28 = .ok (.getfield 34, 3) := by decide +kernel
theorem dX10_bestRota_31 : decode cX10_bestRota 31 = .ok (.aload_n 0, 1) := by decide +kernel
theorem dX10_bestRota_32 : decode cX10_bestRota 32 = .ok (.getfield 58, 3) := by decide +kernel
theorem dX10_bestRota_35 : decode cX10_bestRota 35 = .ok (.iload_n 1, 1) := by decide +kernel
theorem dX10_bestRota_36 : decode cX10_bestRota 36 = .ok (.iload_n 2, 1) := by decide +kernel
theorem dX10_bestRota_37 : decode cX10_bestRota 37 = .ok (.iload_n 3, 1) := by decide +kernel
theorem dX10_bestRota_38 : decode cX10_bestRota 38 = .ok (.invokevirtual 282, 3) := by decide +kernel
theorem dX10_bestRota_41 : decode cX10_bestRota 41 = .ok (.istore 4, 2) := by decide +kernel
theorem dX10_bestRota_43 : decode cX10_bestRota 43 = .ok (.iload 4, 2) := by decide +kernel
theorem dX10_bestRota_45 : decode cX10_bestRota 45 = .ok (.ifCond .ge 6, 3) := by decide +kernel
theorem dX10_bestRota_48 : decode cX10_bestRota 48 = .ok (.bipush (-2), 2) := by decide +kernel
theorem dX10_bestRota_50 : decode cX10_bestRota 50 = .ok (.ireturn, 1) := by decide +kernel
theorem dX10_bestRota_51 : decode cX10_bestRota 51 = .ok (.aload_n 0, 1) := by decide +kernel
theorem dX10_bestRota_52 : decode cX10_bestRota 52 = .ok (.iload_n 1, 1) := by decide +kernel
theorem dX10_bestRota_53 : decode cX10_bestRota 53 = .ok (.invokevirtual 286, 3) := by decide +kernel
theorem dX10_bestRota_56 : decode cX10_bestRota 56 = .ok (.iload 4, 2) := by decide +kernel
theorem dX10_bestRota_58 : decode cX10_bestRota 58 = .ok (.ireturn, 1) := by decide +kernel
theorem dX10_longest_0 : decode cX10_longest 0 = .ok (.iload_n 1, 1) := by decide +kernel
theorem dX10_longest_1 : decode cX10_longest 1 = .ok (.iconst 1, 1) := by decide +kernel
theorem dX10_longest_2 : decode cX10_longest 2 = .ok (.if_icmp .lt 8, 3) := by decide +kernel
theorem dX10_longest_5 : decode cX10_longest 5 = .ok (.iload_n 1, 1) := by decide +kernel
theorem dX10_longest_6 : decode cX10_longest 6 = .ok (.iconst 3, 1) := by decide +kernel
theorem dX10_longest_7 : decode cX10_longest 7 = .ok (.if_icmp .le 5, 3) := by decide +kernel
theorem dX10_longest_10 : decode cX10_longest 10 = .ok (.iconst (-1), 1) := by decide +kernel
theorem dX10_longest_11 : decode cX10_longest 11 = .ok (.ireturn, 1) := by decide +kernel
theorem dX10_longest_12 : decode cX10_longest 12 = .ok (.bipush 20, 2) := by decide +kernel
theorem dX10_longest_14 : decode cX10_longest 14 = .ok (.istore_n 2, 1) := by decide +kernel
theorem dX10_longest_15 : decode cX10_longest 15 = .ok (.iload_n 2, 1) := by decide +kernel
theorem dX10_longest_16 : decode cX10_longest 16 = .ok (.iconst 1, 1) := by decide +kernel
theorem dX10_longest_17 : decode cX10_longest 17 = .ok (.if_icmp .lt 37, 3) := by decide +kernel
theorem dX10_longest_20 : decode cX10_longest 20 = .ok (.aload_n 0, 1) := by decide +kernel
theorem dX10_longest_21 : decode cX10_longest 21 = .ok (.getfield 86, 3) := by decide +kernel
theorem dX10_longest_24 : decode cX10_longest 24 = .ok (.aload_n 0, 1) := by decide +kernel
theorem dX10_longest_25 : decode cX10_longest 25 = .ok (.getfield 34, 3) := by decide +kernel
theorem dX10_longest_28 : decode cX10_longest 28 = .ok (.aload_n 0, 1) := by decide +kernel
theorem dX10_longest_29 : decode cX10_longest 29 = .ok (.getfield 58, 3) := by decide +kernel
theorem dX10_longest_32 : decode cX10_longest 32 = .ok (.iload_n 1, 1) := by decide +kernel
theorem dX10_longest_33 : decode cX10_longest 33 = .ok (.iload_n 2, 1) := by decide +kernel
theorem dX10_longest_34 : decode cX10_longest 34 = .ok (.iconst 0, 1) := by decide +kernel
theorem dX10_longest_35 : decode cX10_longest 35 = .ok (.invokevirtual 282, 3) := by decide +kernel
theorem dX10_longest_38 : decode cX10_longest 38 = .ok (.ifCond .lt 10, 3) := by decide +kernel
theorem dX10_longest_41 : decode cX10_longest 41 = .ok (.aload_n 0, 1) := by decide +kernel
theorem dX10_longest_42 : decode cX10_longest 42 = .ok (.iload_n 1, 1) := by decide +kernel
theorem dX10_longest_43 : decode cX10_longest 43 = .ok (.invokevirtual 286, 3) := by decide +kernel
theorem dX10_longest_46 : decode cX10_longest 46 = .ok (.iload_n 2, 1) := by decide +kernel
theorem dX10_longest_47 : decode cX10_longest 47 = .ok (.ireturn, 1) := by decide +kernel
theorem dX10_longest_48 : decode cX10_longest 48 = .ok (.iinc 2 (-1), 3) := by decide +kernel
theorem dX10_longest_51 : decode cX10_longest 51 = .ok (.goto (-36), 3) := by decide +kernel
theorem dX10_longest_54 : decode cX10_longest 54 = .ok (.bipush (-2), 2) := by decide +kernel
theorem dX10_longest_56 : decode cX10_longest 56 = .ok (.ireturn, 1) := by decide +kernel
theorem dX10_tellRota_0 : decode cX10_tellRota 0 = .ok (.aload_n 0, 1) := by decide +kernel
theorem dX10_tellRota_1 : decode cX10_tellRota 1 = .ok (.getfield 19, 3) := by decide +kernel
theorem dX10_tellRota_4 : decode cX10_tellRota 4 = .ok (.invokevirtual 289, 3) := by decide +kernel
theorem dX10_tellRota_7 : decode cX10_tellRota 7 = .ok (.iconst 0, 1) := by decide +kernel
theorem dX10_tellRota_8 : decode cX10_tellRota 8 = .ok (.istore_n 2, 1) := by decide +kernel
theorem dX10_tellRota_9 : decode cX10_tellRota 9 = .ok (.iload_n 2, 1) := by decide +kernel
theorem dX10_tellRota_10 : decode cX10_tellRota 10 = .ok (.iload_n 1, 1) := by decide +kernel
theorem dX10_tellRota_11 : decode cX10_tellRota 11 = .ok (.if_icmp .ge 25, 3) := by decide +kernel
theorem dX10_tellRota_14 : decode cX10_tellRota 14 = .ok (.aload_n 0, 1) := by decide +kernel
theorem dX10_tellRota_15 : decode cX10_tellRota 15 = .ok (.getfield 19, 3) := by decide +kernel
theorem dX10_tellRota_18 : decode cX10_tellRota 18 = .ok (.aload_n 0, 1) := by decide +kernel
theorem dX10_tellRota_19 : decode cX10_tellRota 19 = .ok (.getfield 86, 3) := by decide +kernel
theorem dX10_tellRota_22 : decode cX10_tellRota 22 = .ok (.iload_n 2, 1) := by decide +kernel
theorem dX10_tellRota_23 : decode cX10_tellRota 23 = .ok (.invokevirtual 290, 3) := by decide +kernel
theorem dX10_tellRota_26 : decode cX10_tellRota 26 = .ok (.i2l, 1) := by decide +kernel
theorem dX10_tellRota_27 : decode cX10_tellRota 27 = .ok (.invokevirtual 293, 3) := by decide +kernel
theorem dX10_tellRota_30 : decode cX10_tellRota 30 = .ok (.iinc 2 1, 3) := by decide +kernel
theorem dX10_tellRota_33 : decode cX10_tellRota 33 = .ok (.goto (-24), 3) := by decide +kernel
theorem dX10_tellRota_36 : decode cX10_tellRota 36 = .ok (.return_, 1) := by decide +kernel
theorem dX10_change_0 : decode cX10_change 0 = .ok (.iload_n 1, 1) := by decide +kernel
theorem dX10_change_1 : decode cX10_change 1 = .ok (.ifCond .lt 9, 3) := by decide +kernel
theorem dX10_change_4 : decode cX10_change 4 = .ok (.iload_n 1, 1) := by decide +kernel
theorem dX10_change_5 : decode cX10_change 5 = .ok (.bipush 30, 2) := by decide +kernel
theorem dX10_change_7 : decode cX10_change 7 = .ok (.if_icmp .le 5, 3) := by decide +kernel
theorem dX10_change_10 : decode cX10_change 10 = .ok (.iconst (-1), 1) := by decide +kernel
theorem dX10_change_11 : decode cX10_change 11 = .ok (.ireturn, 1) := by decide +kernel
theorem dX10_change_12 : decode cX10_change 12 = .ok (.aload_n 0, 1) := by decide +kernel
theorem dX10_change_13 : decode cX10_change 13 = .ok (.getfield 62, 3) := by decide +kernel
theorem dX10_change_16 : decode cX10_change 16 = .ok (.aload_n 0, 1) := by decide +kernel
theorem dX10_change_17 : decode cX10_change 17 = .ok (.getfield 58, 3) := by decide +kernel
theorem dX10_change_20 : decode cX10_change 20 = .ok (.invokevirtual 180, 3) := by decide +kernel
theorem dX10_change_23 : decode cX10_change 23 = .ok (.iconst 0, 1) := by decide +kernel
theorem dX10_change_24 : decode cX10_change 24 = .ok (.istore_n 2, 1) := by decide +kernel
theorem dX10_change_25 : decode cX10_change 25 = .ok (.iload_n 2, 1) := by decide +kernel
theorem dX10_change_26 : decode cX10_change 26 = .ok (.sipush 999, 3) := by decide +kernel
theorem dX10_change_29 : decode cX10_change 29 = .ok (.if_icmp .gt 59, 3) := by decide +kernel
theorem dX10_change_32 : decode cX10_change 32 = .ok (.aload_n 0, 1) := by decide +kernel
theorem dX10_change_33 : decode cX10_change 33 = .ok (.getfield 62, 3) := by decide +kernel
theorem dX10_change_36 : decode cX10_change 36 = .ok (.getfield 260, 3) := by decide +kernel
theorem dX10_change_39 : decode cX10_change 39 = .ok (.aload_n 0, 1) := by decide +kernel
theorem dX10_change_40 : decode cX10_change 40 = .ok (.getfield 34, 3) := by decide +kernel
theorem dX10_change_43 : decode cX10_change 43 = .ok (.getfield 157, 3) := by decide +kernel
theorem dX10_change_46 : decode cX10_change 46 = .ok (.if_icmp .gt 22, 3) := by decide +kernel
theorem dX10_change_49 : decode cX10_change 49 = .ok (.aload_n 0, 1) := by decide +kernel
theorem dX10_change_50 : decode cX10_change 50 = .ok (.getfield 62, 3) := by decide +kernel
theorem dX10_change_53 : decode cX10_change 53 = .ok (.getfield 260, 3) := by decide +kernel
theorem dX10_change_56 : decode cX10_change 56 = .ok (.iload_n 1, 1) := by decide +kernel
theorem dX10_change_57 : decode cX10_change 57 = .ok (.iadd, 1) := by decide +kernel
theorem dX10_change_58 : decode cX10_change 58 = .ok (.aload_n 0, 1) := by decide +kernel
theorem dX10_change_59 : decode cX10_change 59 = .ok (.getfield 34, 3) := by decide +kernel
theorem dX10_change_62 : decode cX10_change 62 = .ok (.getfield 157, 3) := by decide +kernel
theorem dX10_change_65 : decode cX10_change 65 = .ok (.if_icmp .gt 5, 3) := by decide +kernel
theorem dX10_change_68 : decode cX10_change 68 = .ok (.iload_n 2, 1) := by decide +kernel
theorem dX10_change_69 : decode cX10_change 69 = .ok (.ireturn, 1) := by decide +kernel
theorem dX10_change_70 : decode cX10_change 70 = .ok (.aload_n 0, 1) := by decide +kernel
theorem dX10_change_71 : decode cX10_change 71 = .ok (.getfield 34, 3) := by decide +kernel
theorem dX10_change_74 : decode cX10_change 74 = .ok (.aload_n 0, 1) := by decide +kernel
theorem dX10_change_75 : decode cX10_change 75 = .ok (.getfield 62, 3) := by decide +kernel
theorem dX10_change_78 : decode cX10_change 78 = .ok (.invokevirtual 253, 3) := by decide +kernel
theorem dX10_change_81 : decode cX10_change 81 = .ok (.pop, 1) := by decide +kernel
theorem dX10_change_82 : decode cX10_change 82 = .ok (.iinc 2 1, 3) := by decide +kernel
theorem dX10_change_85 : decode cX10_change 85 = .ok (.goto (-60), 3) := by decide +kernel
theorem dX10_change_88 : decode cX10_change 88 = .ok (.bipush (-2), 2) := by decide +kernel
theorem dX10_change_90 : decode cX10_change 90 = .ok (.ireturn, 1) := by decide +kernel
theorem dX10_doubts_0 : decode cX10_doubts 0 = .ok (.iload_n 1, 1) := by decide +kernel
theorem dX10_doubts_1 : decode cX10_doubts 1 = .ok (.ifCond .lt 9, 3) := by decide +kernel
theorem dX10_doubts_4 : decode cX10_doubts 4 = .ok (.iload_n 1, 1) := by decide +kernel
theorem dX10_doubts_5 : decode cX10_doubts 5 = .ok (.bipush 9, 2) := by decide +kernel
theorem dX10_doubts_7 : decode cX10_doubts 7 = .ok (.if_icmp .le 5, 3) := by decide +kernel
theorem dX10_doubts_10 : decode cX10_doubts 10 = .ok (.iconst (-1), 1) := by decide +kernel
theorem dX10_doubts_11 : decode cX10_doubts 11 = .ok (.ireturn, 1) := by decide +kernel
theorem dX10_doubts_12 : decode cX10_doubts 12 = .ok (.aload_n 0, 1) := by decide +kernel
theorem dX10_doubts_13 : decode cX10_doubts 13 = .ok (.getfield 34, 3) := by decide +kernel
theorem dX10_doubts_16 : decode cX10_doubts 16 = .ok (.getfield 42, 3) := by decide +kernel
theorem dX10_doubts_19 : decode cX10_doubts 19 = .ok (.iload_n 1, 1) := by decide +kernel
theorem dX10_doubts_20 : decode cX10_doubts 20 = .ok (.invokevirtual 295, 3) := by decide +kernel
theorem dX10_doubts_23 : decode cX10_doubts 23 = .ok (.istore_n 2, 1) := by decide +kernel
theorem dX10_doubts_24 : decode cX10_doubts 24 = .ok (.aload_n 0, 1) := by decide +kernel
theorem dX10_doubts_25 : decode cX10_doubts 25 = .ok (.getfield 34, 3) := by decide +kernel
theorem dX10_doubts_28 : decode cX10_doubts 28 = .ok (.getfield 42, 3) := by decide +kernel
theorem dX10_doubts_31 : decode cX10_doubts 31 = .ok (.aload_n 0, 1) := by decide +kernel
theorem dX10_doubts_32 : decode cX10_doubts 32 = .ok (.getfield 58, 3) := by decide +kernel
theorem dX10_doubts_35 : decode cX10_doubts 35 = .ok (.getfield 145, 3) := by decide +kernel
theorem dX10_doubts_38 : decode cX10_doubts 38 = .ok (.iload_n 2, 1) := by decide +kernel
theorem dX10_doubts_39 : decode cX10_doubts 39 = .ok (.ior, 1) := by decide +kernel
theorem dX10_doubts_40 : decode cX10_doubts 40 = .ok (.invokevirtual 298, 3) := by decide +kernel
theorem dX10_doubts_43 : decode cX10_doubts 43 = .ok (.istore_n 3, 1) := by decide +kernel
theorem dX10_doubts_44 : decode cX10_doubts 44 = .ok (.aload_n 0, 1) := by decide +kernel
theorem dX10_doubts_45 : decode cX10_doubts 45 = .ok (.iload_n 3, 1) := by decide +kernel
theorem dX10_doubts_46 : decode cX10_doubts 46 = .ok (.invokestatic 228, 3) := by decide +kernel
theorem dX10_doubts_49 : decode cX10_doubts 49 = .ok (.i2l, 1) := by decide +kernel
theorem dX10_doubts_50 : decode cX10_doubts 50 = .ok (.iload_n 2, 1) := by decide +kernel
theorem dX10_doubts_51 : decode cX10_doubts 51 = .ok (.invokestatic 228, 3) := by decide +kernel
theorem dX10_doubts_54 : decode cX10_doubts 54 = .ok (.i2l, 1) := by decide +kernel
theorem dX10_doubts_55 : decode cX10_doubts 55 = .ok (.invokevirtual 202, 3) := by decide +kernel
theorem dX10_doubts_58 : decode cX10_doubts 58 = .ok (.iload_n 3, 1) := by decide +kernel
theorem dX10_doubts_59 : decode cX10_doubts 59 = .ok (.ireturn, 1) := by decide +kernel
theorem dX10_frees_0 : decode cX10_frees 0 = .ok (.iconst 0, 1) := by decide +kernel
theorem dX10_frees_1 : decode cX10_frees 1 = .ok (.istore_n 1, 1) := by decide +kernel
theorem dX10_frees_2 : decode cX10_frees 2 = .ok (.iload_n 1, 1) := by decide +kernel
theorem dX10_frees_3 : decode cX10_frees 3 = .ok (.bipush 9, 2) := by decide +kernel
theorem dX10_frees_5 : decode cX10_frees 5 = .ok (.if_icmp .gt 53, 3) := by decide +kernel
theorem dX10_frees_8 : decode cX10_frees 8 = .ok (.aload_n 0, 1) := by decide +kernel
theorem dX10_frees_9 : decode cX10_frees 9 = .ok (.getfield 34, 3) := by decide +kernel
theorem dX10_frees_12 : decode cX10_frees 12 = .ok (.getfield 42, 3) := by decide +kernel
theorem dX10_frees_15 : decode cX10_frees 15 = .ok (.aload_n 0, 1) := by decide +kernel
theorem dX10_frees_16 : decode cX10_frees 16 = .ok (.getfield 58, 3) := by decide +kernel
theorem dX10_frees_19 : decode cX10_frees 19 = .ok (.getfield 145, 3) := by decide +kernel
theorem dX10_frees_22 : decode cX10_frees 22 = .ok (.aload_n 0, 1) := by decide +kernel
theorem dX10_frees_23 : decode cX10_frees 23 = .ok (.getfield 34, 3) := by decide +kernel
theorem dX10_frees_26 : decode cX10_frees 26 = .ok (.getfield 42, 3) := by decide +kernel
theorem dX10_frees_29 : decode cX10_frees 29 = .ok (.iload_n 1, 1) := by decide +kernel
theorem dX10_frees_30 : decode cX10_frees 30 = .ok (.invokevirtual 295, 3) := by decide +kernel
theorem dX10_frees_33 : decode cX10_frees 33 = .ok (.ior, 1) := by decide +kernel
theorem dX10_frees_34 : decode cX10_frees 34 = .ok (.invokevirtual 298, 3) := by decide +kernel
theorem dX10_frees_37 : decode cX10_frees 37 = .ok (.aload_n 0, 1) := by decide +kernel
theorem dX10_frees_38 : decode cX10_frees 38 = .ok (.getfield 34, 3) := by decide +kernel
theorem dX10_frees_41 : decode cX10_frees 41 = .ok (.getfield 42, 3) := by decide +kernel
theorem dX10_frees_44 : decode cX10_frees 44 = .ok (.invokevirtual 272, 3) := by decide +kernel
theorem dX10_frees_47 : decode cX10_frees 47 = .ok (.if_icmp .ne 5, 3) := by decide +kernel
theorem dX10_frees_50 : decode cX10_frees 50 = .ok (.iload_n 1, 1) := by decide +kernel
theorem dX10_frees_51 : decode cX10_frees 51 = .ok (.ireturn, 1) := by decide +kernel
theorem dX10_frees_52 : decode cX10_frees 52 = .ok (.iinc 1 1, 3) := by decide +kernel
theorem dX10_frees_55 : decode cX10_frees 55 = .ok (.goto (-53), 3) := by decide +kernel
theorem dX10_frees_58 : decode cX10_frees 58 = .ok (.bipush (-2), 2) := by decide +kernel
theorem dX10_frees_60 : decode cX10_frees 60 = .ok (.ireturn, 1) := by decide +kernel
theorem dX10_persuade_0 : decode cX10_persuade 0 = .ok (.aload_n 0, 1) := by decide +kernel
theorem dX10_persuade_1 : decode cX10_persuade 1 = .ok (.getfield 34, 3) := by decide +kernel
theorem dX10_persuade_4 : decode cX10_persuade 4 = .ok (.getfield 42, 3) := by decide +kernel
theorem dX10_persuade_7 : decode cX10_persuade 7 = .ok (.invokevirtual 272, 3) := by decide +kernel
theorem dX10_persuade_10 : decode cX10_persuade 10 = .ok (.istore_n 1, 1) := by decide +kernel
theorem dX10_persuade_11 : decode cX10_persuade 11 = .ok (.iconst 0, 1) := by decide +kernel
theorem dX10_persuade_12 : decode cX10_persuade 12 = .ok (.istore_n 2, 1) := by decide +kernel
theorem dX10_persuade_13 : decode cX10_persuade 13 = .ok (.iload_n 2, 1) := by decide +kernel
theorem dX10_persuade_14 : decode cX10_persuade 14 = .ok (.aload_n 0, 1) := by decide +kernel
theorem dX10_persuade_15 : decode cX10_persuade 15 = .ok (.getfield 34, 3) := by decide +kernel
theorem dX10_persuade_18 : decode cX10_persuade 18 = .ok (.getfield 42, 3) := by decide +kernel
theorem dX10_persuade_21 : decode cX10_persuade 21 = .ok (.invokevirtual 272, 3) := by decide +kernel
theorem dX10_persuade_24 : decode cX10_persuade 24 = .ok (.if_icmp .gt 64, 3) := by decide +kernel
theorem dX10_persuade_27 : decode cX10_persuade 27 = .ok (.iload_n 2, 1) := by decide +kernel
theorem dX10_persuade_28 : decode cX10_persuade 28 = .ok (.invokestatic 228, 3) := by decide +kernel
theorem dX10_persuade_31 : decode cX10_persuade 31 = .ok (.iload_n 1, 1) := by decide +kernel
theorem dX10_persuade_32 : decode cX10_persuade 32 = .ok (.invokestatic 228, 3) := by decide +kernel
theorem dX10_persuade_35 : decode cX10_persuade 35 = .ok (.if_icmp .ge 7, 3) := by decide +kernel
theorem dX10_persuade_38 : decode cX10_persuade 38 = .ok (.iconst 1, 1) := by decide +kernel
theorem dX10_persuade_39 : decode cX10_persuade 39 = .ok (.goto 4, 3) := by decide +kernel
theorem dX10_persuade_42 : decode cX10_persuade 42 = .ok (.iconst 0, 1) := by decide +kernel
theorem dX10_persuade_43 : decode cX10_persuade 43 = .ok (.istore_n 3, 1) := by decide +kernel
theorem dX10_persuade_44 : decode cX10_persuade 44 = .ok (.iload_n 3, 1) := by decide +kernel
theorem dX10_persuade_45 : decode cX10_persuade 45 = .ok (.ifCond .eq 37, 3) := by decide +kernel
theorem dX10_persuade_48 : decode cX10_persuade 48 = .ok (.aload_n 0, 1) := by decide +kernel
theorem dX10_persuade_49 : decode cX10_persuade 49 = .ok (.getfield 34, 3) := by decide +kernel
theorem dX10_persuade_52 : decode cX10_persuade 52 = .ok (.getfield 42, 3) := by decide +kernel
theorem dX10_persuade_55 : decode cX10_persuade 55 = .ok (.aload_n 0, 1) := by decide +kernel
theorem dX10_persuade_56 : decode cX10_persuade 56 = .ok (.getfield 58, 3) := by decide +kernel
theorem dX10_persuade_59 : decode cX10_persuade 59 = .ok (.getfield 145, 3) := by decide +kernel
theorem dX10_persuade_62 : decode cX10_persuade 62 = .ok (.iload_n 2, 1) := by decide +kernel
theorem dX10_persuade_63 : decode cX10_persuade 63 = .ok (.ior, 1) := by decide +kernel
theorem dX10_persuade_64 : decode cX10_persuade 64 = .ok (.invokevirtual 298, 3) := by decide +kernel
theorem dX10_persuade_67 : decode cX10_persuade 67 = .ok (.aload_n 0, 1) := by decide +kernel
theorem dX10_persuade_68 : decode cX10_persuade 68 = .ok (.getfield 34, 3) := by decide +kernel
theorem dX10_persuade_71 : decode cX10_persuade 71 = .ok (.getfield 42, 3) := by decide +kernel
theorem dX10_persuade_74 : decode cX10_persuade 74 = .ok (.invokevirtual 272, 3) := by decide +kernel
theorem dX10_persuade_77 : decode cX10_persuade 77 = .ok (.if_icmp .ne 5, 3) := by decide +kernel
theorem dX10_persuade_80 : decode cX10_persuade 80 = .ok (.iload_n 2, 1) := by decide +kernel
theorem dX10_persuade_81 : decode cX10_persuade 81 = .ok (.istore_n 1, 1) := by decide +kernel
theorem dX10_persuade_82 : decode cX10_persuade 82 = .ok (.iinc 2 1, 3) := by decide +kernel
theorem dX10_persuade_85 : decode cX10_persuade 85 = .ok (.goto (-72), 3) := by decide +kernel
theorem dX10_persuade_88 : decode cX10_persuade 88 = .ok (.aload_n 0, 1) := by decide +kernel
theorem dX10_persuade_89 : decode cX10_persuade 89 = .ok (.iload_n 1, 1) := by decide +kernel
theorem dX10_persuade_90 : decode cX10_persuade 90 = .ok (.i2l, 1) := by decide +kernel
theorem dX10_persuade_91 : decode cX10_persuade 91 = .ok (.invokevirtual 263, 3) := by decide +kernel
theorem dX10_persuade_94 : decode cX10_persuade 94 = .ok (.iload_n 1, 1) := by decide +kernel
theorem dX10_persuade_95 : decode cX10_persuade 95 = .ok (.invokestatic 228, 3) := by decide +kernel
theorem dX10_persuade_98 : decode cX10_persuade 98 = .ok (.ireturn, 1) := by decide +kernel
theorem dX10_firm_0 : decode cX10_firm 0 = .ok (.iconst 0, 1) := by decide +kernel
theorem dX10_firm_1 : decode cX10_firm 1 = .ok (.istore_n 1, 1) := by decide +kernel
theorem dX10_firm_2 : decode cX10_firm 2 = .ok (.iconst 0, 1) := by decide +kernel
theorem dX10_firm_3 : decode cX10_firm 3 = .ok (.istore_n 2, 1) := by decide +kernel
theorem dX10_firm_4 : decode cX10_firm 4 = .ok (.iload_n 2, 1) := by decide +kernel
theorem dX10_firm_5 : decode cX10_firm 5 = .ok (.bipush 8, 2) := by decide +kernel
theorem dX10_firm_7 : decode cX10_firm 7 = .ok (.if_icmp .ge 61, 3) := by decide +kernel
theorem dX10_firm_10 : decode cX10_firm 10 = .ok (.aload_n 0, 1) := by decide +kernel
theorem dX10_firm_11 : decode cX10_firm 11 = .ok (.getfield 34, 3) := by decide +kernel
theorem dX10_firm_14 : decode cX10_firm 14 = .ok (.getfield 42, 3) := by decide +kernel
theorem dX10_firm_17 : decode cX10_firm 17 = .ok (.iload_n 2, 1) := by decide +kernel
theorem dX10_firm_18 : decode cX10_firm 18 = .ok (.invokevirtual 132, 3) := by decide +kernel
theorem dX10_firm_21 : decode cX10_firm 21 = .ok (.istore_n 3, 1) := by decide +kernel
theorem dX10_firm_22 : decode cX10_firm 22 = .ok (.aload_n 0, 1) := by decide +kernel
theorem dX10_firm_23 : decode cX10_firm 23 = .ok (.getfield 34, 3) := by decide +kernel
theorem dX10_firm_26 : decode cX10_firm 26 = .ok (.getfield 42, 3) := by decide +kernel
theorem dX10_firm_29 : decode cX10_firm 29 = .ok (.iload_n 2, 1) := by decide +kernel
theorem dX10_firm_30 : decode cX10_firm 30 = .ok (.invokevirtual 121, 3) := by decide +kernel
theorem dX10_firm_33 : decode cX10_firm 33 = .ok (.ifCond .eq 29, 3) := by decide +kernel
theorem dX10_firm_36 : decode cX10_firm 36 = .ok (.iload_n 3, 1) := by decide +kernel
theorem dX10_firm_37 : decode cX10_firm 37 = .ok (.ifCond .eq 19, 3) := by decide +kernel
theorem dX10_firm_40 : decode cX10_firm 40 = .ok (.iload_n 3, 1) := by decide +kernel
theorem dX10_firm_41 : decode cX10_firm 41 = .ok (.aload_n 0, 1) := by decide +kernel
theorem dX10_firm_42 : decode cX10_firm 42 = .ok (.getfield 34, 3) := by decide +kernel
theorem dX10_firm_45 : decode cX10_firm 45 = .ok (.getfield 42, 3) := by decide +kernel
theorem dX10_firm_48 : decode cX10_firm 48 = .ok (.getfield 301, 3) := by decide +kernel
theorem dX10_firm_51 : decode cX10_firm 51 = .ok (.iconst 1, 1) := by decide +kernel
theorem dX10_firm_52 : decode cX10_firm 52 = .ok (.isub, 1) := by decide +kernel
theorem dX10_firm_53 : decode cX10_firm 53 = .ok (.if_icmp .le 9, 3) := by decide +kernel
theorem dX10_firm_56 : decode cX10_firm 56 = .ok (.iload_n 1, 1) := by decide +kernel
theorem dX10_firm_57 : decode cX10_firm 57 = .ok (.iconst 1, 1) := by decide +kernel
theorem dX10_firm_58 : decode cX10_firm 58 = .ok (.iload_n 2, 1) := by decide +kernel
theorem dX10_firm_59 : decode cX10_firm 59 = .ok (.ishl, 1) := by decide +kernel
theorem dX10_firm_60 : decode cX10_firm 60 = .ok (.ior, 1) := by decide +kernel
theorem dX10_firm_61 : decode cX10_firm 61 = .ok (.istore_n 1, 1) := by decide +kernel
theorem dX10_firm_62 : decode cX10_firm 62 = .ok (.iinc 2 1, 3) := by decide +kernel
theorem dX10_firm_65 : decode cX10_firm 65 = .ok (.goto (-61), 3) := by decide +kernel
theorem dX10_firm_68 : decode cX10_firm 68 = .ok (.aload_n 0, 1) := by decide +kernel
theorem dX10_firm_69 : decode cX10_firm 69 = .ok (.iload_n 1, 1) := by decide +kernel
theorem dX10_firm_70 : decode cX10_firm 70 = .ok (.invokestatic 228, 3) := by decide +kernel
theorem dX10_firm_73 : decode cX10_firm 73 = .ok (.i2l, 1) := by decide +kernel
theorem dX10_firm_74 : decode cX10_firm 74 = .ok (.invokevirtual 263, 3) := by decide +kernel
theorem dX10_firm_77 : decode cX10_firm 77 = .ok (.iload_n 1, 1) := by decide +kernel
theorem dX10_firm_78 : decode cX10_firm 78 = .ok (.ireturn, 1) := by decide +kernel
theorem dX10_law_0 : decode cX10_law 0 = .ok (.aload_n 0, 1) := by decide +kernel
theorem dX10_law_1 : decode cX10_law 1 = .ok (.getfield 52, 3) := by decide +kernel
theorem dX10_law_4 : decode cX10_law 4 = .ok (.aload_n 0, 1) := by decide +kernel
theorem dX10_law_5 : decode cX10_law 5 = .ok (.getfield 10, 3) := by decide +kernel
theorem dX10_law_8 : decode cX10_law 8 = .ok (.invokevirtual 118, 3) := by decide +kernel
theorem dX10_law_11 : decode cX10_law 11 = .ok (.istore_n 1, 1) := by decide +kernel
theorem dX10_law_12 : decode cX10_law 12 = .ok (.aload_n 0, 1) := by decide +kernel
theorem dX10_law_13 : decode cX10_law 13 = .ok (.getfield 10, 3) := by decide +kernel
theorem dX10_law_16 : decode cX10_law 16 = .ok (.iconst 0, 1) := by decide +kernel
theorem dX10_law_17 : decode cX10_law 17 = .ok (.putfield 97, 3) := by decide +kernel
theorem dX10_law_20 : decode cX10_law 20 = .ok (.iload_n 1, 1) := by decide +kernel
theorem dX10_law_21 : decode cX10_law 21 = .ok (.ifCond .lt 9, 3) := by decide +kernel
theorem dX10_law_24 : decode cX10_law 24 = .ok (.sipush (-10000), 3) := by decide +kernel
theorem dX10_law_27 : decode cX10_law 27 = .ok (.iload_n 1, 1) := by decide +kernel
theorem dX10_law_28 : decode cX10_law 28 = .ok (.isub, 1) := by decide +kernel
theorem dX10_law_29 : decode cX10_law 29 = .ok (.ireturn, 1) := by decide +kernel
theorem dX10_law_30 : decode cX10_law 30 = .ok (.aload_n 0, 1) := by decide +kernel
theorem dX10_law_31 : decode cX10_law 31 = .ok (.getfield 49, 3) := by decide +kernel
theorem dX10_law_34 : decode cX10_law 34 = .ok (.aload_n 0, 1) := by decide +kernel
theorem dX10_law_35 : decode cX10_law 35 = .ok (.getfield 34, 3) := by decide +kernel
theorem dX10_law_38 : decode cX10_law 38 = .ok (.invokevirtual 302, 3) := by decide +kernel
theorem dX10_law_41 : decode cX10_law 41 = .ok (.aload_n 0, 1) := by decide +kernel
theorem dX10_law_42 : decode cX10_law 42 = .ok (.getfield 49, 3) := by decide +kernel
theorem dX10_law_45 : decode cX10_law 45 = .ok (.aload_n 0, 1) := by decide +kernel
theorem dX10_law_46 : decode cX10_law 46 = .ok (.getfield 52, 3) := by decide +kernel
theorem dX10_law_49 : decode cX10_law 49 = .ok (.putfield 45, 3) := by decide +kernel
theorem dX10_law_52 : decode cX10_law 52 = .ok (.aload_n 0, 1) := by decide +kernel
theorem dX10_law_53 : decode cX10_law 53 = .ok (.aload_n 0, 1) := by decide +kernel
theorem dX10_law_54 : decode cX10_law 54 = .ok (.getfield 49, 3) := by decide +kernel
theorem dX10_law_57 : decode cX10_law 57 = .ok (.invokevirtual 246, 3) := by decide +kernel
theorem dX10_law_60 : decode cX10_law 60 = .ok (.istore_n 2, 1) := by decide +kernel
theorem dX10_law_61 : decode cX10_law 61 = .ok (.aload_n 0, 1) := by decide +kernel
theorem dX10_law_62 : decode cX10_law 62 = .ok (.aload_n 0, 1) := by decide +kernel
theorem dX10_law_63 : decode cX10_law 63 = .ok (.getfield 34, 3) := by decide +kernel
theorem dX10_law_66 : decode cX10_law 66 = .ok (.invokevirtual 246, 3) := by decide +kernel
theorem dX10_law_69 : decode cX10_law 69 = .ok (.istore_n 3, 1) := by decide +kernel
theorem dX10_law_70 : decode cX10_law 70 = .ok (.aload_n 0, 1) := by decide +kernel
theorem dX10_law_71 : decode cX10_law 71 = .ok (.iload_n 2, 1) := by decide +kernel
theorem dX10_law_72 : decode cX10_law 72 = .ok (.i2l, 1) := by decide +kernel
theorem dX10_law_73 : decode cX10_law 73 = .ok (.iload_n 3, 1) := by decide +kernel
theorem dX10_law_74 : decode cX10_law 74 = .ok (.i2l, 1) := by decide +kernel
theorem dX10_law_75 : decode cX10_law 75 = .ok (.invokevirtual 202, 3) := by decide +kernel
theorem dX10_law_78 : decode cX10_law 78 = .ok (.iload_n 2, 1) := by decide +kernel
theorem dX10_law_79 : decode cX10_law 79 = .ok (.iload_n 3, 1) := by decide +kernel
theorem dX10_law_80 : decode cX10_law 80 = .ok (.isub, 1) := by decide +kernel
theorem dX10_law_81 : decode cX10_law 81 = .ok (.ireturn, 1) := by decide +kernel
theorem dX10_frozen_0 : decode cX10_frozen 0 = .ok (.iload_n 1, 1) := by decide +kernel
theorem dX10_frozen_1 : decode cX10_frozen 1 = .ok (.ifCond .lt 9, 3) := by decide +kernel
theorem dX10_frozen_4 : decode cX10_frozen 4 = .ok (.iload_n 1, 1) := by decide +kernel
theorem dX10_frozen_5 : decode cX10_frozen 5 = .ok (.bipush 9, 2) := by decide +kernel
theorem dX10_frozen_7 : decode cX10_frozen 7 = .ok (.if_icmp .le 5, 3) := by decide +kernel
theorem dX10_frozen_10 : decode cX10_frozen 10 = .ok (.iconst (-1), 1) := by decide +kernel
theorem dX10_frozen_11 : decode cX10_frozen 11 = .ok (.ireturn, 1) := by decide +kernel
theorem dX10_frozen_12 : decode cX10_frozen 12 = .ok (.aload_n 0, 1) := by decide +kernel
theorem dX10_frozen_13 : decode cX10_frozen 13 = .ok (.getfield 49, 3) := by decide +kernel
theorem dX10_frozen_16 : decode cX10_frozen 16 = .ok (.aload_n 0, 1) := by decide +kernel
theorem dX10_frozen_17 : decode cX10_frozen 17 = .ok (.getfield 34, 3) := by decide +kernel
theorem dX10_frozen_20 : decode cX10_frozen 20 = .ok (.invokevirtual 302, 3) := by decide +kernel
theorem dX10_frozen_23 : decode cX10_frozen 23 = .ok (.aload_n 0, 1) := by decide +kernel
theorem dX10_frozen_24 : decode cX10_frozen 24 = .ok (.getfield 49, 3) := by decide +kernel
theorem dX10_frozen_27 : decode cX10_frozen 27 = .ok (.iload_n 1, 1) := by decide +kernel
theorem dX10_frozen_28 : decode cX10_frozen 28 = .ok (.putfield 154, 3) := by decide +kernel
theorem dX10_frozen_31 : decode cX10_frozen 31 = .ok (.aload_n 0, 1) := by decide +kernel
theorem dX10_frozen_32 : decode cX10_frozen 32 = .ok (.getfield 49, 3) := by decide +kernel
theorem dX10_frozen_35 : decode cX10_frozen 35 = .ok (.aload_n 0, 1) := by decide +kernel
theorem dX10_frozen_36 : decode cX10_frozen 36 = .ok (.getfield 58, 3) := by decide +kernel
theorem dX10_frozen_39 : decode cX10_frozen 39 = .ok (.invokevirtual 306, 3) := by decide +kernel
theorem dX10_frozen_42 : decode cX10_frozen 42 = .ok (.istore_n 2, 1) := by decide +kernel
theorem dX10_frozen_43 : decode cX10_frozen 43 = .ok (.aload_n 0, 1) := by decide +kernel
theorem dX10_frozen_44 : decode cX10_frozen 44 = .ok (.iload_n 2, 1) := by decide +kernel
theorem dX10_frozen_45 : decode cX10_frozen 45 = .ok (.invokestatic 228, 3) := by decide +kernel
theorem dX10_frozen_48 : decode cX10_frozen 48 = .ok (.i2l, 1) := by decide +kernel
theorem dX10_frozen_49 : decode cX10_frozen 49 = .ok (.invokevirtual 263, 3) := by decide +kernel
theorem dX10_frozen_52 : decode cX10_frozen 52 = .ok (.iload_n 2, 1) := by decide +kernel
theorem dX10_frozen_53 : decode cX10_frozen 53 = .ok (.ireturn, 1) := by decide +kernel
theorem dX10_heaviest_0 : decode cX10_heaviest 0 = .ok (.iload_n 1, 1) := by decide +kernel
theorem dX10_heaviest_1 : decode cX10_heaviest 1 = .ok (.iconst 1, 1) := by decide +kernel
theorem dX10_heaviest_2 : decode cX10_heaviest 2 = .ok (.if_icmp .lt 9, 3) := by decide +kernel
theorem dX10_heaviest_5 : decode cX10_heaviest 5 = .ok (.iload_n 1, 1) := by decide +kernel
theorem dX10_heaviest_6 : decode cX10_heaviest 6 = .ok (.bipush 120, 2) := by decide +kernel
theorem dX10_heaviest_8 : decode cX10_heaviest 8 = .ok (.if_icmp .le 5, 3) := by decide +kernel
theorem dX10_heaviest_11 : decode cX10_heaviest 11 = .ok (.iconst (-1), 1) := by decide +kernel
theorem dX10_heaviest_12 : decode cX10_heaviest 12 = .ok (.ireturn, 1) := by decide +kernel
theorem dX10_heaviest_13 : decode cX10_heaviest 13 = .ok (.aload_n 0, 1) := by decide +kernel
theorem dX10_heaviest_14 : decode cX10_heaviest 14 = .ok (.getfield 49, 3) := by decide +kernel
theorem dX10_heaviest_17 : decode cX10_heaviest 17 = .ok (.aload_n 0, 1) := by decide +kernel
theorem dX10_heaviest_18 : decode cX10_heaviest 18 = .ok (.getfield 34, 3) := by decide +kernel
theorem dX10_heaviest_21 : decode cX10_heaviest 21 = .ok (.invokevirtual 302, 3) := by decide +kernel
theorem dX10_heaviest_24 : decode cX10_heaviest 24 = .ok (.bipush 30, 2) := by decide +kernel
theorem dX10_heaviest_26 : decode cX10_heaviest 26 = .ok (.istore_n 2, 1) := by decide +kernel
theorem dX10_heaviest_27 : decode cX10_heaviest 27 = .ok (.iload_n 2, 1) := by decide +kernel
theorem dX10_heaviest_28 : decode cX10_heaviest 28 = .ok (.iconst 1, 1) := by decide +kernel
theorem dX10_heaviest_29 : decode cX10_heaviest 29 = .ok (.if_icmp .lt 46, 3) := by decide +kernel
theorem dX10_heaviest_32 : decode cX10_heaviest 32 = .ok (.aload_n 0, 1) := by decide +kernel
theorem dX10_heaviest_33 : decode cX10_heaviest 33 = .ok (.getfield 49, 3) := by decide +kernel
theorem dX10_heaviest_36 : decode cX10_heaviest 36 = .ok (.iload_n 2, 1) := by decide +kernel
theorem dX10_heaviest_37 : decode cX10_heaviest 37 = .ok (.putfield 151, 3) := by decide +kernel
theorem dX10_heaviest_40 : decode cX10_heaviest 40 = .ok (.aload_n 0, 1) := by decide +kernel
theorem dX10_heaviest_41 : decode cX10_heaviest 41 = .ok (.getfield 62, 3) := by decide +kernel
theorem dX10_heaviest_44 : decode cX10_heaviest 44 = .ok (.aload_n 0, 1) := by decide +kernel
theorem dX10_heaviest_45 : decode cX10_heaviest 45 = .ok (.getfield 58, 3) := by decide +kernel
theorem dX10_heaviest_48 : decode cX10_heaviest 48 = .ok (.invokevirtual 180, 3) := by decide +kernel
theorem dX10_heaviest_51 : decode cX10_heaviest 51 = .ok (.aload_n 0, 1) := by decide +kernel
theorem dX10_heaviest_52 : decode cX10_heaviest 52 = .ok (.getfield 49, 3) := by decide +kernel
theorem dX10_heaviest_55 : decode cX10_heaviest 55 = .ok (.aload_n 0, 1) := by decide +kernel
theorem dX10_heaviest_56 : decode cX10_heaviest 56 = .ok (.getfield 62, 3) := by decide +kernel
theorem dX10_heaviest_59 : decode cX10_heaviest 59 = .ok (.iload_n 1, 1) := by decide +kernel
theorem dX10_heaviest_60 : decode cX10_heaviest 60 = .ok (.invokevirtual 257, 3) := by decide +kernel
theorem dX10_heaviest_63 : decode cX10_heaviest 63 = .ok (.iload_n 1, 1) := by decide +kernel
theorem dX10_heaviest_64 : decode cX10_heaviest 64 = .ok (.if_icmp .ne 5, 3) := by decide +kernel
theorem dX10_heaviest_67 : decode cX10_heaviest 67 = .ok (.iload_n 2, 1) := by decide +kernel
theorem dX10_heaviest_68 : decode cX10_heaviest 68 = .ok (.ireturn, 1) := by decide +kernel
theorem dX10_heaviest_69 : decode cX10_heaviest 69 = .ok (.iinc 2 (-1), 3) := by decide +kernel
theorem dX10_heaviest_72 : decode cX10_heaviest 72 = .ok (.goto (-45), 3) := by decide +kernel
theorem dX10_heaviest_75 : decode cX10_heaviest 75 = .ok (.bipush (-2), 2) := by decide +kernel
theorem dX10_heaviest_77 : decode cX10_heaviest 77 = .ok (.ireturn, 1) := by decide +kernel
theorem dX10_noted_0 : decode cX10_noted 0 = .ok (.iload_n 1, 1) := by decide +kernel
theorem dX10_noted_1 : decode cX10_noted 1 = .ok (.ifCond .lt 36, 3) := by decide +kernel
theorem dX10_noted_4 : decode cX10_noted 4 = .ok (.iload_n 1, 1) := by decide +kernel
theorem dX10_noted_5 : decode cX10_noted 5 = .ok (.bipush 6, 2) := by decide +kernel
theorem dX10_noted_7 : decode cX10_noted 7 = .ok (.if_icmp .ge 30, 3) := by decide +kernel
theorem dX10_noted_10 : decode cX10_noted 10 = .ok (.iload_n 2, 1) := by decide +kernel
theorem dX10_noted_11 : decode cX10_noted 11 = .ok (.sipush (-999), 3) := by decide +kernel
theorem dX10_noted_14 : decode cX10_noted 14 = .ok (.if_icmp .lt 23, 3) := by decide +kernel
theorem dX10_noted_17 : decode cX10_noted 17 = .ok (.iload_n 2, 1) := by decide +kernel
theorem dX10_noted_18 : decode cX10_noted 18 = .ok (.sipush 9999, 3) := by decide +kernel
theorem dX10_noted_21 : decode cX10_noted 21 = .ok (.if_icmp .gt 16, 3) := by decide +kernel
theorem dX10_noted_24 : decode cX10_noted 24 = .ok (.iload_n 3, 1) := by decide +kernel
theorem dX10_noted_25 : decode cX10_noted 25 = .ok (.ifCond .lt 12, 3) := by decide +kernel
theorem dX10_noted_28 : decode cX10_noted 28 = .ok (.iload_n 3, 1) := by decide +kernel
theorem dX10_noted_29 : decode cX10_noted 29 = .ok (.iconst 1, 1) := by decide +kernel
theorem dX10_noted_30 : decode cX10_noted 30 = .ok (.if_icmp .gt 7, 3) := by decide +kernel
theorem dX10_noted_33 : decode cX10_noted 33 = .ok (.iconst 1, 1) := by decide +kernel
theorem dX10_noted_34 : decode cX10_noted 34 = .ok (.goto 4, 3) := by decide +kernel
theorem dX10_noted_37 : decode cX10_noted 37 = .ok (.iconst 0, 1) := by decide +kernel
theorem dX10_noted_38 : decode cX10_noted 38 = .ok (.istore 4, 2) := by decide +kernel
theorem dX10_noted_40 : decode cX10_noted 40 = .ok (.iload 4, 2) := by decide +kernel
theorem dX10_noted_42 : decode cX10_noted 42 = .ok (.ifCond .eq 16, 3) := by decide +kernel
theorem dX10_noted_45 : decode cX10_noted 45 = .ok (.aload_n 0, 1) := by decide +kernel
theorem dX10_noted_46 : decode cX10_noted 46 = .ok (.getfield 93, 3) := by decide +kernel
theorem dX10_noted_49 : decode cX10_noted 49 = .ok (.iload_n 1, 1) := by decide +kernel
theorem dX10_noted_50 : decode cX10_noted 50 = .ok (.iload_n 2, 1) := by decide +kernel
theorem dX10_noted_51 : decode cX10_noted 51 = .ok (.iload_n 3, 1) := by decide +kernel
theorem dX10_noted_52 : decode cX10_noted 52 = .ok (.invokevirtual 309, 3) := by decide +kernel
theorem dX10_noted_55 : decode cX10_noted 55 = .ok (.goto 4, 3) := by decide +kernel
theorem dX10_noted_58 : decode cX10_noted 58 = .ok (.iconst (-1), 1) := by decide +kernel
theorem dX10_noted_59 : decode cX10_noted 59 = .ok (.ireturn, 1) := by decide +kernel
theorem dX10_forget_0 : decode cX10_forget 0 = .ok (.aload_n 0, 1) := by decide +kernel
theorem dX10_forget_1 : decode cX10_forget 1 = .ok (.getfield 93, 3) := by decide +kernel
theorem dX10_forget_4 : decode cX10_forget 4 = .ok (.getfield 312, 3) := by decide +kernel
theorem dX10_forget_7 : decode cX10_forget 7 = .ok (.istore_n 1, 1) := by decide +kernel
theorem dX10_forget_8 : decode cX10_forget 8 = .ok (.aload_n 0, 1) := by decide +kernel
theorem dX10_forget_9 : decode cX10_forget 9 = .ok (.getfield 93, 3) := by decide +kernel
theorem dX10_forget_12 : decode cX10_forget 12 = .ok (.iconst 0, 1) := by decide +kernel
theorem dX10_forget_13 : decode cX10_forget 13 = .ok (.putfield 312, 3) := by decide +kernel
theorem dX10_forget_16 : decode cX10_forget 16 = .ok (.iload_n 1, 1) := by decide +kernel
theorem dX10_forget_17 : decode cX10_forget 17 = .ok (.ireturn, 1) := by decide +kernel
theorem dX10_rows_0 : decode cX10_rows 0 = .ok (.aload_n 0, 1) := by decide +kernel
theorem dX10_rows_1 : decode cX10_rows 1 = .ok (.invokevirtual 315, 3) := by decide +kernel
theorem dX10_rows_4 : decode cX10_rows 4 = .ok (.aload_n 0, 1) := by decide +kernel
theorem dX10_rows_5 : decode cX10_rows 5 = .ok (.getfield 19, 3) := by decide +kernel
theorem dX10_rows_8 : decode cX10_rows 8 = .ok (.invokevirtual 289, 3) := by decide +kernel
theorem dX10_rows_11 : decode cX10_rows 11 = .ok (.aload_n 0, 1) := by decide +kernel
theorem dX10_rows_12 : decode cX10_rows 12 = .ok (.getfield 93, 3) := by decide +kernel
theorem dX10_rows_15 : decode cX10_rows 15 = .ok (.invokevirtual 318, 3) := by decide +kernel
theorem dX10_rows_18 : decode cX10_rows 18 = .ok (.ifCond .le 38, 3) := by decide +kernel
theorem dX10_rows_21 : decode cX10_rows 21 = .ok (.iconst (-1), 1) := by decide +kernel
theorem dX10_rows_22 : decode cX10_rows 22 = .ok (.istore_n 1, 1) := by decide +kernel
theorem dX10_rows_23 : decode cX10_rows 23 = .ok (.iconst 0, 1) := by decide +kernel
theorem dX10_rows_24 : decode cX10_rows 24 = .ok (.istore_n 2, 1) := by decide +kernel
theorem dX10_rows_25 : decode cX10_rows 25 = .ok (.iload_n 2, 1) := by decide +kernel
theorem dX10_rows_26 : decode cX10_rows 26 = .ok (.bipush 6, 2) := by decide +kernel
theorem dX10_rows_28 : decode cX10_rows 28 = .ok (.if_icmp .ge 28, 3) := by decide +kernel
theorem dX10_rows_31 : decode cX10_rows 31 = .ok (.aload_n 0, 1) := by decide +kernel
theorem dX10_rows_32 : decode cX10_rows 32 = .ok (.getfield 93, 3) := by decide +kernel
theorem dX10_rows_35 : decode cX10_rows 35 = .ok (.iload_n 2, 1) := by decide +kernel
theorem dX10_rows_36 : decode cX10_rows 36 = .ok (.iload_n 1, 1) := by decide +kernel
theorem dX10_rows_37 : decode cX10_rows 37 = .ok (.invokevirtual 321, 3) := by decide +kernel
theorem dX10_rows_40 : decode cX10_rows 40 = .ok (.istore_n 1, 1) := by decide +kernel
theorem dX10_rows_41 : decode cX10_rows 41 = .ok (.aload_n 0, 1) := by decide +kernel
theorem dX10_rows_42 : decode cX10_rows 42 = .ok (.getfield 19, 3) := by decide +kernel
theorem dX10_rows_45 : decode cX10_rows 45 = .ok (.iload_n 1, 1) := by decide +kernel
theorem dX10_rows_46 : decode cX10_rows 46 = .ok (.i2l, 1) := by decide +kernel
theorem dX10_rows_47 : decode cX10_rows 47 = .ok (.invokevirtual 293, 3) := by decide +kernel
theorem dX10_rows_50 : decode cX10_rows 50 = .ok (.iinc 2 1, 3) := by decide +kernel
theorem dX10_rows_53 : decode cX10_rows 53 = .ok (.goto (-28), 3) := by decide +kernel
theorem dX10_rows_56 : decode cX10_rows 56 = .ok (.aload_n 0, 1) := by decide +kernel
theorem dX10_rows_57 : decode cX10_rows 57 = .ok (.getfield 93, 3) := by decide +kernel
theorem dX10_rows_60 : decode cX10_rows 60 = .ok (.invokevirtual 318, 3) := by decide +kernel
theorem dX10_rows_63 : decode cX10_rows 63 = .ok (.ireturn, 1) := by decide +kernel
theorem dX10_countRows_0 : decode cX10_countRows 0 = .ok (.aload_n 0, 1) := by decide +kernel
theorem dX10_countRows_1 : decode cX10_countRows 1 = .ok (.getfield 62, 3) := by decide +kernel
theorem dX10_countRows_4 : decode cX10_countRows 4 = .ok (.aload_n 0, 1) := by decide +kernel
theorem dX10_countRows_5 : decode cX10_countRows 5 = .ok (.getfield 58, 3) := by decide +kernel
theorem dX10_countRows_8 : decode cX10_countRows 8 = .ok (.invokevirtual 180, 3) := by decide +kernel
theorem dX10_countRows_11 : decode cX10_countRows 11 = .ok (.aload_n 0, 1) := by decide +kernel
theorem dX10_countRows_12 : decode cX10_countRows 12 = .ok (.getfield 62, 3) := by decide +kernel
theorem dX10_countRows_15 : decode cX10_countRows 15 = .ok (.invokevirtual 324, 3) := by decide +kernel
theorem dX10_countRows_18 : decode cX10_countRows 18 = .ok (.aload_n 0, 1) := by decide +kernel
theorem dX10_countRows_19 : decode cX10_countRows 19 = .ok (.getfield 93, 3) := by decide +kernel
theorem dX10_countRows_22 : decode cX10_countRows 22 = .ok (.aload_n 0, 1) := by decide +kernel
theorem dX10_countRows_23 : decode cX10_countRows 23 = .ok (.getfield 34, 3) := by decide +kernel
theorem dX10_countRows_26 : decode cX10_countRows 26 = .ok (.aload_n 0, 1) := by decide +kernel
theorem dX10_countRows_27 : decode cX10_countRows 27 = .ok (.getfield 62, 3) := by decide +kernel
theorem dX10_countRows_30 : decode cX10_countRows 30 = .ok (.invokevirtual 327, 3) := by decide +kernel
theorem dX10_countRows_33 : decode cX10_countRows 33 = .ok (.return_, 1) := by decide +kernel
theorem dX10_rang_0 : decode cX10_rang 0 = .ok (.iload_n 1, 1) := by decide +kernel
theorem dX10_rang_1 : decode cX10_rang 1 = .ok (.ifCond .lt 9, 3) := by decide +kernel
theorem dX10_rang_4 : decode cX10_rang 4 = .ok (.iload_n 1, 1) := by decide +kernel
theorem dX10_rang_5 : decode cX10_rang 5 = .ok (.bipush 6, 2) := by decide +kernel
theorem dX10_rang_7 : decode cX10_rang 7 = .ok (.if_icmp .lt 5, 3) := by decide +kernel
theorem dX10_rang_10 : decode cX10_rang 10 = .ok (.iconst (-1), 1) := by decide +kernel
theorem dX10_rang_11 : decode cX10_rang 11 = .ok (.ireturn, 1) := by decide +kernel
theorem dX10_rang_12 : decode cX10_rang 12 = .ok (.aload_n 0, 1) := by decide +kernel
theorem dX10_rang_13 : decode cX10_rang 13 = .ok (.invokevirtual 315, 3) := by decide +kernel
theorem dX10_rang_16 : decode cX10_rang 16 = .ok (.aload_n 0, 1) := by decide +kernel
theorem dX10_rang_17 : decode cX10_rang 17 = .ok (.getfield 93, 3) := by decide +kernel
theorem dX10_rang_20 : decode cX10_rang 20 = .ok (.iload_n 1, 1) := by decide +kernel
theorem dX10_rang_21 : decode cX10_rang 21 = .ok (.invokevirtual 331, 3) := by decide +kernel
theorem dX10_rang_24 : decode cX10_rang 24 = .ok (.istore_n 2, 1) := by decide +kernel
theorem dX10_rang_25 : decode cX10_rang 25 = .ok (.aload_n 0, 1) := by decide +kernel
theorem dX10_rang_26 : decode cX10_rang 26 = .ok (.iload_n 2, 1) := by decide +kernel
theorem dX10_rang_27 : decode cX10_rang 27 = .ok (.invokestatic 228, 3) := by decide +kernel
theorem dX10_rang_30 : decode cX10_rang 30 = .ok (.i2l, 1) := by decide +kernel
theorem dX10_rang_31 : decode cX10_rang 31 = .ok (.invokevirtual 263, 3) := by decide +kernel
theorem dX10_rang_34 : decode cX10_rang 34 = .ok (.iload_n 2, 1) := by decide +kernel
theorem dX10_rang_35 : decode cX10_rang 35 = .ok (.ireturn, 1) := by decide +kernel
theorem dX10_ask_0 : decode cX10_ask 0 = .ok (.aload_n 0, 1) := by decide +kernel
theorem dX10_ask_1 : decode cX10_ask 1 = .ok (.invokevirtual 315, 3) := by decide +kernel
theorem dX10_ask_4 : decode cX10_ask 4 = .ok (.bipush (-2), 2) := by decide +kernel
theorem dX10_ask_6 : decode cX10_ask 6 = .ok (.istore_n 1, 1) := by decide +kernel
theorem dX10_ask_7 : decode cX10_ask 7 = .ok (.iconst 0, 1) := by decide +kernel
theorem dX10_ask_8 : decode cX10_ask 8 = .ok (.istore_n 2, 1) := by decide +kernel
theorem dX10_ask_9 : decode cX10_ask 9 = .ok (.iconst 0, 1) := by decide +kernel
theorem dX10_ask_10 : decode cX10_ask 10 = .ok (.istore_n 3, 1) := by decide +kernel
theorem dX10_ask_11 : decode cX10_ask 11 = .ok (.iload_n 3, 1) := by decide +kernel
theorem dX10_ask_12 : decode cX10_ask 12 = .ok (.bipush 6, 2) := by decide +kernel
theorem dX10_ask_14 : decode cX10_ask 14 = .ok (.if_icmp .ge 33, 3) := by decide +kernel
theorem dX10_ask_17 : decode cX10_ask 17 = .ok (.aload_n 0, 1) := by decide +kernel
theorem dX10_ask_18 : decode cX10_ask 18 = .ok (.getfield 93, 3) := by decide +kernel
theorem dX10_ask_21 : decode cX10_ask 21 = .ok (.iload_n 3, 1) := by decide +kernel
theorem dX10_ask_22 : decode cX10_ask 22 = .ok (.invokevirtual 331, 3) := by decide +kernel
theorem dX10_ask_25 : decode cX10_ask 25 = .ok (.invokestatic 228, 3) := by decide +kernel
theorem dX10_ask_28 : decode cX10_ask 28 = .ok (.istore 4, 2) := by decide +kernel
theorem dX10_ask_30 : decode cX10_ask 30 = .ok (.iload 4, 2) := by decide +kernel
theorem dX10_ask_32 : decode cX10_ask 32 = .ok (.iload_n 2, 1) := by decide +kernel
theorem dX10_ask_33 : decode cX10_ask 33 = .ok (.if_icmp .le 8, 3) := by decide +kernel
theorem dX10_ask_36 : decode cX10_ask 36 = .ok (.iload 4, 2) := by decide +kernel
theorem dX10_ask_38 : decode cX10_ask 38 = .ok (.istore_n 2, 1) := by decide +kernel
theorem dX10_ask_39 : decode cX10_ask 39 = .ok (.iload_n 3, 1) := by decide +kernel
theorem dX10_ask_40 : decode cX10_ask 40 = .ok (.istore_n 1, 1) := by decide +kernel
theorem dX10_ask_41 : decode cX10_ask 41 = .ok (.iinc 3 1, 3) := by decide +kernel
theorem dX10_ask_44 : decode cX10_ask 44 = .ok (.goto (-33), 3) := by decide +kernel
theorem dX10_ask_47 : decode cX10_ask 47 = .ok (.iload_n 1, 1) := by decide +kernel
theorem dX10_ask_48 : decode cX10_ask 48 = .ok (.ifCond .lt 9, 3) := by decide +kernel
theorem dX10_ask_51 : decode cX10_ask 51 = .ok (.aload_n 0, 1) := by decide +kernel
theorem dX10_ask_52 : decode cX10_ask 52 = .ok (.iload_n 2, 1) := by decide +kernel
theorem dX10_ask_53 : decode cX10_ask 53 = .ok (.i2l, 1) := by decide +kernel
theorem dX10_ask_54 : decode cX10_ask 54 = .ok (.invokevirtual 263, 3) := by decide +kernel
theorem dX10_ask_57 : decode cX10_ask 57 = .ok (.iload_n 1, 1) := by decide +kernel
theorem dX10_ask_58 : decode cX10_ask 58 = .ok (.ireturn, 1) := by decide +kernel
theorem dX10_sick_0 : decode cX10_sick 0 = .ok (.iload_n 1, 1) := by decide +kernel
theorem dX10_sick_1 : decode cX10_sick 1 = .ok (.ifCond .lt 9, 3) := by decide +kernel
theorem dX10_sick_4 : decode cX10_sick 4 = .ok (.iload_n 1, 1) := by decide +kernel
theorem dX10_sick_5 : decode cX10_sick 5 = .ok (.bipush 10, 2) := by decide +kernel
theorem dX10_sick_7 : decode cX10_sick 7 = .ok (.if_icmp .le 5, 3) := by decide +kernel
theorem dX10_sick_10 : decode cX10_sick 10 = .ok (.iconst (-1), 1) := by decide +kernel
theorem dX10_sick_11 : decode cX10_sick 11 = .ok (.ireturn, 1) := by decide +kernel
theorem dX10_sick_12 : decode cX10_sick 12 = .ok (.aload_n 0, 1) := by decide +kernel
theorem dX10_sick_13 : decode cX10_sick 13 = .ok (.getfield 34, 3) := by decide +kernel
theorem dX10_sick_16 : decode cX10_sick 16 = .ok (.aload_n 0, 1) := by decide +kernel
theorem dX10_sick_17 : decode cX10_sick 17 = .ok (.getfield 58, 3) := by decide +kernel
theorem dX10_sick_20 : decode cX10_sick 20 = .ok (.invokevirtual 306, 3) := by decide +kernel
theorem dX10_sick_23 : decode cX10_sick 23 = .ok (.invokestatic 228, 3) := by decide +kernel
theorem dX10_sick_26 : decode cX10_sick 26 = .ok (.istore_n 2, 1) := by decide +kernel
theorem dX10_sick_27 : decode cX10_sick 27 = .ok (.ldc2_w 334, 3) := by decide +kernel
theorem dX10_sick_30 : decode cX10_sick 30 = .ok (.iload_n 2, 1) := by decide +kernel
theorem dX10_sick_31 : decode cX10_sick 31 = .ok (.invokestatic 336, 3) := by decide +kernel
theorem dX10_sick_34 : decode cX10_sick 34 = .ok (.lstore_n 3, 1) := by decide +kernel
theorem dX10_sick_35 : decode cX10_sick 35 = .ok (.lload_n 3, 1) := by decide +kernel
theorem dX10_sick_36 : decode cX10_sick 36 = .ok (.iload_n 1, 1) := by decide +kernel
theorem dX10_sick_37 : decode cX10_sick 37 = .ok (.i2l, 1) := by decide +kernel
theorem dX10_sick_38 : decode cX10_sick 38 = .ok (.iload_n 2, 1) := by decide +kernel
theorem dX10_sick_39 : decode cX10_sick 39 = .ok (.invokestatic 336, 3) := by decide +kernel
theorem dX10_sick_42 : decode cX10_sick 42 = .ok (.lsub, 1) := by decide +kernel
theorem dX10_sick_43 : decode cX10_sick 43 = .ok (.lstore 5, 2) := by decide +kernel
theorem dX10_sick_45 : decode cX10_sick 45 = .ok (.lload_n 3, 1) := by decide +kernel
theorem dX10_sick_46 : decode cX10_sick 46 = .ok (.lload 5, 2) := by decide +kernel
theorem dX10_sick_48 : decode cX10_sick 48 = .ok (.invokestatic 340, 3) := by decide +kernel
theorem dX10_sick_51 : decode cX10_sick 51 = .ok (.lstore 7, 2) := by decide +kernel
theorem dX10_sick_53 : decode cX10_sick 53 = .ok (.lload 7, 2) := by decide +kernel
theorem dX10_sick_55 : decode cX10_sick 55 = .ok (.lconst 0, 1) := by decide +kernel
theorem dX10_sick_56 : decode cX10_sick 56 = .ok (.lcmp, 1) := by decide +kernel
theorem dX10_sick_57 : decode cX10_sick 57 = .ok (.ifCond .ne 5, 3) := by decide +kernel
theorem dX10_sick_60 : decode cX10_sick 60 = .ok (.iconst (-1), 1) := by decide +kernel
theorem dX10_sick_61 : decode cX10_sick 61 = .ok (.ireturn, 1) := by decide +kernel
theorem dX10_sick_62 : decode cX10_sick 62 = .ok (.aload_n 0, 1) := by decide +kernel
theorem dX10_sick_63 : decode cX10_sick 63 = .ok (.lload 5, 2) := by decide +kernel
theorem dX10_sick_65 : decode cX10_sick 65 = .ok (.lload 7, 2) := by decide +kernel
theorem dX10_sick_67 : decode cX10_sick 67 = .ok (.ldiv, 1) := by decide +kernel
theorem dX10_sick_68 : decode cX10_sick 68 = .ok (.lload_n 3, 1) := by decide +kernel
theorem dX10_sick_69 : decode cX10_sick 69 = .ok (.lload 7, 2) := by decide +kernel
theorem dX10_sick_71 : decode cX10_sick 71 = .ok (.ldiv, 1) := by decide +kernel
theorem dX10_sick_72 : decode cX10_sick 72 = .ok (.invokevirtual 202, 3) := by decide +kernel
theorem dX10_sick_75 : decode cX10_sick 75 = .ok (.iconst 0, 1) := by decide +kernel
theorem dX10_sick_76 : decode cX10_sick 76 = .ok (.ireturn, 1) := by decide +kernel
theorem dX10_power_0 : decode cX10_power 0 = .ok (.lconst 1, 1) := by decide +kernel
theorem dX10_power_1 : decode cX10_power 1 = .ok (.lstore_n 3, 1) := by decide +kernel
theorem dX10_power_2 : decode cX10_power 2 = .ok (.iconst 0, 1) := by decide +kernel
theorem dX10_power_3 : decode cX10_power 3 = .ok (.istore 5, 2) := by decide +kernel
theorem dX10_power_5 : decode cX10_power 5 = .ok (.iload 5, 2) := by decide +kernel
theorem dX10_power_7 : decode cX10_power 7 = .ok (.iload_n 2, 1) := by decide +kernel
theorem dX10_power_8 : decode cX10_power 8 = .ok (.if_icmp .ge 13, 3) := by decide +kernel
theorem dX10_power_11 : decode cX10_power 11 = .ok (.lload_n 3, 1) := by decide +kernel
theorem dX10_power_12 : decode cX10_power 12 = .ok (.lload_n 0, 1) := by decide +kernel
theorem dX10_power_13 : decode cX10_power 13 = .ok (.lmul, 1) := by decide +kernel
theorem dX10_power_14 : decode cX10_power 14 = .ok (.lstore_n 3, 1) := by decide +kernel
theorem dX10_power_15 : decode cX10_power 15 = .ok (.iinc 5 1, 3) := by decide +kernel
theorem dX10_power_18 : decode cX10_power 18 = .ok (.goto (-13), 3) := by decide +kernel
theorem dX10_power_21 : decode cX10_power 21 = .ok (.lload_n 3, 1) := by decide +kernel
theorem dX10_power_22 : decode cX10_power 22 = .ok (.lreturn, 1) := by decide +kernel
theorem dX10_commonDivisor_0 : decode cX10_commonDivisor 0 = .ok (.lload_n 0, 1) := by decide +kernel
theorem dX10_commonDivisor_1 : decode cX10_commonDivisor 1 = .ok (.lstore 4, 2) := by decide +kernel
theorem dX10_commonDivisor_3 : decode cX10_commonDivisor 3 = .ok (.lload_n 2, 1) := by decide +kernel
theorem dX10_commonDivisor_4 : decode cX10_commonDivisor 4 = .ok (.lstore 6, 2) := by decide +kernel
theorem dX10_commonDivisor_6 : decode cX10_commonDivisor 6 = .ok (.iconst 0, 1) := by decide +kernel
theorem dX10_commonDivisor_7 : decode cX10_commonDivisor 7 = .ok (.istore 8, 2) := by decide +kernel
theorem dX10_commonDivisor_9 : decode cX10_commonDivisor 9 = .ok (.iload 8, 2) := by decide +kernel
theorem dX10_commonDivisor_11 : decode cX10_commonDivisor 11 = .ok (.sipush 200, 3) := by decide +kernel
theorem dX10_commonDivisor_14 : decode cX10_commonDivisor 14 = .ok (.if_icmp .ge 31, 3) := by decide +kernel
theorem dX10_commonDivisor_17 : decode cX10_commonDivisor 17 = .ok (.lload 6, 2) := by decide +kernel
theorem dX10_commonDivisor_19 : decode cX10_commonDivisor 19 = .ok (.lconst 0, 1) := by decide +kernel
theorem dX10_commonDivisor_20 : decode cX10_commonDivisor 20 = .ok (.lcmp, 1) := by decide +kernel
theorem dX10_commonDivisor_21 : decode cX10_commonDivisor 21 = .ok (.ifCond .eq 24, 3) := by decide +kernel
theorem dX10_commonDivisor_24 : decode cX10_commonDivisor 24 = .ok (.lload 4, 2) := by decide +kernel
theorem dX10_commonDivisor_26 : decode cX10_commonDivisor 26 = .ok (.lload 6, 2) := by decide +kernel
theorem dX10_commonDivisor_28 : decode cX10_commonDivisor 28 = .ok (.lrem, 1) := by decide +kernel
theorem dX10_commonDivisor_29 : decode cX10_commonDivisor 29 = .ok (.lstore 9, 2) := by decide +kernel
theorem dX10_commonDivisor_31 : decode cX10_commonDivisor 31 = .ok (.lload 6, 2) := by decide +kernel
theorem dX10_commonDivisor_33 : decode cX10_commonDivisor 33 = .ok (.lstore 4, 2) := by decide +kernel
theorem dX10_commonDivisor_35 : decode cX10_commonDivisor 35 = .ok (.lload 9, 2) := by decide +kernel
theorem dX10_commonDivisor_37 : decode cX10_commonDivisor 37 = .ok (.lstore 6, 2) := by decide +kernel
theorem dX10_commonDivisor_39 : decode cX10_commonDivisor 39 = .ok (.iinc 8 1, 3) := by decide +kernel
theorem dX10_commonDivisor_42 : decode cX10_commonDivisor 42 = .ok (.goto (-33), 3) := by decide +kernel
theorem dX10_commonDivisor_45 : decode cX10_commonDivisor 45 = .ok (.lload 4, 2) := by decide +kernel
theorem dX10_commonDivisor_47 : decode cX10_commonDivisor 47 = .ok (.lreturn, 1) := by decide +kernel
theorem dX10_risk_0 : decode cX10_risk 0 = .ok (.iload_n 1, 1) := by decide +kernel
theorem dX10_risk_1 : decode cX10_risk 1 = .ok (.ifCond .lt 9, 3) := by decide +kernel
theorem dX10_risk_4 : decode cX10_risk 4 = .ok (.iload_n 1, 1) := by decide +kernel
theorem dX10_risk_5 : decode cX10_risk 5 = .ok (.bipush 100, 2) := by decide +kernel
theorem dX10_risk_7 : decode cX10_risk 7 = .ok (.if_icmp .le 5, 3) := by decide +kernel
theorem dX10_risk_10 : decode cX10_risk 10 = .ok (.iconst (-1), 1) := by decide +kernel
theorem dX10_risk_11 : decode cX10_risk 11 = .ok (.ireturn, 1) := by decide +kernel
theorem dX10_risk_12 : decode cX10_risk 12 = .ok (.aload_n 0, 1) := by decide +kernel
theorem dX10_risk_13 : decode cX10_risk 13 = .ok (.getfield 34, 3) := by decide +kernel
theorem dX10_risk_16 : decode cX10_risk 16 = .ok (.aload_n 0, 1) := by decide +kernel
theorem dX10_risk_17 : decode cX10_risk 17 = .ok (.getfield 58, 3) := by decide +kernel
theorem dX10_risk_20 : decode cX10_risk 20 = .ok (.invokevirtual 306, 3) := by decide +kernel
theorem dX10_risk_23 : decode cX10_risk 23 = .ok (.invokestatic 228, 3) := by decide +kernel
theorem dX10_risk_26 : decode cX10_risk 26 = .ok (.istore_n 2, 1) := by decide +kernel
theorem dX10_risk_27 : decode cX10_risk 27 = .ok (.ldc2_w 334, 3) := by decide +kernel
theorem dX10_risk_30 : decode cX10_risk 30 = .ok (.iload_n 2, 1) := by decide +kernel
theorem dX10_risk_31 : decode cX10_risk 31 = .ok (.invokestatic 336, 3) := by decide +kernel
theorem dX10_risk_34 : decode cX10_risk 34 = .ok (.lstore_n 3, 1) := by decide +kernel
theorem dX10_risk_35 : decode cX10_risk 35 = .ok (.bipush (-2), 2) := by decide +kernel
theorem dX10_risk_37 : decode cX10_risk 37 = .ok (.istore 5, 2) := by decide +kernel
theorem dX10_risk_39 : decode cX10_risk 39 = .ok (.iconst 0, 1) := by decide +kernel
theorem dX10_risk_40 : decode cX10_risk 40 = .ok (.istore 6, 2) := by decide +kernel
theorem dX10_risk_42 : decode cX10_risk 42 = .ok (.iload 6, 2) := by decide +kernel
theorem dX10_risk_44 : decode cX10_risk 44 = .ok (.bipush 10, 2) := by decide +kernel
theorem dX10_risk_46 : decode cX10_risk 46 = .ok (.if_icmp .gt 34, 3) := by decide +kernel
theorem dX10_risk_49 : decode cX10_risk 49 = .ok (.lload_n 3, 1) := by decide +kernel
theorem dX10_risk_50 : decode cX10_risk 50 = .ok (.iload 6, 2) := by decide +kernel
theorem dX10_risk_52 : decode cX10_risk 52 = .ok (.i2l, 1) := by decide +kernel
theorem dX10_risk_53 : decode cX10_risk 53 = .ok (.iload_n 2, 1) := by decide +kernel
theorem dX10_risk_54 : decode cX10_risk 54 = .ok (.invokestatic 336, 3) := by decide +kernel
theorem dX10_risk_57 : decode cX10_risk 57 = .ok (.lsub, 1) := by decide +kernel
theorem dX10_risk_58 : decode cX10_risk 58 = .ok (.ldc2_w 344, 3) := by decide +kernel
theorem dX10_risk_61 : decode cX10_risk 61 = .ok (.lmul, 1) := by decide +kernel
theorem dX10_risk_62 : decode cX10_risk 62 = .ok (.iload_n 1, 1) := by decide +kernel
theorem dX10_risk_63 : decode cX10_risk 63 = .ok (.i2l, 1) := by decide +kernel
theorem dX10_risk_64 : decode cX10_risk 64 = .ok (.lload_n 3, 1) := by decide +kernel
theorem dX10_risk_65 : decode cX10_risk 65 = .ok (.lmul, 1) := by decide +kernel
theorem dX10_risk_66 : decode cX10_risk 66 = .ok (.lcmp, 1) := by decide +kernel
theorem dX10_risk_67 : decode cX10_risk 67 = .ok (.ifCond .lt 13, 3) := by decide +kernel
theorem dX10_risk_70 : decode cX10_risk 70 = .ok (.iload 6, 2) := by decide +kernel
theorem dX10_risk_72 : decode cX10_risk 72 = .ok (.istore 5, 2) := by decide +kernel
theorem dX10_risk_74 : decode cX10_risk 74 = .ok (.iinc 6 1, 3) := by decide +kernel
theorem dX10_risk_77 : decode cX10_risk 77 = .ok (.goto (-35), 3) := by decide +kernel
theorem dX10_risk_80 : decode cX10_risk 80 = .ok (.iload 5, 2) := by decide +kernel
theorem dX10_risk_82 : decode cX10_risk 82 = .ok (.ireturn, 1) := by decide +kernel
theorem dX10_settle_0 : decode cX10_settle 0 = .ok (.iload_n 1, 1) := by decide +kernel
theorem dX10_settle_1 : decode cX10_settle 1 = .ok (.ifCond .lt 20, 3) := by decide +kernel
theorem dX10_settle_4 : decode cX10_settle 4 = .ok (.iload_n 1, 1) := by decide +kernel
theorem dX10_settle_5 : decode cX10_settle 5 = .ok (.bipush 20, 2) := by decide +kernel
theorem dX10_settle_7 : decode cX10_settle 7 = .ok (.if_icmp .gt 14, 3) := by decide +kernel
theorem dX10_settle_10 : decode cX10_settle 10 = .ok (.iload_n 2, 1) := by decide +kernel
theorem dX10_settle_11 : decode cX10_settle 11 = .ok (.iconst 1, 1) := by decide +kernel
theorem dX10_settle_12 : decode cX10_settle 12 = .ok (.if_icmp .lt 9, 3) := by decide +kernel
theorem dX10_settle_15 : decode cX10_settle 15 = .ok (.iload_n 2, 1) := by decide +kernel
theorem dX10_settle_16 : decode cX10_settle 16 = .ok (.bipush 20, 2) := by decide +kernel
theorem dX10_settle_18 : decode cX10_settle 18 = .ok (.if_icmp .le 5, 3) := by decide +kernel
theorem dX10_settle_21 : decode cX10_settle 21 = .ok (.iconst (-1), 1) := by decide +kernel
theorem dX10_settle_22 : decode cX10_settle 22 = .ok (.ireturn, 1) := by decide +kernel
theorem dX10_settle_23 : decode cX10_settle 23 = .ok (.iconst 0, 1) := by decide +kernel
theorem dX10_settle_24 : decode cX10_settle 24 = .ok (.istore_n 3, 1) := by decide +kernel
theorem dX10_settle_25 : decode cX10_settle 25 = .ok (.iconst 0, 1) := by decide +kernel
theorem dX10_settle_26 : decode cX10_settle 26 = .ok (.istore 4, 2) := by decide +kernel
theorem dX10_settle_28 : decode cX10_settle 28 = .ok (.iload_n 2, 1) := by decide +kernel
theorem dX10_settle_29 : decode cX10_settle 29 = .ok (.iconst 1, 1) := by decide +kernel
theorem dX10_settle_30 : decode cX10_settle 30 = .ok (.isub, 1) := by decide +kernel
theorem dX10_settle_31 : decode cX10_settle 31 = .ok (.istore 5, 2) := by decide +kernel
theorem dX10_settle_33 : decode cX10_settle 33 = .ok (.iload 5, 2) := by decide +kernel
theorem dX10_settle_35 : decode cX10_settle 35 = .ok (.ifCond .lt 107, 3) := by decide +kernel
theorem dX10_settle_38 : decode cX10_settle 38 = .ok (.iconst 0, 1) := by decide +kernel
theorem dX10_settle_39 : decode cX10_settle 39 = .ok (.iload_n 1, 1) := by decide +kernel
theorem dX10_settle_40 : decode cX10_settle 40 = .ok (.iload 5, 2) := by decide +kernel
theorem dX10_settle_42 : decode cX10_settle 42 = .ok (.isub, 1) := by decide +kernel
theorem dX10_settle_43 : decode cX10_settle 43 = .ok (.invokestatic 177, 3) := by decide +kernel
theorem dX10_settle_46 : decode cX10_settle 46 = .ok (.istore 6, 2) := by decide +kernel
theorem dX10_settle_48 : decode cX10_settle 48 = .ok (.iload_n 3, 1) := by decide +kernel
theorem dX10_settle_49 : decode cX10_settle 49 = .ok (.istore 7, 2) := by decide +kernel
theorem dX10_settle_51 : decode cX10_settle 51 = .ok (.iconst (-1), 1) := by decide +kernel
theorem dX10_settle_52 : decode cX10_settle 52 = .ok (.istore 8, 2) := by decide +kernel
theorem dX10_settle_54 : decode cX10_settle 54 = .ok (.iconst 0, 1) := by decide +kernel
theorem dX10_settle_55 : decode cX10_settle 55 = .ok (.istore 9, 2) := by decide +kernel
theorem dX10_settle_57 : decode cX10_settle 57 = .ok (.iconst 0, 1) := by decide +kernel
theorem dX10_settle_58 : decode cX10_settle 58 = .ok (.istore 10, 2) := by decide +kernel
theorem dX10_settle_60 : decode cX10_settle 60 = .ok (.iload 10, 2) := by decide +kernel
theorem dX10_settle_62 : decode cX10_settle 62 = .ok (.iload 6, 2) := by decide +kernel
theorem dX10_settle_64 : decode cX10_settle 64 = .ok (.if_icmp .gt 65, 3) := by decide +kernel
theorem dX10_settle_67 : decode cX10_settle 67 = .ok (.iload 10, 2) := by decide +kernel
theorem dX10_settle_69 : decode cX10_settle 69 = .ok (.iload 7, 2) := by decide +kernel
theorem dX10_settle_71 : decode cX10_settle 71 = .ok (.if_icmp .lt 7, 3) := by decide +kernel
theorem dX10_settle_74 : decode cX10_settle 74 = .ok (.iconst 1, 1) := by decide +kernel
theorem dX10_settle_75 : decode cX10_settle 75 = .ok (.goto 4, 3) := by decide +kernel
theorem dX10_settle_78 : decode cX10_settle 78 = .ok (.iconst 0, 1) := by decide +kernel
theorem dX10_settle_79 : decode cX10_settle 79 = .ok (.istore 11, 2) := by decide +kernel
theorem dX10_settle_81 : decode cX10_settle 81 = .ok (.iload 11, 2) := by decide +kernel
theorem dX10_settle_83 : decode cX10_settle 83 = .ok (.ifCond .eq 11, 3) := by decide +kernel
theorem dX10_settle_86 : decode cX10_settle 86 = .ok (.iload 6, 2) := by decide +kernel
theorem dX10_settle_88 : decode cX10_settle 88 = .ok (.iload 10, 2) := by decide +kernel
theorem dX10_settle_90 : decode cX10_settle 90 = .ok (.isub, 1) := by decide +kernel
theorem dX10_settle_91 : decode cX10_settle 91 = .ok (.goto 5, 3) := by decide +kernel
theorem dX10_settle_94 : decode cX10_settle 94 = .ok (.iload 4, 2) := by decide +kernel
theorem dX10_settle_96 : decode cX10_settle 96 = .ok (.istore 12, 2) := by decide +kernel
theorem dX10_settle_98 : decode cX10_settle 98 = .ok (.iload 12, 2) := by decide +kernel
theorem dX10_settle_100 : decode cX10_settle 100 = .ok (.iload 8, 2) := by decide +kernel
theorem dX10_settle_102 : decode cX10_settle 102 = .ok (.if_icmp .le 21, 3) := by decide +kernel
theorem dX10_settle_105 : decode cX10_settle 105 = .ok (.iload 12, 2) := by decide +kernel
theorem dX10_settle_107 : decode cX10_settle 107 = .ok (.istore 8, 2) := by decide +kernel
theorem dX10_settle_109 : decode cX10_settle 109 = .ok (.iload 11, 2) := by decide +kernel
theorem dX10_settle_111 : decode cX10_settle 111 = .ok (.ifCond .eq 8, 3) := by decide +kernel
theorem dX10_settle_114 : decode cX10_settle 114 = .ok (.iload 10, 2) := by decide +kernel
theorem dX10_settle_116 : decode cX10_settle 116 = .ok (.goto 5, 3) := by decide +kernel
theorem dX10_settle_119 : decode cX10_settle 119 = .ok (.iload 7, 2) := by decide +kernel
theorem dX10_settle_121 : decode cX10_settle 121 = .ok (.istore 9, 2) := by decide +kernel
theorem dX10_settle_123 : decode cX10_settle 123 = .ok (.iinc 10 1, 3) := by decide +kernel
theorem dX10_settle_126 : decode cX10_settle 126 = .ok (.goto (-66), 3) := by decide +kernel
theorem dX10_settle_129 : decode cX10_settle 129 = .ok (.iload 8, 2) := by decide +kernel
theorem dX10_settle_131 : decode cX10_settle 131 = .ok (.istore_n 3, 1) := by decide +kernel
theorem dX10_settle_132 : decode cX10_settle 132 = .ok (.iload 9, 2) := by decide +kernel
theorem dX10_settle_134 : decode cX10_settle 134 = .ok (.istore 4, 2) := by decide +kernel
theorem dX10_settle_136 : decode cX10_settle 136 = .ok (.iinc 5 (-1), 3) := by decide +kernel
theorem dX10_settle_139 : decode cX10_settle 139 = .ok (.goto (-106), 3) := by decide +kernel
theorem dX10_settle_142 : decode cX10_settle 142 = .ok (.aload_n 0, 1) := by decide +kernel
theorem dX10_settle_143 : decode cX10_settle 143 = .ok (.iload 4, 2) := by decide +kernel
theorem dX10_settle_145 : decode cX10_settle 145 = .ok (.i2l, 1) := by decide +kernel
theorem dX10_settle_146 : decode cX10_settle 146 = .ok (.invokevirtual 263, 3) := by decide +kernel
theorem dX10_settle_149 : decode cX10_settle 149 = .ok (.iload_n 3, 1) := by decide +kernel
theorem dX10_settle_150 : decode cX10_settle 150 = .ok (.ireturn, 1) := by decide +kernel
theorem dX10_strike_0 : decode cX10_strike 0 = .ok (.iload_n 1, 1) := by decide +kernel
theorem dX10_strike_1 : decode cX10_strike 1 = .ok (.ifCond .lt 9, 3) := by decide +kernel
theorem dX10_strike_4 : decode cX10_strike 4 = .ok (.iload_n 1, 1) := by decide +kernel
theorem dX10_strike_5 : decode cX10_strike 5 = .ok (.bipush 99, 2) := by decide +kernel
theorem dX10_strike_7 : decode cX10_strike 7 = .ok (.if_icmp .le 5, 3) := by decide +kernel
theorem dX10_strike_10 : decode cX10_strike 10 = .ok (.iconst (-1), 1) := by decide +kernel
theorem dX10_strike_11 : decode cX10_strike 11 = .ok (.ireturn, 1) := by decide +kernel
theorem dX10_strike_12 : decode cX10_strike 12 = .ok (.iconst 0, 1) := by decide +kernel
theorem dX10_strike_13 : decode cX10_strike 13 = .ok (.istore_n 2, 1) := by decide +kernel
theorem dX10_strike_14 : decode cX10_strike 14 = .ok (.aload_n 0, 1) := by decide +kernel
theorem dX10_strike_15 : decode cX10_strike 15 = .ok (.getfield 19, 3) := by decide +kernel
theorem dX10_strike_18 : decode cX10_strike 18 = .ok (.invokevirtual 289, 3) := by decide +kernel
theorem dX10_strike_21 : decode cX10_strike 21 = .ok (.iconst 0, 1) := by decide +kernel
theorem dX10_strike_22 : decode cX10_strike 22 = .ok (.istore_n 3, 1) := by decide +kernel
theorem dX10_strike_23 : decode cX10_strike 23 = .ok (.iload_n 3, 1) := by decide +kernel
theorem dX10_strike_24 : decode cX10_strike 24 = .ok (.bipush 9, 2) := by decide +kernel
theorem dX10_strike_26 : decode cX10_strike 26 = .ok (.if_icmp .gt 61, 3) := by decide +kernel
theorem dX10_strike_29 : decode cX10_strike 29 = .ok (.iconst 0, 1) := by decide +kernel
theorem dX10_strike_30 : decode cX10_strike 30 = .ok (.istore 4, 2) := by decide +kernel
theorem dX10_strike_32 : decode cX10_strike 32 = .ok (.iload 4, 2) := by decide +kernel
theorem dX10_strike_34 : decode cX10_strike 34 = .ok (.bipush 9, 2) := by decide +kernel
theorem dX10_strike_36 : decode cX10_strike 36 = .ok (.if_icmp .gt 45, 3) := by decide +kernel
theorem dX10_strike_39 : decode cX10_strike 39 = .ok (.iload_n 1, 1) := by decide +kernel
theorem dX10_strike_40 : decode cX10_strike 40 = .ok (.iload_n 3, 1) := by decide +kernel
theorem dX10_strike_41 : decode cX10_strike 41 = .ok (.iload 4, 2) := by decide +kernel
theorem dX10_strike_43 : decode cX10_strike 43 = .ok (.invokestatic 346, 3) := by decide +kernel
theorem dX10_strike_46 : decode cX10_strike 46 = .ok (.ifCond .eq 29, 3) := by decide +kernel
theorem dX10_strike_49 : decode cX10_strike 49 = .ok (.iload_n 1, 1) := by decide +kernel
theorem dX10_strike_50 : decode cX10_strike 50 = .ok (.iload 4, 2) := by decide +kernel
theorem dX10_strike_52 : decode cX10_strike 52 = .ok (.iload_n 3, 1) := by decide +kernel
theorem dX10_strike_53 : decode cX10_strike 53 = .ok (.invokestatic 346, 3) := by decide +kernel
theorem dX10_strike_56 : decode cX10_strike 56 = .ok (.ifCond .eq 19, 3) := by decide +kernel
theorem dX10_strike_59 : decode cX10_strike 59 = .ok (.iload_n 2, 1) := by decide +kernel
theorem dX10_strike_60 : decode cX10_strike 60 = .ok (.ifCond .ne 12, 3) := by decide +kernel
theorem dX10_strike_63 : decode cX10_strike 63 = .ok (.aload_n 0, 1) := by decide +kernel
theorem dX10_strike_64 : decode cX10_strike 64 = .ok (.iload_n 3, 1) := by decide +kernel
theorem dX10_strike_65 : decode cX10_strike 65 = .ok (.i2l, 1) := by decide +kernel
theorem dX10_strike_66 : decode cX10_strike 66 = .ok (.iload 4, 2) := by decide +kernel
theorem dX10_strike_68 : decode cX10_strike 68 = .ok (.i2l, 1) := by decide +kernel
theorem dX10_strike_69 : decode cX10_strike 69 = .ok (.invokevirtual 202, 3) := by decide +kernel
theorem dX10_strike_72 : decode cX10_strike 72 = .ok (.iinc 2 1, 3) := by decide +kernel
theorem dX10_strike_75 : decode cX10_strike 75 = .ok (.iinc 4 1, 3) := by decide +kernel
theorem dX10_strike_78 : decode cX10_strike 78 = .ok (.goto (-46), 3) := by decide +kernel
theorem dX10_strike_81 : decode cX10_strike 81 = .ok (.iinc 3 1, 3) := by decide +kernel
theorem dX10_strike_84 : decode cX10_strike 84 = .ok (.goto (-61), 3) := by decide +kernel
theorem dX10_strike_87 : decode cX10_strike 87 = .ok (.iload_n 2, 1) := by decide +kernel
theorem dX10_strike_88 : decode cX10_strike 88 = .ok (.ireturn, 1) := by decide +kernel
theorem dX10_bestReply_0 : decode cX10_bestReply 0 = .ok (.iconst 0, 1) := by decide +kernel
theorem dX10_bestReply_1 : decode cX10_bestReply 1 = .ok (.istore_n 3, 1) := by decide +kernel
theorem dX10_bestReply_2 : decode cX10_bestReply 2 = .ok (.iload_n 3, 1) := by decide +kernel
theorem dX10_bestReply_3 : decode cX10_bestReply 3 = .ok (.bipush 9, 2) := by decide +kernel
theorem dX10_bestReply_5 : decode cX10_bestReply 5 = .ok (.if_icmp .gt 26, 3) := by decide +kernel
theorem dX10_bestReply_8 : decode cX10_bestReply 8 = .ok (.iload_n 0, 1) := by decide +kernel
theorem dX10_bestReply_9 : decode cX10_bestReply 9 = .ok (.iload_n 3, 1) := by decide +kernel
theorem dX10_bestReply_10 : decode cX10_bestReply 10 = .ok (.iload_n 2, 1) := by decide +kernel
theorem dX10_bestReply_11 : decode cX10_bestReply 11 = .ok (.invokestatic 350, 3) := by decide +kernel
theorem dX10_bestReply_14 : decode cX10_bestReply 14 = .ok (.iload_n 0, 1) := by decide +kernel
theorem dX10_bestReply_15 : decode cX10_bestReply 15 = .ok (.iload_n 1, 1) := by decide +kernel
theorem dX10_bestReply_16 : decode cX10_bestReply 16 = .ok (.iload_n 2, 1) := by decide +kernel
theorem dX10_bestReply_17 : decode cX10_bestReply 17 = .ok (.invokestatic 350, 3) := by decide +kernel
theorem dX10_bestReply_20 : decode cX10_bestReply 20 = .ok (.if_icmp .le 5, 3) := by decide +kernel
theorem dX10_bestReply_23 : decode cX10_bestReply 23 = .ok (.iconst 0, 1) := by decide +kernel
theorem dX10_bestReply_24 : decode cX10_bestReply 24 = .ok (.ireturn, 1) := by decide +kernel
theorem dX10_bestReply_25 : decode cX10_bestReply 25 = .ok (.iinc 3 1, 3) := by decide +kernel
theorem dX10_bestReply_28 : decode cX10_bestReply 28 = .ok (.goto (-26), 3) := by decide +kernel
theorem dX10_bestReply_31 : decode cX10_bestReply 31 = .ok (.iconst 1, 1) := by decide +kernel
theorem dX10_bestReply_32 : decode cX10_bestReply 32 = .ok (.ireturn, 1) := by decide +kernel
theorem dX10_outcome_0 : decode cX10_outcome 0 = .ok (.iload_n 1, 1) := by decide +kernel
theorem dX10_outcome_1 : decode cX10_outcome 1 = .ok (.iload_n 2, 1) := by decide +kernel
theorem dX10_outcome_2 : decode cX10_outcome 2 = .ok (.if_icmp .le 7, 3) := by decide +kernel
theorem dX10_outcome_5 : decode cX10_outcome 5 = .ok (.iload_n 0, 1) := by decide +kernel
theorem dX10_outcome_6 : decode cX10_outcome 6 = .ok (.iload_n 2, 1) := by decide +kernel
theorem dX10_outcome_7 : decode cX10_outcome 7 = .ok (.isub, 1) := by decide +kernel
theorem dX10_outcome_8 : decode cX10_outcome 8 = .ok (.ireturn, 1) := by decide +kernel
theorem dX10_outcome_9 : decode cX10_outcome 9 = .ok (.iload_n 1, 1) := by decide +kernel
theorem dX10_outcome_10 : decode cX10_outcome 10 = .ok (.iload_n 2, 1) := by decide +kernel
theorem dX10_outcome_11 : decode cX10_outcome 11 = .ok (.if_icmp .ge 8, 3) := by decide +kernel
theorem dX10_outcome_14 : decode cX10_outcome 14 = .ok (.iload_n 1, 1) := by decide +kernel
theorem dX10_outcome_15 : decode cX10_outcome 15 = .ok (.ineg, 1) := by decide +kernel
theorem dX10_outcome_16 : decode cX10_outcome 16 = .ok (.goto 8, 3) := by decide +kernel
theorem dX10_outcome_19 : decode cX10_outcome 19 = .ok (.iload_n 0, 1) := by decide +kernel
theorem dX10_outcome_20 : decode cX10_outcome 20 = .ok (.iconst 2, 1) := by decide +kernel
theorem dX10_outcome_21 : decode cX10_outcome 21 = .ok (.idiv, 1) := by decide +kernel
theorem dX10_outcome_22 : decode cX10_outcome 22 = .ok (.iload_n 1, 1) := by decide +kernel
theorem dX10_outcome_23 : decode cX10_outcome 23 = .ok (.isub, 1) := by decide +kernel
theorem dX10_outcome_24 : decode cX10_outcome 24 = .ok (.ireturn, 1) := by decide +kernel
theorem dX10_years_0 : decode cX10_years 0 = .ok (.aload_n 0, 1) := by decide +kernel
theorem dX10_years_1 : decode cX10_years 1 = .ok (.getfield 34, 3) := by decide +kernel
theorem dX10_years_4 : decode cX10_years 4 = .ok (.getfield 38, 3) := by decide +kernel
theorem dX10_years_7 : decode cX10_years 7 = .ok (.getfield 301, 3) := by decide +kernel
theorem dX10_years_10 : decode cX10_years 10 = .ok (.istore_n 3, 1) := by decide +kernel
theorem dX10_years_11 : decode cX10_years 11 = .ok (.iload_n 2, 1) := by decide +kernel
theorem dX10_years_12 : decode cX10_years 12 = .ok (.iconst 1, 1) := by decide +kernel
theorem dX10_years_13 : decode cX10_years 13 = .ok (.if_icmp .lt 15, 3) := by decide +kernel
theorem dX10_years_16 : decode cX10_years 16 = .ok (.iload_n 2, 1) := by decide +kernel
theorem dX10_years_17 : decode cX10_years 17 = .ok (.sipush 300, 3) := by decide +kernel
theorem dX10_years_20 : decode cX10_years 20 = .ok (.if_icmp .gt 8, 3) := by decide +kernel
theorem dX10_years_23 : decode cX10_years 23 = .ok (.iload_n 3, 1) := by decide +kernel
theorem dX10_years_24 : decode cX10_years 24 = .ok (.iconst 1, 1) := by decide +kernel
theorem dX10_years_25 : decode cX10_years 25 = .ok (.if_icmp .ge 5, 3) := by decide +kernel
theorem dX10_years_28 : decode cX10_years 28 = .ok (.iconst (-1), 1) := by decide +kernel
theorem dX10_years_29 : decode cX10_years 29 = .ok (.ireturn, 1) := by decide +kernel
theorem dX10_years_30 : decode cX10_years 30 = .ok (.iload_n 1, 1) := by decide +kernel
theorem dX10_years_31 : decode cX10_years 31 = .ok (.istore 4, 2) := by decide +kernel
theorem dX10_years_33 : decode cX10_years 33 = .ok (.aload_n 0, 1) := by decide +kernel
theorem dX10_years_34 : decode cX10_years 34 = .ok (.getfield 62, 3) := by decide +kernel
theorem dX10_years_37 : decode cX10_years 37 = .ok (.aload_n 0, 1) := by decide +kernel
theorem dX10_years_38 : decode cX10_years 38 = .ok (.getfield 58, 3) := by decide +kernel
theorem dX10_years_41 : decode cX10_years 41 = .ok (.invokevirtual 180, 3) := by decide +kernel
theorem dX10_years_44 : decode cX10_years 44 = .ok (.iconst 0, 1) := by decide +kernel
theorem dX10_years_45 : decode cX10_years 45 = .ok (.istore 5, 2) := by decide +kernel
theorem dX10_years_47 : decode cX10_years 47 = .ok (.iload 5, 2) := by decide +kernel
theorem dX10_years_49 : decode cX10_years 49 = .ok (.iload_n 2, 1) := by decide +kernel
theorem dX10_years_50 : decode cX10_years 50 = .ok (.if_icmp .ge 96, 3) := by decide +kernel
theorem dX10_years_53 : decode cX10_years 53 = .ok (.iload 4, 2) := by decide +kernel
theorem dX10_years_55 : decode cX10_years 55 = .ok (.ldc_w 353, 3) := by decide +kernel
theorem dX10_years_58 : decode cX10_years 58 = .ok (.imul, 1) := by decide +kernel
theorem dX10_years_59 : decode cX10_years 59 = .ok (.sipush 12345, 3) := by decide +kernel
theorem dX10_years_62 : decode cX10_years 62 = .ok (.iadd, 1) := by decide +kernel
theorem dX10_years_63 : decode cX10_years 63 = .ok (.istore 4, 2) := by decide +kernel
theorem dX10_years_65 : decode cX10_years 65 = .ok (.iconst 1, 1) := by decide +kernel
theorem dX10_years_66 : decode cX10_years 66 = .ok (.iload 4, 2) := by decide +kernel
theorem dX10_years_68 : decode cX10_years 68 = .ok (.bipush 16, 2) := by decide +kernel
theorem dX10_years_70 : decode cX10_years 70 = .ok (.iushr, 1) := by decide +kernel
theorem dX10_years_71 : decode cX10_years 71 = .ok (.iload_n 3, 1) := by decide +kernel
theorem dX10_years_72 : decode cX10_years 72 = .ok (.irem, 1) := by decide +kernel
theorem dX10_years_73 : decode cX10_years 73 = .ok (.ishl, 1) := by decide +kernel
theorem dX10_years_74 : decode cX10_years 74 = .ok (.istore 6, 2) := by decide +kernel
theorem dX10_years_76 : decode cX10_years 76 = .ok (.aload_n 0, 1) := by decide +kernel
theorem dX10_years_77 : decode cX10_years 77 = .ok (.getfield 62, 3) := by decide +kernel
theorem dX10_years_80 : decode cX10_years 80 = .ok (.getfield 148, 3) := by decide +kernel
theorem dX10_years_83 : decode cX10_years 83 = .ok (.iload 6, 2) := by decide +kernel
theorem dX10_years_85 : decode cX10_years 85 = .ok (.iand, 1) := by decide +kernel
theorem dX10_years_86 : decode cX10_years 86 = .ok (.ifCond .eq 7, 3) := by decide +kernel
theorem dX10_years_89 : decode cX10_years 89 = .ok (.iconst 1, 1) := by decide +kernel
theorem dX10_years_90 : decode cX10_years 90 = .ok (.goto 4, 3) := by decide +kernel
theorem dX10_years_93 : decode cX10_years 93 = .ok (.iconst 0, 1) := by decide +kernel
theorem dX10_years_94 : decode cX10_years 94 = .ok (.istore 7, 2) := by decide +kernel
theorem dX10_years_96 : decode cX10_years 96 = .ok (.iload 7, 2) := by decide +kernel
theorem dX10_years_98 : decode cX10_years 98 = .ok (.ifCond .ne 17, 3) := by decide +kernel
theorem dX10_years_101 : decode cX10_years 101 = .ok (.aload_n 0, 1) := by decide +kernel
theorem dX10_years_102 : decode cX10_years 102 = .ok (.getfield 62, 3) := by decide +kernel
theorem dX10_years_105 : decode cX10_years 105 = .ok (.getfield 148, 3) := by decide +kernel
theorem dX10_years_108 : decode cX10_years 108 = .ok (.invokestatic 228, 3) := by decide +kernel
theorem dX10_years_111 : decode cX10_years 111 = .ok (.iconst 3, 1) := by decide +kernel
theorem dX10_years_112 : decode cX10_years 112 = .ok (.if_icmp .ge 17, 3) := by decide +kernel
theorem dX10_years_115 : decode cX10_years 115 = .ok (.aload_n 0, 1) := by decide +kernel
theorem dX10_years_116 : decode cX10_years 116 = .ok (.getfield 62, 3) := by decide +kernel
theorem dX10_years_119 : decode cX10_years 119 = .ok (.dup, 1) := by decide +kernel
theorem dX10_years_120 : decode cX10_years 120 = .ok (.getfield 148, 3) := by decide +kernel
theorem dX10_years_123 : decode cX10_years 123 = .ok (.iload 6, 2) := by decide +kernel
theorem dX10_years_125 : decode cX10_years 125 = .ok (.ixor, 1) := by decide +kernel
theorem dX10_years_126 : decode cX10_years 126 = .ok (.putfield 148, 3) := by decide +kernel
theorem dX10_years_129 : decode cX10_years 129 = .ok (.aload_n 0, 1) := by decide +kernel
theorem dX10_years_130 : decode cX10_years 130 = .ok (.getfield 34, 3) := by decide +kernel
theorem dX10_years_133 : decode cX10_years 133 = .ok (.aload_n 0, 1) := by decide +kernel
theorem dX10_years_134 : decode cX10_years 134 = .ok (.getfield 62, 3) := by decide +kernel
theorem dX10_years_137 : decode cX10_years 137 = .ok (.invokevirtual 239, 3) := by decide +kernel
theorem dX10_years_140 : decode cX10_years 140 = .ok (.iinc 5 1, 3) := by decide +kernel
theorem dX10_years_143 : decode cX10_years 143 = .ok (.goto (-96), 3) := by decide +kernel
theorem dX10_years_146 : decode cX10_years 146 = .ok (.aload_n 0, 1) := by decide +kernel
theorem dX10_years_147 : decode cX10_years 147 = .ok (.aload_n 0, 1) := by decide +kernel
theorem dX10_years_148 : decode cX10_years 148 = .ok (.getfield 62, 3) := by decide +kernel
theorem dX10_years_151 : decode cX10_years 151 = .ok (.getfield 236, 3) := by decide +kernel
theorem dX10_years_154 : decode cX10_years 154 = .ok (.aload_n 0, 1) := by decide +kernel
theorem dX10_years_155 : decode cX10_years 155 = .ok (.getfield 58, 3) := by decide +kernel
theorem dX10_years_158 : decode cX10_years 158 = .ok (.getfield 236, 3) := by decide +kernel
theorem dX10_years_161 : decode cX10_years 161 = .ok (.isub, 1) := by decide +kernel
theorem dX10_years_162 : decode cX10_years 162 = .ok (.i2l, 1) := by decide +kernel
theorem dX10_years_163 : decode cX10_years 163 = .ok (.aload_n 0, 1) := by decide +kernel
theorem dX10_years_164 : decode cX10_years 164 = .ok (.getfield 62, 3) := by decide +kernel
theorem dX10_years_167 : decode cX10_years 167 = .ok (.invokevirtual 168, 3) := by decide +kernel
theorem dX10_years_170 : decode cX10_years 170 = .ok (.i2l, 1) := by decide +kernel
theorem dX10_years_171 : decode cX10_years 171 = .ok (.aload_n 0, 1) := by decide +kernel
theorem dX10_years_172 : decode cX10_years 172 = .ok (.getfield 62, 3) := by decide +kernel
theorem dX10_years_175 : decode cX10_years 175 = .ok (.getfield 145, 3) := by decide +kernel
theorem dX10_years_178 : decode cX10_years 178 = .ok (.invokestatic 228, 3) := by decide +kernel
theorem dX10_years_181 : decode cX10_years 181 = .ok (.i2l, 1) := by decide +kernel
theorem dX10_years_182 : decode cX10_years 182 = .ok (.invokevirtual 354, 3) := by decide +kernel
theorem dX10_years_185 : decode cX10_years 185 = .ok (.aload_n 0, 1) := by decide +kernel
theorem dX10_years_186 : decode cX10_years 186 = .ok (.getfield 62, 3) := by decide +kernel
theorem dX10_years_189 : decode cX10_years 189 = .ok (.getfield 199, 3) := by decide +kernel
theorem dX10_years_192 : decode cX10_years 192 = .ok (.aload_n 0, 1) := by decide +kernel
theorem dX10_years_193 : decode cX10_years 193 = .ok (.getfield 58, 3) := by decide +kernel
theorem dX10_years_196 : decode cX10_years 196 = .ok (.getfield 199, 3) := by decide +kernel
theorem dX10_years_199 : decode cX10_years 199 = .ok (.isub, 1) := by decide +kernel
theorem dX10_years_200 : decode cX10_years 200 = .ok (.ireturn, 1) := by decide +kernel
theorem dX10_keep_0 : decode cX10_keep 0 = .ok (.iload_n 1, 1) := by decide +kernel
theorem dX10_keep_1 : decode cX10_keep 1 = .ok (.ifCond .lt 12, 3) := by decide +kernel
theorem dX10_keep_4 : decode cX10_keep 4 = .ok (.iload_n 1, 1) := by decide +kernel
theorem dX10_keep_5 : decode cX10_keep 5 = .ok (.aload_n 0, 1) := by decide +kernel
theorem dX10_keep_6 : decode cX10_keep 6 = .ok (.getfield 75, 3) := by decide +kernel
theorem dX10_keep_9 : decode cX10_keep 9 = .ok (.arraylength, 1) := by decide +kernel
theorem dX10_keep_10 : decode cX10_keep 10 = .ok (.if_icmp .lt 5, 3) := by decide +kernel
theorem dX10_keep_13 : decode cX10_keep 13 = .ok (.iconst 0, 1) := by decide +kernel
theorem dX10_keep_14 : decode cX10_keep 14 = .ok (.ireturn, 1) := by decide +kernel
theorem dX10_keep_15 : decode cX10_keep 15 = .ok (.aload_n 0, 1) := by decide +kernel
theorem dX10_keep_16 : decode cX10_keep 16 = .ok (.getfield 75, 3) := by decide +kernel
theorem dX10_keep_19 : decode cX10_keep 19 = .ok (.iload_n 1, 1) := by decide +kernel
theorem dX10_keep_20 : decode cX10_keep 20 = .ok (.aaload, 1) := by decide +kernel
theorem dX10_keep_21 : decode cX10_keep 21 = .ok (.aload_n 0, 1) := by decide +kernel
theorem dX10_keep_22 : decode cX10_keep 22 = .ok (.getfield 58, 3) := by decide +kernel
theorem dX10_keep_25 : decode cX10_keep 25 = .ok (.invokevirtual 180, 3) := by decide +kernel
theorem dX10_keep_28 : decode cX10_keep 28 = .ok (.aload_n 0, 1) := by decide +kernel
theorem dX10_keep_29 : decode cX10_keep 29 = .ok (.dup, 1) := by decide +kernel
theorem dX10_keep_30 : decode cX10_keep 30 = .ok (.getfield 79, 3) := by decide +kernel
theorem dX10_keep_33 : decode cX10_keep 33 = .ok (.iconst 1, 1) := by decide +kernel
theorem dX10_keep_34 : decode cX10_keep 34 = .ok (.iload_n 1, 1) := by decide +kernel
theorem dX10_keep_35 : decode cX10_keep 35 = .ok (.ishl, 1) := by decide +kernel
theorem dX10_keep_36 : decode cX10_keep 36 = .ok (.ior, 1) := by decide +kernel
theorem dX10_keep_37 : decode cX10_keep 37 = .ok (.putfield 79, 3) := by decide +kernel
theorem dX10_keep_40 : decode cX10_keep 40 = .ok (.iconst 1, 1) := by decide +kernel
theorem dX10_keep_41 : decode cX10_keep 41 = .ok (.ireturn, 1) := by decide +kernel
theorem dX10_again_0 : decode cX10_again 0 = .ok (.iload_n 1, 1) := by decide +kernel
theorem dX10_again_1 : decode cX10_again 1 = .ok (.ifCond .lt 23, 3) := by decide +kernel
theorem dX10_again_4 : decode cX10_again 4 = .ok (.iload_n 1, 1) := by decide +kernel
theorem dX10_again_5 : decode cX10_again 5 = .ok (.aload_n 0, 1) := by decide +kernel
theorem dX10_again_6 : decode cX10_again 6 = .ok (.getfield 75, 3) := by decide +kernel
theorem dX10_again_9 : decode cX10_again 9 = .ok (.arraylength, 1) := by decide +kernel
theorem dX10_again_10 : decode cX10_again 10 = .ok (.if_icmp .ge 14, 3) := by decide +kernel
theorem dX10_again_13 : decode cX10_again 13 = .ok (.aload_n 0, 1) := by decide +kernel
theorem dX10_again_14 : decode cX10_again 14 = .ok (.getfield 79, 3) := by decide +kernel
theorem dX10_again_17 : decode cX10_again 17 = .ok (.iload_n 1, 1) := by decide +kernel
theorem dX10_again_18 : decode cX10_again 18 = .ok (.ishr, 1) := by decide +kernel
theorem dX10_again_19 : decode cX10_again 19 = .ok (.iconst 1, 1) := by decide +kernel
theorem dX10_again_20 : decode cX10_again 20 = .ok (.iand, 1) := by decide +kernel
theorem dX10_again_21 : decode cX10_again 21 = .ok (.ifCond .ne 5, 3) := by decide +kernel
theorem dX10_again_24 : decode cX10_again 24 = .ok (.iconst 0, 1) := by decide +kernel
theorem dX10_again_25 : decode cX10_again 25 = .ok (.ireturn, 1) := by decide +kernel
theorem dX10_again_26 : decode cX10_again 26 = .ok (.aload_n 0, 1) := by decide +kernel
theorem dX10_again_27 : decode cX10_again 27 = .ok (.getfield 58, 3) := by decide +kernel
theorem dX10_again_30 : decode cX10_again 30 = .ok (.aload_n 0, 1) := by decide +kernel
theorem dX10_again_31 : decode cX10_again 31 = .ok (.getfield 75, 3) := by decide +kernel
theorem dX10_again_34 : decode cX10_again 34 = .ok (.iload_n 1, 1) := by decide +kernel
theorem dX10_again_35 : decode cX10_again 35 = .ok (.aaload, 1) := by decide +kernel
theorem dX10_again_36 : decode cX10_again 36 = .ok (.invokevirtual 180, 3) := by decide +kernel
theorem dX10_again_39 : decode cX10_again 39 = .ok (.aload_n 0, 1) := by decide +kernel
theorem dX10_again_40 : decode cX10_again 40 = .ok (.getfield 71, 3) := by decide +kernel
theorem dX10_again_43 : decode cX10_again 43 = .ok (.invokevirtual 115, 3) := by decide +kernel
theorem dX10_again_46 : decode cX10_again 46 = .ok (.iconst 1, 1) := by decide +kernel
theorem dX10_again_47 : decode cX10_again 47 = .ok (.ireturn, 1) := by decide +kernel
theorem dX10_count_0 : decode cX10_count 0 = .ok (.iload_n 1, 1) := by decide +kernel
theorem dX10_count_1 : decode cX10_count 1 = .ok (.tableswitch 129 0 8 #[51, 62, 73, 81, 89, 97, 105, 113, 121], 51) := by decide +kernel
theorem dX10_count_52 : decode cX10_count 52 = .ok (.aload_n 0, 1) := by decide +kernel
theorem dX10_count_53 : decode cX10_count 53 = .ok (.getfield 34, 3) := by decide +kernel
theorem dX10_count_56 : decode cX10_count 56 = .ok (.getfield 38, 3) := by decide +kernel
theorem dX10_count_59 : decode cX10_count 59 = .ok (.getfield 301, 3) := by decide +kernel
theorem dX10_count_62 : decode cX10_count 62 = .ok (.ireturn, 1) := by decide +kernel
theorem dX10_count_63 : decode cX10_count 63 = .ok (.aload_n 0, 1) := by decide +kernel
theorem dX10_count_64 : decode cX10_count 64 = .ok (.getfield 34, 3) := by decide +kernel
theorem dX10_count_67 : decode cX10_count 67 = .ok (.getfield 42, 3) := by decide +kernel
theorem dX10_count_70 : decode cX10_count 70 = .ok (.getfield 301, 3) := by decide +kernel
theorem dX10_count_73 : decode cX10_count 73 = .ok (.ireturn, 1) := by decide +kernel
theorem dX10_count_74 : decode cX10_count 74 = .ok (.aload_n 0, 1) := by decide +kernel
theorem dX10_count_75 : decode cX10_count 75 = .ok (.getfield 58, 3) := by decide +kernel
theorem dX10_count_78 : decode cX10_count 78 = .ok (.getfield 148, 3) := by decide +kernel
theorem dX10_count_81 : decode cX10_count 81 = .ok (.ireturn, 1) := by decide +kernel
theorem dX10_count_82 : decode cX10_count 82 = .ok (.aload_n 0, 1) := by decide +kernel
theorem dX10_count_83 : decode cX10_count 83 = .ok (.getfield 58, 3) := by decide +kernel
theorem dX10_count_86 : decode cX10_count 86 = .ok (.getfield 233, 3) := by decide +kernel
theorem dX10_count_89 : decode cX10_count 89 = .ok (.ireturn, 1) := by decide +kernel
theorem dX10_count_90 : decode cX10_count 90 = .ok (.aload_n 0, 1) := by decide +kernel
theorem dX10_count_91 : decode cX10_count 91 = .ok (.getfield 58, 3) := by decide +kernel
theorem dX10_count_94 : decode cX10_count 94 = .ok (.getfield 357, 3) := by decide +kernel
theorem dX10_count_97 : decode cX10_count 97 = .ok (.ireturn, 1) := by decide +kernel
theorem dX10_count_98 : decode cX10_count 98 = .ok (.aload_n 0, 1) := by decide +kernel
theorem dX10_count_99 : decode cX10_count 99 = .ok (.getfield 58, 3) := by decide +kernel
theorem dX10_count_102 : decode cX10_count 102 = .ok (.getfield 236, 3) := by decide +kernel
theorem dX10_count_105 : decode cX10_count 105 = .ok (.ireturn, 1) := by decide +kernel
theorem dX10_count_106 : decode cX10_count 106 = .ok (.aload_n 0, 1) := by decide +kernel
theorem dX10_count_107 : decode cX10_count 107 = .ok (.getfield 58, 3) := by decide +kernel
theorem dX10_count_110 : decode cX10_count 110 = .ok (.getfield 260, 3) := by decide +kernel
theorem dX10_count_113 : decode cX10_count 113 = .ok (.ireturn, 1) := by decide +kernel
theorem dX10_count_114 : decode cX10_count 114 = .ok (.aload_n 0, 1) := by decide +kernel
theorem dX10_count_115 : decode cX10_count 115 = .ok (.getfield 58, 3) := by decide +kernel
theorem dX10_count_118 : decode cX10_count 118 = .ok (.getfield 199, 3) := by decide +kernel
theorem dX10_count_121 : decode cX10_count 121 = .ok (.ireturn, 1) := by decide +kernel
theorem dX10_count_122 : decode cX10_count 122 = .ok (.aload_n 0, 1) := by decide +kernel
theorem dX10_count_123 : decode cX10_count 123 = .ok (.getfield 58, 3) := by decide +kernel
theorem dX10_count_126 : decode cX10_count 126 = .ok (.getfield 250, 3) := by decide +kernel
theorem dX10_count_129 : decode cX10_count 129 = .ok (.ireturn, 1) := by decide +kernel
theorem dX10_count_130 : decode cX10_count 130 = .ok (.aload_n 0, 1) := by decide +kernel
theorem dX10_count_131 : decode cX10_count 131 = .ok (.iload_n 1, 1) := by decide +kernel
theorem dX10_count_132 : decode cX10_count 132 = .ok (.invokevirtual 360, 3) := by decide +kernel
theorem dX10_count_135 : decode cX10_count 135 = .ok (.ireturn, 1) := by decide +kernel
theorem dX10_countFurther_0 : decode cX10_countFurther 0 = .ok (.iload_n 1, 1) := by decide +kernel
theorem dX10_countFurther_1 : decode cX10_countFurther 1 = .ok (.tableswitch 111 9 16 #[47, 55, 63, 71, 79, 87, 95, 103], 47) := by decide +kernel
theorem dX10_countFurther_48 : decode cX10_countFurther 48 = .ok (.aload_n 0, 1) := by decide +kernel
theorem dX10_countFurther_49 : decode cX10_countFurther 49 = .ok (.getfield 58, 3) := by decide +kernel
theorem dX10_countFurther_52 : decode cX10_countFurther 52 = .ok (.getfield 145, 3) := by decide +kernel
theorem dX10_countFurther_55 : decode cX10_countFurther 55 = .ok (.ireturn, 1) := by decide +kernel
theorem dX10_countFurther_56 : decode cX10_countFurther 56 = .ok (.aload_n 0, 1) := by decide +kernel
theorem dX10_countFurther_57 : decode cX10_countFurther 57 = .ok (.getfield 34, 3) := by decide +kernel
theorem dX10_countFurther_60 : decode cX10_countFurther 60 = .ok (.getfield 151, 3) := by decide +kernel
theorem dX10_countFurther_63 : decode cX10_countFurther 63 = .ok (.ireturn, 1) := by decide +kernel
theorem dX10_countFurther_64 : decode cX10_countFurther 64 = .ok (.aload_n 0, 1) := by decide +kernel
theorem dX10_countFurther_65 : decode cX10_countFurther 65 = .ok (.getfield 34, 3) := by decide +kernel
theorem dX10_countFurther_68 : decode cX10_countFurther 68 = .ok (.getfield 154, 3) := by decide +kernel
theorem dX10_countFurther_71 : decode cX10_countFurther 71 = .ok (.ireturn, 1) := by decide +kernel
theorem dX10_countFurther_72 : decode cX10_countFurther 72 = .ok (.aload_n 0, 1) := by decide +kernel
theorem dX10_countFurther_73 : decode cX10_countFurther 73 = .ok (.getfield 34, 3) := by decide +kernel
theorem dX10_countFurther_76 : decode cX10_countFurther 76 = .ok (.getfield 157, 3) := by decide +kernel
theorem dX10_countFurther_79 : decode cX10_countFurther 79 = .ok (.ireturn, 1) := by decide +kernel
theorem dX10_countFurther_80 : decode cX10_countFurther 80 = .ok (.aload_n 0, 1) := by decide +kernel
theorem dX10_countFurther_81 : decode cX10_countFurther 81 = .ok (.getfield 93, 3) := by decide +kernel
theorem dX10_countFurther_84 : decode cX10_countFurther 84 = .ok (.getfield 312, 3) := by decide +kernel
theorem dX10_countFurther_87 : decode cX10_countFurther 87 = .ok (.ireturn, 1) := by decide +kernel
theorem dX10_countFurther_88 : decode cX10_countFurther 88 = .ok (.aload_n 0, 1) := by decide +kernel
theorem dX10_countFurther_89 : decode cX10_countFurther 89 = .ok (.getfield 71, 3) := by decide +kernel
theorem dX10_countFurther_92 : decode cX10_countFurther 92 = .ok (.getfield 363, 3) := by decide +kernel
theorem dX10_countFurther_95 : decode cX10_countFurther 95 = .ok (.ireturn, 1) := by decide +kernel
theorem dX10_countFurther_96 : decode cX10_countFurther 96 = .ok (.aload_n 0, 1) := by decide +kernel
theorem dX10_countFurther_97 : decode cX10_countFurther 97 = .ok (.getfield 19, 3) := by decide +kernel
theorem dX10_countFurther_100 : decode cX10_countFurther 100 = .ok (.getfield 364, 3) := by decide +kernel
theorem dX10_countFurther_103 : decode cX10_countFurther 103 = .ok (.ireturn, 1) := by decide +kernel
theorem dX10_countFurther_104 : decode cX10_countFurther 104 = .ok (.aload_n 0, 1) := by decide +kernel
theorem dX10_countFurther_105 : decode cX10_countFurther 105 = .ok (.getfield 10, 3) := by decide +kernel
theorem dX10_countFurther_108 : decode cX10_countFurther 108 = .ok (.getfield 97, 3) := by decide +kernel
theorem dX10_countFurther_111 : decode cX10_countFurther 111 = .ok (.ireturn, 1) := by decide +kernel
theorem dX10_countFurther_112 : decode cX10_countFurther 112 = .ok (.bipush (-100), 2) := by decide +kernel
theorem dX10_countFurther_114 : decode cX10_countFurther 114 = .ok (.ireturn, 1) := by decide +kernel
theorem dX10_row_0 : decode cX10_row 0 = .ok (.iload_n 1, 1) := by decide +kernel
theorem dX10_row_1 : decode cX10_row 1 = .ok (.ifCond .lt 14, 3) := by decide +kernel
theorem dX10_row_4 : decode cX10_row 4 = .ok (.iload_n 1, 1) := by decide +kernel
theorem dX10_row_5 : decode cX10_row 5 = .ok (.aload_n 0, 1) := by decide +kernel
theorem dX10_row_6 : decode cX10_row 6 = .ok (.getfield 19, 3) := by decide +kernel
theorem dX10_row_9 : decode cX10_row 9 = .ok (.getfield 364, 3) := by decide +kernel
theorem dX10_row_12 : decode cX10_row 12 = .ok (.if_icmp .lt 11, 3) := by decide +kernel
theorem dX10_row_15 : decode cX10_row 15 = .ok (.new 125, 3) := by decide +kernel
theorem dX10_row_18 : decode cX10_row 18 = .ok (.dup, 1) := by decide +kernel
theorem dX10_row_19 : decode cX10_row 19 = .ok (.invokespecial 127, 3) := by decide +kernel
theorem dX10_row_22 : decode cX10_row 22 = .ok (.athrow, 1) := by decide +kernel
theorem dX10_row_23 : decode cX10_row 23 = .ok (.aload_n 0, 1) := by decide +kernel
theorem dX10_row_24 : decode cX10_row 24 = .ok (.getfield 19, 3) := by decide +kernel
theorem dX10_row_27 : decode cX10_row 27 = .ok (.iload_n 1, 1) := by decide +kernel
theorem dX10_row_28 : decode cX10_row 28 = .ok (.invokevirtual 365, 3) := by decide +kernel
theorem dX10_row_31 : decode cX10_row 31 = .ok (.lreturn, 1) := by decide +kernel
theorem dX10_tell_0 : decode cX10_tell 0 = .ok (.aload_n 0, 1) := by decide +kernel
theorem dX10_tell_1 : decode cX10_tell 1 = .ok (.getfield 19, 3) := by decide +kernel
theorem dX10_tell_4 : decode cX10_tell 4 = .ok (.invokevirtual 289, 3) := by decide +kernel
theorem dX10_tell_7 : decode cX10_tell 7 = .ok (.aload_n 0, 1) := by decide +kernel
theorem dX10_tell_8 : decode cX10_tell 8 = .ok (.getfield 19, 3) := by decide +kernel
theorem dX10_tell_11 : decode cX10_tell 11 = .ok (.lload_n 1, 1) := by decide +kernel
theorem dX10_tell_12 : decode cX10_tell 12 = .ok (.invokevirtual 293, 3) := by decide +kernel
theorem dX10_tell_15 : decode cX10_tell 15 = .ok (.return_, 1) := by decide +kernel
theorem dX10_tell__0 : decode cX10_tell_ 0 = .ok (.aload_n 0, 1) := by decide +kernel
theorem dX10_tell__1 : decode cX10_tell_ 1 = .ok (.getfield 19, 3) := by decide +kernel
theorem dX10_tell__4 : decode cX10_tell_ 4 = .ok (.invokevirtual 289, 3) := by decide +kernel
theorem dX10_tell__7 : decode cX10_tell_ 7 = .ok (.aload_n 0, 1) := by decide +kernel
theorem dX10_tell__8 : decode cX10_tell_ 8 = .ok (.getfield 19, 3) := by decide +kernel
theorem dX10_tell__11 : decode cX10_tell_ 11 = .ok (.lload_n 1, 1) := by decide +kernel
theorem dX10_tell__12 : decode cX10_tell_ 12 = .ok (.invokevirtual 293, 3) := by decide +kernel
theorem dX10_tell__15 : decode cX10_tell_ 15 = .ok (.aload_n 0, 1) := by decide +kernel
theorem dX10_tell__16 : decode cX10_tell_ 16 = .ok (.getfield 19, 3) := by decide +kernel
theorem dX10_tell__19 : decode cX10_tell_ 19 = .ok (.lload_n 3, 1) := by decide +kernel
theorem dX10_tell__20 : decode cX10_tell_ 20 = .ok (.invokevirtual 293, 3) := by decide +kernel
theorem dX10_tell__23 : decode cX10_tell_ 23 = .ok (.return_, 1) := by decide +kernel
theorem dX10_tell___0 : decode cX10_tell__ 0 = .ok (.aload_n 0, 1) := by decide +kernel
theorem dX10_tell___1 : decode cX10_tell__ 1 = .ok (.getfield 19, 3) := by decide +kernel
theorem dX10_tell___4 : decode cX10_tell__ 4 = .ok (.invokevirtual 289, 3) := by decide +kernel
theorem dX10_tell___7 : decode cX10_tell__ 7 = .ok (.aload_n 0, 1) := by decide +kernel
theorem dX10_tell___8 : decode cX10_tell__ 8 = .ok (.getfield 19, 3) := by decide +kernel
theorem dX10_tell___11 : decode cX10_tell__ 11 = .ok (.lload_n 1, 1) := by decide +kernel
theorem dX10_tell___12 : decode cX10_tell__ 12 = .ok (.invokevirtual 293, 3) := by decide +kernel
theorem dX10_tell___15 : decode cX10_tell__ 15 = .ok (.aload_n 0, 1) := by decide +kernel
theorem dX10_tell___16 : decode cX10_tell__ 16 = .ok (.getfield 19, 3) := by decide +kernel
theorem dX10_tell___19 : decode cX10_tell__ 19 = .ok (.lload_n 3, 1) := by decide +kernel
theorem dX10_tell___20 : decode cX10_tell__ 20 = .ok (.invokevirtual 293, 3) := by decide +kernel
theorem dX10_tell___23 : decode cX10_tell__ 23 = .ok (.aload_n 0, 1) := by decide +kernel
theorem dX10_tell___24 : decode cX10_tell__ 24 = .ok (.getfield 19, 3) := by decide +kernel
theorem dX10_tell___27 : decode cX10_tell__ 27 = .ok (.lload 5, 2) := by decide +kernel
theorem dX10_tell___29 : decode cX10_tell__ 29 = .ok (.invokevirtual 293, 3) := by decide +kernel
theorem dX10_tell___32 : decode cX10_tell__ 32 = .ok (.return_, 1) := by decide +kernel
theorem dX11_init_0 : decode cX11_init 0 = .ok (.aload_n 0, 1) := by decide +kernel
theorem dX11_init_1 : decode cX11_init 1 = .ok (.invokespecial 3, 3) := by decide +kernel
theorem dX11_init_4 : decode cX11_init 4 = .ok (.aload_n 0, 1) := by decide +kernel
theorem dX11_init_5 : decode cX11_init 5 = .ok (.bipush 24, 2) := by decide +kernel
theorem dX11_init_7 : decode cX11_init 7 = .ok (.newarray .long, 2) := by decide +kernel
theorem dX11_init_9 : decode cX11_init 9 = .ok (.putfield 9, 3) := by decide +kernel
theorem dX11_init_12 : decode cX11_init 12 = .ok (.aload_n 0, 1) := by decide +kernel
theorem dX11_init_13 : decode cX11_init 13 = .ok (.bipush 8, 2) := by decide +kernel
theorem dX11_init_15 : decode cX11_init 15 = .ok (.newarray .int, 2) := by decide +kernel
theorem dX11_init_17 : decode cX11_init 17 = .ok (.putfield 13, 3) := by decide +kernel
theorem dX11_init_20 : decode cX11_init 20 = .ok (.aload_n 0, 1) := by decide +kernel
theorem dX11_init_21 : decode cX11_init 21 = .ok (.bipush 8, 2) := by decide +kernel
theorem dX11_init_23 : decode cX11_init 23 = .ok (.newarray .int, 2) := by decide +kernel
theorem dX11_init_25 : decode cX11_init 25 = .ok (.putfield 17, 3) := by decide +kernel
theorem dX11_init_28 : decode cX11_init 28 = .ok (.aload_n 0, 1) := by decide +kernel
theorem dX11_init_29 : decode cX11_init 29 = .ok (.bipush 8, 2) := by decide +kernel
theorem dX11_init_31 : decode cX11_init 31 = .ok (.newarray .int, 2) := by decide +kernel
theorem dX11_init_33 : decode cX11_init 33 = .ok (.putfield 20, 3) := by decide +kernel
theorem dX11_init_36 : decode cX11_init 36 = .ok (.aload_n 0, 1) := by decide +kernel
theorem dX11_init_37 : decode cX11_init 37 = .ok (.bipush 8, 2) := by decide +kernel
theorem dX11_init_39 : decode cX11_init 39 = .ok (.newarray .int, 2) := by decide +kernel
theorem dX11_init_41 : decode cX11_init 41 = .ok (.putfield 23, 3) := by decide +kernel
theorem dX11_init_44 : decode cX11_init 44 = .ok (.aload_n 0, 1) := by decide +kernel
theorem dX11_init_45 : decode cX11_init 45 = .ok (.iconst 3, 1) := by decide +kernel
theorem dX11_init_46 : decode cX11_init 46 = .ok (.newarray .int, 2) := by decide +kernel
theorem dX11_init_48 : decode cX11_init 48 = .ok (.dup, 1) := by decide +kernel
theorem dX11_init_49 : decode cX11_init 49 = .ok (.iconst 0, 1) := by decide +kernel
theorem dX11_init_50 : decode cX11_init 50 = .ok (.iconst 5, 1) := by decide +kernel
theorem dX11_init_51 : decode cX11_init 51 = .ok (.iastore, 1) := by decide +kernel
theorem dX11_init_52 : decode cX11_init 52 = .ok (.dup, 1) := by decide +kernel
theorem dX11_init_53 : decode cX11_init 53 = .ok (.iconst 1, 1) := by decide +kernel
theorem dX11_init_54 : decode cX11_init 54 = .ok (.iconst 0, 1) := by decide +kernel
theorem dX11_init_55 : decode cX11_init 55 = .ok (.iastore, 1) := by decide +kernel
theorem dX11_init_56 : decode cX11_init 56 = .ok (.dup, 1) := by decide +kernel
theorem dX11_init_57 : decode cX11_init 57 = .ok (.iconst 2, 1) := by decide +kernel
theorem dX11_init_58 : decode cX11_init 58 = .ok (.iconst 2, 1) := by decide +kernel
theorem dX11_init_59 : decode cX11_init 59 = .ok (.iastore, 1) := by decide +kernel
theorem dX11_init_60 : decode cX11_init 60 = .ok (.putfield 26, 3) := by decide +kernel
theorem dX11_init_63 : decode cX11_init 63 = .ok (.aload_n 0, 1) := by decide +kernel
theorem dX11_init_64 : decode cX11_init 64 = .ok (.bipush 16, 2) := by decide +kernel
theorem dX11_init_66 : decode cX11_init 66 = .ok (.newarray .int, 2) := by decide +kernel
theorem dX11_init_68 : decode cX11_init 68 = .ok (.dup, 1) := by decide +kernel
theorem dX11_init_69 : decode cX11_init 69 = .ok (.iconst 0, 1) := by decide +kernel
theorem dX11_init_70 : decode cX11_init 70 = .ok (.iconst 0, 1) := by decide +kernel
theorem dX11_init_71 : decode cX11_init 71 = .ok (.iastore, 1) := by decide +kernel
theorem dX11_init_72 : decode cX11_init 72 = .ok (.dup, 1) := by decide +kernel
theorem dX11_init_73 : decode cX11_init 73 = .ok (.iconst 1, 1) := by decide +kernel
theorem dX11_init_74 : decode cX11_init 74 = .ok (.iconst 0, 1) := by decide +kernel
theorem dX11_init_75 : decode cX11_init 75 = .ok (.iastore, 1) := by decide +kernel
theorem dX11_init_76 : decode cX11_init 76 = .ok (.dup, 1) := by decide +kernel
theorem dX11_init_77 : decode cX11_init 77 = .ok (.iconst 2, 1) := by decide +kernel
theorem dX11_init_78 : decode cX11_init 78 = .ok (.iconst 0, 1) := by decide +kernel
theorem dX11_init_79 : decode cX11_init 79 = .ok (.iastore, 1) := by decide +kernel
theorem dX11_init_80 : decode cX11_init 80 = .ok (.dup, 1) := by decide +kernel
theorem dX11_init_81 : decode cX11_init 81 = .ok (.iconst 3, 1) := by decide +kernel
theorem dX11_init_82 : decode cX11_init 82 = .ok (.iconst 0, 1) := by decide +kernel
theorem dX11_init_83 : decode cX11_init 83 = .ok (.iastore, 1) := by decide +kernel
theorem dX11_init_84 : decode cX11_init 84 = .ok (.dup, 1) := by decide +kernel
theorem dX11_init_85 : decode cX11_init 85 = .ok (.iconst 4, 1) := by decide +kernel
theorem dX11_init_86 : decode cX11_init 86 = .ok (.iconst 0, 1) := by decide +kernel
theorem dX11_init_87 : decode cX11_init 87 = .ok (.iastore, 1) := by decide +kernel
theorem dX11_init_88 : decode cX11_init 88 = .ok (.dup, 1) := by decide +kernel
theorem dX11_init_89 : decode cX11_init 89 = .ok (.iconst 5, 1) := by decide +kernel
theorem dX11_init_90 : decode cX11_init 90 = .ok (.iconst 0, 1) := by decide +kernel
theorem dX11_init_91 : decode cX11_init 91 = .ok (.iastore, 1) := by decide +kernel
theorem dX11_init_92 : decode cX11_init 92 = .ok (.dup, 1) := by decide +kernel
theorem dX11_init_93 : decode cX11_init 93 = .ok (.bipush 6, 2) := by decide +kernel
theorem dX11_init_95 : decode cX11_init 95 = .ok (.iconst 0, 1) := by decide +kernel
theorem dX11_init_96 : decode cX11_init 96 = .ok (.iastore, 1) := by decide +kernel
theorem dX11_init_97 : decode cX11_init 97 = .ok (.dup, 1) := by decide +kernel
theorem dX11_init_98 : decode cX11_init 98 = .ok (.bipush 7, 2) := by decide +kernel
theorem dX11_init_100 : decode cX11_init 100 = .ok (.iconst 0, 1) := by decide +kernel
theorem dX11_init_101 : decode cX11_init 101 = .ok (.iastore, 1) := by decide +kernel
theorem dX11_init_102 : decode cX11_init 102 = .ok (.dup, 1) := by decide +kernel
theorem dX11_init_103 : decode cX11_init 103 = .ok (.bipush 8, 2) := by decide +kernel
theorem dX11_init_105 : decode cX11_init 105 = .ok (.iconst 0, 1) := by decide +kernel
theorem dX11_init_106 : decode cX11_init 106 = .ok (.iastore, 1) := by decide +kernel
theorem dX11_init_107 : decode cX11_init 107 = .ok (.dup, 1) := by decide +kernel
theorem dX11_init_108 : decode cX11_init 108 = .ok (.bipush 9, 2) := by decide +kernel
theorem dX11_init_110 : decode cX11_init 110 = .ok (.bipush 50, 2) := by decide +kernel
theorem dX11_init_112 : decode cX11_init 112 = .ok (.iastore, 1) := by decide +kernel
theorem dX11_init_113 : decode cX11_init 113 = .ok (.dup, 1) := by decide +kernel
theorem dX11_init_114 : decode cX11_init 114 = .ok (.bipush 10, 2) := by decide +kernel
theorem dX11_init_116 : decode cX11_init 116 = .ok (.iconst 0, 1) := by decide +kernel
theorem dX11_init_117 : decode cX11_init 117 = .ok (.iastore, 1) := by decide +kernel
theorem dX11_init_118 : decode cX11_init 118 = .ok (.dup, 1) := by decide +kernel
theorem dX11_init_119 : decode cX11_init 119 = .ok (.bipush 11, 2) := by decide +kernel
theorem dX11_init_121 : decode cX11_init 121 = .ok (.iconst 0, 1) := by decide +kernel
theorem dX11_init_122 : decode cX11_init 122 = .ok (.iastore, 1) := by decide +kernel
theorem dX11_init_123 : decode cX11_init 123 = .ok (.dup, 1) := by decide +kernel
theorem dX11_init_124 : decode cX11_init 124 = .ok (.bipush 12, 2) := by decide +kernel
theorem dX11_init_126 : decode cX11_init 126 = .ok (.iconst 0, 1) := by decide +kernel
theorem dX11_init_127 : decode cX11_init 127 = .ok (.iastore, 1) := by decide +kernel
theorem dX11_init_128 : decode cX11_init 128 = .ok (.dup, 1) := by decide +kernel
theorem dX11_init_129 : decode cX11_init 129 = .ok (.bipush 13, 2) := by decide +kernel
theorem dX11_init_131 : decode cX11_init 131 = .ok (.iconst 0, 1) := by decide +kernel
theorem dX11_init_132 : decode cX11_init 132 = .ok (.iastore, 1) := by decide +kernel
theorem dX11_init_133 : decode cX11_init 133 = .ok (.dup, 1) := by decide +kernel
theorem dX11_init_134 : decode cX11_init 134 = .ok (.bipush 14, 2) := by decide +kernel
theorem dX11_init_136 : decode cX11_init 136 = .ok (.iconst 0, 1) := by decide +kernel
theorem dX11_init_137 : decode cX11_init 137 = .ok (.iastore, 1) := by decide +kernel
theorem dX11_init_138 : decode cX11_init 138 = .ok (.dup, 1) := by decide +kernel
theorem dX11_init_139 : decode cX11_init 139 = .ok (.bipush 15, 2) := by decide +kernel
theorem dX11_init_141 : decode cX11_init 141 = .ok (.iconst 0, 1) := by decide +kernel
theorem dX11_init_142 : decode cX11_init 142 = .ok (.iastore, 1) := by decide +kernel
theorem dX11_init_143 : decode cX11_init 143 = .ok (.putfield 29, 3) := by decide +kernel
theorem dX11_init_146 : decode cX11_init 146 = .ok (.aload_n 0, 1) := by decide +kernel
theorem dX11_init_147 : decode cX11_init 147 = .ok (.bipush 16, 2) := by decide +kernel
theorem dX11_init_149 : decode cX11_init 149 = .ok (.newarray .int, 2) := by decide +kernel
theorem dX11_init_151 : decode cX11_init 151 = .ok (.putfield 32, 3) := by decide +kernel
theorem dX11_init_154 : decode cX11_init 154 = .ok (.aload_n 0, 1) := by decide +kernel
theorem dX11_init_155 : decode cX11_init 155 = .ok (.bipush 80, 2) := by decide +kernel
theorem dX11_init_157 : decode cX11_init 157 = .ok (.newarray .int, 2) := by decide +kernel
theorem dX11_init_159 : decode cX11_init 159 = .ok (.putfield 35, 3) := by decide +kernel
theorem dX11_init_162 : decode cX11_init 162 = .ok (.aload_n 0, 1) := by decide +kernel
theorem dX11_init_163 : decode cX11_init 163 = .ok (.bipush 16, 2) := by decide +kernel
theorem dX11_init_165 : decode cX11_init 165 = .ok (.newarray .int, 2) := by decide +kernel
theorem dX11_init_167 : decode cX11_init 167 = .ok (.putfield 38, 3) := by decide +kernel
theorem dX11_init_170 : decode cX11_init 170 = .ok (.aload_n 0, 1) := by decide +kernel
theorem dX11_init_171 : decode cX11_init 171 = .ok (.bipush 80, 2) := by decide +kernel
theorem dX11_init_173 : decode cX11_init 173 = .ok (.newarray .int, 2) := by decide +kernel
theorem dX11_init_175 : decode cX11_init 175 = .ok (.putfield 41, 3) := by decide +kernel
theorem dX11_init_178 : decode cX11_init 178 = .ok (.aload_n 0, 1) := by decide +kernel
theorem dX11_init_179 : decode cX11_init 179 = .ok (.bipush 80, 2) := by decide +kernel
theorem dX11_init_181 : decode cX11_init 181 = .ok (.newarray .int, 2) := by decide +kernel
theorem dX11_init_183 : decode cX11_init 183 = .ok (.putfield 44, 3) := by decide +kernel
theorem dX11_init_186 : decode cX11_init 186 = .ok (.aload_n 0, 1) := by decide +kernel
theorem dX11_init_187 : decode cX11_init 187 = .ok (.bipush 80, 2) := by decide +kernel
theorem dX11_init_189 : decode cX11_init 189 = .ok (.newarray .int, 2) := by decide +kernel
theorem dX11_init_191 : decode cX11_init 191 = .ok (.putfield 47, 3) := by decide +kernel
theorem dX11_init_194 : decode cX11_init 194 = .ok (.aload_n 0, 1) := by decide +kernel
theorem dX11_init_195 : decode cX11_init 195 = .ok (.bipush 7, 2) := by decide +kernel
theorem dX11_init_197 : decode cX11_init 197 = .ok (.newarray .int, 2) := by decide +kernel
theorem dX11_init_199 : decode cX11_init 199 = .ok (.putfield 50, 3) := by decide +kernel
theorem dX11_init_202 : decode cX11_init 202 = .ok (.aload_n 0, 1) := by decide +kernel
theorem dX11_init_203 : decode cX11_init 203 = .ok (.sipush 256, 3) := by decide +kernel
theorem dX11_init_206 : decode cX11_init 206 = .ok (.newarray .int, 2) := by decide +kernel
theorem dX11_init_208 : decode cX11_init 208 = .ok (.putfield 53, 3) := by decide +kernel
theorem dX11_init_211 : decode cX11_init 211 = .ok (.aload_n 0, 1) := by decide +kernel
theorem dX11_init_212 : decode cX11_init 212 = .ok (.bipush 60, 2) := by decide +kernel
theorem dX11_init_214 : decode cX11_init 214 = .ok (.newarray .int, 2) := by decide +kernel
theorem dX11_init_216 : decode cX11_init 216 = .ok (.putfield 56, 3) := by decide +kernel
theorem dX11_init_219 : decode cX11_init 219 = .ok (.aload_n 0, 1) := by decide +kernel
theorem dX11_init_220 : decode cX11_init 220 = .ok (.bipush 60, 2) := by decide +kernel
theorem dX11_init_222 : decode cX11_init 222 = .ok (.newarray .int, 2) := by decide +kernel
theorem dX11_init_224 : decode cX11_init 224 = .ok (.putfield 59, 3) := by decide +kernel
theorem dX11_init_227 : decode cX11_init 227 = .ok (.aload_n 0, 1) := by decide +kernel
theorem dX11_init_228 : decode cX11_init 228 = .ok (.bipush 60, 2) := by decide +kernel
theorem dX11_init_230 : decode cX11_init 230 = .ok (.newarray .int, 2) := by decide +kernel
theorem dX11_init_232 : decode cX11_init 232 = .ok (.putfield 62, 3) := by decide +kernel
theorem dX11_init_235 : decode cX11_init 235 = .ok (.aload_n 0, 1) := by decide +kernel
theorem dX11_init_236 : decode cX11_init 236 = .ok (.iconst 4, 1) := by decide +kernel
theorem dX11_init_237 : decode cX11_init 237 = .ok (.newarray .int, 2) := by decide +kernel
theorem dX11_init_239 : decode cX11_init 239 = .ok (.putfield 65, 3) := by decide +kernel
theorem dX11_init_242 : decode cX11_init 242 = .ok (.aload_n 0, 1) := by decide +kernel
theorem dX11_init_243 : decode cX11_init 243 = .ok (.iconst 4, 1) := by decide +kernel
theorem dX11_init_244 : decode cX11_init 244 = .ok (.newarray .int, 2) := by decide +kernel
theorem dX11_init_246 : decode cX11_init 246 = .ok (.putfield 68, 3) := by decide +kernel
theorem dX11_init_249 : decode cX11_init 249 = .ok (.aload_n 0, 1) := by decide +kernel
theorem dX11_init_250 : decode cX11_init 250 = .ok (.bipush 16, 2) := by decide +kernel
theorem dX11_init_252 : decode cX11_init 252 = .ok (.newarray .int, 2) := by decide +kernel
theorem dX11_init_254 : decode cX11_init 254 = .ok (.putfield 71, 3) := by decide +kernel
theorem dX11_init_257 : decode cX11_init 257 = .ok (.aload_n 0, 1) := by decide +kernel
theorem dX11_init_258 : decode cX11_init 258 = .ok (.bipush 80, 2) := by decide +kernel
theorem dX11_init_260 : decode cX11_init 260 = .ok (.newarray .int, 2) := by decide +kernel
theorem dX11_init_262 : decode cX11_init 262 = .ok (.putfield 74, 3) := by decide +kernel
theorem dX11_init_265 : decode cX11_init 265 = .ok (.aload_n 0, 1) := by decide +kernel
theorem dX11_init_266 : decode cX11_init 266 = .ok (.bipush 12, 2) := by decide +kernel
theorem dX11_init_268 : decode cX11_init 268 = .ok (.newarray .int, 2) := by decide +kernel
theorem dX11_init_270 : decode cX11_init 270 = .ok (.putfield 77, 3) := by decide +kernel
theorem dX11_init_273 : decode cX11_init 273 = .ok (.aload_n 0, 1) := by decide +kernel
theorem dX11_init_274 : decode cX11_init 274 = .ok (.bipush 12, 2) := by decide +kernel
theorem dX11_init_276 : decode cX11_init 276 = .ok (.newarray .int, 2) := by decide +kernel
theorem dX11_init_278 : decode cX11_init 278 = .ok (.putfield 80, 3) := by decide +kernel
theorem dX11_init_281 : decode cX11_init 281 = .ok (.aload_n 0, 1) := by decide +kernel
theorem dX11_init_282 : decode cX11_init 282 = .ok (.bipush 12, 2) := by decide +kernel
theorem dX11_init_284 : decode cX11_init 284 = .ok (.newarray .int, 2) := by decide +kernel
theorem dX11_init_286 : decode cX11_init 286 = .ok (.putfield 83, 3) := by decide +kernel
theorem dX11_init_289 : decode cX11_init 289 = .ok (.aload_n 0, 1) := by decide +kernel
theorem dX11_init_290 : decode cX11_init 290 = .ok (.bipush 48, 2) := by decide +kernel
theorem dX11_init_292 : decode cX11_init 292 = .ok (.newarray .int, 2) := by decide +kernel
theorem dX11_init_294 : decode cX11_init 294 = .ok (.putfield 86, 3) := by decide +kernel
theorem dX11_init_297 : decode cX11_init 297 = .ok (.aload_n 0, 1) := by decide +kernel
theorem dX11_init_298 : decode cX11_init 298 = .ok (.bipush 48, 2) := by decide +kernel
theorem dX11_init_300 : decode cX11_init 300 = .ok (.newarray .boolean, 2) := by decide +kernel
theorem dX11_init_302 : decode cX11_init 302 = .ok (.putfield 89, 3) := by decide +kernel
theorem dX11_init_305 : decode cX11_init 305 = .ok (.aload_n 0, 1) := by decide +kernel
theorem dX11_init_306 : decode cX11_init 306 = .ok (.iconst 3, 1) := by decide +kernel
theorem dX11_init_307 : decode cX11_init 307 = .ok (.newarray .boolean, 2) := by decide +kernel
theorem dX11_init_309 : decode cX11_init 309 = .ok (.putfield 93, 3) := by decide +kernel
theorem dX11_init_312 : decode cX11_init 312 = .ok (.aload_n 0, 1) := by decide +kernel
theorem dX11_init_313 : decode cX11_init 313 = .ok (.iconst 3, 1) := by decide +kernel
theorem dX11_init_314 : decode cX11_init 314 = .ok (.newarray .int, 2) := by decide +kernel
theorem dX11_init_316 : decode cX11_init 316 = .ok (.putfield 96, 3) := by decide +kernel
theorem dX11_init_319 : decode cX11_init 319 = .ok (.aload_n 0, 1) := by decide +kernel
theorem dX11_init_320 : decode cX11_init 320 = .ok (.bipush 48, 2) := by decide +kernel
theorem dX11_init_322 : decode cX11_init 322 = .ok (.newarray .int, 2) := by decide +kernel
theorem dX11_init_324 : decode cX11_init 324 = .ok (.putfield 99, 3) := by decide +kernel
theorem dX11_init_327 : decode cX11_init 327 = .ok (.return_, 1) := by decide +kernel
theorem dX11_thrown_0 : decode cX11_thrown 0 = .ok (.aload_n 0, 1) := by decide +kernel
theorem dX11_thrown_1 : decode cX11_thrown 1 = .ok (.getfield 102, 3) := by decide +kernel
theorem dX11_thrown_4 : decode cX11_thrown 4 = .ok (.ireturn, 1) := by decide +kernel
theorem dX11_refuse_0 : decode cX11_refuse 0 = .ok (.aload_n 0, 1) := by decide +kernel
theorem dX11_refuse_1 : decode cX11_refuse 1 = .ok (.iconst 1, 1) := by decide +kernel
theorem dX11_refuse_2 : decode cX11_refuse 2 = .ok (.putfield 102, 3) := by decide +kernel
theorem dX11_refuse_5 : decode cX11_refuse 5 = .ok (.iconst 0, 1) := by decide +kernel
theorem dX11_refuse_6 : decode cX11_refuse 6 = .ok (.ireturn, 1) := by decide +kernel
theorem dX11_in_0 : decode cX11_in 0 = .ok (.lload_n 0, 1) := by decide +kernel
theorem dX11_in_1 : decode cX11_in 1 = .ok (.lload_n 2, 1) := by decide +kernel
theorem dX11_in_2 : decode cX11_in 2 = .ok (.lcmp, 1) := by decide +kernel
theorem dX11_in_3 : decode cX11_in 3 = .ok (.ifCond .lt 14, 3) := by decide +kernel
theorem dX11_in_6 : decode cX11_in 6 = .ok (.lload_n 0, 1) := by decide +kernel
theorem dX11_in_7 : decode cX11_in 7 = .ok (.lload 4, 2) := by decide +kernel
theorem dX11_in_9 : decode cX11_in 9 = .ok (.lcmp, 1) := by decide +kernel
theorem dX11_in_10 : decode cX11_in 10 = .ok (.ifCond .gt 7, 3) := by decide +kernel
theorem dX11_in_13 : decode cX11_in 13 = .ok (.iconst 1, 1) := by decide +kernel
theorem dX11_in_14 : decode cX11_in 14 = .ok (.goto 4, 3) := by decide +kernel
theorem dX11_in_17 : decode cX11_in 17 = .ok (.iconst 0, 1) := by decide +kernel
theorem dX11_in_18 : decode cX11_in 18 = .ok (.ireturn, 1) := by decide +kernel
theorem dX11_has_0 : decode cX11_has 0 = .ok (.iload_n 0, 1) := by decide +kernel
theorem dX11_has_1 : decode cX11_has 1 = .ok (.iload_n 1, 1) := by decide +kernel
theorem dX11_has_2 : decode cX11_has 2 = .ok (.ishr, 1) := by decide +kernel
theorem dX11_has_3 : decode cX11_has 3 = .ok (.iconst 1, 1) := by decide +kernel
theorem dX11_has_4 : decode cX11_has 4 = .ok (.iand, 1) := by decide +kernel
theorem dX11_has_5 : decode cX11_has 5 = .ok (.iconst 1, 1) := by decide +kernel
theorem dX11_has_6 : decode cX11_has 6 = .ok (.if_icmp .ne 7, 3) := by decide +kernel
theorem dX11_has_9 : decode cX11_has 9 = .ok (.iconst 1, 1) := by decide +kernel
theorem dX11_has_10 : decode cX11_has 10 = .ok (.goto 4, 3) := by decide +kernel
theorem dX11_has_13 : decode cX11_has 13 = .ok (.iconst 0, 1) := by decide +kernel
theorem dX11_has_14 : decode cX11_has 14 = .ok (.ireturn, 1) := by decide +kernel
theorem dX11_flag_0 : decode cX11_flag 0 = .ok (.iload_n 0, 1) := by decide +kernel
theorem dX11_flag_1 : decode cX11_flag 1 = .ok (.ifCond .eq 7, 3) := by decide +kernel
theorem dX11_flag_4 : decode cX11_flag 4 = .ok (.iconst 1, 1) := by decide +kernel
theorem dX11_flag_5 : decode cX11_flag 5 = .ok (.goto 4, 3) := by decide +kernel
theorem dX11_flag_8 : decode cX11_flag 8 = .ok (.iconst 0, 1) := by decide +kernel
theorem dX11_flag_9 : decode cX11_flag 9 = .ok (.ireturn, 1) := by decide +kernel
theorem dX11_common_0 : decode cX11_common 0 = .ok (.lload_n 2, 1) := by decide +kernel
theorem dX11_common_1 : decode cX11_common 1 = .ok (.lconst 0, 1) := by decide +kernel
theorem dX11_common_2 : decode cX11_common 2 = .ok (.lcmp, 1) := by decide +kernel
theorem dX11_common_3 : decode cX11_common 3 = .ok (.ifCond .ne 7, 3) := by decide +kernel
theorem dX11_common_6 : decode cX11_common 6 = .ok (.lload_n 0, 1) := by decide +kernel
theorem dX11_common_7 : decode cX11_common 7 = .ok (.goto 10, 3) := by decide +kernel
theorem dX11_common_10 : decode cX11_common 10 = .ok (.lload_n 2, 1) := by decide +kernel
theorem dX11_common_11 : decode cX11_common 11 = .ok (.lload_n 0, 1) := by decide +kernel
theorem dX11_common_12 : decode cX11_common 12 = .ok (.lload_n 2, 1) := by decide +kernel
theorem dX11_common_13 : decode cX11_common 13 = .ok (.lrem, 1) := by decide +kernel
theorem dX11_common_14 : decode cX11_common 14 = .ok (.invokestatic 106, 3) := by decide +kernel
theorem dX11_common_17 : decode cX11_common 17 = .ok (.lreturn, 1) := by decide +kernel
theorem dX11_enters_0 : decode cX11_enters 0 = .ok (.aload_n 0, 1) := by decide +kernel
theorem dX11_enters_1 : decode cX11_enters 1 = .ok (.getfield 9, 3) := by decide +kernel
theorem dX11_enters_4 : decode cX11_enters 4 = .ok (.aload_n 0, 1) := by decide +kernel
theorem dX11_enters_5 : decode cX11_enters 5 = .ok (.getfield 110, 3) := by decide +kernel
theorem dX11_enters_8 : decode cX11_enters 8 = .ok (.lload_n 1, 1) := by decide +kernel
theorem dX11_enters_9 : decode cX11_enters 9 = .ok (.lastore, 1) := by decide +kernel
theorem dX11_enters_10 : decode cX11_enters 10 = .ok (.aload_n 0, 1) := by decide +kernel
theorem dX11_enters_11 : decode cX11_enters 11 = .ok (.dup, 1) := by decide +kernel
theorem dX11_enters_12 : decode cX11_enters 12 = .ok (.getfield 110, 3) := by decide +kernel
theorem dX11_enters_15 : decode cX11_enters 15 = .ok (.iconst 1, 1) := by decide +kernel
theorem dX11_enters_16 : decode cX11_enters 16 = .ok (.iadd, 1) := by decide +kernel
theorem dX11_enters_17 : decode cX11_enters 17 = .ok (.putfield 110, 3) := by decide +kernel
theorem dX11_enters_20 : decode cX11_enters 20 = .ok (.return_, 1) := by decide +kernel
theorem dX11_isRinger_0 : decode cX11_isRinger 0 = .ok (.iload_n 1, 1) := by decide +kernel
theorem dX11_isRinger_1 : decode cX11_isRinger 1 = .ok (.i2l, 1) := by decide +kernel
theorem dX11_isRinger_2 : decode cX11_isRinger 2 = .ok (.lconst 0, 1) := by decide +kernel
theorem dX11_isRinger_3 : decode cX11_isRinger 3 = .ok (.aload_n 0, 1) := by decide +kernel
theorem dX11_isRinger_4 : decode cX11_isRinger 4 = .ok (.getfield 113, 3) := by decide +kernel
theorem dX11_isRinger_7 : decode cX11_isRinger 7 = .ok (.iconst 1, 1) := by decide +kernel
theorem dX11_isRinger_8 : decode cX11_isRinger 8 = .ok (.isub, 1) := by decide +kernel
theorem dX11_isRinger_9 : decode cX11_isRinger 9 = .ok (.i2l, 1) := by decide +kernel
theorem dX11_isRinger_10 : decode cX11_isRinger 10 = .ok (.invokestatic 116, 3) := by decide +kernel
theorem dX11_isRinger_13 : decode cX11_isRinger 13 = .ok (.ireturn, 1) := by decide +kernel
theorem dX11_sign_0 : decode cX11_sign 0 = .ok (.aload_n 0, 1) := by decide +kernel
theorem dX11_sign_1 : decode cX11_sign 1 = .ok (.iconst 0, 1) := by decide +kernel
theorem dX11_sign_2 : decode cX11_sign 2 = .ok (.putfield 102, 3) := by decide +kernel
theorem dX11_sign_5 : decode cX11_sign 5 = .ok (.aload_n 0, 1) := by decide +kernel
theorem dX11_sign_6 : decode cX11_sign 6 = .ok (.getfield 120, 3) := by decide +kernel
theorem dX11_sign_9 : decode cX11_sign 9 = .ok (.bipush 76, 2) := by decide +kernel
theorem dX11_sign_11 : decode cX11_sign 11 = .ok (.if_icmp .le 5, 3) := by decide +kernel
theorem dX11_sign_14 : decode cX11_sign 14 = .ok (.iconst (-1), 1) := by decide +kernel
theorem dX11_sign_15 : decode cX11_sign 15 = .ok (.ireturn, 1) := by decide +kernel
theorem dX11_sign_16 : decode cX11_sign 16 = .ok (.iconst 0, 1) := by decide +kernel
theorem dX11_sign_17 : decode cX11_sign 17 = .ok (.istore_n 2, 1) := by decide +kernel
theorem dX11_sign_18 : decode cX11_sign 18 = .ok (.iload_n 2, 1) := by decide +kernel
theorem dX11_sign_19 : decode cX11_sign 19 = .ok (.iconst 4, 1) := by decide +kernel
theorem dX11_sign_20 : decode cX11_sign 20 = .ok (.if_icmp .ge 33, 3) := by decide +kernel
theorem dX11_sign_23 : decode cX11_sign 23 = .ok (.aload_n 0, 1) := by decide +kernel
theorem dX11_sign_24 : decode cX11_sign 24 = .ok (.getfield 35, 3) := by decide +kernel
theorem dX11_sign_27 : decode cX11_sign 27 = .ok (.aload_n 0, 1) := by decide +kernel
theorem dX11_sign_28 : decode cX11_sign 28 = .ok (.getfield 120, 3) := by decide +kernel
theorem dX11_sign_31 : decode cX11_sign 31 = .ok (.iload_n 2, 1) := by decide +kernel
theorem dX11_sign_32 : decode cX11_sign 32 = .ok (.iadd, 1) := by decide +kernel
theorem dX11_sign_33 : decode cX11_sign 33 = .ok (.iload_n 1, 1) := by decide +kernel
theorem dX11_sign_34 : decode cX11_sign 34 = .ok (.bipush 24, 2) := by decide +kernel
theorem dX11_sign_36 : decode cX11_sign 36 = .ok (.bipush 8, 2) := by decide +kernel
theorem dX11_sign_38 : decode cX11_sign 38 = .ok (.iload_n 2, 1) := by decide +kernel
theorem dX11_sign_39 : decode cX11_sign 39 = .ok (.imul, 1) := by decide +kernel
theorem dX11_sign_40 : decode cX11_sign 40 = .ok (.isub, 1) := by decide +kernel
theorem dX11_sign_41 : decode cX11_sign 41 = .ok (.ishr, 1) := by decide +kernel
theorem dX11_sign_42 : decode cX11_sign 42 = .ok (.sipush 255, 3) := by decide +kernel
theorem dX11_sign_45 : decode cX11_sign 45 = .ok (.iand, 1) := by decide +kernel
theorem dX11_sign_46 : decode cX11_sign 46 = .ok (.iastore, 1) := by decide +kernel
theorem dX11_sign_47 : decode cX11_sign 47 = .ok (.iinc 2 1, 3) := by decide +kernel
theorem dX11_sign_50 : decode cX11_sign 50 = .ok (.goto (-32), 3) := by decide +kernel
theorem dX11_sign_53 : decode cX11_sign 53 = .ok (.aload_n 0, 1) := by decide +kernel
theorem dX11_sign_54 : decode cX11_sign 54 = .ok (.dup, 1) := by decide +kernel
theorem dX11_sign_55 : decode cX11_sign 55 = .ok (.getfield 120, 3) := by decide +kernel
theorem dX11_sign_58 : decode cX11_sign 58 = .ok (.iconst 4, 1) := by decide +kernel
theorem dX11_sign_59 : decode cX11_sign 59 = .ok (.iadd, 1) := by decide +kernel
theorem dX11_sign_60 : decode cX11_sign 60 = .ok (.putfield 120, 3) := by decide +kernel
theorem dX11_sign_63 : decode cX11_sign 63 = .ok (.aload_n 0, 1) := by decide +kernel
theorem dX11_sign_64 : decode cX11_sign 64 = .ok (.getfield 120, 3) := by decide +kernel
theorem dX11_sign_67 : decode cX11_sign 67 = .ok (.ireturn, 1) := by decide +kernel
theorem dX11_end_0 : decode cX11_end 0 = .ok (.aload_n 0, 1) := by decide +kernel
theorem dX11_end_1 : decode cX11_end 1 = .ok (.iconst 0, 1) := by decide +kernel
theorem dX11_end_2 : decode cX11_end 2 = .ok (.putfield 102, 3) := by decide +kernel
theorem dX11_end_5 : decode cX11_end 5 = .ok (.iload_n 1, 1) := by decide +kernel
theorem dX11_end_6 : decode cX11_end 6 = .ok (.i2l, 1) := by decide +kernel
theorem dX11_end_7 : decode cX11_end 7 = .ok (.lconst 0, 1) := by decide +kernel
theorem dX11_end_8 : decode cX11_end 8 = .ok (.aload_n 0, 1) := by decide +kernel
theorem dX11_end_9 : decode cX11_end 9 = .ok (.getfield 120, 3) := by decide +kernel
theorem dX11_end_12 : decode cX11_end 12 = .ok (.i2l, 1) := by decide +kernel
theorem dX11_end_13 : decode cX11_end 13 = .ok (.invokestatic 116, 3) := by decide +kernel
theorem dX11_end_16 : decode cX11_end 16 = .ok (.ifCond .ne 5, 3) := by decide +kernel
theorem dX11_end_19 : decode cX11_end 19 = .ok (.iconst 0, 1) := by decide +kernel
theorem dX11_end_20 : decode cX11_end 20 = .ok (.ireturn, 1) := by decide +kernel
theorem dX11_end_21 : decode cX11_end 21 = .ok (.aload_n 0, 1) := by decide +kernel
theorem dX11_end_22 : decode cX11_end 22 = .ok (.iload_n 1, 1) := by decide +kernel
theorem dX11_end_23 : decode cX11_end 23 = .ok (.putfield 120, 3) := by decide +kernel
theorem dX11_end_26 : decode cX11_end 26 = .ok (.iconst 1, 1) := by decide +kernel
theorem dX11_end_27 : decode cX11_end 27 = .ok (.ireturn, 1) := by decide +kernel
theorem dX11_begins_0 : decode cX11_begins 0 = .ok (.aload_n 0, 1) := by decide +kernel
theorem dX11_begins_1 : decode cX11_begins 1 = .ok (.getfield 120, 3) := by decide +kernel
theorem dX11_begins_4 : decode cX11_begins 4 = .ok (.istore_n 2, 1) := by decide +kernel
theorem dX11_begins_5 : decode cX11_begins 5 = .ok (.aload_n 0, 1) := by decide +kernel
theorem dX11_begins_6 : decode cX11_begins 6 = .ok (.iconst 0, 1) := by decide +kernel
theorem dX11_begins_7 : decode cX11_begins 7 = .ok (.putfield 120, 3) := by decide +kernel
theorem dX11_begins_10 : decode cX11_begins 10 = .ok (.aload_n 0, 1) := by decide +kernel
theorem dX11_begins_11 : decode cX11_begins 11 = .ok (.iconst 0, 1) := by decide +kernel
theorem dX11_begins_12 : decode cX11_begins 12 = .ok (.putfield 123, 3) := by decide +kernel
theorem dX11_begins_15 : decode cX11_begins 15 = .ok (.aload_n 0, 1) := by decide +kernel
theorem dX11_begins_16 : decode cX11_begins 16 = .ok (.iconst 0, 1) := by decide +kernel
theorem dX11_begins_17 : decode cX11_begins 17 = .ok (.putfield 126, 3) := by decide +kernel
theorem dX11_begins_20 : decode cX11_begins 20 = .ok (.aload_n 0, 1) := by decide +kernel
theorem dX11_begins_21 : decode cX11_begins 21 = .ok (.iload_n 2, 1) := by decide +kernel
theorem dX11_begins_22 : decode cX11_begins 22 = .ok (.iload_n 1, 1) := by decide +kernel
theorem dX11_begins_23 : decode cX11_begins 23 = .ok (.invokestatic 129, 3) := by decide +kernel
theorem dX11_begins_26 : decode cX11_begins 26 = .ok (.putfield 135, 3) := by decide +kernel
theorem dX11_begins_29 : decode cX11_begins 29 = .ok (.iload_n 2, 1) := by decide +kernel
theorem dX11_begins_30 : decode cX11_begins 30 = .ok (.ireturn, 1) := by decide +kernel
theorem dX11_isNext_0 : decode cX11_isNext 0 = .ok (.aload_n 0, 1) := by decide +kernel
theorem dX11_isNext_1 : decode cX11_isNext 1 = .ok (.getfield 123, 3) := by decide +kernel
theorem dX11_isNext_4 : decode cX11_isNext 4 = .ok (.aload_n 0, 1) := by decide +kernel
theorem dX11_isNext_5 : decode cX11_isNext 5 = .ok (.getfield 135, 3) := by decide +kernel
theorem dX11_isNext_8 : decode cX11_isNext 8 = .ok (.if_icmp .ge 20, 3) := by decide +kernel
theorem dX11_isNext_11 : decode cX11_isNext 11 = .ok (.aload_n 0, 1) := by decide +kernel
theorem dX11_isNext_12 : decode cX11_isNext 12 = .ok (.getfield 35, 3) := by decide +kernel
theorem dX11_isNext_15 : decode cX11_isNext 15 = .ok (.aload_n 0, 1) := by decide +kernel
theorem dX11_isNext_16 : decode cX11_isNext 16 = .ok (.getfield 123, 3) := by decide +kernel
theorem dX11_isNext_19 : decode cX11_isNext 19 = .ok (.iaload, 1) := by decide +kernel
theorem dX11_isNext_20 : decode cX11_isNext 20 = .ok (.iload_n 1, 1) := by decide +kernel
theorem dX11_isNext_21 : decode cX11_isNext 21 = .ok (.if_icmp .ne 7, 3) := by decide +kernel
theorem dX11_isNext_24 : decode cX11_isNext 24 = .ok (.iconst 1, 1) := by decide +kernel
theorem dX11_isNext_25 : decode cX11_isNext 25 = .ok (.goto 4, 3) := by decide +kernel
theorem dX11_isNext_28 : decode cX11_isNext 28 = .ok (.iconst 0, 1) := by decide +kernel
theorem dX11_isNext_29 : decode cX11_isNext 29 = .ok (.istore_n 2, 1) := by decide +kernel
theorem dX11_isNext_30 : decode cX11_isNext 30 = .ok (.aload_n 0, 1) := by decide +kernel
theorem dX11_isNext_31 : decode cX11_isNext 31 = .ok (.dup, 1) := by decide +kernel
theorem dX11_isNext_32 : decode cX11_isNext 32 = .ok (.getfield 123, 3) := by decide +kernel
theorem dX11_isNext_35 : decode cX11_isNext 35 = .ok (.iload_n 2, 1) := by decide +kernel
theorem dX11_isNext_36 : decode cX11_isNext 36 = .ok (.invokestatic 138, 3) := by decide +kernel
theorem dX11_isNext_39 : decode cX11_isNext 39 = .ok (.iadd, 1) := by decide +kernel
theorem dX11_isNext_40 : decode cX11_isNext 40 = .ok (.putfield 123, 3) := by decide +kernel
theorem dX11_isNext_43 : decode cX11_isNext 43 = .ok (.iload_n 2, 1) := by decide +kernel
theorem dX11_isNext_44 : decode cX11_isNext 44 = .ok (.ireturn, 1) := by decide +kernel
theorem dX11_isDigit_0 : decode cX11_isDigit 0 = .ok (.aload_n 0, 1) := by decide +kernel
theorem dX11_isDigit_1 : decode cX11_isDigit 1 = .ok (.getfield 123, 3) := by decide +kernel
theorem dX11_isDigit_4 : decode cX11_isDigit 4 = .ok (.aload_n 0, 1) := by decide +kernel
theorem dX11_isDigit_5 : decode cX11_isDigit 5 = .ok (.getfield 135, 3) := by decide +kernel
theorem dX11_isDigit_8 : decode cX11_isDigit 8 = .ok (.if_icmp .ge 29, 3) := by decide +kernel
theorem dX11_isDigit_11 : decode cX11_isDigit 11 = .ok (.aload_n 0, 1) := by decide +kernel
theorem dX11_isDigit_12 : decode cX11_isDigit 12 = .ok (.getfield 35, 3) := by decide +kernel
theorem dX11_isDigit_15 : decode cX11_isDigit 15 = .ok (.aload_n 0, 1) := by decide +kernel
theorem dX11_isDigit_16 : decode cX11_isDigit 16 = .ok (.getfield 123, 3) := by decide +kernel
theorem dX11_isDigit_19 : decode cX11_isDigit 19 = .ok (.iaload, 1) := by decide +kernel
theorem dX11_isDigit_20 : decode cX11_isDigit 20 = .ok (.i2l, 1) := by decide +kernel
theorem dX11_isDigit_21 : decode cX11_isDigit 21 = .ok (.ldc2_w 142, 3) := by decide +kernel
theorem dX11_isDigit_24 : decode cX11_isDigit 24 = .ok (.ldc2_w 144, 3) := by decide +kernel
theorem dX11_isDigit_27 : decode cX11_isDigit 27 = .ok (.invokestatic 116, 3) := by decide +kernel
theorem dX11_isDigit_30 : decode cX11_isDigit 30 = .ok (.ifCond .eq 7, 3) := by decide +kernel
theorem dX11_isDigit_33 : decode cX11_isDigit 33 = .ok (.iconst 1, 1) := by decide +kernel
theorem dX11_isDigit_34 : decode cX11_isDigit 34 = .ok (.goto 4, 3) := by decide +kernel
theorem dX11_isDigit_37 : decode cX11_isDigit 37 = .ok (.iconst 0, 1) := by decide +kernel
theorem dX11_isDigit_38 : decode cX11_isDigit 38 = .ok (.ireturn, 1) := by decide +kernel
theorem dX11_among_0 : decode cX11_among 0 = .ok (.iconst 0, 1) := by decide +kernel
theorem dX11_among_1 : decode cX11_among 1 = .ok (.istore_n 2, 1) := by decide +kernel
theorem dX11_among_2 : decode cX11_among 2 = .ok (.iload_n 2, 1) := by decide +kernel
theorem dX11_among_3 : decode cX11_among 3 = .ok (.aload_n 1, 1) := by decide +kernel
theorem dX11_among_4 : decode cX11_among 4 = .ok (.invokevirtual 146, 3) := by decide +kernel
theorem dX11_among_7 : decode cX11_among 7 = .ok (.if_icmp .ge 39, 3) := by decide +kernel
theorem dX11_among_10 : decode cX11_among 10 = .ok (.aload_n 0, 1) := by decide +kernel
theorem dX11_among_11 : decode cX11_among 11 = .ok (.getfield 123, 3) := by decide +kernel
theorem dX11_among_14 : decode cX11_among 14 = .ok (.aload_n 0, 1) := by decide +kernel
theorem dX11_among_15 : decode cX11_among 15 = .ok (.getfield 135, 3) := by decide +kernel
theorem dX11_among_18 : decode cX11_among 18 = .ok (.if_icmp .ge 28, 3) := by decide +kernel
theorem dX11_among_21 : decode cX11_among 21 = .ok (.aload_n 1, 1) := by decide +kernel
theorem dX11_among_22 : decode cX11_among 22 = .ok (.iload_n 2, 1) := by decide +kernel
theorem dX11_among_23 : decode cX11_among 23 = .ok (.invokevirtual 152, 3) := by decide +kernel
theorem dX11_among_26 : decode cX11_among 26 = .ok (.aload_n 0, 1) := by decide +kernel
theorem dX11_among_27 : decode cX11_among 27 = .ok (.getfield 35, 3) := by decide +kernel
theorem dX11_among_30 : decode cX11_among 30 = .ok (.aload_n 0, 1) := by decide +kernel
theorem dX11_among_31 : decode cX11_among 31 = .ok (.getfield 123, 3) := by decide +kernel
theorem dX11_among_34 : decode cX11_among 34 = .ok (.iaload, 1) := by decide +kernel
theorem dX11_among_35 : decode cX11_among 35 = .ok (.if_icmp .ne 5, 3) := by decide +kernel
theorem dX11_among_38 : decode cX11_among 38 = .ok (.iload_n 2, 1) := by decide +kernel
theorem dX11_among_39 : decode cX11_among 39 = .ok (.ireturn, 1) := by decide +kernel
theorem dX11_among_40 : decode cX11_among 40 = .ok (.iinc 2 1, 3) := by decide +kernel
theorem dX11_among_43 : decode cX11_among 43 = .ok (.goto (-41), 3) := by decide +kernel
theorem dX11_among_46 : decode cX11_among 46 = .ok (.iconst (-1), 1) := by decide +kernel
theorem dX11_among_47 : decode cX11_among 47 = .ok (.ireturn, 1) := by decide +kernel
theorem dX11_takesOf_0 : decode cX11_takesOf 0 = .ok (.aload_n 0, 1) := by decide +kernel
theorem dX11_takesOf_1 : decode cX11_takesOf 1 = .ok (.aload_n 1, 1) := by decide +kernel
theorem dX11_takesOf_2 : decode cX11_takesOf 2 = .ok (.invokevirtual 156, 3) := by decide +kernel
theorem dX11_takesOf_5 : decode cX11_takesOf 5 = .ok (.istore_n 2, 1) := by decide +kernel
theorem dX11_takesOf_6 : decode cX11_takesOf 6 = .ok (.aload_n 0, 1) := by decide +kernel
theorem dX11_takesOf_7 : decode cX11_takesOf 7 = .ok (.dup, 1) := by decide +kernel
theorem dX11_takesOf_8 : decode cX11_takesOf 8 = .ok (.getfield 123, 3) := by decide +kernel
theorem dX11_takesOf_11 : decode cX11_takesOf 11 = .ok (.iload_n 2, 1) := by decide +kernel
theorem dX11_takesOf_12 : decode cX11_takesOf 12 = .ok (.ifCond .lt 7, 3) := by decide +kernel
theorem dX11_takesOf_15 : decode cX11_takesOf 15 = .ok (.iconst 1, 1) := by decide +kernel
theorem dX11_takesOf_16 : decode cX11_takesOf 16 = .ok (.goto 4, 3) := by decide +kernel
theorem dX11_takesOf_19 : decode cX11_takesOf 19 = .ok (.iconst 0, 1) := by decide +kernel
theorem dX11_takesOf_20 : decode cX11_takesOf 20 = .ok (.invokestatic 138, 3) := by decide +kernel
theorem dX11_takesOf_23 : decode cX11_takesOf 23 = .ok (.iadd, 1) := by decide +kernel
theorem dX11_takesOf_24 : decode cX11_takesOf 24 = .ok (.putfield 123, 3) := by decide +kernel
theorem dX11_takesOf_27 : decode cX11_takesOf 27 = .ok (.iload_n 2, 1) := by decide +kernel
theorem dX11_takesOf_28 : decode cX11_takesOf 28 = .ok (.ireturn, 1) := by decide +kernel
theorem dX11_number_0 : decode cX11_number 0 = .ok (.aload_n 0, 1) := by decide +kernel
theorem dX11_number_1 : decode cX11_number 1 = .ok (.invokevirtual 160, 3) := by decide +kernel
theorem dX11_number_4 : decode cX11_number 4 = .ok (.ifCond .ne 5, 3) := by decide +kernel
theorem dX11_number_7 : decode cX11_number 7 = .ok (.iconst (-1), 1) := by decide +kernel
theorem dX11_number_8 : decode cX11_number 8 = .ok (.ireturn, 1) := by decide +kernel
theorem dX11_number_9 : decode cX11_number 9 = .ok (.iconst 0, 1) := by decide +kernel
theorem dX11_number_10 : decode cX11_number 10 = .ok (.istore_n 2, 1) := by decide +kernel
theorem dX11_number_11 : decode cX11_number 11 = .ok (.iconst 0, 1) := by decide +kernel
theorem dX11_number_12 : decode cX11_number 12 = .ok (.istore_n 3, 1) := by decide +kernel
theorem dX11_number_13 : decode cX11_number 13 = .ok (.iload_n 3, 1) := by decide +kernel
theorem dX11_number_14 : decode cX11_number 14 = .ok (.iload_n 1, 1) := by decide +kernel
theorem dX11_number_15 : decode cX11_number 15 = .ok (.if_icmp .ge 44, 3) := by decide +kernel
theorem dX11_number_18 : decode cX11_number 18 = .ok (.aload_n 0, 1) := by decide +kernel
theorem dX11_number_19 : decode cX11_number 19 = .ok (.invokevirtual 160, 3) := by decide +kernel
theorem dX11_number_22 : decode cX11_number 22 = .ok (.ifCond .eq 37, 3) := by decide +kernel
theorem dX11_number_25 : decode cX11_number 25 = .ok (.bipush 10, 2) := by decide +kernel
theorem dX11_number_27 : decode cX11_number 27 = .ok (.iload_n 2, 1) := by decide +kernel
theorem dX11_number_28 : decode cX11_number 28 = .ok (.imul, 1) := by decide +kernel
theorem dX11_number_29 : decode cX11_number 29 = .ok (.aload_n 0, 1) := by decide +kernel
theorem dX11_number_30 : decode cX11_number 30 = .ok (.getfield 35, 3) := by decide +kernel
theorem dX11_number_33 : decode cX11_number 33 = .ok (.aload_n 0, 1) := by decide +kernel
theorem dX11_number_34 : decode cX11_number 34 = .ok (.getfield 123, 3) := by decide +kernel
theorem dX11_number_37 : decode cX11_number 37 = .ok (.iaload, 1) := by decide +kernel
theorem dX11_number_38 : decode cX11_number 38 = .ok (.iadd, 1) := by decide +kernel
theorem dX11_number_39 : decode cX11_number 39 = .ok (.bipush 48, 2) := by decide +kernel
theorem dX11_number_41 : decode cX11_number 41 = .ok (.isub, 1) := by decide +kernel
theorem dX11_number_42 : decode cX11_number 42 = .ok (.istore_n 2, 1) := by decide +kernel
theorem dX11_number_43 : decode cX11_number 43 = .ok (.aload_n 0, 1) := by decide +kernel
theorem dX11_number_44 : decode cX11_number 44 = .ok (.dup, 1) := by decide +kernel
theorem dX11_number_45 : decode cX11_number 45 = .ok (.getfield 123, 3) := by decide +kernel
theorem dX11_number_48 : decode cX11_number 48 = .ok (.iconst 1, 1) := by decide +kernel
theorem dX11_number_49 : decode cX11_number 49 = .ok (.iadd, 1) := by decide +kernel
theorem dX11_number_50 : decode cX11_number 50 = .ok (.putfield 123, 3) := by decide +kernel
theorem dX11_number_53 : decode cX11_number 53 = .ok (.iinc 3 1, 3) := by decide +kernel
theorem dX11_number_56 : decode cX11_number 56 = .ok (.goto (-43), 3) := by decide +kernel
theorem dX11_number_59 : decode cX11_number 59 = .ok (.iload_n 2, 1) := by decide +kernel
theorem dX11_number_60 : decode cX11_number 60 = .ok (.ireturn, 1) := by decide +kernel
theorem dX11_faultOf_0 : decode cX11_faultOf 0 = .ok (.iload_n 3, 1) := by decide +kernel
theorem dX11_faultOf_1 : decode cX11_faultOf 1 = .ok (.ifCond .eq 18, 3) := by decide +kernel
theorem dX11_faultOf_4 : decode cX11_faultOf 4 = .ok (.aload_n 0, 1) := by decide +kernel
theorem dX11_faultOf_5 : decode cX11_faultOf 5 = .ok (.getfield 123, 3) := by decide +kernel
theorem dX11_faultOf_8 : decode cX11_faultOf 8 = .ok (.aload_n 0, 1) := by decide +kernel
theorem dX11_faultOf_9 : decode cX11_faultOf 9 = .ok (.getfield 135, 3) := by decide +kernel
theorem dX11_faultOf_12 : decode cX11_faultOf 12 = .ok (.if_icmp .ne 7, 3) := by decide +kernel
theorem dX11_faultOf_15 : decode cX11_faultOf 15 = .ok (.iconst 1, 1) := by decide +kernel
theorem dX11_faultOf_16 : decode cX11_faultOf 16 = .ok (.goto 4, 3) := by decide +kernel
theorem dX11_faultOf_19 : decode cX11_faultOf 19 = .ok (.iconst 0, 1) := by decide +kernel
theorem dX11_faultOf_20 : decode cX11_faultOf 20 = .ok (.istore 4, 2) := by decide +kernel
theorem dX11_faultOf_22 : decode cX11_faultOf 22 = .ok (.iload_n 1, 1) := by decide +kernel
theorem dX11_faultOf_23 : decode cX11_faultOf 23 = .ok (.iload_n 2, 1) := by decide +kernel
theorem dX11_faultOf_24 : decode cX11_faultOf 24 = .ok (.if_icmp .le 20, 3) := by decide +kernel
theorem dX11_faultOf_27 : decode cX11_faultOf 27 = .ok (.iload 4, 2) := by decide +kernel
theorem dX11_faultOf_29 : decode cX11_faultOf 29 = .ok (.ifCond .ne 11, 3) := by decide +kernel
theorem dX11_faultOf_32 : decode cX11_faultOf 32 = .ok (.aload_n 0, 1) := by decide +kernel
theorem dX11_faultOf_33 : decode cX11_faultOf 33 = .ok (.getfield 123, 3) := by decide +kernel
theorem dX11_faultOf_36 : decode cX11_faultOf 36 = .ok (.iload_n 2, 1) := by decide +kernel
theorem dX11_faultOf_37 : decode cX11_faultOf 37 = .ok (.if_icmp .lt 7, 3) := by decide +kernel
theorem dX11_faultOf_40 : decode cX11_faultOf 40 = .ok (.iconst (-1), 1) := by decide +kernel
theorem dX11_faultOf_41 : decode cX11_faultOf 41 = .ok (.iload_n 2, 1) := by decide +kernel
theorem dX11_faultOf_42 : decode cX11_faultOf 42 = .ok (.isub, 1) := by decide +kernel
theorem dX11_faultOf_43 : decode cX11_faultOf 43 = .ok (.ireturn, 1) := by decide +kernel
theorem dX11_faultOf_44 : decode cX11_faultOf 44 = .ok (.iload 4, 2) := by decide +kernel
theorem dX11_faultOf_46 : decode cX11_faultOf 46 = .ok (.ifCond .eq 7, 3) := by decide +kernel
theorem dX11_faultOf_49 : decode cX11_faultOf 49 = .ok (.iconst 0, 1) := by decide +kernel
theorem dX11_faultOf_50 : decode cX11_faultOf 50 = .ok (.goto 9, 3) := by decide +kernel
theorem dX11_faultOf_53 : decode cX11_faultOf 53 = .ok (.iconst (-1), 1) := by decide +kernel
theorem dX11_faultOf_54 : decode cX11_faultOf 54 = .ok (.aload_n 0, 1) := by decide +kernel
theorem dX11_faultOf_55 : decode cX11_faultOf 55 = .ok (.getfield 123, 3) := by decide +kernel
theorem dX11_faultOf_58 : decode cX11_faultOf 58 = .ok (.isub, 1) := by decide +kernel
theorem dX11_faultOf_59 : decode cX11_faultOf 59 = .ok (.ireturn, 1) := by decide +kernel
theorem dX11_readsPair_0 : decode cX11_readsPair 0 = .ok (.iload_n 1, 1) := by decide +kernel
theorem dX11_readsPair_1 : decode cX11_readsPair 1 = .ok (.aload_n 0, 1) := by decide +kernel
theorem dX11_readsPair_2 : decode cX11_readsPair 2 = .ok (.getfield 164, 3) := by decide +kernel
theorem dX11_readsPair_5 : decode cX11_readsPair 5 = .ok (.iadd, 1) := by decide +kernel
theorem dX11_readsPair_6 : decode cX11_readsPair 6 = .ok (.bipush 8, 2) := by decide +kernel
theorem dX11_readsPair_8 : decode cX11_readsPair 8 = .ok (.if_icmp .ne 5, 3) := by decide +kernel
theorem dX11_readsPair_11 : decode cX11_readsPair 11 = .ok (.iconst 0, 1) := by decide +kernel
theorem dX11_readsPair_12 : decode cX11_readsPair 12 = .ok (.ireturn, 1) := by decide +kernel
theorem dX11_readsPair_13 : decode cX11_readsPair 13 = .ok (.aload_n 0, 1) := by decide +kernel
theorem dX11_readsPair_14 : decode cX11_readsPair 14 = .ok (.getfield 38, 3) := by decide +kernel
theorem dX11_readsPair_17 : decode cX11_readsPair 17 = .ok (.iconst 2, 1) := by decide +kernel
theorem dX11_readsPair_18 : decode cX11_readsPair 18 = .ok (.aload_n 0, 1) := by decide +kernel
theorem dX11_readsPair_19 : decode cX11_readsPair 19 = .ok (.getfield 164, 3) := by decide +kernel
theorem dX11_readsPair_22 : decode cX11_readsPair 22 = .ok (.imul, 1) := by decide +kernel
theorem dX11_readsPair_23 : decode cX11_readsPair 23 = .ok (.iconst 1, 1) := by decide +kernel
theorem dX11_readsPair_24 : decode cX11_readsPair 24 = .ok (.aload_n 0, 1) := by decide +kernel
theorem dX11_readsPair_25 : decode cX11_readsPair 25 = .ok (.ldc 167, 2) := by decide +kernel
theorem dX11_readsPair_27 : decode cX11_readsPair 27 = .ok (.invokevirtual 169, 3) := by decide +kernel
theorem dX11_readsPair_30 : decode cX11_readsPair 30 = .ok (.iadd, 1) := by decide +kernel
theorem dX11_readsPair_31 : decode cX11_readsPair 31 = .ok (.iastore, 1) := by decide +kernel
theorem dX11_readsPair_32 : decode cX11_readsPair 32 = .ok (.aload_n 0, 1) := by decide +kernel
theorem dX11_readsPair_33 : decode cX11_readsPair 33 = .ok (.getfield 38, 3) := by decide +kernel
theorem dX11_readsPair_36 : decode cX11_readsPair 36 = .ok (.iconst 2, 1) := by decide +kernel
theorem dX11_readsPair_37 : decode cX11_readsPair 37 = .ok (.aload_n 0, 1) := by decide +kernel
theorem dX11_readsPair_38 : decode cX11_readsPair 38 = .ok (.getfield 164, 3) := by decide +kernel
theorem dX11_readsPair_41 : decode cX11_readsPair 41 = .ok (.imul, 1) := by decide +kernel
theorem dX11_readsPair_42 : decode cX11_readsPair 42 = .ok (.iconst 1, 1) := by decide +kernel
theorem dX11_readsPair_43 : decode cX11_readsPair 43 = .ok (.iadd, 1) := by decide +kernel
theorem dX11_readsPair_44 : decode cX11_readsPair 44 = .ok (.aload_n 0, 1) := by decide +kernel
theorem dX11_readsPair_45 : decode cX11_readsPair 45 = .ok (.getfield 38, 3) := by decide +kernel
theorem dX11_readsPair_48 : decode cX11_readsPair 48 = .ok (.iconst 2, 1) := by decide +kernel
theorem dX11_readsPair_49 : decode cX11_readsPair 49 = .ok (.aload_n 0, 1) := by decide +kernel
theorem dX11_readsPair_50 : decode cX11_readsPair 50 = .ok (.getfield 164, 3) := by decide +kernel
theorem dX11_readsPair_53 : decode cX11_readsPair 53 = .ok (.imul, 1) := by decide +kernel
theorem dX11_readsPair_54 : decode cX11_readsPair 54 = .ok (.iaload, 1) := by decide +kernel
theorem dX11_readsPair_55 : decode cX11_readsPair 55 = .ok (.ifCond .ne 7, 3) := by decide +kernel
theorem dX11_readsPair_58 : decode cX11_readsPair 58 = .ok (.iconst (-1), 1) := by decide +kernel
theorem dX11_readsPair_59 : decode cX11_readsPair 59 = .ok (.goto 8, 3) := by decide +kernel
theorem dX11_readsPair_62 : decode cX11_readsPair 62 = .ok (.aload_n 0, 1) := by decide +kernel
theorem dX11_readsPair_63 : decode cX11_readsPair 63 = .ok (.iconst 1, 1) := by decide +kernel
theorem dX11_readsPair_64 : decode cX11_readsPair 64 = .ok (.invokevirtual 172, 3) := by decide +kernel
theorem dX11_readsPair_67 : decode cX11_readsPair 67 = .ok (.iastore, 1) := by decide +kernel
theorem dX11_readsPair_68 : decode cX11_readsPair 68 = .ok (.aload_n 0, 1) := by decide +kernel
theorem dX11_readsPair_69 : decode cX11_readsPair 69 = .ok (.dup, 1) := by decide +kernel
theorem dX11_readsPair_70 : decode cX11_readsPair 70 = .ok (.getfield 164, 3) := by decide +kernel
theorem dX11_readsPair_73 : decode cX11_readsPair 73 = .ok (.iconst 1, 1) := by decide +kernel
theorem dX11_readsPair_74 : decode cX11_readsPair 74 = .ok (.iadd, 1) := by decide +kernel
theorem dX11_readsPair_75 : decode cX11_readsPair 75 = .ok (.putfield 164, 3) := by decide +kernel
theorem dX11_readsPair_78 : decode cX11_readsPair 78 = .ok (.aload_n 0, 1) := by decide +kernel
theorem dX11_readsPair_79 : decode cX11_readsPair 79 = .ok (.getfield 38, 3) := by decide +kernel
theorem dX11_readsPair_82 : decode cX11_readsPair 82 = .ok (.iconst 2, 1) := by decide +kernel
theorem dX11_readsPair_83 : decode cX11_readsPair 83 = .ok (.aload_n 0, 1) := by decide +kernel
theorem dX11_readsPair_84 : decode cX11_readsPair 84 = .ok (.getfield 164, 3) := by decide +kernel
theorem dX11_readsPair_87 : decode cX11_readsPair 87 = .ok (.imul, 1) := by decide +kernel
theorem dX11_readsPair_88 : decode cX11_readsPair 88 = .ok (.iconst 1, 1) := by decide +kernel
theorem dX11_readsPair_89 : decode cX11_readsPair 89 = .ok (.isub, 1) := by decide +kernel
theorem dX11_readsPair_90 : decode cX11_readsPair 90 = .ok (.iaload, 1) := by decide +kernel
theorem dX11_readsPair_91 : decode cX11_readsPair 91 = .ok (.ifCond .lt 7, 3) := by decide +kernel
theorem dX11_readsPair_94 : decode cX11_readsPair 94 = .ok (.iconst 1, 1) := by decide +kernel
theorem dX11_readsPair_95 : decode cX11_readsPair 95 = .ok (.goto 4, 3) := by decide +kernel
theorem dX11_readsPair_98 : decode cX11_readsPair 98 = .ok (.iconst 0, 1) := by decide +kernel
theorem dX11_readsPair_99 : decode cX11_readsPair 99 = .ok (.ireturn, 1) := by decide +kernel
theorem dX11_readsPairs_0 : decode cX11_readsPairs 0 = .ok (.aload_n 0, 1) := by decide +kernel
theorem dX11_readsPairs_1 : decode cX11_readsPairs 1 = .ok (.bipush 23, 2) := by decide +kernel
theorem dX11_readsPairs_3 : decode cX11_readsPairs 3 = .ok (.invokevirtual 176, 3) := by decide +kernel
theorem dX11_readsPairs_6 : decode cX11_readsPairs 6 = .ok (.istore_n 2, 1) := by decide +kernel
theorem dX11_readsPairs_7 : decode cX11_readsPairs 7 = .ok (.aload_n 0, 1) := by decide +kernel
theorem dX11_readsPairs_8 : decode cX11_readsPairs 8 = .ok (.iconst 0, 1) := by decide +kernel
theorem dX11_readsPairs_9 : decode cX11_readsPairs 9 = .ok (.putfield 164, 3) := by decide +kernel
theorem dX11_readsPairs_12 : decode cX11_readsPairs 12 = .ok (.iconst 1, 1) := by decide +kernel
theorem dX11_readsPairs_13 : decode cX11_readsPairs 13 = .ok (.istore_n 3, 1) := by decide +kernel
theorem dX11_readsPairs_14 : decode cX11_readsPairs 14 = .ok (.iload_n 2, 1) := by decide +kernel
theorem dX11_readsPairs_15 : decode cX11_readsPairs 15 = .ok (.ifCond .le 7, 3) := by decide +kernel
theorem dX11_readsPairs_18 : decode cX11_readsPairs 18 = .ok (.iconst 1, 1) := by decide +kernel
theorem dX11_readsPairs_19 : decode cX11_readsPairs 19 = .ok (.goto 4, 3) := by decide +kernel
theorem dX11_readsPairs_22 : decode cX11_readsPairs 22 = .ok (.iconst 0, 1) := by decide +kernel
theorem dX11_readsPairs_23 : decode cX11_readsPairs 23 = .ok (.istore 4, 2) := by decide +kernel
theorem dX11_readsPairs_25 : decode cX11_readsPairs 25 = .ok (.iload 4, 2) := by decide +kernel
theorem dX11_readsPairs_27 : decode cX11_readsPairs 27 = .ok (.ifCond .eq 32, 3) := by decide +kernel
theorem dX11_readsPairs_30 : decode cX11_readsPairs 30 = .ok (.aload_n 0, 1) := by decide +kernel
theorem dX11_readsPairs_31 : decode cX11_readsPairs 31 = .ok (.iload_n 1, 1) := by decide +kernel
theorem dX11_readsPairs_32 : decode cX11_readsPairs 32 = .ok (.invokevirtual 179, 3) := by decide +kernel
theorem dX11_readsPairs_35 : decode cX11_readsPairs 35 = .ok (.istore_n 3, 1) := by decide +kernel
theorem dX11_readsPairs_36 : decode cX11_readsPairs 36 = .ok (.iload_n 3, 1) := by decide +kernel
theorem dX11_readsPairs_37 : decode cX11_readsPairs 37 = .ok (.ifCond .eq 16, 3) := by decide +kernel
theorem dX11_readsPairs_40 : decode cX11_readsPairs 40 = .ok (.aload_n 0, 1) := by decide +kernel
theorem dX11_readsPairs_41 : decode cX11_readsPairs 41 = .ok (.bipush 59, 2) := by decide +kernel
theorem dX11_readsPairs_43 : decode cX11_readsPairs 43 = .ok (.invokevirtual 183, 3) := by decide +kernel
theorem dX11_readsPairs_46 : decode cX11_readsPairs 46 = .ok (.ifCond .eq 7, 3) := by decide +kernel
theorem dX11_readsPairs_49 : decode cX11_readsPairs 49 = .ok (.iconst 1, 1) := by decide +kernel
theorem dX11_readsPairs_50 : decode cX11_readsPairs 50 = .ok (.goto 4, 3) := by decide +kernel
theorem dX11_readsPairs_53 : decode cX11_readsPairs 53 = .ok (.iconst 0, 1) := by decide +kernel
theorem dX11_readsPairs_54 : decode cX11_readsPairs 54 = .ok (.istore 4, 2) := by decide +kernel
theorem dX11_readsPairs_56 : decode cX11_readsPairs 56 = .ok (.goto (-31), 3) := by decide +kernel
theorem dX11_readsPairs_59 : decode cX11_readsPairs 59 = .ok (.aload_n 0, 1) := by decide +kernel
theorem dX11_readsPairs_60 : decode cX11_readsPairs 60 = .ok (.iload_n 2, 1) := by decide +kernel
theorem dX11_readsPairs_61 : decode cX11_readsPairs 61 = .ok (.bipush 23, 2) := by decide +kernel
theorem dX11_readsPairs_63 : decode cX11_readsPairs 63 = .ok (.iload_n 3, 1) := by decide +kernel
theorem dX11_readsPairs_64 : decode cX11_readsPairs 64 = .ok (.invokevirtual 186, 3) := by decide +kernel
theorem dX11_readsPairs_67 : decode cX11_readsPairs 67 = .ok (.ireturn, 1) := by decide +kernel
theorem dX11_came_0 : decode cX11_came 0 = .ok (.aload_n 0, 1) := by decide +kernel
theorem dX11_came_1 : decode cX11_came 1 = .ok (.getfield 164, 3) := by decide +kernel
theorem dX11_came_4 : decode cX11_came 4 = .ok (.ifCond .le 18, 3) := by decide +kernel
theorem dX11_came_7 : decode cX11_came 7 = .ok (.aload_n 0, 1) := by decide +kernel
theorem dX11_came_8 : decode cX11_came 8 = .ok (.iconst 0, 1) := by decide +kernel
theorem dX11_came_9 : decode cX11_came 9 = .ok (.putfield 190, 3) := by decide +kernel
theorem dX11_came_12 : decode cX11_came 12 = .ok (.aload_n 0, 1) := by decide +kernel
theorem dX11_came_13 : decode cX11_came 13 = .ok (.dup, 1) := by decide +kernel
theorem dX11_came_14 : decode cX11_came 14 = .ok (.getfield 193, 3) := by decide +kernel
theorem dX11_came_17 : decode cX11_came 17 = .ok (.iconst 1, 1) := by decide +kernel
theorem dX11_came_18 : decode cX11_came 18 = .ok (.iadd, 1) := by decide +kernel
theorem dX11_came_19 : decode cX11_came 19 = .ok (.putfield 193, 3) := by decide +kernel
theorem dX11_came_22 : decode cX11_came 22 = .ok (.aload_n 0, 1) := by decide +kernel
theorem dX11_came_23 : decode cX11_came 23 = .ok (.getfield 164, 3) := by decide +kernel
theorem dX11_came_26 : decode cX11_came 26 = .ok (.ireturn, 1) := by decide +kernel
theorem dX11_ringers_0 : decode cX11_ringers 0 = .ok (.aload_n 0, 1) := by decide +kernel
theorem dX11_ringers_1 : decode cX11_ringers 1 = .ok (.iconst 0, 1) := by decide +kernel
theorem dX11_ringers_2 : decode cX11_ringers 2 = .ok (.putfield 102, 3) := by decide +kernel
theorem dX11_ringers_5 : decode cX11_ringers 5 = .ok (.aload_n 0, 1) := by decide +kernel
theorem dX11_ringers_6 : decode cX11_ringers 6 = .ok (.aload_n 0, 1) := by decide +kernel
theorem dX11_ringers_7 : decode cX11_ringers 7 = .ok (.getfield 113, 3) := by decide +kernel
theorem dX11_ringers_10 : decode cX11_ringers 10 = .ok (.invokevirtual 196, 3) := by decide +kernel
theorem dX11_ringers_13 : decode cX11_ringers 13 = .ok (.istore_n 1, 1) := by decide +kernel
theorem dX11_ringers_14 : decode cX11_ringers 14 = .ok (.iload_n 1, 1) := by decide +kernel
theorem dX11_ringers_15 : decode cX11_ringers 15 = .ok (.ifCond .ge 5, 3) := by decide +kernel
theorem dX11_ringers_18 : decode cX11_ringers 18 = .ok (.iload_n 1, 1) := by decide +kernel
theorem dX11_ringers_19 : decode cX11_ringers 19 = .ok (.ireturn, 1) := by decide +kernel
theorem dX11_ringers_20 : decode cX11_ringers 20 = .ok (.iconst 0, 1) := by decide +kernel
theorem dX11_ringers_21 : decode cX11_ringers 21 = .ok (.istore_n 2, 1) := by decide +kernel
theorem dX11_ringers_22 : decode cX11_ringers 22 = .ok (.iload_n 2, 1) := by decide +kernel
theorem dX11_ringers_23 : decode cX11_ringers 23 = .ok (.aload_n 0, 1) := by decide +kernel
theorem dX11_ringers_24 : decode cX11_ringers 24 = .ok (.getfield 164, 3) := by decide +kernel
theorem dX11_ringers_27 : decode cX11_ringers 27 = .ok (.if_icmp .ge 65, 3) := by decide +kernel
theorem dX11_ringers_30 : decode cX11_ringers 30 = .ok (.aload_n 0, 1) := by decide +kernel
theorem dX11_ringers_31 : decode cX11_ringers 31 = .ok (.getfield 13, 3) := by decide +kernel
theorem dX11_ringers_34 : decode cX11_ringers 34 = .ok (.aload_n 0, 1) := by decide +kernel
theorem dX11_ringers_35 : decode cX11_ringers 35 = .ok (.getfield 113, 3) := by decide +kernel
theorem dX11_ringers_38 : decode cX11_ringers 38 = .ok (.aload_n 0, 1) := by decide +kernel
theorem dX11_ringers_39 : decode cX11_ringers 39 = .ok (.getfield 38, 3) := by decide +kernel
theorem dX11_ringers_42 : decode cX11_ringers 42 = .ok (.iconst 2, 1) := by decide +kernel
theorem dX11_ringers_43 : decode cX11_ringers 43 = .ok (.iload_n 2, 1) := by decide +kernel
theorem dX11_ringers_44 : decode cX11_ringers 44 = .ok (.imul, 1) := by decide +kernel
theorem dX11_ringers_45 : decode cX11_ringers 45 = .ok (.iaload, 1) := by decide +kernel
theorem dX11_ringers_46 : decode cX11_ringers 46 = .ok (.iastore, 1) := by decide +kernel
theorem dX11_ringers_47 : decode cX11_ringers 47 = .ok (.aload_n 0, 1) := by decide +kernel
theorem dX11_ringers_48 : decode cX11_ringers 48 = .ok (.getfield 17, 3) := by decide +kernel
theorem dX11_ringers_51 : decode cX11_ringers 51 = .ok (.aload_n 0, 1) := by decide +kernel
theorem dX11_ringers_52 : decode cX11_ringers 52 = .ok (.getfield 113, 3) := by decide +kernel
theorem dX11_ringers_55 : decode cX11_ringers 55 = .ok (.aload_n 0, 1) := by decide +kernel
theorem dX11_ringers_56 : decode cX11_ringers 56 = .ok (.getfield 38, 3) := by decide +kernel
theorem dX11_ringers_59 : decode cX11_ringers 59 = .ok (.iconst 2, 1) := by decide +kernel
theorem dX11_ringers_60 : decode cX11_ringers 60 = .ok (.iload_n 2, 1) := by decide +kernel
theorem dX11_ringers_61 : decode cX11_ringers 61 = .ok (.imul, 1) := by decide +kernel
theorem dX11_ringers_62 : decode cX11_ringers 62 = .ok (.iconst 1, 1) := by decide +kernel
theorem dX11_ringers_63 : decode cX11_ringers 63 = .ok (.iadd, 1) := by decide +kernel
theorem dX11_ringers_64 : decode cX11_ringers 64 = .ok (.iaload, 1) := by decide +kernel
theorem dX11_ringers_65 : decode cX11_ringers 65 = .ok (.iastore, 1) := by decide +kernel
theorem dX11_ringers_66 : decode cX11_ringers 66 = .ok (.aload_n 0, 1) := by decide +kernel
theorem dX11_ringers_67 : decode cX11_ringers 67 = .ok (.getfield 29, 3) := by decide +kernel
theorem dX11_ringers_70 : decode cX11_ringers 70 = .ok (.aload_n 0, 1) := by decide +kernel
theorem dX11_ringers_71 : decode cX11_ringers 71 = .ok (.getfield 113, 3) := by decide +kernel
theorem dX11_ringers_74 : decode cX11_ringers 74 = .ok (.iconst 0, 1) := by decide +kernel
theorem dX11_ringers_75 : decode cX11_ringers 75 = .ok (.iastore, 1) := by decide +kernel
theorem dX11_ringers_76 : decode cX11_ringers 76 = .ok (.aload_n 0, 1) := by decide +kernel
theorem dX11_ringers_77 : decode cX11_ringers 77 = .ok (.dup, 1) := by decide +kernel
theorem dX11_ringers_78 : decode cX11_ringers 78 = .ok (.getfield 113, 3) := by decide +kernel
theorem dX11_ringers_81 : decode cX11_ringers 81 = .ok (.iconst 1, 1) := by decide +kernel
theorem dX11_ringers_82 : decode cX11_ringers 82 = .ok (.iadd, 1) := by decide +kernel
theorem dX11_ringers_83 : decode cX11_ringers 83 = .ok (.putfield 113, 3) := by decide +kernel
theorem dX11_ringers_86 : decode cX11_ringers 86 = .ok (.iinc 2 1, 3) := by decide +kernel
theorem dX11_ringers_89 : decode cX11_ringers 89 = .ok (.goto (-67), 3) := by decide +kernel
theorem dX11_ringers_92 : decode cX11_ringers 92 = .ok (.aload_n 0, 1) := by decide +kernel
theorem dX11_ringers_93 : decode cX11_ringers 93 = .ok (.invokevirtual 199, 3) := by decide +kernel
